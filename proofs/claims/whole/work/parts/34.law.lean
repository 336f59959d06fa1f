def f_L_addReed (K : Nat) (p0_marsh_reeds_states : Nat → Int32) (p0_marsh_reeds_count : Int32) (p0_marsh_reeds_broken : Int32) (p0_marsh_fleet_numbers : Nat → Int32) (p0_marsh_fleet_cells : Nat → Int32) (p0_marsh_fleet_fares : Nat → Int32) (p0_marsh_fleet_count : Int32) (p0_marsh_fleet_nextNumber : Int32) (p0_marsh_fleet_total : Int32) (p0_marsh_fleet_removedFares : Int32) (p0_marsh_fleet_meetings : Int32) (p0_marsh_plans_moves : Nat → Int32) (p0_marsh_plans_lengths : Nat → Int32) (p0_marsh_landings_cells : Nat → Int32) (p0_marsh_landings_count : Int32) (p0_marsh_fogSide : Int32) (p0_history_slots : Nat → mm_MV) (p0_history_free : Int32) (p0_history_count : Int32) (p3 : Nat → Int64) (x1 : Int32) (x2 : Int32) : Option (Int32 × (Nat → Int32) × Int32 × (Nat → mm_MV) × Int32 × Int32 × (Nat → Int64)) := (f_X12_addReed K p0_marsh_reeds_states p0_marsh_reeds_count p0_marsh_reeds_broken p0_marsh_fleet_numbers p0_marsh_fleet_cells p0_marsh_fleet_fares p0_marsh_fleet_count p0_marsh_fleet_nextNumber p0_marsh_fleet_total p0_marsh_fleet_removedFares p0_marsh_fleet_meetings p0_marsh_plans_moves p0_marsh_plans_lengths p0_marsh_landings_cells p0_marsh_landings_count p0_marsh_fogSide p0_history_slots p0_history_free p0_history_count x1 x2).bind fun q5 => if q5.1 = 0 then some (0, q5.2.2.1, q5.2.2.2.1, q5.2.2.2.2.1, q5.2.2.2.2.2.1, q5.2.2.2.2.2.2, (vp_updL p3 0 q5.2.1.toInt64)) else if q5.1 = 1 then some (1, q5.2.2.1, q5.2.2.2.1, q5.2.2.2.2.1, q5.2.2.2.2.2.1, q5.2.2.2.2.2.2, p3) else if q5.1 = 3 then some (2, q5.2.2.1, q5.2.2.2.1, q5.2.2.2.2.1, q5.2.2.2.2.2.1, q5.2.2.2.2.2.2, p3) else none
set_option maxHeartbeats 4000000 in
set_option maxRecDepth 100000 in
theorem c_L_addReed (l : Launch) (hfl : l.stackTraces = false) {G : mm_G} {K : Nat} {w : va_W} {sz : Nat} {b0 : Nat} {a3 : Nat} {p0_marsh_reeds_states : Nat → Int32} {p0_marsh_reeds_count : Int32} {p0_marsh_reeds_broken : Int32} {p0_marsh_fleet_numbers : Nat → Int32} {p0_marsh_fleet_cells : Nat → Int32} {p0_marsh_fleet_fares : Nat → Int32} {p0_marsh_fleet_count : Int32} {p0_marsh_fleet_nextNumber : Int32} {p0_marsh_fleet_total : Int32} {p0_marsh_fleet_removedFares : Int32} {p0_marsh_fleet_meetings : Int32} {p0_marsh_plans_moves : Nat → Int32} {p0_marsh_plans_lengths : Nat → Int32} {p0_marsh_landings_cells : Nat → Int32} {p0_marsh_landings_count : Int32} {p0_marsh_fogSide : Int32} {p0_snapshot_reeds_states : Nat → Int32} {p0_snapshot_reeds_count : Int32} {p0_snapshot_reeds_broken : Int32} {p0_snapshot_fleet_numbers : Nat → Int32} {p0_snapshot_fleet_cells : Nat → Int32} {p0_snapshot_fleet_fares : Nat → Int32} {p0_snapshot_fleet_count : Int32} {p0_snapshot_fleet_nextNumber : Int32} {p0_snapshot_fleet_total : Int32} {p0_snapshot_fleet_removedFares : Int32} {p0_snapshot_fleet_meetings : Int32} {p0_snapshot_plans_moves : Nat → Int32} {p0_snapshot_plans_lengths : Nat → Int32} {p0_snapshot_landings_cells : Nat → Int32} {p0_snapshot_landings_count : Int32} {p0_snapshot_fogSide : Int32} {p0_history_slots : Nat → mm_MV} {p0_history_free : Int32} {p0_history_count : Int32} {p0_ways_tolls : Nat → Int32} {p0_ways_queue : Nat → Int32} {p0_ways_heap : Nat → Int32} {p0_ways_heapSize : Int32} {p0_ways_found : Nat → Int32} {p0_ways_improved : Nat → Int32} {p0_pairing_costs : Nat → Int32} {p0_pairing_best : Nat → Int32} {p0_reader_kinds : Nat → Int32} {p0_reader_starts : Nat → Int32} {p0_reader_count : Int32} {p0_commandText_signs : Nat → Int32} {p0_commandText_length : Int32} {p0_line_signs : Nat → Int32} {p0_line_length : Int32} {p0_spareMoves : Nat → Int32} {p0_snapshotTaken : Int32} {p0_lastErrorPosition : Int32} {p0_lastFailedCommand : Int32} {p3 : Nat → Int64} {x1 : Int32} {x2 : Int32} {X : Int32 × (Nat → Int32) × Int32 × (Nat → mm_MV) × Int32 × Int32 × (Nat → Int64)} (hf : f_L_addReed K p0_marsh_reeds_states p0_marsh_reeds_count p0_marsh_reeds_broken p0_marsh_fleet_numbers p0_marsh_fleet_cells p0_marsh_fleet_fares p0_marsh_fleet_count p0_marsh_fleet_nextNumber p0_marsh_fleet_total p0_marsh_fleet_removedFares p0_marsh_fleet_meetings p0_marsh_plans_moves p0_marsh_plans_lengths p0_marsh_landings_cells p0_marsh_landings_count p0_marsh_fogSide p0_history_slots p0_history_free p0_history_count p3 x1 x2 = some X) (hp_p0 : At12 G w b0 p0_marsh_reeds_states p0_marsh_reeds_count p0_marsh_reeds_broken p0_marsh_fleet_numbers p0_marsh_fleet_cells p0_marsh_fleet_fares p0_marsh_fleet_count p0_marsh_fleet_nextNumber p0_marsh_fleet_total p0_marsh_fleet_removedFares p0_marsh_fleet_meetings p0_marsh_plans_moves p0_marsh_plans_lengths p0_marsh_landings_cells p0_marsh_landings_count p0_marsh_fogSide p0_snapshot_reeds_states p0_snapshot_reeds_count p0_snapshot_reeds_broken p0_snapshot_fleet_numbers p0_snapshot_fleet_cells p0_snapshot_fleet_fares p0_snapshot_fleet_count p0_snapshot_fleet_nextNumber p0_snapshot_fleet_total p0_snapshot_fleet_removedFares p0_snapshot_fleet_meetings p0_snapshot_plans_moves p0_snapshot_plans_lengths p0_snapshot_landings_cells p0_snapshot_landings_count p0_snapshot_fogSide p0_history_slots p0_history_free p0_history_count p0_ways_tolls p0_ways_queue p0_ways_heap p0_ways_heapSize p0_ways_found p0_ways_improved p0_pairing_costs p0_pairing_best p0_reader_kinds p0_reader_starts p0_reader_count p0_commandText_signs p0_commandText_length p0_line_signs p0_line_length p0_spareMoves p0_snapshotTaken p0_lastErrorPosition p0_lastFailedCommand) (hp_p3 : (a3, (.inl (G.2 3, 1, .inr (.inl p3)) : va_E)) ∈ w) (hd0 : b0 + 152 ≤ a3 ∨ a3 + 1 ≤ b0) : Met l yL_addReed (Cond.codeWith yL_addReed cL_addReed 5 (some .int) [(0, 10, 13, 13), (0, 10, 17, 15)] :: gAll) ({ frames := 9, cells := 1, slots := 6, locals := 163 }) (va_Pc [.ref b0, .int x1, .int x2, .ref a3] (mm_Pre G w sz)) (mm_Qi G w sz (fun r w' => r = X.1 ∧ At12 G w' b0 X.2.1 X.2.2.1 p0_marsh_reeds_broken p0_marsh_fleet_numbers p0_marsh_fleet_cells p0_marsh_fleet_fares p0_marsh_fleet_count p0_marsh_fleet_nextNumber p0_marsh_fleet_total p0_marsh_fleet_removedFares p0_marsh_fleet_meetings p0_marsh_plans_moves p0_marsh_plans_lengths p0_marsh_landings_cells p0_marsh_landings_count p0_marsh_fogSide p0_snapshot_reeds_states p0_snapshot_reeds_count p0_snapshot_reeds_broken p0_snapshot_fleet_numbers p0_snapshot_fleet_cells p0_snapshot_fleet_fares p0_snapshot_fleet_count p0_snapshot_fleet_nextNumber p0_snapshot_fleet_total p0_snapshot_fleet_removedFares p0_snapshot_fleet_meetings p0_snapshot_plans_moves p0_snapshot_plans_lengths p0_snapshot_landings_cells p0_snapshot_landings_count p0_snapshot_fogSide X.2.2.2.1 X.2.2.2.2.1 X.2.2.2.2.2.1 p0_ways_tolls p0_ways_queue p0_ways_heap p0_ways_heapSize p0_ways_found p0_ways_improved p0_pairing_costs p0_pairing_best p0_reader_kinds p0_reader_starts p0_reader_count p0_commandText_signs p0_commandText_length p0_line_signs p0_line_length p0_spareMoves p0_snapshotTaken p0_lastErrorPosition p0_lastFailedCommand ∧ (a3, (.inl (G.2 3, 1, .inr (.inl X.2.2.2.2.2.2)) : va_E)) ∈ w' ∧ mm_fr2 w w' b0 (b0 + 152) a3 (a3 + 1))) 1 6 (va_A w sz) := by
  refine mm_hhead hfl [.ref b0, .int x1, .int x2, .ref a3] (by decide +kernel) rfl (Nat.le_of_ble_eq_true rfl) ?_
  intro p e s m args below meth c A Q hsz hC hM hret hxt ls hl
  have hx := hC.1.1
  have hb := hC.1.2.1
  have hl : lv_has ls 5 [(0, .ref b0), (1, .int x1), (2, .int x2), (3, .ref a3)] := hl
  have hF : mm_fr2 w w b0 (b0 + 152) a3 (a3 + 1) := mm_fr2.rf
  rw [f_L_addReed] at hf
  refine lv_aload_n hx hb dL_addReed_0 rfl (lv_at hl 3 rfl) ?_
  refine lv_iconst (v := 0) hx hb dL_addReed_1 (by decide) ?_
  refine lv_aload_n hx hb dL_addReed_2 rfl (lv_at hl 0 rfl) ?_
  refine lv_iload_n hx hb dL_addReed_3 rfl (lv_at hl 1 rfl) ?_
  refine lv_iload_n hx hb dL_addReed_4 rfl (lv_at hl 2 rfl) ?_
  obtain ⟨q5, hq5, hf⟩ := mm_bd hf
  refine mm_xVi (rest := [.int 0, .ref a3]) hC hM (c_X12_addReed l hfl hq5 hp_p0) q3_174 q1_1 ykX12_addReed q3_171 q3_172 q3_173 hp_p0.1 rfl ⟨rfl, rfl⟩ ⟨Nat.le_of_ble_eq_true rfl, Nat.le_of_ble_eq_true rfl⟩ rfl hl.1 rfl (Nat.le_of_ble_eq_true rfl) dL_addReed_5 ⟨Nat.le_of_ble_eq_true rfl, Nat.le_of_ble_eq_true rfl⟩ (fun E ce qE w5 H locs hM hw hqE hv9 hcl9 => ?_) (fun r w5 H locs hM hw => ?_)
  · obtain ⟨hne, hE, hn_this, hfr⟩ := hw
    rw [if_neg hne] at hf
    by_cases hk0 : q5.1 = 1
    · rw [if_pos hk0] at hf
      have hEk : E = mm_ex 1 := by rw [hE, hk0]
      subst hEk
      have hp_p3 := hfr.keep hp_p3 (by omega)
      have hp_p0 := hn_this
      have hF := hF.tr (hfr.l (by omega) (by omega))
      refine vx_catch hC.1.2.2.2.1 [] ⟨0, 10, 13, 13⟩ [⟨0, 10, 17, 15⟩] hxt (fun z hz => absurd hz List.not_mem_nil) rfl (by decide) (hC.1.2.2.2.2 _ q3_90) (va_Nw.use rfl (hC.2.2.1.1.1 _ nw_castable_1)) hqE hv9 hcl9 ?_
      refine lv_astore (lv' := [(4, .ref qE), (0, .ref b0), (1, .int x1), (2, .int x2), (3, .ref a3)]) hx hb dL_addReed_13 hl (by decide) rfl (fun ls hl => ?_)
      refine lv_iconst (v := 1) hx hb dL_addReed_15 (by decide) ?_
      cases hf
      exact hret hM dL_addReed_16 rfl ⟨rfl, hp_p0, hp_p3, hF⟩ (Nat.le_of_ble_eq_true rfl) (Nat.le_of_ble_eq_true rfl)
    rw [if_neg hk0] at hf
    by_cases hk1 : q5.1 = 3
    · rw [if_pos hk1] at hf
      have hEk : E = mm_ex 3 := by rw [hE, hk1]
      subst hEk
      have hp_p3 := hfr.keep hp_p3 (by omega)
      have hp_p0 := hn_this
      have hF := hF.tr (hfr.l (by omega) (by omega))
      refine vx_catch hC.1.2.2.2.1 [⟨0, 10, 13, 13⟩] ⟨0, 10, 17, 15⟩ [] hxt (List.forall_mem_cons.mpr ⟨Or.inr ⟨by decide, _, (hC.1.2.2.2.2 _ q3_90), hC.2.2.1.1.2.2 3 1 (by decide) (by decide) (by decide) (by decide) (by decide)⟩, (fun z hz => absurd hz List.not_mem_nil)⟩) rfl (by decide) (hC.1.2.2.2.2 _ q3_170) (va_Nw.use rfl (hC.2.2.1.1.1 _ nw_castable_3)) hqE hv9 hcl9 ?_
      refine lv_astore (lv' := [(4, .ref qE), (0, .ref b0), (1, .int x1), (2, .int x2), (3, .ref a3)]) hx hb dL_addReed_17 hl (by decide) rfl (fun ls hl => ?_)
      refine lv_iconst (v := 2) hx hb dL_addReed_19 (by decide) ?_
      cases hf
      exact hret hM dL_addReed_20 rfl ⟨rfl, hp_p0, hp_p3, hF⟩ (Nat.le_of_ble_eq_true rfl) (Nat.le_of_ble_eq_true rfl)
    rw [if_neg hk1] at hf
    cases hf
  obtain ⟨h0, hr, hn_this, hfr⟩ := hw
  rw [if_pos h0] at hf
  rw [hr]
  have hp_p3 := hfr.keep hp_p3 (by omega)
  have hp_p0 := hn_this
  have hF := hF.tr (hfr.l (by omega) (by omega))
  refine lv_i2l hx hb dL_addReed_8 rfl ?_
  refine mm_last0 hC hM hp_p3 dL_addReed_9 (fun w9 H locs hM hm => ?_)
  have hp_p0 := hp_p0.up hm (by omega)
  have hp_p3 := hm.1
  have hF := hF.tr (hm.r (by omega) (by omega))
  refine lv_goto (tgt := 21) hx hb dL_addReed_10 (by decide) ?_
  refine lv_iconst (v := 0) hx hb dL_addReed_21 (by decide) ?_
  cases hf
  exact hret hM dL_addReed_22 rfl ⟨rfl, hp_p0, hp_p3, hF⟩ (Nat.le_of_ble_eq_true rfl) (Nat.le_of_ble_eq_true rfl)
def f_L_breakReed (p0_marsh_reeds_states : Nat → Int32) (p0_marsh_reeds_count : Int32) (p0_marsh_reeds_broken : Int32) (p0_marsh_fleet_numbers : Nat → Int32) (p0_marsh_fleet_cells : Nat → Int32) (p0_marsh_fleet_fares : Nat → Int32) (p0_marsh_fleet_count : Int32) (p0_marsh_fleet_nextNumber : Int32) (p0_marsh_fleet_total : Int32) (p0_marsh_fleet_removedFares : Int32) (p0_marsh_fleet_meetings : Int32) (p0_marsh_plans_moves : Nat → Int32) (p0_marsh_plans_lengths : Nat → Int32) (p0_marsh_landings_cells : Nat → Int32) (p0_marsh_landings_count : Int32) (p0_marsh_fogSide : Int32) (p0_history_slots : Nat → mm_MV) (p0_history_free : Int32) (p0_history_count : Int32) (p3 : Nat → Int64) (x1 : Int32) (x2 : Int32) : Option (Int32 × (Nat → Int32) × Int32 × (Nat → mm_MV) × Int32 × Int32 × (Nat → Int64)) := (f_X12_breakReed p0_marsh_reeds_states p0_marsh_reeds_count p0_marsh_reeds_broken p0_marsh_fleet_numbers p0_marsh_fleet_cells p0_marsh_fleet_fares p0_marsh_fleet_count p0_marsh_fleet_nextNumber p0_marsh_fleet_total p0_marsh_fleet_removedFares p0_marsh_fleet_meetings p0_marsh_plans_moves p0_marsh_plans_lengths p0_marsh_landings_cells p0_marsh_landings_count p0_marsh_fogSide p0_history_slots p0_history_free p0_history_count x1 x2).bind fun q5 => if q5.1 = 0 then some (0, q5.2.2.1, q5.2.2.2.1, q5.2.2.2.2.1, q5.2.2.2.2.2.1, q5.2.2.2.2.2.2, (vp_updL p3 0 q5.2.1.toInt64)) else if q5.1 = 1 then some (1, q5.2.2.1, q5.2.2.2.1, q5.2.2.2.2.1, q5.2.2.2.2.2.1, q5.2.2.2.2.2.2, p3) else if q5.1 = 2 then some (2, q5.2.2.1, q5.2.2.2.1, q5.2.2.2.2.1, q5.2.2.2.2.2.1, q5.2.2.2.2.2.2, p3) else if q5.1 = 3 then some (3, q5.2.2.1, q5.2.2.2.1, q5.2.2.2.2.1, q5.2.2.2.2.2.1, q5.2.2.2.2.2.2, p3) else none
set_option maxHeartbeats 4000000 in
set_option maxRecDepth 100000 in
theorem c_L_breakReed (l : Launch) (hfl : l.stackTraces = false) {G : mm_G} {w : va_W} {sz : Nat} {b0 : Nat} {a3 : Nat} {p0_marsh_reeds_states : Nat → Int32} {p0_marsh_reeds_count : Int32} {p0_marsh_reeds_broken : Int32} {p0_marsh_fleet_numbers : Nat → Int32} {p0_marsh_fleet_cells : Nat → Int32} {p0_marsh_fleet_fares : Nat → Int32} {p0_marsh_fleet_count : Int32} {p0_marsh_fleet_nextNumber : Int32} {p0_marsh_fleet_total : Int32} {p0_marsh_fleet_removedFares : Int32} {p0_marsh_fleet_meetings : Int32} {p0_marsh_plans_moves : Nat → Int32} {p0_marsh_plans_lengths : Nat → Int32} {p0_marsh_landings_cells : Nat → Int32} {p0_marsh_landings_count : Int32} {p0_marsh_fogSide : Int32} {p0_snapshot_reeds_states : Nat → Int32} {p0_snapshot_reeds_count : Int32} {p0_snapshot_reeds_broken : Int32} {p0_snapshot_fleet_numbers : Nat → Int32} {p0_snapshot_fleet_cells : Nat → Int32} {p0_snapshot_fleet_fares : Nat → Int32} {p0_snapshot_fleet_count : Int32} {p0_snapshot_fleet_nextNumber : Int32} {p0_snapshot_fleet_total : Int32} {p0_snapshot_fleet_removedFares : Int32} {p0_snapshot_fleet_meetings : Int32} {p0_snapshot_plans_moves : Nat → Int32} {p0_snapshot_plans_lengths : Nat → Int32} {p0_snapshot_landings_cells : Nat → Int32} {p0_snapshot_landings_count : Int32} {p0_snapshot_fogSide : Int32} {p0_history_slots : Nat → mm_MV} {p0_history_free : Int32} {p0_history_count : Int32} {p0_ways_tolls : Nat → Int32} {p0_ways_queue : Nat → Int32} {p0_ways_heap : Nat → Int32} {p0_ways_heapSize : Int32} {p0_ways_found : Nat → Int32} {p0_ways_improved : Nat → Int32} {p0_pairing_costs : Nat → Int32} {p0_pairing_best : Nat → Int32} {p0_reader_kinds : Nat → Int32} {p0_reader_starts : Nat → Int32} {p0_reader_count : Int32} {p0_commandText_signs : Nat → Int32} {p0_commandText_length : Int32} {p0_line_signs : Nat → Int32} {p0_line_length : Int32} {p0_spareMoves : Nat → Int32} {p0_snapshotTaken : Int32} {p0_lastErrorPosition : Int32} {p0_lastFailedCommand : Int32} {p3 : Nat → Int64} {x1 : Int32} {x2 : Int32} {X : Int32 × (Nat → Int32) × Int32 × (Nat → mm_MV) × Int32 × Int32 × (Nat → Int64)} (hf : f_L_breakReed p0_marsh_reeds_states p0_marsh_reeds_count p0_marsh_reeds_broken p0_marsh_fleet_numbers p0_marsh_fleet_cells p0_marsh_fleet_fares p0_marsh_fleet_count p0_marsh_fleet_nextNumber p0_marsh_fleet_total p0_marsh_fleet_removedFares p0_marsh_fleet_meetings p0_marsh_plans_moves p0_marsh_plans_lengths p0_marsh_landings_cells p0_marsh_landings_count p0_marsh_fogSide p0_history_slots p0_history_free p0_history_count p3 x1 x2 = some X) (hp_p0 : At12 G w b0 p0_marsh_reeds_states p0_marsh_reeds_count p0_marsh_reeds_broken p0_marsh_fleet_numbers p0_marsh_fleet_cells p0_marsh_fleet_fares p0_marsh_fleet_count p0_marsh_fleet_nextNumber p0_marsh_fleet_total p0_marsh_fleet_removedFares p0_marsh_fleet_meetings p0_marsh_plans_moves p0_marsh_plans_lengths p0_marsh_landings_cells p0_marsh_landings_count p0_marsh_fogSide p0_snapshot_reeds_states p0_snapshot_reeds_count p0_snapshot_reeds_broken p0_snapshot_fleet_numbers p0_snapshot_fleet_cells p0_snapshot_fleet_fares p0_snapshot_fleet_count p0_snapshot_fleet_nextNumber p0_snapshot_fleet_total p0_snapshot_fleet_removedFares p0_snapshot_fleet_meetings p0_snapshot_plans_moves p0_snapshot_plans_lengths p0_snapshot_landings_cells p0_snapshot_landings_count p0_snapshot_fogSide p0_history_slots p0_history_free p0_history_count p0_ways_tolls p0_ways_queue p0_ways_heap p0_ways_heapSize p0_ways_found p0_ways_improved p0_pairing_costs p0_pairing_best p0_reader_kinds p0_reader_starts p0_reader_count p0_commandText_signs p0_commandText_length p0_line_signs p0_line_length p0_spareMoves p0_snapshotTaken p0_lastErrorPosition p0_lastFailedCommand) (hp_p3 : (a3, (.inl (G.2 3, 1, .inr (.inl p3)) : va_E)) ∈ w) (hd0 : b0 + 152 ≤ a3 ∨ a3 + 1 ≤ b0) : Met l yL_breakReed (Cond.codeWith yL_breakReed cL_breakReed 5 (some .int) [(0, 10, 13, 13), (0, 10, 17, 20), (0, 10, 21, 15)] :: gAll) ({ frames := 9, cells := 1, slots := 6, locals := 163 }) (va_Pc [.ref b0, .int x1, .int x2, .ref a3] (mm_Pre G w sz)) (mm_Qi G w sz (fun r w' => r = X.1 ∧ At12 G w' b0 X.2.1 p0_marsh_reeds_count X.2.2.1 p0_marsh_fleet_numbers p0_marsh_fleet_cells p0_marsh_fleet_fares p0_marsh_fleet_count p0_marsh_fleet_nextNumber p0_marsh_fleet_total p0_marsh_fleet_removedFares p0_marsh_fleet_meetings p0_marsh_plans_moves p0_marsh_plans_lengths p0_marsh_landings_cells p0_marsh_landings_count p0_marsh_fogSide p0_snapshot_reeds_states p0_snapshot_reeds_count p0_snapshot_reeds_broken p0_snapshot_fleet_numbers p0_snapshot_fleet_cells p0_snapshot_fleet_fares p0_snapshot_fleet_count p0_snapshot_fleet_nextNumber p0_snapshot_fleet_total p0_snapshot_fleet_removedFares p0_snapshot_fleet_meetings p0_snapshot_plans_moves p0_snapshot_plans_lengths p0_snapshot_landings_cells p0_snapshot_landings_count p0_snapshot_fogSide X.2.2.2.1 X.2.2.2.2.1 X.2.2.2.2.2.1 p0_ways_tolls p0_ways_queue p0_ways_heap p0_ways_heapSize p0_ways_found p0_ways_improved p0_pairing_costs p0_pairing_best p0_reader_kinds p0_reader_starts p0_reader_count p0_commandText_signs p0_commandText_length p0_line_signs p0_line_length p0_spareMoves p0_snapshotTaken p0_lastErrorPosition p0_lastFailedCommand ∧ (a3, (.inl (G.2 3, 1, .inr (.inl X.2.2.2.2.2.2)) : va_E)) ∈ w' ∧ mm_fr2 w w' b0 (b0 + 152) a3 (a3 + 1))) 1 6 (va_A w sz) := by
  refine mm_hhead hfl [.ref b0, .int x1, .int x2, .ref a3] (by decide +kernel) rfl (Nat.le_of_ble_eq_true rfl) ?_
  intro p e s m args below meth c A Q hsz hC hM hret hxt ls hl
  have hx := hC.1.1
  have hb := hC.1.2.1
  have hl : lv_has ls 5 [(0, .ref b0), (1, .int x1), (2, .int x2), (3, .ref a3)] := hl
  have hF : mm_fr2 w w b0 (b0 + 152) a3 (a3 + 1) := mm_fr2.rf
  rw [f_L_breakReed] at hf
  refine lv_aload_n hx hb dL_breakReed_0 rfl (lv_at hl 3 rfl) ?_
  refine lv_iconst (v := 0) hx hb dL_breakReed_1 (by decide) ?_
  refine lv_aload_n hx hb dL_breakReed_2 rfl (lv_at hl 0 rfl) ?_
  refine lv_iload_n hx hb dL_breakReed_3 rfl (lv_at hl 1 rfl) ?_
  refine lv_iload_n hx hb dL_breakReed_4 rfl (lv_at hl 2 rfl) ?_
  obtain ⟨q5, hq5, hf⟩ := mm_bd hf
  refine mm_xVi (rest := [.int 0, .ref a3]) hC hM (c_X12_breakReed l hfl hq5 hp_p0) q4_55 q1_1 ykX12_breakReed q4_52 q4_53 q4_54 hp_p0.1 rfl ⟨rfl, rfl⟩ ⟨Nat.le_of_ble_eq_true rfl, Nat.le_of_ble_eq_true rfl⟩ rfl hl.1 rfl (Nat.le_of_ble_eq_true rfl) dL_breakReed_5 ⟨Nat.le_of_ble_eq_true rfl, Nat.le_of_ble_eq_true rfl⟩ (fun E ce qE w5 H locs hM hw hqE hv9 hcl9 => ?_) (fun r w5 H locs hM hw => ?_)
  · obtain ⟨hne, hE, hn_this, hfr⟩ := hw
    rw [if_neg hne] at hf
    by_cases hk0 : q5.1 = 1
    · rw [if_pos hk0] at hf
      have hEk : E = mm_ex 1 := by rw [hE, hk0]
      subst hEk
      have hp_p3 := hfr.keep hp_p3 (by omega)
      have hp_p0 := hn_this
      have hF := hF.tr (hfr.l (by omega) (by omega))
      refine vx_catch hC.1.2.2.2.1 [] ⟨0, 10, 13, 13⟩ [⟨0, 10, 17, 20⟩, ⟨0, 10, 21, 15⟩] hxt (fun z hz => absurd hz List.not_mem_nil) rfl (by decide) (hC.1.2.2.2.2 _ q3_90) (va_Nw.use rfl (hC.2.2.1.1.1 _ nw_castable_1)) hqE hv9 hcl9 ?_
      refine lv_astore (lv' := [(4, .ref qE), (0, .ref b0), (1, .int x1), (2, .int x2), (3, .ref a3)]) hx hb dL_breakReed_13 hl (by decide) rfl (fun ls hl => ?_)
      refine lv_iconst (v := 1) hx hb dL_breakReed_15 (by decide) ?_
      cases hf
      exact hret hM dL_breakReed_16 rfl ⟨rfl, hp_p0, hp_p3, hF⟩ (Nat.le_of_ble_eq_true rfl) (Nat.le_of_ble_eq_true rfl)
    rw [if_neg hk0] at hf
    by_cases hk1 : q5.1 = 2
    · rw [if_pos hk1] at hf
      have hEk : E = mm_ex 2 := by rw [hE, hk1]
      subst hEk
      have hp_p3 := hfr.keep hp_p3 (by omega)
      have hp_p0 := hn_this
      have hF := hF.tr (hfr.l (by omega) (by omega))
      refine vx_catch hC.1.2.2.2.1 [⟨0, 10, 13, 13⟩] ⟨0, 10, 17, 20⟩ [⟨0, 10, 21, 15⟩] hxt (List.forall_mem_cons.mpr ⟨Or.inr ⟨by decide, _, (hC.1.2.2.2.2 _ q3_90), hC.2.2.1.1.2.2 2 1 (by decide) (by decide) (by decide) (by decide) (by decide)⟩, (fun z hz => absurd hz List.not_mem_nil)⟩) rfl (by decide) (hC.1.2.2.2.2 _ q4_51) (va_Nw.use rfl (hC.2.2.1.1.1 _ nw_castable_2)) hqE hv9 hcl9 ?_
      refine lv_astore (lv' := [(4, .ref qE), (0, .ref b0), (1, .int x1), (2, .int x2), (3, .ref a3)]) hx hb dL_breakReed_17 hl (by decide) rfl (fun ls hl => ?_)
      refine lv_iconst (v := 2) hx hb dL_breakReed_19 (by decide) ?_
      cases hf
      exact hret hM dL_breakReed_20 rfl ⟨rfl, hp_p0, hp_p3, hF⟩ (Nat.le_of_ble_eq_true rfl) (Nat.le_of_ble_eq_true rfl)
    rw [if_neg hk1] at hf
    by_cases hk2 : q5.1 = 3
    · rw [if_pos hk2] at hf
      have hEk : E = mm_ex 3 := by rw [hE, hk2]
      subst hEk
      have hp_p3 := hfr.keep hp_p3 (by omega)
      have hp_p0 := hn_this
      have hF := hF.tr (hfr.l (by omega) (by omega))
      refine vx_catch hC.1.2.2.2.1 [⟨0, 10, 13, 13⟩, ⟨0, 10, 17, 20⟩] ⟨0, 10, 21, 15⟩ [] hxt (List.forall_mem_cons.mpr ⟨Or.inr ⟨by decide, _, (hC.1.2.2.2.2 _ q3_90), hC.2.2.1.1.2.2 3 1 (by decide) (by decide) (by decide) (by decide) (by decide)⟩, (List.forall_mem_cons.mpr ⟨Or.inr ⟨by decide, _, (hC.1.2.2.2.2 _ q4_51), hC.2.2.1.1.2.2 3 2 (by decide) (by decide) (by decide) (by decide) (by decide)⟩, (fun z hz => absurd hz List.not_mem_nil)⟩)⟩) rfl (by decide) (hC.1.2.2.2.2 _ q3_170) (va_Nw.use rfl (hC.2.2.1.1.1 _ nw_castable_3)) hqE hv9 hcl9 ?_
      refine lv_astore (lv' := [(4, .ref qE), (0, .ref b0), (1, .int x1), (2, .int x2), (3, .ref a3)]) hx hb dL_breakReed_21 hl (by decide) rfl (fun ls hl => ?_)
      refine lv_iconst (v := 3) hx hb dL_breakReed_23 (by decide) ?_
      cases hf
      exact hret hM dL_breakReed_24 rfl ⟨rfl, hp_p0, hp_p3, hF⟩ (Nat.le_of_ble_eq_true rfl) (Nat.le_of_ble_eq_true rfl)
    rw [if_neg hk2] at hf
    cases hf
  obtain ⟨h0, hr, hn_this, hfr⟩ := hw
  rw [if_pos h0] at hf
  rw [hr]
  have hp_p3 := hfr.keep hp_p3 (by omega)
  have hp_p0 := hn_this
  have hF := hF.tr (hfr.l (by omega) (by omega))
  refine lv_i2l hx hb dL_breakReed_8 rfl ?_
  refine mm_last0 hC hM hp_p3 dL_breakReed_9 (fun w9 H locs hM hm => ?_)
  have hp_p0 := hp_p0.up hm (by omega)
  have hp_p3 := hm.1
  have hF := hF.tr (hm.r (by omega) (by omega))
  refine lv_goto (tgt := 25) hx hb dL_breakReed_10 (by decide) ?_
  refine lv_iconst (v := 0) hx hb dL_breakReed_25 (by decide) ?_
  cases hf
  exact hret hM dL_breakReed_26 rfl ⟨rfl, hp_p0, hp_p3, hF⟩ (Nat.le_of_ble_eq_true rfl) (Nat.le_of_ble_eq_true rfl)
def f_L_removeReed (p0_marsh_reeds_states : Nat → Int32) (p0_marsh_reeds_count : Int32) (p0_marsh_reeds_broken : Int32) (p0_marsh_fleet_numbers : Nat → Int32) (p0_marsh_fleet_cells : Nat → Int32) (p0_marsh_fleet_fares : Nat → Int32) (p0_marsh_fleet_count : Int32) (p0_marsh_fleet_nextNumber : Int32) (p0_marsh_fleet_total : Int32) (p0_marsh_fleet_removedFares : Int32) (p0_marsh_fleet_meetings : Int32) (p0_marsh_plans_moves : Nat → Int32) (p0_marsh_plans_lengths : Nat → Int32) (p0_marsh_landings_cells : Nat → Int32) (p0_marsh_landings_count : Int32) (p0_marsh_fogSide : Int32) (p0_history_slots : Nat → mm_MV) (p0_history_free : Int32) (p0_history_count : Int32) (p3 : Nat → Int64) (x1 : Int32) (x2 : Int32) : Option (Int32 × (Nat → Int32) × Int32 × Int32 × (Nat → mm_MV) × Int32 × Int32 × (Nat → Int64)) := (f_X12_removeReed p0_marsh_reeds_states p0_marsh_reeds_count p0_marsh_reeds_broken p0_marsh_fleet_numbers p0_marsh_fleet_cells p0_marsh_fleet_fares p0_marsh_fleet_count p0_marsh_fleet_nextNumber p0_marsh_fleet_total p0_marsh_fleet_removedFares p0_marsh_fleet_meetings p0_marsh_plans_moves p0_marsh_plans_lengths p0_marsh_landings_cells p0_marsh_landings_count p0_marsh_fogSide p0_history_slots p0_history_free p0_history_count x1 x2).bind fun q5 => if q5.1 = 0 then some (0, q5.2.2.1, q5.2.2.2.1, q5.2.2.2.2.1, q5.2.2.2.2.2.1, q5.2.2.2.2.2.2.1, q5.2.2.2.2.2.2.2, (vp_updL p3 0 q5.2.1.toInt64)) else if q5.1 = 1 then some (1, q5.2.2.1, q5.2.2.2.1, q5.2.2.2.2.1, q5.2.2.2.2.2.1, q5.2.2.2.2.2.2.1, q5.2.2.2.2.2.2.2, p3) else if q5.1 = 2 then some (2, q5.2.2.1, q5.2.2.2.1, q5.2.2.2.2.1, q5.2.2.2.2.2.1, q5.2.2.2.2.2.2.1, q5.2.2.2.2.2.2.2, p3) else none
set_option maxHeartbeats 4000000 in
set_option maxRecDepth 100000 in
theorem c_L_removeReed (l : Launch) (hfl : l.stackTraces = false) {G : mm_G} {w : va_W} {sz : Nat} {b0 : Nat} {a3 : Nat} {p0_marsh_reeds_states : Nat → Int32} {p0_marsh_reeds_count : Int32} {p0_marsh_reeds_broken : Int32} {p0_marsh_fleet_numbers : Nat → Int32} {p0_marsh_fleet_cells : Nat → Int32} {p0_marsh_fleet_fares : Nat → Int32} {p0_marsh_fleet_count : Int32} {p0_marsh_fleet_nextNumber : Int32} {p0_marsh_fleet_total : Int32} {p0_marsh_fleet_removedFares : Int32} {p0_marsh_fleet_meetings : Int32} {p0_marsh_plans_moves : Nat → Int32} {p0_marsh_plans_lengths : Nat → Int32} {p0_marsh_landings_cells : Nat → Int32} {p0_marsh_landings_count : Int32} {p0_marsh_fogSide : Int32} {p0_snapshot_reeds_states : Nat → Int32} {p0_snapshot_reeds_count : Int32} {p0_snapshot_reeds_broken : Int32} {p0_snapshot_fleet_numbers : Nat → Int32} {p0_snapshot_fleet_cells : Nat → Int32} {p0_snapshot_fleet_fares : Nat → Int32} {p0_snapshot_fleet_count : Int32} {p0_snapshot_fleet_nextNumber : Int32} {p0_snapshot_fleet_total : Int32} {p0_snapshot_fleet_removedFares : Int32} {p0_snapshot_fleet_meetings : Int32} {p0_snapshot_plans_moves : Nat → Int32} {p0_snapshot_plans_lengths : Nat → Int32} {p0_snapshot_landings_cells : Nat → Int32} {p0_snapshot_landings_count : Int32} {p0_snapshot_fogSide : Int32} {p0_history_slots : Nat → mm_MV} {p0_history_free : Int32} {p0_history_count : Int32} {p0_ways_tolls : Nat → Int32} {p0_ways_queue : Nat → Int32} {p0_ways_heap : Nat → Int32} {p0_ways_heapSize : Int32} {p0_ways_found : Nat → Int32} {p0_ways_improved : Nat → Int32} {p0_pairing_costs : Nat → Int32} {p0_pairing_best : Nat → Int32} {p0_reader_kinds : Nat → Int32} {p0_reader_starts : Nat → Int32} {p0_reader_count : Int32} {p0_commandText_signs : Nat → Int32} {p0_commandText_length : Int32} {p0_line_signs : Nat → Int32} {p0_line_length : Int32} {p0_spareMoves : Nat → Int32} {p0_snapshotTaken : Int32} {p0_lastErrorPosition : Int32} {p0_lastFailedCommand : Int32} {p3 : Nat → Int64} {x1 : Int32} {x2 : Int32} {X : Int32 × (Nat → Int32) × Int32 × Int32 × (Nat → mm_MV) × Int32 × Int32 × (Nat → Int64)} (hf : f_L_removeReed p0_marsh_reeds_states p0_marsh_reeds_count p0_marsh_reeds_broken p0_marsh_fleet_numbers p0_marsh_fleet_cells p0_marsh_fleet_fares p0_marsh_fleet_count p0_marsh_fleet_nextNumber p0_marsh_fleet_total p0_marsh_fleet_removedFares p0_marsh_fleet_meetings p0_marsh_plans_moves p0_marsh_plans_lengths p0_marsh_landings_cells p0_marsh_landings_count p0_marsh_fogSide p0_history_slots p0_history_free p0_history_count p3 x1 x2 = some X) (hp_p0 : At12 G w b0 p0_marsh_reeds_states p0_marsh_reeds_count p0_marsh_reeds_broken p0_marsh_fleet_numbers p0_marsh_fleet_cells p0_marsh_fleet_fares p0_marsh_fleet_count p0_marsh_fleet_nextNumber p0_marsh_fleet_total p0_marsh_fleet_removedFares p0_marsh_fleet_meetings p0_marsh_plans_moves p0_marsh_plans_lengths p0_marsh_landings_cells p0_marsh_landings_count p0_marsh_fogSide p0_snapshot_reeds_states p0_snapshot_reeds_count p0_snapshot_reeds_broken p0_snapshot_fleet_numbers p0_snapshot_fleet_cells p0_snapshot_fleet_fares p0_snapshot_fleet_count p0_snapshot_fleet_nextNumber p0_snapshot_fleet_total p0_snapshot_fleet_removedFares p0_snapshot_fleet_meetings p0_snapshot_plans_moves p0_snapshot_plans_lengths p0_snapshot_landings_cells p0_snapshot_landings_count p0_snapshot_fogSide p0_history_slots p0_history_free p0_history_count p0_ways_tolls p0_ways_queue p0_ways_heap p0_ways_heapSize p0_ways_found p0_ways_improved p0_pairing_costs p0_pairing_best p0_reader_kinds p0_reader_starts p0_reader_count p0_commandText_signs p0_commandText_length p0_line_signs p0_line_length p0_spareMoves p0_snapshotTaken p0_lastErrorPosition p0_lastFailedCommand) (hp_p3 : (a3, (.inl (G.2 3, 1, .inr (.inl p3)) : va_E)) ∈ w) (hd0 : b0 + 152 ≤ a3 ∨ a3 + 1 ≤ b0) : Met l yL_removeReed (Cond.codeWith yL_removeReed cL_removeReed 5 (some .int) [(0, 10, 13, 13), (0, 10, 17, 20)] :: gAll) ({ frames := 9, cells := 1, slots := 6, locals := 163 }) (va_Pc [.ref b0, .int x1, .int x2, .ref a3] (mm_Pre G w sz)) (mm_Qi G w sz (fun r w' => r = X.1 ∧ At12 G w' b0 X.2.1 X.2.2.1 X.2.2.2.1 p0_marsh_fleet_numbers p0_marsh_fleet_cells p0_marsh_fleet_fares p0_marsh_fleet_count p0_marsh_fleet_nextNumber p0_marsh_fleet_total p0_marsh_fleet_removedFares p0_marsh_fleet_meetings p0_marsh_plans_moves p0_marsh_plans_lengths p0_marsh_landings_cells p0_marsh_landings_count p0_marsh_fogSide p0_snapshot_reeds_states p0_snapshot_reeds_count p0_snapshot_reeds_broken p0_snapshot_fleet_numbers p0_snapshot_fleet_cells p0_snapshot_fleet_fares p0_snapshot_fleet_count p0_snapshot_fleet_nextNumber p0_snapshot_fleet_total p0_snapshot_fleet_removedFares p0_snapshot_fleet_meetings p0_snapshot_plans_moves p0_snapshot_plans_lengths p0_snapshot_landings_cells p0_snapshot_landings_count p0_snapshot_fogSide X.2.2.2.2.1 X.2.2.2.2.2.1 X.2.2.2.2.2.2.1 p0_ways_tolls p0_ways_queue p0_ways_heap p0_ways_heapSize p0_ways_found p0_ways_improved p0_pairing_costs p0_pairing_best p0_reader_kinds p0_reader_starts p0_reader_count p0_commandText_signs p0_commandText_length p0_line_signs p0_line_length p0_spareMoves p0_snapshotTaken p0_lastErrorPosition p0_lastFailedCommand ∧ (a3, (.inl (G.2 3, 1, .inr (.inl X.2.2.2.2.2.2.2)) : va_E)) ∈ w' ∧ mm_fr2 w w' b0 (b0 + 152) a3 (a3 + 1))) 1 6 (va_A w sz) := by
  refine mm_hhead hfl [.ref b0, .int x1, .int x2, .ref a3] (by decide +kernel) rfl (Nat.le_of_ble_eq_true rfl) ?_
  intro p e s m args below meth c A Q hsz hC hM hret hxt ls hl
  have hx := hC.1.1
  have hb := hC.1.2.1
  have hl : lv_has ls 5 [(0, .ref b0), (1, .int x1), (2, .int x2), (3, .ref a3)] := hl
  have hF : mm_fr2 w w b0 (b0 + 152) a3 (a3 + 1) := mm_fr2.rf
  rw [f_L_removeReed] at hf
  refine lv_aload_n hx hb dL_removeReed_0 rfl (lv_at hl 3 rfl) ?_
  refine lv_iconst (v := 0) hx hb dL_removeReed_1 (by decide) ?_
  refine lv_aload_n hx hb dL_removeReed_2 rfl (lv_at hl 0 rfl) ?_
  refine lv_iload_n hx hb dL_removeReed_3 rfl (lv_at hl 1 rfl) ?_
  refine lv_iload_n hx hb dL_removeReed_4 rfl (lv_at hl 2 rfl) ?_
  obtain ⟨q5, hq5, hf⟩ := mm_bd hf
  refine mm_xVi (rest := [.int 0, .ref a3]) hC hM (c_X12_removeReed l hfl hq5 hp_p0) q4_70 q1_1 ykX12_removeReed q4_67 q4_68 q4_69 hp_p0.1 rfl ⟨rfl, rfl⟩ ⟨Nat.le_of_ble_eq_true rfl, Nat.le_of_ble_eq_true rfl⟩ rfl hl.1 rfl (Nat.le_of_ble_eq_true rfl) dL_removeReed_5 ⟨Nat.le_of_ble_eq_true rfl, Nat.le_of_ble_eq_true rfl⟩ (fun E ce qE w5 H locs hM hw hqE hv9 hcl9 => ?_) (fun r w5 H locs hM hw => ?_)
  · obtain ⟨hne, hE, hn_this, hfr⟩ := hw
    rw [if_neg hne] at hf
    by_cases hk0 : q5.1 = 1
    · rw [if_pos hk0] at hf
      have hEk : E = mm_ex 1 := by rw [hE, hk0]
      subst hEk
      have hp_p3 := hfr.keep hp_p3 (by omega)
      have hp_p0 := hn_this
      have hF := hF.tr (hfr.l (by omega) (by omega))
      refine vx_catch hC.1.2.2.2.1 [] ⟨0, 10, 13, 13⟩ [⟨0, 10, 17, 20⟩] hxt (fun z hz => absurd hz List.not_mem_nil) rfl (by decide) (hC.1.2.2.2.2 _ q3_90) (va_Nw.use rfl (hC.2.2.1.1.1 _ nw_castable_1)) hqE hv9 hcl9 ?_
      refine lv_astore (lv' := [(4, .ref qE), (0, .ref b0), (1, .int x1), (2, .int x2), (3, .ref a3)]) hx hb dL_removeReed_13 hl (by decide) rfl (fun ls hl => ?_)
      refine lv_iconst (v := 1) hx hb dL_removeReed_15 (by decide) ?_
      cases hf
      exact hret hM dL_removeReed_16 rfl ⟨rfl, hp_p0, hp_p3, hF⟩ (Nat.le_of_ble_eq_true rfl) (Nat.le_of_ble_eq_true rfl)
    rw [if_neg hk0] at hf
    by_cases hk1 : q5.1 = 2
    · rw [if_pos hk1] at hf
      have hEk : E = mm_ex 2 := by rw [hE, hk1]
      subst hEk
      have hp_p3 := hfr.keep hp_p3 (by omega)
      have hp_p0 := hn_this
      have hF := hF.tr (hfr.l (by omega) (by omega))
      refine vx_catch hC.1.2.2.2.1 [⟨0, 10, 13, 13⟩] ⟨0, 10, 17, 20⟩ [] hxt (List.forall_mem_cons.mpr ⟨Or.inr ⟨by decide, _, (hC.1.2.2.2.2 _ q3_90), hC.2.2.1.1.2.2 2 1 (by decide) (by decide) (by decide) (by decide) (by decide)⟩, (fun z hz => absurd hz List.not_mem_nil)⟩) rfl (by decide) (hC.1.2.2.2.2 _ q4_51) (va_Nw.use rfl (hC.2.2.1.1.1 _ nw_castable_2)) hqE hv9 hcl9 ?_
      refine lv_astore (lv' := [(4, .ref qE), (0, .ref b0), (1, .int x1), (2, .int x2), (3, .ref a3)]) hx hb dL_removeReed_17 hl (by decide) rfl (fun ls hl => ?_)
      refine lv_iconst (v := 2) hx hb dL_removeReed_19 (by decide) ?_
      cases hf
      exact hret hM dL_removeReed_20 rfl ⟨rfl, hp_p0, hp_p3, hF⟩ (Nat.le_of_ble_eq_true rfl) (Nat.le_of_ble_eq_true rfl)
    rw [if_neg hk1] at hf
    cases hf
  obtain ⟨h0, hr, hn_this, hfr⟩ := hw
  rw [if_pos h0] at hf
  rw [hr]
  have hp_p3 := hfr.keep hp_p3 (by omega)
  have hp_p0 := hn_this
  have hF := hF.tr (hfr.l (by omega) (by omega))
  refine lv_i2l hx hb dL_removeReed_8 rfl ?_
  refine mm_last0 hC hM hp_p3 dL_removeReed_9 (fun w9 H locs hM hm => ?_)
  have hp_p0 := hp_p0.up hm (by omega)
  have hp_p3 := hm.1
  have hF := hF.tr (hm.r (by omega) (by omega))
  refine lv_goto (tgt := 21) hx hb dL_removeReed_10 (by decide) ?_
  refine lv_iconst (v := 0) hx hb dL_removeReed_21 (by decide) ?_
  cases hf
  exact hret hM dL_removeReed_22 rfl ⟨rfl, hp_p0, hp_p3, hF⟩ (Nat.le_of_ble_eq_true rfl) (Nat.le_of_ble_eq_true rfl)
def f_L_hasReed (p0_marsh_reeds_states : Nat → Int32) (p3 : Nat → Int64) (x1 : Int32) (x2 : Int32) : Option (Int32 × (Nat → Int64)) := (f_X12_hasReed p0_marsh_reeds_states x1 x2).bind fun q5 => if q5.1 = 0 then if q5.2 = 0 then some (0, (vp_updL p3 0 0)) else some (0, (vp_updL p3 0 1)) else if q5.1 = 1 then some (1, p3) else none
set_option maxHeartbeats 4000000 in
set_option maxRecDepth 100000 in
theorem c_L_hasReed (l : Launch) (hfl : l.stackTraces = false) {G : mm_G} {w : va_W} {sz : Nat} {b0 : Nat} {a3 : Nat} {p0_marsh_reeds_states : Nat → Int32} {p0_marsh_reeds_count : Int32} {p0_marsh_reeds_broken : Int32} {p0_marsh_fleet_numbers : Nat → Int32} {p0_marsh_fleet_cells : Nat → Int32} {p0_marsh_fleet_fares : Nat → Int32} {p0_marsh_fleet_count : Int32} {p0_marsh_fleet_nextNumber : Int32} {p0_marsh_fleet_total : Int32} {p0_marsh_fleet_removedFares : Int32} {p0_marsh_fleet_meetings : Int32} {p0_marsh_plans_moves : Nat → Int32} {p0_marsh_plans_lengths : Nat → Int32} {p0_marsh_landings_cells : Nat → Int32} {p0_marsh_landings_count : Int32} {p0_marsh_fogSide : Int32} {p0_snapshot_reeds_states : Nat → Int32} {p0_snapshot_reeds_count : Int32} {p0_snapshot_reeds_broken : Int32} {p0_snapshot_fleet_numbers : Nat → Int32} {p0_snapshot_fleet_cells : Nat → Int32} {p0_snapshot_fleet_fares : Nat → Int32} {p0_snapshot_fleet_count : Int32} {p0_snapshot_fleet_nextNumber : Int32} {p0_snapshot_fleet_total : Int32} {p0_snapshot_fleet_removedFares : Int32} {p0_snapshot_fleet_meetings : Int32} {p0_snapshot_plans_moves : Nat → Int32} {p0_snapshot_plans_lengths : Nat → Int32} {p0_snapshot_landings_cells : Nat → Int32} {p0_snapshot_landings_count : Int32} {p0_snapshot_fogSide : Int32} {p0_history_slots : Nat → mm_MV} {p0_history_free : Int32} {p0_history_count : Int32} {p0_ways_tolls : Nat → Int32} {p0_ways_queue : Nat → Int32} {p0_ways_heap : Nat → Int32} {p0_ways_heapSize : Int32} {p0_ways_found : Nat → Int32} {p0_ways_improved : Nat → Int32} {p0_pairing_costs : Nat → Int32} {p0_pairing_best : Nat → Int32} {p0_reader_kinds : Nat → Int32} {p0_reader_starts : Nat → Int32} {p0_reader_count : Int32} {p0_commandText_signs : Nat → Int32} {p0_commandText_length : Int32} {p0_line_signs : Nat → Int32} {p0_line_length : Int32} {p0_spareMoves : Nat → Int32} {p0_snapshotTaken : Int32} {p0_lastErrorPosition : Int32} {p0_lastFailedCommand : Int32} {p3 : Nat → Int64} {x1 : Int32} {x2 : Int32} {X : Int32 × (Nat → Int64)} (hf : f_L_hasReed p0_marsh_reeds_states p3 x1 x2 = some X) (hp_p0 : At12 G w b0 p0_marsh_reeds_states p0_marsh_reeds_count p0_marsh_reeds_broken p0_marsh_fleet_numbers p0_marsh_fleet_cells p0_marsh_fleet_fares p0_marsh_fleet_count p0_marsh_fleet_nextNumber p0_marsh_fleet_total p0_marsh_fleet_removedFares p0_marsh_fleet_meetings p0_marsh_plans_moves p0_marsh_plans_lengths p0_marsh_landings_cells p0_marsh_landings_count p0_marsh_fogSide p0_snapshot_reeds_states p0_snapshot_reeds_count p0_snapshot_reeds_broken p0_snapshot_fleet_numbers p0_snapshot_fleet_cells p0_snapshot_fleet_fares p0_snapshot_fleet_count p0_snapshot_fleet_nextNumber p0_snapshot_fleet_total p0_snapshot_fleet_removedFares p0_snapshot_fleet_meetings p0_snapshot_plans_moves p0_snapshot_plans_lengths p0_snapshot_landings_cells p0_snapshot_landings_count p0_snapshot_fogSide p0_history_slots p0_history_free p0_history_count p0_ways_tolls p0_ways_queue p0_ways_heap p0_ways_heapSize p0_ways_found p0_ways_improved p0_pairing_costs p0_pairing_best p0_reader_kinds p0_reader_starts p0_reader_count p0_commandText_signs p0_commandText_length p0_line_signs p0_line_length p0_spareMoves p0_snapshotTaken p0_lastErrorPosition p0_lastFailedCommand) (hp_p3 : (a3, (.inl (G.2 3, 1, .inr (.inl p3)) : va_E)) ∈ w) (hd0 : b0 + 152 ≤ a3 ∨ a3 + 1 ≤ b0) : Met l yL_hasReed (Cond.codeWith yL_hasReed cL_hasReed 5 (some .int) [(0, 17, 20, 13)] :: gAll) ({ frames := 9, cells := 1, slots := 6, locals := 164 }) (va_Pc [.ref b0, .int x1, .int x2, .ref a3] (mm_Pre G w sz)) (mm_Qi G w sz (fun r w' => r = X.1 ∧ (a3, (.inl (G.2 3, 1, .inr (.inl X.2)) : va_E)) ∈ w' ∧ mm_fr w w' a3 (a3 + 1))) 1 6 (va_A w sz) := by
  refine mm_hhead hfl [.ref b0, .int x1, .int x2, .ref a3] (by decide +kernel) rfl (Nat.le_of_ble_eq_true rfl) ?_
  intro p e s m args below meth c A Q hsz hC hM hret hxt ls hl
  have hx := hC.1.1
  have hb := hC.1.2.1
  have hl : lv_has ls 5 [(0, .ref b0), (1, .int x1), (2, .int x2), (3, .ref a3)] := hl
  have hF : mm_fr w w a3 (a3 + 1) := mm_fr.rf
  rw [f_L_hasReed] at hf
  refine lv_aload_n hx hb dL_hasReed_0 rfl (lv_at hl 3 rfl) ?_
  refine lv_iconst (v := 0) hx hb dL_hasReed_1 (by decide) ?_
  refine lv_aload_n hx hb dL_hasReed_2 rfl (lv_at hl 0 rfl) ?_
  refine lv_iload_n hx hb dL_hasReed_3 rfl (lv_at hl 1 rfl) ?_
  refine lv_iload_n hx hb dL_hasReed_4 rfl (lv_at hl 2 rfl) ?_
  obtain ⟨q5, hq5, hf⟩ := mm_bd hf
  refine mm_xVi (rest := [.int 0, .ref a3]) hC hM (c_X12_hasReed l hfl hq5 hp_p0) q4_85 q1_1 ykX12_hasReed q4_82 q4_83 q4_84 hp_p0.1 rfl ⟨rfl, rfl⟩ ⟨Nat.le_of_ble_eq_true rfl, Nat.le_of_ble_eq_true rfl⟩ rfl hl.1 rfl (Nat.le_of_ble_eq_true rfl) dL_hasReed_5 ⟨Nat.le_of_ble_eq_true rfl, Nat.le_of_ble_eq_true rfl⟩ (fun E ce qE w5 H locs hM hw hqE hv9 hcl9 => ?_) (fun r w5 H locs hM hw => ?_)
  · obtain ⟨hne, hE, hw⟩ := hw
    rw [if_neg hne] at hf
    by_cases hk0 : q5.1 = 1
    · rw [if_pos hk0] at hf
      have hEk : E = mm_ex 1 := by rw [hE, hk0]
      subst hEk
      rw [hw] at hM
      refine vx_catch hC.1.2.2.2.1 [] ⟨0, 17, 20, 13⟩ [] hxt (fun z hz => absurd hz List.not_mem_nil) rfl (by decide) (hC.1.2.2.2.2 _ q3_90) (va_Nw.use rfl (hC.2.2.1.1.1 _ nw_castable_1)) hqE hv9 hcl9 ?_
      refine lv_astore (lv' := [(4, .ref qE), (0, .ref b0), (1, .int x1), (2, .int x2), (3, .ref a3)]) hx hb dL_hasReed_20 hl (by decide) rfl (fun ls hl => ?_)
      refine lv_iconst (v := 1) hx hb dL_hasReed_22 (by decide) ?_
      cases hf
      exact hret hM dL_hasReed_23 rfl ⟨rfl, hp_p3, hF⟩ (Nat.le_of_ble_eq_true rfl) (Nat.le_of_ble_eq_true rfl)
    rw [if_neg hk0] at hf
    cases hf
  obtain ⟨h0, hr, hw⟩ := hw
  rw [if_pos h0] at hf
  rw [hr]
  rw [hw] at hM
  refine lv_if_eq (tgt := 15) hx hb dL_hasReed_8 (by decide) (fun hcd => ?_) (fun hcd => ?_)
  · rw [if_pos hcd] at hf
    refine lv_lconst (v := 0) hx hb dL_hasReed_15 (by decide) ?_
    refine mm_last0 hC hM hp_p3 dL_hasReed_16 (fun w16 H locs hM hm => ?_)
    have hp_p0 := hp_p0.up hm (by omega)
    have hp_p3 := hm.1
    have hF := hF.tr (hm.fr (by omega) (by omega))
    refine lv_goto (tgt := 24) hx hb dL_hasReed_17 (by decide) ?_
    refine lv_iconst (v := 0) hx hb dL_hasReed_24 (by decide) ?_
    cases hf
    exact hret hM dL_hasReed_25 rfl ⟨rfl, hp_p3, hF⟩ (Nat.le_of_ble_eq_true rfl) (Nat.le_of_ble_eq_true rfl)
  · rw [if_neg hcd] at hf
    refine lv_lconst (v := 1) hx hb dL_hasReed_11 (by decide) ?_
    refine lv_goto (tgt := 16) hx hb dL_hasReed_12 (by decide) ?_
    refine mm_last0 hC hM hp_p3 dL_hasReed_16 (fun w16 H locs hM hm => ?_)
    have hp_p0 := hp_p0.up hm (by omega)
    have hp_p3 := hm.1
    have hF := hF.tr (hm.fr (by omega) (by omega))
    refine lv_goto (tgt := 24) hx hb dL_hasReed_17 (by decide) ?_
    refine lv_iconst (v := 0) hx hb dL_hasReed_24 (by decide) ?_
    cases hf
    exact hret hM dL_hasReed_25 rfl ⟨rfl, hp_p3, hF⟩ (Nat.le_of_ble_eq_true rfl) (Nat.le_of_ble_eq_true rfl)
def f_L_isPassable (p0_marsh_reeds_states : Nat → Int32) (p3 : Nat → Int64) (x1 : Int32) (x2 : Int32) : Option (Int32 × (Nat → Int64)) := (f_X12_isPassable p0_marsh_reeds_states x1 x2).bind fun q5 => if q5.1 = 0 then if q5.2 = 0 then some (0, (vp_updL p3 0 0)) else some (0, (vp_updL p3 0 1)) else if q5.1 = 1 then some (1, p3) else none
set_option maxHeartbeats 4000000 in
set_option maxRecDepth 100000 in
theorem c_L_isPassable (l : Launch) (hfl : l.stackTraces = false) {G : mm_G} {w : va_W} {sz : Nat} {b0 : Nat} {a3 : Nat} {p0_marsh_reeds_states : Nat → Int32} {p0_marsh_reeds_count : Int32} {p0_marsh_reeds_broken : Int32} {p0_marsh_fleet_numbers : Nat → Int32} {p0_marsh_fleet_cells : Nat → Int32} {p0_marsh_fleet_fares : Nat → Int32} {p0_marsh_fleet_count : Int32} {p0_marsh_fleet_nextNumber : Int32} {p0_marsh_fleet_total : Int32} {p0_marsh_fleet_removedFares : Int32} {p0_marsh_fleet_meetings : Int32} {p0_marsh_plans_moves : Nat → Int32} {p0_marsh_plans_lengths : Nat → Int32} {p0_marsh_landings_cells : Nat → Int32} {p0_marsh_landings_count : Int32} {p0_marsh_fogSide : Int32} {p0_snapshot_reeds_states : Nat → Int32} {p0_snapshot_reeds_count : Int32} {p0_snapshot_reeds_broken : Int32} {p0_snapshot_fleet_numbers : Nat → Int32} {p0_snapshot_fleet_cells : Nat → Int32} {p0_snapshot_fleet_fares : Nat → Int32} {p0_snapshot_fleet_count : Int32} {p0_snapshot_fleet_nextNumber : Int32} {p0_snapshot_fleet_total : Int32} {p0_snapshot_fleet_removedFares : Int32} {p0_snapshot_fleet_meetings : Int32} {p0_snapshot_plans_moves : Nat → Int32} {p0_snapshot_plans_lengths : Nat → Int32} {p0_snapshot_landings_cells : Nat → Int32} {p0_snapshot_landings_count : Int32} {p0_snapshot_fogSide : Int32} {p0_history_slots : Nat → mm_MV} {p0_history_free : Int32} {p0_history_count : Int32} {p0_ways_tolls : Nat → Int32} {p0_ways_queue : Nat → Int32} {p0_ways_heap : Nat → Int32} {p0_ways_heapSize : Int32} {p0_ways_found : Nat → Int32} {p0_ways_improved : Nat → Int32} {p0_pairing_costs : Nat → Int32} {p0_pairing_best : Nat → Int32} {p0_reader_kinds : Nat → Int32} {p0_reader_starts : Nat → Int32} {p0_reader_count : Int32} {p0_commandText_signs : Nat → Int32} {p0_commandText_length : Int32} {p0_line_signs : Nat → Int32} {p0_line_length : Int32} {p0_spareMoves : Nat → Int32} {p0_snapshotTaken : Int32} {p0_lastErrorPosition : Int32} {p0_lastFailedCommand : Int32} {p3 : Nat → Int64} {x1 : Int32} {x2 : Int32} {X : Int32 × (Nat → Int64)} (hf : f_L_isPassable p0_marsh_reeds_states p3 x1 x2 = some X) (hp_p0 : At12 G w b0 p0_marsh_reeds_states p0_marsh_reeds_count p0_marsh_reeds_broken p0_marsh_fleet_numbers p0_marsh_fleet_cells p0_marsh_fleet_fares p0_marsh_fleet_count p0_marsh_fleet_nextNumber p0_marsh_fleet_total p0_marsh_fleet_removedFares p0_marsh_fleet_meetings p0_marsh_plans_moves p0_marsh_plans_lengths p0_marsh_landings_cells p0_marsh_landings_count p0_marsh_fogSide p0_snapshot_reeds_states p0_snapshot_reeds_count p0_snapshot_reeds_broken p0_snapshot_fleet_numbers p0_snapshot_fleet_cells p0_snapshot_fleet_fares p0_snapshot_fleet_count p0_snapshot_fleet_nextNumber p0_snapshot_fleet_total p0_snapshot_fleet_removedFares p0_snapshot_fleet_meetings p0_snapshot_plans_moves p0_snapshot_plans_lengths p0_snapshot_landings_cells p0_snapshot_landings_count p0_snapshot_fogSide p0_history_slots p0_history_free p0_history_count p0_ways_tolls p0_ways_queue p0_ways_heap p0_ways_heapSize p0_ways_found p0_ways_improved p0_pairing_costs p0_pairing_best p0_reader_kinds p0_reader_starts p0_reader_count p0_commandText_signs p0_commandText_length p0_line_signs p0_line_length p0_spareMoves p0_snapshotTaken p0_lastErrorPosition p0_lastFailedCommand) (hp_p3 : (a3, (.inl (G.2 3, 1, .inr (.inl p3)) : va_E)) ∈ w) (hd0 : b0 + 152 ≤ a3 ∨ a3 + 1 ≤ b0) : Met l yL_isPassable (Cond.codeWith yL_isPassable cL_isPassable 5 (some .int) [(0, 17, 20, 13)] :: gAll) ({ frames := 9, cells := 1, slots := 6, locals := 164 }) (va_Pc [.ref b0, .int x1, .int x2, .ref a3] (mm_Pre G w sz)) (mm_Qi G w sz (fun r w' => r = X.1 ∧ (a3, (.inl (G.2 3, 1, .inr (.inl X.2)) : va_E)) ∈ w' ∧ mm_fr w w' a3 (a3 + 1))) 1 6 (va_A w sz) := by
  refine mm_hhead hfl [.ref b0, .int x1, .int x2, .ref a3] (by decide +kernel) rfl (Nat.le_of_ble_eq_true rfl) ?_
  intro p e s m args below meth c A Q hsz hC hM hret hxt ls hl
  have hx := hC.1.1
  have hb := hC.1.2.1
  have hl : lv_has ls 5 [(0, .ref b0), (1, .int x1), (2, .int x2), (3, .ref a3)] := hl
  have hF : mm_fr w w a3 (a3 + 1) := mm_fr.rf
  rw [f_L_isPassable] at hf
  refine lv_aload_n hx hb dL_isPassable_0 rfl (lv_at hl 3 rfl) ?_
  refine lv_iconst (v := 0) hx hb dL_isPassable_1 (by decide) ?_
  refine lv_aload_n hx hb dL_isPassable_2 rfl (lv_at hl 0 rfl) ?_
  refine lv_iload_n hx hb dL_isPassable_3 rfl (lv_at hl 1 rfl) ?_
  refine lv_iload_n hx hb dL_isPassable_4 rfl (lv_at hl 2 rfl) ?_
  obtain ⟨q5, hq5, hf⟩ := mm_bd hf
  refine mm_xVi (rest := [.int 0, .ref a3]) hC hM (c_X12_isPassable l hfl hq5 hp_p0) q4_96 q1_1 ykX12_isPassable q4_93 q4_94 q4_95 hp_p0.1 rfl ⟨rfl, rfl⟩ ⟨Nat.le_of_ble_eq_true rfl, Nat.le_of_ble_eq_true rfl⟩ rfl hl.1 rfl (Nat.le_of_ble_eq_true rfl) dL_isPassable_5 ⟨Nat.le_of_ble_eq_true rfl, Nat.le_of_ble_eq_true rfl⟩ (fun E ce qE w5 H locs hM hw hqE hv9 hcl9 => ?_) (fun r w5 H locs hM hw => ?_)
  · obtain ⟨hne, hE, hw⟩ := hw
    rw [if_neg hne] at hf
    by_cases hk0 : q5.1 = 1
    · rw [if_pos hk0] at hf
      have hEk : E = mm_ex 1 := by rw [hE, hk0]
      subst hEk
      rw [hw] at hM
      refine vx_catch hC.1.2.2.2.1 [] ⟨0, 17, 20, 13⟩ [] hxt (fun z hz => absurd hz List.not_mem_nil) rfl (by decide) (hC.1.2.2.2.2 _ q3_90) (va_Nw.use rfl (hC.2.2.1.1.1 _ nw_castable_1)) hqE hv9 hcl9 ?_
      refine lv_astore (lv' := [(4, .ref qE), (0, .ref b0), (1, .int x1), (2, .int x2), (3, .ref a3)]) hx hb dL_isPassable_20 hl (by decide) rfl (fun ls hl => ?_)
      refine lv_iconst (v := 1) hx hb dL_isPassable_22 (by decide) ?_
      cases hf
      exact hret hM dL_isPassable_23 rfl ⟨rfl, hp_p3, hF⟩ (Nat.le_of_ble_eq_true rfl) (Nat.le_of_ble_eq_true rfl)
    rw [if_neg hk0] at hf
    cases hf
  obtain ⟨h0, hr, hw⟩ := hw
  rw [if_pos h0] at hf
  rw [hr]
  rw [hw] at hM
  refine lv_if_eq (tgt := 15) hx hb dL_isPassable_8 (by decide) (fun hcd => ?_) (fun hcd => ?_)
  · rw [if_pos hcd] at hf
    refine lv_lconst (v := 0) hx hb dL_isPassable_15 (by decide) ?_
    refine mm_last0 hC hM hp_p3 dL_isPassable_16 (fun w16 H locs hM hm => ?_)
    have hp_p0 := hp_p0.up hm (by omega)
    have hp_p3 := hm.1
    have hF := hF.tr (hm.fr (by omega) (by omega))
    refine lv_goto (tgt := 24) hx hb dL_isPassable_17 (by decide) ?_
    refine lv_iconst (v := 0) hx hb dL_isPassable_24 (by decide) ?_
    cases hf
    exact hret hM dL_isPassable_25 rfl ⟨rfl, hp_p3, hF⟩ (Nat.le_of_ble_eq_true rfl) (Nat.le_of_ble_eq_true rfl)
  · rw [if_neg hcd] at hf
    refine lv_lconst (v := 1) hx hb dL_isPassable_11 (by decide) ?_
    refine lv_goto (tgt := 16) hx hb dL_isPassable_12 (by decide) ?_
    refine mm_last0 hC hM hp_p3 dL_isPassable_16 (fun w16 H locs hM hm => ?_)
    have hp_p0 := hp_p0.up hm (by omega)
    have hp_p3 := hm.1
    have hF := hF.tr (hm.fr (by omega) (by omega))
    refine lv_goto (tgt := 24) hx hb dL_isPassable_17 (by decide) ?_
    refine lv_iconst (v := 0) hx hb dL_isPassable_24 (by decide) ?_
    cases hf
    exact hret hM dL_isPassable_25 rfl ⟨rfl, hp_p3, hF⟩ (Nat.le_of_ble_eq_true rfl) (Nat.le_of_ble_eq_true rfl)
def f_L_setFog (p0_marsh_reeds_states : Nat → Int32) (p0_marsh_reeds_count : Int32) (p0_marsh_reeds_broken : Int32) (p0_marsh_fleet_numbers : Nat → Int32) (p0_marsh_fleet_cells : Nat → Int32) (p0_marsh_fleet_fares : Nat → Int32) (p0_marsh_fleet_count : Int32) (p0_marsh_fleet_nextNumber : Int32) (p0_marsh_fleet_total : Int32) (p0_marsh_fleet_removedFares : Int32) (p0_marsh_fleet_meetings : Int32) (p0_marsh_plans_moves : Nat → Int32) (p0_marsh_plans_lengths : Nat → Int32) (p0_marsh_landings_cells : Nat → Int32) (p0_marsh_landings_count : Int32) (p0_marsh_fogSide : Int32) (p0_history_slots : Nat → mm_MV) (p0_history_free : Int32) (p0_history_count : Int32) (p2 : Nat → Int64) (x1 : Int32) : Option (Int32 × Int32 × (Nat → mm_MV) × Int32 × Int32 × (Nat → Int64)) := (f_X12_setFog p0_marsh_reeds_states p0_marsh_reeds_count p0_marsh_reeds_broken p0_marsh_fleet_numbers p0_marsh_fleet_cells p0_marsh_fleet_fares p0_marsh_fleet_count p0_marsh_fleet_nextNumber p0_marsh_fleet_total p0_marsh_fleet_removedFares p0_marsh_fleet_meetings p0_marsh_plans_moves p0_marsh_plans_lengths p0_marsh_landings_cells p0_marsh_landings_count p0_marsh_fogSide p0_history_slots p0_history_free p0_history_count x1).bind fun q4 => if q4.1 = 0 then some (0, q4.2.2.1, q4.2.2.2.1, q4.2.2.2.2.1, q4.2.2.2.2.2, (vp_updL p2 0 q4.2.1.toInt64)) else if q4.1 = 4 then some (1, q4.2.2.1, q4.2.2.2.1, q4.2.2.2.2.1, q4.2.2.2.2.2, p2) else none
set_option maxHeartbeats 4000000 in
set_option maxRecDepth 100000 in
theorem c_L_setFog (l : Launch) (hfl : l.stackTraces = false) {G : mm_G} {w : va_W} {sz : Nat} {b0 : Nat} {a2 : Nat} {p0_marsh_reeds_states : Nat → Int32} {p0_marsh_reeds_count : Int32} {p0_marsh_reeds_broken : Int32} {p0_marsh_fleet_numbers : Nat → Int32} {p0_marsh_fleet_cells : Nat → Int32} {p0_marsh_fleet_fares : Nat → Int32} {p0_marsh_fleet_count : Int32} {p0_marsh_fleet_nextNumber : Int32} {p0_marsh_fleet_total : Int32} {p0_marsh_fleet_removedFares : Int32} {p0_marsh_fleet_meetings : Int32} {p0_marsh_plans_moves : Nat → Int32} {p0_marsh_plans_lengths : Nat → Int32} {p0_marsh_landings_cells : Nat → Int32} {p0_marsh_landings_count : Int32} {p0_marsh_fogSide : Int32} {p0_snapshot_reeds_states : Nat → Int32} {p0_snapshot_reeds_count : Int32} {p0_snapshot_reeds_broken : Int32} {p0_snapshot_fleet_numbers : Nat → Int32} {p0_snapshot_fleet_cells : Nat → Int32} {p0_snapshot_fleet_fares : Nat → Int32} {p0_snapshot_fleet_count : Int32} {p0_snapshot_fleet_nextNumber : Int32} {p0_snapshot_fleet_total : Int32} {p0_snapshot_fleet_removedFares : Int32} {p0_snapshot_fleet_meetings : Int32} {p0_snapshot_plans_moves : Nat → Int32} {p0_snapshot_plans_lengths : Nat → Int32} {p0_snapshot_landings_cells : Nat → Int32} {p0_snapshot_landings_count : Int32} {p0_snapshot_fogSide : Int32} {p0_history_slots : Nat → mm_MV} {p0_history_free : Int32} {p0_history_count : Int32} {p0_ways_tolls : Nat → Int32} {p0_ways_queue : Nat → Int32} {p0_ways_heap : Nat → Int32} {p0_ways_heapSize : Int32} {p0_ways_found : Nat → Int32} {p0_ways_improved : Nat → Int32} {p0_pairing_costs : Nat → Int32} {p0_pairing_best : Nat → Int32} {p0_reader_kinds : Nat → Int32} {p0_reader_starts : Nat → Int32} {p0_reader_count : Int32} {p0_commandText_signs : Nat → Int32} {p0_commandText_length : Int32} {p0_line_signs : Nat → Int32} {p0_line_length : Int32} {p0_spareMoves : Nat → Int32} {p0_snapshotTaken : Int32} {p0_lastErrorPosition : Int32} {p0_lastFailedCommand : Int32} {p2 : Nat → Int64} {x1 : Int32} {X : Int32 × Int32 × (Nat → mm_MV) × Int32 × Int32 × (Nat → Int64)} (hf : f_L_setFog p0_marsh_reeds_states p0_marsh_reeds_count p0_marsh_reeds_broken p0_marsh_fleet_numbers p0_marsh_fleet_cells p0_marsh_fleet_fares p0_marsh_fleet_count p0_marsh_fleet_nextNumber p0_marsh_fleet_total p0_marsh_fleet_removedFares p0_marsh_fleet_meetings p0_marsh_plans_moves p0_marsh_plans_lengths p0_marsh_landings_cells p0_marsh_landings_count p0_marsh_fogSide p0_history_slots p0_history_free p0_history_count p2 x1 = some X) (hp_p0 : At12 G w b0 p0_marsh_reeds_states p0_marsh_reeds_count p0_marsh_reeds_broken p0_marsh_fleet_numbers p0_marsh_fleet_cells p0_marsh_fleet_fares p0_marsh_fleet_count p0_marsh_fleet_nextNumber p0_marsh_fleet_total p0_marsh_fleet_removedFares p0_marsh_fleet_meetings p0_marsh_plans_moves p0_marsh_plans_lengths p0_marsh_landings_cells p0_marsh_landings_count p0_marsh_fogSide p0_snapshot_reeds_states p0_snapshot_reeds_count p0_snapshot_reeds_broken p0_snapshot_fleet_numbers p0_snapshot_fleet_cells p0_snapshot_fleet_fares p0_snapshot_fleet_count p0_snapshot_fleet_nextNumber p0_snapshot_fleet_total p0_snapshot_fleet_removedFares p0_snapshot_fleet_meetings p0_snapshot_plans_moves p0_snapshot_plans_lengths p0_snapshot_landings_cells p0_snapshot_landings_count p0_snapshot_fogSide p0_history_slots p0_history_free p0_history_count p0_ways_tolls p0_ways_queue p0_ways_heap p0_ways_heapSize p0_ways_found p0_ways_improved p0_pairing_costs p0_pairing_best p0_reader_kinds p0_reader_starts p0_reader_count p0_commandText_signs p0_commandText_length p0_line_signs p0_line_length p0_spareMoves p0_snapshotTaken p0_lastErrorPosition p0_lastFailedCommand) (hp_p2 : (a2, (.inl (G.2 3, 1, .inr (.inl p2)) : va_E)) ∈ w) (hd0 : b0 + 152 ≤ a2 ∨ a2 + 1 ≤ b0) : Met l yL_setFog (Cond.codeWith yL_setFog cL_setFog 4 (some .int) [(0, 9, 12, 36)] :: gAll) ({ frames := 9, cells := 1, slots := 6, locals := 162 }) (va_Pc [.ref b0, .int x1, .ref a2] (mm_Pre G w sz)) (mm_Qi G w sz (fun r w' => r = X.1 ∧ At12 G w' b0 p0_marsh_reeds_states p0_marsh_reeds_count p0_marsh_reeds_broken p0_marsh_fleet_numbers p0_marsh_fleet_cells p0_marsh_fleet_fares p0_marsh_fleet_count p0_marsh_fleet_nextNumber p0_marsh_fleet_total p0_marsh_fleet_removedFares p0_marsh_fleet_meetings p0_marsh_plans_moves p0_marsh_plans_lengths p0_marsh_landings_cells p0_marsh_landings_count X.2.1 p0_snapshot_reeds_states p0_snapshot_reeds_count p0_snapshot_reeds_broken p0_snapshot_fleet_numbers p0_snapshot_fleet_cells p0_snapshot_fleet_fares p0_snapshot_fleet_count p0_snapshot_fleet_nextNumber p0_snapshot_fleet_total p0_snapshot_fleet_removedFares p0_snapshot_fleet_meetings p0_snapshot_plans_moves p0_snapshot_plans_lengths p0_snapshot_landings_cells p0_snapshot_landings_count p0_snapshot_fogSide X.2.2.1 X.2.2.2.1 X.2.2.2.2.1 p0_ways_tolls p0_ways_queue p0_ways_heap p0_ways_heapSize p0_ways_found p0_ways_improved p0_pairing_costs p0_pairing_best p0_reader_kinds p0_reader_starts p0_reader_count p0_commandText_signs p0_commandText_length p0_line_signs p0_line_length p0_spareMoves p0_snapshotTaken p0_lastErrorPosition p0_lastFailedCommand ∧ (a2, (.inl (G.2 3, 1, .inr (.inl X.2.2.2.2.2)) : va_E)) ∈ w' ∧ mm_fr2 w w' b0 (b0 + 152) a2 (a2 + 1))) 1 6 (va_A w sz) := by
  refine mm_hhead hfl [.ref b0, .int x1, .ref a2] (by decide +kernel) rfl (Nat.le_of_ble_eq_true rfl) ?_
  intro p e s m args below meth c A Q hsz hC hM hret hxt ls hl
  have hx := hC.1.1
  have hb := hC.1.2.1
  have hl : lv_has ls 4 [(0, .ref b0), (1, .int x1), (2, .ref a2)] := hl
  have hF : mm_fr2 w w b0 (b0 + 152) a2 (a2 + 1) := mm_fr2.rf
  rw [f_L_setFog] at hf
  refine lv_aload_n hx hb dL_setFog_0 rfl (lv_at hl 2 rfl) ?_
  refine lv_iconst (v := 0) hx hb dL_setFog_1 (by decide) ?_
  refine lv_aload_n hx hb dL_setFog_2 rfl (lv_at hl 0 rfl) ?_
  refine lv_iload_n hx hb dL_setFog_3 rfl (lv_at hl 1 rfl) ?_
  obtain ⟨q4, hq4, hf⟩ := mm_bd hf
  refine mm_xVi (rest := [.int 0, .ref a2]) hC hM (c_X12_setFog l hfl hq4 hp_p0) q4_105 q1_1 ykX12_setFog q4_102 q4_103 q4_104 hp_p0.1 rfl ⟨rfl, rfl⟩ ⟨Nat.le_of_ble_eq_true rfl, Nat.le_of_ble_eq_true rfl⟩ rfl hl.1 rfl (Nat.le_of_ble_eq_true rfl) dL_setFog_4 ⟨Nat.le_of_ble_eq_true rfl, Nat.le_of_ble_eq_true rfl⟩ (fun E ce qE w4 H locs hM hw hqE hv9 hcl9 => ?_) (fun r w4 H locs hM hw => ?_)
  · obtain ⟨hne, hE, hn_this, hfr⟩ := hw
    rw [if_neg hne] at hf
    by_cases hk0 : q4.1 = 4
    · rw [if_pos hk0] at hf
      have hEk : E = mm_ex 4 := by rw [hE, hk0]
      subst hEk
      have hp_p2 := hfr.keep hp_p2 (by omega)
      have hp_p0 := hn_this
      have hF := hF.tr (hfr.l (by omega) (by omega))
      refine vx_catch hC.1.2.2.2.1 [] ⟨0, 9, 12, 36⟩ [] hxt (fun z hz => absurd hz List.not_mem_nil) rfl (by decide) (hC.1.2.2.2.2 _ q4_101) (va_Nw.use rfl (hC.2.2.1.1.1 _ nw_castable_4)) hqE hv9 hcl9 ?_
      refine lv_astore_n (lv' := [(3, .ref qE), (0, .ref b0), (1, .int x1), (2, .ref a2)]) hx hb dL_setFog_12 rfl hl (by decide) rfl (fun ls hl => ?_)
      refine lv_iconst (v := 1) hx hb dL_setFog_13 (by decide) ?_
      cases hf
      exact hret hM dL_setFog_14 rfl ⟨rfl, hp_p0, hp_p2, hF⟩ (Nat.le_of_ble_eq_true rfl) (Nat.le_of_ble_eq_true rfl)
    rw [if_neg hk0] at hf
    cases hf
  obtain ⟨h0, hr, hn_this, hfr⟩ := hw
  rw [if_pos h0] at hf
  rw [hr]
  have hp_p2 := hfr.keep hp_p2 (by omega)
  have hp_p0 := hn_this
  have hF := hF.tr (hfr.l (by omega) (by omega))
  refine lv_i2l hx hb dL_setFog_7 rfl ?_
  refine mm_last0 hC hM hp_p2 dL_setFog_8 (fun w8 H locs hM hm => ?_)
  have hp_p0 := hp_p0.up hm (by omega)
  have hp_p2 := hm.1
  have hF := hF.tr (hm.r (by omega) (by omega))
  refine lv_goto (tgt := 15) hx hb dL_setFog_9 (by decide) ?_
  refine lv_iconst (v := 0) hx hb dL_setFog_15 (by decide) ?_
  cases hf
  exact hret hM dL_setFog_16 rfl ⟨rfl, hp_p0, hp_p2, hF⟩ (Nat.le_of_ble_eq_true rfl) (Nat.le_of_ble_eq_true rfl)
def f_L_addBoat (K : Nat) (p0_marsh_reeds_states : Nat → Int32) (p0_marsh_reeds_count : Int32) (p0_marsh_reeds_broken : Int32) (p0_marsh_fleet_numbers : Nat → Int32) (p0_marsh_fleet_cells : Nat → Int32) (p0_marsh_fleet_fares : Nat → Int32) (p0_marsh_fleet_count : Int32) (p0_marsh_fleet_nextNumber : Int32) (p0_marsh_fleet_total : Int32) (p0_marsh_fleet_removedFares : Int32) (p0_marsh_fleet_meetings : Int32) (p0_marsh_plans_moves : Nat → Int32) (p0_marsh_plans_lengths : Nat → Int32) (p0_marsh_landings_cells : Nat → Int32) (p0_marsh_landings_count : Int32) (p0_marsh_fogSide : Int32) (p0_history_slots : Nat → mm_MV) (p0_history_free : Int32) (p0_history_count : Int32) (p3 : Nat → Int64) (x1 : Int32) (x2 : Int32) : Option (Int32 × (Nat → Int32) × (Nat → Int32) × (Nat → Int32) × Int32 × Int32 × (Nat → mm_MV) × Int32 × Int32 × (Nat → Int64)) := (f_X12_addBoat K p0_marsh_reeds_states p0_marsh_reeds_count p0_marsh_reeds_broken p0_marsh_fleet_numbers p0_marsh_fleet_cells p0_marsh_fleet_fares p0_marsh_fleet_count p0_marsh_fleet_nextNumber p0_marsh_fleet_total p0_marsh_fleet_removedFares p0_marsh_fleet_meetings p0_marsh_plans_moves p0_marsh_plans_lengths p0_marsh_landings_cells p0_marsh_landings_count p0_marsh_fogSide p0_history_slots p0_history_free p0_history_count x1 x2).bind fun q5 => if q5.1 = 0 then some (0, q5.2.2.1, q5.2.2.2.1, q5.2.2.2.2.1, q5.2.2.2.2.2.1, q5.2.2.2.2.2.2.1, q5.2.2.2.2.2.2.2.1, q5.2.2.2.2.2.2.2.2.1, q5.2.2.2.2.2.2.2.2.2, (vp_updL p3 0 q5.2.1.toInt64)) else if q5.1 = 1 then some (1, q5.2.2.1, q5.2.2.2.1, q5.2.2.2.2.1, q5.2.2.2.2.2.1, q5.2.2.2.2.2.2.1, q5.2.2.2.2.2.2.2.1, q5.2.2.2.2.2.2.2.2.1, q5.2.2.2.2.2.2.2.2.2, p3) else if q5.1 = 3 then some (2, q5.2.2.1, q5.2.2.2.1, q5.2.2.2.2.1, q5.2.2.2.2.2.1, q5.2.2.2.2.2.2.1, q5.2.2.2.2.2.2.2.1, q5.2.2.2.2.2.2.2.2.1, q5.2.2.2.2.2.2.2.2.2, p3) else if q5.1 = 5 then some (3, q5.2.2.1, q5.2.2.2.1, q5.2.2.2.2.1, q5.2.2.2.2.2.1, q5.2.2.2.2.2.2.1, q5.2.2.2.2.2.2.2.1, q5.2.2.2.2.2.2.2.2.1, q5.2.2.2.2.2.2.2.2.2, p3) else none
set_option maxHeartbeats 4000000 in
set_option maxRecDepth 100000 in
theorem c_L_addBoat (l : Launch) (hfl : l.stackTraces = false) {G : mm_G} {K : Nat} {w : va_W} {sz : Nat} {b0 : Nat} {a3 : Nat} {p0_marsh_reeds_states : Nat → Int32} {p0_marsh_reeds_count : Int32} {p0_marsh_reeds_broken : Int32} {p0_marsh_fleet_numbers : Nat → Int32} {p0_marsh_fleet_cells : Nat → Int32} {p0_marsh_fleet_fares : Nat → Int32} {p0_marsh_fleet_count : Int32} {p0_marsh_fleet_nextNumber : Int32} {p0_marsh_fleet_total : Int32} {p0_marsh_fleet_removedFares : Int32} {p0_marsh_fleet_meetings : Int32} {p0_marsh_plans_moves : Nat → Int32} {p0_marsh_plans_lengths : Nat → Int32} {p0_marsh_landings_cells : Nat → Int32} {p0_marsh_landings_count : Int32} {p0_marsh_fogSide : Int32} {p0_snapshot_reeds_states : Nat → Int32} {p0_snapshot_reeds_count : Int32} {p0_snapshot_reeds_broken : Int32} {p0_snapshot_fleet_numbers : Nat → Int32} {p0_snapshot_fleet_cells : Nat → Int32} {p0_snapshot_fleet_fares : Nat → Int32} {p0_snapshot_fleet_count : Int32} {p0_snapshot_fleet_nextNumber : Int32} {p0_snapshot_fleet_total : Int32} {p0_snapshot_fleet_removedFares : Int32} {p0_snapshot_fleet_meetings : Int32} {p0_snapshot_plans_moves : Nat → Int32} {p0_snapshot_plans_lengths : Nat → Int32} {p0_snapshot_landings_cells : Nat → Int32} {p0_snapshot_landings_count : Int32} {p0_snapshot_fogSide : Int32} {p0_history_slots : Nat → mm_MV} {p0_history_free : Int32} {p0_history_count : Int32} {p0_ways_tolls : Nat → Int32} {p0_ways_queue : Nat → Int32} {p0_ways_heap : Nat → Int32} {p0_ways_heapSize : Int32} {p0_ways_found : Nat → Int32} {p0_ways_improved : Nat → Int32} {p0_pairing_costs : Nat → Int32} {p0_pairing_best : Nat → Int32} {p0_reader_kinds : Nat → Int32} {p0_reader_starts : Nat → Int32} {p0_reader_count : Int32} {p0_commandText_signs : Nat → Int32} {p0_commandText_length : Int32} {p0_line_signs : Nat → Int32} {p0_line_length : Int32} {p0_spareMoves : Nat → Int32} {p0_snapshotTaken : Int32} {p0_lastErrorPosition : Int32} {p0_lastFailedCommand : Int32} {p3 : Nat → Int64} {x1 : Int32} {x2 : Int32} {X : Int32 × (Nat → Int32) × (Nat → Int32) × (Nat → Int32) × Int32 × Int32 × (Nat → mm_MV) × Int32 × Int32 × (Nat → Int64)} (hf : f_L_addBoat K p0_marsh_reeds_states p0_marsh_reeds_count p0_marsh_reeds_broken p0_marsh_fleet_numbers p0_marsh_fleet_cells p0_marsh_fleet_fares p0_marsh_fleet_count p0_marsh_fleet_nextNumber p0_marsh_fleet_total p0_marsh_fleet_removedFares p0_marsh_fleet_meetings p0_marsh_plans_moves p0_marsh_plans_lengths p0_marsh_landings_cells p0_marsh_landings_count p0_marsh_fogSide p0_history_slots p0_history_free p0_history_count p3 x1 x2 = some X) (hp_p0 : At12 G w b0 p0_marsh_reeds_states p0_marsh_reeds_count p0_marsh_reeds_broken p0_marsh_fleet_numbers p0_marsh_fleet_cells p0_marsh_fleet_fares p0_marsh_fleet_count p0_marsh_fleet_nextNumber p0_marsh_fleet_total p0_marsh_fleet_removedFares p0_marsh_fleet_meetings p0_marsh_plans_moves p0_marsh_plans_lengths p0_marsh_landings_cells p0_marsh_landings_count p0_marsh_fogSide p0_snapshot_reeds_states p0_snapshot_reeds_count p0_snapshot_reeds_broken p0_snapshot_fleet_numbers p0_snapshot_fleet_cells p0_snapshot_fleet_fares p0_snapshot_fleet_count p0_snapshot_fleet_nextNumber p0_snapshot_fleet_total p0_snapshot_fleet_removedFares p0_snapshot_fleet_meetings p0_snapshot_plans_moves p0_snapshot_plans_lengths p0_snapshot_landings_cells p0_snapshot_landings_count p0_snapshot_fogSide p0_history_slots p0_history_free p0_history_count p0_ways_tolls p0_ways_queue p0_ways_heap p0_ways_heapSize p0_ways_found p0_ways_improved p0_pairing_costs p0_pairing_best p0_reader_kinds p0_reader_starts p0_reader_count p0_commandText_signs p0_commandText_length p0_line_signs p0_line_length p0_spareMoves p0_snapshotTaken p0_lastErrorPosition p0_lastFailedCommand) (hp_p3 : (a3, (.inl (G.2 3, 1, .inr (.inl p3)) : va_E)) ∈ w) (hd0 : b0 + 152 ≤ a3 ∨ a3 + 1 ≤ b0) : Met l yL_addBoat (Cond.codeWith yL_addBoat cL_addBoat 5 (some .int) [(0, 10, 13, 13), (0, 10, 17, 15), (0, 10, 21, 41)] :: gAll) ({ frames := 9, cells := 1, slots := 6, locals := 163 }) (va_Pc [.ref b0, .int x1, .int x2, .ref a3] (mm_Pre G w sz)) (mm_Qi G w sz (fun r w' => r = X.1 ∧ At12 G w' b0 p0_marsh_reeds_states p0_marsh_reeds_count p0_marsh_reeds_broken X.2.1 X.2.2.1 X.2.2.2.1 X.2.2.2.2.1 X.2.2.2.2.2.1 p0_marsh_fleet_total p0_marsh_fleet_removedFares p0_marsh_fleet_meetings p0_marsh_plans_moves p0_marsh_plans_lengths p0_marsh_landings_cells p0_marsh_landings_count p0_marsh_fogSide p0_snapshot_reeds_states p0_snapshot_reeds_count p0_snapshot_reeds_broken p0_snapshot_fleet_numbers p0_snapshot_fleet_cells p0_snapshot_fleet_fares p0_snapshot_fleet_count p0_snapshot_fleet_nextNumber p0_snapshot_fleet_total p0_snapshot_fleet_removedFares p0_snapshot_fleet_meetings p0_snapshot_plans_moves p0_snapshot_plans_lengths p0_snapshot_landings_cells p0_snapshot_landings_count p0_snapshot_fogSide X.2.2.2.2.2.2.1 X.2.2.2.2.2.2.2.1 X.2.2.2.2.2.2.2.2.1 p0_ways_tolls p0_ways_queue p0_ways_heap p0_ways_heapSize p0_ways_found p0_ways_improved p0_pairing_costs p0_pairing_best p0_reader_kinds p0_reader_starts p0_reader_count p0_commandText_signs p0_commandText_length p0_line_signs p0_line_length p0_spareMoves p0_snapshotTaken p0_lastErrorPosition p0_lastFailedCommand ∧ (a3, (.inl (G.2 3, 1, .inr (.inl X.2.2.2.2.2.2.2.2.2)) : va_E)) ∈ w' ∧ mm_fr2 w w' b0 (b0 + 152) a3 (a3 + 1))) 1 6 (va_A w sz) := by
  refine mm_hhead hfl [.ref b0, .int x1, .int x2, .ref a3] (by decide +kernel) rfl (Nat.le_of_ble_eq_true rfl) ?_
  intro p e s m args below meth c A Q hsz hC hM hret hxt ls hl
  have hx := hC.1.1
  have hb := hC.1.2.1
  have hl : lv_has ls 5 [(0, .ref b0), (1, .int x1), (2, .int x2), (3, .ref a3)] := hl
  have hF : mm_fr2 w w b0 (b0 + 152) a3 (a3 + 1) := mm_fr2.rf
  rw [f_L_addBoat] at hf
  refine lv_aload_n hx hb dL_addBoat_0 rfl (lv_at hl 3 rfl) ?_
  refine lv_iconst (v := 0) hx hb dL_addBoat_1 (by decide) ?_
  refine lv_aload_n hx hb dL_addBoat_2 rfl (lv_at hl 0 rfl) ?_
  refine lv_iload_n hx hb dL_addBoat_3 rfl (lv_at hl 1 rfl) ?_
  refine lv_iload_n hx hb dL_addBoat_4 rfl (lv_at hl 2 rfl) ?_
  obtain ⟨q5, hq5, hf⟩ := mm_bd hf
  refine mm_xVi (rest := [.int 0, .ref a3]) hC hM (c_X12_addBoat l hfl hq5 hp_p0) q4_117 q1_1 ykX12_addBoat q4_114 q4_115 q4_116 hp_p0.1 rfl ⟨rfl, rfl⟩ ⟨Nat.le_of_ble_eq_true rfl, Nat.le_of_ble_eq_true rfl⟩ rfl hl.1 rfl (Nat.le_of_ble_eq_true rfl) dL_addBoat_5 ⟨Nat.le_of_ble_eq_true rfl, Nat.le_of_ble_eq_true rfl⟩ (fun E ce qE w5 H locs hM hw hqE hv9 hcl9 => ?_) (fun r w5 H locs hM hw => ?_)
  · obtain ⟨hne, hE, hn_this, hfr⟩ := hw
    rw [if_neg hne] at hf
    by_cases hk0 : q5.1 = 1
    · rw [if_pos hk0] at hf
      have hEk : E = mm_ex 1 := by rw [hE, hk0]
      subst hEk
      have hp_p3 := hfr.keep hp_p3 (by omega)
      have hp_p0 := hn_this
      have hF := hF.tr (hfr.l (by omega) (by omega))
      refine vx_catch hC.1.2.2.2.1 [] ⟨0, 10, 13, 13⟩ [⟨0, 10, 17, 15⟩, ⟨0, 10, 21, 41⟩] hxt (fun z hz => absurd hz List.not_mem_nil) rfl (by decide) (hC.1.2.2.2.2 _ q3_90) (va_Nw.use rfl (hC.2.2.1.1.1 _ nw_castable_1)) hqE hv9 hcl9 ?_
      refine lv_astore (lv' := [(4, .ref qE), (0, .ref b0), (1, .int x1), (2, .int x2), (3, .ref a3)]) hx hb dL_addBoat_13 hl (by decide) rfl (fun ls hl => ?_)
      refine lv_iconst (v := 1) hx hb dL_addBoat_15 (by decide) ?_
      cases hf
      exact hret hM dL_addBoat_16 rfl ⟨rfl, hp_p0, hp_p3, hF⟩ (Nat.le_of_ble_eq_true rfl) (Nat.le_of_ble_eq_true rfl)
    rw [if_neg hk0] at hf
    by_cases hk1 : q5.1 = 3
    · rw [if_pos hk1] at hf
      have hEk : E = mm_ex 3 := by rw [hE, hk1]
      subst hEk
      have hp_p3 := hfr.keep hp_p3 (by omega)
      have hp_p0 := hn_this
      have hF := hF.tr (hfr.l (by omega) (by omega))
      refine vx_catch hC.1.2.2.2.1 [⟨0, 10, 13, 13⟩] ⟨0, 10, 17, 15⟩ [⟨0, 10, 21, 41⟩] hxt (List.forall_mem_cons.mpr ⟨Or.inr ⟨by decide, _, (hC.1.2.2.2.2 _ q3_90), hC.2.2.1.1.2.2 3 1 (by decide) (by decide) (by decide) (by decide) (by decide)⟩, (fun z hz => absurd hz List.not_mem_nil)⟩) rfl (by decide) (hC.1.2.2.2.2 _ q3_170) (va_Nw.use rfl (hC.2.2.1.1.1 _ nw_castable_3)) hqE hv9 hcl9 ?_
      refine lv_astore (lv' := [(4, .ref qE), (0, .ref b0), (1, .int x1), (2, .int x2), (3, .ref a3)]) hx hb dL_addBoat_17 hl (by decide) rfl (fun ls hl => ?_)
      refine lv_iconst (v := 2) hx hb dL_addBoat_19 (by decide) ?_
      cases hf
      exact hret hM dL_addBoat_20 rfl ⟨rfl, hp_p0, hp_p3, hF⟩ (Nat.le_of_ble_eq_true rfl) (Nat.le_of_ble_eq_true rfl)
    rw [if_neg hk1] at hf
    by_cases hk2 : q5.1 = 5
    · rw [if_pos hk2] at hf
      have hEk : E = mm_ex 5 := by rw [hE, hk2]
      subst hEk
      have hp_p3 := hfr.keep hp_p3 (by omega)
      have hp_p0 := hn_this
      have hF := hF.tr (hfr.l (by omega) (by omega))
      refine vx_catch hC.1.2.2.2.1 [⟨0, 10, 13, 13⟩, ⟨0, 10, 17, 15⟩] ⟨0, 10, 21, 41⟩ [] hxt (List.forall_mem_cons.mpr ⟨Or.inr ⟨by decide, _, (hC.1.2.2.2.2 _ q3_90), hC.2.2.1.1.2.2 5 1 (by decide) (by decide) (by decide) (by decide) (by decide)⟩, (List.forall_mem_cons.mpr ⟨Or.inr ⟨by decide, _, (hC.1.2.2.2.2 _ q3_170), hC.2.2.1.1.2.2 5 3 (by decide) (by decide) (by decide) (by decide) (by decide)⟩, (fun z hz => absurd hz List.not_mem_nil)⟩)⟩) rfl (by decide) (hC.1.2.2.2.2 _ q4_113) (va_Nw.use rfl (hC.2.2.1.1.1 _ nw_castable_5)) hqE hv9 hcl9 ?_
      refine lv_astore (lv' := [(4, .ref qE), (0, .ref b0), (1, .int x1), (2, .int x2), (3, .ref a3)]) hx hb dL_addBoat_21 hl (by decide) rfl (fun ls hl => ?_)
      refine lv_iconst (v := 3) hx hb dL_addBoat_23 (by decide) ?_
      cases hf
      exact hret hM dL_addBoat_24 rfl ⟨rfl, hp_p0, hp_p3, hF⟩ (Nat.le_of_ble_eq_true rfl) (Nat.le_of_ble_eq_true rfl)
    rw [if_neg hk2] at hf
    cases hf
  obtain ⟨h0, hr, hn_this, hfr⟩ := hw
  rw [if_pos h0] at hf
  rw [hr]
  have hp_p3 := hfr.keep hp_p3 (by omega)
  have hp_p0 := hn_this
  have hF := hF.tr (hfr.l (by omega) (by omega))
  refine lv_i2l hx hb dL_addBoat_8 rfl ?_
  refine mm_last0 hC hM hp_p3 dL_addBoat_9 (fun w9 H locs hM hm => ?_)
  have hp_p0 := hp_p0.up hm (by omega)
  have hp_p3 := hm.1
  have hF := hF.tr (hm.r (by omega) (by omega))
  refine lv_goto (tgt := 25) hx hb dL_addBoat_10 (by decide) ?_
  refine lv_iconst (v := 0) hx hb dL_addBoat_25 (by decide) ?_
  cases hf
  exact hret hM dL_addBoat_26 rfl ⟨rfl, hp_p0, hp_p3, hF⟩ (Nat.le_of_ble_eq_true rfl) (Nat.le_of_ble_eq_true rfl)
def f_L_removeBoat (K : Nat) (p0_marsh_reeds_states : Nat → Int32) (p0_marsh_reeds_count : Int32) (p0_marsh_reeds_broken : Int32) (p0_marsh_fleet_numbers : Nat → Int32) (p0_marsh_fleet_cells : Nat → Int32) (p0_marsh_fleet_fares : Nat → Int32) (p0_marsh_fleet_count : Int32) (p0_marsh_fleet_nextNumber : Int32) (p0_marsh_fleet_total : Int32) (p0_marsh_fleet_removedFares : Int32) (p0_marsh_fleet_meetings : Int32) (p0_marsh_plans_moves : Nat → Int32) (p0_marsh_plans_lengths : Nat → Int32) (p0_marsh_landings_cells : Nat → Int32) (p0_marsh_landings_count : Int32) (p0_marsh_fogSide : Int32) (p0_history_slots : Nat → mm_MV) (p0_history_free : Int32) (p0_history_count : Int32) (p2 : Nat → Int64) (x1 : Int32) : Option (Int32 × (Nat → Int32) × (Nat → Int32) × (Nat → Int32) × Int32 × Int32 × (Nat → mm_MV) × Int32 × Int32 × (Nat → Int64)) := (f_X12_removeBoat K p0_marsh_reeds_states p0_marsh_reeds_count p0_marsh_reeds_broken p0_marsh_fleet_numbers p0_marsh_fleet_cells p0_marsh_fleet_fares p0_marsh_fleet_count p0_marsh_fleet_nextNumber p0_marsh_fleet_total p0_marsh_fleet_removedFares p0_marsh_fleet_meetings p0_marsh_plans_moves p0_marsh_plans_lengths p0_marsh_landings_cells p0_marsh_landings_count p0_marsh_fogSide p0_history_slots p0_history_free p0_history_count x1).bind fun q4 => if q4.1 = 0 then some (0, q4.2.2.1, q4.2.2.2.1, q4.2.2.2.2.1, q4.2.2.2.2.2.1, q4.2.2.2.2.2.2.1, q4.2.2.2.2.2.2.2.1, q4.2.2.2.2.2.2.2.2.1, q4.2.2.2.2.2.2.2.2.2, (vp_updL p2 0 q4.2.1.toInt64)) else if q4.1 = 2 then some (1, q4.2.2.1, q4.2.2.2.1, q4.2.2.2.2.1, q4.2.2.2.2.2.1, q4.2.2.2.2.2.2.1, q4.2.2.2.2.2.2.2.1, q4.2.2.2.2.2.2.2.2.1, q4.2.2.2.2.2.2.2.2.2, p2) else none
set_option maxHeartbeats 4000000 in
set_option maxRecDepth 100000 in
theorem c_L_removeBoat (l : Launch) (hfl : l.stackTraces = false) {G : mm_G} {K : Nat} {w : va_W} {sz : Nat} {b0 : Nat} {a2 : Nat} {p0_marsh_reeds_states : Nat → Int32} {p0_marsh_reeds_count : Int32} {p0_marsh_reeds_broken : Int32} {p0_marsh_fleet_numbers : Nat → Int32} {p0_marsh_fleet_cells : Nat → Int32} {p0_marsh_fleet_fares : Nat → Int32} {p0_marsh_fleet_count : Int32} {p0_marsh_fleet_nextNumber : Int32} {p0_marsh_fleet_total : Int32} {p0_marsh_fleet_removedFares : Int32} {p0_marsh_fleet_meetings : Int32} {p0_marsh_plans_moves : Nat → Int32} {p0_marsh_plans_lengths : Nat → Int32} {p0_marsh_landings_cells : Nat → Int32} {p0_marsh_landings_count : Int32} {p0_marsh_fogSide : Int32} {p0_snapshot_reeds_states : Nat → Int32} {p0_snapshot_reeds_count : Int32} {p0_snapshot_reeds_broken : Int32} {p0_snapshot_fleet_numbers : Nat → Int32} {p0_snapshot_fleet_cells : Nat → Int32} {p0_snapshot_fleet_fares : Nat → Int32} {p0_snapshot_fleet_count : Int32} {p0_snapshot_fleet_nextNumber : Int32} {p0_snapshot_fleet_total : Int32} {p0_snapshot_fleet_removedFares : Int32} {p0_snapshot_fleet_meetings : Int32} {p0_snapshot_plans_moves : Nat → Int32} {p0_snapshot_plans_lengths : Nat → Int32} {p0_snapshot_landings_cells : Nat → Int32} {p0_snapshot_landings_count : Int32} {p0_snapshot_fogSide : Int32} {p0_history_slots : Nat → mm_MV} {p0_history_free : Int32} {p0_history_count : Int32} {p0_ways_tolls : Nat → Int32} {p0_ways_queue : Nat → Int32} {p0_ways_heap : Nat → Int32} {p0_ways_heapSize : Int32} {p0_ways_found : Nat → Int32} {p0_ways_improved : Nat → Int32} {p0_pairing_costs : Nat → Int32} {p0_pairing_best : Nat → Int32} {p0_reader_kinds : Nat → Int32} {p0_reader_starts : Nat → Int32} {p0_reader_count : Int32} {p0_commandText_signs : Nat → Int32} {p0_commandText_length : Int32} {p0_line_signs : Nat → Int32} {p0_line_length : Int32} {p0_spareMoves : Nat → Int32} {p0_snapshotTaken : Int32} {p0_lastErrorPosition : Int32} {p0_lastFailedCommand : Int32} {p2 : Nat → Int64} {x1 : Int32} {X : Int32 × (Nat → Int32) × (Nat → Int32) × (Nat → Int32) × Int32 × Int32 × (Nat → mm_MV) × Int32 × Int32 × (Nat → Int64)} (hf : f_L_removeBoat K p0_marsh_reeds_states p0_marsh_reeds_count p0_marsh_reeds_broken p0_marsh_fleet_numbers p0_marsh_fleet_cells p0_marsh_fleet_fares p0_marsh_fleet_count p0_marsh_fleet_nextNumber p0_marsh_fleet_total p0_marsh_fleet_removedFares p0_marsh_fleet_meetings p0_marsh_plans_moves p0_marsh_plans_lengths p0_marsh_landings_cells p0_marsh_landings_count p0_marsh_fogSide p0_history_slots p0_history_free p0_history_count p2 x1 = some X) (hp_p0 : At12 G w b0 p0_marsh_reeds_states p0_marsh_reeds_count p0_marsh_reeds_broken p0_marsh_fleet_numbers p0_marsh_fleet_cells p0_marsh_fleet_fares p0_marsh_fleet_count p0_marsh_fleet_nextNumber p0_marsh_fleet_total p0_marsh_fleet_removedFares p0_marsh_fleet_meetings p0_marsh_plans_moves p0_marsh_plans_lengths p0_marsh_landings_cells p0_marsh_landings_count p0_marsh_fogSide p0_snapshot_reeds_states p0_snapshot_reeds_count p0_snapshot_reeds_broken p0_snapshot_fleet_numbers p0_snapshot_fleet_cells p0_snapshot_fleet_fares p0_snapshot_fleet_count p0_snapshot_fleet_nextNumber p0_snapshot_fleet_total p0_snapshot_fleet_removedFares p0_snapshot_fleet_meetings p0_snapshot_plans_moves p0_snapshot_plans_lengths p0_snapshot_landings_cells p0_snapshot_landings_count p0_snapshot_fogSide p0_history_slots p0_history_free p0_history_count p0_ways_tolls p0_ways_queue p0_ways_heap p0_ways_heapSize p0_ways_found p0_ways_improved p0_pairing_costs p0_pairing_best p0_reader_kinds p0_reader_starts p0_reader_count p0_commandText_signs p0_commandText_length p0_line_signs p0_line_length p0_spareMoves p0_snapshotTaken p0_lastErrorPosition p0_lastFailedCommand) (hp_p2 : (a2, (.inl (G.2 3, 1, .inr (.inl p2)) : va_E)) ∈ w) (hd0 : b0 + 152 ≤ a2 ∨ a2 + 1 ≤ b0) : Met l yL_removeBoat (Cond.codeWith yL_removeBoat cL_removeBoat 4 (some .int) [(0, 9, 12, 20)] :: gAll) ({ frames := 9, cells := 1, slots := 6, locals := 162 }) (va_Pc [.ref b0, .int x1, .ref a2] (mm_Pre G w sz)) (mm_Qi G w sz (fun r w' => r = X.1 ∧ At12 G w' b0 p0_marsh_reeds_states p0_marsh_reeds_count p0_marsh_reeds_broken X.2.1 X.2.2.1 X.2.2.2.1 X.2.2.2.2.1 p0_marsh_fleet_nextNumber p0_marsh_fleet_total X.2.2.2.2.2.1 p0_marsh_fleet_meetings p0_marsh_plans_moves p0_marsh_plans_lengths p0_marsh_landings_cells p0_marsh_landings_count p0_marsh_fogSide p0_snapshot_reeds_states p0_snapshot_reeds_count p0_snapshot_reeds_broken p0_snapshot_fleet_numbers p0_snapshot_fleet_cells p0_snapshot_fleet_fares p0_snapshot_fleet_count p0_snapshot_fleet_nextNumber p0_snapshot_fleet_total p0_snapshot_fleet_removedFares p0_snapshot_fleet_meetings p0_snapshot_plans_moves p0_snapshot_plans_lengths p0_snapshot_landings_cells p0_snapshot_landings_count p0_snapshot_fogSide X.2.2.2.2.2.2.1 X.2.2.2.2.2.2.2.1 X.2.2.2.2.2.2.2.2.1 p0_ways_tolls p0_ways_queue p0_ways_heap p0_ways_heapSize p0_ways_found p0_ways_improved p0_pairing_costs p0_pairing_best p0_reader_kinds p0_reader_starts p0_reader_count p0_commandText_signs p0_commandText_length p0_line_signs p0_line_length p0_spareMoves p0_snapshotTaken p0_lastErrorPosition p0_lastFailedCommand ∧ (a2, (.inl (G.2 3, 1, .inr (.inl X.2.2.2.2.2.2.2.2.2)) : va_E)) ∈ w' ∧ mm_fr2 w w' b0 (b0 + 152) a2 (a2 + 1))) 1 6 (va_A w sz) := by
  refine mm_hhead hfl [.ref b0, .int x1, .ref a2] (by decide +kernel) rfl (Nat.le_of_ble_eq_true rfl) ?_
  intro p e s m args below meth c A Q hsz hC hM hret hxt ls hl
  have hx := hC.1.1
  have hb := hC.1.2.1
  have hl : lv_has ls 4 [(0, .ref b0), (1, .int x1), (2, .ref a2)] := hl
  have hF : mm_fr2 w w b0 (b0 + 152) a2 (a2 + 1) := mm_fr2.rf
  rw [f_L_removeBoat] at hf
  refine lv_aload_n hx hb dL_removeBoat_0 rfl (lv_at hl 2 rfl) ?_
  refine lv_iconst (v := 0) hx hb dL_removeBoat_1 (by decide) ?_
  refine lv_aload_n hx hb dL_removeBoat_2 rfl (lv_at hl 0 rfl) ?_
  refine lv_iload_n hx hb dL_removeBoat_3 rfl (lv_at hl 1 rfl) ?_
  obtain ⟨q4, hq4, hf⟩ := mm_bd hf
  refine mm_xVi (rest := [.int 0, .ref a2]) hC hM (c_X12_removeBoat l hfl hq4 hp_p0) q4_133 q1_1 ykX12_removeBoat q4_130 q4_131 q4_132 hp_p0.1 rfl ⟨rfl, rfl⟩ ⟨Nat.le_of_ble_eq_true rfl, Nat.le_of_ble_eq_true rfl⟩ rfl hl.1 rfl (Nat.le_of_ble_eq_true rfl) dL_removeBoat_4 ⟨Nat.le_of_ble_eq_true rfl, Nat.le_of_ble_eq_true rfl⟩ (fun E ce qE w4 H locs hM hw hqE hv9 hcl9 => ?_) (fun r w4 H locs hM hw => ?_)
  · obtain ⟨hne, hE, hn_this, hfr⟩ := hw
    rw [if_neg hne] at hf
    by_cases hk0 : q4.1 = 2
    · rw [if_pos hk0] at hf
      have hEk : E = mm_ex 2 := by rw [hE, hk0]
      subst hEk
      have hp_p2 := hfr.keep hp_p2 (by omega)
      have hp_p0 := hn_this
      have hF := hF.tr (hfr.l (by omega) (by omega))
      refine vx_catch hC.1.2.2.2.1 [] ⟨0, 9, 12, 20⟩ [] hxt (fun z hz => absurd hz List.not_mem_nil) rfl (by decide) (hC.1.2.2.2.2 _ q4_51) (va_Nw.use rfl (hC.2.2.1.1.1 _ nw_castable_2)) hqE hv9 hcl9 ?_
      refine lv_astore_n (lv' := [(3, .ref qE), (0, .ref b0), (1, .int x1), (2, .ref a2)]) hx hb dL_removeBoat_12 rfl hl (by decide) rfl (fun ls hl => ?_)
      refine lv_iconst (v := 1) hx hb dL_removeBoat_13 (by decide) ?_
      cases hf
      exact hret hM dL_removeBoat_14 rfl ⟨rfl, hp_p0, hp_p2, hF⟩ (Nat.le_of_ble_eq_true rfl) (Nat.le_of_ble_eq_true rfl)
    rw [if_neg hk0] at hf
    cases hf
  obtain ⟨h0, hr, hn_this, hfr⟩ := hw
  rw [if_pos h0] at hf
  rw [hr]
  have hp_p2 := hfr.keep hp_p2 (by omega)
  have hp_p0 := hn_this
  have hF := hF.tr (hfr.l (by omega) (by omega))
  refine lv_i2l hx hb dL_removeBoat_7 rfl ?_
  refine mm_last0 hC hM hp_p2 dL_removeBoat_8 (fun w8 H locs hM hm => ?_)
  have hp_p0 := hp_p0.up hm (by omega)
  have hp_p2 := hm.1
  have hF := hF.tr (hm.r (by omega) (by omega))
  refine lv_goto (tgt := 15) hx hb dL_removeBoat_9 (by decide) ?_
  refine lv_iconst (v := 0) hx hb dL_removeBoat_15 (by decide) ?_
  cases hf
  exact hret hM dL_removeBoat_16 rfl ⟨rfl, hp_p0, hp_p2, hF⟩ (Nat.le_of_ble_eq_true rfl) (Nat.le_of_ble_eq_true rfl)
def f_L_boatAt (p0_marsh_fleet_numbers : Nat → Int32) (p0_marsh_fleet_count : Int32) (p2 : Nat → Int64) (x1 : Int32) : Option (Int32 × (Nat → Int64)) := (f_X12_boatAt p0_marsh_fleet_numbers p0_marsh_fleet_count x1).bind fun q4 => if q4.1 = 0 then some (0, (vp_updL p2 0 q4.2.toInt64)) else if q4.1 = 1 then some (1, p2) else none
set_option maxHeartbeats 4000000 in
set_option maxRecDepth 100000 in
theorem c_L_boatAt (l : Launch) (hfl : l.stackTraces = false) {G : mm_G} {w : va_W} {sz : Nat} {b0 : Nat} {a2 : Nat} {p0_marsh_reeds_states : Nat → Int32} {p0_marsh_reeds_count : Int32} {p0_marsh_reeds_broken : Int32} {p0_marsh_fleet_numbers : Nat → Int32} {p0_marsh_fleet_cells : Nat → Int32} {p0_marsh_fleet_fares : Nat → Int32} {p0_marsh_fleet_count : Int32} {p0_marsh_fleet_nextNumber : Int32} {p0_marsh_fleet_total : Int32} {p0_marsh_fleet_removedFares : Int32} {p0_marsh_fleet_meetings : Int32} {p0_marsh_plans_moves : Nat → Int32} {p0_marsh_plans_lengths : Nat → Int32} {p0_marsh_landings_cells : Nat → Int32} {p0_marsh_landings_count : Int32} {p0_marsh_fogSide : Int32} {p0_snapshot_reeds_states : Nat → Int32} {p0_snapshot_reeds_count : Int32} {p0_snapshot_reeds_broken : Int32} {p0_snapshot_fleet_numbers : Nat → Int32} {p0_snapshot_fleet_cells : Nat → Int32} {p0_snapshot_fleet_fares : Nat → Int32} {p0_snapshot_fleet_count : Int32} {p0_snapshot_fleet_nextNumber : Int32} {p0_snapshot_fleet_total : Int32} {p0_snapshot_fleet_removedFares : Int32} {p0_snapshot_fleet_meetings : Int32} {p0_snapshot_plans_moves : Nat → Int32} {p0_snapshot_plans_lengths : Nat → Int32} {p0_snapshot_landings_cells : Nat → Int32} {p0_snapshot_landings_count : Int32} {p0_snapshot_fogSide : Int32} {p0_history_slots : Nat → mm_MV} {p0_history_free : Int32} {p0_history_count : Int32} {p0_ways_tolls : Nat → Int32} {p0_ways_queue : Nat → Int32} {p0_ways_heap : Nat → Int32} {p0_ways_heapSize : Int32} {p0_ways_found : Nat → Int32} {p0_ways_improved : Nat → Int32} {p0_pairing_costs : Nat → Int32} {p0_pairing_best : Nat → Int32} {p0_reader_kinds : Nat → Int32} {p0_reader_starts : Nat → Int32} {p0_reader_count : Int32} {p0_commandText_signs : Nat → Int32} {p0_commandText_length : Int32} {p0_line_signs : Nat → Int32} {p0_line_length : Int32} {p0_spareMoves : Nat → Int32} {p0_snapshotTaken : Int32} {p0_lastErrorPosition : Int32} {p0_lastFailedCommand : Int32} {p2 : Nat → Int64} {x1 : Int32} {X : Int32 × (Nat → Int64)} (hf : f_L_boatAt p0_marsh_fleet_numbers p0_marsh_fleet_count p2 x1 = some X) (hp_p0 : At12 G w b0 p0_marsh_reeds_states p0_marsh_reeds_count p0_marsh_reeds_broken p0_marsh_fleet_numbers p0_marsh_fleet_cells p0_marsh_fleet_fares p0_marsh_fleet_count p0_marsh_fleet_nextNumber p0_marsh_fleet_total p0_marsh_fleet_removedFares p0_marsh_fleet_meetings p0_marsh_plans_moves p0_marsh_plans_lengths p0_marsh_landings_cells p0_marsh_landings_count p0_marsh_fogSide p0_snapshot_reeds_states p0_snapshot_reeds_count p0_snapshot_reeds_broken p0_snapshot_fleet_numbers p0_snapshot_fleet_cells p0_snapshot_fleet_fares p0_snapshot_fleet_count p0_snapshot_fleet_nextNumber p0_snapshot_fleet_total p0_snapshot_fleet_removedFares p0_snapshot_fleet_meetings p0_snapshot_plans_moves p0_snapshot_plans_lengths p0_snapshot_landings_cells p0_snapshot_landings_count p0_snapshot_fogSide p0_history_slots p0_history_free p0_history_count p0_ways_tolls p0_ways_queue p0_ways_heap p0_ways_heapSize p0_ways_found p0_ways_improved p0_pairing_costs p0_pairing_best p0_reader_kinds p0_reader_starts p0_reader_count p0_commandText_signs p0_commandText_length p0_line_signs p0_line_length p0_spareMoves p0_snapshotTaken p0_lastErrorPosition p0_lastFailedCommand) (hp_p2 : (a2, (.inl (G.2 3, 1, .inr (.inl p2)) : va_E)) ∈ w) (hd0 : b0 + 152 ≤ a2 ∨ a2 + 1 ≤ b0) : Met l yL_boatAt (Cond.codeWith yL_boatAt cL_boatAt 4 (some .int) [(0, 9, 12, 13)] :: gAll) ({ frames := 8, cells := 1, slots := 6, locals := 141 }) (va_Pc [.ref b0, .int x1, .ref a2] (mm_Pre G w sz)) (mm_Qi G w sz (fun r w' => r = X.1 ∧ (a2, (.inl (G.2 3, 1, .inr (.inl X.2)) : va_E)) ∈ w' ∧ mm_fr w w' a2 (a2 + 1))) 1 6 (va_A w sz) := by
  refine mm_hhead hfl [.ref b0, .int x1, .ref a2] (by decide +kernel) rfl (Nat.le_of_ble_eq_true rfl) ?_
  intro p e s m args below meth c A Q hsz hC hM hret hxt ls hl
  have hx := hC.1.1
  have hb := hC.1.2.1
  have hl : lv_has ls 4 [(0, .ref b0), (1, .int x1), (2, .ref a2)] := hl
  have hF : mm_fr w w a2 (a2 + 1) := mm_fr.rf
  rw [f_L_boatAt] at hf
  refine lv_aload_n hx hb dL_boatAt_0 rfl (lv_at hl 2 rfl) ?_
  refine lv_iconst (v := 0) hx hb dL_boatAt_1 (by decide) ?_
  refine lv_aload_n hx hb dL_boatAt_2 rfl (lv_at hl 0 rfl) ?_
  refine lv_iload_n hx hb dL_boatAt_3 rfl (lv_at hl 1 rfl) ?_
  obtain ⟨q4, hq4, hf⟩ := mm_bd hf
  refine mm_xVi (rest := [.int 0, .ref a2]) hC hM (c_X12_boatAt l hfl hq4 hp_p0) q4_148 q1_1 ykX12_boatAt q4_145 q4_146 q4_147 hp_p0.1 rfl ⟨rfl, rfl⟩ ⟨Nat.le_of_ble_eq_true rfl, Nat.le_of_ble_eq_true rfl⟩ rfl hl.1 rfl (Nat.le_of_ble_eq_true rfl) dL_boatAt_4 ⟨Nat.le_of_ble_eq_true rfl, Nat.le_of_ble_eq_true rfl⟩ (fun E ce qE w4 H locs hM hw hqE hv9 hcl9 => ?_) (fun r w4 H locs hM hw => ?_)
  · obtain ⟨hne, hE, hw⟩ := hw
    rw [if_neg hne] at hf
    by_cases hk0 : q4.1 = 1
    · rw [if_pos hk0] at hf
      have hEk : E = mm_ex 1 := by rw [hE, hk0]
      subst hEk
      rw [hw] at hM
      refine vx_catch hC.1.2.2.2.1 [] ⟨0, 9, 12, 13⟩ [] hxt (fun z hz => absurd hz List.not_mem_nil) rfl (by decide) (hC.1.2.2.2.2 _ q3_90) (va_Nw.use rfl (hC.2.2.1.1.1 _ nw_castable_1)) hqE hv9 hcl9 ?_
      refine lv_astore_n (lv' := [(3, .ref qE), (0, .ref b0), (1, .int x1), (2, .ref a2)]) hx hb dL_boatAt_12 rfl hl (by decide) rfl (fun ls hl => ?_)
      refine lv_iconst (v := 1) hx hb dL_boatAt_13 (by decide) ?_
      cases hf
      exact hret hM dL_boatAt_14 rfl ⟨rfl, hp_p2, hF⟩ (Nat.le_of_ble_eq_true rfl) (Nat.le_of_ble_eq_true rfl)
    rw [if_neg hk0] at hf
    cases hf
  obtain ⟨h0, hr, hw⟩ := hw
  rw [if_pos h0] at hf
  rw [hr]
  rw [hw] at hM
  refine lv_i2l hx hb dL_boatAt_7 rfl ?_
  refine mm_last0 hC hM hp_p2 dL_boatAt_8 (fun w8 H locs hM hm => ?_)
  have hp_p0 := hp_p0.up hm (by omega)
  have hp_p2 := hm.1
  have hF := hF.tr (hm.fr (by omega) (by omega))
  refine lv_goto (tgt := 15) hx hb dL_boatAt_9 (by decide) ?_
  refine lv_iconst (v := 0) hx hb dL_boatAt_15 (by decide) ?_
  cases hf
  exact hret hM dL_boatAt_16 rfl ⟨rfl, hp_p2, hF⟩ (Nat.le_of_ble_eq_true rfl) (Nat.le_of_ble_eq_true rfl)
def f_L_columnOf (K : Nat) (p0_marsh_fleet_numbers : Nat → Int32) (p0_marsh_fleet_cells : Nat → Int32) (p0_marsh_fleet_count : Int32) (p2 : Nat → Int64) (x1 : Int32) : Option (Int32 × (Nat → Int64)) := (f_X12_columnOf K p0_marsh_fleet_numbers p0_marsh_fleet_cells p0_marsh_fleet_count x1).bind fun q4 => if q4.1 = 0 then some (0, (vp_updL p2 0 q4.2.toInt64)) else if q4.1 = 2 then some (1, p2) else none
set_option maxHeartbeats 4000000 in
set_option maxRecDepth 100000 in
theorem c_L_columnOf (l : Launch) (hfl : l.stackTraces = false) {G : mm_G} {K : Nat} {w : va_W} {sz : Nat} {b0 : Nat} {a2 : Nat} {p0_marsh_reeds_states : Nat → Int32} {p0_marsh_reeds_count : Int32} {p0_marsh_reeds_broken : Int32} {p0_marsh_fleet_numbers : Nat → Int32} {p0_marsh_fleet_cells : Nat → Int32} {p0_marsh_fleet_fares : Nat → Int32} {p0_marsh_fleet_count : Int32} {p0_marsh_fleet_nextNumber : Int32} {p0_marsh_fleet_total : Int32} {p0_marsh_fleet_removedFares : Int32} {p0_marsh_fleet_meetings : Int32} {p0_marsh_plans_moves : Nat → Int32} {p0_marsh_plans_lengths : Nat → Int32} {p0_marsh_landings_cells : Nat → Int32} {p0_marsh_landings_count : Int32} {p0_marsh_fogSide : Int32} {p0_snapshot_reeds_states : Nat → Int32} {p0_snapshot_reeds_count : Int32} {p0_snapshot_reeds_broken : Int32} {p0_snapshot_fleet_numbers : Nat → Int32} {p0_snapshot_fleet_cells : Nat → Int32} {p0_snapshot_fleet_fares : Nat → Int32} {p0_snapshot_fleet_count : Int32} {p0_snapshot_fleet_nextNumber : Int32} {p0_snapshot_fleet_total : Int32} {p0_snapshot_fleet_removedFares : Int32} {p0_snapshot_fleet_meetings : Int32} {p0_snapshot_plans_moves : Nat → Int32} {p0_snapshot_plans_lengths : Nat → Int32} {p0_snapshot_landings_cells : Nat → Int32} {p0_snapshot_landings_count : Int32} {p0_snapshot_fogSide : Int32} {p0_history_slots : Nat → mm_MV} {p0_history_free : Int32} {p0_history_count : Int32} {p0_ways_tolls : Nat → Int32} {p0_ways_queue : Nat → Int32} {p0_ways_heap : Nat → Int32} {p0_ways_heapSize : Int32} {p0_ways_found : Nat → Int32} {p0_ways_improved : Nat → Int32} {p0_pairing_costs : Nat → Int32} {p0_pairing_best : Nat → Int32} {p0_reader_kinds : Nat → Int32} {p0_reader_starts : Nat → Int32} {p0_reader_count : Int32} {p0_commandText_signs : Nat → Int32} {p0_commandText_length : Int32} {p0_line_signs : Nat → Int32} {p0_line_length : Int32} {p0_spareMoves : Nat → Int32} {p0_snapshotTaken : Int32} {p0_lastErrorPosition : Int32} {p0_lastFailedCommand : Int32} {p2 : Nat → Int64} {x1 : Int32} {X : Int32 × (Nat → Int64)} (hf : f_L_columnOf K p0_marsh_fleet_numbers p0_marsh_fleet_cells p0_marsh_fleet_count p2 x1 = some X) (hp_p0 : At12 G w b0 p0_marsh_reeds_states p0_marsh_reeds_count p0_marsh_reeds_broken p0_marsh_fleet_numbers p0_marsh_fleet_cells p0_marsh_fleet_fares p0_marsh_fleet_count p0_marsh_fleet_nextNumber p0_marsh_fleet_total p0_marsh_fleet_removedFares p0_marsh_fleet_meetings p0_marsh_plans_moves p0_marsh_plans_lengths p0_marsh_landings_cells p0_marsh_landings_count p0_marsh_fogSide p0_snapshot_reeds_states p0_snapshot_reeds_count p0_snapshot_reeds_broken p0_snapshot_fleet_numbers p0_snapshot_fleet_cells p0_snapshot_fleet_fares p0_snapshot_fleet_count p0_snapshot_fleet_nextNumber p0_snapshot_fleet_total p0_snapshot_fleet_removedFares p0_snapshot_fleet_meetings p0_snapshot_plans_moves p0_snapshot_plans_lengths p0_snapshot_landings_cells p0_snapshot_landings_count p0_snapshot_fogSide p0_history_slots p0_history_free p0_history_count p0_ways_tolls p0_ways_queue p0_ways_heap p0_ways_heapSize p0_ways_found p0_ways_improved p0_pairing_costs p0_pairing_best p0_reader_kinds p0_reader_starts p0_reader_count p0_commandText_signs p0_commandText_length p0_line_signs p0_line_length p0_spareMoves p0_snapshotTaken p0_lastErrorPosition p0_lastFailedCommand) (hp_p2 : (a2, (.inl (G.2 3, 1, .inr (.inl p2)) : va_E)) ∈ w) (hd0 : b0 + 152 ≤ a2 ∨ a2 + 1 ≤ b0) : Met l yL_columnOf (Cond.codeWith yL_columnOf cL_columnOf 4 (some .int) [(0, 9, 12, 20)] :: gAll) ({ frames := 9, cells := 1, slots := 6, locals := 163 }) (va_Pc [.ref b0, .int x1, .ref a2] (mm_Pre G w sz)) (mm_Qi G w sz (fun r w' => r = X.1 ∧ (a2, (.inl (G.2 3, 1, .inr (.inl X.2)) : va_E)) ∈ w' ∧ mm_fr w w' a2 (a2 + 1))) 1 6 (va_A w sz) := by
  refine mm_hhead hfl [.ref b0, .int x1, .ref a2] (by decide +kernel) rfl (Nat.le_of_ble_eq_true rfl) ?_
  intro p e s m args below meth c A Q hsz hC hM hret hxt ls hl
  have hx := hC.1.1
  have hb := hC.1.2.1
  have hl : lv_has ls 4 [(0, .ref b0), (1, .int x1), (2, .ref a2)] := hl
  have hF : mm_fr w w a2 (a2 + 1) := mm_fr.rf
  rw [f_L_columnOf] at hf
  refine lv_aload_n hx hb dL_columnOf_0 rfl (lv_at hl 2 rfl) ?_
  refine lv_iconst (v := 0) hx hb dL_columnOf_1 (by decide) ?_
  refine lv_aload_n hx hb dL_columnOf_2 rfl (lv_at hl 0 rfl) ?_
  refine lv_iload_n hx hb dL_columnOf_3 rfl (lv_at hl 1 rfl) ?_
  obtain ⟨q4, hq4, hf⟩ := mm_bd hf
  refine mm_xVi (rest := [.int 0, .ref a2]) hC hM (c_X12_columnOf l hfl hq4 hp_p0) q4_155 q1_1 ykX12_columnOf q4_152 q4_153 q4_154 hp_p0.1 rfl ⟨rfl, rfl⟩ ⟨Nat.le_of_ble_eq_true rfl, Nat.le_of_ble_eq_true rfl⟩ rfl hl.1 rfl (Nat.le_of_ble_eq_true rfl) dL_columnOf_4 ⟨Nat.le_of_ble_eq_true rfl, Nat.le_of_ble_eq_true rfl⟩ (fun E ce qE w4 H locs hM hw hqE hv9 hcl9 => ?_) (fun r w4 H locs hM hw => ?_)
  · obtain ⟨hne, hE, hw⟩ := hw
    rw [if_neg hne] at hf
    by_cases hk0 : q4.1 = 2
    · rw [if_pos hk0] at hf
      have hEk : E = mm_ex 2 := by rw [hE, hk0]
      subst hEk
      rw [hw] at hM
      refine vx_catch hC.1.2.2.2.1 [] ⟨0, 9, 12, 20⟩ [] hxt (fun z hz => absurd hz List.not_mem_nil) rfl (by decide) (hC.1.2.2.2.2 _ q4_51) (va_Nw.use rfl (hC.2.2.1.1.1 _ nw_castable_2)) hqE hv9 hcl9 ?_
      refine lv_astore_n (lv' := [(3, .ref qE), (0, .ref b0), (1, .int x1), (2, .ref a2)]) hx hb dL_columnOf_12 rfl hl (by decide) rfl (fun ls hl => ?_)
      refine lv_iconst (v := 1) hx hb dL_columnOf_13 (by decide) ?_
      cases hf
      exact hret hM dL_columnOf_14 rfl ⟨rfl, hp_p2, hF⟩ (Nat.le_of_ble_eq_true rfl) (Nat.le_of_ble_eq_true rfl)
    rw [if_neg hk0] at hf
    cases hf
  obtain ⟨h0, hr, hw⟩ := hw
  rw [if_pos h0] at hf
  rw [hr]
  rw [hw] at hM
  refine lv_i2l hx hb dL_columnOf_7 rfl ?_
  refine mm_last0 hC hM hp_p2 dL_columnOf_8 (fun w8 H locs hM hm => ?_)
  have hp_p0 := hp_p0.up hm (by omega)
  have hp_p2 := hm.1
  have hF := hF.tr (hm.fr (by omega) (by omega))
  refine lv_goto (tgt := 15) hx hb dL_columnOf_9 (by decide) ?_
  refine lv_iconst (v := 0) hx hb dL_columnOf_15 (by decide) ?_
  cases hf
  exact hret hM dL_columnOf_16 rfl ⟨rfl, hp_p2, hF⟩ (Nat.le_of_ble_eq_true rfl) (Nat.le_of_ble_eq_true rfl)
def f_L_rowOf (K : Nat) (p0_marsh_fleet_numbers : Nat → Int32) (p0_marsh_fleet_cells : Nat → Int32) (p0_marsh_fleet_count : Int32) (p2 : Nat → Int64) (x1 : Int32) : Option (Int32 × (Nat → Int64)) := (f_X12_rowOf K p0_marsh_fleet_numbers p0_marsh_fleet_cells p0_marsh_fleet_count x1).bind fun q4 => if q4.1 = 0 then some (0, (vp_updL p2 0 q4.2.toInt64)) else if q4.1 = 2 then some (1, p2) else none
set_option maxHeartbeats 4000000 in
set_option maxRecDepth 100000 in
theorem c_L_rowOf (l : Launch) (hfl : l.stackTraces = false) {G : mm_G} {K : Nat} {w : va_W} {sz : Nat} {b0 : Nat} {a2 : Nat} {p0_marsh_reeds_states : Nat → Int32} {p0_marsh_reeds_count : Int32} {p0_marsh_reeds_broken : Int32} {p0_marsh_fleet_numbers : Nat → Int32} {p0_marsh_fleet_cells : Nat → Int32} {p0_marsh_fleet_fares : Nat → Int32} {p0_marsh_fleet_count : Int32} {p0_marsh_fleet_nextNumber : Int32} {p0_marsh_fleet_total : Int32} {p0_marsh_fleet_removedFares : Int32} {p0_marsh_fleet_meetings : Int32} {p0_marsh_plans_moves : Nat → Int32} {p0_marsh_plans_lengths : Nat → Int32} {p0_marsh_landings_cells : Nat → Int32} {p0_marsh_landings_count : Int32} {p0_marsh_fogSide : Int32} {p0_snapshot_reeds_states : Nat → Int32} {p0_snapshot_reeds_count : Int32} {p0_snapshot_reeds_broken : Int32} {p0_snapshot_fleet_numbers : Nat → Int32} {p0_snapshot_fleet_cells : Nat → Int32} {p0_snapshot_fleet_fares : Nat → Int32} {p0_snapshot_fleet_count : Int32} {p0_snapshot_fleet_nextNumber : Int32} {p0_snapshot_fleet_total : Int32} {p0_snapshot_fleet_removedFares : Int32} {p0_snapshot_fleet_meetings : Int32} {p0_snapshot_plans_moves : Nat → Int32} {p0_snapshot_plans_lengths : Nat → Int32} {p0_snapshot_landings_cells : Nat → Int32} {p0_snapshot_landings_count : Int32} {p0_snapshot_fogSide : Int32} {p0_history_slots : Nat → mm_MV} {p0_history_free : Int32} {p0_history_count : Int32} {p0_ways_tolls : Nat → Int32} {p0_ways_queue : Nat → Int32} {p0_ways_heap : Nat → Int32} {p0_ways_heapSize : Int32} {p0_ways_found : Nat → Int32} {p0_ways_improved : Nat → Int32} {p0_pairing_costs : Nat → Int32} {p0_pairing_best : Nat → Int32} {p0_reader_kinds : Nat → Int32} {p0_reader_starts : Nat → Int32} {p0_reader_count : Int32} {p0_commandText_signs : Nat → Int32} {p0_commandText_length : Int32} {p0_line_signs : Nat → Int32} {p0_line_length : Int32} {p0_spareMoves : Nat → Int32} {p0_snapshotTaken : Int32} {p0_lastErrorPosition : Int32} {p0_lastFailedCommand : Int32} {p2 : Nat → Int64} {x1 : Int32} {X : Int32 × (Nat → Int64)} (hf : f_L_rowOf K p0_marsh_fleet_numbers p0_marsh_fleet_cells p0_marsh_fleet_count p2 x1 = some X) (hp_p0 : At12 G w b0 p0_marsh_reeds_states p0_marsh_reeds_count p0_marsh_reeds_broken p0_marsh_fleet_numbers p0_marsh_fleet_cells p0_marsh_fleet_fares p0_marsh_fleet_count p0_marsh_fleet_nextNumber p0_marsh_fleet_total p0_marsh_fleet_removedFares p0_marsh_fleet_meetings p0_marsh_plans_moves p0_marsh_plans_lengths p0_marsh_landings_cells p0_marsh_landings_count p0_marsh_fogSide p0_snapshot_reeds_states p0_snapshot_reeds_count p0_snapshot_reeds_broken p0_snapshot_fleet_numbers p0_snapshot_fleet_cells p0_snapshot_fleet_fares p0_snapshot_fleet_count p0_snapshot_fleet_nextNumber p0_snapshot_fleet_total p0_snapshot_fleet_removedFares p0_snapshot_fleet_meetings p0_snapshot_plans_moves p0_snapshot_plans_lengths p0_snapshot_landings_cells p0_snapshot_landings_count p0_snapshot_fogSide p0_history_slots p0_history_free p0_history_count p0_ways_tolls p0_ways_queue p0_ways_heap p0_ways_heapSize p0_ways_found p0_ways_improved p0_pairing_costs p0_pairing_best p0_reader_kinds p0_reader_starts p0_reader_count p0_commandText_signs p0_commandText_length p0_line_signs p0_line_length p0_spareMoves p0_snapshotTaken p0_lastErrorPosition p0_lastFailedCommand) (hp_p2 : (a2, (.inl (G.2 3, 1, .inr (.inl p2)) : va_E)) ∈ w) (hd0 : b0 + 152 ≤ a2 ∨ a2 + 1 ≤ b0) : Met l yL_rowOf (Cond.codeWith yL_rowOf cL_rowOf 4 (some .int) [(0, 9, 12, 20)] :: gAll) ({ frames := 9, cells := 1, slots := 6, locals := 163 }) (va_Pc [.ref b0, .int x1, .ref a2] (mm_Pre G w sz)) (mm_Qi G w sz (fun r w' => r = X.1 ∧ (a2, (.inl (G.2 3, 1, .inr (.inl X.2)) : va_E)) ∈ w' ∧ mm_fr w w' a2 (a2 + 1))) 1 6 (va_A w sz) := by
  refine mm_hhead hfl [.ref b0, .int x1, .ref a2] (by decide +kernel) rfl (Nat.le_of_ble_eq_true rfl) ?_
  intro p e s m args below meth c A Q hsz hC hM hret hxt ls hl
  have hx := hC.1.1
  have hb := hC.1.2.1
  have hl : lv_has ls 4 [(0, .ref b0), (1, .int x1), (2, .ref a2)] := hl
  have hF : mm_fr w w a2 (a2 + 1) := mm_fr.rf
  rw [f_L_rowOf] at hf
  refine lv_aload_n hx hb dL_rowOf_0 rfl (lv_at hl 2 rfl) ?_
  refine lv_iconst (v := 0) hx hb dL_rowOf_1 (by decide) ?_
  refine lv_aload_n hx hb dL_rowOf_2 rfl (lv_at hl 0 rfl) ?_
  refine lv_iload_n hx hb dL_rowOf_3 rfl (lv_at hl 1 rfl) ?_
  obtain ⟨q4, hq4, hf⟩ := mm_bd hf
  refine mm_xVi (rest := [.int 0, .ref a2]) hC hM (c_X12_rowOf l hfl hq4 hp_p0) q4_167 q1_1 ykX12_rowOf q4_164 q4_165 q4_166 hp_p0.1 rfl ⟨rfl, rfl⟩ ⟨Nat.le_of_ble_eq_true rfl, Nat.le_of_ble_eq_true rfl⟩ rfl hl.1 rfl (Nat.le_of_ble_eq_true rfl) dL_rowOf_4 ⟨Nat.le_of_ble_eq_true rfl, Nat.le_of_ble_eq_true rfl⟩ (fun E ce qE w4 H locs hM hw hqE hv9 hcl9 => ?_) (fun r w4 H locs hM hw => ?_)
  · obtain ⟨hne, hE, hw⟩ := hw
    rw [if_neg hne] at hf
    by_cases hk0 : q4.1 = 2
    · rw [if_pos hk0] at hf
      have hEk : E = mm_ex 2 := by rw [hE, hk0]
      subst hEk
      rw [hw] at hM
      refine vx_catch hC.1.2.2.2.1 [] ⟨0, 9, 12, 20⟩ [] hxt (fun z hz => absurd hz List.not_mem_nil) rfl (by decide) (hC.1.2.2.2.2 _ q4_51) (va_Nw.use rfl (hC.2.2.1.1.1 _ nw_castable_2)) hqE hv9 hcl9 ?_
      refine lv_astore_n (lv' := [(3, .ref qE), (0, .ref b0), (1, .int x1), (2, .ref a2)]) hx hb dL_rowOf_12 rfl hl (by decide) rfl (fun ls hl => ?_)
      refine lv_iconst (v := 1) hx hb dL_rowOf_13 (by decide) ?_
      cases hf
      exact hret hM dL_rowOf_14 rfl ⟨rfl, hp_p2, hF⟩ (Nat.le_of_ble_eq_true rfl) (Nat.le_of_ble_eq_true rfl)
    rw [if_neg hk0] at hf
    cases hf
  obtain ⟨h0, hr, hw⟩ := hw
  rw [if_pos h0] at hf
  rw [hr]
  rw [hw] at hM
  refine lv_i2l hx hb dL_rowOf_7 rfl ?_
  refine mm_last0 hC hM hp_p2 dL_rowOf_8 (fun w8 H locs hM hm => ?_)
  have hp_p0 := hp_p0.up hm (by omega)
  have hp_p2 := hm.1
  have hF := hF.tr (hm.fr (by omega) (by omega))
  refine lv_goto (tgt := 15) hx hb dL_rowOf_9 (by decide) ?_
  refine lv_iconst (v := 0) hx hb dL_rowOf_15 (by decide) ?_
  cases hf
  exact hret hM dL_rowOf_16 rfl ⟨rfl, hp_p2, hF⟩ (Nat.le_of_ble_eq_true rfl) (Nat.le_of_ble_eq_true rfl)
def f_L_imageColumnOf (K : Nat) (p0_marsh_fleet_numbers : Nat → Int32) (p0_marsh_fleet_cells : Nat → Int32) (p0_marsh_fleet_count : Int32) (p2 : Nat → Int64) (x1 : Int32) : Option (Int32 × (Nat → Int64)) := (f_X12_imageColumnOf K p0_marsh_fleet_numbers p0_marsh_fleet_cells p0_marsh_fleet_count x1).bind fun q4 => if q4.1 = 0 then some (0, (vp_updL p2 0 q4.2.toInt64)) else if q4.1 = 2 then some (1, p2) else none
set_option maxHeartbeats 4000000 in
set_option maxRecDepth 100000 in
theorem c_L_imageColumnOf (l : Launch) (hfl : l.stackTraces = false) {G : mm_G} {K : Nat} {w : va_W} {sz : Nat} {b0 : Nat} {a2 : Nat} {p0_marsh_reeds_states : Nat → Int32} {p0_marsh_reeds_count : Int32} {p0_marsh_reeds_broken : Int32} {p0_marsh_fleet_numbers : Nat → Int32} {p0_marsh_fleet_cells : Nat → Int32} {p0_marsh_fleet_fares : Nat → Int32} {p0_marsh_fleet_count : Int32} {p0_marsh_fleet_nextNumber : Int32} {p0_marsh_fleet_total : Int32} {p0_marsh_fleet_removedFares : Int32} {p0_marsh_fleet_meetings : Int32} {p0_marsh_plans_moves : Nat → Int32} {p0_marsh_plans_lengths : Nat → Int32} {p0_marsh_landings_cells : Nat → Int32} {p0_marsh_landings_count : Int32} {p0_marsh_fogSide : Int32} {p0_snapshot_reeds_states : Nat → Int32} {p0_snapshot_reeds_count : Int32} {p0_snapshot_reeds_broken : Int32} {p0_snapshot_fleet_numbers : Nat → Int32} {p0_snapshot_fleet_cells : Nat → Int32} {p0_snapshot_fleet_fares : Nat → Int32} {p0_snapshot_fleet_count : Int32} {p0_snapshot_fleet_nextNumber : Int32} {p0_snapshot_fleet_total : Int32} {p0_snapshot_fleet_removedFares : Int32} {p0_snapshot_fleet_meetings : Int32} {p0_snapshot_plans_moves : Nat → Int32} {p0_snapshot_plans_lengths : Nat → Int32} {p0_snapshot_landings_cells : Nat → Int32} {p0_snapshot_landings_count : Int32} {p0_snapshot_fogSide : Int32} {p0_history_slots : Nat → mm_MV} {p0_history_free : Int32} {p0_history_count : Int32} {p0_ways_tolls : Nat → Int32} {p0_ways_queue : Nat → Int32} {p0_ways_heap : Nat → Int32} {p0_ways_heapSize : Int32} {p0_ways_found : Nat → Int32} {p0_ways_improved : Nat → Int32} {p0_pairing_costs : Nat → Int32} {p0_pairing_best : Nat → Int32} {p0_reader_kinds : Nat → Int32} {p0_reader_starts : Nat → Int32} {p0_reader_count : Int32} {p0_commandText_signs : Nat → Int32} {p0_commandText_length : Int32} {p0_line_signs : Nat → Int32} {p0_line_length : Int32} {p0_spareMoves : Nat → Int32} {p0_snapshotTaken : Int32} {p0_lastErrorPosition : Int32} {p0_lastFailedCommand : Int32} {p2 : Nat → Int64} {x1 : Int32} {X : Int32 × (Nat → Int64)} (hf : f_L_imageColumnOf K p0_marsh_fleet_numbers p0_marsh_fleet_cells p0_marsh_fleet_count p2 x1 = some X) (hp_p0 : At12 G w b0 p0_marsh_reeds_states p0_marsh_reeds_count p0_marsh_reeds_broken p0_marsh_fleet_numbers p0_marsh_fleet_cells p0_marsh_fleet_fares p0_marsh_fleet_count p0_marsh_fleet_nextNumber p0_marsh_fleet_total p0_marsh_fleet_removedFares p0_marsh_fleet_meetings p0_marsh_plans_moves p0_marsh_plans_lengths p0_marsh_landings_cells p0_marsh_landings_count p0_marsh_fogSide p0_snapshot_reeds_states p0_snapshot_reeds_count p0_snapshot_reeds_broken p0_snapshot_fleet_numbers p0_snapshot_fleet_cells p0_snapshot_fleet_fares p0_snapshot_fleet_count p0_snapshot_fleet_nextNumber p0_snapshot_fleet_total p0_snapshot_fleet_removedFares p0_snapshot_fleet_meetings p0_snapshot_plans_moves p0_snapshot_plans_lengths p0_snapshot_landings_cells p0_snapshot_landings_count p0_snapshot_fogSide p0_history_slots p0_history_free p0_history_count p0_ways_tolls p0_ways_queue p0_ways_heap p0_ways_heapSize p0_ways_found p0_ways_improved p0_pairing_costs p0_pairing_best p0_reader_kinds p0_reader_starts p0_reader_count p0_commandText_signs p0_commandText_length p0_line_signs p0_line_length p0_spareMoves p0_snapshotTaken p0_lastErrorPosition p0_lastFailedCommand) (hp_p2 : (a2, (.inl (G.2 3, 1, .inr (.inl p2)) : va_E)) ∈ w) (hd0 : b0 + 152 ≤ a2 ∨ a2 + 1 ≤ b0) : Met l yL_imageColumnOf (Cond.codeWith yL_imageColumnOf cL_imageColumnOf 4 (some .int) [(0, 9, 12, 20)] :: gAll) ({ frames := 9, cells := 1, slots := 6, locals := 163 }) (va_Pc [.ref b0, .int x1, .ref a2] (mm_Pre G w sz)) (mm_Qi G w sz (fun r w' => r = X.1 ∧ (a2, (.inl (G.2 3, 1, .inr (.inl X.2)) : va_E)) ∈ w' ∧ mm_fr w w' a2 (a2 + 1))) 1 6 (va_A w sz) := by
  refine mm_hhead hfl [.ref b0, .int x1, .ref a2] (by decide +kernel) rfl (Nat.le_of_ble_eq_true rfl) ?_
  intro p e s m args below meth c A Q hsz hC hM hret hxt ls hl
  have hx := hC.1.1
  have hb := hC.1.2.1
  have hl : lv_has ls 4 [(0, .ref b0), (1, .int x1), (2, .ref a2)] := hl
  have hF : mm_fr w w a2 (a2 + 1) := mm_fr.rf
  rw [f_L_imageColumnOf] at hf
  refine lv_aload_n hx hb dL_imageColumnOf_0 rfl (lv_at hl 2 rfl) ?_
  refine lv_iconst (v := 0) hx hb dL_imageColumnOf_1 (by decide) ?_
  refine lv_aload_n hx hb dL_imageColumnOf_2 rfl (lv_at hl 0 rfl) ?_
  refine lv_iload_n hx hb dL_imageColumnOf_3 rfl (lv_at hl 1 rfl) ?_
  obtain ⟨q4, hq4, hf⟩ := mm_bd hf
  refine mm_xVi (rest := [.int 0, .ref a2]) hC hM (c_X12_imageColumnOf l hfl hq4 hp_p0) q4_174 q1_1 ykX12_imageColumnOf q4_171 q4_172 q4_173 hp_p0.1 rfl ⟨rfl, rfl⟩ ⟨Nat.le_of_ble_eq_true rfl, Nat.le_of_ble_eq_true rfl⟩ rfl hl.1 rfl (Nat.le_of_ble_eq_true rfl) dL_imageColumnOf_4 ⟨Nat.le_of_ble_eq_true rfl, Nat.le_of_ble_eq_true rfl⟩ (fun E ce qE w4 H locs hM hw hqE hv9 hcl9 => ?_) (fun r w4 H locs hM hw => ?_)
  · obtain ⟨hne, hE, hw⟩ := hw
    rw [if_neg hne] at hf
    by_cases hk0 : q4.1 = 2
    · rw [if_pos hk0] at hf
      have hEk : E = mm_ex 2 := by rw [hE, hk0]
      subst hEk
      rw [hw] at hM
      refine vx_catch hC.1.2.2.2.1 [] ⟨0, 9, 12, 20⟩ [] hxt (fun z hz => absurd hz List.not_mem_nil) rfl (by decide) (hC.1.2.2.2.2 _ q4_51) (va_Nw.use rfl (hC.2.2.1.1.1 _ nw_castable_2)) hqE hv9 hcl9 ?_
      refine lv_astore_n (lv' := [(3, .ref qE), (0, .ref b0), (1, .int x1), (2, .ref a2)]) hx hb dL_imageColumnOf_12 rfl hl (by decide) rfl (fun ls hl => ?_)
      refine lv_iconst (v := 1) hx hb dL_imageColumnOf_13 (by decide) ?_
      cases hf
      exact hret hM dL_imageColumnOf_14 rfl ⟨rfl, hp_p2, hF⟩ (Nat.le_of_ble_eq_true rfl) (Nat.le_of_ble_eq_true rfl)
    rw [if_neg hk0] at hf
    cases hf
  obtain ⟨h0, hr, hw⟩ := hw
  rw [if_pos h0] at hf
  rw [hr]
  rw [hw] at hM
  refine lv_i2l hx hb dL_imageColumnOf_7 rfl ?_
  refine mm_last0 hC hM hp_p2 dL_imageColumnOf_8 (fun w8 H locs hM hm => ?_)
  have hp_p0 := hp_p0.up hm (by omega)
  have hp_p2 := hm.1
  have hF := hF.tr (hm.fr (by omega) (by omega))
  refine lv_goto (tgt := 15) hx hb dL_imageColumnOf_9 (by decide) ?_
  refine lv_iconst (v := 0) hx hb dL_imageColumnOf_15 (by decide) ?_
  cases hf
  exact hret hM dL_imageColumnOf_16 rfl ⟨rfl, hp_p2, hF⟩ (Nat.le_of_ble_eq_true rfl) (Nat.le_of_ble_eq_true rfl)
def f_L_faresOf (K : Nat) (p0_marsh_fleet_numbers : Nat → Int32) (p0_marsh_fleet_fares : Nat → Int32) (p0_marsh_fleet_count : Int32) (p2 : Nat → Int64) (x1 : Int32) : Option (Int32 × (Nat → Int64)) := (f_X12_faresOf K p0_marsh_fleet_numbers p0_marsh_fleet_fares p0_marsh_fleet_count x1).bind fun q4 => if q4.1 = 0 then some (0, (vp_updL p2 0 q4.2.toInt64)) else if q4.1 = 2 then some (1, p2) else none
set_option maxHeartbeats 4000000 in
set_option maxRecDepth 100000 in
theorem c_L_faresOf (l : Launch) (hfl : l.stackTraces = false) {G : mm_G} {K : Nat} {w : va_W} {sz : Nat} {b0 : Nat} {a2 : Nat} {p0_marsh_reeds_states : Nat → Int32} {p0_marsh_reeds_count : Int32} {p0_marsh_reeds_broken : Int32} {p0_marsh_fleet_numbers : Nat → Int32} {p0_marsh_fleet_cells : Nat → Int32} {p0_marsh_fleet_fares : Nat → Int32} {p0_marsh_fleet_count : Int32} {p0_marsh_fleet_nextNumber : Int32} {p0_marsh_fleet_total : Int32} {p0_marsh_fleet_removedFares : Int32} {p0_marsh_fleet_meetings : Int32} {p0_marsh_plans_moves : Nat → Int32} {p0_marsh_plans_lengths : Nat → Int32} {p0_marsh_landings_cells : Nat → Int32} {p0_marsh_landings_count : Int32} {p0_marsh_fogSide : Int32} {p0_snapshot_reeds_states : Nat → Int32} {p0_snapshot_reeds_count : Int32} {p0_snapshot_reeds_broken : Int32} {p0_snapshot_fleet_numbers : Nat → Int32} {p0_snapshot_fleet_cells : Nat → Int32} {p0_snapshot_fleet_fares : Nat → Int32} {p0_snapshot_fleet_count : Int32} {p0_snapshot_fleet_nextNumber : Int32} {p0_snapshot_fleet_total : Int32} {p0_snapshot_fleet_removedFares : Int32} {p0_snapshot_fleet_meetings : Int32} {p0_snapshot_plans_moves : Nat → Int32} {p0_snapshot_plans_lengths : Nat → Int32} {p0_snapshot_landings_cells : Nat → Int32} {p0_snapshot_landings_count : Int32} {p0_snapshot_fogSide : Int32} {p0_history_slots : Nat → mm_MV} {p0_history_free : Int32} {p0_history_count : Int32} {p0_ways_tolls : Nat → Int32} {p0_ways_queue : Nat → Int32} {p0_ways_heap : Nat → Int32} {p0_ways_heapSize : Int32} {p0_ways_found : Nat → Int32} {p0_ways_improved : Nat → Int32} {p0_pairing_costs : Nat → Int32} {p0_pairing_best : Nat → Int32} {p0_reader_kinds : Nat → Int32} {p0_reader_starts : Nat → Int32} {p0_reader_count : Int32} {p0_commandText_signs : Nat → Int32} {p0_commandText_length : Int32} {p0_line_signs : Nat → Int32} {p0_line_length : Int32} {p0_spareMoves : Nat → Int32} {p0_snapshotTaken : Int32} {p0_lastErrorPosition : Int32} {p0_lastFailedCommand : Int32} {p2 : Nat → Int64} {x1 : Int32} {X : Int32 × (Nat → Int64)} (hf : f_L_faresOf K p0_marsh_fleet_numbers p0_marsh_fleet_fares p0_marsh_fleet_count p2 x1 = some X) (hp_p0 : At12 G w b0 p0_marsh_reeds_states p0_marsh_reeds_count p0_marsh_reeds_broken p0_marsh_fleet_numbers p0_marsh_fleet_cells p0_marsh_fleet_fares p0_marsh_fleet_count p0_marsh_fleet_nextNumber p0_marsh_fleet_total p0_marsh_fleet_removedFares p0_marsh_fleet_meetings p0_marsh_plans_moves p0_marsh_plans_lengths p0_marsh_landings_cells p0_marsh_landings_count p0_marsh_fogSide p0_snapshot_reeds_states p0_snapshot_reeds_count p0_snapshot_reeds_broken p0_snapshot_fleet_numbers p0_snapshot_fleet_cells p0_snapshot_fleet_fares p0_snapshot_fleet_count p0_snapshot_fleet_nextNumber p0_snapshot_fleet_total p0_snapshot_fleet_removedFares p0_snapshot_fleet_meetings p0_snapshot_plans_moves p0_snapshot_plans_lengths p0_snapshot_landings_cells p0_snapshot_landings_count p0_snapshot_fogSide p0_history_slots p0_history_free p0_history_count p0_ways_tolls p0_ways_queue p0_ways_heap p0_ways_heapSize p0_ways_found p0_ways_improved p0_pairing_costs p0_pairing_best p0_reader_kinds p0_reader_starts p0_reader_count p0_commandText_signs p0_commandText_length p0_line_signs p0_line_length p0_spareMoves p0_snapshotTaken p0_lastErrorPosition p0_lastFailedCommand) (hp_p2 : (a2, (.inl (G.2 3, 1, .inr (.inl p2)) : va_E)) ∈ w) (hd0 : b0 + 152 ≤ a2 ∨ a2 + 1 ≤ b0) : Met l yL_faresOf (Cond.codeWith yL_faresOf cL_faresOf 4 (some .int) [(0, 9, 12, 20)] :: gAll) ({ frames := 9, cells := 1, slots := 6, locals := 163 }) (va_Pc [.ref b0, .int x1, .ref a2] (mm_Pre G w sz)) (mm_Qi G w sz (fun r w' => r = X.1 ∧ (a2, (.inl (G.2 3, 1, .inr (.inl X.2)) : va_E)) ∈ w' ∧ mm_fr w w' a2 (a2 + 1))) 1 6 (va_A w sz) := by
  refine mm_hhead hfl [.ref b0, .int x1, .ref a2] (by decide +kernel) rfl (Nat.le_of_ble_eq_true rfl) ?_
  intro p e s m args below meth c A Q hsz hC hM hret hxt ls hl
  have hx := hC.1.1
  have hb := hC.1.2.1
  have hl : lv_has ls 4 [(0, .ref b0), (1, .int x1), (2, .ref a2)] := hl
  have hF : mm_fr w w a2 (a2 + 1) := mm_fr.rf
  rw [f_L_faresOf] at hf
  refine lv_aload_n hx hb dL_faresOf_0 rfl (lv_at hl 2 rfl) ?_
  refine lv_iconst (v := 0) hx hb dL_faresOf_1 (by decide) ?_
  refine lv_aload_n hx hb dL_faresOf_2 rfl (lv_at hl 0 rfl) ?_
  refine lv_iload_n hx hb dL_faresOf_3 rfl (lv_at hl 1 rfl) ?_
  obtain ⟨q4, hq4, hf⟩ := mm_bd hf
  refine mm_xVi (rest := [.int 0, .ref a2]) hC hM (c_X12_faresOf l hfl hq4 hp_p0) q4_182 q1_1 ykX12_faresOf q4_179 q4_180 q4_181 hp_p0.1 rfl ⟨rfl, rfl⟩ ⟨Nat.le_of_ble_eq_true rfl, Nat.le_of_ble_eq_true rfl⟩ rfl hl.1 rfl (Nat.le_of_ble_eq_true rfl) dL_faresOf_4 ⟨Nat.le_of_ble_eq_true rfl, Nat.le_of_ble_eq_true rfl⟩ (fun E ce qE w4 H locs hM hw hqE hv9 hcl9 => ?_) (fun r w4 H locs hM hw => ?_)
  · obtain ⟨hne, hE, hw⟩ := hw
    rw [if_neg hne] at hf
    by_cases hk0 : q4.1 = 2
    · rw [if_pos hk0] at hf
      have hEk : E = mm_ex 2 := by rw [hE, hk0]
      subst hEk
      rw [hw] at hM
      refine vx_catch hC.1.2.2.2.1 [] ⟨0, 9, 12, 20⟩ [] hxt (fun z hz => absurd hz List.not_mem_nil) rfl (by decide) (hC.1.2.2.2.2 _ q4_51) (va_Nw.use rfl (hC.2.2.1.1.1 _ nw_castable_2)) hqE hv9 hcl9 ?_
      refine lv_astore_n (lv' := [(3, .ref qE), (0, .ref b0), (1, .int x1), (2, .ref a2)]) hx hb dL_faresOf_12 rfl hl (by decide) rfl (fun ls hl => ?_)
      refine lv_iconst (v := 1) hx hb dL_faresOf_13 (by decide) ?_
      cases hf
      exact hret hM dL_faresOf_14 rfl ⟨rfl, hp_p2, hF⟩ (Nat.le_of_ble_eq_true rfl) (Nat.le_of_ble_eq_true rfl)
    rw [if_neg hk0] at hf
    cases hf
  obtain ⟨h0, hr, hw⟩ := hw
  rw [if_pos h0] at hf
  rw [hr]
  rw [hw] at hM
  refine lv_i2l hx hb dL_faresOf_7 rfl ?_
  refine mm_last0 hC hM hp_p2 dL_faresOf_8 (fun w8 H locs hM hm => ?_)
  have hp_p0 := hp_p0.up hm (by omega)
  have hp_p2 := hm.1
  have hF := hF.tr (hm.fr (by omega) (by omega))
  refine lv_goto (tgt := 15) hx hb dL_faresOf_9 (by decide) ?_
  refine lv_iconst (v := 0) hx hb dL_faresOf_15 (by decide) ?_
  cases hf
  exact hret hM dL_faresOf_16 rfl ⟨rfl, hp_p2, hF⟩ (Nat.le_of_ble_eq_true rfl) (Nat.le_of_ble_eq_true rfl)
def f_L_boatAtRank (K : Nat) (p0_marsh_fleet_numbers : Nat → Int32) (p0_marsh_fleet_fares : Nat → Int32) (p0_marsh_fleet_count : Int32) (p2 : Nat → Int64) (x1 : Int32) : Option (Int32 × (Nat → Int64)) := (f_X12_boatAtRank K p0_marsh_fleet_numbers p0_marsh_fleet_fares p0_marsh_fleet_count x1).bind fun q4 => if q4.1 = 0 then some (0, (vp_updL p2 0 q4.2.toInt64)) else if q4.1 = 2 then some (1, p2) else none
set_option maxHeartbeats 4000000 in
set_option maxRecDepth 100000 in
theorem c_L_boatAtRank (l : Launch) (hfl : l.stackTraces = false) {G : mm_G} {K : Nat} {w : va_W} {sz : Nat} {b0 : Nat} {a2 : Nat} {p0_marsh_reeds_states : Nat → Int32} {p0_marsh_reeds_count : Int32} {p0_marsh_reeds_broken : Int32} {p0_marsh_fleet_numbers : Nat → Int32} {p0_marsh_fleet_cells : Nat → Int32} {p0_marsh_fleet_fares : Nat → Int32} {p0_marsh_fleet_count : Int32} {p0_marsh_fleet_nextNumber : Int32} {p0_marsh_fleet_total : Int32} {p0_marsh_fleet_removedFares : Int32} {p0_marsh_fleet_meetings : Int32} {p0_marsh_plans_moves : Nat → Int32} {p0_marsh_plans_lengths : Nat → Int32} {p0_marsh_landings_cells : Nat → Int32} {p0_marsh_landings_count : Int32} {p0_marsh_fogSide : Int32} {p0_snapshot_reeds_states : Nat → Int32} {p0_snapshot_reeds_count : Int32} {p0_snapshot_reeds_broken : Int32} {p0_snapshot_fleet_numbers : Nat → Int32} {p0_snapshot_fleet_cells : Nat → Int32} {p0_snapshot_fleet_fares : Nat → Int32} {p0_snapshot_fleet_count : Int32} {p0_snapshot_fleet_nextNumber : Int32} {p0_snapshot_fleet_total : Int32} {p0_snapshot_fleet_removedFares : Int32} {p0_snapshot_fleet_meetings : Int32} {p0_snapshot_plans_moves : Nat → Int32} {p0_snapshot_plans_lengths : Nat → Int32} {p0_snapshot_landings_cells : Nat → Int32} {p0_snapshot_landings_count : Int32} {p0_snapshot_fogSide : Int32} {p0_history_slots : Nat → mm_MV} {p0_history_free : Int32} {p0_history_count : Int32} {p0_ways_tolls : Nat → Int32} {p0_ways_queue : Nat → Int32} {p0_ways_heap : Nat → Int32} {p0_ways_heapSize : Int32} {p0_ways_found : Nat → Int32} {p0_ways_improved : Nat → Int32} {p0_pairing_costs : Nat → Int32} {p0_pairing_best : Nat → Int32} {p0_reader_kinds : Nat → Int32} {p0_reader_starts : Nat → Int32} {p0_reader_count : Int32} {p0_commandText_signs : Nat → Int32} {p0_commandText_length : Int32} {p0_line_signs : Nat → Int32} {p0_line_length : Int32} {p0_spareMoves : Nat → Int32} {p0_snapshotTaken : Int32} {p0_lastErrorPosition : Int32} {p0_lastFailedCommand : Int32} {p2 : Nat → Int64} {x1 : Int32} {X : Int32 × (Nat → Int64)} (hf : f_L_boatAtRank K p0_marsh_fleet_numbers p0_marsh_fleet_fares p0_marsh_fleet_count p2 x1 = some X) (hp_p0 : At12 G w b0 p0_marsh_reeds_states p0_marsh_reeds_count p0_marsh_reeds_broken p0_marsh_fleet_numbers p0_marsh_fleet_cells p0_marsh_fleet_fares p0_marsh_fleet_count p0_marsh_fleet_nextNumber p0_marsh_fleet_total p0_marsh_fleet_removedFares p0_marsh_fleet_meetings p0_marsh_plans_moves p0_marsh_plans_lengths p0_marsh_landings_cells p0_marsh_landings_count p0_marsh_fogSide p0_snapshot_reeds_states p0_snapshot_reeds_count p0_snapshot_reeds_broken p0_snapshot_fleet_numbers p0_snapshot_fleet_cells p0_snapshot_fleet_fares p0_snapshot_fleet_count p0_snapshot_fleet_nextNumber p0_snapshot_fleet_total p0_snapshot_fleet_removedFares p0_snapshot_fleet_meetings p0_snapshot_plans_moves p0_snapshot_plans_lengths p0_snapshot_landings_cells p0_snapshot_landings_count p0_snapshot_fogSide p0_history_slots p0_history_free p0_history_count p0_ways_tolls p0_ways_queue p0_ways_heap p0_ways_heapSize p0_ways_found p0_ways_improved p0_pairing_costs p0_pairing_best p0_reader_kinds p0_reader_starts p0_reader_count p0_commandText_signs p0_commandText_length p0_line_signs p0_line_length p0_spareMoves p0_snapshotTaken p0_lastErrorPosition p0_lastFailedCommand) (hp_p2 : (a2, (.inl (G.2 3, 1, .inr (.inl p2)) : va_E)) ∈ w) (hd0 : b0 + 152 ≤ a2 ∨ a2 + 1 ≤ b0) : Met l yL_boatAtRank (Cond.codeWith yL_boatAtRank cL_boatAtRank 4 (some .int) [(0, 9, 12, 20)] :: gAll) ({ frames := 8, cells := 1, slots := 6, locals := 142 }) (va_Pc [.ref b0, .int x1, .ref a2] (mm_Pre G w sz)) (mm_Qi G w sz (fun r w' => r = X.1 ∧ (a2, (.inl (G.2 3, 1, .inr (.inl X.2)) : va_E)) ∈ w' ∧ mm_fr w w' a2 (a2 + 1))) 1 6 (va_A w sz) := by
  refine mm_hhead hfl [.ref b0, .int x1, .ref a2] (by decide +kernel) rfl (Nat.le_of_ble_eq_true rfl) ?_
  intro p e s m args below meth c A Q hsz hC hM hret hxt ls hl
  have hx := hC.1.1
  have hb := hC.1.2.1
  have hl : lv_has ls 4 [(0, .ref b0), (1, .int x1), (2, .ref a2)] := hl
  have hF : mm_fr w w a2 (a2 + 1) := mm_fr.rf
  rw [f_L_boatAtRank] at hf
  refine lv_aload_n hx hb dL_boatAtRank_0 rfl (lv_at hl 2 rfl) ?_
  refine lv_iconst (v := 0) hx hb dL_boatAtRank_1 (by decide) ?_
  refine lv_aload_n hx hb dL_boatAtRank_2 rfl (lv_at hl 0 rfl) ?_
  refine lv_iload_n hx hb dL_boatAtRank_3 rfl (lv_at hl 1 rfl) ?_
  obtain ⟨q4, hq4, hf⟩ := mm_bd hf
  refine mm_xVi (rest := [.int 0, .ref a2]) hC hM (c_X12_boatAtRank l hfl hq4 hp_p0) q4_189 q1_1 ykX12_boatAtRank q4_186 q4_187 q4_188 hp_p0.1 rfl ⟨rfl, rfl⟩ ⟨Nat.le_of_ble_eq_true rfl, Nat.le_of_ble_eq_true rfl⟩ rfl hl.1 rfl (Nat.le_of_ble_eq_true rfl) dL_boatAtRank_4 ⟨Nat.le_of_ble_eq_true rfl, Nat.le_of_ble_eq_true rfl⟩ (fun E ce qE w4 H locs hM hw hqE hv9 hcl9 => ?_) (fun r w4 H locs hM hw => ?_)
  · obtain ⟨hne, hE, hw⟩ := hw
    rw [if_neg hne] at hf
    by_cases hk0 : q4.1 = 2
    · rw [if_pos hk0] at hf
      have hEk : E = mm_ex 2 := by rw [hE, hk0]
      subst hEk
      rw [hw] at hM
      refine vx_catch hC.1.2.2.2.1 [] ⟨0, 9, 12, 20⟩ [] hxt (fun z hz => absurd hz List.not_mem_nil) rfl (by decide) (hC.1.2.2.2.2 _ q4_51) (va_Nw.use rfl (hC.2.2.1.1.1 _ nw_castable_2)) hqE hv9 hcl9 ?_
      refine lv_astore_n (lv' := [(3, .ref qE), (0, .ref b0), (1, .int x1), (2, .ref a2)]) hx hb dL_boatAtRank_12 rfl hl (by decide) rfl (fun ls hl => ?_)
      refine lv_iconst (v := 1) hx hb dL_boatAtRank_13 (by decide) ?_
      cases hf
      exact hret hM dL_boatAtRank_14 rfl ⟨rfl, hp_p2, hF⟩ (Nat.le_of_ble_eq_true rfl) (Nat.le_of_ble_eq_true rfl)
    rw [if_neg hk0] at hf
    cases hf
  obtain ⟨h0, hr, hw⟩ := hw
  rw [if_pos h0] at hf
  rw [hr]
  rw [hw] at hM
  refine lv_i2l hx hb dL_boatAtRank_7 rfl ?_
  refine mm_last0 hC hM hp_p2 dL_boatAtRank_8 (fun w8 H locs hM hm => ?_)
  have hp_p0 := hp_p0.up hm (by omega)
  have hp_p2 := hm.1
  have hF := hF.tr (hm.fr (by omega) (by omega))
  refine lv_goto (tgt := 15) hx hb dL_boatAtRank_9 (by decide) ?_
  refine lv_iconst (v := 0) hx hb dL_boatAtRank_15 (by decide) ?_
  cases hf
  exact hret hM dL_boatAtRank_16 rfl ⟨rfl, hp_p2, hF⟩ (Nat.le_of_ble_eq_true rfl) (Nat.le_of_ble_eq_true rfl)
def f_L_addMove (K : Nat) (p0_marsh_reeds_states : Nat → Int32) (p0_marsh_reeds_count : Int32) (p0_marsh_reeds_broken : Int32) (p0_marsh_fleet_numbers : Nat → Int32) (p0_marsh_fleet_cells : Nat → Int32) (p0_marsh_fleet_fares : Nat → Int32) (p0_marsh_fleet_count : Int32) (p0_marsh_fleet_nextNumber : Int32) (p0_marsh_fleet_total : Int32) (p0_marsh_fleet_removedFares : Int32) (p0_marsh_fleet_meetings : Int32) (p0_marsh_plans_moves : Nat → Int32) (p0_marsh_plans_lengths : Nat → Int32) (p0_marsh_landings_cells : Nat → Int32) (p0_marsh_landings_count : Int32) (p0_marsh_fogSide : Int32) (p0_history_slots : Nat → mm_MV) (p0_history_free : Int32) (p0_history_count : Int32) (p3 : Nat → Int64) (x1 : Int32) (x2 : Int32) : Option (Int32 × (Nat → Int32) × (Nat → Int32) × (Nat → mm_MV) × Int32 × Int32 × (Nat → Int64)) := (f_X12_addMove K p0_marsh_reeds_states p0_marsh_reeds_count p0_marsh_reeds_broken p0_marsh_fleet_numbers p0_marsh_fleet_cells p0_marsh_fleet_fares p0_marsh_fleet_count p0_marsh_fleet_nextNumber p0_marsh_fleet_total p0_marsh_fleet_removedFares p0_marsh_fleet_meetings p0_marsh_plans_moves p0_marsh_plans_lengths p0_marsh_landings_cells p0_marsh_landings_count p0_marsh_fogSide p0_history_slots p0_history_free p0_history_count x1 x2).bind fun q5 => if q5.1 = 0 then some (0, q5.2.2.1, q5.2.2.2.1, q5.2.2.2.2.1, q5.2.2.2.2.2.1, q5.2.2.2.2.2.2, (vp_updL p3 0 q5.2.1.toInt64)) else if q5.1 = 1 then some (1, q5.2.2.1, q5.2.2.2.1, q5.2.2.2.2.1, q5.2.2.2.2.2.1, q5.2.2.2.2.2.2, p3) else if q5.1 = 4 then some (2, q5.2.2.1, q5.2.2.2.1, q5.2.2.2.2.1, q5.2.2.2.2.2.1, q5.2.2.2.2.2.2, p3) else if q5.1 = 3 then some (3, q5.2.2.1, q5.2.2.2.1, q5.2.2.2.2.1, q5.2.2.2.2.2.1, q5.2.2.2.2.2.2, p3) else none
set_option maxHeartbeats 4000000 in
set_option maxRecDepth 100000 in
theorem c_L_addMove (l : Launch) (hfl : l.stackTraces = false) {G : mm_G} {K : Nat} {w : va_W} {sz : Nat} {b0 : Nat} {a3 : Nat} {p0_marsh_reeds_states : Nat → Int32} {p0_marsh_reeds_count : Int32} {p0_marsh_reeds_broken : Int32} {p0_marsh_fleet_numbers : Nat → Int32} {p0_marsh_fleet_cells : Nat → Int32} {p0_marsh_fleet_fares : Nat → Int32} {p0_marsh_fleet_count : Int32} {p0_marsh_fleet_nextNumber : Int32} {p0_marsh_fleet_total : Int32} {p0_marsh_fleet_removedFares : Int32} {p0_marsh_fleet_meetings : Int32} {p0_marsh_plans_moves : Nat → Int32} {p0_marsh_plans_lengths : Nat → Int32} {p0_marsh_landings_cells : Nat → Int32} {p0_marsh_landings_count : Int32} {p0_marsh_fogSide : Int32} {p0_snapshot_reeds_states : Nat → Int32} {p0_snapshot_reeds_count : Int32} {p0_snapshot_reeds_broken : Int32} {p0_snapshot_fleet_numbers : Nat → Int32} {p0_snapshot_fleet_cells : Nat → Int32} {p0_snapshot_fleet_fares : Nat → Int32} {p0_snapshot_fleet_count : Int32} {p0_snapshot_fleet_nextNumber : Int32} {p0_snapshot_fleet_total : Int32} {p0_snapshot_fleet_removedFares : Int32} {p0_snapshot_fleet_meetings : Int32} {p0_snapshot_plans_moves : Nat → Int32} {p0_snapshot_plans_lengths : Nat → Int32} {p0_snapshot_landings_cells : Nat → Int32} {p0_snapshot_landings_count : Int32} {p0_snapshot_fogSide : Int32} {p0_history_slots : Nat → mm_MV} {p0_history_free : Int32} {p0_history_count : Int32} {p0_ways_tolls : Nat → Int32} {p0_ways_queue : Nat → Int32} {p0_ways_heap : Nat → Int32} {p0_ways_heapSize : Int32} {p0_ways_found : Nat → Int32} {p0_ways_improved : Nat → Int32} {p0_pairing_costs : Nat → Int32} {p0_pairing_best : Nat → Int32} {p0_reader_kinds : Nat → Int32} {p0_reader_starts : Nat → Int32} {p0_reader_count : Int32} {p0_commandText_signs : Nat → Int32} {p0_commandText_length : Int32} {p0_line_signs : Nat → Int32} {p0_line_length : Int32} {p0_spareMoves : Nat → Int32} {p0_snapshotTaken : Int32} {p0_lastErrorPosition : Int32} {p0_lastFailedCommand : Int32} {p3 : Nat → Int64} {x1 : Int32} {x2 : Int32} {X : Int32 × (Nat → Int32) × (Nat → Int32) × (Nat → mm_MV) × Int32 × Int32 × (Nat → Int64)} (hf : f_L_addMove K p0_marsh_reeds_states p0_marsh_reeds_count p0_marsh_reeds_broken p0_marsh_fleet_numbers p0_marsh_fleet_cells p0_marsh_fleet_fares p0_marsh_fleet_count p0_marsh_fleet_nextNumber p0_marsh_fleet_total p0_marsh_fleet_removedFares p0_marsh_fleet_meetings p0_marsh_plans_moves p0_marsh_plans_lengths p0_marsh_landings_cells p0_marsh_landings_count p0_marsh_fogSide p0_history_slots p0_history_free p0_history_count p3 x1 x2 = some X) (hp_p0 : At12 G w b0 p0_marsh_reeds_states p0_marsh_reeds_count p0_marsh_reeds_broken p0_marsh_fleet_numbers p0_marsh_fleet_cells p0_marsh_fleet_fares p0_marsh_fleet_count p0_marsh_fleet_nextNumber p0_marsh_fleet_total p0_marsh_fleet_removedFares p0_marsh_fleet_meetings p0_marsh_plans_moves p0_marsh_plans_lengths p0_marsh_landings_cells p0_marsh_landings_count p0_marsh_fogSide p0_snapshot_reeds_states p0_snapshot_reeds_count p0_snapshot_reeds_broken p0_snapshot_fleet_numbers p0_snapshot_fleet_cells p0_snapshot_fleet_fares p0_snapshot_fleet_count p0_snapshot_fleet_nextNumber p0_snapshot_fleet_total p0_snapshot_fleet_removedFares p0_snapshot_fleet_meetings p0_snapshot_plans_moves p0_snapshot_plans_lengths p0_snapshot_landings_cells p0_snapshot_landings_count p0_snapshot_fogSide p0_history_slots p0_history_free p0_history_count p0_ways_tolls p0_ways_queue p0_ways_heap p0_ways_heapSize p0_ways_found p0_ways_improved p0_pairing_costs p0_pairing_best p0_reader_kinds p0_reader_starts p0_reader_count p0_commandText_signs p0_commandText_length p0_line_signs p0_line_length p0_spareMoves p0_snapshotTaken p0_lastErrorPosition p0_lastFailedCommand) (hp_p3 : (a3, (.inl (G.2 3, 1, .inr (.inl p3)) : va_E)) ∈ w) (hd0 : b0 + 152 ≤ a3 ∨ a3 + 1 ≤ b0) : Met l yL_addMove (Cond.codeWith yL_addMove cL_addMove 5 (some .int) [(0, 10, 13, 13), (0, 10, 17, 36), (0, 10, 21, 15)] :: gAll) ({ frames := 9, cells := 1, slots := 6, locals := 163 }) (va_Pc [.ref b0, .int x1, .int x2, .ref a3] (mm_Pre G w sz)) (mm_Qi G w sz (fun r w' => r = X.1 ∧ At12 G w' b0 p0_marsh_reeds_states p0_marsh_reeds_count p0_marsh_reeds_broken p0_marsh_fleet_numbers p0_marsh_fleet_cells p0_marsh_fleet_fares p0_marsh_fleet_count p0_marsh_fleet_nextNumber p0_marsh_fleet_total p0_marsh_fleet_removedFares p0_marsh_fleet_meetings X.2.1 X.2.2.1 p0_marsh_landings_cells p0_marsh_landings_count p0_marsh_fogSide p0_snapshot_reeds_states p0_snapshot_reeds_count p0_snapshot_reeds_broken p0_snapshot_fleet_numbers p0_snapshot_fleet_cells p0_snapshot_fleet_fares p0_snapshot_fleet_count p0_snapshot_fleet_nextNumber p0_snapshot_fleet_total p0_snapshot_fleet_removedFares p0_snapshot_fleet_meetings p0_snapshot_plans_moves p0_snapshot_plans_lengths p0_snapshot_landings_cells p0_snapshot_landings_count p0_snapshot_fogSide X.2.2.2.1 X.2.2.2.2.1 X.2.2.2.2.2.1 p0_ways_tolls p0_ways_queue p0_ways_heap p0_ways_heapSize p0_ways_found p0_ways_improved p0_pairing_costs p0_pairing_best p0_reader_kinds p0_reader_starts p0_reader_count p0_commandText_signs p0_commandText_length p0_line_signs p0_line_length p0_spareMoves p0_snapshotTaken p0_lastErrorPosition p0_lastFailedCommand ∧ (a3, (.inl (G.2 3, 1, .inr (.inl X.2.2.2.2.2.2)) : va_E)) ∈ w' ∧ mm_fr2 w w' b0 (b0 + 152) a3 (a3 + 1))) 1 6 (va_A w sz) := by
  refine mm_hhead hfl [.ref b0, .int x1, .int x2, .ref a3] (by decide +kernel) rfl (Nat.le_of_ble_eq_true rfl) ?_
  intro p e s m args below meth c A Q hsz hC hM hret hxt ls hl
  have hx := hC.1.1
  have hb := hC.1.2.1
  have hl : lv_has ls 5 [(0, .ref b0), (1, .int x1), (2, .int x2), (3, .ref a3)] := hl
  have hF : mm_fr2 w w b0 (b0 + 152) a3 (a3 + 1) := mm_fr2.rf
  rw [f_L_addMove] at hf
  refine lv_aload_n hx hb dL_addMove_0 rfl (lv_at hl 3 rfl) ?_
  refine lv_iconst (v := 0) hx hb dL_addMove_1 (by decide) ?_
  refine lv_aload_n hx hb dL_addMove_2 rfl (lv_at hl 0 rfl) ?_
  refine lv_iload_n hx hb dL_addMove_3 rfl (lv_at hl 1 rfl) ?_
  refine lv_iload_n hx hb dL_addMove_4 rfl (lv_at hl 2 rfl) ?_
  obtain ⟨q5, hq5, hf⟩ := mm_bd hf
  refine mm_xVi (rest := [.int 0, .ref a3]) hC hM (c_X12_addMove l hfl hq5 hp_p0) q4_204 q1_1 ykX12_addMove q4_201 q4_202 q4_203 hp_p0.1 rfl ⟨rfl, rfl⟩ ⟨Nat.le_of_ble_eq_true rfl, Nat.le_of_ble_eq_true rfl⟩ rfl hl.1 rfl (Nat.le_of_ble_eq_true rfl) dL_addMove_5 ⟨Nat.le_of_ble_eq_true rfl, Nat.le_of_ble_eq_true rfl⟩ (fun E ce qE w5 H locs hM hw hqE hv9 hcl9 => ?_) (fun r w5 H locs hM hw => ?_)
  · obtain ⟨hne, hE, hn_this, hfr⟩ := hw
    rw [if_neg hne] at hf
    by_cases hk0 : q5.1 = 1
    · rw [if_pos hk0] at hf
      have hEk : E = mm_ex 1 := by rw [hE, hk0]
      subst hEk
      have hp_p3 := hfr.keep hp_p3 (by omega)
      have hp_p0 := hn_this
      have hF := hF.tr (hfr.l (by omega) (by omega))
      refine vx_catch hC.1.2.2.2.1 [] ⟨0, 10, 13, 13⟩ [⟨0, 10, 17, 36⟩, ⟨0, 10, 21, 15⟩] hxt (fun z hz => absurd hz List.not_mem_nil) rfl (by decide) (hC.1.2.2.2.2 _ q3_90) (va_Nw.use rfl (hC.2.2.1.1.1 _ nw_castable_1)) hqE hv9 hcl9 ?_
      refine lv_astore (lv' := [(4, .ref qE), (0, .ref b0), (1, .int x1), (2, .int x2), (3, .ref a3)]) hx hb dL_addMove_13 hl (by decide) rfl (fun ls hl => ?_)
      refine lv_iconst (v := 1) hx hb dL_addMove_15 (by decide) ?_
      cases hf
      exact hret hM dL_addMove_16 rfl ⟨rfl, hp_p0, hp_p3, hF⟩ (Nat.le_of_ble_eq_true rfl) (Nat.le_of_ble_eq_true rfl)
    rw [if_neg hk0] at hf
    by_cases hk1 : q5.1 = 4
    · rw [if_pos hk1] at hf
      have hEk : E = mm_ex 4 := by rw [hE, hk1]
      subst hEk
      have hp_p3 := hfr.keep hp_p3 (by omega)
      have hp_p0 := hn_this
      have hF := hF.tr (hfr.l (by omega) (by omega))
      refine vx_catch hC.1.2.2.2.1 [⟨0, 10, 13, 13⟩] ⟨0, 10, 17, 36⟩ [⟨0, 10, 21, 15⟩] hxt (List.forall_mem_cons.mpr ⟨Or.inr ⟨by decide, _, (hC.1.2.2.2.2 _ q3_90), hC.2.2.1.1.2.2 4 1 (by decide) (by decide) (by decide) (by decide) (by decide)⟩, (fun z hz => absurd hz List.not_mem_nil)⟩) rfl (by decide) (hC.1.2.2.2.2 _ q4_101) (va_Nw.use rfl (hC.2.2.1.1.1 _ nw_castable_4)) hqE hv9 hcl9 ?_
      refine lv_astore (lv' := [(4, .ref qE), (0, .ref b0), (1, .int x1), (2, .int x2), (3, .ref a3)]) hx hb dL_addMove_17 hl (by decide) rfl (fun ls hl => ?_)
      refine lv_iconst (v := 2) hx hb dL_addMove_19 (by decide) ?_
      cases hf
      exact hret hM dL_addMove_20 rfl ⟨rfl, hp_p0, hp_p3, hF⟩ (Nat.le_of_ble_eq_true rfl) (Nat.le_of_ble_eq_true rfl)
    rw [if_neg hk1] at hf
    by_cases hk2 : q5.1 = 3
    · rw [if_pos hk2] at hf
      have hEk : E = mm_ex 3 := by rw [hE, hk2]
      subst hEk
      have hp_p3 := hfr.keep hp_p3 (by omega)
      have hp_p0 := hn_this
      have hF := hF.tr (hfr.l (by omega) (by omega))
      refine vx_catch hC.1.2.2.2.1 [⟨0, 10, 13, 13⟩, ⟨0, 10, 17, 36⟩] ⟨0, 10, 21, 15⟩ [] hxt (List.forall_mem_cons.mpr ⟨Or.inr ⟨by decide, _, (hC.1.2.2.2.2 _ q3_90), hC.2.2.1.1.2.2 3 1 (by decide) (by decide) (by decide) (by decide) (by decide)⟩, (List.forall_mem_cons.mpr ⟨Or.inr ⟨by decide, _, (hC.1.2.2.2.2 _ q4_101), hC.2.2.1.1.2.2 3 4 (by decide) (by decide) (by decide) (by decide) (by decide)⟩, (fun z hz => absurd hz List.not_mem_nil)⟩)⟩) rfl (by decide) (hC.1.2.2.2.2 _ q3_170) (va_Nw.use rfl (hC.2.2.1.1.1 _ nw_castable_3)) hqE hv9 hcl9 ?_
      refine lv_astore (lv' := [(4, .ref qE), (0, .ref b0), (1, .int x1), (2, .int x2), (3, .ref a3)]) hx hb dL_addMove_21 hl (by decide) rfl (fun ls hl => ?_)
      refine lv_iconst (v := 3) hx hb dL_addMove_23 (by decide) ?_
      cases hf
      exact hret hM dL_addMove_24 rfl ⟨rfl, hp_p0, hp_p3, hF⟩ (Nat.le_of_ble_eq_true rfl) (Nat.le_of_ble_eq_true rfl)
    rw [if_neg hk2] at hf
    cases hf
  obtain ⟨h0, hr, hn_this, hfr⟩ := hw
  rw [if_pos h0] at hf
  rw [hr]
  have hp_p3 := hfr.keep hp_p3 (by omega)
  have hp_p0 := hn_this
  have hF := hF.tr (hfr.l (by omega) (by omega))
  refine lv_i2l hx hb dL_addMove_8 rfl ?_
  refine mm_last0 hC hM hp_p3 dL_addMove_9 (fun w9 H locs hM hm => ?_)
  have hp_p0 := hp_p0.up hm (by omega)
  have hp_p3 := hm.1
  have hF := hF.tr (hm.r (by omega) (by omega))
  refine lv_goto (tgt := 25) hx hb dL_addMove_10 (by decide) ?_
  refine lv_iconst (v := 0) hx hb dL_addMove_25 (by decide) ?_
  cases hf
  exact hret hM dL_addMove_26 rfl ⟨rfl, hp_p0, hp_p3, hF⟩ (Nat.le_of_ble_eq_true rfl) (Nat.le_of_ble_eq_true rfl)
def f_L_clearPlan (p0_marsh_reeds_states : Nat → Int32) (p0_marsh_reeds_count : Int32) (p0_marsh_reeds_broken : Int32) (p0_marsh_fleet_numbers : Nat → Int32) (p0_marsh_fleet_cells : Nat → Int32) (p0_marsh_fleet_fares : Nat → Int32) (p0_marsh_fleet_count : Int32) (p0_marsh_fleet_nextNumber : Int32) (p0_marsh_fleet_total : Int32) (p0_marsh_fleet_removedFares : Int32) (p0_marsh_fleet_meetings : Int32) (p0_marsh_plans_moves : Nat → Int32) (p0_marsh_plans_lengths : Nat → Int32) (p0_marsh_landings_cells : Nat → Int32) (p0_marsh_landings_count : Int32) (p0_marsh_fogSide : Int32) (p0_history_slots : Nat → mm_MV) (p0_history_free : Int32) (p0_history_count : Int32) (p2 : Nat → Int64) (x1 : Int32) : Option (Int32 × (Nat → Int32) × (Nat → mm_MV) × Int32 × Int32 × (Nat → Int64)) := (f_X12_clearPlan p0_marsh_reeds_states p0_marsh_reeds_count p0_marsh_reeds_broken p0_marsh_fleet_numbers p0_marsh_fleet_cells p0_marsh_fleet_fares p0_marsh_fleet_count p0_marsh_fleet_nextNumber p0_marsh_fleet_total p0_marsh_fleet_removedFares p0_marsh_fleet_meetings p0_marsh_plans_moves p0_marsh_plans_lengths p0_marsh_landings_cells p0_marsh_landings_count p0_marsh_fogSide p0_history_slots p0_history_free p0_history_count x1).bind fun q4 => if q4.1 = 0 then some (0, q4.2.2.1, q4.2.2.2.1, q4.2.2.2.2.1, q4.2.2.2.2.2, (vp_updL p2 0 q4.2.1.toInt64)) else if q4.1 = 1 then some (1, q4.2.2.1, q4.2.2.2.1, q4.2.2.2.2.1, q4.2.2.2.2.2, p2) else none
set_option maxHeartbeats 4000000 in
set_option maxRecDepth 100000 in
theorem c_L_clearPlan (l : Launch) (hfl : l.stackTraces = false) {G : mm_G} {w : va_W} {sz : Nat} {b0 : Nat} {a2 : Nat} {p0_marsh_reeds_states : Nat → Int32} {p0_marsh_reeds_count : Int32} {p0_marsh_reeds_broken : Int32} {p0_marsh_fleet_numbers : Nat → Int32} {p0_marsh_fleet_cells : Nat → Int32} {p0_marsh_fleet_fares : Nat → Int32} {p0_marsh_fleet_count : Int32} {p0_marsh_fleet_nextNumber : Int32} {p0_marsh_fleet_total : Int32} {p0_marsh_fleet_removedFares : Int32} {p0_marsh_fleet_meetings : Int32} {p0_marsh_plans_moves : Nat → Int32} {p0_marsh_plans_lengths : Nat → Int32} {p0_marsh_landings_cells : Nat → Int32} {p0_marsh_landings_count : Int32} {p0_marsh_fogSide : Int32} {p0_snapshot_reeds_states : Nat → Int32} {p0_snapshot_reeds_count : Int32} {p0_snapshot_reeds_broken : Int32} {p0_snapshot_fleet_numbers : Nat → Int32} {p0_snapshot_fleet_cells : Nat → Int32} {p0_snapshot_fleet_fares : Nat → Int32} {p0_snapshot_fleet_count : Int32} {p0_snapshot_fleet_nextNumber : Int32} {p0_snapshot_fleet_total : Int32} {p0_snapshot_fleet_removedFares : Int32} {p0_snapshot_fleet_meetings : Int32} {p0_snapshot_plans_moves : Nat → Int32} {p0_snapshot_plans_lengths : Nat → Int32} {p0_snapshot_landings_cells : Nat → Int32} {p0_snapshot_landings_count : Int32} {p0_snapshot_fogSide : Int32} {p0_history_slots : Nat → mm_MV} {p0_history_free : Int32} {p0_history_count : Int32} {p0_ways_tolls : Nat → Int32} {p0_ways_queue : Nat → Int32} {p0_ways_heap : Nat → Int32} {p0_ways_heapSize : Int32} {p0_ways_found : Nat → Int32} {p0_ways_improved : Nat → Int32} {p0_pairing_costs : Nat → Int32} {p0_pairing_best : Nat → Int32} {p0_reader_kinds : Nat → Int32} {p0_reader_starts : Nat → Int32} {p0_reader_count : Int32} {p0_commandText_signs : Nat → Int32} {p0_commandText_length : Int32} {p0_line_signs : Nat → Int32} {p0_line_length : Int32} {p0_spareMoves : Nat → Int32} {p0_snapshotTaken : Int32} {p0_lastErrorPosition : Int32} {p0_lastFailedCommand : Int32} {p2 : Nat → Int64} {x1 : Int32} {X : Int32 × (Nat → Int32) × (Nat → mm_MV) × Int32 × Int32 × (Nat → Int64)} (hf : f_L_clearPlan p0_marsh_reeds_states p0_marsh_reeds_count p0_marsh_reeds_broken p0_marsh_fleet_numbers p0_marsh_fleet_cells p0_marsh_fleet_fares p0_marsh_fleet_count p0_marsh_fleet_nextNumber p0_marsh_fleet_total p0_marsh_fleet_removedFares p0_marsh_fleet_meetings p0_marsh_plans_moves p0_marsh_plans_lengths p0_marsh_landings_cells p0_marsh_landings_count p0_marsh_fogSide p0_history_slots p0_history_free p0_history_count p2 x1 = some X) (hp_p0 : At12 G w b0 p0_marsh_reeds_states p0_marsh_reeds_count p0_marsh_reeds_broken p0_marsh_fleet_numbers p0_marsh_fleet_cells p0_marsh_fleet_fares p0_marsh_fleet_count p0_marsh_fleet_nextNumber p0_marsh_fleet_total p0_marsh_fleet_removedFares p0_marsh_fleet_meetings p0_marsh_plans_moves p0_marsh_plans_lengths p0_marsh_landings_cells p0_marsh_landings_count p0_marsh_fogSide p0_snapshot_reeds_states p0_snapshot_reeds_count p0_snapshot_reeds_broken p0_snapshot_fleet_numbers p0_snapshot_fleet_cells p0_snapshot_fleet_fares p0_snapshot_fleet_count p0_snapshot_fleet_nextNumber p0_snapshot_fleet_total p0_snapshot_fleet_removedFares p0_snapshot_fleet_meetings p0_snapshot_plans_moves p0_snapshot_plans_lengths p0_snapshot_landings_cells p0_snapshot_landings_count p0_snapshot_fogSide p0_history_slots p0_history_free p0_history_count p0_ways_tolls p0_ways_queue p0_ways_heap p0_ways_heapSize p0_ways_found p0_ways_improved p0_pairing_costs p0_pairing_best p0_reader_kinds p0_reader_starts p0_reader_count p0_commandText_signs p0_commandText_length p0_line_signs p0_line_length p0_spareMoves p0_snapshotTaken p0_lastErrorPosition p0_lastFailedCommand) (hp_p2 : (a2, (.inl (G.2 3, 1, .inr (.inl p2)) : va_E)) ∈ w) (hd0 : b0 + 152 ≤ a2 ∨ a2 + 1 ≤ b0) : Met l yL_clearPlan (Cond.codeWith yL_clearPlan cL_clearPlan 4 (some .int) [(0, 9, 12, 13)] :: gAll) ({ frames := 9, cells := 1, slots := 6, locals := 162 }) (va_Pc [.ref b0, .int x1, .ref a2] (mm_Pre G w sz)) (mm_Qi G w sz (fun r w' => r = X.1 ∧ At12 G w' b0 p0_marsh_reeds_states p0_marsh_reeds_count p0_marsh_reeds_broken p0_marsh_fleet_numbers p0_marsh_fleet_cells p0_marsh_fleet_fares p0_marsh_fleet_count p0_marsh_fleet_nextNumber p0_marsh_fleet_total p0_marsh_fleet_removedFares p0_marsh_fleet_meetings p0_marsh_plans_moves X.2.1 p0_marsh_landings_cells p0_marsh_landings_count p0_marsh_fogSide p0_snapshot_reeds_states p0_snapshot_reeds_count p0_snapshot_reeds_broken p0_snapshot_fleet_numbers p0_snapshot_fleet_cells p0_snapshot_fleet_fares p0_snapshot_fleet_count p0_snapshot_fleet_nextNumber p0_snapshot_fleet_total p0_snapshot_fleet_removedFares p0_snapshot_fleet_meetings p0_snapshot_plans_moves p0_snapshot_plans_lengths p0_snapshot_landings_cells p0_snapshot_landings_count p0_snapshot_fogSide X.2.2.1 X.2.2.2.1 X.2.2.2.2.1 p0_ways_tolls p0_ways_queue p0_ways_heap p0_ways_heapSize p0_ways_found p0_ways_improved p0_pairing_costs p0_pairing_best p0_reader_kinds p0_reader_starts p0_reader_count p0_commandText_signs p0_commandText_length p0_line_signs p0_line_length p0_spareMoves p0_snapshotTaken p0_lastErrorPosition p0_lastFailedCommand ∧ (a2, (.inl (G.2 3, 1, .inr (.inl X.2.2.2.2.2)) : va_E)) ∈ w' ∧ mm_fr2 w w' b0 (b0 + 152) a2 (a2 + 1))) 1 6 (va_A w sz) := by
  refine mm_hhead hfl [.ref b0, .int x1, .ref a2] (by decide +kernel) rfl (Nat.le_of_ble_eq_true rfl) ?_
  intro p e s m args below meth c A Q hsz hC hM hret hxt ls hl
  have hx := hC.1.1
  have hb := hC.1.2.1
  have hl : lv_has ls 4 [(0, .ref b0), (1, .int x1), (2, .ref a2)] := hl
  have hF : mm_fr2 w w b0 (b0 + 152) a2 (a2 + 1) := mm_fr2.rf
  rw [f_L_clearPlan] at hf
  refine lv_aload_n hx hb dL_clearPlan_0 rfl (lv_at hl 2 rfl) ?_
  refine lv_iconst (v := 0) hx hb dL_clearPlan_1 (by decide) ?_
  refine lv_aload_n hx hb dL_clearPlan_2 rfl (lv_at hl 0 rfl) ?_
  refine lv_iload_n hx hb dL_clearPlan_3 rfl (lv_at hl 1 rfl) ?_
  obtain ⟨q4, hq4, hf⟩ := mm_bd hf
  refine mm_xVi (rest := [.int 0, .ref a2]) hC hM (c_X12_clearPlan l hfl hq4 hp_p0) q4_227 q1_1 ykX12_clearPlan q4_224 q4_225 q4_226 hp_p0.1 rfl ⟨rfl, rfl⟩ ⟨Nat.le_of_ble_eq_true rfl, Nat.le_of_ble_eq_true rfl⟩ rfl hl.1 rfl (Nat.le_of_ble_eq_true rfl) dL_clearPlan_4 ⟨Nat.le_of_ble_eq_true rfl, Nat.le_of_ble_eq_true rfl⟩ (fun E ce qE w4 H locs hM hw hqE hv9 hcl9 => ?_) (fun r w4 H locs hM hw => ?_)
  · obtain ⟨hne, hE, hn_this, hfr⟩ := hw
    rw [if_neg hne] at hf
    by_cases hk0 : q4.1 = 1
    · rw [if_pos hk0] at hf
      have hEk : E = mm_ex 1 := by rw [hE, hk0]
      subst hEk
      have hp_p2 := hfr.keep hp_p2 (by omega)
      have hp_p0 := hn_this
      have hF := hF.tr (hfr.l (by omega) (by omega))
      refine vx_catch hC.1.2.2.2.1 [] ⟨0, 9, 12, 13⟩ [] hxt (fun z hz => absurd hz List.not_mem_nil) rfl (by decide) (hC.1.2.2.2.2 _ q3_90) (va_Nw.use rfl (hC.2.2.1.1.1 _ nw_castable_1)) hqE hv9 hcl9 ?_
      refine lv_astore_n (lv' := [(3, .ref qE), (0, .ref b0), (1, .int x1), (2, .ref a2)]) hx hb dL_clearPlan_12 rfl hl (by decide) rfl (fun ls hl => ?_)
      refine lv_iconst (v := 1) hx hb dL_clearPlan_13 (by decide) ?_
      cases hf
      exact hret hM dL_clearPlan_14 rfl ⟨rfl, hp_p0, hp_p2, hF⟩ (Nat.le_of_ble_eq_true rfl) (Nat.le_of_ble_eq_true rfl)
    rw [if_neg hk0] at hf
    cases hf
  obtain ⟨h0, hr, hn_this, hfr⟩ := hw
  rw [if_pos h0] at hf
  rw [hr]
  have hp_p2 := hfr.keep hp_p2 (by omega)
  have hp_p0 := hn_this
  have hF := hF.tr (hfr.l (by omega) (by omega))
  refine lv_i2l hx hb dL_clearPlan_7 rfl ?_
  refine mm_last0 hC hM hp_p2 dL_clearPlan_8 (fun w8 H locs hM hm => ?_)
  have hp_p0 := hp_p0.up hm (by omega)
  have hp_p2 := hm.1
  have hF := hF.tr (hm.r (by omega) (by omega))
  refine lv_goto (tgt := 15) hx hb dL_clearPlan_9 (by decide) ?_
  refine lv_iconst (v := 0) hx hb dL_clearPlan_15 (by decide) ?_
  cases hf
  exact hret hM dL_clearPlan_16 rfl ⟨rfl, hp_p0, hp_p2, hF⟩ (Nat.le_of_ble_eq_true rfl) (Nat.le_of_ble_eq_true rfl)
def f_L_mirror (K : Nat) (p0_marsh_reeds_states : Nat → Int32) (p0_marsh_reeds_count : Int32) (p0_marsh_reeds_broken : Int32) (p0_marsh_fleet_numbers : Nat → Int32) (p0_marsh_fleet_cells : Nat → Int32) (p0_marsh_fleet_fares : Nat → Int32) (p0_marsh_fleet_count : Int32) (p0_marsh_fleet_nextNumber : Int32) (p0_marsh_fleet_total : Int32) (p0_marsh_fleet_removedFares : Int32) (p0_marsh_fleet_meetings : Int32) (p0_marsh_plans_moves : Nat → Int32) (p0_marsh_plans_lengths : Nat → Int32) (p0_marsh_landings_cells : Nat → Int32) (p0_marsh_landings_count : Int32) (p0_marsh_fogSide : Int32) (p0_history_slots : Nat → mm_MV) (p0_history_free : Int32) (p0_history_count : Int32) (p3 : Nat → Int64) (x1 : Int32) (x2 : Int32) : Option (Int32 × (Nat → Int32) × (Nat → Int32) × (Nat → mm_MV) × Int32 × Int32 × (Nat → Int64)) := (f_X12_mirror K p0_marsh_reeds_states p0_marsh_reeds_count p0_marsh_reeds_broken p0_marsh_fleet_numbers p0_marsh_fleet_cells p0_marsh_fleet_fares p0_marsh_fleet_count p0_marsh_fleet_nextNumber p0_marsh_fleet_total p0_marsh_fleet_removedFares p0_marsh_fleet_meetings p0_marsh_plans_moves p0_marsh_plans_lengths p0_marsh_landings_cells p0_marsh_landings_count p0_marsh_fogSide p0_history_slots p0_history_free p0_history_count x1 x2).bind fun q5 => if q5.1 = 0 then some (0, q5.2.2.1, q5.2.2.2.1, q5.2.2.2.2.1, q5.2.2.2.2.2.1, q5.2.2.2.2.2.2, (vp_updL p3 0 q5.2.1.toInt64)) else if q5.1 = 1 then some (1, q5.2.2.1, q5.2.2.2.1, q5.2.2.2.2.1, q5.2.2.2.2.2.1, q5.2.2.2.2.2.2, p3) else none
set_option maxHeartbeats 4000000 in
set_option maxRecDepth 100000 in
theorem c_L_mirror (l : Launch) (hfl : l.stackTraces = false) {G : mm_G} {K : Nat} {w : va_W} {sz : Nat} {b0 : Nat} {a3 : Nat} {p0_marsh_reeds_states : Nat → Int32} {p0_marsh_reeds_count : Int32} {p0_marsh_reeds_broken : Int32} {p0_marsh_fleet_numbers : Nat → Int32} {p0_marsh_fleet_cells : Nat → Int32} {p0_marsh_fleet_fares : Nat → Int32} {p0_marsh_fleet_count : Int32} {p0_marsh_fleet_nextNumber : Int32} {p0_marsh_fleet_total : Int32} {p0_marsh_fleet_removedFares : Int32} {p0_marsh_fleet_meetings : Int32} {p0_marsh_plans_moves : Nat → Int32} {p0_marsh_plans_lengths : Nat → Int32} {p0_marsh_landings_cells : Nat → Int32} {p0_marsh_landings_count : Int32} {p0_marsh_fogSide : Int32} {p0_snapshot_reeds_states : Nat → Int32} {p0_snapshot_reeds_count : Int32} {p0_snapshot_reeds_broken : Int32} {p0_snapshot_fleet_numbers : Nat → Int32} {p0_snapshot_fleet_cells : Nat → Int32} {p0_snapshot_fleet_fares : Nat → Int32} {p0_snapshot_fleet_count : Int32} {p0_snapshot_fleet_nextNumber : Int32} {p0_snapshot_fleet_total : Int32} {p0_snapshot_fleet_removedFares : Int32} {p0_snapshot_fleet_meetings : Int32} {p0_snapshot_plans_moves : Nat → Int32} {p0_snapshot_plans_lengths : Nat → Int32} {p0_snapshot_landings_cells : Nat → Int32} {p0_snapshot_landings_count : Int32} {p0_snapshot_fogSide : Int32} {p0_history_slots : Nat → mm_MV} {p0_history_free : Int32} {p0_history_count : Int32} {p0_ways_tolls : Nat → Int32} {p0_ways_queue : Nat → Int32} {p0_ways_heap : Nat → Int32} {p0_ways_heapSize : Int32} {p0_ways_found : Nat → Int32} {p0_ways_improved : Nat → Int32} {p0_pairing_costs : Nat → Int32} {p0_pairing_best : Nat → Int32} {p0_reader_kinds : Nat → Int32} {p0_reader_starts : Nat → Int32} {p0_reader_count : Int32} {p0_commandText_signs : Nat → Int32} {p0_commandText_length : Int32} {p0_line_signs : Nat → Int32} {p0_line_length : Int32} {p0_spareMoves : Nat → Int32} {p0_snapshotTaken : Int32} {p0_lastErrorPosition : Int32} {p0_lastFailedCommand : Int32} {p3 : Nat → Int64} {x1 : Int32} {x2 : Int32} {X : Int32 × (Nat → Int32) × (Nat → Int32) × (Nat → mm_MV) × Int32 × Int32 × (Nat → Int64)} (hf : f_L_mirror K p0_marsh_reeds_states p0_marsh_reeds_count p0_marsh_reeds_broken p0_marsh_fleet_numbers p0_marsh_fleet_cells p0_marsh_fleet_fares p0_marsh_fleet_count p0_marsh_fleet_nextNumber p0_marsh_fleet_total p0_marsh_fleet_removedFares p0_marsh_fleet_meetings p0_marsh_plans_moves p0_marsh_plans_lengths p0_marsh_landings_cells p0_marsh_landings_count p0_marsh_fogSide p0_history_slots p0_history_free p0_history_count p3 x1 x2 = some X) (hp_p0 : At12 G w b0 p0_marsh_reeds_states p0_marsh_reeds_count p0_marsh_reeds_broken p0_marsh_fleet_numbers p0_marsh_fleet_cells p0_marsh_fleet_fares p0_marsh_fleet_count p0_marsh_fleet_nextNumber p0_marsh_fleet_total p0_marsh_fleet_removedFares p0_marsh_fleet_meetings p0_marsh_plans_moves p0_marsh_plans_lengths p0_marsh_landings_cells p0_marsh_landings_count p0_marsh_fogSide p0_snapshot_reeds_states p0_snapshot_reeds_count p0_snapshot_reeds_broken p0_snapshot_fleet_numbers p0_snapshot_fleet_cells p0_snapshot_fleet_fares p0_snapshot_fleet_count p0_snapshot_fleet_nextNumber p0_snapshot_fleet_total p0_snapshot_fleet_removedFares p0_snapshot_fleet_meetings p0_snapshot_plans_moves p0_snapshot_plans_lengths p0_snapshot_landings_cells p0_snapshot_landings_count p0_snapshot_fogSide p0_history_slots p0_history_free p0_history_count p0_ways_tolls p0_ways_queue p0_ways_heap p0_ways_heapSize p0_ways_found p0_ways_improved p0_pairing_costs p0_pairing_best p0_reader_kinds p0_reader_starts p0_reader_count p0_commandText_signs p0_commandText_length p0_line_signs p0_line_length p0_spareMoves p0_snapshotTaken p0_lastErrorPosition p0_lastFailedCommand) (hp_p3 : (a3, (.inl (G.2 3, 1, .inr (.inl p3)) : va_E)) ∈ w) (hd0 : b0 + 152 ≤ a3 ∨ a3 + 1 ≤ b0) : Met l yL_mirror (Cond.codeWith yL_mirror cL_mirror 5 (some .int) [(0, 10, 13, 13)] :: gAll) ({ frames := 9, cells := 1, slots := 6, locals := 163 }) (va_Pc [.ref b0, .int x1, .int x2, .ref a3] (mm_Pre G w sz)) (mm_Qi G w sz (fun r w' => r = X.1 ∧ At12 G w' b0 p0_marsh_reeds_states p0_marsh_reeds_count p0_marsh_reeds_broken p0_marsh_fleet_numbers p0_marsh_fleet_cells p0_marsh_fleet_fares p0_marsh_fleet_count p0_marsh_fleet_nextNumber p0_marsh_fleet_total p0_marsh_fleet_removedFares p0_marsh_fleet_meetings X.2.1 X.2.2.1 p0_marsh_landings_cells p0_marsh_landings_count p0_marsh_fogSide p0_snapshot_reeds_states p0_snapshot_reeds_count p0_snapshot_reeds_broken p0_snapshot_fleet_numbers p0_snapshot_fleet_cells p0_snapshot_fleet_fares p0_snapshot_fleet_count p0_snapshot_fleet_nextNumber p0_snapshot_fleet_total p0_snapshot_fleet_removedFares p0_snapshot_fleet_meetings p0_snapshot_plans_moves p0_snapshot_plans_lengths p0_snapshot_landings_cells p0_snapshot_landings_count p0_snapshot_fogSide X.2.2.2.1 X.2.2.2.2.1 X.2.2.2.2.2.1 p0_ways_tolls p0_ways_queue p0_ways_heap p0_ways_heapSize p0_ways_found p0_ways_improved p0_pairing_costs p0_pairing_best p0_reader_kinds p0_reader_starts p0_reader_count p0_commandText_signs p0_commandText_length p0_line_signs p0_line_length p0_spareMoves p0_snapshotTaken p0_lastErrorPosition p0_lastFailedCommand ∧ (a3, (.inl (G.2 3, 1, .inr (.inl X.2.2.2.2.2.2)) : va_E)) ∈ w' ∧ mm_fr2 w w' b0 (b0 + 152) a3 (a3 + 1))) 1 6 (va_A w sz) := by
  refine mm_hhead hfl [.ref b0, .int x1, .int x2, .ref a3] (by decide +kernel) rfl (Nat.le_of_ble_eq_true rfl) ?_
  intro p e s m args below meth c A Q hsz hC hM hret hxt ls hl
  have hx := hC.1.1
  have hb := hC.1.2.1
  have hl : lv_has ls 5 [(0, .ref b0), (1, .int x1), (2, .int x2), (3, .ref a3)] := hl
  have hF : mm_fr2 w w b0 (b0 + 152) a3 (a3 + 1) := mm_fr2.rf
  rw [f_L_mirror] at hf
  refine lv_aload_n hx hb dL_mirror_0 rfl (lv_at hl 3 rfl) ?_
  refine lv_iconst (v := 0) hx hb dL_mirror_1 (by decide) ?_
  refine lv_aload_n hx hb dL_mirror_2 rfl (lv_at hl 0 rfl) ?_
  refine lv_iload_n hx hb dL_mirror_3 rfl (lv_at hl 1 rfl) ?_
  refine lv_iload_n hx hb dL_mirror_4 rfl (lv_at hl 2 rfl) ?_
  obtain ⟨q5, hq5, hf⟩ := mm_bd hf
  refine mm_xVi (rest := [.int 0, .ref a3]) hC hM (c_X12_mirror l hfl hq5 hp_p0) q4_238 q1_1 ykX12_mirror q4_235 q4_236 q4_237 hp_p0.1 rfl ⟨rfl, rfl⟩ ⟨Nat.le_of_ble_eq_true rfl, Nat.le_of_ble_eq_true rfl⟩ rfl hl.1 rfl (Nat.le_of_ble_eq_true rfl) dL_mirror_5 ⟨Nat.le_of_ble_eq_true rfl, Nat.le_of_ble_eq_true rfl⟩ (fun E ce qE w5 H locs hM hw hqE hv9 hcl9 => ?_) (fun r w5 H locs hM hw => ?_)
  · obtain ⟨hne, hE, hn_this, hfr⟩ := hw
    rw [if_neg hne] at hf
    by_cases hk0 : q5.1 = 1
    · rw [if_pos hk0] at hf
      have hEk : E = mm_ex 1 := by rw [hE, hk0]
      subst hEk
      have hp_p3 := hfr.keep hp_p3 (by omega)
      have hp_p0 := hn_this
      have hF := hF.tr (hfr.l (by omega) (by omega))
      refine vx_catch hC.1.2.2.2.1 [] ⟨0, 10, 13, 13⟩ [] hxt (fun z hz => absurd hz List.not_mem_nil) rfl (by decide) (hC.1.2.2.2.2 _ q3_90) (va_Nw.use rfl (hC.2.2.1.1.1 _ nw_castable_1)) hqE hv9 hcl9 ?_
      refine lv_astore (lv' := [(4, .ref qE), (0, .ref b0), (1, .int x1), (2, .int x2), (3, .ref a3)]) hx hb dL_mirror_13 hl (by decide) rfl (fun ls hl => ?_)
      refine lv_iconst (v := 1) hx hb dL_mirror_15 (by decide) ?_
      cases hf
      exact hret hM dL_mirror_16 rfl ⟨rfl, hp_p0, hp_p3, hF⟩ (Nat.le_of_ble_eq_true rfl) (Nat.le_of_ble_eq_true rfl)
    rw [if_neg hk0] at hf
    cases hf
  obtain ⟨h0, hr, hn_this, hfr⟩ := hw
  rw [if_pos h0] at hf
  rw [hr]
  have hp_p3 := hfr.keep hp_p3 (by omega)
  have hp_p0 := hn_this
  have hF := hF.tr (hfr.l (by omega) (by omega))
  refine lv_i2l hx hb dL_mirror_8 rfl ?_
  refine mm_last0 hC hM hp_p3 dL_mirror_9 (fun w9 H locs hM hm => ?_)
  have hp_p0 := hp_p0.up hm (by omega)
  have hp_p3 := hm.1
  have hF := hF.tr (hm.r (by omega) (by omega))
  refine lv_goto (tgt := 17) hx hb dL_mirror_10 (by decide) ?_
  refine lv_iconst (v := 0) hx hb dL_mirror_17 (by decide) ?_
  cases hf
  exact hret hM dL_mirror_18 rfl ⟨rfl, hp_p0, hp_p3, hF⟩ (Nat.le_of_ble_eq_true rfl) (Nat.le_of_ble_eq_true rfl)
def f_L_reverse (K : Nat) (p0_marsh_reeds_states : Nat → Int32) (p0_marsh_reeds_count : Int32) (p0_marsh_reeds_broken : Int32) (p0_marsh_fleet_numbers : Nat → Int32) (p0_marsh_fleet_cells : Nat → Int32) (p0_marsh_fleet_fares : Nat → Int32) (p0_marsh_fleet_count : Int32) (p0_marsh_fleet_nextNumber : Int32) (p0_marsh_fleet_total : Int32) (p0_marsh_fleet_removedFares : Int32) (p0_marsh_fleet_meetings : Int32) (p0_marsh_plans_moves : Nat → Int32) (p0_marsh_plans_lengths : Nat → Int32) (p0_marsh_landings_cells : Nat → Int32) (p0_marsh_landings_count : Int32) (p0_marsh_fogSide : Int32) (p0_history_slots : Nat → mm_MV) (p0_history_free : Int32) (p0_history_count : Int32) (p3 : Nat → Int64) (x1 : Int32) (x2 : Int32) : Option (Int32 × (Nat → Int32) × (Nat → Int32) × (Nat → mm_MV) × Int32 × Int32 × (Nat → Int64)) := (f_X12_reverse K p0_marsh_reeds_states p0_marsh_reeds_count p0_marsh_reeds_broken p0_marsh_fleet_numbers p0_marsh_fleet_cells p0_marsh_fleet_fares p0_marsh_fleet_count p0_marsh_fleet_nextNumber p0_marsh_fleet_total p0_marsh_fleet_removedFares p0_marsh_fleet_meetings p0_marsh_plans_moves p0_marsh_plans_lengths p0_marsh_landings_cells p0_marsh_landings_count p0_marsh_fogSide p0_history_slots p0_history_free p0_history_count x1 x2).bind fun q5 => if q5.1 = 0 then some (0, q5.2.2.1, q5.2.2.2.1, q5.2.2.2.2.1, q5.2.2.2.2.2.1, q5.2.2.2.2.2.2, (vp_updL p3 0 q5.2.1.toInt64)) else if q5.1 = 1 then some (1, q5.2.2.1, q5.2.2.2.1, q5.2.2.2.2.1, q5.2.2.2.2.2.1, q5.2.2.2.2.2.2, p3) else none
set_option maxHeartbeats 4000000 in
set_option maxRecDepth 100000 in
theorem c_L_reverse (l : Launch) (hfl : l.stackTraces = false) {G : mm_G} {K : Nat} {w : va_W} {sz : Nat} {b0 : Nat} {a3 : Nat} {p0_marsh_reeds_states : Nat → Int32} {p0_marsh_reeds_count : Int32} {p0_marsh_reeds_broken : Int32} {p0_marsh_fleet_numbers : Nat → Int32} {p0_marsh_fleet_cells : Nat → Int32} {p0_marsh_fleet_fares : Nat → Int32} {p0_marsh_fleet_count : Int32} {p0_marsh_fleet_nextNumber : Int32} {p0_marsh_fleet_total : Int32} {p0_marsh_fleet_removedFares : Int32} {p0_marsh_fleet_meetings : Int32} {p0_marsh_plans_moves : Nat → Int32} {p0_marsh_plans_lengths : Nat → Int32} {p0_marsh_landings_cells : Nat → Int32} {p0_marsh_landings_count : Int32} {p0_marsh_fogSide : Int32} {p0_snapshot_reeds_states : Nat → Int32} {p0_snapshot_reeds_count : Int32} {p0_snapshot_reeds_broken : Int32} {p0_snapshot_fleet_numbers : Nat → Int32} {p0_snapshot_fleet_cells : Nat → Int32} {p0_snapshot_fleet_fares : Nat → Int32} {p0_snapshot_fleet_count : Int32} {p0_snapshot_fleet_nextNumber : Int32} {p0_snapshot_fleet_total : Int32} {p0_snapshot_fleet_removedFares : Int32} {p0_snapshot_fleet_meetings : Int32} {p0_snapshot_plans_moves : Nat → Int32} {p0_snapshot_plans_lengths : Nat → Int32} {p0_snapshot_landings_cells : Nat → Int32} {p0_snapshot_landings_count : Int32} {p0_snapshot_fogSide : Int32} {p0_history_slots : Nat → mm_MV} {p0_history_free : Int32} {p0_history_count : Int32} {p0_ways_tolls : Nat → Int32} {p0_ways_queue : Nat → Int32} {p0_ways_heap : Nat → Int32} {p0_ways_heapSize : Int32} {p0_ways_found : Nat → Int32} {p0_ways_improved : Nat → Int32} {p0_pairing_costs : Nat → Int32} {p0_pairing_best : Nat → Int32} {p0_reader_kinds : Nat → Int32} {p0_reader_starts : Nat → Int32} {p0_reader_count : Int32} {p0_commandText_signs : Nat → Int32} {p0_commandText_length : Int32} {p0_line_signs : Nat → Int32} {p0_line_length : Int32} {p0_spareMoves : Nat → Int32} {p0_snapshotTaken : Int32} {p0_lastErrorPosition : Int32} {p0_lastFailedCommand : Int32} {p3 : Nat → Int64} {x1 : Int32} {x2 : Int32} {X : Int32 × (Nat → Int32) × (Nat → Int32) × (Nat → mm_MV) × Int32 × Int32 × (Nat → Int64)} (hf : f_L_reverse K p0_marsh_reeds_states p0_marsh_reeds_count p0_marsh_reeds_broken p0_marsh_fleet_numbers p0_marsh_fleet_cells p0_marsh_fleet_fares p0_marsh_fleet_count p0_marsh_fleet_nextNumber p0_marsh_fleet_total p0_marsh_fleet_removedFares p0_marsh_fleet_meetings p0_marsh_plans_moves p0_marsh_plans_lengths p0_marsh_landings_cells p0_marsh_landings_count p0_marsh_fogSide p0_history_slots p0_history_free p0_history_count p3 x1 x2 = some X) (hp_p0 : At12 G w b0 p0_marsh_reeds_states p0_marsh_reeds_count p0_marsh_reeds_broken p0_marsh_fleet_numbers p0_marsh_fleet_cells p0_marsh_fleet_fares p0_marsh_fleet_count p0_marsh_fleet_nextNumber p0_marsh_fleet_total p0_marsh_fleet_removedFares p0_marsh_fleet_meetings p0_marsh_plans_moves p0_marsh_plans_lengths p0_marsh_landings_cells p0_marsh_landings_count p0_marsh_fogSide p0_snapshot_reeds_states p0_snapshot_reeds_count p0_snapshot_reeds_broken p0_snapshot_fleet_numbers p0_snapshot_fleet_cells p0_snapshot_fleet_fares p0_snapshot_fleet_count p0_snapshot_fleet_nextNumber p0_snapshot_fleet_total p0_snapshot_fleet_removedFares p0_snapshot_fleet_meetings p0_snapshot_plans_moves p0_snapshot_plans_lengths p0_snapshot_landings_cells p0_snapshot_landings_count p0_snapshot_fogSide p0_history_slots p0_history_free p0_history_count p0_ways_tolls p0_ways_queue p0_ways_heap p0_ways_heapSize p0_ways_found p0_ways_improved p0_pairing_costs p0_pairing_best p0_reader_kinds p0_reader_starts p0_reader_count p0_commandText_signs p0_commandText_length p0_line_signs p0_line_length p0_spareMoves p0_snapshotTaken p0_lastErrorPosition p0_lastFailedCommand) (hp_p3 : (a3, (.inl (G.2 3, 1, .inr (.inl p3)) : va_E)) ∈ w) (hd0 : b0 + 152 ≤ a3 ∨ a3 + 1 ≤ b0) : Met l yL_reverse (Cond.codeWith yL_reverse cL_reverse 5 (some .int) [(0, 10, 13, 13)] :: gAll) ({ frames := 9, cells := 1, slots := 6, locals := 163 }) (va_Pc [.ref b0, .int x1, .int x2, .ref a3] (mm_Pre G w sz)) (mm_Qi G w sz (fun r w' => r = X.1 ∧ At12 G w' b0 p0_marsh_reeds_states p0_marsh_reeds_count p0_marsh_reeds_broken p0_marsh_fleet_numbers p0_marsh_fleet_cells p0_marsh_fleet_fares p0_marsh_fleet_count p0_marsh_fleet_nextNumber p0_marsh_fleet_total p0_marsh_fleet_removedFares p0_marsh_fleet_meetings X.2.1 X.2.2.1 p0_marsh_landings_cells p0_marsh_landings_count p0_marsh_fogSide p0_snapshot_reeds_states p0_snapshot_reeds_count p0_snapshot_reeds_broken p0_snapshot_fleet_numbers p0_snapshot_fleet_cells p0_snapshot_fleet_fares p0_snapshot_fleet_count p0_snapshot_fleet_nextNumber p0_snapshot_fleet_total p0_snapshot_fleet_removedFares p0_snapshot_fleet_meetings p0_snapshot_plans_moves p0_snapshot_plans_lengths p0_snapshot_landings_cells p0_snapshot_landings_count p0_snapshot_fogSide X.2.2.2.1 X.2.2.2.2.1 X.2.2.2.2.2.1 p0_ways_tolls p0_ways_queue p0_ways_heap p0_ways_heapSize p0_ways_found p0_ways_improved p0_pairing_costs p0_pairing_best p0_reader_kinds p0_reader_starts p0_reader_count p0_commandText_signs p0_commandText_length p0_line_signs p0_line_length p0_spareMoves p0_snapshotTaken p0_lastErrorPosition p0_lastFailedCommand ∧ (a3, (.inl (G.2 3, 1, .inr (.inl X.2.2.2.2.2.2)) : va_E)) ∈ w' ∧ mm_fr2 w w' b0 (b0 + 152) a3 (a3 + 1))) 1 6 (va_A w sz) := by
  refine mm_hhead hfl [.ref b0, .int x1, .int x2, .ref a3] (by decide +kernel) rfl (Nat.le_of_ble_eq_true rfl) ?_
  intro p e s m args below meth c A Q hsz hC hM hret hxt ls hl
  have hx := hC.1.1
  have hb := hC.1.2.1
  have hl : lv_has ls 5 [(0, .ref b0), (1, .int x1), (2, .int x2), (3, .ref a3)] := hl
  have hF : mm_fr2 w w b0 (b0 + 152) a3 (a3 + 1) := mm_fr2.rf
  rw [f_L_reverse] at hf
  refine lv_aload_n hx hb dL_reverse_0 rfl (lv_at hl 3 rfl) ?_
  refine lv_iconst (v := 0) hx hb dL_reverse_1 (by decide) ?_
  refine lv_aload_n hx hb dL_reverse_2 rfl (lv_at hl 0 rfl) ?_
  refine lv_iload_n hx hb dL_reverse_3 rfl (lv_at hl 1 rfl) ?_
  refine lv_iload_n hx hb dL_reverse_4 rfl (lv_at hl 2 rfl) ?_
  obtain ⟨q5, hq5, hf⟩ := mm_bd hf
  refine mm_xVi (rest := [.int 0, .ref a3]) hC hM (c_X12_reverse l hfl hq5 hp_p0) q5_13 q1_1 ykX12_reverse q5_10 q5_11 q5_12 hp_p0.1 rfl ⟨rfl, rfl⟩ ⟨Nat.le_of_ble_eq_true rfl, Nat.le_of_ble_eq_true rfl⟩ rfl hl.1 rfl (Nat.le_of_ble_eq_true rfl) dL_reverse_5 ⟨Nat.le_of_ble_eq_true rfl, Nat.le_of_ble_eq_true rfl⟩ (fun E ce qE w5 H locs hM hw hqE hv9 hcl9 => ?_) (fun r w5 H locs hM hw => ?_)
  · obtain ⟨hne, hE, hn_this, hfr⟩ := hw
    rw [if_neg hne] at hf
    by_cases hk0 : q5.1 = 1
    · rw [if_pos hk0] at hf
      have hEk : E = mm_ex 1 := by rw [hE, hk0]
      subst hEk
      have hp_p3 := hfr.keep hp_p3 (by omega)
      have hp_p0 := hn_this
      have hF := hF.tr (hfr.l (by omega) (by omega))
      refine vx_catch hC.1.2.2.2.1 [] ⟨0, 10, 13, 13⟩ [] hxt (fun z hz => absurd hz List.not_mem_nil) rfl (by decide) (hC.1.2.2.2.2 _ q3_90) (va_Nw.use rfl (hC.2.2.1.1.1 _ nw_castable_1)) hqE hv9 hcl9 ?_
      refine lv_astore (lv' := [(4, .ref qE), (0, .ref b0), (1, .int x1), (2, .int x2), (3, .ref a3)]) hx hb dL_reverse_13 hl (by decide) rfl (fun ls hl => ?_)
      refine lv_iconst (v := 1) hx hb dL_reverse_15 (by decide) ?_
      cases hf
      exact hret hM dL_reverse_16 rfl ⟨rfl, hp_p0, hp_p3, hF⟩ (Nat.le_of_ble_eq_true rfl) (Nat.le_of_ble_eq_true rfl)
    rw [if_neg hk0] at hf
    cases hf
  obtain ⟨h0, hr, hn_this, hfr⟩ := hw
  rw [if_pos h0] at hf
  rw [hr]
  have hp_p3 := hfr.keep hp_p3 (by omega)
  have hp_p0 := hn_this
  have hF := hF.tr (hfr.l (by omega) (by omega))
  refine lv_i2l hx hb dL_reverse_8 rfl ?_
  refine mm_last0 hC hM hp_p3 dL_reverse_9 (fun w9 H locs hM hm => ?_)
  have hp_p0 := hp_p0.up hm (by omega)
  have hp_p3 := hm.1
  have hF := hF.tr (hm.r (by omega) (by omega))
  refine lv_goto (tgt := 17) hx hb dL_reverse_10 (by decide) ?_
  refine lv_iconst (v := 0) hx hb dL_reverse_17 (by decide) ?_
  cases hf
  exact hret hM dL_reverse_18 rfl ⟨rfl, hp_p0, hp_p3, hF⟩ (Nat.le_of_ble_eq_true rfl) (Nat.le_of_ble_eq_true rfl)
def f_L_reduce (K : Nat) (p0_marsh_reeds_states : Nat → Int32) (p0_marsh_reeds_count : Int32) (p0_marsh_reeds_broken : Int32) (p0_marsh_fleet_numbers : Nat → Int32) (p0_marsh_fleet_cells : Nat → Int32) (p0_marsh_fleet_fares : Nat → Int32) (p0_marsh_fleet_count : Int32) (p0_marsh_fleet_nextNumber : Int32) (p0_marsh_fleet_total : Int32) (p0_marsh_fleet_removedFares : Int32) (p0_marsh_fleet_meetings : Int32) (p0_marsh_plans_moves : Nat → Int32) (p0_marsh_plans_lengths : Nat → Int32) (p0_marsh_landings_cells : Nat → Int32) (p0_marsh_landings_count : Int32) (p0_marsh_fogSide : Int32) (p0_history_slots : Nat → mm_MV) (p0_history_free : Int32) (p0_history_count : Int32) (p2 : Nat → Int64) (x1 : Int32) : Option (Int32 × (Nat → Int32) × (Nat → Int32) × (Nat → mm_MV) × Int32 × Int32 × (Nat → Int64)) := (f_X12_reduce K p0_marsh_reeds_states p0_marsh_reeds_count p0_marsh_reeds_broken p0_marsh_fleet_numbers p0_marsh_fleet_cells p0_marsh_fleet_fares p0_marsh_fleet_count p0_marsh_fleet_nextNumber p0_marsh_fleet_total p0_marsh_fleet_removedFares p0_marsh_fleet_meetings p0_marsh_plans_moves p0_marsh_plans_lengths p0_marsh_landings_cells p0_marsh_landings_count p0_marsh_fogSide p0_history_slots p0_history_free p0_history_count x1).bind fun q4 => if q4.1 = 0 then some (0, q4.2.2.1, q4.2.2.2.1, q4.2.2.2.2.1, q4.2.2.2.2.2.1, q4.2.2.2.2.2.2, (vp_updL p2 0 q4.2.1.toInt64)) else if q4.1 = 1 then some (1, q4.2.2.1, q4.2.2.2.1, q4.2.2.2.2.1, q4.2.2.2.2.2.1, q4.2.2.2.2.2.2, p2) else none
set_option maxHeartbeats 4000000 in
set_option maxRecDepth 100000 in
theorem c_L_reduce (l : Launch) (hfl : l.stackTraces = false) {G : mm_G} {K : Nat} {w : va_W} {sz : Nat} {b0 : Nat} {a2 : Nat} {p0_marsh_reeds_states : Nat → Int32} {p0_marsh_reeds_count : Int32} {p0_marsh_reeds_broken : Int32} {p0_marsh_fleet_numbers : Nat → Int32} {p0_marsh_fleet_cells : Nat → Int32} {p0_marsh_fleet_fares : Nat → Int32} {p0_marsh_fleet_count : Int32} {p0_marsh_fleet_nextNumber : Int32} {p0_marsh_fleet_total : Int32} {p0_marsh_fleet_removedFares : Int32} {p0_marsh_fleet_meetings : Int32} {p0_marsh_plans_moves : Nat → Int32} {p0_marsh_plans_lengths : Nat → Int32} {p0_marsh_landings_cells : Nat → Int32} {p0_marsh_landings_count : Int32} {p0_marsh_fogSide : Int32} {p0_snapshot_reeds_states : Nat → Int32} {p0_snapshot_reeds_count : Int32} {p0_snapshot_reeds_broken : Int32} {p0_snapshot_fleet_numbers : Nat → Int32} {p0_snapshot_fleet_cells : Nat → Int32} {p0_snapshot_fleet_fares : Nat → Int32} {p0_snapshot_fleet_count : Int32} {p0_snapshot_fleet_nextNumber : Int32} {p0_snapshot_fleet_total : Int32} {p0_snapshot_fleet_removedFares : Int32} {p0_snapshot_fleet_meetings : Int32} {p0_snapshot_plans_moves : Nat → Int32} {p0_snapshot_plans_lengths : Nat → Int32} {p0_snapshot_landings_cells : Nat → Int32} {p0_snapshot_landings_count : Int32} {p0_snapshot_fogSide : Int32} {p0_history_slots : Nat → mm_MV} {p0_history_free : Int32} {p0_history_count : Int32} {p0_ways_tolls : Nat → Int32} {p0_ways_queue : Nat → Int32} {p0_ways_heap : Nat → Int32} {p0_ways_heapSize : Int32} {p0_ways_found : Nat → Int32} {p0_ways_improved : Nat → Int32} {p0_pairing_costs : Nat → Int32} {p0_pairing_best : Nat → Int32} {p0_reader_kinds : Nat → Int32} {p0_reader_starts : Nat → Int32} {p0_reader_count : Int32} {p0_commandText_signs : Nat → Int32} {p0_commandText_length : Int32} {p0_line_signs : Nat → Int32} {p0_line_length : Int32} {p0_spareMoves : Nat → Int32} {p0_snapshotTaken : Int32} {p0_lastErrorPosition : Int32} {p0_lastFailedCommand : Int32} {p2 : Nat → Int64} {x1 : Int32} {X : Int32 × (Nat → Int32) × (Nat → Int32) × (Nat → mm_MV) × Int32 × Int32 × (Nat → Int64)} (hf : f_L_reduce K p0_marsh_reeds_states p0_marsh_reeds_count p0_marsh_reeds_broken p0_marsh_fleet_numbers p0_marsh_fleet_cells p0_marsh_fleet_fares p0_marsh_fleet_count p0_marsh_fleet_nextNumber p0_marsh_fleet_total p0_marsh_fleet_removedFares p0_marsh_fleet_meetings p0_marsh_plans_moves p0_marsh_plans_lengths p0_marsh_landings_cells p0_marsh_landings_count p0_marsh_fogSide p0_history_slots p0_history_free p0_history_count p2 x1 = some X) (hp_p0 : At12 G w b0 p0_marsh_reeds_states p0_marsh_reeds_count p0_marsh_reeds_broken p0_marsh_fleet_numbers p0_marsh_fleet_cells p0_marsh_fleet_fares p0_marsh_fleet_count p0_marsh_fleet_nextNumber p0_marsh_fleet_total p0_marsh_fleet_removedFares p0_marsh_fleet_meetings p0_marsh_plans_moves p0_marsh_plans_lengths p0_marsh_landings_cells p0_marsh_landings_count p0_marsh_fogSide p0_snapshot_reeds_states p0_snapshot_reeds_count p0_snapshot_reeds_broken p0_snapshot_fleet_numbers p0_snapshot_fleet_cells p0_snapshot_fleet_fares p0_snapshot_fleet_count p0_snapshot_fleet_nextNumber p0_snapshot_fleet_total p0_snapshot_fleet_removedFares p0_snapshot_fleet_meetings p0_snapshot_plans_moves p0_snapshot_plans_lengths p0_snapshot_landings_cells p0_snapshot_landings_count p0_snapshot_fogSide p0_history_slots p0_history_free p0_history_count p0_ways_tolls p0_ways_queue p0_ways_heap p0_ways_heapSize p0_ways_found p0_ways_improved p0_pairing_costs p0_pairing_best p0_reader_kinds p0_reader_starts p0_reader_count p0_commandText_signs p0_commandText_length p0_line_signs p0_line_length p0_spareMoves p0_snapshotTaken p0_lastErrorPosition p0_lastFailedCommand) (hp_p2 : (a2, (.inl (G.2 3, 1, .inr (.inl p2)) : va_E)) ∈ w) (hd0 : b0 + 152 ≤ a2 ∨ a2 + 1 ≤ b0) : Met l yL_reduce (Cond.codeWith yL_reduce cL_reduce 4 (some .int) [(0, 9, 12, 13)] :: gAll) ({ frames := 9, cells := 1, slots := 6, locals := 162 }) (va_Pc [.ref b0, .int x1, .ref a2] (mm_Pre G w sz)) (mm_Qi G w sz (fun r w' => r = X.1 ∧ At12 G w' b0 p0_marsh_reeds_states p0_marsh_reeds_count p0_marsh_reeds_broken p0_marsh_fleet_numbers p0_marsh_fleet_cells p0_marsh_fleet_fares p0_marsh_fleet_count p0_marsh_fleet_nextNumber p0_marsh_fleet_total p0_marsh_fleet_removedFares p0_marsh_fleet_meetings X.2.1 X.2.2.1 p0_marsh_landings_cells p0_marsh_landings_count p0_marsh_fogSide p0_snapshot_reeds_states p0_snapshot_reeds_count p0_snapshot_reeds_broken p0_snapshot_fleet_numbers p0_snapshot_fleet_cells p0_snapshot_fleet_fares p0_snapshot_fleet_count p0_snapshot_fleet_nextNumber p0_snapshot_fleet_total p0_snapshot_fleet_removedFares p0_snapshot_fleet_meetings p0_snapshot_plans_moves p0_snapshot_plans_lengths p0_snapshot_landings_cells p0_snapshot_landings_count p0_snapshot_fogSide X.2.2.2.1 X.2.2.2.2.1 X.2.2.2.2.2.1 p0_ways_tolls p0_ways_queue p0_ways_heap p0_ways_heapSize p0_ways_found p0_ways_improved p0_pairing_costs p0_pairing_best p0_reader_kinds p0_reader_starts p0_reader_count p0_commandText_signs p0_commandText_length p0_line_signs p0_line_length p0_spareMoves p0_snapshotTaken p0_lastErrorPosition p0_lastFailedCommand ∧ (a2, (.inl (G.2 3, 1, .inr (.inl X.2.2.2.2.2.2)) : va_E)) ∈ w' ∧ mm_fr2 w w' b0 (b0 + 152) a2 (a2 + 1))) 1 6 (va_A w sz) := by
  refine mm_hhead hfl [.ref b0, .int x1, .ref a2] (by decide +kernel) rfl (Nat.le_of_ble_eq_true rfl) ?_
  intro p e s m args below meth c A Q hsz hC hM hret hxt ls hl
  have hx := hC.1.1
  have hb := hC.1.2.1
  have hl : lv_has ls 4 [(0, .ref b0), (1, .int x1), (2, .ref a2)] := hl
  have hF : mm_fr2 w w b0 (b0 + 152) a2 (a2 + 1) := mm_fr2.rf
  rw [f_L_reduce] at hf
  refine lv_aload_n hx hb dL_reduce_0 rfl (lv_at hl 2 rfl) ?_
  refine lv_iconst (v := 0) hx hb dL_reduce_1 (by decide) ?_
  refine lv_aload_n hx hb dL_reduce_2 rfl (lv_at hl 0 rfl) ?_
  refine lv_iload_n hx hb dL_reduce_3 rfl (lv_at hl 1 rfl) ?_
  obtain ⟨q4, hq4, hf⟩ := mm_bd hf
  refine mm_xVi (rest := [.int 0, .ref a2]) hC hM (c_X12_reduce l hfl hq4 hp_p0) q5_24 q1_1 ykX12_reduce q5_21 q5_22 q5_23 hp_p0.1 rfl ⟨rfl, rfl⟩ ⟨Nat.le_of_ble_eq_true rfl, Nat.le_of_ble_eq_true rfl⟩ rfl hl.1 rfl (Nat.le_of_ble_eq_true rfl) dL_reduce_4 ⟨Nat.le_of_ble_eq_true rfl, Nat.le_of_ble_eq_true rfl⟩ (fun E ce qE w4 H locs hM hw hqE hv9 hcl9 => ?_) (fun r w4 H locs hM hw => ?_)
  · obtain ⟨hne, hE, hn_this, hfr⟩ := hw
    rw [if_neg hne] at hf
    by_cases hk0 : q4.1 = 1
    · rw [if_pos hk0] at hf
      have hEk : E = mm_ex 1 := by rw [hE, hk0]
      subst hEk
      have hp_p2 := hfr.keep hp_p2 (by omega)
      have hp_p0 := hn_this
      have hF := hF.tr (hfr.l (by omega) (by omega))
      refine vx_catch hC.1.2.2.2.1 [] ⟨0, 9, 12, 13⟩ [] hxt (fun z hz => absurd hz List.not_mem_nil) rfl (by decide) (hC.1.2.2.2.2 _ q3_90) (va_Nw.use rfl (hC.2.2.1.1.1 _ nw_castable_1)) hqE hv9 hcl9 ?_
      refine lv_astore_n (lv' := [(3, .ref qE), (0, .ref b0), (1, .int x1), (2, .ref a2)]) hx hb dL_reduce_12 rfl hl (by decide) rfl (fun ls hl => ?_)
      refine lv_iconst (v := 1) hx hb dL_reduce_13 (by decide) ?_
      cases hf
      exact hret hM dL_reduce_14 rfl ⟨rfl, hp_p0, hp_p2, hF⟩ (Nat.le_of_ble_eq_true rfl) (Nat.le_of_ble_eq_true rfl)
    rw [if_neg hk0] at hf
    cases hf
  obtain ⟨h0, hr, hn_this, hfr⟩ := hw
  rw [if_pos h0] at hf
  rw [hr]
  have hp_p2 := hfr.keep hp_p2 (by omega)
  have hp_p0 := hn_this
  have hF := hF.tr (hfr.l (by omega) (by omega))
  refine lv_i2l hx hb dL_reduce_7 rfl ?_
  refine mm_last0 hC hM hp_p2 dL_reduce_8 (fun w8 H locs hM hm => ?_)
  have hp_p0 := hp_p0.up hm (by omega)
  have hp_p2 := hm.1
  have hF := hF.tr (hm.r (by omega) (by omega))
  refine lv_goto (tgt := 15) hx hb dL_reduce_9 (by decide) ?_
  refine lv_iconst (v := 0) hx hb dL_reduce_15 (by decide) ?_
  cases hf
  exact hret hM dL_reduce_16 rfl ⟨rfl, hp_p0, hp_p2, hF⟩ (Nat.le_of_ble_eq_true rfl) (Nat.le_of_ble_eq_true rfl)
def f_L_reducedLength (K : Nat) (p0_marsh_plans_moves : Nat → Int32) (p0_marsh_plans_lengths : Nat → Int32) (p0_spareMoves : Nat → Int32) (p2 : Nat → Int64) (x1 : Int32) : Option (Int32 × (Nat → Int32) × (Nat → Int64)) := (f_X12_reducedLength K p0_marsh_plans_moves p0_marsh_plans_lengths p0_spareMoves x1).bind fun q4 => if q4.1 = 0 then some (0, q4.2.2, (vp_updL p2 0 q4.2.1.toInt64)) else if q4.1 = 1 then some (1, q4.2.2, p2) else none
set_option maxHeartbeats 4000000 in
set_option maxRecDepth 100000 in
theorem c_L_reducedLength (l : Launch) (hfl : l.stackTraces = false) {G : mm_G} {K : Nat} {w : va_W} {sz : Nat} {b0 : Nat} {a2 : Nat} {p0_marsh_reeds_states : Nat → Int32} {p0_marsh_reeds_count : Int32} {p0_marsh_reeds_broken : Int32} {p0_marsh_fleet_numbers : Nat → Int32} {p0_marsh_fleet_cells : Nat → Int32} {p0_marsh_fleet_fares : Nat → Int32} {p0_marsh_fleet_count : Int32} {p0_marsh_fleet_nextNumber : Int32} {p0_marsh_fleet_total : Int32} {p0_marsh_fleet_removedFares : Int32} {p0_marsh_fleet_meetings : Int32} {p0_marsh_plans_moves : Nat → Int32} {p0_marsh_plans_lengths : Nat → Int32} {p0_marsh_landings_cells : Nat → Int32} {p0_marsh_landings_count : Int32} {p0_marsh_fogSide : Int32} {p0_snapshot_reeds_states : Nat → Int32} {p0_snapshot_reeds_count : Int32} {p0_snapshot_reeds_broken : Int32} {p0_snapshot_fleet_numbers : Nat → Int32} {p0_snapshot_fleet_cells : Nat → Int32} {p0_snapshot_fleet_fares : Nat → Int32} {p0_snapshot_fleet_count : Int32} {p0_snapshot_fleet_nextNumber : Int32} {p0_snapshot_fleet_total : Int32} {p0_snapshot_fleet_removedFares : Int32} {p0_snapshot_fleet_meetings : Int32} {p0_snapshot_plans_moves : Nat → Int32} {p0_snapshot_plans_lengths : Nat → Int32} {p0_snapshot_landings_cells : Nat → Int32} {p0_snapshot_landings_count : Int32} {p0_snapshot_fogSide : Int32} {p0_history_slots : Nat → mm_MV} {p0_history_free : Int32} {p0_history_count : Int32} {p0_ways_tolls : Nat → Int32} {p0_ways_queue : Nat → Int32} {p0_ways_heap : Nat → Int32} {p0_ways_heapSize : Int32} {p0_ways_found : Nat → Int32} {p0_ways_improved : Nat → Int32} {p0_pairing_costs : Nat → Int32} {p0_pairing_best : Nat → Int32} {p0_reader_kinds : Nat → Int32} {p0_reader_starts : Nat → Int32} {p0_reader_count : Int32} {p0_commandText_signs : Nat → Int32} {p0_commandText_length : Int32} {p0_line_signs : Nat → Int32} {p0_line_length : Int32} {p0_spareMoves : Nat → Int32} {p0_snapshotTaken : Int32} {p0_lastErrorPosition : Int32} {p0_lastFailedCommand : Int32} {p2 : Nat → Int64} {x1 : Int32} {X : Int32 × (Nat → Int32) × (Nat → Int64)} (hf : f_L_reducedLength K p0_marsh_plans_moves p0_marsh_plans_lengths p0_spareMoves p2 x1 = some X) (hp_p0 : At12 G w b0 p0_marsh_reeds_states p0_marsh_reeds_count p0_marsh_reeds_broken p0_marsh_fleet_numbers p0_marsh_fleet_cells p0_marsh_fleet_fares p0_marsh_fleet_count p0_marsh_fleet_nextNumber p0_marsh_fleet_total p0_marsh_fleet_removedFares p0_marsh_fleet_meetings p0_marsh_plans_moves p0_marsh_plans_lengths p0_marsh_landings_cells p0_marsh_landings_count p0_marsh_fogSide p0_snapshot_reeds_states p0_snapshot_reeds_count p0_snapshot_reeds_broken p0_snapshot_fleet_numbers p0_snapshot_fleet_cells p0_snapshot_fleet_fares p0_snapshot_fleet_count p0_snapshot_fleet_nextNumber p0_snapshot_fleet_total p0_snapshot_fleet_removedFares p0_snapshot_fleet_meetings p0_snapshot_plans_moves p0_snapshot_plans_lengths p0_snapshot_landings_cells p0_snapshot_landings_count p0_snapshot_fogSide p0_history_slots p0_history_free p0_history_count p0_ways_tolls p0_ways_queue p0_ways_heap p0_ways_heapSize p0_ways_found p0_ways_improved p0_pairing_costs p0_pairing_best p0_reader_kinds p0_reader_starts p0_reader_count p0_commandText_signs p0_commandText_length p0_line_signs p0_line_length p0_spareMoves p0_snapshotTaken p0_lastErrorPosition p0_lastFailedCommand) (hp_p2 : (a2, (.inl (G.2 3, 1, .inr (.inl p2)) : va_E)) ∈ w) (hd0 : b0 + 152 ≤ a2 ∨ a2 + 1 ≤ b0) : Met l yL_reducedLength (Cond.codeWith yL_reducedLength cL_reducedLength 4 (some .int) [(0, 9, 12, 13)] :: gAll) ({ frames := 9, cells := 1, slots := 6, locals := 161 }) (va_Pc [.ref b0, .int x1, .ref a2] (mm_Pre G w sz)) (mm_Qi G w sz (fun r w' => r = X.1 ∧ At12 G w' b0 p0_marsh_reeds_states p0_marsh_reeds_count p0_marsh_reeds_broken p0_marsh_fleet_numbers p0_marsh_fleet_cells p0_marsh_fleet_fares p0_marsh_fleet_count p0_marsh_fleet_nextNumber p0_marsh_fleet_total p0_marsh_fleet_removedFares p0_marsh_fleet_meetings p0_marsh_plans_moves p0_marsh_plans_lengths p0_marsh_landings_cells p0_marsh_landings_count p0_marsh_fogSide p0_snapshot_reeds_states p0_snapshot_reeds_count p0_snapshot_reeds_broken p0_snapshot_fleet_numbers p0_snapshot_fleet_cells p0_snapshot_fleet_fares p0_snapshot_fleet_count p0_snapshot_fleet_nextNumber p0_snapshot_fleet_total p0_snapshot_fleet_removedFares p0_snapshot_fleet_meetings p0_snapshot_plans_moves p0_snapshot_plans_lengths p0_snapshot_landings_cells p0_snapshot_landings_count p0_snapshot_fogSide p0_history_slots p0_history_free p0_history_count p0_ways_tolls p0_ways_queue p0_ways_heap p0_ways_heapSize p0_ways_found p0_ways_improved p0_pairing_costs p0_pairing_best p0_reader_kinds p0_reader_starts p0_reader_count p0_commandText_signs p0_commandText_length p0_line_signs p0_line_length X.2.1 p0_snapshotTaken p0_lastErrorPosition p0_lastFailedCommand ∧ (a2, (.inl (G.2 3, 1, .inr (.inl X.2.2)) : va_E)) ∈ w' ∧ mm_fr2 w w' b0 (b0 + 152) a2 (a2 + 1))) 1 6 (va_A w sz) := by
  refine mm_hhead hfl [.ref b0, .int x1, .ref a2] (by decide +kernel) rfl (Nat.le_of_ble_eq_true rfl) ?_
  intro p e s m args below meth c A Q hsz hC hM hret hxt ls hl
  have hx := hC.1.1
  have hb := hC.1.2.1
  have hl : lv_has ls 4 [(0, .ref b0), (1, .int x1), (2, .ref a2)] := hl
  have hF : mm_fr2 w w b0 (b0 + 152) a2 (a2 + 1) := mm_fr2.rf
  rw [f_L_reducedLength] at hf
  refine lv_aload_n hx hb dL_reducedLength_0 rfl (lv_at hl 2 rfl) ?_
  refine lv_iconst (v := 0) hx hb dL_reducedLength_1 (by decide) ?_
  refine lv_aload_n hx hb dL_reducedLength_2 rfl (lv_at hl 0 rfl) ?_
  refine lv_iload_n hx hb dL_reducedLength_3 rfl (lv_at hl 1 rfl) ?_
  obtain ⟨q4, hq4, hf⟩ := mm_bd hf
  refine mm_xVi (rest := [.int 0, .ref a2]) hC hM (c_X12_reducedLength l hfl hq4 hp_p0) q5_35 q1_1 ykX12_reducedLength q5_32 q5_33 q5_34 hp_p0.1 rfl ⟨rfl, rfl⟩ ⟨Nat.le_of_ble_eq_true rfl, Nat.le_of_ble_eq_true rfl⟩ rfl hl.1 rfl (Nat.le_of_ble_eq_true rfl) dL_reducedLength_4 ⟨Nat.le_of_ble_eq_true rfl, Nat.le_of_ble_eq_true rfl⟩ (fun E ce qE w4 H locs hM hw hqE hv9 hcl9 => ?_) (fun r w4 H locs hM hw => ?_)
  · obtain ⟨hne, hE, hn_this, hfr⟩ := hw
    rw [if_neg hne] at hf
    by_cases hk0 : q4.1 = 1
    · rw [if_pos hk0] at hf
      have hEk : E = mm_ex 1 := by rw [hE, hk0]
      subst hEk
      have hp_p2 := hfr.keep hp_p2 (by omega)
      have hp_p0 := hn_this
      have hF := hF.tr (hfr.l (by omega) (by omega))
      refine vx_catch hC.1.2.2.2.1 [] ⟨0, 9, 12, 13⟩ [] hxt (fun z hz => absurd hz List.not_mem_nil) rfl (by decide) (hC.1.2.2.2.2 _ q3_90) (va_Nw.use rfl (hC.2.2.1.1.1 _ nw_castable_1)) hqE hv9 hcl9 ?_
      refine lv_astore_n (lv' := [(3, .ref qE), (0, .ref b0), (1, .int x1), (2, .ref a2)]) hx hb dL_reducedLength_12 rfl hl (by decide) rfl (fun ls hl => ?_)
      refine lv_iconst (v := 1) hx hb dL_reducedLength_13 (by decide) ?_
      cases hf
      exact hret hM dL_reducedLength_14 rfl ⟨rfl, hp_p0, hp_p2, hF⟩ (Nat.le_of_ble_eq_true rfl) (Nat.le_of_ble_eq_true rfl)
    rw [if_neg hk0] at hf
    cases hf
  obtain ⟨h0, hr, hn_this, hfr⟩ := hw
  rw [if_pos h0] at hf
  rw [hr]
  have hp_p2 := hfr.keep hp_p2 (by omega)
  have hp_p0 := hn_this
  have hF := hF.tr (hfr.l (by omega) (by omega))
  refine lv_i2l hx hb dL_reducedLength_7 rfl ?_
  refine mm_last0 hC hM hp_p2 dL_reducedLength_8 (fun w8 H locs hM hm => ?_)
  have hp_p0 := hp_p0.up hm (by omega)
  have hp_p2 := hm.1
  have hF := hF.tr (hm.r (by omega) (by omega))
  refine lv_goto (tgt := 15) hx hb dL_reducedLength_9 (by decide) ?_
  refine lv_iconst (v := 0) hx hb dL_reducedLength_15 (by decide) ?_
  cases hf
  exact hret hM dL_reducedLength_16 rfl ⟨rfl, hp_p0, hp_p2, hF⟩ (Nat.le_of_ble_eq_true rfl) (Nat.le_of_ble_eq_true rfl)
def f_L_planLength (p0_marsh_plans_lengths : Nat → Int32) (p2 : Nat → Int64) (x1 : Int32) : Option (Int32 × (Nat → Int64)) := (f_X12_planLength p0_marsh_plans_lengths x1).bind fun q4 => if q4.1 = 0 then some (0, (vp_updL p2 0 q4.2.toInt64)) else if q4.1 = 1 then some (1, p2) else none
set_option maxHeartbeats 4000000 in
set_option maxRecDepth 100000 in
theorem c_L_planLength (l : Launch) (hfl : l.stackTraces = false) {G : mm_G} {w : va_W} {sz : Nat} {b0 : Nat} {a2 : Nat} {p0_marsh_reeds_states : Nat → Int32} {p0_marsh_reeds_count : Int32} {p0_marsh_reeds_broken : Int32} {p0_marsh_fleet_numbers : Nat → Int32} {p0_marsh_fleet_cells : Nat → Int32} {p0_marsh_fleet_fares : Nat → Int32} {p0_marsh_fleet_count : Int32} {p0_marsh_fleet_nextNumber : Int32} {p0_marsh_fleet_total : Int32} {p0_marsh_fleet_removedFares : Int32} {p0_marsh_fleet_meetings : Int32} {p0_marsh_plans_moves : Nat → Int32} {p0_marsh_plans_lengths : Nat → Int32} {p0_marsh_landings_cells : Nat → Int32} {p0_marsh_landings_count : Int32} {p0_marsh_fogSide : Int32} {p0_snapshot_reeds_states : Nat → Int32} {p0_snapshot_reeds_count : Int32} {p0_snapshot_reeds_broken : Int32} {p0_snapshot_fleet_numbers : Nat → Int32} {p0_snapshot_fleet_cells : Nat → Int32} {p0_snapshot_fleet_fares : Nat → Int32} {p0_snapshot_fleet_count : Int32} {p0_snapshot_fleet_nextNumber : Int32} {p0_snapshot_fleet_total : Int32} {p0_snapshot_fleet_removedFares : Int32} {p0_snapshot_fleet_meetings : Int32} {p0_snapshot_plans_moves : Nat → Int32} {p0_snapshot_plans_lengths : Nat → Int32} {p0_snapshot_landings_cells : Nat → Int32} {p0_snapshot_landings_count : Int32} {p0_snapshot_fogSide : Int32} {p0_history_slots : Nat → mm_MV} {p0_history_free : Int32} {p0_history_count : Int32} {p0_ways_tolls : Nat → Int32} {p0_ways_queue : Nat → Int32} {p0_ways_heap : Nat → Int32} {p0_ways_heapSize : Int32} {p0_ways_found : Nat → Int32} {p0_ways_improved : Nat → Int32} {p0_pairing_costs : Nat → Int32} {p0_pairing_best : Nat → Int32} {p0_reader_kinds : Nat → Int32} {p0_reader_starts : Nat → Int32} {p0_reader_count : Int32} {p0_commandText_signs : Nat → Int32} {p0_commandText_length : Int32} {p0_line_signs : Nat → Int32} {p0_line_length : Int32} {p0_spareMoves : Nat → Int32} {p0_snapshotTaken : Int32} {p0_lastErrorPosition : Int32} {p0_lastFailedCommand : Int32} {p2 : Nat → Int64} {x1 : Int32} {X : Int32 × (Nat → Int64)} (hf : f_L_planLength p0_marsh_plans_lengths p2 x1 = some X) (hp_p0 : At12 G w b0 p0_marsh_reeds_states p0_marsh_reeds_count p0_marsh_reeds_broken p0_marsh_fleet_numbers p0_marsh_fleet_cells p0_marsh_fleet_fares p0_marsh_fleet_count p0_marsh_fleet_nextNumber p0_marsh_fleet_total p0_marsh_fleet_removedFares p0_marsh_fleet_meetings p0_marsh_plans_moves p0_marsh_plans_lengths p0_marsh_landings_cells p0_marsh_landings_count p0_marsh_fogSide p0_snapshot_reeds_states p0_snapshot_reeds_count p0_snapshot_reeds_broken p0_snapshot_fleet_numbers p0_snapshot_fleet_cells p0_snapshot_fleet_fares p0_snapshot_fleet_count p0_snapshot_fleet_nextNumber p0_snapshot_fleet_total p0_snapshot_fleet_removedFares p0_snapshot_fleet_meetings p0_snapshot_plans_moves p0_snapshot_plans_lengths p0_snapshot_landings_cells p0_snapshot_landings_count p0_snapshot_fogSide p0_history_slots p0_history_free p0_history_count p0_ways_tolls p0_ways_queue p0_ways_heap p0_ways_heapSize p0_ways_found p0_ways_improved p0_pairing_costs p0_pairing_best p0_reader_kinds p0_reader_starts p0_reader_count p0_commandText_signs p0_commandText_length p0_line_signs p0_line_length p0_spareMoves p0_snapshotTaken p0_lastErrorPosition p0_lastFailedCommand) (hp_p2 : (a2, (.inl (G.2 3, 1, .inr (.inl p2)) : va_E)) ∈ w) (hd0 : b0 + 152 ≤ a2 ∨ a2 + 1 ≤ b0) : Met l yL_planLength (Cond.codeWith yL_planLength cL_planLength 4 (some .int) [(0, 9, 12, 13)] :: gAll) ({ frames := 9, cells := 1, slots := 6, locals := 161 }) (va_Pc [.ref b0, .int x1, .ref a2] (mm_Pre G w sz)) (mm_Qi G w sz (fun r w' => r = X.1 ∧ (a2, (.inl (G.2 3, 1, .inr (.inl X.2)) : va_E)) ∈ w' ∧ mm_fr w w' a2 (a2 + 1))) 1 6 (va_A w sz) := by
  refine mm_hhead hfl [.ref b0, .int x1, .ref a2] (by decide +kernel) rfl (Nat.le_of_ble_eq_true rfl) ?_
  intro p e s m args below meth c A Q hsz hC hM hret hxt ls hl
  have hx := hC.1.1
  have hb := hC.1.2.1
  have hl : lv_has ls 4 [(0, .ref b0), (1, .int x1), (2, .ref a2)] := hl
  have hF : mm_fr w w a2 (a2 + 1) := mm_fr.rf
  rw [f_L_planLength] at hf
  refine lv_aload_n hx hb dL_planLength_0 rfl (lv_at hl 2 rfl) ?_
  refine lv_iconst (v := 0) hx hb dL_planLength_1 (by decide) ?_
  refine lv_aload_n hx hb dL_planLength_2 rfl (lv_at hl 0 rfl) ?_
  refine lv_iload_n hx hb dL_planLength_3 rfl (lv_at hl 1 rfl) ?_
  obtain ⟨q4, hq4, hf⟩ := mm_bd hf
  refine mm_xVi (rest := [.int 0, .ref a2]) hC hM (c_X12_planLength l hfl hq4 hp_p0) q5_46 q1_1 ykX12_planLength q5_43 q5_44 q5_45 hp_p0.1 rfl ⟨rfl, rfl⟩ ⟨Nat.le_of_ble_eq_true rfl, Nat.le_of_ble_eq_true rfl⟩ rfl hl.1 rfl (Nat.le_of_ble_eq_true rfl) dL_planLength_4 ⟨Nat.le_of_ble_eq_true rfl, Nat.le_of_ble_eq_true rfl⟩ (fun E ce qE w4 H locs hM hw hqE hv9 hcl9 => ?_) (fun r w4 H locs hM hw => ?_)
  · obtain ⟨hne, hE, hw⟩ := hw
    rw [if_neg hne] at hf
    by_cases hk0 : q4.1 = 1
    · rw [if_pos hk0] at hf
      have hEk : E = mm_ex 1 := by rw [hE, hk0]
      subst hEk
      rw [hw] at hM
      refine vx_catch hC.1.2.2.2.1 [] ⟨0, 9, 12, 13⟩ [] hxt (fun z hz => absurd hz List.not_mem_nil) rfl (by decide) (hC.1.2.2.2.2 _ q3_90) (va_Nw.use rfl (hC.2.2.1.1.1 _ nw_castable_1)) hqE hv9 hcl9 ?_
      refine lv_astore_n (lv' := [(3, .ref qE), (0, .ref b0), (1, .int x1), (2, .ref a2)]) hx hb dL_planLength_12 rfl hl (by decide) rfl (fun ls hl => ?_)
      refine lv_iconst (v := 1) hx hb dL_planLength_13 (by decide) ?_
      cases hf
      exact hret hM dL_planLength_14 rfl ⟨rfl, hp_p2, hF⟩ (Nat.le_of_ble_eq_true rfl) (Nat.le_of_ble_eq_true rfl)
    rw [if_neg hk0] at hf
    cases hf
  obtain ⟨h0, hr, hw⟩ := hw
  rw [if_pos h0] at hf
  rw [hr]
  rw [hw] at hM
  refine lv_i2l hx hb dL_planLength_7 rfl ?_
  refine mm_last0 hC hM hp_p2 dL_planLength_8 (fun w8 H locs hM hm => ?_)
  have hp_p0 := hp_p0.up hm (by omega)
  have hp_p2 := hm.1
  have hF := hF.tr (hm.fr (by omega) (by omega))
  refine lv_goto (tgt := 15) hx hb dL_planLength_9 (by decide) ?_
  refine lv_iconst (v := 0) hx hb dL_planLength_15 (by decide) ?_
  cases hf
  exact hret hM dL_planLength_16 rfl ⟨rfl, hp_p2, hF⟩ (Nat.le_of_ble_eq_true rfl) (Nat.le_of_ble_eq_true rfl)
def f_L_moveAt (p0_marsh_plans_moves : Nat → Int32) (p0_marsh_plans_lengths : Nat → Int32) (p3 : Nat → Int64) (x1 : Int32) (x2 : Int32) : Option (Int32 × (Nat → Int64)) := (f_X12_moveAt p0_marsh_plans_moves p0_marsh_plans_lengths x1 x2).bind fun q5 => if q5.1 = 0 then some (0, (vp_updL p3 0 q5.2.toInt64)) else if q5.1 = 1 then some (1, p3) else if q5.1 = 2 then some (2, p3) else none
set_option maxHeartbeats 4000000 in
set_option maxRecDepth 100000 in
theorem c_L_moveAt (l : Launch) (hfl : l.stackTraces = false) {G : mm_G} {w : va_W} {sz : Nat} {b0 : Nat} {a3 : Nat} {p0_marsh_reeds_states : Nat → Int32} {p0_marsh_reeds_count : Int32} {p0_marsh_reeds_broken : Int32} {p0_marsh_fleet_numbers : Nat → Int32} {p0_marsh_fleet_cells : Nat → Int32} {p0_marsh_fleet_fares : Nat → Int32} {p0_marsh_fleet_count : Int32} {p0_marsh_fleet_nextNumber : Int32} {p0_marsh_fleet_total : Int32} {p0_marsh_fleet_removedFares : Int32} {p0_marsh_fleet_meetings : Int32} {p0_marsh_plans_moves : Nat → Int32} {p0_marsh_plans_lengths : Nat → Int32} {p0_marsh_landings_cells : Nat → Int32} {p0_marsh_landings_count : Int32} {p0_marsh_fogSide : Int32} {p0_snapshot_reeds_states : Nat → Int32} {p0_snapshot_reeds_count : Int32} {p0_snapshot_reeds_broken : Int32} {p0_snapshot_fleet_numbers : Nat → Int32} {p0_snapshot_fleet_cells : Nat → Int32} {p0_snapshot_fleet_fares : Nat → Int32} {p0_snapshot_fleet_count : Int32} {p0_snapshot_fleet_nextNumber : Int32} {p0_snapshot_fleet_total : Int32} {p0_snapshot_fleet_removedFares : Int32} {p0_snapshot_fleet_meetings : Int32} {p0_snapshot_plans_moves : Nat → Int32} {p0_snapshot_plans_lengths : Nat → Int32} {p0_snapshot_landings_cells : Nat → Int32} {p0_snapshot_landings_count : Int32} {p0_snapshot_fogSide : Int32} {p0_history_slots : Nat → mm_MV} {p0_history_free : Int32} {p0_history_count : Int32} {p0_ways_tolls : Nat → Int32} {p0_ways_queue : Nat → Int32} {p0_ways_heap : Nat → Int32} {p0_ways_heapSize : Int32} {p0_ways_found : Nat → Int32} {p0_ways_improved : Nat → Int32} {p0_pairing_costs : Nat → Int32} {p0_pairing_best : Nat → Int32} {p0_reader_kinds : Nat → Int32} {p0_reader_starts : Nat → Int32} {p0_reader_count : Int32} {p0_commandText_signs : Nat → Int32} {p0_commandText_length : Int32} {p0_line_signs : Nat → Int32} {p0_line_length : Int32} {p0_spareMoves : Nat → Int32} {p0_snapshotTaken : Int32} {p0_lastErrorPosition : Int32} {p0_lastFailedCommand : Int32} {p3 : Nat → Int64} {x1 : Int32} {x2 : Int32} {X : Int32 × (Nat → Int64)} (hf : f_L_moveAt p0_marsh_plans_moves p0_marsh_plans_lengths p3 x1 x2 = some X) (hp_p0 : At12 G w b0 p0_marsh_reeds_states p0_marsh_reeds_count p0_marsh_reeds_broken p0_marsh_fleet_numbers p0_marsh_fleet_cells p0_marsh_fleet_fares p0_marsh_fleet_count p0_marsh_fleet_nextNumber p0_marsh_fleet_total p0_marsh_fleet_removedFares p0_marsh_fleet_meetings p0_marsh_plans_moves p0_marsh_plans_lengths p0_marsh_landings_cells p0_marsh_landings_count p0_marsh_fogSide p0_snapshot_reeds_states p0_snapshot_reeds_count p0_snapshot_reeds_broken p0_snapshot_fleet_numbers p0_snapshot_fleet_cells p0_snapshot_fleet_fares p0_snapshot_fleet_count p0_snapshot_fleet_nextNumber p0_snapshot_fleet_total p0_snapshot_fleet_removedFares p0_snapshot_fleet_meetings p0_snapshot_plans_moves p0_snapshot_plans_lengths p0_snapshot_landings_cells p0_snapshot_landings_count p0_snapshot_fogSide p0_history_slots p0_history_free p0_history_count p0_ways_tolls p0_ways_queue p0_ways_heap p0_ways_heapSize p0_ways_found p0_ways_improved p0_pairing_costs p0_pairing_best p0_reader_kinds p0_reader_starts p0_reader_count p0_commandText_signs p0_commandText_length p0_line_signs p0_line_length p0_spareMoves p0_snapshotTaken p0_lastErrorPosition p0_lastFailedCommand) (hp_p3 : (a3, (.inl (G.2 3, 1, .inr (.inl p3)) : va_E)) ∈ w) (hd0 : b0 + 152 ≤ a3 ∨ a3 + 1 ≤ b0) : Met l yL_moveAt (Cond.codeWith yL_moveAt cL_moveAt 5 (some .int) [(0, 10, 13, 13), (0, 10, 17, 20)] :: gAll) ({ frames := 9, cells := 2, slots := 12, locals := 163 }) (va_Pc [.ref b0, .int x1, .int x2, .ref a3] (mm_Pre G w sz)) (mm_Qi G w sz (fun r w' => r = X.1 ∧ (a3, (.inl (G.2 3, 1, .inr (.inl X.2)) : va_E)) ∈ w' ∧ mm_fr w w' a3 (a3 + 1))) 2 12 (va_A w sz) := by
  refine mm_hhead hfl [.ref b0, .int x1, .int x2, .ref a3] (by decide +kernel) rfl (Nat.le_of_ble_eq_true rfl) ?_
  intro p e s m args below meth c A Q hsz hC hM hret hxt ls hl
  have hx := hC.1.1
  have hb := hC.1.2.1
  have hl : lv_has ls 5 [(0, .ref b0), (1, .int x1), (2, .int x2), (3, .ref a3)] := hl
  have hF : mm_fr w w a3 (a3 + 1) := mm_fr.rf
  rw [f_L_moveAt] at hf
  refine lv_aload_n hx hb dL_moveAt_0 rfl (lv_at hl 3 rfl) ?_
  refine lv_iconst (v := 0) hx hb dL_moveAt_1 (by decide) ?_
  refine lv_aload_n hx hb dL_moveAt_2 rfl (lv_at hl 0 rfl) ?_
  refine lv_iload_n hx hb dL_moveAt_3 rfl (lv_at hl 1 rfl) ?_
  refine lv_iload_n hx hb dL_moveAt_4 rfl (lv_at hl 2 rfl) ?_
  obtain ⟨q5, hq5, hf⟩ := mm_bd hf
  refine mm_xVi (rest := [.int 0, .ref a3]) hC hM (c_X12_moveAt l hfl hq5 hp_p0) q5_53 q1_1 ykX12_moveAt q5_50 q5_51 q5_52 hp_p0.1 rfl ⟨rfl, rfl⟩ ⟨Nat.le_of_ble_eq_true rfl, Nat.le_of_ble_eq_true rfl⟩ rfl hl.1 rfl (Nat.le_of_ble_eq_true rfl) dL_moveAt_5 ⟨Nat.le_of_ble_eq_true rfl, Nat.le_of_ble_eq_true rfl⟩ (fun E ce qE w5 H locs hM hw hqE hv9 hcl9 => ?_) (fun r w5 H locs hM hw => ?_)
  · obtain ⟨hne, hE, hw⟩ := hw
    rw [if_neg hne] at hf
    by_cases hk0 : q5.1 = 1
    · rw [if_pos hk0] at hf
      have hEk : E = mm_ex 1 := by rw [hE, hk0]
      subst hEk
      rw [hw] at hM
      refine vx_catch hC.1.2.2.2.1 [] ⟨0, 10, 13, 13⟩ [⟨0, 10, 17, 20⟩] hxt (fun z hz => absurd hz List.not_mem_nil) rfl (by decide) (hC.1.2.2.2.2 _ q3_90) (va_Nw.use rfl (hC.2.2.1.1.1 _ nw_castable_1)) hqE hv9 hcl9 ?_
      refine lv_astore (lv' := [(4, .ref qE), (0, .ref b0), (1, .int x1), (2, .int x2), (3, .ref a3)]) hx hb dL_moveAt_13 hl (by decide) rfl (fun ls hl => ?_)
      refine lv_iconst (v := 1) hx hb dL_moveAt_15 (by decide) ?_
      cases hf
      exact hret hM dL_moveAt_16 rfl ⟨rfl, hp_p3, hF⟩ (Nat.le_of_ble_eq_true rfl) (Nat.le_of_ble_eq_true rfl)
    rw [if_neg hk0] at hf
    by_cases hk1 : q5.1 = 2
    · rw [if_pos hk1] at hf
      have hEk : E = mm_ex 2 := by rw [hE, hk1]
      subst hEk
      rw [hw] at hM
      refine vx_catch hC.1.2.2.2.1 [⟨0, 10, 13, 13⟩] ⟨0, 10, 17, 20⟩ [] hxt (List.forall_mem_cons.mpr ⟨Or.inr ⟨by decide, _, (hC.1.2.2.2.2 _ q3_90), hC.2.2.1.1.2.2 2 1 (by decide) (by decide) (by decide) (by decide) (by decide)⟩, (fun z hz => absurd hz List.not_mem_nil)⟩) rfl (by decide) (hC.1.2.2.2.2 _ q4_51) (va_Nw.use rfl (hC.2.2.1.1.1 _ nw_castable_2)) hqE hv9 hcl9 ?_
      refine lv_astore (lv' := [(4, .ref qE), (0, .ref b0), (1, .int x1), (2, .int x2), (3, .ref a3)]) hx hb dL_moveAt_17 hl (by decide) rfl (fun ls hl => ?_)
      refine lv_iconst (v := 2) hx hb dL_moveAt_19 (by decide) ?_
      cases hf
      exact hret hM dL_moveAt_20 rfl ⟨rfl, hp_p3, hF⟩ (Nat.le_of_ble_eq_true rfl) (Nat.le_of_ble_eq_true rfl)
    rw [if_neg hk1] at hf
    cases hf
  obtain ⟨h0, hr, hw⟩ := hw
  rw [if_pos h0] at hf
  rw [hr]
  rw [hw] at hM
  refine lv_i2l hx hb dL_moveAt_8 rfl ?_
  refine mm_last0 hC hM hp_p3 dL_moveAt_9 (fun w9 H locs hM hm => ?_)
  have hp_p0 := hp_p0.up hm (by omega)
  have hp_p3 := hm.1
  have hF := hF.tr (hm.fr (by omega) (by omega))
  refine lv_goto (tgt := 21) hx hb dL_moveAt_10 (by decide) ?_
  refine lv_iconst (v := 0) hx hb dL_moveAt_21 (by decide) ?_
  cases hf
  exact hret hM dL_moveAt_22 rfl ⟨rfl, hp_p3, hF⟩ (Nat.le_of_ble_eq_true rfl) (Nat.le_of_ble_eq_true rfl)
def f_L_areMirrored (K : Nat) (p0_marsh_plans_moves : Nat → Int32) (p0_marsh_plans_lengths : Nat → Int32) (p3 : Nat → Int64) (x1 : Int32) (x2 : Int32) : Option (Int32 × (Nat → Int64)) := (f_X12_areMirrored K p0_marsh_plans_moves p0_marsh_plans_lengths x1 x2).bind fun q5 => if q5.1 = 0 then if q5.2 = 0 then some (0, (vp_updL p3 0 0)) else some (0, (vp_updL p3 0 1)) else if q5.1 = 1 then some (1, p3) else none
set_option maxHeartbeats 4000000 in
set_option maxRecDepth 100000 in
theorem c_L_areMirrored (l : Launch) (hfl : l.stackTraces = false) {G : mm_G} {K : Nat} {w : va_W} {sz : Nat} {b0 : Nat} {a3 : Nat} {p0_marsh_reeds_states : Nat → Int32} {p0_marsh_reeds_count : Int32} {p0_marsh_reeds_broken : Int32} {p0_marsh_fleet_numbers : Nat → Int32} {p0_marsh_fleet_cells : Nat → Int32} {p0_marsh_fleet_fares : Nat → Int32} {p0_marsh_fleet_count : Int32} {p0_marsh_fleet_nextNumber : Int32} {p0_marsh_fleet_total : Int32} {p0_marsh_fleet_removedFares : Int32} {p0_marsh_fleet_meetings : Int32} {p0_marsh_plans_moves : Nat → Int32} {p0_marsh_plans_lengths : Nat → Int32} {p0_marsh_landings_cells : Nat → Int32} {p0_marsh_landings_count : Int32} {p0_marsh_fogSide : Int32} {p0_snapshot_reeds_states : Nat → Int32} {p0_snapshot_reeds_count : Int32} {p0_snapshot_reeds_broken : Int32} {p0_snapshot_fleet_numbers : Nat → Int32} {p0_snapshot_fleet_cells : Nat → Int32} {p0_snapshot_fleet_fares : Nat → Int32} {p0_snapshot_fleet_count : Int32} {p0_snapshot_fleet_nextNumber : Int32} {p0_snapshot_fleet_total : Int32} {p0_snapshot_fleet_removedFares : Int32} {p0_snapshot_fleet_meetings : Int32} {p0_snapshot_plans_moves : Nat → Int32} {p0_snapshot_plans_lengths : Nat → Int32} {p0_snapshot_landings_cells : Nat → Int32} {p0_snapshot_landings_count : Int32} {p0_snapshot_fogSide : Int32} {p0_history_slots : Nat → mm_MV} {p0_history_free : Int32} {p0_history_count : Int32} {p0_ways_tolls : Nat → Int32} {p0_ways_queue : Nat → Int32} {p0_ways_heap : Nat → Int32} {p0_ways_heapSize : Int32} {p0_ways_found : Nat → Int32} {p0_ways_improved : Nat → Int32} {p0_pairing_costs : Nat → Int32} {p0_pairing_best : Nat → Int32} {p0_reader_kinds : Nat → Int32} {p0_reader_starts : Nat → Int32} {p0_reader_count : Int32} {p0_commandText_signs : Nat → Int32} {p0_commandText_length : Int32} {p0_line_signs : Nat → Int32} {p0_line_length : Int32} {p0_spareMoves : Nat → Int32} {p0_snapshotTaken : Int32} {p0_lastErrorPosition : Int32} {p0_lastFailedCommand : Int32} {p3 : Nat → Int64} {x1 : Int32} {x2 : Int32} {X : Int32 × (Nat → Int64)} (hf : f_L_areMirrored K p0_marsh_plans_moves p0_marsh_plans_lengths p3 x1 x2 = some X) (hp_p0 : At12 G w b0 p0_marsh_reeds_states p0_marsh_reeds_count p0_marsh_reeds_broken p0_marsh_fleet_numbers p0_marsh_fleet_cells p0_marsh_fleet_fares p0_marsh_fleet_count p0_marsh_fleet_nextNumber p0_marsh_fleet_total p0_marsh_fleet_removedFares p0_marsh_fleet_meetings p0_marsh_plans_moves p0_marsh_plans_lengths p0_marsh_landings_cells p0_marsh_landings_count p0_marsh_fogSide p0_snapshot_reeds_states p0_snapshot_reeds_count p0_snapshot_reeds_broken p0_snapshot_fleet_numbers p0_snapshot_fleet_cells p0_snapshot_fleet_fares p0_snapshot_fleet_count p0_snapshot_fleet_nextNumber p0_snapshot_fleet_total p0_snapshot_fleet_removedFares p0_snapshot_fleet_meetings p0_snapshot_plans_moves p0_snapshot_plans_lengths p0_snapshot_landings_cells p0_snapshot_landings_count p0_snapshot_fogSide p0_history_slots p0_history_free p0_history_count p0_ways_tolls p0_ways_queue p0_ways_heap p0_ways_heapSize p0_ways_found p0_ways_improved p0_pairing_costs p0_pairing_best p0_reader_kinds p0_reader_starts p0_reader_count p0_commandText_signs p0_commandText_length p0_line_signs p0_line_length p0_spareMoves p0_snapshotTaken p0_lastErrorPosition p0_lastFailedCommand) (hp_p3 : (a3, (.inl (G.2 3, 1, .inr (.inl p3)) : va_E)) ∈ w) (hd0 : b0 + 152 ≤ a3 ∨ a3 + 1 ≤ b0) : Met l yL_areMirrored (Cond.codeWith yL_areMirrored cL_areMirrored 5 (some .int) [(0, 17, 20, 13)] :: gAll) ({ frames := 9, cells := 2, slots := 12, locals := 162 }) (va_Pc [.ref b0, .int x1, .int x2, .ref a3] (mm_Pre G w sz)) (mm_Qi G w sz (fun r w' => r = X.1 ∧ (a3, (.inl (G.2 3, 1, .inr (.inl X.2)) : va_E)) ∈ w' ∧ mm_fr w w' a3 (a3 + 1))) 2 12 (va_A w sz) := by
  refine mm_hhead hfl [.ref b0, .int x1, .int x2, .ref a3] (by decide +kernel) rfl (Nat.le_of_ble_eq_true rfl) ?_
  intro p e s m args below meth c A Q hsz hC hM hret hxt ls hl
  have hx := hC.1.1
  have hb := hC.1.2.1
  have hl : lv_has ls 5 [(0, .ref b0), (1, .int x1), (2, .int x2), (3, .ref a3)] := hl
  have hF : mm_fr w w a3 (a3 + 1) := mm_fr.rf
  rw [f_L_areMirrored] at hf
  refine lv_aload_n hx hb dL_areMirrored_0 rfl (lv_at hl 3 rfl) ?_
  refine lv_iconst (v := 0) hx hb dL_areMirrored_1 (by decide) ?_
  refine lv_aload_n hx hb dL_areMirrored_2 rfl (lv_at hl 0 rfl) ?_
  refine lv_iload_n hx hb dL_areMirrored_3 rfl (lv_at hl 1 rfl) ?_
  refine lv_iload_n hx hb dL_areMirrored_4 rfl (lv_at hl 2 rfl) ?_
  obtain ⟨q5, hq5, hf⟩ := mm_bd hf
  refine mm_xVi (rest := [.int 0, .ref a3]) hC hM (c_X12_areMirrored l hfl hq5 hp_p0) q5_64 q1_1 ykX12_areMirrored q5_61 q5_62 q5_63 hp_p0.1 rfl ⟨rfl, rfl⟩ ⟨Nat.le_of_ble_eq_true rfl, Nat.le_of_ble_eq_true rfl⟩ rfl hl.1 rfl (Nat.le_of_ble_eq_true rfl) dL_areMirrored_5 ⟨Nat.le_of_ble_eq_true rfl, Nat.le_of_ble_eq_true rfl⟩ (fun E ce qE w5 H locs hM hw hqE hv9 hcl9 => ?_) (fun r w5 H locs hM hw => ?_)
  · obtain ⟨hne, hE, hw⟩ := hw
    rw [if_neg hne] at hf
    by_cases hk0 : q5.1 = 1
    · rw [if_pos hk0] at hf
      have hEk : E = mm_ex 1 := by rw [hE, hk0]
      subst hEk
      rw [hw] at hM
      refine vx_catch hC.1.2.2.2.1 [] ⟨0, 17, 20, 13⟩ [] hxt (fun z hz => absurd hz List.not_mem_nil) rfl (by decide) (hC.1.2.2.2.2 _ q3_90) (va_Nw.use rfl (hC.2.2.1.1.1 _ nw_castable_1)) hqE hv9 hcl9 ?_
      refine lv_astore (lv' := [(4, .ref qE), (0, .ref b0), (1, .int x1), (2, .int x2), (3, .ref a3)]) hx hb dL_areMirrored_20 hl (by decide) rfl (fun ls hl => ?_)
      refine lv_iconst (v := 1) hx hb dL_areMirrored_22 (by decide) ?_
      cases hf
      exact hret hM dL_areMirrored_23 rfl ⟨rfl, hp_p3, hF⟩ (Nat.le_of_ble_eq_true rfl) (Nat.le_of_ble_eq_true rfl)
    rw [if_neg hk0] at hf
    cases hf
  obtain ⟨h0, hr, hw⟩ := hw
  rw [if_pos h0] at hf
  rw [hr]
  rw [hw] at hM
  refine lv_if_eq (tgt := 15) hx hb dL_areMirrored_8 (by decide) (fun hcd => ?_) (fun hcd => ?_)
  · rw [if_pos hcd] at hf
    refine lv_lconst (v := 0) hx hb dL_areMirrored_15 (by decide) ?_
    refine mm_last0 hC hM hp_p3 dL_areMirrored_16 (fun w16 H locs hM hm => ?_)
    have hp_p0 := hp_p0.up hm (by omega)
    have hp_p3 := hm.1
    have hF := hF.tr (hm.fr (by omega) (by omega))
    refine lv_goto (tgt := 24) hx hb dL_areMirrored_17 (by decide) ?_
    refine lv_iconst (v := 0) hx hb dL_areMirrored_24 (by decide) ?_
    cases hf
    exact hret hM dL_areMirrored_25 rfl ⟨rfl, hp_p3, hF⟩ (Nat.le_of_ble_eq_true rfl) (Nat.le_of_ble_eq_true rfl)
  · rw [if_neg hcd] at hf
    refine lv_lconst (v := 1) hx hb dL_areMirrored_11 (by decide) ?_
    refine lv_goto (tgt := 16) hx hb dL_areMirrored_12 (by decide) ?_
    refine mm_last0 hC hM hp_p3 dL_areMirrored_16 (fun w16 H locs hM hm => ?_)
    have hp_p0 := hp_p0.up hm (by omega)
    have hp_p3 := hm.1
    have hF := hF.tr (hm.fr (by omega) (by omega))
    refine lv_goto (tgt := 24) hx hb dL_areMirrored_17 (by decide) ?_
    refine lv_iconst (v := 0) hx hb dL_areMirrored_24 (by decide) ?_
    cases hf
    exact hret hM dL_areMirrored_25 rfl ⟨rfl, hp_p3, hF⟩ (Nat.le_of_ble_eq_true rfl) (Nat.le_of_ble_eq_true rfl)
def f_L_sail (K : Nat) (p0_marsh_reeds_states : Nat → Int32) (p0_marsh_reeds_count : Int32) (p0_marsh_reeds_broken : Int32) (p0_marsh_fleet_numbers : Nat → Int32) (p0_marsh_fleet_cells : Nat → Int32) (p0_marsh_fleet_fares : Nat → Int32) (p0_marsh_fleet_count : Int32) (p0_marsh_fleet_nextNumber : Int32) (p0_marsh_fleet_total : Int32) (p0_marsh_fleet_removedFares : Int32) (p0_marsh_fleet_meetings : Int32) (p0_marsh_plans_moves : Nat → Int32) (p0_marsh_plans_lengths : Nat → Int32) (p0_marsh_landings_cells : Nat → Int32) (p0_marsh_landings_count : Int32) (p0_marsh_fogSide : Int32) (p0_history_slots : Nat → mm_MV) (p0_history_free : Int32) (p0_history_count : Int32) (p3 : Nat → Int64) (x1 : Int32) (x2 : Int32) : Option (Int32 × (Nat → Int32) × (Nat → Int32) × Int32 × Int32 × (Nat → mm_MV) × Int32 × Int32 × (Nat → Int64)) := (f_X12_sail K p0_marsh_reeds_states p0_marsh_reeds_count p0_marsh_reeds_broken p0_marsh_fleet_numbers p0_marsh_fleet_cells p0_marsh_fleet_fares p0_marsh_fleet_count p0_marsh_fleet_nextNumber p0_marsh_fleet_total p0_marsh_fleet_removedFares p0_marsh_fleet_meetings p0_marsh_plans_moves p0_marsh_plans_lengths p0_marsh_landings_cells p0_marsh_landings_count p0_marsh_fogSide p0_history_slots p0_history_free p0_history_count x1 x2).bind fun q5 => if q5.1 = 0 then some (0, q5.2.2.1, q5.2.2.2.1, q5.2.2.2.2.1, q5.2.2.2.2.2.1, q5.2.2.2.2.2.2.1, q5.2.2.2.2.2.2.2.1, q5.2.2.2.2.2.2.2.2, (vp_updL p3 0 q5.2.1.toInt64)) else if q5.1 = 2 then some (1, q5.2.2.1, q5.2.2.2.1, q5.2.2.2.2.1, q5.2.2.2.2.2.1, q5.2.2.2.2.2.2.1, q5.2.2.2.2.2.2.2.1, q5.2.2.2.2.2.2.2.2, p3) else if q5.1 = 1 then some (2, q5.2.2.1, q5.2.2.2.1, q5.2.2.2.2.1, q5.2.2.2.2.2.1, q5.2.2.2.2.2.2.1, q5.2.2.2.2.2.2.2.1, q5.2.2.2.2.2.2.2.2, p3) else if q5.1 = 5 then some (3, q5.2.2.1, q5.2.2.2.1, q5.2.2.2.2.1, q5.2.2.2.2.2.1, q5.2.2.2.2.2.2.1, q5.2.2.2.2.2.2.2.1, q5.2.2.2.2.2.2.2.2, p3) else none
set_option maxHeartbeats 4000000 in
set_option maxRecDepth 100000 in
theorem c_L_sail (l : Launch) (hfl : l.stackTraces = false) {G : mm_G} {K : Nat} {w : va_W} {sz : Nat} {b0 : Nat} {a3 : Nat} {p0_marsh_reeds_states : Nat → Int32} {p0_marsh_reeds_count : Int32} {p0_marsh_reeds_broken : Int32} {p0_marsh_fleet_numbers : Nat → Int32} {p0_marsh_fleet_cells : Nat → Int32} {p0_marsh_fleet_fares : Nat → Int32} {p0_marsh_fleet_count : Int32} {p0_marsh_fleet_nextNumber : Int32} {p0_marsh_fleet_total : Int32} {p0_marsh_fleet_removedFares : Int32} {p0_marsh_fleet_meetings : Int32} {p0_marsh_plans_moves : Nat → Int32} {p0_marsh_plans_lengths : Nat → Int32} {p0_marsh_landings_cells : Nat → Int32} {p0_marsh_landings_count : Int32} {p0_marsh_fogSide : Int32} {p0_snapshot_reeds_states : Nat → Int32} {p0_snapshot_reeds_count : Int32} {p0_snapshot_reeds_broken : Int32} {p0_snapshot_fleet_numbers : Nat → Int32} {p0_snapshot_fleet_cells : Nat → Int32} {p0_snapshot_fleet_fares : Nat → Int32} {p0_snapshot_fleet_count : Int32} {p0_snapshot_fleet_nextNumber : Int32} {p0_snapshot_fleet_total : Int32} {p0_snapshot_fleet_removedFares : Int32} {p0_snapshot_fleet_meetings : Int32} {p0_snapshot_plans_moves : Nat → Int32} {p0_snapshot_plans_lengths : Nat → Int32} {p0_snapshot_landings_cells : Nat → Int32} {p0_snapshot_landings_count : Int32} {p0_snapshot_fogSide : Int32} {p0_history_slots : Nat → mm_MV} {p0_history_free : Int32} {p0_history_count : Int32} {p0_ways_tolls : Nat → Int32} {p0_ways_queue : Nat → Int32} {p0_ways_heap : Nat → Int32} {p0_ways_heapSize : Int32} {p0_ways_found : Nat → Int32} {p0_ways_improved : Nat → Int32} {p0_pairing_costs : Nat → Int32} {p0_pairing_best : Nat → Int32} {p0_reader_kinds : Nat → Int32} {p0_reader_starts : Nat → Int32} {p0_reader_count : Int32} {p0_commandText_signs : Nat → Int32} {p0_commandText_length : Int32} {p0_line_signs : Nat → Int32} {p0_line_length : Int32} {p0_spareMoves : Nat → Int32} {p0_snapshotTaken : Int32} {p0_lastErrorPosition : Int32} {p0_lastFailedCommand : Int32} {p3 : Nat → Int64} {x1 : Int32} {x2 : Int32} {X : Int32 × (Nat → Int32) × (Nat → Int32) × Int32 × Int32 × (Nat → mm_MV) × Int32 × Int32 × (Nat → Int64)} (hf : f_L_sail K p0_marsh_reeds_states p0_marsh_reeds_count p0_marsh_reeds_broken p0_marsh_fleet_numbers p0_marsh_fleet_cells p0_marsh_fleet_fares p0_marsh_fleet_count p0_marsh_fleet_nextNumber p0_marsh_fleet_total p0_marsh_fleet_removedFares p0_marsh_fleet_meetings p0_marsh_plans_moves p0_marsh_plans_lengths p0_marsh_landings_cells p0_marsh_landings_count p0_marsh_fogSide p0_history_slots p0_history_free p0_history_count p3 x1 x2 = some X) (hp_p0 : At12 G w b0 p0_marsh_reeds_states p0_marsh_reeds_count p0_marsh_reeds_broken p0_marsh_fleet_numbers p0_marsh_fleet_cells p0_marsh_fleet_fares p0_marsh_fleet_count p0_marsh_fleet_nextNumber p0_marsh_fleet_total p0_marsh_fleet_removedFares p0_marsh_fleet_meetings p0_marsh_plans_moves p0_marsh_plans_lengths p0_marsh_landings_cells p0_marsh_landings_count p0_marsh_fogSide p0_snapshot_reeds_states p0_snapshot_reeds_count p0_snapshot_reeds_broken p0_snapshot_fleet_numbers p0_snapshot_fleet_cells p0_snapshot_fleet_fares p0_snapshot_fleet_count p0_snapshot_fleet_nextNumber p0_snapshot_fleet_total p0_snapshot_fleet_removedFares p0_snapshot_fleet_meetings p0_snapshot_plans_moves p0_snapshot_plans_lengths p0_snapshot_landings_cells p0_snapshot_landings_count p0_snapshot_fogSide p0_history_slots p0_history_free p0_history_count p0_ways_tolls p0_ways_queue p0_ways_heap p0_ways_heapSize p0_ways_found p0_ways_improved p0_pairing_costs p0_pairing_best p0_reader_kinds p0_reader_starts p0_reader_count p0_commandText_signs p0_commandText_length p0_line_signs p0_line_length p0_spareMoves p0_snapshotTaken p0_lastErrorPosition p0_lastFailedCommand) (hp_p3 : (a3, (.inl (G.2 3, 1, .inr (.inl p3)) : va_E)) ∈ w) (hd0 : b0 + 152 ≤ a3 ∨ a3 + 1 ≤ b0) : Met l yL_sail (Cond.codeWith yL_sail cL_sail 5 (some .int) [(0, 10, 13, 20), (0, 10, 17, 13), (0, 10, 21, 41)] :: gAll) ({ frames := 9, cells := 1, slots := 6, locals := 163 }) (va_Pc [.ref b0, .int x1, .int x2, .ref a3] (mm_Pre G w sz)) (mm_Qi G w sz (fun r w' => r = X.1 ∧ At12 G w' b0 p0_marsh_reeds_states p0_marsh_reeds_count p0_marsh_reeds_broken p0_marsh_fleet_numbers X.2.1 X.2.2.1 p0_marsh_fleet_count p0_marsh_fleet_nextNumber X.2.2.2.1 p0_marsh_fleet_removedFares X.2.2.2.2.1 p0_marsh_plans_moves p0_marsh_plans_lengths p0_marsh_landings_cells p0_marsh_landings_count p0_marsh_fogSide p0_snapshot_reeds_states p0_snapshot_reeds_count p0_snapshot_reeds_broken p0_snapshot_fleet_numbers p0_snapshot_fleet_cells p0_snapshot_fleet_fares p0_snapshot_fleet_count p0_snapshot_fleet_nextNumber p0_snapshot_fleet_total p0_snapshot_fleet_removedFares p0_snapshot_fleet_meetings p0_snapshot_plans_moves p0_snapshot_plans_lengths p0_snapshot_landings_cells p0_snapshot_landings_count p0_snapshot_fogSide X.2.2.2.2.2.1 X.2.2.2.2.2.2.1 X.2.2.2.2.2.2.2.1 p0_ways_tolls p0_ways_queue p0_ways_heap p0_ways_heapSize p0_ways_found p0_ways_improved p0_pairing_costs p0_pairing_best p0_reader_kinds p0_reader_starts p0_reader_count p0_commandText_signs p0_commandText_length p0_line_signs p0_line_length p0_spareMoves p0_snapshotTaken p0_lastErrorPosition p0_lastFailedCommand ∧ (a3, (.inl (G.2 3, 1, .inr (.inl X.2.2.2.2.2.2.2.2)) : va_E)) ∈ w' ∧ mm_fr2 w w' b0 (b0 + 152) a3 (a3 + 1))) 1 6 (va_A w sz) := by
  refine mm_hhead hfl [.ref b0, .int x1, .int x2, .ref a3] (by decide +kernel) rfl (Nat.le_of_ble_eq_true rfl) ?_
  intro p e s m args below meth c A Q hsz hC hM hret hxt ls hl
  have hx := hC.1.1
  have hb := hC.1.2.1
  have hl : lv_has ls 5 [(0, .ref b0), (1, .int x1), (2, .int x2), (3, .ref a3)] := hl
  have hF : mm_fr2 w w b0 (b0 + 152) a3 (a3 + 1) := mm_fr2.rf
  rw [f_L_sail] at hf
  refine lv_aload_n hx hb dL_sail_0 rfl (lv_at hl 3 rfl) ?_
  refine lv_iconst (v := 0) hx hb dL_sail_1 (by decide) ?_
  refine lv_aload_n hx hb dL_sail_2 rfl (lv_at hl 0 rfl) ?_
  refine lv_iload_n hx hb dL_sail_3 rfl (lv_at hl 1 rfl) ?_
  refine lv_iload_n hx hb dL_sail_4 rfl (lv_at hl 2 rfl) ?_
  obtain ⟨q5, hq5, hf⟩ := mm_bd hf
  refine mm_xVi (rest := [.int 0, .ref a3]) hC hM (c_X12_sail l hfl hq5 hp_p0) q5_75 q1_1 ykX12_sail q5_72 q5_73 q5_74 hp_p0.1 rfl ⟨rfl, rfl⟩ ⟨Nat.le_of_ble_eq_true rfl, Nat.le_of_ble_eq_true rfl⟩ rfl hl.1 rfl (Nat.le_of_ble_eq_true rfl) dL_sail_5 ⟨Nat.le_of_ble_eq_true rfl, Nat.le_of_ble_eq_true rfl⟩ (fun E ce qE w5 H locs hM hw hqE hv9 hcl9 => ?_) (fun r w5 H locs hM hw => ?_)
  · obtain ⟨hne, hE, hn_this, hfr⟩ := hw
    rw [if_neg hne] at hf
    by_cases hk0 : q5.1 = 2
    · rw [if_pos hk0] at hf
      have hEk : E = mm_ex 2 := by rw [hE, hk0]
      subst hEk
      have hp_p3 := hfr.keep hp_p3 (by omega)
      have hp_p0 := hn_this
      have hF := hF.tr (hfr.l (by omega) (by omega))
      refine vx_catch hC.1.2.2.2.1 [] ⟨0, 10, 13, 20⟩ [⟨0, 10, 17, 13⟩, ⟨0, 10, 21, 41⟩] hxt (fun z hz => absurd hz List.not_mem_nil) rfl (by decide) (hC.1.2.2.2.2 _ q4_51) (va_Nw.use rfl (hC.2.2.1.1.1 _ nw_castable_2)) hqE hv9 hcl9 ?_
      refine lv_astore (lv' := [(4, .ref qE), (0, .ref b0), (1, .int x1), (2, .int x2), (3, .ref a3)]) hx hb dL_sail_13 hl (by decide) rfl (fun ls hl => ?_)
      refine lv_iconst (v := 1) hx hb dL_sail_15 (by decide) ?_
      cases hf
      exact hret hM dL_sail_16 rfl ⟨rfl, hp_p0, hp_p3, hF⟩ (Nat.le_of_ble_eq_true rfl) (Nat.le_of_ble_eq_true rfl)
    rw [if_neg hk0] at hf
    by_cases hk1 : q5.1 = 1
    · rw [if_pos hk1] at hf
      have hEk : E = mm_ex 1 := by rw [hE, hk1]
      subst hEk
      have hp_p3 := hfr.keep hp_p3 (by omega)
      have hp_p0 := hn_this
      have hF := hF.tr (hfr.l (by omega) (by omega))
      refine vx_catch hC.1.2.2.2.1 [⟨0, 10, 13, 20⟩] ⟨0, 10, 17, 13⟩ [⟨0, 10, 21, 41⟩] hxt (List.forall_mem_cons.mpr ⟨Or.inr ⟨by decide, _, (hC.1.2.2.2.2 _ q4_51), hC.2.2.1.1.2.2 1 2 (by decide) (by decide) (by decide) (by decide) (by decide)⟩, (fun z hz => absurd hz List.not_mem_nil)⟩) rfl (by decide) (hC.1.2.2.2.2 _ q3_90) (va_Nw.use rfl (hC.2.2.1.1.1 _ nw_castable_1)) hqE hv9 hcl9 ?_
      refine lv_astore (lv' := [(4, .ref qE), (0, .ref b0), (1, .int x1), (2, .int x2), (3, .ref a3)]) hx hb dL_sail_17 hl (by decide) rfl (fun ls hl => ?_)
      refine lv_iconst (v := 2) hx hb dL_sail_19 (by decide) ?_
      cases hf
      exact hret hM dL_sail_20 rfl ⟨rfl, hp_p0, hp_p3, hF⟩ (Nat.le_of_ble_eq_true rfl) (Nat.le_of_ble_eq_true rfl)
    rw [if_neg hk1] at hf
    by_cases hk2 : q5.1 = 5
    · rw [if_pos hk2] at hf
      have hEk : E = mm_ex 5 := by rw [hE, hk2]
      subst hEk
      have hp_p3 := hfr.keep hp_p3 (by omega)
      have hp_p0 := hn_this
      have hF := hF.tr (hfr.l (by omega) (by omega))
      refine vx_catch hC.1.2.2.2.1 [⟨0, 10, 13, 20⟩, ⟨0, 10, 17, 13⟩] ⟨0, 10, 21, 41⟩ [] hxt (List.forall_mem_cons.mpr ⟨Or.inr ⟨by decide, _, (hC.1.2.2.2.2 _ q4_51), hC.2.2.1.1.2.2 5 2 (by decide) (by decide) (by decide) (by decide) (by decide)⟩, (List.forall_mem_cons.mpr ⟨Or.inr ⟨by decide, _, (hC.1.2.2.2.2 _ q3_90), hC.2.2.1.1.2.2 5 1 (by decide) (by decide) (by decide) (by decide) (by decide)⟩, (fun z hz => absurd hz List.not_mem_nil)⟩)⟩) rfl (by decide) (hC.1.2.2.2.2 _ q4_113) (va_Nw.use rfl (hC.2.2.1.1.1 _ nw_castable_5)) hqE hv9 hcl9 ?_
      refine lv_astore (lv' := [(4, .ref qE), (0, .ref b0), (1, .int x1), (2, .int x2), (3, .ref a3)]) hx hb dL_sail_21 hl (by decide) rfl (fun ls hl => ?_)
      refine lv_iconst (v := 3) hx hb dL_sail_23 (by decide) ?_
      cases hf
      exact hret hM dL_sail_24 rfl ⟨rfl, hp_p0, hp_p3, hF⟩ (Nat.le_of_ble_eq_true rfl) (Nat.le_of_ble_eq_true rfl)
    rw [if_neg hk2] at hf
    cases hf
  obtain ⟨h0, hr, hn_this, hfr⟩ := hw
  rw [if_pos h0] at hf
  rw [hr]
  have hp_p3 := hfr.keep hp_p3 (by omega)
  have hp_p0 := hn_this
  have hF := hF.tr (hfr.l (by omega) (by omega))
  refine lv_i2l hx hb dL_sail_8 rfl ?_
  refine mm_last0 hC hM hp_p3 dL_sail_9 (fun w9 H locs hM hm => ?_)
  have hp_p0 := hp_p0.up hm (by omega)
  have hp_p3 := hm.1
  have hF := hF.tr (hm.r (by omega) (by omega))
  refine lv_goto (tgt := 25) hx hb dL_sail_10 (by decide) ?_
  refine lv_iconst (v := 0) hx hb dL_sail_25 (by decide) ?_
  cases hf
  exact hret hM dL_sail_26 rfl ⟨rfl, hp_p0, hp_p3, hF⟩ (Nat.le_of_ble_eq_true rfl) (Nat.le_of_ble_eq_true rfl)
def f_L_blockedMove (K : Nat) (p0_marsh_reeds_states : Nat → Int32) (p0_marsh_fleet_numbers : Nat → Int32) (p0_marsh_fleet_cells : Nat → Int32) (p0_marsh_fleet_count : Int32) (p0_marsh_plans_moves : Nat → Int32) (p0_marsh_plans_lengths : Nat → Int32) (p3 : Nat → Int64) (x1 : Int32) (x2 : Int32) : Option (Int32 × (Nat → Int64)) := (f_X12_blockedMove K p0_marsh_reeds_states p0_marsh_fleet_numbers p0_marsh_fleet_cells p0_marsh_fleet_count p0_marsh_plans_moves p0_marsh_plans_lengths x1 x2).bind fun q5 => if q5.1 = 0 then some (0, (vp_updL p3 0 q5.2.toInt64)) else if q5.1 = 2 then some (1, p3) else if q5.1 = 1 then some (2, p3) else none
set_option maxHeartbeats 4000000 in
set_option maxRecDepth 100000 in
theorem c_L_blockedMove (l : Launch) (hfl : l.stackTraces = false) {G : mm_G} {K : Nat} {w : va_W} {sz : Nat} {b0 : Nat} {a3 : Nat} {p0_marsh_reeds_states : Nat → Int32} {p0_marsh_reeds_count : Int32} {p0_marsh_reeds_broken : Int32} {p0_marsh_fleet_numbers : Nat → Int32} {p0_marsh_fleet_cells : Nat → Int32} {p0_marsh_fleet_fares : Nat → Int32} {p0_marsh_fleet_count : Int32} {p0_marsh_fleet_nextNumber : Int32} {p0_marsh_fleet_total : Int32} {p0_marsh_fleet_removedFares : Int32} {p0_marsh_fleet_meetings : Int32} {p0_marsh_plans_moves : Nat → Int32} {p0_marsh_plans_lengths : Nat → Int32} {p0_marsh_landings_cells : Nat → Int32} {p0_marsh_landings_count : Int32} {p0_marsh_fogSide : Int32} {p0_snapshot_reeds_states : Nat → Int32} {p0_snapshot_reeds_count : Int32} {p0_snapshot_reeds_broken : Int32} {p0_snapshot_fleet_numbers : Nat → Int32} {p0_snapshot_fleet_cells : Nat → Int32} {p0_snapshot_fleet_fares : Nat → Int32} {p0_snapshot_fleet_count : Int32} {p0_snapshot_fleet_nextNumber : Int32} {p0_snapshot_fleet_total : Int32} {p0_snapshot_fleet_removedFares : Int32} {p0_snapshot_fleet_meetings : Int32} {p0_snapshot_plans_moves : Nat → Int32} {p0_snapshot_plans_lengths : Nat → Int32} {p0_snapshot_landings_cells : Nat → Int32} {p0_snapshot_landings_count : Int32} {p0_snapshot_fogSide : Int32} {p0_history_slots : Nat → mm_MV} {p0_history_free : Int32} {p0_history_count : Int32} {p0_ways_tolls : Nat → Int32} {p0_ways_queue : Nat → Int32} {p0_ways_heap : Nat → Int32} {p0_ways_heapSize : Int32} {p0_ways_found : Nat → Int32} {p0_ways_improved : Nat → Int32} {p0_pairing_costs : Nat → Int32} {p0_pairing_best : Nat → Int32} {p0_reader_kinds : Nat → Int32} {p0_reader_starts : Nat → Int32} {p0_reader_count : Int32} {p0_commandText_signs : Nat → Int32} {p0_commandText_length : Int32} {p0_line_signs : Nat → Int32} {p0_line_length : Int32} {p0_spareMoves : Nat → Int32} {p0_snapshotTaken : Int32} {p0_lastErrorPosition : Int32} {p0_lastFailedCommand : Int32} {p3 : Nat → Int64} {x1 : Int32} {x2 : Int32} {X : Int32 × (Nat → Int64)} (hf : f_L_blockedMove K p0_marsh_reeds_states p0_marsh_fleet_numbers p0_marsh_fleet_cells p0_marsh_fleet_count p0_marsh_plans_moves p0_marsh_plans_lengths p3 x1 x2 = some X) (hp_p0 : At12 G w b0 p0_marsh_reeds_states p0_marsh_reeds_count p0_marsh_reeds_broken p0_marsh_fleet_numbers p0_marsh_fleet_cells p0_marsh_fleet_fares p0_marsh_fleet_count p0_marsh_fleet_nextNumber p0_marsh_fleet_total p0_marsh_fleet_removedFares p0_marsh_fleet_meetings p0_marsh_plans_moves p0_marsh_plans_lengths p0_marsh_landings_cells p0_marsh_landings_count p0_marsh_fogSide p0_snapshot_reeds_states p0_snapshot_reeds_count p0_snapshot_reeds_broken p0_snapshot_fleet_numbers p0_snapshot_fleet_cells p0_snapshot_fleet_fares p0_snapshot_fleet_count p0_snapshot_fleet_nextNumber p0_snapshot_fleet_total p0_snapshot_fleet_removedFares p0_snapshot_fleet_meetings p0_snapshot_plans_moves p0_snapshot_plans_lengths p0_snapshot_landings_cells p0_snapshot_landings_count p0_snapshot_fogSide p0_history_slots p0_history_free p0_history_count p0_ways_tolls p0_ways_queue p0_ways_heap p0_ways_heapSize p0_ways_found p0_ways_improved p0_pairing_costs p0_pairing_best p0_reader_kinds p0_reader_starts p0_reader_count p0_commandText_signs p0_commandText_length p0_line_signs p0_line_length p0_spareMoves p0_snapshotTaken p0_lastErrorPosition p0_lastFailedCommand) (hp_p3 : (a3, (.inl (G.2 3, 1, .inr (.inl p3)) : va_E)) ∈ w) (hd0 : b0 + 152 ≤ a3 ∨ a3 + 1 ≤ b0) : Met l yL_blockedMove (Cond.codeWith yL_blockedMove cL_blockedMove 5 (some .int) [(0, 10, 13, 20), (0, 10, 17, 13)] :: gAll) ({ frames := 9, cells := 2, slots := 12, locals := 165 }) (va_Pc [.ref b0, .int x1, .int x2, .ref a3] (mm_Pre G w sz)) (mm_Qi G w sz (fun r w' => r = X.1 ∧ (a3, (.inl (G.2 3, 1, .inr (.inl X.2)) : va_E)) ∈ w' ∧ mm_fr w w' a3 (a3 + 1))) 2 12 (va_A w sz) := by
  refine mm_hhead hfl [.ref b0, .int x1, .int x2, .ref a3] (by decide +kernel) rfl (Nat.le_of_ble_eq_true rfl) ?_
  intro p e s m args below meth c A Q hsz hC hM hret hxt ls hl
  have hx := hC.1.1
  have hb := hC.1.2.1
  have hl : lv_has ls 5 [(0, .ref b0), (1, .int x1), (2, .int x2), (3, .ref a3)] := hl
  have hF : mm_fr w w a3 (a3 + 1) := mm_fr.rf
  rw [f_L_blockedMove] at hf
  refine lv_aload_n hx hb dL_blockedMove_0 rfl (lv_at hl 3 rfl) ?_
  refine lv_iconst (v := 0) hx hb dL_blockedMove_1 (by decide) ?_
  refine lv_aload_n hx hb dL_blockedMove_2 rfl (lv_at hl 0 rfl) ?_
  refine lv_iload_n hx hb dL_blockedMove_3 rfl (lv_at hl 1 rfl) ?_
  refine lv_iload_n hx hb dL_blockedMove_4 rfl (lv_at hl 2 rfl) ?_
  obtain ⟨q5, hq5, hf⟩ := mm_bd hf
  refine mm_xVi (rest := [.int 0, .ref a3]) hC hM (c_X12_blockedMove l hfl hq5 hp_p0) q5_104 q1_1 ykX12_blockedMove q5_101 q5_102 q5_103 hp_p0.1 rfl ⟨rfl, rfl⟩ ⟨Nat.le_of_ble_eq_true rfl, Nat.le_of_ble_eq_true rfl⟩ rfl hl.1 rfl (Nat.le_of_ble_eq_true rfl) dL_blockedMove_5 ⟨Nat.le_of_ble_eq_true rfl, Nat.le_of_ble_eq_true rfl⟩ (fun E ce qE w5 H locs hM hw hqE hv9 hcl9 => ?_) (fun r w5 H locs hM hw => ?_)
  · obtain ⟨hne, hE, hw⟩ := hw
    rw [if_neg hne] at hf
    by_cases hk0 : q5.1 = 2
    · rw [if_pos hk0] at hf
      have hEk : E = mm_ex 2 := by rw [hE, hk0]
      subst hEk
      rw [hw] at hM
      refine vx_catch hC.1.2.2.2.1 [] ⟨0, 10, 13, 20⟩ [⟨0, 10, 17, 13⟩] hxt (fun z hz => absurd hz List.not_mem_nil) rfl (by decide) (hC.1.2.2.2.2 _ q4_51) (va_Nw.use rfl (hC.2.2.1.1.1 _ nw_castable_2)) hqE hv9 hcl9 ?_
      refine lv_astore (lv' := [(4, .ref qE), (0, .ref b0), (1, .int x1), (2, .int x2), (3, .ref a3)]) hx hb dL_blockedMove_13 hl (by decide) rfl (fun ls hl => ?_)
      refine lv_iconst (v := 1) hx hb dL_blockedMove_15 (by decide) ?_
      cases hf
      exact hret hM dL_blockedMove_16 rfl ⟨rfl, hp_p3, hF⟩ (Nat.le_of_ble_eq_true rfl) (Nat.le_of_ble_eq_true rfl)
    rw [if_neg hk0] at hf
    by_cases hk1 : q5.1 = 1
    · rw [if_pos hk1] at hf
      have hEk : E = mm_ex 1 := by rw [hE, hk1]
      subst hEk
      rw [hw] at hM
      refine vx_catch hC.1.2.2.2.1 [⟨0, 10, 13, 20⟩] ⟨0, 10, 17, 13⟩ [] hxt (List.forall_mem_cons.mpr ⟨Or.inr ⟨by decide, _, (hC.1.2.2.2.2 _ q4_51), hC.2.2.1.1.2.2 1 2 (by decide) (by decide) (by decide) (by decide) (by decide)⟩, (fun z hz => absurd hz List.not_mem_nil)⟩) rfl (by decide) (hC.1.2.2.2.2 _ q3_90) (va_Nw.use rfl (hC.2.2.1.1.1 _ nw_castable_1)) hqE hv9 hcl9 ?_
      refine lv_astore (lv' := [(4, .ref qE), (0, .ref b0), (1, .int x1), (2, .int x2), (3, .ref a3)]) hx hb dL_blockedMove_17 hl (by decide) rfl (fun ls hl => ?_)
      refine lv_iconst (v := 2) hx hb dL_blockedMove_19 (by decide) ?_
      cases hf
      exact hret hM dL_blockedMove_20 rfl ⟨rfl, hp_p3, hF⟩ (Nat.le_of_ble_eq_true rfl) (Nat.le_of_ble_eq_true rfl)
    rw [if_neg hk1] at hf
    cases hf
  obtain ⟨h0, hr, hw⟩ := hw
  rw [if_pos h0] at hf
  rw [hr]
  rw [hw] at hM
  refine lv_i2l hx hb dL_blockedMove_8 rfl ?_
  refine mm_last0 hC hM hp_p3 dL_blockedMove_9 (fun w9 H locs hM hm => ?_)
  have hp_p0 := hp_p0.up hm (by omega)
  have hp_p3 := hm.1
  have hF := hF.tr (hm.fr (by omega) (by omega))
  refine lv_goto (tgt := 21) hx hb dL_blockedMove_10 (by decide) ?_
  refine lv_iconst (v := 0) hx hb dL_blockedMove_21 (by decide) ?_
  cases hf
  exact hret hM dL_blockedMove_22 rfl ⟨rfl, hp_p3, hF⟩ (Nat.le_of_ble_eq_true rfl) (Nat.le_of_ble_eq_true rfl)
def f_L_wayLength (K : Nat) (p0_marsh_reeds_states : Nat → Int32) (p0_marsh_fleet_numbers : Nat → Int32) (p0_marsh_fleet_cells : Nat → Int32) (p0_marsh_fleet_count : Int32) (p0_ways_tolls : Nat → Int32) (p0_ways_queue : Nat → Int32) (p0_ways_found : Nat → Int32) (p4 : Nat → Int64) (x1 : Int32) (x2 : Int32) (x3 : Int32) : Option (Int32 × (Nat → Int32) × (Nat → Int32) × (Nat → Int32) × (Nat → Int64)) := (f_X12_wayLength K p0_marsh_reeds_states p0_marsh_fleet_numbers p0_marsh_fleet_cells p0_marsh_fleet_count p0_ways_tolls p0_ways_queue p0_ways_found x1 x2 x3).bind fun q7 => if q7.1 = 0 then some (0, q7.2.2.1, q7.2.2.2.1, q7.2.2.2.2, (vp_updL p4 0 q7.2.1.toInt64)) else if q7.1 = 2 then some (1, q7.2.2.1, q7.2.2.2.1, q7.2.2.2.2, p4) else if q7.1 = 1 then some (2, q7.2.2.1, q7.2.2.2.1, q7.2.2.2.2, p4) else none
set_option maxHeartbeats 4000000 in
set_option maxRecDepth 100000 in
theorem c_L_wayLength (l : Launch) (hfl : l.stackTraces = false) {G : mm_G} {K : Nat} {w : va_W} {sz : Nat} {b0 : Nat} {a4 : Nat} {p0_marsh_reeds_states : Nat → Int32} {p0_marsh_reeds_count : Int32} {p0_marsh_reeds_broken : Int32} {p0_marsh_fleet_numbers : Nat → Int32} {p0_marsh_fleet_cells : Nat → Int32} {p0_marsh_fleet_fares : Nat → Int32} {p0_marsh_fleet_count : Int32} {p0_marsh_fleet_nextNumber : Int32} {p0_marsh_fleet_total : Int32} {p0_marsh_fleet_removedFares : Int32} {p0_marsh_fleet_meetings : Int32} {p0_marsh_plans_moves : Nat → Int32} {p0_marsh_plans_lengths : Nat → Int32} {p0_marsh_landings_cells : Nat → Int32} {p0_marsh_landings_count : Int32} {p0_marsh_fogSide : Int32} {p0_snapshot_reeds_states : Nat → Int32} {p0_snapshot_reeds_count : Int32} {p0_snapshot_reeds_broken : Int32} {p0_snapshot_fleet_numbers : Nat → Int32} {p0_snapshot_fleet_cells : Nat → Int32} {p0_snapshot_fleet_fares : Nat → Int32} {p0_snapshot_fleet_count : Int32} {p0_snapshot_fleet_nextNumber : Int32} {p0_snapshot_fleet_total : Int32} {p0_snapshot_fleet_removedFares : Int32} {p0_snapshot_fleet_meetings : Int32} {p0_snapshot_plans_moves : Nat → Int32} {p0_snapshot_plans_lengths : Nat → Int32} {p0_snapshot_landings_cells : Nat → Int32} {p0_snapshot_landings_count : Int32} {p0_snapshot_fogSide : Int32} {p0_history_slots : Nat → mm_MV} {p0_history_free : Int32} {p0_history_count : Int32} {p0_ways_tolls : Nat → Int32} {p0_ways_queue : Nat → Int32} {p0_ways_heap : Nat → Int32} {p0_ways_heapSize : Int32} {p0_ways_found : Nat → Int32} {p0_ways_improved : Nat → Int32} {p0_pairing_costs : Nat → Int32} {p0_pairing_best : Nat → Int32} {p0_reader_kinds : Nat → Int32} {p0_reader_starts : Nat → Int32} {p0_reader_count : Int32} {p0_commandText_signs : Nat → Int32} {p0_commandText_length : Int32} {p0_line_signs : Nat → Int32} {p0_line_length : Int32} {p0_spareMoves : Nat → Int32} {p0_snapshotTaken : Int32} {p0_lastErrorPosition : Int32} {p0_lastFailedCommand : Int32} {p4 : Nat → Int64} {x1 : Int32} {x2 : Int32} {x3 : Int32} {X : Int32 × (Nat → Int32) × (Nat → Int32) × (Nat → Int32) × (Nat → Int64)} (hf : f_L_wayLength K p0_marsh_reeds_states p0_marsh_fleet_numbers p0_marsh_fleet_cells p0_marsh_fleet_count p0_ways_tolls p0_ways_queue p0_ways_found p4 x1 x2 x3 = some X) (hp_p0 : At12 G w b0 p0_marsh_reeds_states p0_marsh_reeds_count p0_marsh_reeds_broken p0_marsh_fleet_numbers p0_marsh_fleet_cells p0_marsh_fleet_fares p0_marsh_fleet_count p0_marsh_fleet_nextNumber p0_marsh_fleet_total p0_marsh_fleet_removedFares p0_marsh_fleet_meetings p0_marsh_plans_moves p0_marsh_plans_lengths p0_marsh_landings_cells p0_marsh_landings_count p0_marsh_fogSide p0_snapshot_reeds_states p0_snapshot_reeds_count p0_snapshot_reeds_broken p0_snapshot_fleet_numbers p0_snapshot_fleet_cells p0_snapshot_fleet_fares p0_snapshot_fleet_count p0_snapshot_fleet_nextNumber p0_snapshot_fleet_total p0_snapshot_fleet_removedFares p0_snapshot_fleet_meetings p0_snapshot_plans_moves p0_snapshot_plans_lengths p0_snapshot_landings_cells p0_snapshot_landings_count p0_snapshot_fogSide p0_history_slots p0_history_free p0_history_count p0_ways_tolls p0_ways_queue p0_ways_heap p0_ways_heapSize p0_ways_found p0_ways_improved p0_pairing_costs p0_pairing_best p0_reader_kinds p0_reader_starts p0_reader_count p0_commandText_signs p0_commandText_length p0_line_signs p0_line_length p0_spareMoves p0_snapshotTaken p0_lastErrorPosition p0_lastFailedCommand) (hp_p4 : (a4, (.inl (G.2 3, 1, .inr (.inl p4)) : va_E)) ∈ w) (hd0 : b0 + 152 ≤ a4 ∨ a4 + 1 ≤ b0) : Met l yL_wayLength (Cond.codeWith yL_wayLength cL_wayLength 6 (some .int) [(0, 12, 15, 20), (0, 12, 19, 13)] :: gAll) ({ frames := 9, cells := 3, slots := 18, locals := 167 }) (va_Pc [.ref b0, .int x1, .int x2, .int x3, .ref a4] (mm_Pre G w sz)) (mm_Qi G w sz (fun r w' => r = X.1 ∧ At12 G w' b0 p0_marsh_reeds_states p0_marsh_reeds_count p0_marsh_reeds_broken p0_marsh_fleet_numbers p0_marsh_fleet_cells p0_marsh_fleet_fares p0_marsh_fleet_count p0_marsh_fleet_nextNumber p0_marsh_fleet_total p0_marsh_fleet_removedFares p0_marsh_fleet_meetings p0_marsh_plans_moves p0_marsh_plans_lengths p0_marsh_landings_cells p0_marsh_landings_count p0_marsh_fogSide p0_snapshot_reeds_states p0_snapshot_reeds_count p0_snapshot_reeds_broken p0_snapshot_fleet_numbers p0_snapshot_fleet_cells p0_snapshot_fleet_fares p0_snapshot_fleet_count p0_snapshot_fleet_nextNumber p0_snapshot_fleet_total p0_snapshot_fleet_removedFares p0_snapshot_fleet_meetings p0_snapshot_plans_moves p0_snapshot_plans_lengths p0_snapshot_landings_cells p0_snapshot_landings_count p0_snapshot_fogSide p0_history_slots p0_history_free p0_history_count X.2.1 X.2.2.1 p0_ways_heap p0_ways_heapSize X.2.2.2.1 p0_ways_improved p0_pairing_costs p0_pairing_best p0_reader_kinds p0_reader_starts p0_reader_count p0_commandText_signs p0_commandText_length p0_line_signs p0_line_length p0_spareMoves p0_snapshotTaken p0_lastErrorPosition p0_lastFailedCommand ∧ (a4, (.inl (G.2 3, 1, .inr (.inl X.2.2.2.2)) : va_E)) ∈ w' ∧ mm_fr2 w w' b0 (b0 + 152) a4 (a4 + 1))) 3 18 (va_A w sz) := by
  refine mm_hhead hfl [.ref b0, .int x1, .int x2, .int x3, .ref a4] (by decide +kernel) rfl (Nat.le_of_ble_eq_true rfl) ?_
  intro p e s m args below meth c A Q hsz hC hM hret hxt ls hl
  have hx := hC.1.1
  have hb := hC.1.2.1
  have hl : lv_has ls 6 [(0, .ref b0), (1, .int x1), (2, .int x2), (3, .int x3), (4, .ref a4)] := hl
  have hF : mm_fr2 w w b0 (b0 + 152) a4 (a4 + 1) := mm_fr2.rf
  rw [f_L_wayLength] at hf
  refine lv_aload hx hb dL_wayLength_0 (lv_at hl 4 rfl) ?_
  refine lv_iconst (v := 0) hx hb dL_wayLength_2 (by decide) ?_
  refine lv_aload_n hx hb dL_wayLength_3 rfl (lv_at hl 0 rfl) ?_
  refine lv_iload_n hx hb dL_wayLength_4 rfl (lv_at hl 1 rfl) ?_
  refine lv_iload_n hx hb dL_wayLength_5 rfl (lv_at hl 2 rfl) ?_
  refine lv_iload_n hx hb dL_wayLength_6 rfl (lv_at hl 3 rfl) ?_
  obtain ⟨q7, hq7, hf⟩ := mm_bd hf
  refine mm_xVi (rest := [.int 0, .ref a4]) hC hM (c_X12_wayLength l hfl hq7 hp_p0) q5_112 q1_1 ykX12_wayLength q5_109 q5_110 q5_111 hp_p0.1 rfl ⟨rfl, rfl⟩ ⟨Nat.le_of_ble_eq_true rfl, Nat.le_of_ble_eq_true rfl⟩ rfl hl.1 rfl (Nat.le_of_ble_eq_true rfl) dL_wayLength_7 ⟨Nat.le_of_ble_eq_true rfl, Nat.le_of_ble_eq_true rfl⟩ (fun E ce qE w7 H locs hM hw hqE hv9 hcl9 => ?_) (fun r w7 H locs hM hw => ?_)
  · obtain ⟨hne, hE, hn_this, hfr⟩ := hw
    rw [if_neg hne] at hf
    by_cases hk0 : q7.1 = 2
    · rw [if_pos hk0] at hf
      have hEk : E = mm_ex 2 := by rw [hE, hk0]
      subst hEk
      have hp_p4 := hfr.keep hp_p4 (by omega)
      have hp_p0 := hn_this
      have hF := hF.tr (hfr.l (by omega) (by omega))
      refine vx_catch hC.1.2.2.2.1 [] ⟨0, 12, 15, 20⟩ [⟨0, 12, 19, 13⟩] hxt (fun z hz => absurd hz List.not_mem_nil) rfl (by decide) (hC.1.2.2.2.2 _ q4_51) (va_Nw.use rfl (hC.2.2.1.1.1 _ nw_castable_2)) hqE hv9 hcl9 ?_
      refine lv_astore (lv' := [(5, .ref qE), (0, .ref b0), (1, .int x1), (2, .int x2), (3, .int x3), (4, .ref a4)]) hx hb dL_wayLength_15 hl (by decide) rfl (fun ls hl => ?_)
      refine lv_iconst (v := 1) hx hb dL_wayLength_17 (by decide) ?_
      cases hf
      exact hret hM dL_wayLength_18 rfl ⟨rfl, hp_p0, hp_p4, hF⟩ (Nat.le_of_ble_eq_true rfl) (Nat.le_of_ble_eq_true rfl)
    rw [if_neg hk0] at hf
    by_cases hk1 : q7.1 = 1
    · rw [if_pos hk1] at hf
      have hEk : E = mm_ex 1 := by rw [hE, hk1]
      subst hEk
      have hp_p4 := hfr.keep hp_p4 (by omega)
      have hp_p0 := hn_this
      have hF := hF.tr (hfr.l (by omega) (by omega))
      refine vx_catch hC.1.2.2.2.1 [⟨0, 12, 15, 20⟩] ⟨0, 12, 19, 13⟩ [] hxt (List.forall_mem_cons.mpr ⟨Or.inr ⟨by decide, _, (hC.1.2.2.2.2 _ q4_51), hC.2.2.1.1.2.2 1 2 (by decide) (by decide) (by decide) (by decide) (by decide)⟩, (fun z hz => absurd hz List.not_mem_nil)⟩) rfl (by decide) (hC.1.2.2.2.2 _ q3_90) (va_Nw.use rfl (hC.2.2.1.1.1 _ nw_castable_1)) hqE hv9 hcl9 ?_
      refine lv_astore (lv' := [(5, .ref qE), (0, .ref b0), (1, .int x1), (2, .int x2), (3, .int x3), (4, .ref a4)]) hx hb dL_wayLength_19 hl (by decide) rfl (fun ls hl => ?_)
      refine lv_iconst (v := 2) hx hb dL_wayLength_21 (by decide) ?_
      cases hf
      exact hret hM dL_wayLength_22 rfl ⟨rfl, hp_p0, hp_p4, hF⟩ (Nat.le_of_ble_eq_true rfl) (Nat.le_of_ble_eq_true rfl)
    rw [if_neg hk1] at hf
    cases hf
  obtain ⟨h0, hr, hn_this, hfr⟩ := hw
  rw [if_pos h0] at hf
  rw [hr]
  have hp_p4 := hfr.keep hp_p4 (by omega)
  have hp_p0 := hn_this
  have hF := hF.tr (hfr.l (by omega) (by omega))
  refine lv_i2l hx hb dL_wayLength_10 rfl ?_
  refine mm_last0 hC hM hp_p4 dL_wayLength_11 (fun w11 H locs hM hm => ?_)
  have hp_p0 := hp_p0.up hm (by omega)
  have hp_p4 := hm.1
  have hF := hF.tr (hm.r (by omega) (by omega))
  refine lv_goto (tgt := 23) hx hb dL_wayLength_12 (by decide) ?_
  refine lv_iconst (v := 0) hx hb dL_wayLength_23 (by decide) ?_
  cases hf
  exact hret hM dL_wayLength_24 rfl ⟨rfl, hp_p0, hp_p4, hF⟩ (Nat.le_of_ble_eq_true rfl) (Nat.le_of_ble_eq_true rfl)
def f_L_wayLengthByRounds (K : Nat) (p0_marsh_reeds_states : Nat → Int32) (p0_marsh_fleet_numbers : Nat → Int32) (p0_marsh_fleet_cells : Nat → Int32) (p0_marsh_fleet_count : Int32) (p0_ways_tolls : Nat → Int32) (p0_ways_improved : Nat → Int32) (p4 : Nat → Int64) (x1 : Int32) (x2 : Int32) (x3 : Int32) : Option (Int32 × (Nat → Int32) × (Nat → Int32) × (Nat → Int64)) := (f_X12_wayLengthByRounds K p0_marsh_reeds_states p0_marsh_fleet_numbers p0_marsh_fleet_cells p0_marsh_fleet_count p0_ways_tolls p0_ways_improved x1 x2 x3).bind fun q7 => if q7.1 = 0 then some (0, q7.2.2.1, q7.2.2.2, (vp_updL p4 0 q7.2.1.toInt64)) else if q7.1 = 2 then some (1, q7.2.2.1, q7.2.2.2, p4) else if q7.1 = 1 then some (2, q7.2.2.1, q7.2.2.2, p4) else none
set_option maxHeartbeats 4000000 in
set_option maxRecDepth 100000 in
theorem c_L_wayLengthByRounds (l : Launch) (hfl : l.stackTraces = false) {G : mm_G} {K : Nat} {w : va_W} {sz : Nat} {b0 : Nat} {a4 : Nat} {p0_marsh_reeds_states : Nat → Int32} {p0_marsh_reeds_count : Int32} {p0_marsh_reeds_broken : Int32} {p0_marsh_fleet_numbers : Nat → Int32} {p0_marsh_fleet_cells : Nat → Int32} {p0_marsh_fleet_fares : Nat → Int32} {p0_marsh_fleet_count : Int32} {p0_marsh_fleet_nextNumber : Int32} {p0_marsh_fleet_total : Int32} {p0_marsh_fleet_removedFares : Int32} {p0_marsh_fleet_meetings : Int32} {p0_marsh_plans_moves : Nat → Int32} {p0_marsh_plans_lengths : Nat → Int32} {p0_marsh_landings_cells : Nat → Int32} {p0_marsh_landings_count : Int32} {p0_marsh_fogSide : Int32} {p0_snapshot_reeds_states : Nat → Int32} {p0_snapshot_reeds_count : Int32} {p0_snapshot_reeds_broken : Int32} {p0_snapshot_fleet_numbers : Nat → Int32} {p0_snapshot_fleet_cells : Nat → Int32} {p0_snapshot_fleet_fares : Nat → Int32} {p0_snapshot_fleet_count : Int32} {p0_snapshot_fleet_nextNumber : Int32} {p0_snapshot_fleet_total : Int32} {p0_snapshot_fleet_removedFares : Int32} {p0_snapshot_fleet_meetings : Int32} {p0_snapshot_plans_moves : Nat → Int32} {p0_snapshot_plans_lengths : Nat → Int32} {p0_snapshot_landings_cells : Nat → Int32} {p0_snapshot_landings_count : Int32} {p0_snapshot_fogSide : Int32} {p0_history_slots : Nat → mm_MV} {p0_history_free : Int32} {p0_history_count : Int32} {p0_ways_tolls : Nat → Int32} {p0_ways_queue : Nat → Int32} {p0_ways_heap : Nat → Int32} {p0_ways_heapSize : Int32} {p0_ways_found : Nat → Int32} {p0_ways_improved : Nat → Int32} {p0_pairing_costs : Nat → Int32} {p0_pairing_best : Nat → Int32} {p0_reader_kinds : Nat → Int32} {p0_reader_starts : Nat → Int32} {p0_reader_count : Int32} {p0_commandText_signs : Nat → Int32} {p0_commandText_length : Int32} {p0_line_signs : Nat → Int32} {p0_line_length : Int32} {p0_spareMoves : Nat → Int32} {p0_snapshotTaken : Int32} {p0_lastErrorPosition : Int32} {p0_lastFailedCommand : Int32} {p4 : Nat → Int64} {x1 : Int32} {x2 : Int32} {x3 : Int32} {X : Int32 × (Nat → Int32) × (Nat → Int32) × (Nat → Int64)} (hf : f_L_wayLengthByRounds K p0_marsh_reeds_states p0_marsh_fleet_numbers p0_marsh_fleet_cells p0_marsh_fleet_count p0_ways_tolls p0_ways_improved p4 x1 x2 x3 = some X) (hp_p0 : At12 G w b0 p0_marsh_reeds_states p0_marsh_reeds_count p0_marsh_reeds_broken p0_marsh_fleet_numbers p0_marsh_fleet_cells p0_marsh_fleet_fares p0_marsh_fleet_count p0_marsh_fleet_nextNumber p0_marsh_fleet_total p0_marsh_fleet_removedFares p0_marsh_fleet_meetings p0_marsh_plans_moves p0_marsh_plans_lengths p0_marsh_landings_cells p0_marsh_landings_count p0_marsh_fogSide p0_snapshot_reeds_states p0_snapshot_reeds_count p0_snapshot_reeds_broken p0_snapshot_fleet_numbers p0_snapshot_fleet_cells p0_snapshot_fleet_fares p0_snapshot_fleet_count p0_snapshot_fleet_nextNumber p0_snapshot_fleet_total p0_snapshot_fleet_removedFares p0_snapshot_fleet_meetings p0_snapshot_plans_moves p0_snapshot_plans_lengths p0_snapshot_landings_cells p0_snapshot_landings_count p0_snapshot_fogSide p0_history_slots p0_history_free p0_history_count p0_ways_tolls p0_ways_queue p0_ways_heap p0_ways_heapSize p0_ways_found p0_ways_improved p0_pairing_costs p0_pairing_best p0_reader_kinds p0_reader_starts p0_reader_count p0_commandText_signs p0_commandText_length p0_line_signs p0_line_length p0_spareMoves p0_snapshotTaken p0_lastErrorPosition p0_lastFailedCommand) (hp_p4 : (a4, (.inl (G.2 3, 1, .inr (.inl p4)) : va_E)) ∈ w) (hd0 : b0 + 152 ≤ a4 ∨ a4 + 1 ≤ b0) : Met l yL_wayLengthByRounds (Cond.codeWith yL_wayLengthByRounds cL_wayLengthByRounds 6 (some .int) [(0, 12, 15, 20), (0, 12, 19, 13)] :: gAll) ({ frames := 9, cells := 3, slots := 18, locals := 167 }) (va_Pc [.ref b0, .int x1, .int x2, .int x3, .ref a4] (mm_Pre G w sz)) (mm_Qi G w sz (fun r w' => r = X.1 ∧ At12 G w' b0 p0_marsh_reeds_states p0_marsh_reeds_count p0_marsh_reeds_broken p0_marsh_fleet_numbers p0_marsh_fleet_cells p0_marsh_fleet_fares p0_marsh_fleet_count p0_marsh_fleet_nextNumber p0_marsh_fleet_total p0_marsh_fleet_removedFares p0_marsh_fleet_meetings p0_marsh_plans_moves p0_marsh_plans_lengths p0_marsh_landings_cells p0_marsh_landings_count p0_marsh_fogSide p0_snapshot_reeds_states p0_snapshot_reeds_count p0_snapshot_reeds_broken p0_snapshot_fleet_numbers p0_snapshot_fleet_cells p0_snapshot_fleet_fares p0_snapshot_fleet_count p0_snapshot_fleet_nextNumber p0_snapshot_fleet_total p0_snapshot_fleet_removedFares p0_snapshot_fleet_meetings p0_snapshot_plans_moves p0_snapshot_plans_lengths p0_snapshot_landings_cells p0_snapshot_landings_count p0_snapshot_fogSide p0_history_slots p0_history_free p0_history_count X.2.1 p0_ways_queue p0_ways_heap p0_ways_heapSize p0_ways_found X.2.2.1 p0_pairing_costs p0_pairing_best p0_reader_kinds p0_reader_starts p0_reader_count p0_commandText_signs p0_commandText_length p0_line_signs p0_line_length p0_spareMoves p0_snapshotTaken p0_lastErrorPosition p0_lastFailedCommand ∧ (a4, (.inl (G.2 3, 1, .inr (.inl X.2.2.2)) : va_E)) ∈ w' ∧ mm_fr2 w w' b0 (b0 + 152) a4 (a4 + 1))) 3 18 (va_A w sz) := by
  refine mm_hhead hfl [.ref b0, .int x1, .int x2, .int x3, .ref a4] (by decide +kernel) rfl (Nat.le_of_ble_eq_true rfl) ?_
  intro p e s m args below meth c A Q hsz hC hM hret hxt ls hl
  have hx := hC.1.1
  have hb := hC.1.2.1
  have hl : lv_has ls 6 [(0, .ref b0), (1, .int x1), (2, .int x2), (3, .int x3), (4, .ref a4)] := hl
  have hF : mm_fr2 w w b0 (b0 + 152) a4 (a4 + 1) := mm_fr2.rf
  rw [f_L_wayLengthByRounds] at hf
  refine lv_aload hx hb dL_wayLengthByRounds_0 (lv_at hl 4 rfl) ?_
  refine lv_iconst (v := 0) hx hb dL_wayLengthByRounds_2 (by decide) ?_
  refine lv_aload_n hx hb dL_wayLengthByRounds_3 rfl (lv_at hl 0 rfl) ?_
  refine lv_iload_n hx hb dL_wayLengthByRounds_4 rfl (lv_at hl 1 rfl) ?_
  refine lv_iload_n hx hb dL_wayLengthByRounds_5 rfl (lv_at hl 2 rfl) ?_
  refine lv_iload_n hx hb dL_wayLengthByRounds_6 rfl (lv_at hl 3 rfl) ?_
  obtain ⟨q7, hq7, hf⟩ := mm_bd hf
  refine mm_xVi (rest := [.int 0, .ref a4]) hC hM (c_X12_wayLengthByRounds l hfl hq7 hp_p0) q5_123 q1_1 ykX12_wayLengthByRounds q5_120 q5_121 q5_122 hp_p0.1 rfl ⟨rfl, rfl⟩ ⟨Nat.le_of_ble_eq_true rfl, Nat.le_of_ble_eq_true rfl⟩ rfl hl.1 rfl (Nat.le_of_ble_eq_true rfl) dL_wayLengthByRounds_7 ⟨Nat.le_of_ble_eq_true rfl, Nat.le_of_ble_eq_true rfl⟩ (fun E ce qE w7 H locs hM hw hqE hv9 hcl9 => ?_) (fun r w7 H locs hM hw => ?_)
  · obtain ⟨hne, hE, hn_this, hfr⟩ := hw
    rw [if_neg hne] at hf
    by_cases hk0 : q7.1 = 2
    · rw [if_pos hk0] at hf
      have hEk : E = mm_ex 2 := by rw [hE, hk0]
      subst hEk
      have hp_p4 := hfr.keep hp_p4 (by omega)
      have hp_p0 := hn_this
      have hF := hF.tr (hfr.l (by omega) (by omega))
      refine vx_catch hC.1.2.2.2.1 [] ⟨0, 12, 15, 20⟩ [⟨0, 12, 19, 13⟩] hxt (fun z hz => absurd hz List.not_mem_nil) rfl (by decide) (hC.1.2.2.2.2 _ q4_51) (va_Nw.use rfl (hC.2.2.1.1.1 _ nw_castable_2)) hqE hv9 hcl9 ?_
      refine lv_astore (lv' := [(5, .ref qE), (0, .ref b0), (1, .int x1), (2, .int x2), (3, .int x3), (4, .ref a4)]) hx hb dL_wayLengthByRounds_15 hl (by decide) rfl (fun ls hl => ?_)
      refine lv_iconst (v := 1) hx hb dL_wayLengthByRounds_17 (by decide) ?_
      cases hf
      exact hret hM dL_wayLengthByRounds_18 rfl ⟨rfl, hp_p0, hp_p4, hF⟩ (Nat.le_of_ble_eq_true rfl) (Nat.le_of_ble_eq_true rfl)
    rw [if_neg hk0] at hf
    by_cases hk1 : q7.1 = 1
    · rw [if_pos hk1] at hf
      have hEk : E = mm_ex 1 := by rw [hE, hk1]
      subst hEk
      have hp_p4 := hfr.keep hp_p4 (by omega)
      have hp_p0 := hn_this
      have hF := hF.tr (hfr.l (by omega) (by omega))
      refine vx_catch hC.1.2.2.2.1 [⟨0, 12, 15, 20⟩] ⟨0, 12, 19, 13⟩ [] hxt (List.forall_mem_cons.mpr ⟨Or.inr ⟨by decide, _, (hC.1.2.2.2.2 _ q4_51), hC.2.2.1.1.2.2 1 2 (by decide) (by decide) (by decide) (by decide) (by decide)⟩, (fun z hz => absurd hz List.not_mem_nil)⟩) rfl (by decide) (hC.1.2.2.2.2 _ q3_90) (va_Nw.use rfl (hC.2.2.1.1.1 _ nw_castable_1)) hqE hv9 hcl9 ?_
      refine lv_astore (lv' := [(5, .ref qE), (0, .ref b0), (1, .int x1), (2, .int x2), (3, .int x3), (4, .ref a4)]) hx hb dL_wayLengthByRounds_19 hl (by decide) rfl (fun ls hl => ?_)
      refine lv_iconst (v := 2) hx hb dL_wayLengthByRounds_21 (by decide) ?_
      cases hf
      exact hret hM dL_wayLengthByRounds_22 rfl ⟨rfl, hp_p0, hp_p4, hF⟩ (Nat.le_of_ble_eq_true rfl) (Nat.le_of_ble_eq_true rfl)
    rw [if_neg hk1] at hf
    cases hf
  obtain ⟨h0, hr, hn_this, hfr⟩ := hw
  rw [if_pos h0] at hf
  rw [hr]
  have hp_p4 := hfr.keep hp_p4 (by omega)
  have hp_p0 := hn_this
  have hF := hF.tr (hfr.l (by omega) (by omega))
  refine lv_i2l hx hb dL_wayLengthByRounds_10 rfl ?_
  refine mm_last0 hC hM hp_p4 dL_wayLengthByRounds_11 (fun w11 H locs hM hm => ?_)
  have hp_p0 := hp_p0.up hm (by omega)
  have hp_p4 := hm.1
  have hF := hF.tr (hm.r (by omega) (by omega))
  refine lv_goto (tgt := 23) hx hb dL_wayLengthByRounds_12 (by decide) ?_
  refine lv_iconst (v := 0) hx hb dL_wayLengthByRounds_23 (by decide) ?_
  cases hf
  exact hret hM dL_wayLengthByRounds_24 rfl ⟨rfl, hp_p0, hp_p4, hF⟩ (Nat.le_of_ble_eq_true rfl) (Nat.le_of_ble_eq_true rfl)
def f_L_wayCost (K : Nat) (p0_marsh_reeds_states : Nat → Int32) (p0_marsh_fleet_numbers : Nat → Int32) (p0_marsh_fleet_cells : Nat → Int32) (p0_marsh_fleet_count : Int32) (p0_marsh_fogSide : Int32) (p0_ways_tolls : Nat → Int32) (p0_ways_heap : Nat → Int32) (p0_ways_heapSize : Int32) (p0_ways_found : Nat → Int32) (p4 : Nat → Int64) (x1 : Int32) (x2 : Int32) (x3 : Int32) : Option (Int32 × (Nat → Int32) × (Nat → Int32) × Int32 × (Nat → Int32) × (Nat → Int64)) := (f_X12_wayCost K p0_marsh_reeds_states p0_marsh_fleet_numbers p0_marsh_fleet_cells p0_marsh_fleet_count p0_marsh_fogSide p0_ways_tolls p0_ways_heap p0_ways_heapSize p0_ways_found x1 x2 x3).bind fun q7 => if q7.1 = 0 then some (0, q7.2.2.1, q7.2.2.2.1, q7.2.2.2.2.1, q7.2.2.2.2.2, (vp_updL p4 0 q7.2.1.toInt64)) else if q7.1 = 2 then some (1, q7.2.2.1, q7.2.2.2.1, q7.2.2.2.2.1, q7.2.2.2.2.2, p4) else if q7.1 = 1 then some (2, q7.2.2.1, q7.2.2.2.1, q7.2.2.2.2.1, q7.2.2.2.2.2, p4) else none
set_option maxHeartbeats 4000000 in
set_option maxRecDepth 100000 in
theorem c_L_wayCost (l : Launch) (hfl : l.stackTraces = false) {G : mm_G} {K : Nat} {w : va_W} {sz : Nat} {b0 : Nat} {a4 : Nat} {p0_marsh_reeds_states : Nat → Int32} {p0_marsh_reeds_count : Int32} {p0_marsh_reeds_broken : Int32} {p0_marsh_fleet_numbers : Nat → Int32} {p0_marsh_fleet_cells : Nat → Int32} {p0_marsh_fleet_fares : Nat → Int32} {p0_marsh_fleet_count : Int32} {p0_marsh_fleet_nextNumber : Int32} {p0_marsh_fleet_total : Int32} {p0_marsh_fleet_removedFares : Int32} {p0_marsh_fleet_meetings : Int32} {p0_marsh_plans_moves : Nat → Int32} {p0_marsh_plans_lengths : Nat → Int32} {p0_marsh_landings_cells : Nat → Int32} {p0_marsh_landings_count : Int32} {p0_marsh_fogSide : Int32} {p0_snapshot_reeds_states : Nat → Int32} {p0_snapshot_reeds_count : Int32} {p0_snapshot_reeds_broken : Int32} {p0_snapshot_fleet_numbers : Nat → Int32} {p0_snapshot_fleet_cells : Nat → Int32} {p0_snapshot_fleet_fares : Nat → Int32} {p0_snapshot_fleet_count : Int32} {p0_snapshot_fleet_nextNumber : Int32} {p0_snapshot_fleet_total : Int32} {p0_snapshot_fleet_removedFares : Int32} {p0_snapshot_fleet_meetings : Int32} {p0_snapshot_plans_moves : Nat → Int32} {p0_snapshot_plans_lengths : Nat → Int32} {p0_snapshot_landings_cells : Nat → Int32} {p0_snapshot_landings_count : Int32} {p0_snapshot_fogSide : Int32} {p0_history_slots : Nat → mm_MV} {p0_history_free : Int32} {p0_history_count : Int32} {p0_ways_tolls : Nat → Int32} {p0_ways_queue : Nat → Int32} {p0_ways_heap : Nat → Int32} {p0_ways_heapSize : Int32} {p0_ways_found : Nat → Int32} {p0_ways_improved : Nat → Int32} {p0_pairing_costs : Nat → Int32} {p0_pairing_best : Nat → Int32} {p0_reader_kinds : Nat → Int32} {p0_reader_starts : Nat → Int32} {p0_reader_count : Int32} {p0_commandText_signs : Nat → Int32} {p0_commandText_length : Int32} {p0_line_signs : Nat → Int32} {p0_line_length : Int32} {p0_spareMoves : Nat → Int32} {p0_snapshotTaken : Int32} {p0_lastErrorPosition : Int32} {p0_lastFailedCommand : Int32} {p4 : Nat → Int64} {x1 : Int32} {x2 : Int32} {x3 : Int32} {X : Int32 × (Nat → Int32) × (Nat → Int32) × Int32 × (Nat → Int32) × (Nat → Int64)} (hf : f_L_wayCost K p0_marsh_reeds_states p0_marsh_fleet_numbers p0_marsh_fleet_cells p0_marsh_fleet_count p0_marsh_fogSide p0_ways_tolls p0_ways_heap p0_ways_heapSize p0_ways_found p4 x1 x2 x3 = some X) (hp_p0 : At12 G w b0 p0_marsh_reeds_states p0_marsh_reeds_count p0_marsh_reeds_broken p0_marsh_fleet_numbers p0_marsh_fleet_cells p0_marsh_fleet_fares p0_marsh_fleet_count p0_marsh_fleet_nextNumber p0_marsh_fleet_total p0_marsh_fleet_removedFares p0_marsh_fleet_meetings p0_marsh_plans_moves p0_marsh_plans_lengths p0_marsh_landings_cells p0_marsh_landings_count p0_marsh_fogSide p0_snapshot_reeds_states p0_snapshot_reeds_count p0_snapshot_reeds_broken p0_snapshot_fleet_numbers p0_snapshot_fleet_cells p0_snapshot_fleet_fares p0_snapshot_fleet_count p0_snapshot_fleet_nextNumber p0_snapshot_fleet_total p0_snapshot_fleet_removedFares p0_snapshot_fleet_meetings p0_snapshot_plans_moves p0_snapshot_plans_lengths p0_snapshot_landings_cells p0_snapshot_landings_count p0_snapshot_fogSide p0_history_slots p0_history_free p0_history_count p0_ways_tolls p0_ways_queue p0_ways_heap p0_ways_heapSize p0_ways_found p0_ways_improved p0_pairing_costs p0_pairing_best p0_reader_kinds p0_reader_starts p0_reader_count p0_commandText_signs p0_commandText_length p0_line_signs p0_line_length p0_spareMoves p0_snapshotTaken p0_lastErrorPosition p0_lastFailedCommand) (hp_p4 : (a4, (.inl (G.2 3, 1, .inr (.inl p4)) : va_E)) ∈ w) (hd0 : b0 + 152 ≤ a4 ∨ a4 + 1 ≤ b0) : Met l yL_wayCost (Cond.codeWith yL_wayCost cL_wayCost 6 (some .int) [(0, 12, 15, 20), (0, 12, 19, 13)] :: gAll) ({ frames := 9, cells := 3, slots := 18, locals := 167 }) (va_Pc [.ref b0, .int x1, .int x2, .int x3, .ref a4] (mm_Pre G w sz)) (mm_Qi G w sz (fun r w' => r = X.1 ∧ At12 G w' b0 p0_marsh_reeds_states p0_marsh_reeds_count p0_marsh_reeds_broken p0_marsh_fleet_numbers p0_marsh_fleet_cells p0_marsh_fleet_fares p0_marsh_fleet_count p0_marsh_fleet_nextNumber p0_marsh_fleet_total p0_marsh_fleet_removedFares p0_marsh_fleet_meetings p0_marsh_plans_moves p0_marsh_plans_lengths p0_marsh_landings_cells p0_marsh_landings_count p0_marsh_fogSide p0_snapshot_reeds_states p0_snapshot_reeds_count p0_snapshot_reeds_broken p0_snapshot_fleet_numbers p0_snapshot_fleet_cells p0_snapshot_fleet_fares p0_snapshot_fleet_count p0_snapshot_fleet_nextNumber p0_snapshot_fleet_total p0_snapshot_fleet_removedFares p0_snapshot_fleet_meetings p0_snapshot_plans_moves p0_snapshot_plans_lengths p0_snapshot_landings_cells p0_snapshot_landings_count p0_snapshot_fogSide p0_history_slots p0_history_free p0_history_count X.2.1 p0_ways_queue X.2.2.1 X.2.2.2.1 X.2.2.2.2.1 p0_ways_improved p0_pairing_costs p0_pairing_best p0_reader_kinds p0_reader_starts p0_reader_count p0_commandText_signs p0_commandText_length p0_line_signs p0_line_length p0_spareMoves p0_snapshotTaken p0_lastErrorPosition p0_lastFailedCommand ∧ (a4, (.inl (G.2 3, 1, .inr (.inl X.2.2.2.2.2)) : va_E)) ∈ w' ∧ mm_fr2 w w' b0 (b0 + 152) a4 (a4 + 1))) 3 18 (va_A w sz) := by
  refine mm_hhead hfl [.ref b0, .int x1, .int x2, .int x3, .ref a4] (by decide +kernel) rfl (Nat.le_of_ble_eq_true rfl) ?_
  intro p e s m args below meth c A Q hsz hC hM hret hxt ls hl
  have hx := hC.1.1
  have hb := hC.1.2.1
  have hl : lv_has ls 6 [(0, .ref b0), (1, .int x1), (2, .int x2), (3, .int x3), (4, .ref a4)] := hl
  have hF : mm_fr2 w w b0 (b0 + 152) a4 (a4 + 1) := mm_fr2.rf
  rw [f_L_wayCost] at hf
  refine lv_aload hx hb dL_wayCost_0 (lv_at hl 4 rfl) ?_
  refine lv_iconst (v := 0) hx hb dL_wayCost_2 (by decide) ?_
  refine lv_aload_n hx hb dL_wayCost_3 rfl (lv_at hl 0 rfl) ?_
  refine lv_iload_n hx hb dL_wayCost_4 rfl (lv_at hl 1 rfl) ?_
  refine lv_iload_n hx hb dL_wayCost_5 rfl (lv_at hl 2 rfl) ?_
  refine lv_iload_n hx hb dL_wayCost_6 rfl (lv_at hl 3 rfl) ?_
  obtain ⟨q7, hq7, hf⟩ := mm_bd hf
  refine mm_xVi (rest := [.int 0, .ref a4]) hC hM (c_X12_wayCost l hfl hq7 hp_p0) q5_130 q1_1 ykX12_wayCost q5_127 q5_128 q5_129 hp_p0.1 rfl ⟨rfl, rfl⟩ ⟨Nat.le_of_ble_eq_true rfl, Nat.le_of_ble_eq_true rfl⟩ rfl hl.1 rfl (Nat.le_of_ble_eq_true rfl) dL_wayCost_7 ⟨Nat.le_of_ble_eq_true rfl, Nat.le_of_ble_eq_true rfl⟩ (fun E ce qE w7 H locs hM hw hqE hv9 hcl9 => ?_) (fun r w7 H locs hM hw => ?_)
  · obtain ⟨hne, hE, hn_this, hfr⟩ := hw
    rw [if_neg hne] at hf
    by_cases hk0 : q7.1 = 2
    · rw [if_pos hk0] at hf
      have hEk : E = mm_ex 2 := by rw [hE, hk0]
      subst hEk
      have hp_p4 := hfr.keep hp_p4 (by omega)
      have hp_p0 := hn_this
      have hF := hF.tr (hfr.l (by omega) (by omega))
      refine vx_catch hC.1.2.2.2.1 [] ⟨0, 12, 15, 20⟩ [⟨0, 12, 19, 13⟩] hxt (fun z hz => absurd hz List.not_mem_nil) rfl (by decide) (hC.1.2.2.2.2 _ q4_51) (va_Nw.use rfl (hC.2.2.1.1.1 _ nw_castable_2)) hqE hv9 hcl9 ?_
      refine lv_astore (lv' := [(5, .ref qE), (0, .ref b0), (1, .int x1), (2, .int x2), (3, .int x3), (4, .ref a4)]) hx hb dL_wayCost_15 hl (by decide) rfl (fun ls hl => ?_)
      refine lv_iconst (v := 1) hx hb dL_wayCost_17 (by decide) ?_
      cases hf
      exact hret hM dL_wayCost_18 rfl ⟨rfl, hp_p0, hp_p4, hF⟩ (Nat.le_of_ble_eq_true rfl) (Nat.le_of_ble_eq_true rfl)
    rw [if_neg hk0] at hf
    by_cases hk1 : q7.1 = 1
    · rw [if_pos hk1] at hf
      have hEk : E = mm_ex 1 := by rw [hE, hk1]
      subst hEk
      have hp_p4 := hfr.keep hp_p4 (by omega)
      have hp_p0 := hn_this
      have hF := hF.tr (hfr.l (by omega) (by omega))
      refine vx_catch hC.1.2.2.2.1 [⟨0, 12, 15, 20⟩] ⟨0, 12, 19, 13⟩ [] hxt (List.forall_mem_cons.mpr ⟨Or.inr ⟨by decide, _, (hC.1.2.2.2.2 _ q4_51), hC.2.2.1.1.2.2 1 2 (by decide) (by decide) (by decide) (by decide) (by decide)⟩, (fun z hz => absurd hz List.not_mem_nil)⟩) rfl (by decide) (hC.1.2.2.2.2 _ q3_90) (va_Nw.use rfl (hC.2.2.1.1.1 _ nw_castable_1)) hqE hv9 hcl9 ?_
      refine lv_astore (lv' := [(5, .ref qE), (0, .ref b0), (1, .int x1), (2, .int x2), (3, .int x3), (4, .ref a4)]) hx hb dL_wayCost_19 hl (by decide) rfl (fun ls hl => ?_)
      refine lv_iconst (v := 2) hx hb dL_wayCost_21 (by decide) ?_
      cases hf
      exact hret hM dL_wayCost_22 rfl ⟨rfl, hp_p0, hp_p4, hF⟩ (Nat.le_of_ble_eq_true rfl) (Nat.le_of_ble_eq_true rfl)
    rw [if_neg hk1] at hf
    cases hf
  obtain ⟨h0, hr, hn_this, hfr⟩ := hw
  rw [if_pos h0] at hf
  rw [hr]
  have hp_p4 := hfr.keep hp_p4 (by omega)
  have hp_p0 := hn_this
  have hF := hF.tr (hfr.l (by omega) (by omega))
  refine lv_i2l hx hb dL_wayCost_10 rfl ?_
  refine mm_last0 hC hM hp_p4 dL_wayCost_11 (fun w11 H locs hM hm => ?_)
  have hp_p0 := hp_p0.up hm (by omega)
  have hp_p4 := hm.1
  have hF := hF.tr (hm.r (by omega) (by omega))
  refine lv_goto (tgt := 23) hx hb dL_wayCost_12 (by decide) ?_
  refine lv_iconst (v := 0) hx hb dL_wayCost_23 (by decide) ?_
  cases hf
  exact hret hM dL_wayCost_24 rfl ⟨rfl, hp_p0, hp_p4, hF⟩ (Nat.le_of_ble_eq_true rfl) (Nat.le_of_ble_eq_true rfl)
def f_L_wayCostByRounds (K : Nat) (p0_marsh_reeds_states : Nat → Int32) (p0_marsh_fleet_numbers : Nat → Int32) (p0_marsh_fleet_cells : Nat → Int32) (p0_marsh_fleet_count : Int32) (p0_marsh_fogSide : Int32) (p0_ways_tolls : Nat → Int32) (p0_ways_improved : Nat → Int32) (p4 : Nat → Int64) (x1 : Int32) (x2 : Int32) (x3 : Int32) : Option (Int32 × (Nat → Int32) × (Nat → Int32) × (Nat → Int64)) := (f_X12_wayCostByRounds K p0_marsh_reeds_states p0_marsh_fleet_numbers p0_marsh_fleet_cells p0_marsh_fleet_count p0_marsh_fogSide p0_ways_tolls p0_ways_improved x1 x2 x3).bind fun q7 => if q7.1 = 0 then some (0, q7.2.2.1, q7.2.2.2, (vp_updL p4 0 q7.2.1.toInt64)) else if q7.1 = 2 then some (1, q7.2.2.1, q7.2.2.2, p4) else if q7.1 = 1 then some (2, q7.2.2.1, q7.2.2.2, p4) else none
set_option maxHeartbeats 4000000 in
set_option maxRecDepth 100000 in
theorem c_L_wayCostByRounds (l : Launch) (hfl : l.stackTraces = false) {G : mm_G} {K : Nat} {w : va_W} {sz : Nat} {b0 : Nat} {a4 : Nat} {p0_marsh_reeds_states : Nat → Int32} {p0_marsh_reeds_count : Int32} {p0_marsh_reeds_broken : Int32} {p0_marsh_fleet_numbers : Nat → Int32} {p0_marsh_fleet_cells : Nat → Int32} {p0_marsh_fleet_fares : Nat → Int32} {p0_marsh_fleet_count : Int32} {p0_marsh_fleet_nextNumber : Int32} {p0_marsh_fleet_total : Int32} {p0_marsh_fleet_removedFares : Int32} {p0_marsh_fleet_meetings : Int32} {p0_marsh_plans_moves : Nat → Int32} {p0_marsh_plans_lengths : Nat → Int32} {p0_marsh_landings_cells : Nat → Int32} {p0_marsh_landings_count : Int32} {p0_marsh_fogSide : Int32} {p0_snapshot_reeds_states : Nat → Int32} {p0_snapshot_reeds_count : Int32} {p0_snapshot_reeds_broken : Int32} {p0_snapshot_fleet_numbers : Nat → Int32} {p0_snapshot_fleet_cells : Nat → Int32} {p0_snapshot_fleet_fares : Nat → Int32} {p0_snapshot_fleet_count : Int32} {p0_snapshot_fleet_nextNumber : Int32} {p0_snapshot_fleet_total : Int32} {p0_snapshot_fleet_removedFares : Int32} {p0_snapshot_fleet_meetings : Int32} {p0_snapshot_plans_moves : Nat → Int32} {p0_snapshot_plans_lengths : Nat → Int32} {p0_snapshot_landings_cells : Nat → Int32} {p0_snapshot_landings_count : Int32} {p0_snapshot_fogSide : Int32} {p0_history_slots : Nat → mm_MV} {p0_history_free : Int32} {p0_history_count : Int32} {p0_ways_tolls : Nat → Int32} {p0_ways_queue : Nat → Int32} {p0_ways_heap : Nat → Int32} {p0_ways_heapSize : Int32} {p0_ways_found : Nat → Int32} {p0_ways_improved : Nat → Int32} {p0_pairing_costs : Nat → Int32} {p0_pairing_best : Nat → Int32} {p0_reader_kinds : Nat → Int32} {p0_reader_starts : Nat → Int32} {p0_reader_count : Int32} {p0_commandText_signs : Nat → Int32} {p0_commandText_length : Int32} {p0_line_signs : Nat → Int32} {p0_line_length : Int32} {p0_spareMoves : Nat → Int32} {p0_snapshotTaken : Int32} {p0_lastErrorPosition : Int32} {p0_lastFailedCommand : Int32} {p4 : Nat → Int64} {x1 : Int32} {x2 : Int32} {x3 : Int32} {X : Int32 × (Nat → Int32) × (Nat → Int32) × (Nat → Int64)} (hf : f_L_wayCostByRounds K p0_marsh_reeds_states p0_marsh_fleet_numbers p0_marsh_fleet_cells p0_marsh_fleet_count p0_marsh_fogSide p0_ways_tolls p0_ways_improved p4 x1 x2 x3 = some X) (hp_p0 : At12 G w b0 p0_marsh_reeds_states p0_marsh_reeds_count p0_marsh_reeds_broken p0_marsh_fleet_numbers p0_marsh_fleet_cells p0_marsh_fleet_fares p0_marsh_fleet_count p0_marsh_fleet_nextNumber p0_marsh_fleet_total p0_marsh_fleet_removedFares p0_marsh_fleet_meetings p0_marsh_plans_moves p0_marsh_plans_lengths p0_marsh_landings_cells p0_marsh_landings_count p0_marsh_fogSide p0_snapshot_reeds_states p0_snapshot_reeds_count p0_snapshot_reeds_broken p0_snapshot_fleet_numbers p0_snapshot_fleet_cells p0_snapshot_fleet_fares p0_snapshot_fleet_count p0_snapshot_fleet_nextNumber p0_snapshot_fleet_total p0_snapshot_fleet_removedFares p0_snapshot_fleet_meetings p0_snapshot_plans_moves p0_snapshot_plans_lengths p0_snapshot_landings_cells p0_snapshot_landings_count p0_snapshot_fogSide p0_history_slots p0_history_free p0_history_count p0_ways_tolls p0_ways_queue p0_ways_heap p0_ways_heapSize p0_ways_found p0_ways_improved p0_pairing_costs p0_pairing_best p0_reader_kinds p0_reader_starts p0_reader_count p0_commandText_signs p0_commandText_length p0_line_signs p0_line_length p0_spareMoves p0_snapshotTaken p0_lastErrorPosition p0_lastFailedCommand) (hp_p4 : (a4, (.inl (G.2 3, 1, .inr (.inl p4)) : va_E)) ∈ w) (hd0 : b0 + 152 ≤ a4 ∨ a4 + 1 ≤ b0) : Met l yL_wayCostByRounds (Cond.codeWith yL_wayCostByRounds cL_wayCostByRounds 6 (some .int) [(0, 12, 15, 20), (0, 12, 19, 13)] :: gAll) ({ frames := 9, cells := 3, slots := 18, locals := 167 }) (va_Pc [.ref b0, .int x1, .int x2, .int x3, .ref a4] (mm_Pre G w sz)) (mm_Qi G w sz (fun r w' => r = X.1 ∧ At12 G w' b0 p0_marsh_reeds_states p0_marsh_reeds_count p0_marsh_reeds_broken p0_marsh_fleet_numbers p0_marsh_fleet_cells p0_marsh_fleet_fares p0_marsh_fleet_count p0_marsh_fleet_nextNumber p0_marsh_fleet_total p0_marsh_fleet_removedFares p0_marsh_fleet_meetings p0_marsh_plans_moves p0_marsh_plans_lengths p0_marsh_landings_cells p0_marsh_landings_count p0_marsh_fogSide p0_snapshot_reeds_states p0_snapshot_reeds_count p0_snapshot_reeds_broken p0_snapshot_fleet_numbers p0_snapshot_fleet_cells p0_snapshot_fleet_fares p0_snapshot_fleet_count p0_snapshot_fleet_nextNumber p0_snapshot_fleet_total p0_snapshot_fleet_removedFares p0_snapshot_fleet_meetings p0_snapshot_plans_moves p0_snapshot_plans_lengths p0_snapshot_landings_cells p0_snapshot_landings_count p0_snapshot_fogSide p0_history_slots p0_history_free p0_history_count X.2.1 p0_ways_queue p0_ways_heap p0_ways_heapSize p0_ways_found X.2.2.1 p0_pairing_costs p0_pairing_best p0_reader_kinds p0_reader_starts p0_reader_count p0_commandText_signs p0_commandText_length p0_line_signs p0_line_length p0_spareMoves p0_snapshotTaken p0_lastErrorPosition p0_lastFailedCommand ∧ (a4, (.inl (G.2 3, 1, .inr (.inl X.2.2.2)) : va_E)) ∈ w' ∧ mm_fr2 w w' b0 (b0 + 152) a4 (a4 + 1))) 3 18 (va_A w sz) := by
  refine mm_hhead hfl [.ref b0, .int x1, .int x2, .int x3, .ref a4] (by decide +kernel) rfl (Nat.le_of_ble_eq_true rfl) ?_
  intro p e s m args below meth c A Q hsz hC hM hret hxt ls hl
  have hx := hC.1.1
  have hb := hC.1.2.1
  have hl : lv_has ls 6 [(0, .ref b0), (1, .int x1), (2, .int x2), (3, .int x3), (4, .ref a4)] := hl
  have hF : mm_fr2 w w b0 (b0 + 152) a4 (a4 + 1) := mm_fr2.rf
  rw [f_L_wayCostByRounds] at hf
  refine lv_aload hx hb dL_wayCostByRounds_0 (lv_at hl 4 rfl) ?_
  refine lv_iconst (v := 0) hx hb dL_wayCostByRounds_2 (by decide) ?_
  refine lv_aload_n hx hb dL_wayCostByRounds_3 rfl (lv_at hl 0 rfl) ?_
  refine lv_iload_n hx hb dL_wayCostByRounds_4 rfl (lv_at hl 1 rfl) ?_
  refine lv_iload_n hx hb dL_wayCostByRounds_5 rfl (lv_at hl 2 rfl) ?_
  refine lv_iload_n hx hb dL_wayCostByRounds_6 rfl (lv_at hl 3 rfl) ?_
  obtain ⟨q7, hq7, hf⟩ := mm_bd hf
  refine mm_xVi (rest := [.int 0, .ref a4]) hC hM (c_X12_wayCostByRounds l hfl hq7 hp_p0) q5_137 q1_1 ykX12_wayCostByRounds q5_134 q5_135 q5_136 hp_p0.1 rfl ⟨rfl, rfl⟩ ⟨Nat.le_of_ble_eq_true rfl, Nat.le_of_ble_eq_true rfl⟩ rfl hl.1 rfl (Nat.le_of_ble_eq_true rfl) dL_wayCostByRounds_7 ⟨Nat.le_of_ble_eq_true rfl, Nat.le_of_ble_eq_true rfl⟩ (fun E ce qE w7 H locs hM hw hqE hv9 hcl9 => ?_) (fun r w7 H locs hM hw => ?_)
  · obtain ⟨hne, hE, hn_this, hfr⟩ := hw
    rw [if_neg hne] at hf
    by_cases hk0 : q7.1 = 2
    · rw [if_pos hk0] at hf
      have hEk : E = mm_ex 2 := by rw [hE, hk0]
      subst hEk
      have hp_p4 := hfr.keep hp_p4 (by omega)
      have hp_p0 := hn_this
      have hF := hF.tr (hfr.l (by omega) (by omega))
      refine vx_catch hC.1.2.2.2.1 [] ⟨0, 12, 15, 20⟩ [⟨0, 12, 19, 13⟩] hxt (fun z hz => absurd hz List.not_mem_nil) rfl (by decide) (hC.1.2.2.2.2 _ q4_51) (va_Nw.use rfl (hC.2.2.1.1.1 _ nw_castable_2)) hqE hv9 hcl9 ?_
      refine lv_astore (lv' := [(5, .ref qE), (0, .ref b0), (1, .int x1), (2, .int x2), (3, .int x3), (4, .ref a4)]) hx hb dL_wayCostByRounds_15 hl (by decide) rfl (fun ls hl => ?_)
      refine lv_iconst (v := 1) hx hb dL_wayCostByRounds_17 (by decide) ?_
      cases hf
      exact hret hM dL_wayCostByRounds_18 rfl ⟨rfl, hp_p0, hp_p4, hF⟩ (Nat.le_of_ble_eq_true rfl) (Nat.le_of_ble_eq_true rfl)
    rw [if_neg hk0] at hf
    by_cases hk1 : q7.1 = 1
    · rw [if_pos hk1] at hf
      have hEk : E = mm_ex 1 := by rw [hE, hk1]
      subst hEk
      have hp_p4 := hfr.keep hp_p4 (by omega)
      have hp_p0 := hn_this
      have hF := hF.tr (hfr.l (by omega) (by omega))
      refine vx_catch hC.1.2.2.2.1 [⟨0, 12, 15, 20⟩] ⟨0, 12, 19, 13⟩ [] hxt (List.forall_mem_cons.mpr ⟨Or.inr ⟨by decide, _, (hC.1.2.2.2.2 _ q4_51), hC.2.2.1.1.2.2 1 2 (by decide) (by decide) (by decide) (by decide) (by decide)⟩, (fun z hz => absurd hz List.not_mem_nil)⟩) rfl (by decide) (hC.1.2.2.2.2 _ q3_90) (va_Nw.use rfl (hC.2.2.1.1.1 _ nw_castable_1)) hqE hv9 hcl9 ?_
      refine lv_astore (lv' := [(5, .ref qE), (0, .ref b0), (1, .int x1), (2, .int x2), (3, .int x3), (4, .ref a4)]) hx hb dL_wayCostByRounds_19 hl (by decide) rfl (fun ls hl => ?_)
      refine lv_iconst (v := 2) hx hb dL_wayCostByRounds_21 (by decide) ?_
      cases hf
      exact hret hM dL_wayCostByRounds_22 rfl ⟨rfl, hp_p0, hp_p4, hF⟩ (Nat.le_of_ble_eq_true rfl) (Nat.le_of_ble_eq_true rfl)
    rw [if_neg hk1] at hf
    cases hf
  obtain ⟨h0, hr, hn_this, hfr⟩ := hw
  rw [if_pos h0] at hf
  rw [hr]
  have hp_p4 := hfr.keep hp_p4 (by omega)
  have hp_p0 := hn_this
  have hF := hF.tr (hfr.l (by omega) (by omega))
  refine lv_i2l hx hb dL_wayCostByRounds_10 rfl ?_
  refine mm_last0 hC hM hp_p4 dL_wayCostByRounds_11 (fun w11 H locs hM hm => ?_)
  have hp_p0 := hp_p0.up hm (by omega)
  have hp_p4 := hm.1
  have hF := hF.tr (hm.r (by omega) (by omega))
  refine lv_goto (tgt := 23) hx hb dL_wayCostByRounds_12 (by decide) ?_
  refine lv_iconst (v := 0) hx hb dL_wayCostByRounds_23 (by decide) ?_
  cases hf
  exact hret hM dL_wayCostByRounds_24 rfl ⟨rfl, hp_p0, hp_p4, hF⟩ (Nat.le_of_ble_eq_true rfl) (Nat.le_of_ble_eq_true rfl)
def f_L_breakingEffort (K : Nat) (p0_marsh_reeds_states : Nat → Int32) (p0_marsh_fleet_numbers : Nat → Int32) (p0_marsh_fleet_cells : Nat → Int32) (p0_marsh_fleet_count : Int32) (p0_ways_tolls : Nat → Int32) (p0_ways_heap : Nat → Int32) (p0_ways_heapSize : Int32) (p0_ways_found : Nat → Int32) (p4 : Nat → Int64) (x1 : Int32) (x2 : Int32) (x3 : Int32) : Option (Int32 × (Nat → Int32) × (Nat → Int32) × Int32 × (Nat → Int32) × (Nat → Int64)) := (f_X12_breakingEffort K p0_marsh_reeds_states p0_marsh_fleet_numbers p0_marsh_fleet_cells p0_marsh_fleet_count p0_ways_tolls p0_ways_heap p0_ways_heapSize p0_ways_found x1 x2 x3).bind fun q7 => if q7.1 = 0 then some (0, q7.2.2.1, q7.2.2.2.1, q7.2.2.2.2.1, q7.2.2.2.2.2, (vp_updL p4 0 q7.2.1.toInt64)) else if q7.1 = 2 then some (1, q7.2.2.1, q7.2.2.2.1, q7.2.2.2.2.1, q7.2.2.2.2.2, p4) else if q7.1 = 1 then some (2, q7.2.2.1, q7.2.2.2.1, q7.2.2.2.2.1, q7.2.2.2.2.2, p4) else none
set_option maxHeartbeats 4000000 in
set_option maxRecDepth 100000 in
theorem c_L_breakingEffort (l : Launch) (hfl : l.stackTraces = false) {G : mm_G} {K : Nat} {w : va_W} {sz : Nat} {b0 : Nat} {a4 : Nat} {p0_marsh_reeds_states : Nat → Int32} {p0_marsh_reeds_count : Int32} {p0_marsh_reeds_broken : Int32} {p0_marsh_fleet_numbers : Nat → Int32} {p0_marsh_fleet_cells : Nat → Int32} {p0_marsh_fleet_fares : Nat → Int32} {p0_marsh_fleet_count : Int32} {p0_marsh_fleet_nextNumber : Int32} {p0_marsh_fleet_total : Int32} {p0_marsh_fleet_removedFares : Int32} {p0_marsh_fleet_meetings : Int32} {p0_marsh_plans_moves : Nat → Int32} {p0_marsh_plans_lengths : Nat → Int32} {p0_marsh_landings_cells : Nat → Int32} {p0_marsh_landings_count : Int32} {p0_marsh_fogSide : Int32} {p0_snapshot_reeds_states : Nat → Int32} {p0_snapshot_reeds_count : Int32} {p0_snapshot_reeds_broken : Int32} {p0_snapshot_fleet_numbers : Nat → Int32} {p0_snapshot_fleet_cells : Nat → Int32} {p0_snapshot_fleet_fares : Nat → Int32} {p0_snapshot_fleet_count : Int32} {p0_snapshot_fleet_nextNumber : Int32} {p0_snapshot_fleet_total : Int32} {p0_snapshot_fleet_removedFares : Int32} {p0_snapshot_fleet_meetings : Int32} {p0_snapshot_plans_moves : Nat → Int32} {p0_snapshot_plans_lengths : Nat → Int32} {p0_snapshot_landings_cells : Nat → Int32} {p0_snapshot_landings_count : Int32} {p0_snapshot_fogSide : Int32} {p0_history_slots : Nat → mm_MV} {p0_history_free : Int32} {p0_history_count : Int32} {p0_ways_tolls : Nat → Int32} {p0_ways_queue : Nat → Int32} {p0_ways_heap : Nat → Int32} {p0_ways_heapSize : Int32} {p0_ways_found : Nat → Int32} {p0_ways_improved : Nat → Int32} {p0_pairing_costs : Nat → Int32} {p0_pairing_best : Nat → Int32} {p0_reader_kinds : Nat → Int32} {p0_reader_starts : Nat → Int32} {p0_reader_count : Int32} {p0_commandText_signs : Nat → Int32} {p0_commandText_length : Int32} {p0_line_signs : Nat → Int32} {p0_line_length : Int32} {p0_spareMoves : Nat → Int32} {p0_snapshotTaken : Int32} {p0_lastErrorPosition : Int32} {p0_lastFailedCommand : Int32} {p4 : Nat → Int64} {x1 : Int32} {x2 : Int32} {x3 : Int32} {X : Int32 × (Nat → Int32) × (Nat → Int32) × Int32 × (Nat → Int32) × (Nat → Int64)} (hf : f_L_breakingEffort K p0_marsh_reeds_states p0_marsh_fleet_numbers p0_marsh_fleet_cells p0_marsh_fleet_count p0_ways_tolls p0_ways_heap p0_ways_heapSize p0_ways_found p4 x1 x2 x3 = some X) (hp_p0 : At12 G w b0 p0_marsh_reeds_states p0_marsh_reeds_count p0_marsh_reeds_broken p0_marsh_fleet_numbers p0_marsh_fleet_cells p0_marsh_fleet_fares p0_marsh_fleet_count p0_marsh_fleet_nextNumber p0_marsh_fleet_total p0_marsh_fleet_removedFares p0_marsh_fleet_meetings p0_marsh_plans_moves p0_marsh_plans_lengths p0_marsh_landings_cells p0_marsh_landings_count p0_marsh_fogSide p0_snapshot_reeds_states p0_snapshot_reeds_count p0_snapshot_reeds_broken p0_snapshot_fleet_numbers p0_snapshot_fleet_cells p0_snapshot_fleet_fares p0_snapshot_fleet_count p0_snapshot_fleet_nextNumber p0_snapshot_fleet_total p0_snapshot_fleet_removedFares p0_snapshot_fleet_meetings p0_snapshot_plans_moves p0_snapshot_plans_lengths p0_snapshot_landings_cells p0_snapshot_landings_count p0_snapshot_fogSide p0_history_slots p0_history_free p0_history_count p0_ways_tolls p0_ways_queue p0_ways_heap p0_ways_heapSize p0_ways_found p0_ways_improved p0_pairing_costs p0_pairing_best p0_reader_kinds p0_reader_starts p0_reader_count p0_commandText_signs p0_commandText_length p0_line_signs p0_line_length p0_spareMoves p0_snapshotTaken p0_lastErrorPosition p0_lastFailedCommand) (hp_p4 : (a4, (.inl (G.2 3, 1, .inr (.inl p4)) : va_E)) ∈ w) (hd0 : b0 + 152 ≤ a4 ∨ a4 + 1 ≤ b0) : Met l yL_breakingEffort (Cond.codeWith yL_breakingEffort cL_breakingEffort 6 (some .int) [(0, 12, 15, 20), (0, 12, 19, 13)] :: gAll) ({ frames := 9, cells := 2, slots := 12, locals := 167 }) (va_Pc [.ref b0, .int x1, .int x2, .int x3, .ref a4] (mm_Pre G w sz)) (mm_Qi G w sz (fun r w' => r = X.1 ∧ At12 G w' b0 p0_marsh_reeds_states p0_marsh_reeds_count p0_marsh_reeds_broken p0_marsh_fleet_numbers p0_marsh_fleet_cells p0_marsh_fleet_fares p0_marsh_fleet_count p0_marsh_fleet_nextNumber p0_marsh_fleet_total p0_marsh_fleet_removedFares p0_marsh_fleet_meetings p0_marsh_plans_moves p0_marsh_plans_lengths p0_marsh_landings_cells p0_marsh_landings_count p0_marsh_fogSide p0_snapshot_reeds_states p0_snapshot_reeds_count p0_snapshot_reeds_broken p0_snapshot_fleet_numbers p0_snapshot_fleet_cells p0_snapshot_fleet_fares p0_snapshot_fleet_count p0_snapshot_fleet_nextNumber p0_snapshot_fleet_total p0_snapshot_fleet_removedFares p0_snapshot_fleet_meetings p0_snapshot_plans_moves p0_snapshot_plans_lengths p0_snapshot_landings_cells p0_snapshot_landings_count p0_snapshot_fogSide p0_history_slots p0_history_free p0_history_count X.2.1 p0_ways_queue X.2.2.1 X.2.2.2.1 X.2.2.2.2.1 p0_ways_improved p0_pairing_costs p0_pairing_best p0_reader_kinds p0_reader_starts p0_reader_count p0_commandText_signs p0_commandText_length p0_line_signs p0_line_length p0_spareMoves p0_snapshotTaken p0_lastErrorPosition p0_lastFailedCommand ∧ (a4, (.inl (G.2 3, 1, .inr (.inl X.2.2.2.2.2)) : va_E)) ∈ w' ∧ mm_fr2 w w' b0 (b0 + 152) a4 (a4 + 1))) 2 12 (va_A w sz) := by
  refine mm_hhead hfl [.ref b0, .int x1, .int x2, .int x3, .ref a4] (by decide +kernel) rfl (Nat.le_of_ble_eq_true rfl) ?_
  intro p e s m args below meth c A Q hsz hC hM hret hxt ls hl
  have hx := hC.1.1
  have hb := hC.1.2.1
  have hl : lv_has ls 6 [(0, .ref b0), (1, .int x1), (2, .int x2), (3, .int x3), (4, .ref a4)] := hl
  have hF : mm_fr2 w w b0 (b0 + 152) a4 (a4 + 1) := mm_fr2.rf
  rw [f_L_breakingEffort] at hf
  refine lv_aload hx hb dL_breakingEffort_0 (lv_at hl 4 rfl) ?_
  refine lv_iconst (v := 0) hx hb dL_breakingEffort_2 (by decide) ?_
  refine lv_aload_n hx hb dL_breakingEffort_3 rfl (lv_at hl 0 rfl) ?_
  refine lv_iload_n hx hb dL_breakingEffort_4 rfl (lv_at hl 1 rfl) ?_
  refine lv_iload_n hx hb dL_breakingEffort_5 rfl (lv_at hl 2 rfl) ?_
  refine lv_iload_n hx hb dL_breakingEffort_6 rfl (lv_at hl 3 rfl) ?_
  obtain ⟨q7, hq7, hf⟩ := mm_bd hf
  refine mm_xVi (rest := [.int 0, .ref a4]) hC hM (c_X12_breakingEffort l hfl hq7 hp_p0) q5_144 q1_1 ykX12_breakingEffort q5_141 q5_142 q5_143 hp_p0.1 rfl ⟨rfl, rfl⟩ ⟨Nat.le_of_ble_eq_true rfl, Nat.le_of_ble_eq_true rfl⟩ rfl hl.1 rfl (Nat.le_of_ble_eq_true rfl) dL_breakingEffort_7 ⟨Nat.le_of_ble_eq_true rfl, Nat.le_of_ble_eq_true rfl⟩ (fun E ce qE w7 H locs hM hw hqE hv9 hcl9 => ?_) (fun r w7 H locs hM hw => ?_)
  · obtain ⟨hne, hE, hn_this, hfr⟩ := hw
    rw [if_neg hne] at hf
    by_cases hk0 : q7.1 = 2
    · rw [if_pos hk0] at hf
      have hEk : E = mm_ex 2 := by rw [hE, hk0]
      subst hEk
      have hp_p4 := hfr.keep hp_p4 (by omega)
      have hp_p0 := hn_this
      have hF := hF.tr (hfr.l (by omega) (by omega))
      refine vx_catch hC.1.2.2.2.1 [] ⟨0, 12, 15, 20⟩ [⟨0, 12, 19, 13⟩] hxt (fun z hz => absurd hz List.not_mem_nil) rfl (by decide) (hC.1.2.2.2.2 _ q4_51) (va_Nw.use rfl (hC.2.2.1.1.1 _ nw_castable_2)) hqE hv9 hcl9 ?_
      refine lv_astore (lv' := [(5, .ref qE), (0, .ref b0), (1, .int x1), (2, .int x2), (3, .int x3), (4, .ref a4)]) hx hb dL_breakingEffort_15 hl (by decide) rfl (fun ls hl => ?_)
      refine lv_iconst (v := 1) hx hb dL_breakingEffort_17 (by decide) ?_
      cases hf
      exact hret hM dL_breakingEffort_18 rfl ⟨rfl, hp_p0, hp_p4, hF⟩ (Nat.le_of_ble_eq_true rfl) (Nat.le_of_ble_eq_true rfl)
    rw [if_neg hk0] at hf
    by_cases hk1 : q7.1 = 1
    · rw [if_pos hk1] at hf
      have hEk : E = mm_ex 1 := by rw [hE, hk1]
      subst hEk
      have hp_p4 := hfr.keep hp_p4 (by omega)
      have hp_p0 := hn_this
      have hF := hF.tr (hfr.l (by omega) (by omega))
      refine vx_catch hC.1.2.2.2.1 [⟨0, 12, 15, 20⟩] ⟨0, 12, 19, 13⟩ [] hxt (List.forall_mem_cons.mpr ⟨Or.inr ⟨by decide, _, (hC.1.2.2.2.2 _ q4_51), hC.2.2.1.1.2.2 1 2 (by decide) (by decide) (by decide) (by decide) (by decide)⟩, (fun z hz => absurd hz List.not_mem_nil)⟩) rfl (by decide) (hC.1.2.2.2.2 _ q3_90) (va_Nw.use rfl (hC.2.2.1.1.1 _ nw_castable_1)) hqE hv9 hcl9 ?_
      refine lv_astore (lv' := [(5, .ref qE), (0, .ref b0), (1, .int x1), (2, .int x2), (3, .int x3), (4, .ref a4)]) hx hb dL_breakingEffort_19 hl (by decide) rfl (fun ls hl => ?_)
      refine lv_iconst (v := 2) hx hb dL_breakingEffort_21 (by decide) ?_
      cases hf
      exact hret hM dL_breakingEffort_22 rfl ⟨rfl, hp_p0, hp_p4, hF⟩ (Nat.le_of_ble_eq_true rfl) (Nat.le_of_ble_eq_true rfl)
    rw [if_neg hk1] at hf
    cases hf
  obtain ⟨h0, hr, hn_this, hfr⟩ := hw
  rw [if_pos h0] at hf
  rw [hr]
  have hp_p4 := hfr.keep hp_p4 (by omega)
  have hp_p0 := hn_this
  have hF := hF.tr (hfr.l (by omega) (by omega))
  refine lv_i2l hx hb dL_breakingEffort_10 rfl ?_
  refine mm_last0 hC hM hp_p4 dL_breakingEffort_11 (fun w11 H locs hM hm => ?_)
  have hp_p0 := hp_p0.up hm (by omega)
  have hp_p4 := hm.1
  have hF := hF.tr (hm.r (by omega) (by omega))
  refine lv_goto (tgt := 23) hx hb dL_breakingEffort_12 (by decide) ?_
  refine lv_iconst (v := 0) hx hb dL_breakingEffort_23 (by decide) ?_
  cases hf
  exact hret hM dL_breakingEffort_24 rfl ⟨rfl, hp_p0, hp_p4, hF⟩ (Nat.le_of_ble_eq_true rfl) (Nat.le_of_ble_eq_true rfl)
def f_L_planWay (K : Nat) (p0_marsh_reeds_states : Nat → Int32) (p0_marsh_reeds_count : Int32) (p0_marsh_reeds_broken : Int32) (p0_marsh_fleet_numbers : Nat → Int32) (p0_marsh_fleet_cells : Nat → Int32) (p0_marsh_fleet_fares : Nat → Int32) (p0_marsh_fleet_count : Int32) (p0_marsh_fleet_nextNumber : Int32) (p0_marsh_fleet_total : Int32) (p0_marsh_fleet_removedFares : Int32) (p0_marsh_fleet_meetings : Int32) (p0_marsh_plans_moves : Nat → Int32) (p0_marsh_plans_lengths : Nat → Int32) (p0_marsh_landings_cells : Nat → Int32) (p0_marsh_landings_count : Int32) (p0_marsh_fogSide : Int32) (p0_history_slots : Nat → mm_MV) (p0_history_free : Int32) (p0_history_count : Int32) (p0_ways_tolls : Nat → Int32) (p0_ways_queue : Nat → Int32) (p0_ways_found : Nat → Int32) (p5 : Nat → Int64) (x1 : Int32) (x2 : Int32) (x3 : Int32) (x4 : Int32) : Option (Int32 × (Nat → Int32) × (Nat → Int32) × (Nat → mm_MV) × Int32 × Int32 × (Nat → Int32) × (Nat → Int32) × (Nat → Int32) × (Nat → Int64)) := (f_X12_planWay K p0_marsh_reeds_states p0_marsh_reeds_count p0_marsh_reeds_broken p0_marsh_fleet_numbers p0_marsh_fleet_cells p0_marsh_fleet_fares p0_marsh_fleet_count p0_marsh_fleet_nextNumber p0_marsh_fleet_total p0_marsh_fleet_removedFares p0_marsh_fleet_meetings p0_marsh_plans_moves p0_marsh_plans_lengths p0_marsh_landings_cells p0_marsh_landings_count p0_marsh_fogSide p0_history_slots p0_history_free p0_history_count p0_ways_tolls p0_ways_queue p0_ways_found x1 x2 x3 x4).bind fun q9 => if q9.1 = 0 then some (0, q9.2.2.1, q9.2.2.2.1, q9.2.2.2.2.1, q9.2.2.2.2.2.1, q9.2.2.2.2.2.2.1, q9.2.2.2.2.2.2.2.1, q9.2.2.2.2.2.2.2.2.1, q9.2.2.2.2.2.2.2.2.2, (vp_updL p5 0 q9.2.1.toInt64)) else if q9.1 = 2 then some (1, q9.2.2.1, q9.2.2.2.1, q9.2.2.2.2.1, q9.2.2.2.2.2.1, q9.2.2.2.2.2.2.1, q9.2.2.2.2.2.2.2.1, q9.2.2.2.2.2.2.2.2.1, q9.2.2.2.2.2.2.2.2.2, p5) else if q9.1 = 1 then some (2, q9.2.2.1, q9.2.2.2.1, q9.2.2.2.2.1, q9.2.2.2.2.2.1, q9.2.2.2.2.2.2.1, q9.2.2.2.2.2.2.2.1, q9.2.2.2.2.2.2.2.2.1, q9.2.2.2.2.2.2.2.2.2, p5) else if q9.1 = 3 then some (3, q9.2.2.1, q9.2.2.2.1, q9.2.2.2.2.1, q9.2.2.2.2.2.1, q9.2.2.2.2.2.2.1, q9.2.2.2.2.2.2.2.1, q9.2.2.2.2.2.2.2.2.1, q9.2.2.2.2.2.2.2.2.2, p5) else none
set_option maxHeartbeats 4000000 in
set_option maxRecDepth 100000 in
theorem c_L_planWay (l : Launch) (hfl : l.stackTraces = false) {G : mm_G} {K : Nat} {w : va_W} {sz : Nat} {b0 : Nat} {a5 : Nat} {p0_marsh_reeds_states : Nat → Int32} {p0_marsh_reeds_count : Int32} {p0_marsh_reeds_broken : Int32} {p0_marsh_fleet_numbers : Nat → Int32} {p0_marsh_fleet_cells : Nat → Int32} {p0_marsh_fleet_fares : Nat → Int32} {p0_marsh_fleet_count : Int32} {p0_marsh_fleet_nextNumber : Int32} {p0_marsh_fleet_total : Int32} {p0_marsh_fleet_removedFares : Int32} {p0_marsh_fleet_meetings : Int32} {p0_marsh_plans_moves : Nat → Int32} {p0_marsh_plans_lengths : Nat → Int32} {p0_marsh_landings_cells : Nat → Int32} {p0_marsh_landings_count : Int32} {p0_marsh_fogSide : Int32} {p0_snapshot_reeds_states : Nat → Int32} {p0_snapshot_reeds_count : Int32} {p0_snapshot_reeds_broken : Int32} {p0_snapshot_fleet_numbers : Nat → Int32} {p0_snapshot_fleet_cells : Nat → Int32} {p0_snapshot_fleet_fares : Nat → Int32} {p0_snapshot_fleet_count : Int32} {p0_snapshot_fleet_nextNumber : Int32} {p0_snapshot_fleet_total : Int32} {p0_snapshot_fleet_removedFares : Int32} {p0_snapshot_fleet_meetings : Int32} {p0_snapshot_plans_moves : Nat → Int32} {p0_snapshot_plans_lengths : Nat → Int32} {p0_snapshot_landings_cells : Nat → Int32} {p0_snapshot_landings_count : Int32} {p0_snapshot_fogSide : Int32} {p0_history_slots : Nat → mm_MV} {p0_history_free : Int32} {p0_history_count : Int32} {p0_ways_tolls : Nat → Int32} {p0_ways_queue : Nat → Int32} {p0_ways_heap : Nat → Int32} {p0_ways_heapSize : Int32} {p0_ways_found : Nat → Int32} {p0_ways_improved : Nat → Int32} {p0_pairing_costs : Nat → Int32} {p0_pairing_best : Nat → Int32} {p0_reader_kinds : Nat → Int32} {p0_reader_starts : Nat → Int32} {p0_reader_count : Int32} {p0_commandText_signs : Nat → Int32} {p0_commandText_length : Int32} {p0_line_signs : Nat → Int32} {p0_line_length : Int32} {p0_spareMoves : Nat → Int32} {p0_snapshotTaken : Int32} {p0_lastErrorPosition : Int32} {p0_lastFailedCommand : Int32} {p5 : Nat → Int64} {x1 : Int32} {x2 : Int32} {x3 : Int32} {x4 : Int32} {X : Int32 × (Nat → Int32) × (Nat → Int32) × (Nat → mm_MV) × Int32 × Int32 × (Nat → Int32) × (Nat → Int32) × (Nat → Int32) × (Nat → Int64)} (hf : f_L_planWay K p0_marsh_reeds_states p0_marsh_reeds_count p0_marsh_reeds_broken p0_marsh_fleet_numbers p0_marsh_fleet_cells p0_marsh_fleet_fares p0_marsh_fleet_count p0_marsh_fleet_nextNumber p0_marsh_fleet_total p0_marsh_fleet_removedFares p0_marsh_fleet_meetings p0_marsh_plans_moves p0_marsh_plans_lengths p0_marsh_landings_cells p0_marsh_landings_count p0_marsh_fogSide p0_history_slots p0_history_free p0_history_count p0_ways_tolls p0_ways_queue p0_ways_found p5 x1 x2 x3 x4 = some X) (hp_p0 : At12 G w b0 p0_marsh_reeds_states p0_marsh_reeds_count p0_marsh_reeds_broken p0_marsh_fleet_numbers p0_marsh_fleet_cells p0_marsh_fleet_fares p0_marsh_fleet_count p0_marsh_fleet_nextNumber p0_marsh_fleet_total p0_marsh_fleet_removedFares p0_marsh_fleet_meetings p0_marsh_plans_moves p0_marsh_plans_lengths p0_marsh_landings_cells p0_marsh_landings_count p0_marsh_fogSide p0_snapshot_reeds_states p0_snapshot_reeds_count p0_snapshot_reeds_broken p0_snapshot_fleet_numbers p0_snapshot_fleet_cells p0_snapshot_fleet_fares p0_snapshot_fleet_count p0_snapshot_fleet_nextNumber p0_snapshot_fleet_total p0_snapshot_fleet_removedFares p0_snapshot_fleet_meetings p0_snapshot_plans_moves p0_snapshot_plans_lengths p0_snapshot_landings_cells p0_snapshot_landings_count p0_snapshot_fogSide p0_history_slots p0_history_free p0_history_count p0_ways_tolls p0_ways_queue p0_ways_heap p0_ways_heapSize p0_ways_found p0_ways_improved p0_pairing_costs p0_pairing_best p0_reader_kinds p0_reader_starts p0_reader_count p0_commandText_signs p0_commandText_length p0_line_signs p0_line_length p0_spareMoves p0_snapshotTaken p0_lastErrorPosition p0_lastFailedCommand) (hp_p5 : (a5, (.inl (G.2 3, 1, .inr (.inl p5)) : va_E)) ∈ w) (hd0 : b0 + 152 ≤ a5 ∨ a5 + 1 ≤ b0) : Met l yL_planWay (Cond.codeWith yL_planWay cL_planWay 7 (some .int) [(0, 14, 17, 20), (0, 14, 21, 13), (0, 14, 25, 15)] :: gAll) ({ frames := 9, cells := 1, slots := 6, locals := 165 }) (va_Pc [.ref b0, .int x1, .int x2, .int x3, .int x4, .ref a5] (mm_Pre G w sz)) (mm_Qi G w sz (fun r w' => r = X.1 ∧ At12 G w' b0 p0_marsh_reeds_states p0_marsh_reeds_count p0_marsh_reeds_broken p0_marsh_fleet_numbers p0_marsh_fleet_cells p0_marsh_fleet_fares p0_marsh_fleet_count p0_marsh_fleet_nextNumber p0_marsh_fleet_total p0_marsh_fleet_removedFares p0_marsh_fleet_meetings X.2.1 X.2.2.1 p0_marsh_landings_cells p0_marsh_landings_count p0_marsh_fogSide p0_snapshot_reeds_states p0_snapshot_reeds_count p0_snapshot_reeds_broken p0_snapshot_fleet_numbers p0_snapshot_fleet_cells p0_snapshot_fleet_fares p0_snapshot_fleet_count p0_snapshot_fleet_nextNumber p0_snapshot_fleet_total p0_snapshot_fleet_removedFares p0_snapshot_fleet_meetings p0_snapshot_plans_moves p0_snapshot_plans_lengths p0_snapshot_landings_cells p0_snapshot_landings_count p0_snapshot_fogSide X.2.2.2.1 X.2.2.2.2.1 X.2.2.2.2.2.1 X.2.2.2.2.2.2.1 X.2.2.2.2.2.2.2.1 p0_ways_heap p0_ways_heapSize X.2.2.2.2.2.2.2.2.1 p0_ways_improved p0_pairing_costs p0_pairing_best p0_reader_kinds p0_reader_starts p0_reader_count p0_commandText_signs p0_commandText_length p0_line_signs p0_line_length p0_spareMoves p0_snapshotTaken p0_lastErrorPosition p0_lastFailedCommand ∧ (a5, (.inl (G.2 3, 1, .inr (.inl X.2.2.2.2.2.2.2.2.2)) : va_E)) ∈ w' ∧ mm_fr2 w w' b0 (b0 + 152) a5 (a5 + 1))) 1 6 (va_A w sz) := by
  refine mm_hhead hfl [.ref b0, .int x1, .int x2, .int x3, .int x4, .ref a5] (by decide +kernel) rfl (Nat.le_of_ble_eq_true rfl) ?_
  intro p e s m args below meth c A Q hsz hC hM hret hxt ls hl
  have hx := hC.1.1
  have hb := hC.1.2.1
  have hl : lv_has ls 7 [(0, .ref b0), (1, .int x1), (2, .int x2), (3, .int x3), (4, .int x4), (5, .ref a5)] := hl
  have hF : mm_fr2 w w b0 (b0 + 152) a5 (a5 + 1) := mm_fr2.rf
  rw [f_L_planWay] at hf
  refine lv_aload hx hb dL_planWay_0 (lv_at hl 5 rfl) ?_
  refine lv_iconst (v := 0) hx hb dL_planWay_2 (by decide) ?_
  refine lv_aload_n hx hb dL_planWay_3 rfl (lv_at hl 0 rfl) ?_
  refine lv_iload_n hx hb dL_planWay_4 rfl (lv_at hl 1 rfl) ?_
  refine lv_iload_n hx hb dL_planWay_5 rfl (lv_at hl 2 rfl) ?_
  refine lv_iload_n hx hb dL_planWay_6 rfl (lv_at hl 3 rfl) ?_
  refine lv_iload hx hb dL_planWay_7 (lv_at hl 4 rfl) ?_
  obtain ⟨q9, hq9, hf⟩ := mm_bd hf
  refine mm_xVi (rest := [.int 0, .ref a5]) hC hM (c_X12_planWay l hfl hq9 hp_p0) q5_159 q1_1 ykX12_planWay q5_156 q5_157 q5_158 hp_p0.1 rfl ⟨rfl, rfl⟩ ⟨Nat.le_of_ble_eq_true rfl, Nat.le_of_ble_eq_true rfl⟩ rfl hl.1 rfl (Nat.le_of_ble_eq_true rfl) dL_planWay_9 ⟨Nat.le_of_ble_eq_true rfl, Nat.le_of_ble_eq_true rfl⟩ (fun E ce qE w9 H locs hM hw hqE hv9 hcl9 => ?_) (fun r w9 H locs hM hw => ?_)
  · obtain ⟨hne, hE, hn_this, hfr⟩ := hw
    rw [if_neg hne] at hf
    by_cases hk0 : q9.1 = 2
    · rw [if_pos hk0] at hf
      have hEk : E = mm_ex 2 := by rw [hE, hk0]
      subst hEk
      have hp_p5 := hfr.keep hp_p5 (by omega)
      have hp_p0 := hn_this
      have hF := hF.tr (hfr.l (by omega) (by omega))
      refine vx_catch hC.1.2.2.2.1 [] ⟨0, 14, 17, 20⟩ [⟨0, 14, 21, 13⟩, ⟨0, 14, 25, 15⟩] hxt (fun z hz => absurd hz List.not_mem_nil) rfl (by decide) (hC.1.2.2.2.2 _ q4_51) (va_Nw.use rfl (hC.2.2.1.1.1 _ nw_castable_2)) hqE hv9 hcl9 ?_
      refine lv_astore (lv' := [(6, .ref qE), (0, .ref b0), (1, .int x1), (2, .int x2), (3, .int x3), (4, .int x4), (5, .ref a5)]) hx hb dL_planWay_17 hl (by decide) rfl (fun ls hl => ?_)
      refine lv_iconst (v := 1) hx hb dL_planWay_19 (by decide) ?_
      cases hf
      exact hret hM dL_planWay_20 rfl ⟨rfl, hp_p0, hp_p5, hF⟩ (Nat.le_of_ble_eq_true rfl) (Nat.le_of_ble_eq_true rfl)
    rw [if_neg hk0] at hf
    by_cases hk1 : q9.1 = 1
    · rw [if_pos hk1] at hf
      have hEk : E = mm_ex 1 := by rw [hE, hk1]
      subst hEk
      have hp_p5 := hfr.keep hp_p5 (by omega)
      have hp_p0 := hn_this
      have hF := hF.tr (hfr.l (by omega) (by omega))
      refine vx_catch hC.1.2.2.2.1 [⟨0, 14, 17, 20⟩] ⟨0, 14, 21, 13⟩ [⟨0, 14, 25, 15⟩] hxt (List.forall_mem_cons.mpr ⟨Or.inr ⟨by decide, _, (hC.1.2.2.2.2 _ q4_51), hC.2.2.1.1.2.2 1 2 (by decide) (by decide) (by decide) (by decide) (by decide)⟩, (fun z hz => absurd hz List.not_mem_nil)⟩) rfl (by decide) (hC.1.2.2.2.2 _ q3_90) (va_Nw.use rfl (hC.2.2.1.1.1 _ nw_castable_1)) hqE hv9 hcl9 ?_
      refine lv_astore (lv' := [(6, .ref qE), (0, .ref b0), (1, .int x1), (2, .int x2), (3, .int x3), (4, .int x4), (5, .ref a5)]) hx hb dL_planWay_21 hl (by decide) rfl (fun ls hl => ?_)
      refine lv_iconst (v := 2) hx hb dL_planWay_23 (by decide) ?_
      cases hf
      exact hret hM dL_planWay_24 rfl ⟨rfl, hp_p0, hp_p5, hF⟩ (Nat.le_of_ble_eq_true rfl) (Nat.le_of_ble_eq_true rfl)
    rw [if_neg hk1] at hf
    by_cases hk2 : q9.1 = 3
    · rw [if_pos hk2] at hf
      have hEk : E = mm_ex 3 := by rw [hE, hk2]
      subst hEk
      have hp_p5 := hfr.keep hp_p5 (by omega)
      have hp_p0 := hn_this
      have hF := hF.tr (hfr.l (by omega) (by omega))
      refine vx_catch hC.1.2.2.2.1 [⟨0, 14, 17, 20⟩, ⟨0, 14, 21, 13⟩] ⟨0, 14, 25, 15⟩ [] hxt (List.forall_mem_cons.mpr ⟨Or.inr ⟨by decide, _, (hC.1.2.2.2.2 _ q4_51), hC.2.2.1.1.2.2 3 2 (by decide) (by decide) (by decide) (by decide) (by decide)⟩, (List.forall_mem_cons.mpr ⟨Or.inr ⟨by decide, _, (hC.1.2.2.2.2 _ q3_90), hC.2.2.1.1.2.2 3 1 (by decide) (by decide) (by decide) (by decide) (by decide)⟩, (fun z hz => absurd hz List.not_mem_nil)⟩)⟩) rfl (by decide) (hC.1.2.2.2.2 _ q3_170) (va_Nw.use rfl (hC.2.2.1.1.1 _ nw_castable_3)) hqE hv9 hcl9 ?_
      refine lv_astore (lv' := [(6, .ref qE), (0, .ref b0), (1, .int x1), (2, .int x2), (3, .int x3), (4, .int x4), (5, .ref a5)]) hx hb dL_planWay_25 hl (by decide) rfl (fun ls hl => ?_)
      refine lv_iconst (v := 3) hx hb dL_planWay_27 (by decide) ?_
      cases hf
      exact hret hM dL_planWay_28 rfl ⟨rfl, hp_p0, hp_p5, hF⟩ (Nat.le_of_ble_eq_true rfl) (Nat.le_of_ble_eq_true rfl)
    rw [if_neg hk2] at hf
    cases hf
  obtain ⟨h0, hr, hn_this, hfr⟩ := hw
  rw [if_pos h0] at hf
  rw [hr]
  have hp_p5 := hfr.keep hp_p5 (by omega)
  have hp_p0 := hn_this
  have hF := hF.tr (hfr.l (by omega) (by omega))
  refine lv_i2l hx hb dL_planWay_12 rfl ?_
  refine mm_last0 hC hM hp_p5 dL_planWay_13 (fun w13 H locs hM hm => ?_)
  have hp_p0 := hp_p0.up hm (by omega)
  have hp_p5 := hm.1
  have hF := hF.tr (hm.r (by omega) (by omega))
  refine lv_goto (tgt := 29) hx hb dL_planWay_14 (by decide) ?_
  refine lv_iconst (v := 0) hx hb dL_planWay_29 (by decide) ?_
  cases hf
  exact hret hM dL_planWay_30 rfl ⟨rfl, hp_p0, hp_p5, hF⟩ (Nat.le_of_ble_eq_true rfl) (Nat.le_of_ble_eq_true rfl)
def f_L_addLanding (K : Nat) (p0_marsh_reeds_states : Nat → Int32) (p0_marsh_reeds_count : Int32) (p0_marsh_reeds_broken : Int32) (p0_marsh_fleet_numbers : Nat → Int32) (p0_marsh_fleet_cells : Nat → Int32) (p0_marsh_fleet_fares : Nat → Int32) (p0_marsh_fleet_count : Int32) (p0_marsh_fleet_nextNumber : Int32) (p0_marsh_fleet_total : Int32) (p0_marsh_fleet_removedFares : Int32) (p0_marsh_fleet_meetings : Int32) (p0_marsh_plans_moves : Nat → Int32) (p0_marsh_plans_lengths : Nat → Int32) (p0_marsh_landings_cells : Nat → Int32) (p0_marsh_landings_count : Int32) (p0_marsh_fogSide : Int32) (p0_history_slots : Nat → mm_MV) (p0_history_free : Int32) (p0_history_count : Int32) (p3 : Nat → Int64) (x1 : Int32) (x2 : Int32) : Option (Int32 × (Nat → Int32) × Int32 × (Nat → mm_MV) × Int32 × Int32 × (Nat → Int64)) := (f_X12_addLanding K p0_marsh_reeds_states p0_marsh_reeds_count p0_marsh_reeds_broken p0_marsh_fleet_numbers p0_marsh_fleet_cells p0_marsh_fleet_fares p0_marsh_fleet_count p0_marsh_fleet_nextNumber p0_marsh_fleet_total p0_marsh_fleet_removedFares p0_marsh_fleet_meetings p0_marsh_plans_moves p0_marsh_plans_lengths p0_marsh_landings_cells p0_marsh_landings_count p0_marsh_fogSide p0_history_slots p0_history_free p0_history_count x1 x2).bind fun q5 => if q5.1 = 0 then some (0, q5.2.2.1, q5.2.2.2.1, q5.2.2.2.2.1, q5.2.2.2.2.2.1, q5.2.2.2.2.2.2, (vp_updL p3 0 q5.2.1.toInt64)) else if q5.1 = 1 then some (1, q5.2.2.1, q5.2.2.2.1, q5.2.2.2.2.1, q5.2.2.2.2.2.1, q5.2.2.2.2.2.2, p3) else if q5.1 = 3 then some (2, q5.2.2.1, q5.2.2.2.1, q5.2.2.2.2.1, q5.2.2.2.2.2.1, q5.2.2.2.2.2.2, p3) else none
set_option maxHeartbeats 4000000 in
set_option maxRecDepth 100000 in
theorem c_L_addLanding (l : Launch) (hfl : l.stackTraces = false) {G : mm_G} {K : Nat} {w : va_W} {sz : Nat} {b0 : Nat} {a3 : Nat} {p0_marsh_reeds_states : Nat → Int32} {p0_marsh_reeds_count : Int32} {p0_marsh_reeds_broken : Int32} {p0_marsh_fleet_numbers : Nat → Int32} {p0_marsh_fleet_cells : Nat → Int32} {p0_marsh_fleet_fares : Nat → Int32} {p0_marsh_fleet_count : Int32} {p0_marsh_fleet_nextNumber : Int32} {p0_marsh_fleet_total : Int32} {p0_marsh_fleet_removedFares : Int32} {p0_marsh_fleet_meetings : Int32} {p0_marsh_plans_moves : Nat → Int32} {p0_marsh_plans_lengths : Nat → Int32} {p0_marsh_landings_cells : Nat → Int32} {p0_marsh_landings_count : Int32} {p0_marsh_fogSide : Int32} {p0_snapshot_reeds_states : Nat → Int32} {p0_snapshot_reeds_count : Int32} {p0_snapshot_reeds_broken : Int32} {p0_snapshot_fleet_numbers : Nat → Int32} {p0_snapshot_fleet_cells : Nat → Int32} {p0_snapshot_fleet_fares : Nat → Int32} {p0_snapshot_fleet_count : Int32} {p0_snapshot_fleet_nextNumber : Int32} {p0_snapshot_fleet_total : Int32} {p0_snapshot_fleet_removedFares : Int32} {p0_snapshot_fleet_meetings : Int32} {p0_snapshot_plans_moves : Nat → Int32} {p0_snapshot_plans_lengths : Nat → Int32} {p0_snapshot_landings_cells : Nat → Int32} {p0_snapshot_landings_count : Int32} {p0_snapshot_fogSide : Int32} {p0_history_slots : Nat → mm_MV} {p0_history_free : Int32} {p0_history_count : Int32} {p0_ways_tolls : Nat → Int32} {p0_ways_queue : Nat → Int32} {p0_ways_heap : Nat → Int32} {p0_ways_heapSize : Int32} {p0_ways_found : Nat → Int32} {p0_ways_improved : Nat → Int32} {p0_pairing_costs : Nat → Int32} {p0_pairing_best : Nat → Int32} {p0_reader_kinds : Nat → Int32} {p0_reader_starts : Nat → Int32} {p0_reader_count : Int32} {p0_commandText_signs : Nat → Int32} {p0_commandText_length : Int32} {p0_line_signs : Nat → Int32} {p0_line_length : Int32} {p0_spareMoves : Nat → Int32} {p0_snapshotTaken : Int32} {p0_lastErrorPosition : Int32} {p0_lastFailedCommand : Int32} {p3 : Nat → Int64} {x1 : Int32} {x2 : Int32} {X : Int32 × (Nat → Int32) × Int32 × (Nat → mm_MV) × Int32 × Int32 × (Nat → Int64)} (hf : f_L_addLanding K p0_marsh_reeds_states p0_marsh_reeds_count p0_marsh_reeds_broken p0_marsh_fleet_numbers p0_marsh_fleet_cells p0_marsh_fleet_fares p0_marsh_fleet_count p0_marsh_fleet_nextNumber p0_marsh_fleet_total p0_marsh_fleet_removedFares p0_marsh_fleet_meetings p0_marsh_plans_moves p0_marsh_plans_lengths p0_marsh_landings_cells p0_marsh_landings_count p0_marsh_fogSide p0_history_slots p0_history_free p0_history_count p3 x1 x2 = some X) (hp_p0 : At12 G w b0 p0_marsh_reeds_states p0_marsh_reeds_count p0_marsh_reeds_broken p0_marsh_fleet_numbers p0_marsh_fleet_cells p0_marsh_fleet_fares p0_marsh_fleet_count p0_marsh_fleet_nextNumber p0_marsh_fleet_total p0_marsh_fleet_removedFares p0_marsh_fleet_meetings p0_marsh_plans_moves p0_marsh_plans_lengths p0_marsh_landings_cells p0_marsh_landings_count p0_marsh_fogSide p0_snapshot_reeds_states p0_snapshot_reeds_count p0_snapshot_reeds_broken p0_snapshot_fleet_numbers p0_snapshot_fleet_cells p0_snapshot_fleet_fares p0_snapshot_fleet_count p0_snapshot_fleet_nextNumber p0_snapshot_fleet_total p0_snapshot_fleet_removedFares p0_snapshot_fleet_meetings p0_snapshot_plans_moves p0_snapshot_plans_lengths p0_snapshot_landings_cells p0_snapshot_landings_count p0_snapshot_fogSide p0_history_slots p0_history_free p0_history_count p0_ways_tolls p0_ways_queue p0_ways_heap p0_ways_heapSize p0_ways_found p0_ways_improved p0_pairing_costs p0_pairing_best p0_reader_kinds p0_reader_starts p0_reader_count p0_commandText_signs p0_commandText_length p0_line_signs p0_line_length p0_spareMoves p0_snapshotTaken p0_lastErrorPosition p0_lastFailedCommand) (hp_p3 : (a3, (.inl (G.2 3, 1, .inr (.inl p3)) : va_E)) ∈ w) (hd0 : b0 + 152 ≤ a3 ∨ a3 + 1 ≤ b0) : Met l yL_addLanding (Cond.codeWith yL_addLanding cL_addLanding 5 (some .int) [(0, 10, 13, 13), (0, 10, 17, 15)] :: gAll) ({ frames := 9, cells := 1, slots := 6, locals := 163 }) (va_Pc [.ref b0, .int x1, .int x2, .ref a3] (mm_Pre G w sz)) (mm_Qi G w sz (fun r w' => r = X.1 ∧ At12 G w' b0 p0_marsh_reeds_states p0_marsh_reeds_count p0_marsh_reeds_broken p0_marsh_fleet_numbers p0_marsh_fleet_cells p0_marsh_fleet_fares p0_marsh_fleet_count p0_marsh_fleet_nextNumber p0_marsh_fleet_total p0_marsh_fleet_removedFares p0_marsh_fleet_meetings p0_marsh_plans_moves p0_marsh_plans_lengths X.2.1 X.2.2.1 p0_marsh_fogSide p0_snapshot_reeds_states p0_snapshot_reeds_count p0_snapshot_reeds_broken p0_snapshot_fleet_numbers p0_snapshot_fleet_cells p0_snapshot_fleet_fares p0_snapshot_fleet_count p0_snapshot_fleet_nextNumber p0_snapshot_fleet_total p0_snapshot_fleet_removedFares p0_snapshot_fleet_meetings p0_snapshot_plans_moves p0_snapshot_plans_lengths p0_snapshot_landings_cells p0_snapshot_landings_count p0_snapshot_fogSide X.2.2.2.1 X.2.2.2.2.1 X.2.2.2.2.2.1 p0_ways_tolls p0_ways_queue p0_ways_heap p0_ways_heapSize p0_ways_found p0_ways_improved p0_pairing_costs p0_pairing_best p0_reader_kinds p0_reader_starts p0_reader_count p0_commandText_signs p0_commandText_length p0_line_signs p0_line_length p0_spareMoves p0_snapshotTaken p0_lastErrorPosition p0_lastFailedCommand ∧ (a3, (.inl (G.2 3, 1, .inr (.inl X.2.2.2.2.2.2)) : va_E)) ∈ w' ∧ mm_fr2 w w' b0 (b0 + 152) a3 (a3 + 1))) 1 6 (va_A w sz) := by
  refine mm_hhead hfl [.ref b0, .int x1, .int x2, .ref a3] (by decide +kernel) rfl (Nat.le_of_ble_eq_true rfl) ?_
  intro p e s m args below meth c A Q hsz hC hM hret hxt ls hl
  have hx := hC.1.1
  have hb := hC.1.2.1
  have hl : lv_has ls 5 [(0, .ref b0), (1, .int x1), (2, .int x2), (3, .ref a3)] := hl
  have hF : mm_fr2 w w b0 (b0 + 152) a3 (a3 + 1) := mm_fr2.rf
  rw [f_L_addLanding] at hf
  refine lv_aload_n hx hb dL_addLanding_0 rfl (lv_at hl 3 rfl) ?_
  refine lv_iconst (v := 0) hx hb dL_addLanding_1 (by decide) ?_
  refine lv_aload_n hx hb dL_addLanding_2 rfl (lv_at hl 0 rfl) ?_
  refine lv_iload_n hx hb dL_addLanding_3 rfl (lv_at hl 1 rfl) ?_
  refine lv_iload_n hx hb dL_addLanding_4 rfl (lv_at hl 2 rfl) ?_
  obtain ⟨q5, hq5, hf⟩ := mm_bd hf
  refine mm_xVi (rest := [.int 0, .ref a3]) hC hM (c_X12_addLanding l hfl hq5 hp_p0) q5_180 q1_1 ykX12_addLanding q5_177 q5_178 q5_179 hp_p0.1 rfl ⟨rfl, rfl⟩ ⟨Nat.le_of_ble_eq_true rfl, Nat.le_of_ble_eq_true rfl⟩ rfl hl.1 rfl (Nat.le_of_ble_eq_true rfl) dL_addLanding_5 ⟨Nat.le_of_ble_eq_true rfl, Nat.le_of_ble_eq_true rfl⟩ (fun E ce qE w5 H locs hM hw hqE hv9 hcl9 => ?_) (fun r w5 H locs hM hw => ?_)
  · obtain ⟨hne, hE, hn_this, hfr⟩ := hw
    rw [if_neg hne] at hf
    by_cases hk0 : q5.1 = 1
    · rw [if_pos hk0] at hf
      have hEk : E = mm_ex 1 := by rw [hE, hk0]
      subst hEk
      have hp_p3 := hfr.keep hp_p3 (by omega)
      have hp_p0 := hn_this
      have hF := hF.tr (hfr.l (by omega) (by omega))
      refine vx_catch hC.1.2.2.2.1 [] ⟨0, 10, 13, 13⟩ [⟨0, 10, 17, 15⟩] hxt (fun z hz => absurd hz List.not_mem_nil) rfl (by decide) (hC.1.2.2.2.2 _ q3_90) (va_Nw.use rfl (hC.2.2.1.1.1 _ nw_castable_1)) hqE hv9 hcl9 ?_
      refine lv_astore (lv' := [(4, .ref qE), (0, .ref b0), (1, .int x1), (2, .int x2), (3, .ref a3)]) hx hb dL_addLanding_13 hl (by decide) rfl (fun ls hl => ?_)
      refine lv_iconst (v := 1) hx hb dL_addLanding_15 (by decide) ?_
      cases hf
      exact hret hM dL_addLanding_16 rfl ⟨rfl, hp_p0, hp_p3, hF⟩ (Nat.le_of_ble_eq_true rfl) (Nat.le_of_ble_eq_true rfl)
    rw [if_neg hk0] at hf
    by_cases hk1 : q5.1 = 3
    · rw [if_pos hk1] at hf
      have hEk : E = mm_ex 3 := by rw [hE, hk1]
      subst hEk
      have hp_p3 := hfr.keep hp_p3 (by omega)
      have hp_p0 := hn_this
      have hF := hF.tr (hfr.l (by omega) (by omega))
      refine vx_catch hC.1.2.2.2.1 [⟨0, 10, 13, 13⟩] ⟨0, 10, 17, 15⟩ [] hxt (List.forall_mem_cons.mpr ⟨Or.inr ⟨by decide, _, (hC.1.2.2.2.2 _ q3_90), hC.2.2.1.1.2.2 3 1 (by decide) (by decide) (by decide) (by decide) (by decide)⟩, (fun z hz => absurd hz List.not_mem_nil)⟩) rfl (by decide) (hC.1.2.2.2.2 _ q3_170) (va_Nw.use rfl (hC.2.2.1.1.1 _ nw_castable_3)) hqE hv9 hcl9 ?_
      refine lv_astore (lv' := [(4, .ref qE), (0, .ref b0), (1, .int x1), (2, .int x2), (3, .ref a3)]) hx hb dL_addLanding_17 hl (by decide) rfl (fun ls hl => ?_)
      refine lv_iconst (v := 2) hx hb dL_addLanding_19 (by decide) ?_
      cases hf
      exact hret hM dL_addLanding_20 rfl ⟨rfl, hp_p0, hp_p3, hF⟩ (Nat.le_of_ble_eq_true rfl) (Nat.le_of_ble_eq_true rfl)
    rw [if_neg hk1] at hf
    cases hf
  obtain ⟨h0, hr, hn_this, hfr⟩ := hw
  rw [if_pos h0] at hf
  rw [hr]
  have hp_p3 := hfr.keep hp_p3 (by omega)
  have hp_p0 := hn_this
  have hF := hF.tr (hfr.l (by omega) (by omega))
  refine lv_i2l hx hb dL_addLanding_8 rfl ?_
  refine mm_last0 hC hM hp_p3 dL_addLanding_9 (fun w9 H locs hM hm => ?_)
  have hp_p0 := hp_p0.up hm (by omega)
  have hp_p3 := hm.1
  have hF := hF.tr (hm.r (by omega) (by omega))
  refine lv_goto (tgt := 21) hx hb dL_addLanding_10 (by decide) ?_
  refine lv_iconst (v := 0) hx hb dL_addLanding_21 (by decide) ?_
  cases hf
  exact hret hM dL_addLanding_22 rfl ⟨rfl, hp_p0, hp_p3, hF⟩ (Nat.le_of_ble_eq_true rfl) (Nat.le_of_ble_eq_true rfl)
def f_L_removeLanding (K : Nat) (p0_marsh_reeds_states : Nat → Int32) (p0_marsh_reeds_count : Int32) (p0_marsh_reeds_broken : Int32) (p0_marsh_fleet_numbers : Nat → Int32) (p0_marsh_fleet_cells : Nat → Int32) (p0_marsh_fleet_fares : Nat → Int32) (p0_marsh_fleet_count : Int32) (p0_marsh_fleet_nextNumber : Int32) (p0_marsh_fleet_total : Int32) (p0_marsh_fleet_removedFares : Int32) (p0_marsh_fleet_meetings : Int32) (p0_marsh_plans_moves : Nat → Int32) (p0_marsh_plans_lengths : Nat → Int32) (p0_marsh_landings_cells : Nat → Int32) (p0_marsh_landings_count : Int32) (p0_marsh_fogSide : Int32) (p0_history_slots : Nat → mm_MV) (p0_history_free : Int32) (p0_history_count : Int32) (p2 : Nat → Int64) (x1 : Int32) : Option (Int32 × (Nat → Int32) × Int32 × (Nat → mm_MV) × Int32 × Int32 × (Nat → Int64)) := (f_X12_removeLanding K p0_marsh_reeds_states p0_marsh_reeds_count p0_marsh_reeds_broken p0_marsh_fleet_numbers p0_marsh_fleet_cells p0_marsh_fleet_fares p0_marsh_fleet_count p0_marsh_fleet_nextNumber p0_marsh_fleet_total p0_marsh_fleet_removedFares p0_marsh_fleet_meetings p0_marsh_plans_moves p0_marsh_plans_lengths p0_marsh_landings_cells p0_marsh_landings_count p0_marsh_fogSide p0_history_slots p0_history_free p0_history_count x1).bind fun q4 => if q4.1 = 0 then some (0, q4.2.2.1, q4.2.2.2.1, q4.2.2.2.2.1, q4.2.2.2.2.2.1, q4.2.2.2.2.2.2, (vp_updL p2 0 q4.2.1.toInt64)) else if q4.1 = 1 then some (1, q4.2.2.1, q4.2.2.2.1, q4.2.2.2.2.1, q4.2.2.2.2.2.1, q4.2.2.2.2.2.2, p2) else none
set_option maxHeartbeats 4000000 in
set_option maxRecDepth 100000 in
theorem c_L_removeLanding (l : Launch) (hfl : l.stackTraces = false) {G : mm_G} {K : Nat} {w : va_W} {sz : Nat} {b0 : Nat} {a2 : Nat} {p0_marsh_reeds_states : Nat → Int32} {p0_marsh_reeds_count : Int32} {p0_marsh_reeds_broken : Int32} {p0_marsh_fleet_numbers : Nat → Int32} {p0_marsh_fleet_cells : Nat → Int32} {p0_marsh_fleet_fares : Nat → Int32} {p0_marsh_fleet_count : Int32} {p0_marsh_fleet_nextNumber : Int32} {p0_marsh_fleet_total : Int32} {p0_marsh_fleet_removedFares : Int32} {p0_marsh_fleet_meetings : Int32} {p0_marsh_plans_moves : Nat → Int32} {p0_marsh_plans_lengths : Nat → Int32} {p0_marsh_landings_cells : Nat → Int32} {p0_marsh_landings_count : Int32} {p0_marsh_fogSide : Int32} {p0_snapshot_reeds_states : Nat → Int32} {p0_snapshot_reeds_count : Int32} {p0_snapshot_reeds_broken : Int32} {p0_snapshot_fleet_numbers : Nat → Int32} {p0_snapshot_fleet_cells : Nat → Int32} {p0_snapshot_fleet_fares : Nat → Int32} {p0_snapshot_fleet_count : Int32} {p0_snapshot_fleet_nextNumber : Int32} {p0_snapshot_fleet_total : Int32} {p0_snapshot_fleet_removedFares : Int32} {p0_snapshot_fleet_meetings : Int32} {p0_snapshot_plans_moves : Nat → Int32} {p0_snapshot_plans_lengths : Nat → Int32} {p0_snapshot_landings_cells : Nat → Int32} {p0_snapshot_landings_count : Int32} {p0_snapshot_fogSide : Int32} {p0_history_slots : Nat → mm_MV} {p0_history_free : Int32} {p0_history_count : Int32} {p0_ways_tolls : Nat → Int32} {p0_ways_queue : Nat → Int32} {p0_ways_heap : Nat → Int32} {p0_ways_heapSize : Int32} {p0_ways_found : Nat → Int32} {p0_ways_improved : Nat → Int32} {p0_pairing_costs : Nat → Int32} {p0_pairing_best : Nat → Int32} {p0_reader_kinds : Nat → Int32} {p0_reader_starts : Nat → Int32} {p0_reader_count : Int32} {p0_commandText_signs : Nat → Int32} {p0_commandText_length : Int32} {p0_line_signs : Nat → Int32} {p0_line_length : Int32} {p0_spareMoves : Nat → Int32} {p0_snapshotTaken : Int32} {p0_lastErrorPosition : Int32} {p0_lastFailedCommand : Int32} {p2 : Nat → Int64} {x1 : Int32} {X : Int32 × (Nat → Int32) × Int32 × (Nat → mm_MV) × Int32 × Int32 × (Nat → Int64)} (hf : f_L_removeLanding K p0_marsh_reeds_states p0_marsh_reeds_count p0_marsh_reeds_broken p0_marsh_fleet_numbers p0_marsh_fleet_cells p0_marsh_fleet_fares p0_marsh_fleet_count p0_marsh_fleet_nextNumber p0_marsh_fleet_total p0_marsh_fleet_removedFares p0_marsh_fleet_meetings p0_marsh_plans_moves p0_marsh_plans_lengths p0_marsh_landings_cells p0_marsh_landings_count p0_marsh_fogSide p0_history_slots p0_history_free p0_history_count p2 x1 = some X) (hp_p0 : At12 G w b0 p0_marsh_reeds_states p0_marsh_reeds_count p0_marsh_reeds_broken p0_marsh_fleet_numbers p0_marsh_fleet_cells p0_marsh_fleet_fares p0_marsh_fleet_count p0_marsh_fleet_nextNumber p0_marsh_fleet_total p0_marsh_fleet_removedFares p0_marsh_fleet_meetings p0_marsh_plans_moves p0_marsh_plans_lengths p0_marsh_landings_cells p0_marsh_landings_count p0_marsh_fogSide p0_snapshot_reeds_states p0_snapshot_reeds_count p0_snapshot_reeds_broken p0_snapshot_fleet_numbers p0_snapshot_fleet_cells p0_snapshot_fleet_fares p0_snapshot_fleet_count p0_snapshot_fleet_nextNumber p0_snapshot_fleet_total p0_snapshot_fleet_removedFares p0_snapshot_fleet_meetings p0_snapshot_plans_moves p0_snapshot_plans_lengths p0_snapshot_landings_cells p0_snapshot_landings_count p0_snapshot_fogSide p0_history_slots p0_history_free p0_history_count p0_ways_tolls p0_ways_queue p0_ways_heap p0_ways_heapSize p0_ways_found p0_ways_improved p0_pairing_costs p0_pairing_best p0_reader_kinds p0_reader_starts p0_reader_count p0_commandText_signs p0_commandText_length p0_line_signs p0_line_length p0_spareMoves p0_snapshotTaken p0_lastErrorPosition p0_lastFailedCommand) (hp_p2 : (a2, (.inl (G.2 3, 1, .inr (.inl p2)) : va_E)) ∈ w) (hd0 : b0 + 152 ≤ a2 ∨ a2 + 1 ≤ b0) : Met l yL_removeLanding (Cond.codeWith yL_removeLanding cL_removeLanding 4 (some .int) [(0, 9, 12, 13)] :: gAll) ({ frames := 9, cells := 1, slots := 6, locals := 162 }) (va_Pc [.ref b0, .int x1, .ref a2] (mm_Pre G w sz)) (mm_Qi G w sz (fun r w' => r = X.1 ∧ At12 G w' b0 p0_marsh_reeds_states p0_marsh_reeds_count p0_marsh_reeds_broken p0_marsh_fleet_numbers p0_marsh_fleet_cells p0_marsh_fleet_fares p0_marsh_fleet_count p0_marsh_fleet_nextNumber p0_marsh_fleet_total p0_marsh_fleet_removedFares p0_marsh_fleet_meetings p0_marsh_plans_moves p0_marsh_plans_lengths X.2.1 X.2.2.1 p0_marsh_fogSide p0_snapshot_reeds_states p0_snapshot_reeds_count p0_snapshot_reeds_broken p0_snapshot_fleet_numbers p0_snapshot_fleet_cells p0_snapshot_fleet_fares p0_snapshot_fleet_count p0_snapshot_fleet_nextNumber p0_snapshot_fleet_total p0_snapshot_fleet_removedFares p0_snapshot_fleet_meetings p0_snapshot_plans_moves p0_snapshot_plans_lengths p0_snapshot_landings_cells p0_snapshot_landings_count p0_snapshot_fogSide X.2.2.2.1 X.2.2.2.2.1 X.2.2.2.2.2.1 p0_ways_tolls p0_ways_queue p0_ways_heap p0_ways_heapSize p0_ways_found p0_ways_improved p0_pairing_costs p0_pairing_best p0_reader_kinds p0_reader_starts p0_reader_count p0_commandText_signs p0_commandText_length p0_line_signs p0_line_length p0_spareMoves p0_snapshotTaken p0_lastErrorPosition p0_lastFailedCommand ∧ (a2, (.inl (G.2 3, 1, .inr (.inl X.2.2.2.2.2.2)) : va_E)) ∈ w' ∧ mm_fr2 w w' b0 (b0 + 152) a2 (a2 + 1))) 1 6 (va_A w sz) := by
  refine mm_hhead hfl [.ref b0, .int x1, .ref a2] (by decide +kernel) rfl (Nat.le_of_ble_eq_true rfl) ?_
  intro p e s m args below meth c A Q hsz hC hM hret hxt ls hl
  have hx := hC.1.1
  have hb := hC.1.2.1
  have hl : lv_has ls 4 [(0, .ref b0), (1, .int x1), (2, .ref a2)] := hl
  have hF : mm_fr2 w w b0 (b0 + 152) a2 (a2 + 1) := mm_fr2.rf
  rw [f_L_removeLanding] at hf
  refine lv_aload_n hx hb dL_removeLanding_0 rfl (lv_at hl 2 rfl) ?_
  refine lv_iconst (v := 0) hx hb dL_removeLanding_1 (by decide) ?_
  refine lv_aload_n hx hb dL_removeLanding_2 rfl (lv_at hl 0 rfl) ?_
  refine lv_iload_n hx hb dL_removeLanding_3 rfl (lv_at hl 1 rfl) ?_
  obtain ⟨q4, hq4, hf⟩ := mm_bd hf
  refine mm_xVi (rest := [.int 0, .ref a2]) hC hM (c_X12_removeLanding l hfl hq4 hp_p0) q5_196 q1_1 ykX12_removeLanding q5_193 q5_194 q5_195 hp_p0.1 rfl ⟨rfl, rfl⟩ ⟨Nat.le_of_ble_eq_true rfl, Nat.le_of_ble_eq_true rfl⟩ rfl hl.1 rfl (Nat.le_of_ble_eq_true rfl) dL_removeLanding_4 ⟨Nat.le_of_ble_eq_true rfl, Nat.le_of_ble_eq_true rfl⟩ (fun E ce qE w4 H locs hM hw hqE hv9 hcl9 => ?_) (fun r w4 H locs hM hw => ?_)
  · obtain ⟨hne, hE, hn_this, hfr⟩ := hw
    rw [if_neg hne] at hf
    by_cases hk0 : q4.1 = 1
    · rw [if_pos hk0] at hf
      have hEk : E = mm_ex 1 := by rw [hE, hk0]
      subst hEk
      have hp_p2 := hfr.keep hp_p2 (by omega)
      have hp_p0 := hn_this
      have hF := hF.tr (hfr.l (by omega) (by omega))
      refine vx_catch hC.1.2.2.2.1 [] ⟨0, 9, 12, 13⟩ [] hxt (fun z hz => absurd hz List.not_mem_nil) rfl (by decide) (hC.1.2.2.2.2 _ q3_90) (va_Nw.use rfl (hC.2.2.1.1.1 _ nw_castable_1)) hqE hv9 hcl9 ?_
      refine lv_astore_n (lv' := [(3, .ref qE), (0, .ref b0), (1, .int x1), (2, .ref a2)]) hx hb dL_removeLanding_12 rfl hl (by decide) rfl (fun ls hl => ?_)
      refine lv_iconst (v := 1) hx hb dL_removeLanding_13 (by decide) ?_
      cases hf
      exact hret hM dL_removeLanding_14 rfl ⟨rfl, hp_p0, hp_p2, hF⟩ (Nat.le_of_ble_eq_true rfl) (Nat.le_of_ble_eq_true rfl)
    rw [if_neg hk0] at hf
    cases hf
  obtain ⟨h0, hr, hn_this, hfr⟩ := hw
  rw [if_pos h0] at hf
  rw [hr]
  have hp_p2 := hfr.keep hp_p2 (by omega)
  have hp_p0 := hn_this
  have hF := hF.tr (hfr.l (by omega) (by omega))
  refine lv_i2l hx hb dL_removeLanding_7 rfl ?_
  refine mm_last0 hC hM hp_p2 dL_removeLanding_8 (fun w8 H locs hM hm => ?_)
  have hp_p0 := hp_p0.up hm (by omega)
  have hp_p2 := hm.1
  have hF := hF.tr (hm.r (by omega) (by omega))
  refine lv_goto (tgt := 15) hx hb dL_removeLanding_9 (by decide) ?_
  refine lv_iconst (v := 0) hx hb dL_removeLanding_15 (by decide) ?_
  cases hf
  exact hret hM dL_removeLanding_16 rfl ⟨rfl, hp_p0, hp_p2, hF⟩ (Nat.le_of_ble_eq_true rfl) (Nat.le_of_ble_eq_true rfl)
def f_L_pairingCost (K : Nat) (p0_marsh_landings_cells : Nat → Int32) (p0_marsh_landings_count : Int32) (p0_pairing_costs : Nat → Int32) (p0_pairing_best : Nat → Int32) (p1 : Nat → Int64) : Option (Int32 × (Nat → Int32) × (Nat → Int32) × (Nat → Int64)) := (f_X12_pairingCost K p0_marsh_landings_cells p0_marsh_landings_count p0_pairing_costs p0_pairing_best).bind fun q3 => if q3.1 = 0 then some (0, q3.2.2.1, q3.2.2.2, (vp_updL p1 0 q3.2.1.toInt64)) else if q3.1 = 3 then some (1, q3.2.2.1, q3.2.2.2, p1) else none
set_option maxHeartbeats 4000000 in
set_option maxRecDepth 100000 in
theorem c_L_pairingCost (l : Launch) (hfl : l.stackTraces = false) {G : mm_G} {K : Nat} {w : va_W} {sz : Nat} {b0 : Nat} {a1 : Nat} {p0_marsh_reeds_states : Nat → Int32} {p0_marsh_reeds_count : Int32} {p0_marsh_reeds_broken : Int32} {p0_marsh_fleet_numbers : Nat → Int32} {p0_marsh_fleet_cells : Nat → Int32} {p0_marsh_fleet_fares : Nat → Int32} {p0_marsh_fleet_count : Int32} {p0_marsh_fleet_nextNumber : Int32} {p0_marsh_fleet_total : Int32} {p0_marsh_fleet_removedFares : Int32} {p0_marsh_fleet_meetings : Int32} {p0_marsh_plans_moves : Nat → Int32} {p0_marsh_plans_lengths : Nat → Int32} {p0_marsh_landings_cells : Nat → Int32} {p0_marsh_landings_count : Int32} {p0_marsh_fogSide : Int32} {p0_snapshot_reeds_states : Nat → Int32} {p0_snapshot_reeds_count : Int32} {p0_snapshot_reeds_broken : Int32} {p0_snapshot_fleet_numbers : Nat → Int32} {p0_snapshot_fleet_cells : Nat → Int32} {p0_snapshot_fleet_fares : Nat → Int32} {p0_snapshot_fleet_count : Int32} {p0_snapshot_fleet_nextNumber : Int32} {p0_snapshot_fleet_total : Int32} {p0_snapshot_fleet_removedFares : Int32} {p0_snapshot_fleet_meetings : Int32} {p0_snapshot_plans_moves : Nat → Int32} {p0_snapshot_plans_lengths : Nat → Int32} {p0_snapshot_landings_cells : Nat → Int32} {p0_snapshot_landings_count : Int32} {p0_snapshot_fogSide : Int32} {p0_history_slots : Nat → mm_MV} {p0_history_free : Int32} {p0_history_count : Int32} {p0_ways_tolls : Nat → Int32} {p0_ways_queue : Nat → Int32} {p0_ways_heap : Nat → Int32} {p0_ways_heapSize : Int32} {p0_ways_found : Nat → Int32} {p0_ways_improved : Nat → Int32} {p0_pairing_costs : Nat → Int32} {p0_pairing_best : Nat → Int32} {p0_reader_kinds : Nat → Int32} {p0_reader_starts : Nat → Int32} {p0_reader_count : Int32} {p0_commandText_signs : Nat → Int32} {p0_commandText_length : Int32} {p0_line_signs : Nat → Int32} {p0_line_length : Int32} {p0_spareMoves : Nat → Int32} {p0_snapshotTaken : Int32} {p0_lastErrorPosition : Int32} {p0_lastFailedCommand : Int32} {p1 : Nat → Int64} {X : Int32 × (Nat → Int32) × (Nat → Int32) × (Nat → Int64)} (hf : f_L_pairingCost K p0_marsh_landings_cells p0_marsh_landings_count p0_pairing_costs p0_pairing_best p1 = some X) (hp_p0 : At12 G w b0 p0_marsh_reeds_states p0_marsh_reeds_count p0_marsh_reeds_broken p0_marsh_fleet_numbers p0_marsh_fleet_cells p0_marsh_fleet_fares p0_marsh_fleet_count p0_marsh_fleet_nextNumber p0_marsh_fleet_total p0_marsh_fleet_removedFares p0_marsh_fleet_meetings p0_marsh_plans_moves p0_marsh_plans_lengths p0_marsh_landings_cells p0_marsh_landings_count p0_marsh_fogSide p0_snapshot_reeds_states p0_snapshot_reeds_count p0_snapshot_reeds_broken p0_snapshot_fleet_numbers p0_snapshot_fleet_cells p0_snapshot_fleet_fares p0_snapshot_fleet_count p0_snapshot_fleet_nextNumber p0_snapshot_fleet_total p0_snapshot_fleet_removedFares p0_snapshot_fleet_meetings p0_snapshot_plans_moves p0_snapshot_plans_lengths p0_snapshot_landings_cells p0_snapshot_landings_count p0_snapshot_fogSide p0_history_slots p0_history_free p0_history_count p0_ways_tolls p0_ways_queue p0_ways_heap p0_ways_heapSize p0_ways_found p0_ways_improved p0_pairing_costs p0_pairing_best p0_reader_kinds p0_reader_starts p0_reader_count p0_commandText_signs p0_commandText_length p0_line_signs p0_line_length p0_spareMoves p0_snapshotTaken p0_lastErrorPosition p0_lastFailedCommand) (hp_p1 : (a1, (.inl (G.2 3, 1, .inr (.inl p1)) : va_E)) ∈ w) (hd0 : b0 + 152 ≤ a1 ∨ a1 + 1 ≤ b0) : Met l yL_pairingCost (Cond.codeWith yL_pairingCost cL_pairingCost 3 (some .int) [(0, 8, 11, 15)] :: gAll) ({ frames := 9, cells := 1, slots := 6, locals := 160 }) (va_Pc [.ref b0, .ref a1] (mm_Pre G w sz)) (mm_Qi G w sz (fun r w' => r = X.1 ∧ At12 G w' b0 p0_marsh_reeds_states p0_marsh_reeds_count p0_marsh_reeds_broken p0_marsh_fleet_numbers p0_marsh_fleet_cells p0_marsh_fleet_fares p0_marsh_fleet_count p0_marsh_fleet_nextNumber p0_marsh_fleet_total p0_marsh_fleet_removedFares p0_marsh_fleet_meetings p0_marsh_plans_moves p0_marsh_plans_lengths p0_marsh_landings_cells p0_marsh_landings_count p0_marsh_fogSide p0_snapshot_reeds_states p0_snapshot_reeds_count p0_snapshot_reeds_broken p0_snapshot_fleet_numbers p0_snapshot_fleet_cells p0_snapshot_fleet_fares p0_snapshot_fleet_count p0_snapshot_fleet_nextNumber p0_snapshot_fleet_total p0_snapshot_fleet_removedFares p0_snapshot_fleet_meetings p0_snapshot_plans_moves p0_snapshot_plans_lengths p0_snapshot_landings_cells p0_snapshot_landings_count p0_snapshot_fogSide p0_history_slots p0_history_free p0_history_count p0_ways_tolls p0_ways_queue p0_ways_heap p0_ways_heapSize p0_ways_found p0_ways_improved X.2.1 X.2.2.1 p0_reader_kinds p0_reader_starts p0_reader_count p0_commandText_signs p0_commandText_length p0_line_signs p0_line_length p0_spareMoves p0_snapshotTaken p0_lastErrorPosition p0_lastFailedCommand ∧ (a1, (.inl (G.2 3, 1, .inr (.inl X.2.2.2)) : va_E)) ∈ w' ∧ mm_fr2 w w' b0 (b0 + 152) a1 (a1 + 1))) 1 6 (va_A w sz) := by
  refine mm_hhead hfl [.ref b0, .ref a1] (by decide +kernel) rfl (Nat.le_of_ble_eq_true rfl) ?_
  intro p e s m args below meth c A Q hsz hC hM hret hxt ls hl
  have hx := hC.1.1
  have hb := hC.1.2.1
  have hl : lv_has ls 3 [(0, .ref b0), (1, .ref a1)] := hl
  have hF : mm_fr2 w w b0 (b0 + 152) a1 (a1 + 1) := mm_fr2.rf
  rw [f_L_pairingCost] at hf
  refine lv_aload_n hx hb dL_pairingCost_0 rfl (lv_at hl 1 rfl) ?_
  refine lv_iconst (v := 0) hx hb dL_pairingCost_1 (by decide) ?_
  refine lv_aload_n hx hb dL_pairingCost_2 rfl (lv_at hl 0 rfl) ?_
  obtain ⟨q3, hq3, hf⟩ := mm_bd hf
  refine mm_xVi (rest := [.int 0, .ref a1]) hC hM (c_X12_pairingCost l hfl hq3 hp_p0) q5_207 q1_1 ykX12_pairingCost q5_204 q5_205 q5_206 hp_p0.1 rfl ⟨rfl, rfl⟩ ⟨Nat.le_of_ble_eq_true rfl, Nat.le_of_ble_eq_true rfl⟩ rfl hl.1 rfl (Nat.le_of_ble_eq_true rfl) dL_pairingCost_3 ⟨Nat.le_of_ble_eq_true rfl, Nat.le_of_ble_eq_true rfl⟩ (fun E ce qE w3 H locs hM hw hqE hv9 hcl9 => ?_) (fun r w3 H locs hM hw => ?_)
  · obtain ⟨hne, hE, hn_this, hfr⟩ := hw
    rw [if_neg hne] at hf
    by_cases hk0 : q3.1 = 3
    · rw [if_pos hk0] at hf
      have hEk : E = mm_ex 3 := by rw [hE, hk0]
      subst hEk
      have hp_p1 := hfr.keep hp_p1 (by omega)
      have hp_p0 := hn_this
      have hF := hF.tr (hfr.l (by omega) (by omega))
      refine vx_catch hC.1.2.2.2.1 [] ⟨0, 8, 11, 15⟩ [] hxt (fun z hz => absurd hz List.not_mem_nil) rfl (by decide) (hC.1.2.2.2.2 _ q3_170) (va_Nw.use rfl (hC.2.2.1.1.1 _ nw_castable_3)) hqE hv9 hcl9 ?_
      refine lv_astore_n (lv' := [(2, .ref qE), (0, .ref b0), (1, .ref a1)]) hx hb dL_pairingCost_11 rfl hl (by decide) rfl (fun ls hl => ?_)
      refine lv_iconst (v := 1) hx hb dL_pairingCost_12 (by decide) ?_
      cases hf
      exact hret hM dL_pairingCost_13 rfl ⟨rfl, hp_p0, hp_p1, hF⟩ (Nat.le_of_ble_eq_true rfl) (Nat.le_of_ble_eq_true rfl)
    rw [if_neg hk0] at hf
    cases hf
  obtain ⟨h0, hr, hn_this, hfr⟩ := hw
  rw [if_pos h0] at hf
  rw [hr]
  have hp_p1 := hfr.keep hp_p1 (by omega)
  have hp_p0 := hn_this
  have hF := hF.tr (hfr.l (by omega) (by omega))
  refine lv_i2l hx hb dL_pairingCost_6 rfl ?_
  refine mm_last0 hC hM hp_p1 dL_pairingCost_7 (fun w7 H locs hM hm => ?_)
  have hp_p0 := hp_p0.up hm (by omega)
  have hp_p1 := hm.1
  have hF := hF.tr (hm.r (by omega) (by omega))
  refine lv_goto (tgt := 14) hx hb dL_pairingCost_8 (by decide) ?_
  refine lv_iconst (v := 0) hx hb dL_pairingCost_14 (by decide) ?_
  cases hf
  exact hret hM dL_pairingCost_15 rfl ⟨rfl, hp_p0, hp_p1, hF⟩ (Nat.le_of_ble_eq_true rfl) (Nat.le_of_ble_eq_true rfl)
def f_L_pairingCostBySearch (K : Nat) (p0_marsh_landings_cells : Nat → Int32) (p0_marsh_landings_count : Int32) (p0_pairing_costs : Nat → Int32) (p1 : Nat → Int64) : Option (Int32 × (Nat → Int32) × (Nat → Int64)) := (f_X12_pairingCostBySearch K p0_marsh_landings_cells p0_marsh_landings_count p0_pairing_costs).bind fun q3 => if q3.1 = 0 then some (0, q3.2.2, (vp_updL p1 0 q3.2.1.toInt64)) else if q3.1 = 3 then some (1, q3.2.2, p1) else none
set_option maxHeartbeats 4000000 in
set_option maxRecDepth 100000 in
theorem c_L_pairingCostBySearch (l : Launch) (hfl : l.stackTraces = false) {G : mm_G} {K : Nat} {w : va_W} {sz : Nat} {b0 : Nat} {a1 : Nat} {p0_marsh_reeds_states : Nat → Int32} {p0_marsh_reeds_count : Int32} {p0_marsh_reeds_broken : Int32} {p0_marsh_fleet_numbers : Nat → Int32} {p0_marsh_fleet_cells : Nat → Int32} {p0_marsh_fleet_fares : Nat → Int32} {p0_marsh_fleet_count : Int32} {p0_marsh_fleet_nextNumber : Int32} {p0_marsh_fleet_total : Int32} {p0_marsh_fleet_removedFares : Int32} {p0_marsh_fleet_meetings : Int32} {p0_marsh_plans_moves : Nat → Int32} {p0_marsh_plans_lengths : Nat → Int32} {p0_marsh_landings_cells : Nat → Int32} {p0_marsh_landings_count : Int32} {p0_marsh_fogSide : Int32} {p0_snapshot_reeds_states : Nat → Int32} {p0_snapshot_reeds_count : Int32} {p0_snapshot_reeds_broken : Int32} {p0_snapshot_fleet_numbers : Nat → Int32} {p0_snapshot_fleet_cells : Nat → Int32} {p0_snapshot_fleet_fares : Nat → Int32} {p0_snapshot_fleet_count : Int32} {p0_snapshot_fleet_nextNumber : Int32} {p0_snapshot_fleet_total : Int32} {p0_snapshot_fleet_removedFares : Int32} {p0_snapshot_fleet_meetings : Int32} {p0_snapshot_plans_moves : Nat → Int32} {p0_snapshot_plans_lengths : Nat → Int32} {p0_snapshot_landings_cells : Nat → Int32} {p0_snapshot_landings_count : Int32} {p0_snapshot_fogSide : Int32} {p0_history_slots : Nat → mm_MV} {p0_history_free : Int32} {p0_history_count : Int32} {p0_ways_tolls : Nat → Int32} {p0_ways_queue : Nat → Int32} {p0_ways_heap : Nat → Int32} {p0_ways_heapSize : Int32} {p0_ways_found : Nat → Int32} {p0_ways_improved : Nat → Int32} {p0_pairing_costs : Nat → Int32} {p0_pairing_best : Nat → Int32} {p0_reader_kinds : Nat → Int32} {p0_reader_starts : Nat → Int32} {p0_reader_count : Int32} {p0_commandText_signs : Nat → Int32} {p0_commandText_length : Int32} {p0_line_signs : Nat → Int32} {p0_line_length : Int32} {p0_spareMoves : Nat → Int32} {p0_snapshotTaken : Int32} {p0_lastErrorPosition : Int32} {p0_lastFailedCommand : Int32} {p1 : Nat → Int64} {X : Int32 × (Nat → Int32) × (Nat → Int64)} (hf : f_L_pairingCostBySearch K p0_marsh_landings_cells p0_marsh_landings_count p0_pairing_costs p1 = some X) (hp_p0 : At12 G w b0 p0_marsh_reeds_states p0_marsh_reeds_count p0_marsh_reeds_broken p0_marsh_fleet_numbers p0_marsh_fleet_cells p0_marsh_fleet_fares p0_marsh_fleet_count p0_marsh_fleet_nextNumber p0_marsh_fleet_total p0_marsh_fleet_removedFares p0_marsh_fleet_meetings p0_marsh_plans_moves p0_marsh_plans_lengths p0_marsh_landings_cells p0_marsh_landings_count p0_marsh_fogSide p0_snapshot_reeds_states p0_snapshot_reeds_count p0_snapshot_reeds_broken p0_snapshot_fleet_numbers p0_snapshot_fleet_cells p0_snapshot_fleet_fares p0_snapshot_fleet_count p0_snapshot_fleet_nextNumber p0_snapshot_fleet_total p0_snapshot_fleet_removedFares p0_snapshot_fleet_meetings p0_snapshot_plans_moves p0_snapshot_plans_lengths p0_snapshot_landings_cells p0_snapshot_landings_count p0_snapshot_fogSide p0_history_slots p0_history_free p0_history_count p0_ways_tolls p0_ways_queue p0_ways_heap p0_ways_heapSize p0_ways_found p0_ways_improved p0_pairing_costs p0_pairing_best p0_reader_kinds p0_reader_starts p0_reader_count p0_commandText_signs p0_commandText_length p0_line_signs p0_line_length p0_spareMoves p0_snapshotTaken p0_lastErrorPosition p0_lastFailedCommand) (hp_p1 : (a1, (.inl (G.2 3, 1, .inr (.inl p1)) : va_E)) ∈ w) (hd0 : b0 + 152 ≤ a1 ∨ a1 + 1 ≤ b0) : Met l yL_pairingCostBySearch (Cond.codeWith yL_pairingCostBySearch cL_pairingCostBySearch 3 (some .int) [(0, 8, 11, 15)] :: gAll) ({ frames := 9, cells := 1, slots := 6, locals := 213 }) (va_Pc [.ref b0, .ref a1] (mm_Pre G w sz)) (mm_Qi G w sz (fun r w' => r = X.1 ∧ At12 G w' b0 p0_marsh_reeds_states p0_marsh_reeds_count p0_marsh_reeds_broken p0_marsh_fleet_numbers p0_marsh_fleet_cells p0_marsh_fleet_fares p0_marsh_fleet_count p0_marsh_fleet_nextNumber p0_marsh_fleet_total p0_marsh_fleet_removedFares p0_marsh_fleet_meetings p0_marsh_plans_moves p0_marsh_plans_lengths p0_marsh_landings_cells p0_marsh_landings_count p0_marsh_fogSide p0_snapshot_reeds_states p0_snapshot_reeds_count p0_snapshot_reeds_broken p0_snapshot_fleet_numbers p0_snapshot_fleet_cells p0_snapshot_fleet_fares p0_snapshot_fleet_count p0_snapshot_fleet_nextNumber p0_snapshot_fleet_total p0_snapshot_fleet_removedFares p0_snapshot_fleet_meetings p0_snapshot_plans_moves p0_snapshot_plans_lengths p0_snapshot_landings_cells p0_snapshot_landings_count p0_snapshot_fogSide p0_history_slots p0_history_free p0_history_count p0_ways_tolls p0_ways_queue p0_ways_heap p0_ways_heapSize p0_ways_found p0_ways_improved X.2.1 p0_pairing_best p0_reader_kinds p0_reader_starts p0_reader_count p0_commandText_signs p0_commandText_length p0_line_signs p0_line_length p0_spareMoves p0_snapshotTaken p0_lastErrorPosition p0_lastFailedCommand ∧ (a1, (.inl (G.2 3, 1, .inr (.inl X.2.2)) : va_E)) ∈ w' ∧ mm_fr2 w w' b0 (b0 + 152) a1 (a1 + 1))) 1 6 (va_A w sz) := by
  refine mm_hhead hfl [.ref b0, .ref a1] (by decide +kernel) rfl (Nat.le_of_ble_eq_true rfl) ?_
  intro p e s m args below meth c A Q hsz hC hM hret hxt ls hl
  have hx := hC.1.1
  have hb := hC.1.2.1
  have hl : lv_has ls 3 [(0, .ref b0), (1, .ref a1)] := hl
  have hF : mm_fr2 w w b0 (b0 + 152) a1 (a1 + 1) := mm_fr2.rf
  rw [f_L_pairingCostBySearch] at hf
  refine lv_aload_n hx hb dL_pairingCostBySearch_0 rfl (lv_at hl 1 rfl) ?_
  refine lv_iconst (v := 0) hx hb dL_pairingCostBySearch_1 (by decide) ?_
  refine lv_aload_n hx hb dL_pairingCostBySearch_2 rfl (lv_at hl 0 rfl) ?_
  obtain ⟨q3, hq3, hf⟩ := mm_bd hf
  refine mm_xVi (rest := [.int 0, .ref a1]) hC hM (c_X12_pairingCostBySearch l hfl hq3 hp_p0) q5_218 q1_1 ykX12_pairingCostBySearch q5_215 q5_216 q5_217 hp_p0.1 rfl ⟨rfl, rfl⟩ ⟨Nat.le_of_ble_eq_true rfl, Nat.le_of_ble_eq_true rfl⟩ rfl hl.1 rfl (Nat.le_of_ble_eq_true rfl) dL_pairingCostBySearch_3 ⟨Nat.le_of_ble_eq_true rfl, Nat.le_of_ble_eq_true rfl⟩ (fun E ce qE w3 H locs hM hw hqE hv9 hcl9 => ?_) (fun r w3 H locs hM hw => ?_)
  · obtain ⟨hne, hE, hn_this, hfr⟩ := hw
    rw [if_neg hne] at hf
    by_cases hk0 : q3.1 = 3
    · rw [if_pos hk0] at hf
      have hEk : E = mm_ex 3 := by rw [hE, hk0]
      subst hEk
      have hp_p1 := hfr.keep hp_p1 (by omega)
      have hp_p0 := hn_this
      have hF := hF.tr (hfr.l (by omega) (by omega))
      refine vx_catch hC.1.2.2.2.1 [] ⟨0, 8, 11, 15⟩ [] hxt (fun z hz => absurd hz List.not_mem_nil) rfl (by decide) (hC.1.2.2.2.2 _ q3_170) (va_Nw.use rfl (hC.2.2.1.1.1 _ nw_castable_3)) hqE hv9 hcl9 ?_
      refine lv_astore_n (lv' := [(2, .ref qE), (0, .ref b0), (1, .ref a1)]) hx hb dL_pairingCostBySearch_11 rfl hl (by decide) rfl (fun ls hl => ?_)
      refine lv_iconst (v := 1) hx hb dL_pairingCostBySearch_12 (by decide) ?_
      cases hf
      exact hret hM dL_pairingCostBySearch_13 rfl ⟨rfl, hp_p0, hp_p1, hF⟩ (Nat.le_of_ble_eq_true rfl) (Nat.le_of_ble_eq_true rfl)
    rw [if_neg hk0] at hf
    cases hf
  obtain ⟨h0, hr, hn_this, hfr⟩ := hw
  rw [if_pos h0] at hf
  rw [hr]
  have hp_p1 := hfr.keep hp_p1 (by omega)
  have hp_p0 := hn_this
  have hF := hF.tr (hfr.l (by omega) (by omega))
  refine lv_i2l hx hb dL_pairingCostBySearch_6 rfl ?_
  refine mm_last0 hC hM hp_p1 dL_pairingCostBySearch_7 (fun w7 H locs hM hm => ?_)
  have hp_p0 := hp_p0.up hm (by omega)
  have hp_p1 := hm.1
  have hF := hF.tr (hm.r (by omega) (by omega))
  refine lv_goto (tgt := 14) hx hb dL_pairingCostBySearch_8 (by decide) ?_
  refine lv_iconst (v := 0) hx hb dL_pairingCostBySearch_14 (by decide) ?_
  cases hf
  exact hret hM dL_pairingCostBySearch_15 rfl ⟨rfl, hp_p0, hp_p1, hF⟩ (Nat.le_of_ble_eq_true rfl) (Nat.le_of_ble_eq_true rfl)
def f_L_partnerOf (K : Nat) (p0_marsh_landings_cells : Nat → Int32) (p0_marsh_landings_count : Int32) (p0_pairing_costs : Nat → Int32) (p0_pairing_best : Nat → Int32) (p2 : Nat → Int64) (x1 : Int32) : Option (Int32 × (Nat → Int32) × (Nat → Int32) × (Nat → Int64)) := (f_X12_partnerOf K p0_marsh_landings_cells p0_marsh_landings_count p0_pairing_costs p0_pairing_best x1).bind fun q4 => if q4.1 = 0 then some (0, q4.2.2.1, q4.2.2.2, (vp_updL p2 0 q4.2.1.toInt64)) else if q4.1 = 1 then some (1, q4.2.2.1, q4.2.2.2, p2) else if q4.1 = 3 then some (2, q4.2.2.1, q4.2.2.2, p2) else none
set_option maxHeartbeats 4000000 in
set_option maxRecDepth 100000 in
theorem c_L_partnerOf (l : Launch) (hfl : l.stackTraces = false) {G : mm_G} {K : Nat} {w : va_W} {sz : Nat} {b0 : Nat} {a2 : Nat} {p0_marsh_reeds_states : Nat → Int32} {p0_marsh_reeds_count : Int32} {p0_marsh_reeds_broken : Int32} {p0_marsh_fleet_numbers : Nat → Int32} {p0_marsh_fleet_cells : Nat → Int32} {p0_marsh_fleet_fares : Nat → Int32} {p0_marsh_fleet_count : Int32} {p0_marsh_fleet_nextNumber : Int32} {p0_marsh_fleet_total : Int32} {p0_marsh_fleet_removedFares : Int32} {p0_marsh_fleet_meetings : Int32} {p0_marsh_plans_moves : Nat → Int32} {p0_marsh_plans_lengths : Nat → Int32} {p0_marsh_landings_cells : Nat → Int32} {p0_marsh_landings_count : Int32} {p0_marsh_fogSide : Int32} {p0_snapshot_reeds_states : Nat → Int32} {p0_snapshot_reeds_count : Int32} {p0_snapshot_reeds_broken : Int32} {p0_snapshot_fleet_numbers : Nat → Int32} {p0_snapshot_fleet_cells : Nat → Int32} {p0_snapshot_fleet_fares : Nat → Int32} {p0_snapshot_fleet_count : Int32} {p0_snapshot_fleet_nextNumber : Int32} {p0_snapshot_fleet_total : Int32} {p0_snapshot_fleet_removedFares : Int32} {p0_snapshot_fleet_meetings : Int32} {p0_snapshot_plans_moves : Nat → Int32} {p0_snapshot_plans_lengths : Nat → Int32} {p0_snapshot_landings_cells : Nat → Int32} {p0_snapshot_landings_count : Int32} {p0_snapshot_fogSide : Int32} {p0_history_slots : Nat → mm_MV} {p0_history_free : Int32} {p0_history_count : Int32} {p0_ways_tolls : Nat → Int32} {p0_ways_queue : Nat → Int32} {p0_ways_heap : Nat → Int32} {p0_ways_heapSize : Int32} {p0_ways_found : Nat → Int32} {p0_ways_improved : Nat → Int32} {p0_pairing_costs : Nat → Int32} {p0_pairing_best : Nat → Int32} {p0_reader_kinds : Nat → Int32} {p0_reader_starts : Nat → Int32} {p0_reader_count : Int32} {p0_commandText_signs : Nat → Int32} {p0_commandText_length : Int32} {p0_line_signs : Nat → Int32} {p0_line_length : Int32} {p0_spareMoves : Nat → Int32} {p0_snapshotTaken : Int32} {p0_lastErrorPosition : Int32} {p0_lastFailedCommand : Int32} {p2 : Nat → Int64} {x1 : Int32} {X : Int32 × (Nat → Int32) × (Nat → Int32) × (Nat → Int64)} (hf : f_L_partnerOf K p0_marsh_landings_cells p0_marsh_landings_count p0_pairing_costs p0_pairing_best p2 x1 = some X) (hp_p0 : At12 G w b0 p0_marsh_reeds_states p0_marsh_reeds_count p0_marsh_reeds_broken p0_marsh_fleet_numbers p0_marsh_fleet_cells p0_marsh_fleet_fares p0_marsh_fleet_count p0_marsh_fleet_nextNumber p0_marsh_fleet_total p0_marsh_fleet_removedFares p0_marsh_fleet_meetings p0_marsh_plans_moves p0_marsh_plans_lengths p0_marsh_landings_cells p0_marsh_landings_count p0_marsh_fogSide p0_snapshot_reeds_states p0_snapshot_reeds_count p0_snapshot_reeds_broken p0_snapshot_fleet_numbers p0_snapshot_fleet_cells p0_snapshot_fleet_fares p0_snapshot_fleet_count p0_snapshot_fleet_nextNumber p0_snapshot_fleet_total p0_snapshot_fleet_removedFares p0_snapshot_fleet_meetings p0_snapshot_plans_moves p0_snapshot_plans_lengths p0_snapshot_landings_cells p0_snapshot_landings_count p0_snapshot_fogSide p0_history_slots p0_history_free p0_history_count p0_ways_tolls p0_ways_queue p0_ways_heap p0_ways_heapSize p0_ways_found p0_ways_improved p0_pairing_costs p0_pairing_best p0_reader_kinds p0_reader_starts p0_reader_count p0_commandText_signs p0_commandText_length p0_line_signs p0_line_length p0_spareMoves p0_snapshotTaken p0_lastErrorPosition p0_lastFailedCommand) (hp_p2 : (a2, (.inl (G.2 3, 1, .inr (.inl p2)) : va_E)) ∈ w) (hd0 : b0 + 152 ≤ a2 ∨ a2 + 1 ≤ b0) : Met l yL_partnerOf (Cond.codeWith yL_partnerOf cL_partnerOf 4 (some .int) [(0, 9, 12, 13), (0, 9, 15, 15)] :: gAll) ({ frames := 9, cells := 1, slots := 6, locals := 161 }) (va_Pc [.ref b0, .int x1, .ref a2] (mm_Pre G w sz)) (mm_Qi G w sz (fun r w' => r = X.1 ∧ At12 G w' b0 p0_marsh_reeds_states p0_marsh_reeds_count p0_marsh_reeds_broken p0_marsh_fleet_numbers p0_marsh_fleet_cells p0_marsh_fleet_fares p0_marsh_fleet_count p0_marsh_fleet_nextNumber p0_marsh_fleet_total p0_marsh_fleet_removedFares p0_marsh_fleet_meetings p0_marsh_plans_moves p0_marsh_plans_lengths p0_marsh_landings_cells p0_marsh_landings_count p0_marsh_fogSide p0_snapshot_reeds_states p0_snapshot_reeds_count p0_snapshot_reeds_broken p0_snapshot_fleet_numbers p0_snapshot_fleet_cells p0_snapshot_fleet_fares p0_snapshot_fleet_count p0_snapshot_fleet_nextNumber p0_snapshot_fleet_total p0_snapshot_fleet_removedFares p0_snapshot_fleet_meetings p0_snapshot_plans_moves p0_snapshot_plans_lengths p0_snapshot_landings_cells p0_snapshot_landings_count p0_snapshot_fogSide p0_history_slots p0_history_free p0_history_count p0_ways_tolls p0_ways_queue p0_ways_heap p0_ways_heapSize p0_ways_found p0_ways_improved X.2.1 X.2.2.1 p0_reader_kinds p0_reader_starts p0_reader_count p0_commandText_signs p0_commandText_length p0_line_signs p0_line_length p0_spareMoves p0_snapshotTaken p0_lastErrorPosition p0_lastFailedCommand ∧ (a2, (.inl (G.2 3, 1, .inr (.inl X.2.2.2)) : va_E)) ∈ w' ∧ mm_fr2 w w' b0 (b0 + 152) a2 (a2 + 1))) 1 6 (va_A w sz) := by
  refine mm_hhead hfl [.ref b0, .int x1, .ref a2] (by decide +kernel) rfl (Nat.le_of_ble_eq_true rfl) ?_
  intro p e s m args below meth c A Q hsz hC hM hret hxt ls hl
  have hx := hC.1.1
  have hb := hC.1.2.1
  have hl : lv_has ls 4 [(0, .ref b0), (1, .int x1), (2, .ref a2)] := hl
  have hF : mm_fr2 w w b0 (b0 + 152) a2 (a2 + 1) := mm_fr2.rf
  rw [f_L_partnerOf] at hf
  refine lv_aload_n hx hb dL_partnerOf_0 rfl (lv_at hl 2 rfl) ?_
  refine lv_iconst (v := 0) hx hb dL_partnerOf_1 (by decide) ?_
  refine lv_aload_n hx hb dL_partnerOf_2 rfl (lv_at hl 0 rfl) ?_
  refine lv_iload_n hx hb dL_partnerOf_3 rfl (lv_at hl 1 rfl) ?_
  obtain ⟨q4, hq4, hf⟩ := mm_bd hf
  refine mm_xVi (rest := [.int 0, .ref a2]) hC hM (c_X12_partnerOf l hfl hq4 hp_p0) q5_225 q1_1 ykX12_partnerOf q5_222 q5_223 q5_224 hp_p0.1 rfl ⟨rfl, rfl⟩ ⟨Nat.le_of_ble_eq_true rfl, Nat.le_of_ble_eq_true rfl⟩ rfl hl.1 rfl (Nat.le_of_ble_eq_true rfl) dL_partnerOf_4 ⟨Nat.le_of_ble_eq_true rfl, Nat.le_of_ble_eq_true rfl⟩ (fun E ce qE w4 H locs hM hw hqE hv9 hcl9 => ?_) (fun r w4 H locs hM hw => ?_)
  · obtain ⟨hne, hE, hn_this, hfr⟩ := hw
    rw [if_neg hne] at hf
    by_cases hk0 : q4.1 = 1
    · rw [if_pos hk0] at hf
      have hEk : E = mm_ex 1 := by rw [hE, hk0]
      subst hEk
      have hp_p2 := hfr.keep hp_p2 (by omega)
      have hp_p0 := hn_this
      have hF := hF.tr (hfr.l (by omega) (by omega))
      refine vx_catch hC.1.2.2.2.1 [] ⟨0, 9, 12, 13⟩ [⟨0, 9, 15, 15⟩] hxt (fun z hz => absurd hz List.not_mem_nil) rfl (by decide) (hC.1.2.2.2.2 _ q3_90) (va_Nw.use rfl (hC.2.2.1.1.1 _ nw_castable_1)) hqE hv9 hcl9 ?_
      refine lv_astore_n (lv' := [(3, .ref qE), (0, .ref b0), (1, .int x1), (2, .ref a2)]) hx hb dL_partnerOf_12 rfl hl (by decide) rfl (fun ls hl => ?_)
      refine lv_iconst (v := 1) hx hb dL_partnerOf_13 (by decide) ?_
      cases hf
      exact hret hM dL_partnerOf_14 rfl ⟨rfl, hp_p0, hp_p2, hF⟩ (Nat.le_of_ble_eq_true rfl) (Nat.le_of_ble_eq_true rfl)
    rw [if_neg hk0] at hf
    by_cases hk1 : q4.1 = 3
    · rw [if_pos hk1] at hf
      have hEk : E = mm_ex 3 := by rw [hE, hk1]
      subst hEk
      have hp_p2 := hfr.keep hp_p2 (by omega)
      have hp_p0 := hn_this
      have hF := hF.tr (hfr.l (by omega) (by omega))
      refine vx_catch hC.1.2.2.2.1 [⟨0, 9, 12, 13⟩] ⟨0, 9, 15, 15⟩ [] hxt (List.forall_mem_cons.mpr ⟨Or.inr ⟨by decide, _, (hC.1.2.2.2.2 _ q3_90), hC.2.2.1.1.2.2 3 1 (by decide) (by decide) (by decide) (by decide) (by decide)⟩, (fun z hz => absurd hz List.not_mem_nil)⟩) rfl (by decide) (hC.1.2.2.2.2 _ q3_170) (va_Nw.use rfl (hC.2.2.1.1.1 _ nw_castable_3)) hqE hv9 hcl9 ?_
      refine lv_astore_n (lv' := [(3, .ref qE), (0, .ref b0), (1, .int x1), (2, .ref a2)]) hx hb dL_partnerOf_15 rfl hl (by decide) rfl (fun ls hl => ?_)
      refine lv_iconst (v := 2) hx hb dL_partnerOf_16 (by decide) ?_
      cases hf
      exact hret hM dL_partnerOf_17 rfl ⟨rfl, hp_p0, hp_p2, hF⟩ (Nat.le_of_ble_eq_true rfl) (Nat.le_of_ble_eq_true rfl)
    rw [if_neg hk1] at hf
    cases hf
  obtain ⟨h0, hr, hn_this, hfr⟩ := hw
  rw [if_pos h0] at hf
  rw [hr]
  have hp_p2 := hfr.keep hp_p2 (by omega)
  have hp_p0 := hn_this
  have hF := hF.tr (hfr.l (by omega) (by omega))
  refine lv_i2l hx hb dL_partnerOf_7 rfl ?_
  refine mm_last0 hC hM hp_p2 dL_partnerOf_8 (fun w8 H locs hM hm => ?_)
  have hp_p0 := hp_p0.up hm (by omega)
  have hp_p2 := hm.1
  have hF := hF.tr (hm.r (by omega) (by omega))
  refine lv_goto (tgt := 18) hx hb dL_partnerOf_9 (by decide) ?_
  refine lv_iconst (v := 0) hx hb dL_partnerOf_18 (by decide) ?_
  cases hf
  exact hret hM dL_partnerOf_19 rfl ⟨rfl, hp_p0, hp_p2, hF⟩ (Nat.le_of_ble_eq_true rfl) (Nat.le_of_ble_eq_true rfl)
def f_L_append (p0_commandText_signs : Nat → Int32) (p0_commandText_length : Int32) (p2 : Nat → Int64) (x1 : Int32) : Option (Int32 × (Nat → Int32) × Int32 × (Nat → Int64)) := (f_X12_append p0_commandText_signs p0_commandText_length x1).bind fun q4 => if q4.1 = 0 then some (0, q4.2.2.1, q4.2.2.2, (vp_updL p2 0 q4.2.1.toInt64)) else if q4.1 = 4 then some (1, q4.2.2.1, q4.2.2.2, p2) else if q4.1 = 3 then some (2, q4.2.2.1, q4.2.2.2, p2) else none
set_option maxHeartbeats 4000000 in
set_option maxRecDepth 100000 in
theorem c_L_append (l : Launch) (hfl : l.stackTraces = false) {G : mm_G} {w : va_W} {sz : Nat} {b0 : Nat} {a2 : Nat} {p0_marsh_reeds_states : Nat → Int32} {p0_marsh_reeds_count : Int32} {p0_marsh_reeds_broken : Int32} {p0_marsh_fleet_numbers : Nat → Int32} {p0_marsh_fleet_cells : Nat → Int32} {p0_marsh_fleet_fares : Nat → Int32} {p0_marsh_fleet_count : Int32} {p0_marsh_fleet_nextNumber : Int32} {p0_marsh_fleet_total : Int32} {p0_marsh_fleet_removedFares : Int32} {p0_marsh_fleet_meetings : Int32} {p0_marsh_plans_moves : Nat → Int32} {p0_marsh_plans_lengths : Nat → Int32} {p0_marsh_landings_cells : Nat → Int32} {p0_marsh_landings_count : Int32} {p0_marsh_fogSide : Int32} {p0_snapshot_reeds_states : Nat → Int32} {p0_snapshot_reeds_count : Int32} {p0_snapshot_reeds_broken : Int32} {p0_snapshot_fleet_numbers : Nat → Int32} {p0_snapshot_fleet_cells : Nat → Int32} {p0_snapshot_fleet_fares : Nat → Int32} {p0_snapshot_fleet_count : Int32} {p0_snapshot_fleet_nextNumber : Int32} {p0_snapshot_fleet_total : Int32} {p0_snapshot_fleet_removedFares : Int32} {p0_snapshot_fleet_meetings : Int32} {p0_snapshot_plans_moves : Nat → Int32} {p0_snapshot_plans_lengths : Nat → Int32} {p0_snapshot_landings_cells : Nat → Int32} {p0_snapshot_landings_count : Int32} {p0_snapshot_fogSide : Int32} {p0_history_slots : Nat → mm_MV} {p0_history_free : Int32} {p0_history_count : Int32} {p0_ways_tolls : Nat → Int32} {p0_ways_queue : Nat → Int32} {p0_ways_heap : Nat → Int32} {p0_ways_heapSize : Int32} {p0_ways_found : Nat → Int32} {p0_ways_improved : Nat → Int32} {p0_pairing_costs : Nat → Int32} {p0_pairing_best : Nat → Int32} {p0_reader_kinds : Nat → Int32} {p0_reader_starts : Nat → Int32} {p0_reader_count : Int32} {p0_commandText_signs : Nat → Int32} {p0_commandText_length : Int32} {p0_line_signs : Nat → Int32} {p0_line_length : Int32} {p0_spareMoves : Nat → Int32} {p0_snapshotTaken : Int32} {p0_lastErrorPosition : Int32} {p0_lastFailedCommand : Int32} {p2 : Nat → Int64} {x1 : Int32} {X : Int32 × (Nat → Int32) × Int32 × (Nat → Int64)} (hf : f_L_append p0_commandText_signs p0_commandText_length p2 x1 = some X) (hp_p0 : At12 G w b0 p0_marsh_reeds_states p0_marsh_reeds_count p0_marsh_reeds_broken p0_marsh_fleet_numbers p0_marsh_fleet_cells p0_marsh_fleet_fares p0_marsh_fleet_count p0_marsh_fleet_nextNumber p0_marsh_fleet_total p0_marsh_fleet_removedFares p0_marsh_fleet_meetings p0_marsh_plans_moves p0_marsh_plans_lengths p0_marsh_landings_cells p0_marsh_landings_count p0_marsh_fogSide p0_snapshot_reeds_states p0_snapshot_reeds_count p0_snapshot_reeds_broken p0_snapshot_fleet_numbers p0_snapshot_fleet_cells p0_snapshot_fleet_fares p0_snapshot_fleet_count p0_snapshot_fleet_nextNumber p0_snapshot_fleet_total p0_snapshot_fleet_removedFares p0_snapshot_fleet_meetings p0_snapshot_plans_moves p0_snapshot_plans_lengths p0_snapshot_landings_cells p0_snapshot_landings_count p0_snapshot_fogSide p0_history_slots p0_history_free p0_history_count p0_ways_tolls p0_ways_queue p0_ways_heap p0_ways_heapSize p0_ways_found p0_ways_improved p0_pairing_costs p0_pairing_best p0_reader_kinds p0_reader_starts p0_reader_count p0_commandText_signs p0_commandText_length p0_line_signs p0_line_length p0_spareMoves p0_snapshotTaken p0_lastErrorPosition p0_lastFailedCommand) (hp_p2 : (a2, (.inl (G.2 3, 1, .inr (.inl p2)) : va_E)) ∈ w) (hd0 : b0 + 152 ≤ a2 ∨ a2 + 1 ≤ b0) : Met l yL_append (Cond.codeWith yL_append cL_append 4 (some .int) [(0, 9, 12, 36), (0, 9, 15, 15)] :: gAll) ({ frames := 8, cells := 1, slots := 6, locals := 141 }) (va_Pc [.ref b0, .int x1, .ref a2] (mm_Pre G w sz)) (mm_Qi G w sz (fun r w' => r = X.1 ∧ At12 G w' b0 p0_marsh_reeds_states p0_marsh_reeds_count p0_marsh_reeds_broken p0_marsh_fleet_numbers p0_marsh_fleet_cells p0_marsh_fleet_fares p0_marsh_fleet_count p0_marsh_fleet_nextNumber p0_marsh_fleet_total p0_marsh_fleet_removedFares p0_marsh_fleet_meetings p0_marsh_plans_moves p0_marsh_plans_lengths p0_marsh_landings_cells p0_marsh_landings_count p0_marsh_fogSide p0_snapshot_reeds_states p0_snapshot_reeds_count p0_snapshot_reeds_broken p0_snapshot_fleet_numbers p0_snapshot_fleet_cells p0_snapshot_fleet_fares p0_snapshot_fleet_count p0_snapshot_fleet_nextNumber p0_snapshot_fleet_total p0_snapshot_fleet_removedFares p0_snapshot_fleet_meetings p0_snapshot_plans_moves p0_snapshot_plans_lengths p0_snapshot_landings_cells p0_snapshot_landings_count p0_snapshot_fogSide p0_history_slots p0_history_free p0_history_count p0_ways_tolls p0_ways_queue p0_ways_heap p0_ways_heapSize p0_ways_found p0_ways_improved p0_pairing_costs p0_pairing_best p0_reader_kinds p0_reader_starts p0_reader_count X.2.1 X.2.2.1 p0_line_signs p0_line_length p0_spareMoves p0_snapshotTaken p0_lastErrorPosition p0_lastFailedCommand ∧ (a2, (.inl (G.2 3, 1, .inr (.inl X.2.2.2)) : va_E)) ∈ w' ∧ mm_fr2 w w' b0 (b0 + 152) a2 (a2 + 1))) 1 6 (va_A w sz) := by
  refine mm_hhead hfl [.ref b0, .int x1, .ref a2] (by decide +kernel) rfl (Nat.le_of_ble_eq_true rfl) ?_
  intro p e s m args below meth c A Q hsz hC hM hret hxt ls hl
  have hx := hC.1.1
  have hb := hC.1.2.1
  have hl : lv_has ls 4 [(0, .ref b0), (1, .int x1), (2, .ref a2)] := hl
  have hF : mm_fr2 w w b0 (b0 + 152) a2 (a2 + 1) := mm_fr2.rf
  rw [f_L_append] at hf
  refine lv_aload_n hx hb dL_append_0 rfl (lv_at hl 2 rfl) ?_
  refine lv_iconst (v := 0) hx hb dL_append_1 (by decide) ?_
  refine lv_aload_n hx hb dL_append_2 rfl (lv_at hl 0 rfl) ?_
  refine lv_iload_n hx hb dL_append_3 rfl (lv_at hl 1 rfl) ?_
  obtain ⟨q4, hq4, hf⟩ := mm_bd hf
  refine mm_xVi (rest := [.int 0, .ref a2]) hC hM (c_X12_append l hfl hq4 hp_p0) q6_0 q1_1 ykX12_append q5_237 q5_238 q5_239 hp_p0.1 rfl ⟨rfl, rfl⟩ ⟨Nat.le_of_ble_eq_true rfl, Nat.le_of_ble_eq_true rfl⟩ rfl hl.1 rfl (Nat.le_of_ble_eq_true rfl) dL_append_4 ⟨Nat.le_of_ble_eq_true rfl, Nat.le_of_ble_eq_true rfl⟩ (fun E ce qE w4 H locs hM hw hqE hv9 hcl9 => ?_) (fun r w4 H locs hM hw => ?_)
  · obtain ⟨hne, hE, hn_this, hfr⟩ := hw
    rw [if_neg hne] at hf
    by_cases hk0 : q4.1 = 4
    · rw [if_pos hk0] at hf
      have hEk : E = mm_ex 4 := by rw [hE, hk0]
      subst hEk
      have hp_p2 := hfr.keep hp_p2 (by omega)
      have hp_p0 := hn_this
      have hF := hF.tr (hfr.l (by omega) (by omega))
      refine vx_catch hC.1.2.2.2.1 [] ⟨0, 9, 12, 36⟩ [⟨0, 9, 15, 15⟩] hxt (fun z hz => absurd hz List.not_mem_nil) rfl (by decide) (hC.1.2.2.2.2 _ q4_101) (va_Nw.use rfl (hC.2.2.1.1.1 _ nw_castable_4)) hqE hv9 hcl9 ?_
      refine lv_astore_n (lv' := [(3, .ref qE), (0, .ref b0), (1, .int x1), (2, .ref a2)]) hx hb dL_append_12 rfl hl (by decide) rfl (fun ls hl => ?_)
      refine lv_iconst (v := 1) hx hb dL_append_13 (by decide) ?_
      cases hf
      exact hret hM dL_append_14 rfl ⟨rfl, hp_p0, hp_p2, hF⟩ (Nat.le_of_ble_eq_true rfl) (Nat.le_of_ble_eq_true rfl)
    rw [if_neg hk0] at hf
    by_cases hk1 : q4.1 = 3
    · rw [if_pos hk1] at hf
      have hEk : E = mm_ex 3 := by rw [hE, hk1]
      subst hEk
      have hp_p2 := hfr.keep hp_p2 (by omega)
      have hp_p0 := hn_this
      have hF := hF.tr (hfr.l (by omega) (by omega))
      refine vx_catch hC.1.2.2.2.1 [⟨0, 9, 12, 36⟩] ⟨0, 9, 15, 15⟩ [] hxt (List.forall_mem_cons.mpr ⟨Or.inr ⟨by decide, _, (hC.1.2.2.2.2 _ q4_101), hC.2.2.1.1.2.2 3 4 (by decide) (by decide) (by decide) (by decide) (by decide)⟩, (fun z hz => absurd hz List.not_mem_nil)⟩) rfl (by decide) (hC.1.2.2.2.2 _ q3_170) (va_Nw.use rfl (hC.2.2.1.1.1 _ nw_castable_3)) hqE hv9 hcl9 ?_
      refine lv_astore_n (lv' := [(3, .ref qE), (0, .ref b0), (1, .int x1), (2, .ref a2)]) hx hb dL_append_15 rfl hl (by decide) rfl (fun ls hl => ?_)
      refine lv_iconst (v := 2) hx hb dL_append_16 (by decide) ?_
      cases hf
      exact hret hM dL_append_17 rfl ⟨rfl, hp_p0, hp_p2, hF⟩ (Nat.le_of_ble_eq_true rfl) (Nat.le_of_ble_eq_true rfl)
    rw [if_neg hk1] at hf
    cases hf
  obtain ⟨h0, hr, hn_this, hfr⟩ := hw
  rw [if_pos h0] at hf
  rw [hr]
  have hp_p2 := hfr.keep hp_p2 (by omega)
  have hp_p0 := hn_this
  have hF := hF.tr (hfr.l (by omega) (by omega))
  refine lv_i2l hx hb dL_append_7 rfl ?_
  refine mm_last0 hC hM hp_p2 dL_append_8 (fun w8 H locs hM hm => ?_)
  have hp_p0 := hp_p0.up hm (by omega)
  have hp_p2 := hm.1
  have hF := hF.tr (hm.r (by omega) (by omega))
  refine lv_goto (tgt := 18) hx hb dL_append_9 (by decide) ?_
  refine lv_iconst (v := 0) hx hb dL_append_18 (by decide) ?_
  cases hf
  exact hret hM dL_append_19 rfl ⟨rfl, hp_p0, hp_p2, hF⟩ (Nat.le_of_ble_eq_true rfl) (Nat.le_of_ble_eq_true rfl)
def f_L_run (K : Nat) (p0_marsh_reeds_states : Nat → Int32) (p0_marsh_reeds_count : Int32) (p0_marsh_reeds_broken : Int32) (p0_marsh_fleet_numbers : Nat → Int32) (p0_marsh_fleet_cells : Nat → Int32) (p0_marsh_fleet_fares : Nat → Int32) (p0_marsh_fleet_count : Int32) (p0_marsh_fleet_nextNumber : Int32) (p0_marsh_fleet_total : Int32) (p0_marsh_fleet_removedFares : Int32) (p0_marsh_fleet_meetings : Int32) (p0_marsh_plans_moves : Nat → Int32) (p0_marsh_plans_lengths : Nat → Int32) (p0_marsh_landings_cells : Nat → Int32) (p0_marsh_landings_count : Int32) (p0_marsh_fogSide : Int32) (p0_history_slots : Nat → mm_MV) (p0_history_free : Int32) (p0_history_count : Int32) (p0_ways_tolls : Nat → Int32) (p0_ways_queue : Nat → Int32) (p0_ways_found : Nat → Int32) (p0_reader_kinds : Nat → Int32) (p0_reader_starts : Nat → Int32) (p0_commandText_signs : Nat → Int32) (p0_commandText_length : Int32) (p0_lastErrorPosition : Int32) (p0_lastFailedCommand : Int32) (p1 : Nat → Int64) : Option (Int32 × (Nat → Int32) × Int32 × Int32 × (Nat → Int32) × (Nat → Int32) × (Nat → Int32) × Int32 × Int32 × Int32 × Int32 × Int32 × (Nat → Int32) × (Nat → Int32) × (Nat → Int32) × Int32 × Int32 × (Nat → mm_MV) × Int32 × Int32 × (Nat → Int32) × (Nat → Int32) × (Nat → Int32) × (Nat → Int32) × (Nat → Int32) × Int32 × Int32 × Int32 × Int32 × (Nat → Int64)) := (f_X12_run K p0_marsh_reeds_states p0_marsh_reeds_count p0_marsh_reeds_broken p0_marsh_fleet_numbers p0_marsh_fleet_cells p0_marsh_fleet_fares p0_marsh_fleet_count p0_marsh_fleet_nextNumber p0_marsh_fleet_total p0_marsh_fleet_removedFares p0_marsh_fleet_meetings p0_marsh_plans_moves p0_marsh_plans_lengths p0_marsh_landings_cells p0_marsh_landings_count p0_marsh_fogSide p0_history_slots p0_history_free p0_history_count p0_ways_tolls p0_ways_queue p0_ways_found p0_reader_kinds p0_reader_starts p0_commandText_signs p0_commandText_length p0_lastErrorPosition p0_lastFailedCommand).bind fun q3 => if q3.1 = 0 then some (0, q3.2.2.1, q3.2.2.2.1, q3.2.2.2.2.1, q3.2.2.2.2.2.1, q3.2.2.2.2.2.2.1, q3.2.2.2.2.2.2.2.1, q3.2.2.2.2.2.2.2.2.1, q3.2.2.2.2.2.2.2.2.2.1, q3.2.2.2.2.2.2.2.2.2.2.1, q3.2.2.2.2.2.2.2.2.2.2.2.1, q3.2.2.2.2.2.2.2.2.2.2.2.2.1, q3.2.2.2.2.2.2.2.2.2.2.2.2.2.1, q3.2.2.2.2.2.2.2.2.2.2.2.2.2.2.1, q3.2.2.2.2.2.2.2.2.2.2.2.2.2.2.2.1, q3.2.2.2.2.2.2.2.2.2.2.2.2.2.2.2.2.1, q3.2.2.2.2.2.2.2.2.2.2.2.2.2.2.2.2.2.1, q3.2.2.2.2.2.2.2.2.2.2.2.2.2.2.2.2.2.2.1, q3.2.2.2.2.2.2.2.2.2.2.2.2.2.2.2.2.2.2.2.1, q3.2.2.2.2.2.2.2.2.2.2.2.2.2.2.2.2.2.2.2.2.1, q3.2.2.2.2.2.2.2.2.2.2.2.2.2.2.2.2.2.2.2.2.2.1, q3.2.2.2.2.2.2.2.2.2.2.2.2.2.2.2.2.2.2.2.2.2.2.1, q3.2.2.2.2.2.2.2.2.2.2.2.2.2.2.2.2.2.2.2.2.2.2.2.1, q3.2.2.2.2.2.2.2.2.2.2.2.2.2.2.2.2.2.2.2.2.2.2.2.2.1, q3.2.2.2.2.2.2.2.2.2.2.2.2.2.2.2.2.2.2.2.2.2.2.2.2.2.1, q3.2.2.2.2.2.2.2.2.2.2.2.2.2.2.2.2.2.2.2.2.2.2.2.2.2.2.1, q3.2.2.2.2.2.2.2.2.2.2.2.2.2.2.2.2.2.2.2.2.2.2.2.2.2.2.2.1, q3.2.2.2.2.2.2.2.2.2.2.2.2.2.2.2.2.2.2.2.2.2.2.2.2.2.2.2.2.1, q3.2.2.2.2.2.2.2.2.2.2.2.2.2.2.2.2.2.2.2.2.2.2.2.2.2.2.2.2.2, (vp_updL p1 0 q3.2.1.toInt64)) else if q3.1 = 4 then some (1, q3.2.2.1, q3.2.2.2.1, q3.2.2.2.2.1, q3.2.2.2.2.2.1, q3.2.2.2.2.2.2.1, q3.2.2.2.2.2.2.2.1, q3.2.2.2.2.2.2.2.2.1, q3.2.2.2.2.2.2.2.2.2.1, q3.2.2.2.2.2.2.2.2.2.2.1, q3.2.2.2.2.2.2.2.2.2.2.2.1, q3.2.2.2.2.2.2.2.2.2.2.2.2.1, q3.2.2.2.2.2.2.2.2.2.2.2.2.2.1, q3.2.2.2.2.2.2.2.2.2.2.2.2.2.2.1, q3.2.2.2.2.2.2.2.2.2.2.2.2.2.2.2.1, q3.2.2.2.2.2.2.2.2.2.2.2.2.2.2.2.2.1, q3.2.2.2.2.2.2.2.2.2.2.2.2.2.2.2.2.2.1, q3.2.2.2.2.2.2.2.2.2.2.2.2.2.2.2.2.2.2.1, q3.2.2.2.2.2.2.2.2.2.2.2.2.2.2.2.2.2.2.2.1, q3.2.2.2.2.2.2.2.2.2.2.2.2.2.2.2.2.2.2.2.2.1, q3.2.2.2.2.2.2.2.2.2.2.2.2.2.2.2.2.2.2.2.2.2.1, q3.2.2.2.2.2.2.2.2.2.2.2.2.2.2.2.2.2.2.2.2.2.2.1, q3.2.2.2.2.2.2.2.2.2.2.2.2.2.2.2.2.2.2.2.2.2.2.2.1, q3.2.2.2.2.2.2.2.2.2.2.2.2.2.2.2.2.2.2.2.2.2.2.2.2.1, q3.2.2.2.2.2.2.2.2.2.2.2.2.2.2.2.2.2.2.2.2.2.2.2.2.2.1, q3.2.2.2.2.2.2.2.2.2.2.2.2.2.2.2.2.2.2.2.2.2.2.2.2.2.2.1, q3.2.2.2.2.2.2.2.2.2.2.2.2.2.2.2.2.2.2.2.2.2.2.2.2.2.2.2.1, q3.2.2.2.2.2.2.2.2.2.2.2.2.2.2.2.2.2.2.2.2.2.2.2.2.2.2.2.2.1, q3.2.2.2.2.2.2.2.2.2.2.2.2.2.2.2.2.2.2.2.2.2.2.2.2.2.2.2.2.2, p1) else if q3.1 = 3 then some (2, q3.2.2.1, q3.2.2.2.1, q3.2.2.2.2.1, q3.2.2.2.2.2.1, q3.2.2.2.2.2.2.1, q3.2.2.2.2.2.2.2.1, q3.2.2.2.2.2.2.2.2.1, q3.2.2.2.2.2.2.2.2.2.1, q3.2.2.2.2.2.2.2.2.2.2.1, q3.2.2.2.2.2.2.2.2.2.2.2.1, q3.2.2.2.2.2.2.2.2.2.2.2.2.1, q3.2.2.2.2.2.2.2.2.2.2.2.2.2.1, q3.2.2.2.2.2.2.2.2.2.2.2.2.2.2.1, q3.2.2.2.2.2.2.2.2.2.2.2.2.2.2.2.1, q3.2.2.2.2.2.2.2.2.2.2.2.2.2.2.2.2.1, q3.2.2.2.2.2.2.2.2.2.2.2.2.2.2.2.2.2.1, q3.2.2.2.2.2.2.2.2.2.2.2.2.2.2.2.2.2.2.1, q3.2.2.2.2.2.2.2.2.2.2.2.2.2.2.2.2.2.2.2.1, q3.2.2.2.2.2.2.2.2.2.2.2.2.2.2.2.2.2.2.2.2.1, q3.2.2.2.2.2.2.2.2.2.2.2.2.2.2.2.2.2.2.2.2.2.1, q3.2.2.2.2.2.2.2.2.2.2.2.2.2.2.2.2.2.2.2.2.2.2.1, q3.2.2.2.2.2.2.2.2.2.2.2.2.2.2.2.2.2.2.2.2.2.2.2.1, q3.2.2.2.2.2.2.2.2.2.2.2.2.2.2.2.2.2.2.2.2.2.2.2.2.1, q3.2.2.2.2.2.2.2.2.2.2.2.2.2.2.2.2.2.2.2.2.2.2.2.2.2.1, q3.2.2.2.2.2.2.2.2.2.2.2.2.2.2.2.2.2.2.2.2.2.2.2.2.2.2.1, q3.2.2.2.2.2.2.2.2.2.2.2.2.2.2.2.2.2.2.2.2.2.2.2.2.2.2.2.1, q3.2.2.2.2.2.2.2.2.2.2.2.2.2.2.2.2.2.2.2.2.2.2.2.2.2.2.2.2.1, q3.2.2.2.2.2.2.2.2.2.2.2.2.2.2.2.2.2.2.2.2.2.2.2.2.2.2.2.2.2, p1) else none
set_option maxHeartbeats 4000000 in
set_option maxRecDepth 100000 in
theorem c_L_run (l : Launch) (hfl : l.stackTraces = false) {G : mm_G} {K : Nat} {w : va_W} {sz : Nat} {b0 : Nat} {a1 : Nat} {p0_marsh_reeds_states : Nat → Int32} {p0_marsh_reeds_count : Int32} {p0_marsh_reeds_broken : Int32} {p0_marsh_fleet_numbers : Nat → Int32} {p0_marsh_fleet_cells : Nat → Int32} {p0_marsh_fleet_fares : Nat → Int32} {p0_marsh_fleet_count : Int32} {p0_marsh_fleet_nextNumber : Int32} {p0_marsh_fleet_total : Int32} {p0_marsh_fleet_removedFares : Int32} {p0_marsh_fleet_meetings : Int32} {p0_marsh_plans_moves : Nat → Int32} {p0_marsh_plans_lengths : Nat → Int32} {p0_marsh_landings_cells : Nat → Int32} {p0_marsh_landings_count : Int32} {p0_marsh_fogSide : Int32} {p0_snapshot_reeds_states : Nat → Int32} {p0_snapshot_reeds_count : Int32} {p0_snapshot_reeds_broken : Int32} {p0_snapshot_fleet_numbers : Nat → Int32} {p0_snapshot_fleet_cells : Nat → Int32} {p0_snapshot_fleet_fares : Nat → Int32} {p0_snapshot_fleet_count : Int32} {p0_snapshot_fleet_nextNumber : Int32} {p0_snapshot_fleet_total : Int32} {p0_snapshot_fleet_removedFares : Int32} {p0_snapshot_fleet_meetings : Int32} {p0_snapshot_plans_moves : Nat → Int32} {p0_snapshot_plans_lengths : Nat → Int32} {p0_snapshot_landings_cells : Nat → Int32} {p0_snapshot_landings_count : Int32} {p0_snapshot_fogSide : Int32} {p0_history_slots : Nat → mm_MV} {p0_history_free : Int32} {p0_history_count : Int32} {p0_ways_tolls : Nat → Int32} {p0_ways_queue : Nat → Int32} {p0_ways_heap : Nat → Int32} {p0_ways_heapSize : Int32} {p0_ways_found : Nat → Int32} {p0_ways_improved : Nat → Int32} {p0_pairing_costs : Nat → Int32} {p0_pairing_best : Nat → Int32} {p0_reader_kinds : Nat → Int32} {p0_reader_starts : Nat → Int32} {p0_reader_count : Int32} {p0_commandText_signs : Nat → Int32} {p0_commandText_length : Int32} {p0_line_signs : Nat → Int32} {p0_line_length : Int32} {p0_spareMoves : Nat → Int32} {p0_snapshotTaken : Int32} {p0_lastErrorPosition : Int32} {p0_lastFailedCommand : Int32} {p1 : Nat → Int64} {X : Int32 × (Nat → Int32) × Int32 × Int32 × (Nat → Int32) × (Nat → Int32) × (Nat → Int32) × Int32 × Int32 × Int32 × Int32 × Int32 × (Nat → Int32) × (Nat → Int32) × (Nat → Int32) × Int32 × Int32 × (Nat → mm_MV) × Int32 × Int32 × (Nat → Int32) × (Nat → Int32) × (Nat → Int32) × (Nat → Int32) × (Nat → Int32) × Int32 × Int32 × Int32 × Int32 × (Nat → Int64)} (hf : f_L_run K p0_marsh_reeds_states p0_marsh_reeds_count p0_marsh_reeds_broken p0_marsh_fleet_numbers p0_marsh_fleet_cells p0_marsh_fleet_fares p0_marsh_fleet_count p0_marsh_fleet_nextNumber p0_marsh_fleet_total p0_marsh_fleet_removedFares p0_marsh_fleet_meetings p0_marsh_plans_moves p0_marsh_plans_lengths p0_marsh_landings_cells p0_marsh_landings_count p0_marsh_fogSide p0_history_slots p0_history_free p0_history_count p0_ways_tolls p0_ways_queue p0_ways_found p0_reader_kinds p0_reader_starts p0_commandText_signs p0_commandText_length p0_lastErrorPosition p0_lastFailedCommand p1 = some X) (hp_p0 : At12 G w b0 p0_marsh_reeds_states p0_marsh_reeds_count p0_marsh_reeds_broken p0_marsh_fleet_numbers p0_marsh_fleet_cells p0_marsh_fleet_fares p0_marsh_fleet_count p0_marsh_fleet_nextNumber p0_marsh_fleet_total p0_marsh_fleet_removedFares p0_marsh_fleet_meetings p0_marsh_plans_moves p0_marsh_plans_lengths p0_marsh_landings_cells p0_marsh_landings_count p0_marsh_fogSide p0_snapshot_reeds_states p0_snapshot_reeds_count p0_snapshot_reeds_broken p0_snapshot_fleet_numbers p0_snapshot_fleet_cells p0_snapshot_fleet_fares p0_snapshot_fleet_count p0_snapshot_fleet_nextNumber p0_snapshot_fleet_total p0_snapshot_fleet_removedFares p0_snapshot_fleet_meetings p0_snapshot_plans_moves p0_snapshot_plans_lengths p0_snapshot_landings_cells p0_snapshot_landings_count p0_snapshot_fogSide p0_history_slots p0_history_free p0_history_count p0_ways_tolls p0_ways_queue p0_ways_heap p0_ways_heapSize p0_ways_found p0_ways_improved p0_pairing_costs p0_pairing_best p0_reader_kinds p0_reader_starts p0_reader_count p0_commandText_signs p0_commandText_length p0_line_signs p0_line_length p0_spareMoves p0_snapshotTaken p0_lastErrorPosition p0_lastFailedCommand) (hp_p1 : (a1, (.inl (G.2 3, 1, .inr (.inl p1)) : va_E)) ∈ w) (hd0 : b0 + 152 ≤ a1 ∨ a1 + 1 ≤ b0) : Met l yL_run (Cond.codeWith yL_run cL_run 3 (some .int) [(0, 8, 11, 36), (0, 8, 14, 15)] :: gAll) ({ frames := 8, cells := 1, slots := 6, locals := 216 }) (va_Pc [.ref b0, .ref a1] (mm_Pre G w sz)) (mm_Qi G w sz (fun r w' => r = X.1 ∧ At12 G w' b0 X.2.1 X.2.2.1 X.2.2.2.1 X.2.2.2.2.1 X.2.2.2.2.2.1 X.2.2.2.2.2.2.1 X.2.2.2.2.2.2.2.1 X.2.2.2.2.2.2.2.2.1 X.2.2.2.2.2.2.2.2.2.1 X.2.2.2.2.2.2.2.2.2.2.1 X.2.2.2.2.2.2.2.2.2.2.2.1 X.2.2.2.2.2.2.2.2.2.2.2.2.1 X.2.2.2.2.2.2.2.2.2.2.2.2.2.1 X.2.2.2.2.2.2.2.2.2.2.2.2.2.2.1 X.2.2.2.2.2.2.2.2.2.2.2.2.2.2.2.1 X.2.2.2.2.2.2.2.2.2.2.2.2.2.2.2.2.1 p0_snapshot_reeds_states p0_snapshot_reeds_count p0_snapshot_reeds_broken p0_snapshot_fleet_numbers p0_snapshot_fleet_cells p0_snapshot_fleet_fares p0_snapshot_fleet_count p0_snapshot_fleet_nextNumber p0_snapshot_fleet_total p0_snapshot_fleet_removedFares p0_snapshot_fleet_meetings p0_snapshot_plans_moves p0_snapshot_plans_lengths p0_snapshot_landings_cells p0_snapshot_landings_count p0_snapshot_fogSide X.2.2.2.2.2.2.2.2.2.2.2.2.2.2.2.2.2.1 X.2.2.2.2.2.2.2.2.2.2.2.2.2.2.2.2.2.2.1 X.2.2.2.2.2.2.2.2.2.2.2.2.2.2.2.2.2.2.2.1 X.2.2.2.2.2.2.2.2.2.2.2.2.2.2.2.2.2.2.2.2.1 X.2.2.2.2.2.2.2.2.2.2.2.2.2.2.2.2.2.2.2.2.2.1 p0_ways_heap p0_ways_heapSize X.2.2.2.2.2.2.2.2.2.2.2.2.2.2.2.2.2.2.2.2.2.2.1 p0_ways_improved p0_pairing_costs p0_pairing_best X.2.2.2.2.2.2.2.2.2.2.2.2.2.2.2.2.2.2.2.2.2.2.2.1 X.2.2.2.2.2.2.2.2.2.2.2.2.2.2.2.2.2.2.2.2.2.2.2.2.1 X.2.2.2.2.2.2.2.2.2.2.2.2.2.2.2.2.2.2.2.2.2.2.2.2.2.1 p0_commandText_signs X.2.2.2.2.2.2.2.2.2.2.2.2.2.2.2.2.2.2.2.2.2.2.2.2.2.2.1 p0_line_signs p0_line_length p0_spareMoves p0_snapshotTaken X.2.2.2.2.2.2.2.2.2.2.2.2.2.2.2.2.2.2.2.2.2.2.2.2.2.2.2.1 X.2.2.2.2.2.2.2.2.2.2.2.2.2.2.2.2.2.2.2.2.2.2.2.2.2.2.2.2.1 ∧ (a1, (.inl (G.2 3, 1, .inr (.inl X.2.2.2.2.2.2.2.2.2.2.2.2.2.2.2.2.2.2.2.2.2.2.2.2.2.2.2.2.2)) : va_E)) ∈ w' ∧ mm_fr2 w w' b0 (b0 + 152) a1 (a1 + 1))) 1 6 (va_A w sz) := by
  refine mm_hhead hfl [.ref b0, .ref a1] (by decide +kernel) rfl (Nat.le_of_ble_eq_true rfl) ?_
  intro p e s m args below meth c A Q hsz hC hM hret hxt ls hl
  have hx := hC.1.1
  have hb := hC.1.2.1
  have hl : lv_has ls 3 [(0, .ref b0), (1, .ref a1)] := hl
  have hF : mm_fr2 w w b0 (b0 + 152) a1 (a1 + 1) := mm_fr2.rf
  rw [f_L_run] at hf
  refine lv_aload_n hx hb dL_run_0 rfl (lv_at hl 1 rfl) ?_
  refine lv_iconst (v := 0) hx hb dL_run_1 (by decide) ?_
  refine lv_aload_n hx hb dL_run_2 rfl (lv_at hl 0 rfl) ?_
  obtain ⟨q3, hq3, hf⟩ := mm_bd hf
  refine mm_xVi (rest := [.int 0, .ref a1]) hC hM (c_X12_run l hfl hq3 hp_p0) q6_11 q1_1 ykX12_run q6_8 q6_9 q6_10 hp_p0.1 rfl ⟨rfl, rfl⟩ ⟨Nat.le_of_ble_eq_true rfl, Nat.le_of_ble_eq_true rfl⟩ rfl hl.1 rfl (Nat.le_of_ble_eq_true rfl) dL_run_3 ⟨Nat.le_of_ble_eq_true rfl, Nat.le_of_ble_eq_true rfl⟩ (fun E ce qE w3 H locs hM hw hqE hv9 hcl9 => ?_) (fun r w3 H locs hM hw => ?_)
  · obtain ⟨hne, hE, hn_this, hfr⟩ := hw
    rw [if_neg hne] at hf
    by_cases hk0 : q3.1 = 4
    · rw [if_pos hk0] at hf
      have hEk : E = mm_ex 4 := by rw [hE, hk0]
      subst hEk
      have hp_p1 := hfr.keep hp_p1 (by omega)
      have hp_p0 := hn_this
      have hF := hF.tr (hfr.l (by omega) (by omega))
      refine vx_catch hC.1.2.2.2.1 [] ⟨0, 8, 11, 36⟩ [⟨0, 8, 14, 15⟩] hxt (fun z hz => absurd hz List.not_mem_nil) rfl (by decide) (hC.1.2.2.2.2 _ q4_101) (va_Nw.use rfl (hC.2.2.1.1.1 _ nw_castable_4)) hqE hv9 hcl9 ?_
      refine lv_astore_n (lv' := [(2, .ref qE), (0, .ref b0), (1, .ref a1)]) hx hb dL_run_11 rfl hl (by decide) rfl (fun ls hl => ?_)
      refine lv_iconst (v := 1) hx hb dL_run_12 (by decide) ?_
      cases hf
      exact hret hM dL_run_13 rfl ⟨rfl, hp_p0, hp_p1, hF⟩ (Nat.le_of_ble_eq_true rfl) (Nat.le_of_ble_eq_true rfl)
    rw [if_neg hk0] at hf
    by_cases hk1 : q3.1 = 3
    · rw [if_pos hk1] at hf
      have hEk : E = mm_ex 3 := by rw [hE, hk1]
      subst hEk
      have hp_p1 := hfr.keep hp_p1 (by omega)
      have hp_p0 := hn_this
      have hF := hF.tr (hfr.l (by omega) (by omega))
      refine vx_catch hC.1.2.2.2.1 [⟨0, 8, 11, 36⟩] ⟨0, 8, 14, 15⟩ [] hxt (List.forall_mem_cons.mpr ⟨Or.inr ⟨by decide, _, (hC.1.2.2.2.2 _ q4_101), hC.2.2.1.1.2.2 3 4 (by decide) (by decide) (by decide) (by decide) (by decide)⟩, (fun z hz => absurd hz List.not_mem_nil)⟩) rfl (by decide) (hC.1.2.2.2.2 _ q3_170) (va_Nw.use rfl (hC.2.2.1.1.1 _ nw_castable_3)) hqE hv9 hcl9 ?_
      refine lv_astore_n (lv' := [(2, .ref qE), (0, .ref b0), (1, .ref a1)]) hx hb dL_run_14 rfl hl (by decide) rfl (fun ls hl => ?_)
      refine lv_iconst (v := 2) hx hb dL_run_15 (by decide) ?_
      cases hf
      exact hret hM dL_run_16 rfl ⟨rfl, hp_p0, hp_p1, hF⟩ (Nat.le_of_ble_eq_true rfl) (Nat.le_of_ble_eq_true rfl)
    rw [if_neg hk1] at hf
    cases hf
  obtain ⟨h0, hr, hn_this, hfr⟩ := hw
  rw [if_pos h0] at hf
  rw [hr]
  have hp_p1 := hfr.keep hp_p1 (by omega)
  have hp_p0 := hn_this
  have hF := hF.tr (hfr.l (by omega) (by omega))
  refine lv_i2l hx hb dL_run_6 rfl ?_
  refine mm_last0 hC hM hp_p1 dL_run_7 (fun w7 H locs hM hm => ?_)
  have hp_p0 := hp_p0.up hm (by omega)
  have hp_p1 := hm.1
  have hF := hF.tr (hm.r (by omega) (by omega))
  refine lv_goto (tgt := 17) hx hb dL_run_8 (by decide) ?_
  refine lv_iconst (v := 0) hx hb dL_run_17 (by decide) ?_
  cases hf
  exact hret hM dL_run_18 rfl ⟨rfl, hp_p0, hp_p1, hF⟩ (Nat.le_of_ble_eq_true rfl) (Nat.le_of_ble_eq_true rfl)
def f_L_errorPosition (p0_lastErrorPosition : Int32) (p1 : Nat → Int64) : Option (Int32 × (Nat → Int64)) := (f_X12_errorPosition p0_lastErrorPosition).bind fun q3 => if q3.1 = 0 then some (0, (vp_updL p1 0 q3.2.toInt64)) else if q3.1 = 2 then some (1, p1) else none
set_option maxHeartbeats 4000000 in
set_option maxRecDepth 100000 in
theorem c_L_errorPosition (l : Launch) (hfl : l.stackTraces = false) {G : mm_G} {w : va_W} {sz : Nat} {b0 : Nat} {a1 : Nat} {p0_marsh_reeds_states : Nat → Int32} {p0_marsh_reeds_count : Int32} {p0_marsh_reeds_broken : Int32} {p0_marsh_fleet_numbers : Nat → Int32} {p0_marsh_fleet_cells : Nat → Int32} {p0_marsh_fleet_fares : Nat → Int32} {p0_marsh_fleet_count : Int32} {p0_marsh_fleet_nextNumber : Int32} {p0_marsh_fleet_total : Int32} {p0_marsh_fleet_removedFares : Int32} {p0_marsh_fleet_meetings : Int32} {p0_marsh_plans_moves : Nat → Int32} {p0_marsh_plans_lengths : Nat → Int32} {p0_marsh_landings_cells : Nat → Int32} {p0_marsh_landings_count : Int32} {p0_marsh_fogSide : Int32} {p0_snapshot_reeds_states : Nat → Int32} {p0_snapshot_reeds_count : Int32} {p0_snapshot_reeds_broken : Int32} {p0_snapshot_fleet_numbers : Nat → Int32} {p0_snapshot_fleet_cells : Nat → Int32} {p0_snapshot_fleet_fares : Nat → Int32} {p0_snapshot_fleet_count : Int32} {p0_snapshot_fleet_nextNumber : Int32} {p0_snapshot_fleet_total : Int32} {p0_snapshot_fleet_removedFares : Int32} {p0_snapshot_fleet_meetings : Int32} {p0_snapshot_plans_moves : Nat → Int32} {p0_snapshot_plans_lengths : Nat → Int32} {p0_snapshot_landings_cells : Nat → Int32} {p0_snapshot_landings_count : Int32} {p0_snapshot_fogSide : Int32} {p0_history_slots : Nat → mm_MV} {p0_history_free : Int32} {p0_history_count : Int32} {p0_ways_tolls : Nat → Int32} {p0_ways_queue : Nat → Int32} {p0_ways_heap : Nat → Int32} {p0_ways_heapSize : Int32} {p0_ways_found : Nat → Int32} {p0_ways_improved : Nat → Int32} {p0_pairing_costs : Nat → Int32} {p0_pairing_best : Nat → Int32} {p0_reader_kinds : Nat → Int32} {p0_reader_starts : Nat → Int32} {p0_reader_count : Int32} {p0_commandText_signs : Nat → Int32} {p0_commandText_length : Int32} {p0_line_signs : Nat → Int32} {p0_line_length : Int32} {p0_spareMoves : Nat → Int32} {p0_snapshotTaken : Int32} {p0_lastErrorPosition : Int32} {p0_lastFailedCommand : Int32} {p1 : Nat → Int64} {X : Int32 × (Nat → Int64)} (hf : f_L_errorPosition p0_lastErrorPosition p1 = some X) (hp_p0 : At12 G w b0 p0_marsh_reeds_states p0_marsh_reeds_count p0_marsh_reeds_broken p0_marsh_fleet_numbers p0_marsh_fleet_cells p0_marsh_fleet_fares p0_marsh_fleet_count p0_marsh_fleet_nextNumber p0_marsh_fleet_total p0_marsh_fleet_removedFares p0_marsh_fleet_meetings p0_marsh_plans_moves p0_marsh_plans_lengths p0_marsh_landings_cells p0_marsh_landings_count p0_marsh_fogSide p0_snapshot_reeds_states p0_snapshot_reeds_count p0_snapshot_reeds_broken p0_snapshot_fleet_numbers p0_snapshot_fleet_cells p0_snapshot_fleet_fares p0_snapshot_fleet_count p0_snapshot_fleet_nextNumber p0_snapshot_fleet_total p0_snapshot_fleet_removedFares p0_snapshot_fleet_meetings p0_snapshot_plans_moves p0_snapshot_plans_lengths p0_snapshot_landings_cells p0_snapshot_landings_count p0_snapshot_fogSide p0_history_slots p0_history_free p0_history_count p0_ways_tolls p0_ways_queue p0_ways_heap p0_ways_heapSize p0_ways_found p0_ways_improved p0_pairing_costs p0_pairing_best p0_reader_kinds p0_reader_starts p0_reader_count p0_commandText_signs p0_commandText_length p0_line_signs p0_line_length p0_spareMoves p0_snapshotTaken p0_lastErrorPosition p0_lastFailedCommand) (hp_p1 : (a1, (.inl (G.2 3, 1, .inr (.inl p1)) : va_E)) ∈ w) (hd0 : b0 + 152 ≤ a1 ∨ a1 + 1 ≤ b0) : Met l yL_errorPosition (Cond.codeWith yL_errorPosition cL_errorPosition 3 (some .int) [(0, 8, 11, 20)] :: gAll) ({ frames := 8, cells := 1, slots := 6, locals := 140 }) (va_Pc [.ref b0, .ref a1] (mm_Pre G w sz)) (mm_Qi G w sz (fun r w' => r = X.1 ∧ (a1, (.inl (G.2 3, 1, .inr (.inl X.2)) : va_E)) ∈ w' ∧ mm_fr w w' a1 (a1 + 1))) 1 6 (va_A w sz) := by
  refine mm_hhead hfl [.ref b0, .ref a1] (by decide +kernel) rfl (Nat.le_of_ble_eq_true rfl) ?_
  intro p e s m args below meth c A Q hsz hC hM hret hxt ls hl
  have hx := hC.1.1
  have hb := hC.1.2.1
  have hl : lv_has ls 3 [(0, .ref b0), (1, .ref a1)] := hl
  have hF : mm_fr w w a1 (a1 + 1) := mm_fr.rf
  rw [f_L_errorPosition] at hf
  refine lv_aload_n hx hb dL_errorPosition_0 rfl (lv_at hl 1 rfl) ?_
  refine lv_iconst (v := 0) hx hb dL_errorPosition_1 (by decide) ?_
  refine lv_aload_n hx hb dL_errorPosition_2 rfl (lv_at hl 0 rfl) ?_
  obtain ⟨q3, hq3, hf⟩ := mm_bd hf
  refine mm_xVi (rest := [.int 0, .ref a1]) hC hM (c_X12_errorPosition l hfl hq3 hp_p0) q6_142 q1_1 ykX12_errorPosition q6_139 q6_140 q6_141 hp_p0.1 rfl ⟨rfl, rfl⟩ ⟨Nat.le_of_ble_eq_true rfl, Nat.le_of_ble_eq_true rfl⟩ rfl hl.1 rfl (Nat.le_of_ble_eq_true rfl) dL_errorPosition_3 ⟨Nat.le_of_ble_eq_true rfl, Nat.le_of_ble_eq_true rfl⟩ (fun E ce qE w3 H locs hM hw hqE hv9 hcl9 => ?_) (fun r w3 H locs hM hw => ?_)
  · obtain ⟨hne, hE, hw⟩ := hw
    rw [if_neg hne] at hf
    by_cases hk0 : q3.1 = 2
    · rw [if_pos hk0] at hf
      have hEk : E = mm_ex 2 := by rw [hE, hk0]
      subst hEk
      rw [hw] at hM
      refine vx_catch hC.1.2.2.2.1 [] ⟨0, 8, 11, 20⟩ [] hxt (fun z hz => absurd hz List.not_mem_nil) rfl (by decide) (hC.1.2.2.2.2 _ q4_51) (va_Nw.use rfl (hC.2.2.1.1.1 _ nw_castable_2)) hqE hv9 hcl9 ?_
      refine lv_astore_n (lv' := [(2, .ref qE), (0, .ref b0), (1, .ref a1)]) hx hb dL_errorPosition_11 rfl hl (by decide) rfl (fun ls hl => ?_)
      refine lv_iconst (v := 1) hx hb dL_errorPosition_12 (by decide) ?_
      cases hf
      exact hret hM dL_errorPosition_13 rfl ⟨rfl, hp_p1, hF⟩ (Nat.le_of_ble_eq_true rfl) (Nat.le_of_ble_eq_true rfl)
    rw [if_neg hk0] at hf
    cases hf
  obtain ⟨h0, hr, hw⟩ := hw
  rw [if_pos h0] at hf
  rw [hr]
  rw [hw] at hM
  refine lv_i2l hx hb dL_errorPosition_6 rfl ?_
  refine mm_last0 hC hM hp_p1 dL_errorPosition_7 (fun w7 H locs hM hm => ?_)
  have hp_p0 := hp_p0.up hm (by omega)
  have hp_p1 := hm.1
  have hF := hF.tr (hm.fr (by omega) (by omega))
  refine lv_goto (tgt := 14) hx hb dL_errorPosition_8 (by decide) ?_
  refine lv_iconst (v := 0) hx hb dL_errorPosition_14 (by decide) ?_
  cases hf
  exact hret hM dL_errorPosition_15 rfl ⟨rfl, hp_p1, hF⟩ (Nat.le_of_ble_eq_true rfl) (Nat.le_of_ble_eq_true rfl)
def f_L_failedCommand (p0_lastFailedCommand : Int32) (p1 : Nat → Int64) : Option (Int32 × (Nat → Int64)) := (f_X12_failedCommand p0_lastFailedCommand).bind fun q3 => if q3.1 = 0 then some (0, (vp_updL p1 0 q3.2.toInt64)) else if q3.1 = 2 then some (1, p1) else none
set_option maxHeartbeats 4000000 in
set_option maxRecDepth 100000 in
theorem c_L_failedCommand (l : Launch) (hfl : l.stackTraces = false) {G : mm_G} {w : va_W} {sz : Nat} {b0 : Nat} {a1 : Nat} {p0_marsh_reeds_states : Nat → Int32} {p0_marsh_reeds_count : Int32} {p0_marsh_reeds_broken : Int32} {p0_marsh_fleet_numbers : Nat → Int32} {p0_marsh_fleet_cells : Nat → Int32} {p0_marsh_fleet_fares : Nat → Int32} {p0_marsh_fleet_count : Int32} {p0_marsh_fleet_nextNumber : Int32} {p0_marsh_fleet_total : Int32} {p0_marsh_fleet_removedFares : Int32} {p0_marsh_fleet_meetings : Int32} {p0_marsh_plans_moves : Nat → Int32} {p0_marsh_plans_lengths : Nat → Int32} {p0_marsh_landings_cells : Nat → Int32} {p0_marsh_landings_count : Int32} {p0_marsh_fogSide : Int32} {p0_snapshot_reeds_states : Nat → Int32} {p0_snapshot_reeds_count : Int32} {p0_snapshot_reeds_broken : Int32} {p0_snapshot_fleet_numbers : Nat → Int32} {p0_snapshot_fleet_cells : Nat → Int32} {p0_snapshot_fleet_fares : Nat → Int32} {p0_snapshot_fleet_count : Int32} {p0_snapshot_fleet_nextNumber : Int32} {p0_snapshot_fleet_total : Int32} {p0_snapshot_fleet_removedFares : Int32} {p0_snapshot_fleet_meetings : Int32} {p0_snapshot_plans_moves : Nat → Int32} {p0_snapshot_plans_lengths : Nat → Int32} {p0_snapshot_landings_cells : Nat → Int32} {p0_snapshot_landings_count : Int32} {p0_snapshot_fogSide : Int32} {p0_history_slots : Nat → mm_MV} {p0_history_free : Int32} {p0_history_count : Int32} {p0_ways_tolls : Nat → Int32} {p0_ways_queue : Nat → Int32} {p0_ways_heap : Nat → Int32} {p0_ways_heapSize : Int32} {p0_ways_found : Nat → Int32} {p0_ways_improved : Nat → Int32} {p0_pairing_costs : Nat → Int32} {p0_pairing_best : Nat → Int32} {p0_reader_kinds : Nat → Int32} {p0_reader_starts : Nat → Int32} {p0_reader_count : Int32} {p0_commandText_signs : Nat → Int32} {p0_commandText_length : Int32} {p0_line_signs : Nat → Int32} {p0_line_length : Int32} {p0_spareMoves : Nat → Int32} {p0_snapshotTaken : Int32} {p0_lastErrorPosition : Int32} {p0_lastFailedCommand : Int32} {p1 : Nat → Int64} {X : Int32 × (Nat → Int64)} (hf : f_L_failedCommand p0_lastFailedCommand p1 = some X) (hp_p0 : At12 G w b0 p0_marsh_reeds_states p0_marsh_reeds_count p0_marsh_reeds_broken p0_marsh_fleet_numbers p0_marsh_fleet_cells p0_marsh_fleet_fares p0_marsh_fleet_count p0_marsh_fleet_nextNumber p0_marsh_fleet_total p0_marsh_fleet_removedFares p0_marsh_fleet_meetings p0_marsh_plans_moves p0_marsh_plans_lengths p0_marsh_landings_cells p0_marsh_landings_count p0_marsh_fogSide p0_snapshot_reeds_states p0_snapshot_reeds_count p0_snapshot_reeds_broken p0_snapshot_fleet_numbers p0_snapshot_fleet_cells p0_snapshot_fleet_fares p0_snapshot_fleet_count p0_snapshot_fleet_nextNumber p0_snapshot_fleet_total p0_snapshot_fleet_removedFares p0_snapshot_fleet_meetings p0_snapshot_plans_moves p0_snapshot_plans_lengths p0_snapshot_landings_cells p0_snapshot_landings_count p0_snapshot_fogSide p0_history_slots p0_history_free p0_history_count p0_ways_tolls p0_ways_queue p0_ways_heap p0_ways_heapSize p0_ways_found p0_ways_improved p0_pairing_costs p0_pairing_best p0_reader_kinds p0_reader_starts p0_reader_count p0_commandText_signs p0_commandText_length p0_line_signs p0_line_length p0_spareMoves p0_snapshotTaken p0_lastErrorPosition p0_lastFailedCommand) (hp_p1 : (a1, (.inl (G.2 3, 1, .inr (.inl p1)) : va_E)) ∈ w) (hd0 : b0 + 152 ≤ a1 ∨ a1 + 1 ≤ b0) : Met l yL_failedCommand (Cond.codeWith yL_failedCommand cL_failedCommand 3 (some .int) [(0, 8, 11, 20)] :: gAll) ({ frames := 8, cells := 1, slots := 6, locals := 140 }) (va_Pc [.ref b0, .ref a1] (mm_Pre G w sz)) (mm_Qi G w sz (fun r w' => r = X.1 ∧ (a1, (.inl (G.2 3, 1, .inr (.inl X.2)) : va_E)) ∈ w' ∧ mm_fr w w' a1 (a1 + 1))) 1 6 (va_A w sz) := by
  refine mm_hhead hfl [.ref b0, .ref a1] (by decide +kernel) rfl (Nat.le_of_ble_eq_true rfl) ?_
  intro p e s m args below meth c A Q hsz hC hM hret hxt ls hl
  have hx := hC.1.1
  have hb := hC.1.2.1
  have hl : lv_has ls 3 [(0, .ref b0), (1, .ref a1)] := hl
  have hF : mm_fr w w a1 (a1 + 1) := mm_fr.rf
  rw [f_L_failedCommand] at hf
  refine lv_aload_n hx hb dL_failedCommand_0 rfl (lv_at hl 1 rfl) ?_
  refine lv_iconst (v := 0) hx hb dL_failedCommand_1 (by decide) ?_
  refine lv_aload_n hx hb dL_failedCommand_2 rfl (lv_at hl 0 rfl) ?_
  obtain ⟨q3, hq3, hf⟩ := mm_bd hf
  refine mm_xVi (rest := [.int 0, .ref a1]) hC hM (c_X12_failedCommand l hfl hq3 hp_p0) q6_149 q1_1 ykX12_failedCommand q6_146 q6_147 q6_148 hp_p0.1 rfl ⟨rfl, rfl⟩ ⟨Nat.le_of_ble_eq_true rfl, Nat.le_of_ble_eq_true rfl⟩ rfl hl.1 rfl (Nat.le_of_ble_eq_true rfl) dL_failedCommand_3 ⟨Nat.le_of_ble_eq_true rfl, Nat.le_of_ble_eq_true rfl⟩ (fun E ce qE w3 H locs hM hw hqE hv9 hcl9 => ?_) (fun r w3 H locs hM hw => ?_)
  · obtain ⟨hne, hE, hw⟩ := hw
    rw [if_neg hne] at hf
    by_cases hk0 : q3.1 = 2
    · rw [if_pos hk0] at hf
      have hEk : E = mm_ex 2 := by rw [hE, hk0]
      subst hEk
      rw [hw] at hM
      refine vx_catch hC.1.2.2.2.1 [] ⟨0, 8, 11, 20⟩ [] hxt (fun z hz => absurd hz List.not_mem_nil) rfl (by decide) (hC.1.2.2.2.2 _ q4_51) (va_Nw.use rfl (hC.2.2.1.1.1 _ nw_castable_2)) hqE hv9 hcl9 ?_
      refine lv_astore_n (lv' := [(2, .ref qE), (0, .ref b0), (1, .ref a1)]) hx hb dL_failedCommand_11 rfl hl (by decide) rfl (fun ls hl => ?_)
      refine lv_iconst (v := 1) hx hb dL_failedCommand_12 (by decide) ?_
      cases hf
      exact hret hM dL_failedCommand_13 rfl ⟨rfl, hp_p1, hF⟩ (Nat.le_of_ble_eq_true rfl) (Nat.le_of_ble_eq_true rfl)
    rw [if_neg hk0] at hf
    cases hf
  obtain ⟨h0, hr, hw⟩ := hw
  rw [if_pos h0] at hf
  rw [hr]
  rw [hw] at hM
  refine lv_i2l hx hb dL_failedCommand_6 rfl ?_
  refine mm_last0 hC hM hp_p1 dL_failedCommand_7 (fun w7 H locs hM hm => ?_)
  have hp_p0 := hp_p0.up hm (by omega)
  have hp_p1 := hm.1
  have hF := hF.tr (hm.fr (by omega) (by omega))
  refine lv_goto (tgt := 14) hx hb dL_failedCommand_8 (by decide) ?_
  refine lv_iconst (v := 0) hx hb dL_failedCommand_14 (by decide) ?_
  cases hf
  exact hret hM dL_failedCommand_15 rfl ⟨rfl, hp_p1, hF⟩ (Nat.le_of_ble_eq_true rfl) (Nat.le_of_ble_eq_true rfl)
def f_L_describeRow (K : Nat) (p0_marsh_reeds_states : Nat → Int32) (p0_marsh_fleet_numbers : Nat → Int32) (p0_marsh_fleet_cells : Nat → Int32) (p0_marsh_fleet_count : Int32) (p0_line_signs : Nat → Int32) (p0_line_length : Int32) (p2 : Nat → Int64) (x1 : Int32) : Option (Int32 × (Nat → Int32) × Int32 × (Nat → Int64)) := (f_X12_describeRow K p0_marsh_reeds_states p0_marsh_fleet_numbers p0_marsh_fleet_cells p0_marsh_fleet_count p0_line_signs p0_line_length x1).bind fun q4 => if q4.1 = 0 then some (0, q4.2.2.1, q4.2.2.2, (vp_updL p2 0 q4.2.1.toInt64)) else if q4.1 = 1 then some (1, q4.2.2.1, q4.2.2.2, p2) else none
set_option maxHeartbeats 4000000 in
set_option maxRecDepth 100000 in
theorem c_L_describeRow (l : Launch) (hfl : l.stackTraces = false) {G : mm_G} {K : Nat} {w : va_W} {sz : Nat} {b0 : Nat} {a2 : Nat} {p0_marsh_reeds_states : Nat → Int32} {p0_marsh_reeds_count : Int32} {p0_marsh_reeds_broken : Int32} {p0_marsh_fleet_numbers : Nat → Int32} {p0_marsh_fleet_cells : Nat → Int32} {p0_marsh_fleet_fares : Nat → Int32} {p0_marsh_fleet_count : Int32} {p0_marsh_fleet_nextNumber : Int32} {p0_marsh_fleet_total : Int32} {p0_marsh_fleet_removedFares : Int32} {p0_marsh_fleet_meetings : Int32} {p0_marsh_plans_moves : Nat → Int32} {p0_marsh_plans_lengths : Nat → Int32} {p0_marsh_landings_cells : Nat → Int32} {p0_marsh_landings_count : Int32} {p0_marsh_fogSide : Int32} {p0_snapshot_reeds_states : Nat → Int32} {p0_snapshot_reeds_count : Int32} {p0_snapshot_reeds_broken : Int32} {p0_snapshot_fleet_numbers : Nat → Int32} {p0_snapshot_fleet_cells : Nat → Int32} {p0_snapshot_fleet_fares : Nat → Int32} {p0_snapshot_fleet_count : Int32} {p0_snapshot_fleet_nextNumber : Int32} {p0_snapshot_fleet_total : Int32} {p0_snapshot_fleet_removedFares : Int32} {p0_snapshot_fleet_meetings : Int32} {p0_snapshot_plans_moves : Nat → Int32} {p0_snapshot_plans_lengths : Nat → Int32} {p0_snapshot_landings_cells : Nat → Int32} {p0_snapshot_landings_count : Int32} {p0_snapshot_fogSide : Int32} {p0_history_slots : Nat → mm_MV} {p0_history_free : Int32} {p0_history_count : Int32} {p0_ways_tolls : Nat → Int32} {p0_ways_queue : Nat → Int32} {p0_ways_heap : Nat → Int32} {p0_ways_heapSize : Int32} {p0_ways_found : Nat → Int32} {p0_ways_improved : Nat → Int32} {p0_pairing_costs : Nat → Int32} {p0_pairing_best : Nat → Int32} {p0_reader_kinds : Nat → Int32} {p0_reader_starts : Nat → Int32} {p0_reader_count : Int32} {p0_commandText_signs : Nat → Int32} {p0_commandText_length : Int32} {p0_line_signs : Nat → Int32} {p0_line_length : Int32} {p0_spareMoves : Nat → Int32} {p0_snapshotTaken : Int32} {p0_lastErrorPosition : Int32} {p0_lastFailedCommand : Int32} {p2 : Nat → Int64} {x1 : Int32} {X : Int32 × (Nat → Int32) × Int32 × (Nat → Int64)} (hf : f_L_describeRow K p0_marsh_reeds_states p0_marsh_fleet_numbers p0_marsh_fleet_cells p0_marsh_fleet_count p0_line_signs p0_line_length p2 x1 = some X) (hp_p0 : At12 G w b0 p0_marsh_reeds_states p0_marsh_reeds_count p0_marsh_reeds_broken p0_marsh_fleet_numbers p0_marsh_fleet_cells p0_marsh_fleet_fares p0_marsh_fleet_count p0_marsh_fleet_nextNumber p0_marsh_fleet_total p0_marsh_fleet_removedFares p0_marsh_fleet_meetings p0_marsh_plans_moves p0_marsh_plans_lengths p0_marsh_landings_cells p0_marsh_landings_count p0_marsh_fogSide p0_snapshot_reeds_states p0_snapshot_reeds_count p0_snapshot_reeds_broken p0_snapshot_fleet_numbers p0_snapshot_fleet_cells p0_snapshot_fleet_fares p0_snapshot_fleet_count p0_snapshot_fleet_nextNumber p0_snapshot_fleet_total p0_snapshot_fleet_removedFares p0_snapshot_fleet_meetings p0_snapshot_plans_moves p0_snapshot_plans_lengths p0_snapshot_landings_cells p0_snapshot_landings_count p0_snapshot_fogSide p0_history_slots p0_history_free p0_history_count p0_ways_tolls p0_ways_queue p0_ways_heap p0_ways_heapSize p0_ways_found p0_ways_improved p0_pairing_costs p0_pairing_best p0_reader_kinds p0_reader_starts p0_reader_count p0_commandText_signs p0_commandText_length p0_line_signs p0_line_length p0_spareMoves p0_snapshotTaken p0_lastErrorPosition p0_lastFailedCommand) (hp_p2 : (a2, (.inl (G.2 3, 1, .inr (.inl p2)) : va_E)) ∈ w) (hd0 : b0 + 152 ≤ a2 ∨ a2 + 1 ≤ b0) : Met l yL_describeRow (Cond.codeWith yL_describeRow cL_describeRow 4 (some .int) [(0, 9, 12, 13)] :: gAll) ({ frames := 8, cells := 1, slots := 6, locals := 142 }) (va_Pc [.ref b0, .int x1, .ref a2] (mm_Pre G w sz)) (mm_Qi G w sz (fun r w' => r = X.1 ∧ At12 G w' b0 p0_marsh_reeds_states p0_marsh_reeds_count p0_marsh_reeds_broken p0_marsh_fleet_numbers p0_marsh_fleet_cells p0_marsh_fleet_fares p0_marsh_fleet_count p0_marsh_fleet_nextNumber p0_marsh_fleet_total p0_marsh_fleet_removedFares p0_marsh_fleet_meetings p0_marsh_plans_moves p0_marsh_plans_lengths p0_marsh_landings_cells p0_marsh_landings_count p0_marsh_fogSide p0_snapshot_reeds_states p0_snapshot_reeds_count p0_snapshot_reeds_broken p0_snapshot_fleet_numbers p0_snapshot_fleet_cells p0_snapshot_fleet_fares p0_snapshot_fleet_count p0_snapshot_fleet_nextNumber p0_snapshot_fleet_total p0_snapshot_fleet_removedFares p0_snapshot_fleet_meetings p0_snapshot_plans_moves p0_snapshot_plans_lengths p0_snapshot_landings_cells p0_snapshot_landings_count p0_snapshot_fogSide p0_history_slots p0_history_free p0_history_count p0_ways_tolls p0_ways_queue p0_ways_heap p0_ways_heapSize p0_ways_found p0_ways_improved p0_pairing_costs p0_pairing_best p0_reader_kinds p0_reader_starts p0_reader_count p0_commandText_signs p0_commandText_length X.2.1 X.2.2.1 p0_spareMoves p0_snapshotTaken p0_lastErrorPosition p0_lastFailedCommand ∧ (a2, (.inl (G.2 3, 1, .inr (.inl X.2.2.2)) : va_E)) ∈ w' ∧ mm_fr2 w w' b0 (b0 + 152) a2 (a2 + 1))) 1 6 (va_A w sz) := by
  refine mm_hhead hfl [.ref b0, .int x1, .ref a2] (by decide +kernel) rfl (Nat.le_of_ble_eq_true rfl) ?_
  intro p e s m args below meth c A Q hsz hC hM hret hxt ls hl
  have hx := hC.1.1
  have hb := hC.1.2.1
  have hl : lv_has ls 4 [(0, .ref b0), (1, .int x1), (2, .ref a2)] := hl
  have hF : mm_fr2 w w b0 (b0 + 152) a2 (a2 + 1) := mm_fr2.rf
  rw [f_L_describeRow] at hf
  refine lv_aload_n hx hb dL_describeRow_0 rfl (lv_at hl 2 rfl) ?_
  refine lv_iconst (v := 0) hx hb dL_describeRow_1 (by decide) ?_
  refine lv_aload_n hx hb dL_describeRow_2 rfl (lv_at hl 0 rfl) ?_
  refine lv_iload_n hx hb dL_describeRow_3 rfl (lv_at hl 1 rfl) ?_
  obtain ⟨q4, hq4, hf⟩ := mm_bd hf
  refine mm_xVi (rest := [.int 0, .ref a2]) hC hM (c_X12_describeRow l hfl hq4 hp_p0) q6_156 q1_1 ykX12_describeRow q6_153 q6_154 q6_155 hp_p0.1 rfl ⟨rfl, rfl⟩ ⟨Nat.le_of_ble_eq_true rfl, Nat.le_of_ble_eq_true rfl⟩ rfl hl.1 rfl (Nat.le_of_ble_eq_true rfl) dL_describeRow_4 ⟨Nat.le_of_ble_eq_true rfl, Nat.le_of_ble_eq_true rfl⟩ (fun E ce qE w4 H locs hM hw hqE hv9 hcl9 => ?_) (fun r w4 H locs hM hw => ?_)
  · obtain ⟨hne, hE, hn_this, hfr⟩ := hw
    rw [if_neg hne] at hf
    by_cases hk0 : q4.1 = 1
    · rw [if_pos hk0] at hf
      have hEk : E = mm_ex 1 := by rw [hE, hk0]
      subst hEk
      have hp_p2 := hfr.keep hp_p2 (by omega)
      have hp_p0 := hn_this
      have hF := hF.tr (hfr.l (by omega) (by omega))
      refine vx_catch hC.1.2.2.2.1 [] ⟨0, 9, 12, 13⟩ [] hxt (fun z hz => absurd hz List.not_mem_nil) rfl (by decide) (hC.1.2.2.2.2 _ q3_90) (va_Nw.use rfl (hC.2.2.1.1.1 _ nw_castable_1)) hqE hv9 hcl9 ?_
      refine lv_astore_n (lv' := [(3, .ref qE), (0, .ref b0), (1, .int x1), (2, .ref a2)]) hx hb dL_describeRow_12 rfl hl (by decide) rfl (fun ls hl => ?_)
      refine lv_iconst (v := 1) hx hb dL_describeRow_13 (by decide) ?_
      cases hf
      exact hret hM dL_describeRow_14 rfl ⟨rfl, hp_p0, hp_p2, hF⟩ (Nat.le_of_ble_eq_true rfl) (Nat.le_of_ble_eq_true rfl)
    rw [if_neg hk0] at hf
    cases hf
  obtain ⟨h0, hr, hn_this, hfr⟩ := hw
  rw [if_pos h0] at hf
  rw [hr]
  have hp_p2 := hfr.keep hp_p2 (by omega)
  have hp_p0 := hn_this
  have hF := hF.tr (hfr.l (by omega) (by omega))
  refine lv_i2l hx hb dL_describeRow_7 rfl ?_
  refine mm_last0 hC hM hp_p2 dL_describeRow_8 (fun w8 H locs hM hm => ?_)
  have hp_p0 := hp_p0.up hm (by omega)
  have hp_p2 := hm.1
  have hF := hF.tr (hm.r (by omega) (by omega))
  refine lv_goto (tgt := 15) hx hb dL_describeRow_9 (by decide) ?_
  refine lv_iconst (v := 0) hx hb dL_describeRow_15 (by decide) ?_
  cases hf
  exact hret hM dL_describeRow_16 rfl ⟨rfl, hp_p0, hp_p2, hF⟩ (Nat.le_of_ble_eq_true rfl) (Nat.le_of_ble_eq_true rfl)
def f_L_describePlan (K : Nat) (p0_marsh_plans_moves : Nat → Int32) (p0_marsh_plans_lengths : Nat → Int32) (p0_line_signs : Nat → Int32) (p0_line_length : Int32) (p2 : Nat → Int64) (x1 : Int32) : Option (Int32 × (Nat → Int32) × Int32 × (Nat → Int64)) := (f_X12_describePlan K p0_marsh_plans_moves p0_marsh_plans_lengths p0_line_signs p0_line_length x1).bind fun q4 => if q4.1 = 0 then some (0, q4.2.2.1, q4.2.2.2, (vp_updL p2 0 q4.2.1.toInt64)) else if q4.1 = 1 then some (1, q4.2.2.1, q4.2.2.2, p2) else none
set_option maxHeartbeats 4000000 in
set_option maxRecDepth 100000 in
theorem c_L_describePlan (l : Launch) (hfl : l.stackTraces = false) {G : mm_G} {K : Nat} {w : va_W} {sz : Nat} {b0 : Nat} {a2 : Nat} {p0_marsh_reeds_states : Nat → Int32} {p0_marsh_reeds_count : Int32} {p0_marsh_reeds_broken : Int32} {p0_marsh_fleet_numbers : Nat → Int32} {p0_marsh_fleet_cells : Nat → Int32} {p0_marsh_fleet_fares : Nat → Int32} {p0_marsh_fleet_count : Int32} {p0_marsh_fleet_nextNumber : Int32} {p0_marsh_fleet_total : Int32} {p0_marsh_fleet_removedFares : Int32} {p0_marsh_fleet_meetings : Int32} {p0_marsh_plans_moves : Nat → Int32} {p0_marsh_plans_lengths : Nat → Int32} {p0_marsh_landings_cells : Nat → Int32} {p0_marsh_landings_count : Int32} {p0_marsh_fogSide : Int32} {p0_snapshot_reeds_states : Nat → Int32} {p0_snapshot_reeds_count : Int32} {p0_snapshot_reeds_broken : Int32} {p0_snapshot_fleet_numbers : Nat → Int32} {p0_snapshot_fleet_cells : Nat → Int32} {p0_snapshot_fleet_fares : Nat → Int32} {p0_snapshot_fleet_count : Int32} {p0_snapshot_fleet_nextNumber : Int32} {p0_snapshot_fleet_total : Int32} {p0_snapshot_fleet_removedFares : Int32} {p0_snapshot_fleet_meetings : Int32} {p0_snapshot_plans_moves : Nat → Int32} {p0_snapshot_plans_lengths : Nat → Int32} {p0_snapshot_landings_cells : Nat → Int32} {p0_snapshot_landings_count : Int32} {p0_snapshot_fogSide : Int32} {p0_history_slots : Nat → mm_MV} {p0_history_free : Int32} {p0_history_count : Int32} {p0_ways_tolls : Nat → Int32} {p0_ways_queue : Nat → Int32} {p0_ways_heap : Nat → Int32} {p0_ways_heapSize : Int32} {p0_ways_found : Nat → Int32} {p0_ways_improved : Nat → Int32} {p0_pairing_costs : Nat → Int32} {p0_pairing_best : Nat → Int32} {p0_reader_kinds : Nat → Int32} {p0_reader_starts : Nat → Int32} {p0_reader_count : Int32} {p0_commandText_signs : Nat → Int32} {p0_commandText_length : Int32} {p0_line_signs : Nat → Int32} {p0_line_length : Int32} {p0_spareMoves : Nat → Int32} {p0_snapshotTaken : Int32} {p0_lastErrorPosition : Int32} {p0_lastFailedCommand : Int32} {p2 : Nat → Int64} {x1 : Int32} {X : Int32 × (Nat → Int32) × Int32 × (Nat → Int64)} (hf : f_L_describePlan K p0_marsh_plans_moves p0_marsh_plans_lengths p0_line_signs p0_line_length p2 x1 = some X) (hp_p0 : At12 G w b0 p0_marsh_reeds_states p0_marsh_reeds_count p0_marsh_reeds_broken p0_marsh_fleet_numbers p0_marsh_fleet_cells p0_marsh_fleet_fares p0_marsh_fleet_count p0_marsh_fleet_nextNumber p0_marsh_fleet_total p0_marsh_fleet_removedFares p0_marsh_fleet_meetings p0_marsh_plans_moves p0_marsh_plans_lengths p0_marsh_landings_cells p0_marsh_landings_count p0_marsh_fogSide p0_snapshot_reeds_states p0_snapshot_reeds_count p0_snapshot_reeds_broken p0_snapshot_fleet_numbers p0_snapshot_fleet_cells p0_snapshot_fleet_fares p0_snapshot_fleet_count p0_snapshot_fleet_nextNumber p0_snapshot_fleet_total p0_snapshot_fleet_removedFares p0_snapshot_fleet_meetings p0_snapshot_plans_moves p0_snapshot_plans_lengths p0_snapshot_landings_cells p0_snapshot_landings_count p0_snapshot_fogSide p0_history_slots p0_history_free p0_history_count p0_ways_tolls p0_ways_queue p0_ways_heap p0_ways_heapSize p0_ways_found p0_ways_improved p0_pairing_costs p0_pairing_best p0_reader_kinds p0_reader_starts p0_reader_count p0_commandText_signs p0_commandText_length p0_line_signs p0_line_length p0_spareMoves p0_snapshotTaken p0_lastErrorPosition p0_lastFailedCommand) (hp_p2 : (a2, (.inl (G.2 3, 1, .inr (.inl p2)) : va_E)) ∈ w) (hd0 : b0 + 152 ≤ a2 ∨ a2 + 1 ≤ b0) : Met l yL_describePlan (Cond.codeWith yL_describePlan cL_describePlan 4 (some .int) [(0, 9, 12, 13)] :: gAll) ({ frames := 9, cells := 1, slots := 6, locals := 162 }) (va_Pc [.ref b0, .int x1, .ref a2] (mm_Pre G w sz)) (mm_Qi G w sz (fun r w' => r = X.1 ∧ At12 G w' b0 p0_marsh_reeds_states p0_marsh_reeds_count p0_marsh_reeds_broken p0_marsh_fleet_numbers p0_marsh_fleet_cells p0_marsh_fleet_fares p0_marsh_fleet_count p0_marsh_fleet_nextNumber p0_marsh_fleet_total p0_marsh_fleet_removedFares p0_marsh_fleet_meetings p0_marsh_plans_moves p0_marsh_plans_lengths p0_marsh_landings_cells p0_marsh_landings_count p0_marsh_fogSide p0_snapshot_reeds_states p0_snapshot_reeds_count p0_snapshot_reeds_broken p0_snapshot_fleet_numbers p0_snapshot_fleet_cells p0_snapshot_fleet_fares p0_snapshot_fleet_count p0_snapshot_fleet_nextNumber p0_snapshot_fleet_total p0_snapshot_fleet_removedFares p0_snapshot_fleet_meetings p0_snapshot_plans_moves p0_snapshot_plans_lengths p0_snapshot_landings_cells p0_snapshot_landings_count p0_snapshot_fogSide p0_history_slots p0_history_free p0_history_count p0_ways_tolls p0_ways_queue p0_ways_heap p0_ways_heapSize p0_ways_found p0_ways_improved p0_pairing_costs p0_pairing_best p0_reader_kinds p0_reader_starts p0_reader_count p0_commandText_signs p0_commandText_length X.2.1 X.2.2.1 p0_spareMoves p0_snapshotTaken p0_lastErrorPosition p0_lastFailedCommand ∧ (a2, (.inl (G.2 3, 1, .inr (.inl X.2.2.2)) : va_E)) ∈ w' ∧ mm_fr2 w w' b0 (b0 + 152) a2 (a2 + 1))) 1 6 (va_A w sz) := by
  refine mm_hhead hfl [.ref b0, .int x1, .ref a2] (by decide +kernel) rfl (Nat.le_of_ble_eq_true rfl) ?_
  intro p e s m args below meth c A Q hsz hC hM hret hxt ls hl
  have hx := hC.1.1
  have hb := hC.1.2.1
  have hl : lv_has ls 4 [(0, .ref b0), (1, .int x1), (2, .ref a2)] := hl
  have hF : mm_fr2 w w b0 (b0 + 152) a2 (a2 + 1) := mm_fr2.rf
  rw [f_L_describePlan] at hf
  refine lv_aload_n hx hb dL_describePlan_0 rfl (lv_at hl 2 rfl) ?_
  refine lv_iconst (v := 0) hx hb dL_describePlan_1 (by decide) ?_
  refine lv_aload_n hx hb dL_describePlan_2 rfl (lv_at hl 0 rfl) ?_
  refine lv_iload_n hx hb dL_describePlan_3 rfl (lv_at hl 1 rfl) ?_
  obtain ⟨q4, hq4, hf⟩ := mm_bd hf
  refine mm_xVi (rest := [.int 0, .ref a2]) hC hM (c_X12_describePlan l hfl hq4 hp_p0) q6_172 q1_1 ykX12_describePlan q6_169 q6_170 q6_171 hp_p0.1 rfl ⟨rfl, rfl⟩ ⟨Nat.le_of_ble_eq_true rfl, Nat.le_of_ble_eq_true rfl⟩ rfl hl.1 rfl (Nat.le_of_ble_eq_true rfl) dL_describePlan_4 ⟨Nat.le_of_ble_eq_true rfl, Nat.le_of_ble_eq_true rfl⟩ (fun E ce qE w4 H locs hM hw hqE hv9 hcl9 => ?_) (fun r w4 H locs hM hw => ?_)
  · obtain ⟨hne, hE, hn_this, hfr⟩ := hw
    rw [if_neg hne] at hf
    by_cases hk0 : q4.1 = 1
    · rw [if_pos hk0] at hf
      have hEk : E = mm_ex 1 := by rw [hE, hk0]
      subst hEk
      have hp_p2 := hfr.keep hp_p2 (by omega)
      have hp_p0 := hn_this
      have hF := hF.tr (hfr.l (by omega) (by omega))
      refine vx_catch hC.1.2.2.2.1 [] ⟨0, 9, 12, 13⟩ [] hxt (fun z hz => absurd hz List.not_mem_nil) rfl (by decide) (hC.1.2.2.2.2 _ q3_90) (va_Nw.use rfl (hC.2.2.1.1.1 _ nw_castable_1)) hqE hv9 hcl9 ?_
      refine lv_astore_n (lv' := [(3, .ref qE), (0, .ref b0), (1, .int x1), (2, .ref a2)]) hx hb dL_describePlan_12 rfl hl (by decide) rfl (fun ls hl => ?_)
      refine lv_iconst (v := 1) hx hb dL_describePlan_13 (by decide) ?_
      cases hf
      exact hret hM dL_describePlan_14 rfl ⟨rfl, hp_p0, hp_p2, hF⟩ (Nat.le_of_ble_eq_true rfl) (Nat.le_of_ble_eq_true rfl)
    rw [if_neg hk0] at hf
    cases hf
  obtain ⟨h0, hr, hn_this, hfr⟩ := hw
  rw [if_pos h0] at hf
  rw [hr]
  have hp_p2 := hfr.keep hp_p2 (by omega)
  have hp_p0 := hn_this
  have hF := hF.tr (hfr.l (by omega) (by omega))
  refine lv_i2l hx hb dL_describePlan_7 rfl ?_
  refine mm_last0 hC hM hp_p2 dL_describePlan_8 (fun w8 H locs hM hm => ?_)
  have hp_p0 := hp_p0.up hm (by omega)
  have hp_p2 := hm.1
  have hF := hF.tr (hm.r (by omega) (by omega))
  refine lv_goto (tgt := 15) hx hb dL_describePlan_9 (by decide) ?_
  refine lv_iconst (v := 0) hx hb dL_describePlan_15 (by decide) ?_
  cases hf
  exact hret hM dL_describePlan_16 rfl ⟨rfl, hp_p0, hp_p2, hF⟩ (Nat.le_of_ble_eq_true rfl) (Nat.le_of_ble_eq_true rfl)
def f_L_lineAt (p0_line_signs : Nat → Int32) (p0_line_length : Int32) (p2 : Nat → Int64) (x1 : Int32) : Option (Int32 × (Nat → Int64)) := (f_X12_lineAt p0_line_signs p0_line_length x1).bind fun q4 => if q4.1 = 0 then some (0, (vp_updL p2 0 q4.2.toInt64)) else if q4.1 = 1 then some (1, p2) else none
set_option maxHeartbeats 4000000 in
set_option maxRecDepth 100000 in
theorem c_L_lineAt (l : Launch) (hfl : l.stackTraces = false) {G : mm_G} {w : va_W} {sz : Nat} {b0 : Nat} {a2 : Nat} {p0_marsh_reeds_states : Nat → Int32} {p0_marsh_reeds_count : Int32} {p0_marsh_reeds_broken : Int32} {p0_marsh_fleet_numbers : Nat → Int32} {p0_marsh_fleet_cells : Nat → Int32} {p0_marsh_fleet_fares : Nat → Int32} {p0_marsh_fleet_count : Int32} {p0_marsh_fleet_nextNumber : Int32} {p0_marsh_fleet_total : Int32} {p0_marsh_fleet_removedFares : Int32} {p0_marsh_fleet_meetings : Int32} {p0_marsh_plans_moves : Nat → Int32} {p0_marsh_plans_lengths : Nat → Int32} {p0_marsh_landings_cells : Nat → Int32} {p0_marsh_landings_count : Int32} {p0_marsh_fogSide : Int32} {p0_snapshot_reeds_states : Nat → Int32} {p0_snapshot_reeds_count : Int32} {p0_snapshot_reeds_broken : Int32} {p0_snapshot_fleet_numbers : Nat → Int32} {p0_snapshot_fleet_cells : Nat → Int32} {p0_snapshot_fleet_fares : Nat → Int32} {p0_snapshot_fleet_count : Int32} {p0_snapshot_fleet_nextNumber : Int32} {p0_snapshot_fleet_total : Int32} {p0_snapshot_fleet_removedFares : Int32} {p0_snapshot_fleet_meetings : Int32} {p0_snapshot_plans_moves : Nat → Int32} {p0_snapshot_plans_lengths : Nat → Int32} {p0_snapshot_landings_cells : Nat → Int32} {p0_snapshot_landings_count : Int32} {p0_snapshot_fogSide : Int32} {p0_history_slots : Nat → mm_MV} {p0_history_free : Int32} {p0_history_count : Int32} {p0_ways_tolls : Nat → Int32} {p0_ways_queue : Nat → Int32} {p0_ways_heap : Nat → Int32} {p0_ways_heapSize : Int32} {p0_ways_found : Nat → Int32} {p0_ways_improved : Nat → Int32} {p0_pairing_costs : Nat → Int32} {p0_pairing_best : Nat → Int32} {p0_reader_kinds : Nat → Int32} {p0_reader_starts : Nat → Int32} {p0_reader_count : Int32} {p0_commandText_signs : Nat → Int32} {p0_commandText_length : Int32} {p0_line_signs : Nat → Int32} {p0_line_length : Int32} {p0_spareMoves : Nat → Int32} {p0_snapshotTaken : Int32} {p0_lastErrorPosition : Int32} {p0_lastFailedCommand : Int32} {p2 : Nat → Int64} {x1 : Int32} {X : Int32 × (Nat → Int64)} (hf : f_L_lineAt p0_line_signs p0_line_length p2 x1 = some X) (hp_p0 : At12 G w b0 p0_marsh_reeds_states p0_marsh_reeds_count p0_marsh_reeds_broken p0_marsh_fleet_numbers p0_marsh_fleet_cells p0_marsh_fleet_fares p0_marsh_fleet_count p0_marsh_fleet_nextNumber p0_marsh_fleet_total p0_marsh_fleet_removedFares p0_marsh_fleet_meetings p0_marsh_plans_moves p0_marsh_plans_lengths p0_marsh_landings_cells p0_marsh_landings_count p0_marsh_fogSide p0_snapshot_reeds_states p0_snapshot_reeds_count p0_snapshot_reeds_broken p0_snapshot_fleet_numbers p0_snapshot_fleet_cells p0_snapshot_fleet_fares p0_snapshot_fleet_count p0_snapshot_fleet_nextNumber p0_snapshot_fleet_total p0_snapshot_fleet_removedFares p0_snapshot_fleet_meetings p0_snapshot_plans_moves p0_snapshot_plans_lengths p0_snapshot_landings_cells p0_snapshot_landings_count p0_snapshot_fogSide p0_history_slots p0_history_free p0_history_count p0_ways_tolls p0_ways_queue p0_ways_heap p0_ways_heapSize p0_ways_found p0_ways_improved p0_pairing_costs p0_pairing_best p0_reader_kinds p0_reader_starts p0_reader_count p0_commandText_signs p0_commandText_length p0_line_signs p0_line_length p0_spareMoves p0_snapshotTaken p0_lastErrorPosition p0_lastFailedCommand) (hp_p2 : (a2, (.inl (G.2 3, 1, .inr (.inl p2)) : va_E)) ∈ w) (hd0 : b0 + 152 ≤ a2 ∨ a2 + 1 ≤ b0) : Met l yL_lineAt (Cond.codeWith yL_lineAt cL_lineAt 4 (some .int) [(0, 9, 12, 13)] :: gAll) ({ frames := 8, cells := 1, slots := 6, locals := 141 }) (va_Pc [.ref b0, .int x1, .ref a2] (mm_Pre G w sz)) (mm_Qi G w sz (fun r w' => r = X.1 ∧ (a2, (.inl (G.2 3, 1, .inr (.inl X.2)) : va_E)) ∈ w' ∧ mm_fr w w' a2 (a2 + 1))) 1 6 (va_A w sz) := by
  refine mm_hhead hfl [.ref b0, .int x1, .ref a2] (by decide +kernel) rfl (Nat.le_of_ble_eq_true rfl) ?_
  intro p e s m args below meth c A Q hsz hC hM hret hxt ls hl
  have hx := hC.1.1
  have hb := hC.1.2.1
  have hl : lv_has ls 4 [(0, .ref b0), (1, .int x1), (2, .ref a2)] := hl
  have hF : mm_fr w w a2 (a2 + 1) := mm_fr.rf
  rw [f_L_lineAt] at hf
  refine lv_aload_n hx hb dL_lineAt_0 rfl (lv_at hl 2 rfl) ?_
  refine lv_iconst (v := 0) hx hb dL_lineAt_1 (by decide) ?_
  refine lv_aload_n hx hb dL_lineAt_2 rfl (lv_at hl 0 rfl) ?_
  refine lv_iload_n hx hb dL_lineAt_3 rfl (lv_at hl 1 rfl) ?_
  obtain ⟨q4, hq4, hf⟩ := mm_bd hf
  refine mm_xVi (rest := [.int 0, .ref a2]) hC hM (c_X12_lineAt l hfl hq4 hp_p0) q6_190 q1_1 ykX12_lineAt q6_187 q6_188 q6_189 hp_p0.1 rfl ⟨rfl, rfl⟩ ⟨Nat.le_of_ble_eq_true rfl, Nat.le_of_ble_eq_true rfl⟩ rfl hl.1 rfl (Nat.le_of_ble_eq_true rfl) dL_lineAt_4 ⟨Nat.le_of_ble_eq_true rfl, Nat.le_of_ble_eq_true rfl⟩ (fun E ce qE w4 H locs hM hw hqE hv9 hcl9 => ?_) (fun r w4 H locs hM hw => ?_)
  · obtain ⟨hne, hE, hw⟩ := hw
    rw [if_neg hne] at hf
    by_cases hk0 : q4.1 = 1
    · rw [if_pos hk0] at hf
      have hEk : E = mm_ex 1 := by rw [hE, hk0]
      subst hEk
      rw [hw] at hM
      refine vx_catch hC.1.2.2.2.1 [] ⟨0, 9, 12, 13⟩ [] hxt (fun z hz => absurd hz List.not_mem_nil) rfl (by decide) (hC.1.2.2.2.2 _ q3_90) (va_Nw.use rfl (hC.2.2.1.1.1 _ nw_castable_1)) hqE hv9 hcl9 ?_
      refine lv_astore_n (lv' := [(3, .ref qE), (0, .ref b0), (1, .int x1), (2, .ref a2)]) hx hb dL_lineAt_12 rfl hl (by decide) rfl (fun ls hl => ?_)
      refine lv_iconst (v := 1) hx hb dL_lineAt_13 (by decide) ?_
      cases hf
      exact hret hM dL_lineAt_14 rfl ⟨rfl, hp_p2, hF⟩ (Nat.le_of_ble_eq_true rfl) (Nat.le_of_ble_eq_true rfl)
    rw [if_neg hk0] at hf
    cases hf
  obtain ⟨h0, hr, hw⟩ := hw
  rw [if_pos h0] at hf
  rw [hr]
  rw [hw] at hM
  refine lv_i2l hx hb dL_lineAt_7 rfl ?_
  refine mm_last0 hC hM hp_p2 dL_lineAt_8 (fun w8 H locs hM hm => ?_)
  have hp_p0 := hp_p0.up hm (by omega)
  have hp_p2 := hm.1
  have hF := hF.tr (hm.fr (by omega) (by omega))
  refine lv_goto (tgt := 15) hx hb dL_lineAt_9 (by decide) ?_
  refine lv_iconst (v := 0) hx hb dL_lineAt_15 (by decide) ?_
  cases hf
  exact hret hM dL_lineAt_16 rfl ⟨rfl, hp_p2, hF⟩ (Nat.le_of_ble_eq_true rfl) (Nat.le_of_ble_eq_true rfl)
def f_L_meanFares (K : Nat) (p0_marsh_fleet_fares : Nat → Int32) (p0_marsh_fleet_count : Int32) (p1 : Nat → UInt64) : Option (Int32 × (Nat → UInt64)) := (f_X12_meanFares K p0_marsh_fleet_fares p0_marsh_fleet_count).bind fun q3 => if q3.1 = 0 then some (0, (vf_upd p1 0 q3.2)) else if q3.1 = 6 then some (1, p1) else none
set_option maxHeartbeats 4000000 in
set_option maxRecDepth 100000 in
theorem c_L_meanFares (l : Launch) (hfl : l.stackTraces = false) {G : mm_G} {K : Nat} {w : va_W} {sz : Nat} {b0 : Nat} {a1 : Nat} {p0_marsh_reeds_states : Nat → Int32} {p0_marsh_reeds_count : Int32} {p0_marsh_reeds_broken : Int32} {p0_marsh_fleet_numbers : Nat → Int32} {p0_marsh_fleet_cells : Nat → Int32} {p0_marsh_fleet_fares : Nat → Int32} {p0_marsh_fleet_count : Int32} {p0_marsh_fleet_nextNumber : Int32} {p0_marsh_fleet_total : Int32} {p0_marsh_fleet_removedFares : Int32} {p0_marsh_fleet_meetings : Int32} {p0_marsh_plans_moves : Nat → Int32} {p0_marsh_plans_lengths : Nat → Int32} {p0_marsh_landings_cells : Nat → Int32} {p0_marsh_landings_count : Int32} {p0_marsh_fogSide : Int32} {p0_snapshot_reeds_states : Nat → Int32} {p0_snapshot_reeds_count : Int32} {p0_snapshot_reeds_broken : Int32} {p0_snapshot_fleet_numbers : Nat → Int32} {p0_snapshot_fleet_cells : Nat → Int32} {p0_snapshot_fleet_fares : Nat → Int32} {p0_snapshot_fleet_count : Int32} {p0_snapshot_fleet_nextNumber : Int32} {p0_snapshot_fleet_total : Int32} {p0_snapshot_fleet_removedFares : Int32} {p0_snapshot_fleet_meetings : Int32} {p0_snapshot_plans_moves : Nat → Int32} {p0_snapshot_plans_lengths : Nat → Int32} {p0_snapshot_landings_cells : Nat → Int32} {p0_snapshot_landings_count : Int32} {p0_snapshot_fogSide : Int32} {p0_history_slots : Nat → mm_MV} {p0_history_free : Int32} {p0_history_count : Int32} {p0_ways_tolls : Nat → Int32} {p0_ways_queue : Nat → Int32} {p0_ways_heap : Nat → Int32} {p0_ways_heapSize : Int32} {p0_ways_found : Nat → Int32} {p0_ways_improved : Nat → Int32} {p0_pairing_costs : Nat → Int32} {p0_pairing_best : Nat → Int32} {p0_reader_kinds : Nat → Int32} {p0_reader_starts : Nat → Int32} {p0_reader_count : Int32} {p0_commandText_signs : Nat → Int32} {p0_commandText_length : Int32} {p0_line_signs : Nat → Int32} {p0_line_length : Int32} {p0_spareMoves : Nat → Int32} {p0_snapshotTaken : Int32} {p0_lastErrorPosition : Int32} {p0_lastFailedCommand : Int32} {p1 : Nat → UInt64} {X : Int32 × (Nat → UInt64)} (hf : f_L_meanFares K p0_marsh_fleet_fares p0_marsh_fleet_count p1 = some X) (hp_p0 : At12 G w b0 p0_marsh_reeds_states p0_marsh_reeds_count p0_marsh_reeds_broken p0_marsh_fleet_numbers p0_marsh_fleet_cells p0_marsh_fleet_fares p0_marsh_fleet_count p0_marsh_fleet_nextNumber p0_marsh_fleet_total p0_marsh_fleet_removedFares p0_marsh_fleet_meetings p0_marsh_plans_moves p0_marsh_plans_lengths p0_marsh_landings_cells p0_marsh_landings_count p0_marsh_fogSide p0_snapshot_reeds_states p0_snapshot_reeds_count p0_snapshot_reeds_broken p0_snapshot_fleet_numbers p0_snapshot_fleet_cells p0_snapshot_fleet_fares p0_snapshot_fleet_count p0_snapshot_fleet_nextNumber p0_snapshot_fleet_total p0_snapshot_fleet_removedFares p0_snapshot_fleet_meetings p0_snapshot_plans_moves p0_snapshot_plans_lengths p0_snapshot_landings_cells p0_snapshot_landings_count p0_snapshot_fogSide p0_history_slots p0_history_free p0_history_count p0_ways_tolls p0_ways_queue p0_ways_heap p0_ways_heapSize p0_ways_found p0_ways_improved p0_pairing_costs p0_pairing_best p0_reader_kinds p0_reader_starts p0_reader_count p0_commandText_signs p0_commandText_length p0_line_signs p0_line_length p0_spareMoves p0_snapshotTaken p0_lastErrorPosition p0_lastFailedCommand) (hp_p1 : (a1, (.inl (G.2 4, 1, .inr (.inr (.inr (.inl p1)))) : va_E)) ∈ w) (hd0 : b0 + 152 ≤ a1 ∨ a1 + 1 ≤ b0) : Met l yL_meanFares (Cond.codeWith yL_meanFares cL_meanFares 3 (some .int) [(0, 7, 10, 162)] :: gAll) ({ frames := 8, cells := 1, slots := 6, locals := 140 }) (va_Pc [.ref b0, .ref a1] (mm_Pre G w sz)) (mm_Qi G w sz (fun r w' => r = X.1 ∧ (a1, (.inl (G.2 4, 1, .inr (.inr (.inr (.inl X.2)))) : va_E)) ∈ w' ∧ mm_fr w w' a1 (a1 + 1))) 1 6 (va_A w sz) := by
  refine mm_hhead hfl [.ref b0, .ref a1] (by decide +kernel) rfl (Nat.le_of_ble_eq_true rfl) ?_
  intro p e s m args below meth c A Q hsz hC hM hret hxt ls hl
  have hx := hC.1.1
  have hb := hC.1.2.1
  have hl : lv_has ls 3 [(0, .ref b0), (1, .ref a1)] := hl
  have hF : mm_fr w w a1 (a1 + 1) := mm_fr.rf
  rw [f_L_meanFares] at hf
  refine lv_aload_n hx hb dL_meanFares_0 rfl (lv_at hl 1 rfl) ?_
  refine lv_iconst (v := 0) hx hb dL_meanFares_1 (by decide) ?_
  refine lv_aload_n hx hb dL_meanFares_2 rfl (lv_at hl 0 rfl) ?_
  obtain ⟨q3, hq3, hf⟩ := mm_bd hf
  refine mm_xVd (rest := [.int 0, .ref a1]) hC hM (c_X12_meanFares l hfl hq3 hp_p0) q6_211 q1_1 ykX12_meanFares q6_208 q6_209 q6_210 hp_p0.1 rfl ⟨rfl, rfl⟩ ⟨Nat.le_of_ble_eq_true rfl, Nat.le_of_ble_eq_true rfl⟩ rfl hl.1 rfl (Nat.le_of_ble_eq_true rfl) dL_meanFares_3 ⟨Nat.le_of_ble_eq_true rfl, Nat.le_of_ble_eq_true rfl⟩ (fun E ce qE w3 H locs hM hw hqE hv9 hcl9 => ?_) (fun r w3 H locs hM hw => ?_)
  · obtain ⟨hne, hE, hw⟩ := hw
    rw [if_neg hne] at hf
    by_cases hk0 : q3.1 = 6
    · rw [if_pos hk0] at hf
      have hEk : E = mm_ex 6 := by rw [hE, hk0]
      subst hEk
      rw [hw] at hM
      refine vx_catch hC.1.2.2.2.1 [] ⟨0, 7, 10, 162⟩ [] hxt (fun z hz => absurd hz List.not_mem_nil) rfl (by decide) (hC.1.2.2.2.2 _ q6_194) (va_Nw.use rfl (hC.2.2.1.1.1 _ nw_castable_6)) hqE hv9 hcl9 ?_
      refine lv_astore_n (lv' := [(2, .ref qE), (0, .ref b0), (1, .ref a1)]) hx hb dL_meanFares_10 rfl hl (by decide) rfl (fun ls hl => ?_)
      refine lv_iconst (v := 1) hx hb dL_meanFares_11 (by decide) ?_
      cases hf
      exact hret hM dL_meanFares_12 rfl ⟨rfl, hp_p1, hF⟩ (Nat.le_of_ble_eq_true rfl) (Nat.le_of_ble_eq_true rfl)
    rw [if_neg hk0] at hf
    cases hf
  obtain ⟨h0, hr, hw⟩ := hw
  rw [if_pos h0] at hf
  rw [hr]
  rw [hw] at hM
  refine mm_dast0 hC hM hp_p1 dL_meanFares_6 (fun w6 H locs hM hm => ?_)
  have hp_p0 := hp_p0.up hm (by omega)
  have hp_p1 := hm.1
  have hF := hF.tr (hm.fr (by omega) (by omega))
  refine lv_goto (tgt := 13) hx hb dL_meanFares_7 (by decide) ?_
  refine lv_iconst (v := 0) hx hb dL_meanFares_13 (by decide) ?_
  cases hf
  exact hret hM dL_meanFares_14 rfl ⟨rfl, hp_p1, hF⟩ (Nat.le_of_ble_eq_true rfl) (Nat.le_of_ble_eq_true rfl)
def f_L_undo (p0_marsh_reeds_states : Nat → Int32) (p0_marsh_reeds_count : Int32) (p0_marsh_reeds_broken : Int32) (p0_marsh_fleet_numbers : Nat → Int32) (p0_marsh_fleet_cells : Nat → Int32) (p0_marsh_fleet_fares : Nat → Int32) (p0_marsh_fleet_count : Int32) (p0_marsh_fleet_nextNumber : Int32) (p0_marsh_fleet_total : Int32) (p0_marsh_fleet_removedFares : Int32) (p0_marsh_fleet_meetings : Int32) (p0_marsh_plans_moves : Nat → Int32) (p0_marsh_plans_lengths : Nat → Int32) (p0_marsh_landings_cells : Nat → Int32) (p0_marsh_landings_count : Int32) (p0_marsh_fogSide : Int32) (p0_history_slots : Nat → mm_MV) (p0_history_free : Int32) (p0_history_count : Int32) (p1 : Nat → Int64) : Option (Int32 × (Nat → Int32) × Int32 × Int32 × (Nat → Int32) × (Nat → Int32) × (Nat → Int32) × Int32 × Int32 × Int32 × Int32 × Int32 × (Nat → Int32) × (Nat → Int32) × (Nat → Int32) × Int32 × Int32 × Int32 × Int32 × (Nat → Int64)) := (f_X12_undo p0_marsh_reeds_states p0_marsh_reeds_count p0_marsh_reeds_broken p0_marsh_fleet_numbers p0_marsh_fleet_cells p0_marsh_fleet_fares p0_marsh_fleet_count p0_marsh_fleet_nextNumber p0_marsh_fleet_total p0_marsh_fleet_removedFares p0_marsh_fleet_meetings p0_marsh_plans_moves p0_marsh_plans_lengths p0_marsh_landings_cells p0_marsh_landings_count p0_marsh_fogSide p0_history_slots p0_history_free p0_history_count).bind fun q3 => if q3.1 = 0 then some (0, q3.2.2.1, q3.2.2.2.1, q3.2.2.2.2.1, q3.2.2.2.2.2.1, q3.2.2.2.2.2.2.1, q3.2.2.2.2.2.2.2.1, q3.2.2.2.2.2.2.2.2.1, q3.2.2.2.2.2.2.2.2.2.1, q3.2.2.2.2.2.2.2.2.2.2.1, q3.2.2.2.2.2.2.2.2.2.2.2.1, q3.2.2.2.2.2.2.2.2.2.2.2.2.1, q3.2.2.2.2.2.2.2.2.2.2.2.2.2.1, q3.2.2.2.2.2.2.2.2.2.2.2.2.2.2.1, q3.2.2.2.2.2.2.2.2.2.2.2.2.2.2.2.1, q3.2.2.2.2.2.2.2.2.2.2.2.2.2.2.2.2.1, q3.2.2.2.2.2.2.2.2.2.2.2.2.2.2.2.2.2.1, q3.2.2.2.2.2.2.2.2.2.2.2.2.2.2.2.2.2.2.1, q3.2.2.2.2.2.2.2.2.2.2.2.2.2.2.2.2.2.2.2, (vp_updL p1 0 q3.2.1.toInt64)) else if q3.1 = 3 then some (1, q3.2.2.1, q3.2.2.2.1, q3.2.2.2.2.1, q3.2.2.2.2.2.1, q3.2.2.2.2.2.2.1, q3.2.2.2.2.2.2.2.1, q3.2.2.2.2.2.2.2.2.1, q3.2.2.2.2.2.2.2.2.2.1, q3.2.2.2.2.2.2.2.2.2.2.1, q3.2.2.2.2.2.2.2.2.2.2.2.1, q3.2.2.2.2.2.2.2.2.2.2.2.2.1, q3.2.2.2.2.2.2.2.2.2.2.2.2.2.1, q3.2.2.2.2.2.2.2.2.2.2.2.2.2.2.1, q3.2.2.2.2.2.2.2.2.2.2.2.2.2.2.2.1, q3.2.2.2.2.2.2.2.2.2.2.2.2.2.2.2.2.1, q3.2.2.2.2.2.2.2.2.2.2.2.2.2.2.2.2.2.1, q3.2.2.2.2.2.2.2.2.2.2.2.2.2.2.2.2.2.2.1, q3.2.2.2.2.2.2.2.2.2.2.2.2.2.2.2.2.2.2.2, p1) else none
set_option maxHeartbeats 4000000 in
set_option maxRecDepth 100000 in
theorem c_L_undo (l : Launch) (hfl : l.stackTraces = false) {G : mm_G} {w : va_W} {sz : Nat} {b0 : Nat} {a1 : Nat} {p0_marsh_reeds_states : Nat → Int32} {p0_marsh_reeds_count : Int32} {p0_marsh_reeds_broken : Int32} {p0_marsh_fleet_numbers : Nat → Int32} {p0_marsh_fleet_cells : Nat → Int32} {p0_marsh_fleet_fares : Nat → Int32} {p0_marsh_fleet_count : Int32} {p0_marsh_fleet_nextNumber : Int32} {p0_marsh_fleet_total : Int32} {p0_marsh_fleet_removedFares : Int32} {p0_marsh_fleet_meetings : Int32} {p0_marsh_plans_moves : Nat → Int32} {p0_marsh_plans_lengths : Nat → Int32} {p0_marsh_landings_cells : Nat → Int32} {p0_marsh_landings_count : Int32} {p0_marsh_fogSide : Int32} {p0_snapshot_reeds_states : Nat → Int32} {p0_snapshot_reeds_count : Int32} {p0_snapshot_reeds_broken : Int32} {p0_snapshot_fleet_numbers : Nat → Int32} {p0_snapshot_fleet_cells : Nat → Int32} {p0_snapshot_fleet_fares : Nat → Int32} {p0_snapshot_fleet_count : Int32} {p0_snapshot_fleet_nextNumber : Int32} {p0_snapshot_fleet_total : Int32} {p0_snapshot_fleet_removedFares : Int32} {p0_snapshot_fleet_meetings : Int32} {p0_snapshot_plans_moves : Nat → Int32} {p0_snapshot_plans_lengths : Nat → Int32} {p0_snapshot_landings_cells : Nat → Int32} {p0_snapshot_landings_count : Int32} {p0_snapshot_fogSide : Int32} {p0_history_slots : Nat → mm_MV} {p0_history_free : Int32} {p0_history_count : Int32} {p0_ways_tolls : Nat → Int32} {p0_ways_queue : Nat → Int32} {p0_ways_heap : Nat → Int32} {p0_ways_heapSize : Int32} {p0_ways_found : Nat → Int32} {p0_ways_improved : Nat → Int32} {p0_pairing_costs : Nat → Int32} {p0_pairing_best : Nat → Int32} {p0_reader_kinds : Nat → Int32} {p0_reader_starts : Nat → Int32} {p0_reader_count : Int32} {p0_commandText_signs : Nat → Int32} {p0_commandText_length : Int32} {p0_line_signs : Nat → Int32} {p0_line_length : Int32} {p0_spareMoves : Nat → Int32} {p0_snapshotTaken : Int32} {p0_lastErrorPosition : Int32} {p0_lastFailedCommand : Int32} {p1 : Nat → Int64} {X : Int32 × (Nat → Int32) × Int32 × Int32 × (Nat → Int32) × (Nat → Int32) × (Nat → Int32) × Int32 × Int32 × Int32 × Int32 × Int32 × (Nat → Int32) × (Nat → Int32) × (Nat → Int32) × Int32 × Int32 × Int32 × Int32 × (Nat → Int64)} (hf : f_L_undo p0_marsh_reeds_states p0_marsh_reeds_count p0_marsh_reeds_broken p0_marsh_fleet_numbers p0_marsh_fleet_cells p0_marsh_fleet_fares p0_marsh_fleet_count p0_marsh_fleet_nextNumber p0_marsh_fleet_total p0_marsh_fleet_removedFares p0_marsh_fleet_meetings p0_marsh_plans_moves p0_marsh_plans_lengths p0_marsh_landings_cells p0_marsh_landings_count p0_marsh_fogSide p0_history_slots p0_history_free p0_history_count p1 = some X) (hp_p0 : At12 G w b0 p0_marsh_reeds_states p0_marsh_reeds_count p0_marsh_reeds_broken p0_marsh_fleet_numbers p0_marsh_fleet_cells p0_marsh_fleet_fares p0_marsh_fleet_count p0_marsh_fleet_nextNumber p0_marsh_fleet_total p0_marsh_fleet_removedFares p0_marsh_fleet_meetings p0_marsh_plans_moves p0_marsh_plans_lengths p0_marsh_landings_cells p0_marsh_landings_count p0_marsh_fogSide p0_snapshot_reeds_states p0_snapshot_reeds_count p0_snapshot_reeds_broken p0_snapshot_fleet_numbers p0_snapshot_fleet_cells p0_snapshot_fleet_fares p0_snapshot_fleet_count p0_snapshot_fleet_nextNumber p0_snapshot_fleet_total p0_snapshot_fleet_removedFares p0_snapshot_fleet_meetings p0_snapshot_plans_moves p0_snapshot_plans_lengths p0_snapshot_landings_cells p0_snapshot_landings_count p0_snapshot_fogSide p0_history_slots p0_history_free p0_history_count p0_ways_tolls p0_ways_queue p0_ways_heap p0_ways_heapSize p0_ways_found p0_ways_improved p0_pairing_costs p0_pairing_best p0_reader_kinds p0_reader_starts p0_reader_count p0_commandText_signs p0_commandText_length p0_line_signs p0_line_length p0_spareMoves p0_snapshotTaken p0_lastErrorPosition p0_lastFailedCommand) (hp_p1 : (a1, (.inl (G.2 3, 1, .inr (.inl p1)) : va_E)) ∈ w) (hd0 : b0 + 152 ≤ a1 ∨ a1 + 1 ≤ b0) : Met l yL_undo (Cond.codeWith yL_undo cL_undo 3 (some .int) [(0, 8, 11, 15)] :: gAll) ({ frames := 8, cells := 1, slots := 6, locals := 143 }) (va_Pc [.ref b0, .ref a1] (mm_Pre G w sz)) (mm_Qi G w sz (fun r w' => r = X.1 ∧ At12 G w' b0 X.2.1 X.2.2.1 X.2.2.2.1 X.2.2.2.2.1 X.2.2.2.2.2.1 X.2.2.2.2.2.2.1 X.2.2.2.2.2.2.2.1 X.2.2.2.2.2.2.2.2.1 X.2.2.2.2.2.2.2.2.2.1 X.2.2.2.2.2.2.2.2.2.2.1 X.2.2.2.2.2.2.2.2.2.2.2.1 X.2.2.2.2.2.2.2.2.2.2.2.2.1 X.2.2.2.2.2.2.2.2.2.2.2.2.2.1 X.2.2.2.2.2.2.2.2.2.2.2.2.2.2.1 X.2.2.2.2.2.2.2.2.2.2.2.2.2.2.2.1 X.2.2.2.2.2.2.2.2.2.2.2.2.2.2.2.2.1 p0_snapshot_reeds_states p0_snapshot_reeds_count p0_snapshot_reeds_broken p0_snapshot_fleet_numbers p0_snapshot_fleet_cells p0_snapshot_fleet_fares p0_snapshot_fleet_count p0_snapshot_fleet_nextNumber p0_snapshot_fleet_total p0_snapshot_fleet_removedFares p0_snapshot_fleet_meetings p0_snapshot_plans_moves p0_snapshot_plans_lengths p0_snapshot_landings_cells p0_snapshot_landings_count p0_snapshot_fogSide p0_history_slots X.2.2.2.2.2.2.2.2.2.2.2.2.2.2.2.2.2.1 X.2.2.2.2.2.2.2.2.2.2.2.2.2.2.2.2.2.2.1 p0_ways_tolls p0_ways_queue p0_ways_heap p0_ways_heapSize p0_ways_found p0_ways_improved p0_pairing_costs p0_pairing_best p0_reader_kinds p0_reader_starts p0_reader_count p0_commandText_signs p0_commandText_length p0_line_signs p0_line_length p0_spareMoves p0_snapshotTaken p0_lastErrorPosition p0_lastFailedCommand ∧ (a1, (.inl (G.2 3, 1, .inr (.inl X.2.2.2.2.2.2.2.2.2.2.2.2.2.2.2.2.2.2.2)) : va_E)) ∈ w' ∧ mm_fr2 w w' b0 (b0 + 152) a1 (a1 + 1))) 1 6 (va_A w sz) := by
  refine mm_hhead hfl [.ref b0, .ref a1] (by decide +kernel) rfl (Nat.le_of_ble_eq_true rfl) ?_
  intro p e s m args below meth c A Q hsz hC hM hret hxt ls hl
  have hx := hC.1.1
  have hb := hC.1.2.1
  have hl : lv_has ls 3 [(0, .ref b0), (1, .ref a1)] := hl
  have hF : mm_fr2 w w b0 (b0 + 152) a1 (a1 + 1) := mm_fr2.rf
  rw [f_L_undo] at hf
  refine lv_aload_n hx hb dL_undo_0 rfl (lv_at hl 1 rfl) ?_
  refine lv_iconst (v := 0) hx hb dL_undo_1 (by decide) ?_
  refine lv_aload_n hx hb dL_undo_2 rfl (lv_at hl 0 rfl) ?_
  obtain ⟨q3, hq3, hf⟩ := mm_bd hf
  refine mm_xVi (rest := [.int 0, .ref a1]) hC hM (c_X12_undo l hfl hq3 hp_p0) q6_223 q1_1 ykX12_undo q6_220 q6_221 q6_222 hp_p0.1 rfl ⟨rfl, rfl⟩ ⟨Nat.le_of_ble_eq_true rfl, Nat.le_of_ble_eq_true rfl⟩ rfl hl.1 rfl (Nat.le_of_ble_eq_true rfl) dL_undo_3 ⟨Nat.le_of_ble_eq_true rfl, Nat.le_of_ble_eq_true rfl⟩ (fun E ce qE w3 H locs hM hw hqE hv9 hcl9 => ?_) (fun r w3 H locs hM hw => ?_)
  · obtain ⟨hne, hE, hn_this, hfr⟩ := hw
    rw [if_neg hne] at hf
    by_cases hk0 : q3.1 = 3
    · rw [if_pos hk0] at hf
      have hEk : E = mm_ex 3 := by rw [hE, hk0]
      subst hEk
      have hp_p1 := hfr.keep hp_p1 (by omega)
      have hp_p0 := hn_this
      have hF := hF.tr (hfr.l (by omega) (by omega))
      refine vx_catch hC.1.2.2.2.1 [] ⟨0, 8, 11, 15⟩ [] hxt (fun z hz => absurd hz List.not_mem_nil) rfl (by decide) (hC.1.2.2.2.2 _ q3_170) (va_Nw.use rfl (hC.2.2.1.1.1 _ nw_castable_3)) hqE hv9 hcl9 ?_
      refine lv_astore_n (lv' := [(2, .ref qE), (0, .ref b0), (1, .ref a1)]) hx hb dL_undo_11 rfl hl (by decide) rfl (fun ls hl => ?_)
      refine lv_iconst (v := 1) hx hb dL_undo_12 (by decide) ?_
      cases hf
      exact hret hM dL_undo_13 rfl ⟨rfl, hp_p0, hp_p1, hF⟩ (Nat.le_of_ble_eq_true rfl) (Nat.le_of_ble_eq_true rfl)
    rw [if_neg hk0] at hf
    cases hf
  obtain ⟨h0, hr, hn_this, hfr⟩ := hw
  rw [if_pos h0] at hf
  rw [hr]
  have hp_p1 := hfr.keep hp_p1 (by omega)
  have hp_p0 := hn_this
  have hF := hF.tr (hfr.l (by omega) (by omega))
  refine lv_i2l hx hb dL_undo_6 rfl ?_
  refine mm_last0 hC hM hp_p1 dL_undo_7 (fun w7 H locs hM hm => ?_)
  have hp_p0 := hp_p0.up hm (by omega)
  have hp_p1 := hm.1
  have hF := hF.tr (hm.r (by omega) (by omega))
  refine lv_goto (tgt := 14) hx hb dL_undo_8 (by decide) ?_
  refine lv_iconst (v := 0) hx hb dL_undo_14 (by decide) ?_
  cases hf
  exact hret hM dL_undo_15 rfl ⟨rfl, hp_p0, hp_p1, hF⟩ (Nat.le_of_ble_eq_true rfl) (Nat.le_of_ble_eq_true rfl)
def f_L_restore (p0_marsh_reeds_states : Nat → Int32) (p0_marsh_reeds_count : Int32) (p0_marsh_reeds_broken : Int32) (p0_marsh_fleet_numbers : Nat → Int32) (p0_marsh_fleet_cells : Nat → Int32) (p0_marsh_fleet_fares : Nat → Int32) (p0_marsh_fleet_count : Int32) (p0_marsh_fleet_nextNumber : Int32) (p0_marsh_fleet_total : Int32) (p0_marsh_fleet_removedFares : Int32) (p0_marsh_fleet_meetings : Int32) (p0_marsh_plans_moves : Nat → Int32) (p0_marsh_plans_lengths : Nat → Int32) (p0_marsh_landings_cells : Nat → Int32) (p0_marsh_landings_count : Int32) (p0_marsh_fogSide : Int32) (p0_snapshot_reeds_states : Nat → Int32) (p0_snapshot_reeds_count : Int32) (p0_snapshot_reeds_broken : Int32) (p0_snapshot_fleet_numbers : Nat → Int32) (p0_snapshot_fleet_cells : Nat → Int32) (p0_snapshot_fleet_fares : Nat → Int32) (p0_snapshot_fleet_count : Int32) (p0_snapshot_fleet_nextNumber : Int32) (p0_snapshot_fleet_total : Int32) (p0_snapshot_fleet_removedFares : Int32) (p0_snapshot_fleet_meetings : Int32) (p0_snapshot_plans_moves : Nat → Int32) (p0_snapshot_plans_lengths : Nat → Int32) (p0_snapshot_landings_cells : Nat → Int32) (p0_snapshot_landings_count : Int32) (p0_snapshot_fogSide : Int32) (p0_history_count : Int32) (p0_snapshotTaken : Int32) (p1 : Nat → Int64) : Option (Int32 × (Nat → Int32) × Int32 × Int32 × (Nat → Int32) × (Nat → Int32) × (Nat → Int32) × Int32 × Int32 × Int32 × Int32 × Int32 × (Nat → Int32) × (Nat → Int32) × (Nat → Int32) × Int32 × Int32 × Int32 × (Nat → Int64)) := (f_X12_restore p0_marsh_reeds_states p0_marsh_reeds_count p0_marsh_reeds_broken p0_marsh_fleet_numbers p0_marsh_fleet_cells p0_marsh_fleet_fares p0_marsh_fleet_count p0_marsh_fleet_nextNumber p0_marsh_fleet_total p0_marsh_fleet_removedFares p0_marsh_fleet_meetings p0_marsh_plans_moves p0_marsh_plans_lengths p0_marsh_landings_cells p0_marsh_landings_count p0_marsh_fogSide p0_snapshot_reeds_states p0_snapshot_reeds_count p0_snapshot_reeds_broken p0_snapshot_fleet_numbers p0_snapshot_fleet_cells p0_snapshot_fleet_fares p0_snapshot_fleet_count p0_snapshot_fleet_nextNumber p0_snapshot_fleet_total p0_snapshot_fleet_removedFares p0_snapshot_fleet_meetings p0_snapshot_plans_moves p0_snapshot_plans_lengths p0_snapshot_landings_cells p0_snapshot_landings_count p0_snapshot_fogSide p0_history_count p0_snapshotTaken).bind fun q3 => if q3.1 = 0 then some (0, q3.2.2.1, q3.2.2.2.1, q3.2.2.2.2.1, q3.2.2.2.2.2.1, q3.2.2.2.2.2.2.1, q3.2.2.2.2.2.2.2.1, q3.2.2.2.2.2.2.2.2.1, q3.2.2.2.2.2.2.2.2.2.1, q3.2.2.2.2.2.2.2.2.2.2.1, q3.2.2.2.2.2.2.2.2.2.2.2.1, q3.2.2.2.2.2.2.2.2.2.2.2.2.1, q3.2.2.2.2.2.2.2.2.2.2.2.2.2.1, q3.2.2.2.2.2.2.2.2.2.2.2.2.2.2.1, q3.2.2.2.2.2.2.2.2.2.2.2.2.2.2.2.1, q3.2.2.2.2.2.2.2.2.2.2.2.2.2.2.2.2.1, q3.2.2.2.2.2.2.2.2.2.2.2.2.2.2.2.2.2.1, q3.2.2.2.2.2.2.2.2.2.2.2.2.2.2.2.2.2.2, (vp_updL p1 0 q3.2.1.toInt64)) else if q3.1 = 3 then some (1, q3.2.2.1, q3.2.2.2.1, q3.2.2.2.2.1, q3.2.2.2.2.2.1, q3.2.2.2.2.2.2.1, q3.2.2.2.2.2.2.2.1, q3.2.2.2.2.2.2.2.2.1, q3.2.2.2.2.2.2.2.2.2.1, q3.2.2.2.2.2.2.2.2.2.2.1, q3.2.2.2.2.2.2.2.2.2.2.2.1, q3.2.2.2.2.2.2.2.2.2.2.2.2.1, q3.2.2.2.2.2.2.2.2.2.2.2.2.2.1, q3.2.2.2.2.2.2.2.2.2.2.2.2.2.2.1, q3.2.2.2.2.2.2.2.2.2.2.2.2.2.2.2.1, q3.2.2.2.2.2.2.2.2.2.2.2.2.2.2.2.2.1, q3.2.2.2.2.2.2.2.2.2.2.2.2.2.2.2.2.2.1, q3.2.2.2.2.2.2.2.2.2.2.2.2.2.2.2.2.2.2, p1) else none
set_option maxHeartbeats 4000000 in
set_option maxRecDepth 100000 in
theorem c_L_restore (l : Launch) (hfl : l.stackTraces = false) {G : mm_G} {w : va_W} {sz : Nat} {b0 : Nat} {a1 : Nat} {p0_marsh_reeds_states : Nat → Int32} {p0_marsh_reeds_count : Int32} {p0_marsh_reeds_broken : Int32} {p0_marsh_fleet_numbers : Nat → Int32} {p0_marsh_fleet_cells : Nat → Int32} {p0_marsh_fleet_fares : Nat → Int32} {p0_marsh_fleet_count : Int32} {p0_marsh_fleet_nextNumber : Int32} {p0_marsh_fleet_total : Int32} {p0_marsh_fleet_removedFares : Int32} {p0_marsh_fleet_meetings : Int32} {p0_marsh_plans_moves : Nat → Int32} {p0_marsh_plans_lengths : Nat → Int32} {p0_marsh_landings_cells : Nat → Int32} {p0_marsh_landings_count : Int32} {p0_marsh_fogSide : Int32} {p0_snapshot_reeds_states : Nat → Int32} {p0_snapshot_reeds_count : Int32} {p0_snapshot_reeds_broken : Int32} {p0_snapshot_fleet_numbers : Nat → Int32} {p0_snapshot_fleet_cells : Nat → Int32} {p0_snapshot_fleet_fares : Nat → Int32} {p0_snapshot_fleet_count : Int32} {p0_snapshot_fleet_nextNumber : Int32} {p0_snapshot_fleet_total : Int32} {p0_snapshot_fleet_removedFares : Int32} {p0_snapshot_fleet_meetings : Int32} {p0_snapshot_plans_moves : Nat → Int32} {p0_snapshot_plans_lengths : Nat → Int32} {p0_snapshot_landings_cells : Nat → Int32} {p0_snapshot_landings_count : Int32} {p0_snapshot_fogSide : Int32} {p0_history_slots : Nat → mm_MV} {p0_history_free : Int32} {p0_history_count : Int32} {p0_ways_tolls : Nat → Int32} {p0_ways_queue : Nat → Int32} {p0_ways_heap : Nat → Int32} {p0_ways_heapSize : Int32} {p0_ways_found : Nat → Int32} {p0_ways_improved : Nat → Int32} {p0_pairing_costs : Nat → Int32} {p0_pairing_best : Nat → Int32} {p0_reader_kinds : Nat → Int32} {p0_reader_starts : Nat → Int32} {p0_reader_count : Int32} {p0_commandText_signs : Nat → Int32} {p0_commandText_length : Int32} {p0_line_signs : Nat → Int32} {p0_line_length : Int32} {p0_spareMoves : Nat → Int32} {p0_snapshotTaken : Int32} {p0_lastErrorPosition : Int32} {p0_lastFailedCommand : Int32} {p1 : Nat → Int64} {X : Int32 × (Nat → Int32) × Int32 × Int32 × (Nat → Int32) × (Nat → Int32) × (Nat → Int32) × Int32 × Int32 × Int32 × Int32 × Int32 × (Nat → Int32) × (Nat → Int32) × (Nat → Int32) × Int32 × Int32 × Int32 × (Nat → Int64)} (hf : f_L_restore p0_marsh_reeds_states p0_marsh_reeds_count p0_marsh_reeds_broken p0_marsh_fleet_numbers p0_marsh_fleet_cells p0_marsh_fleet_fares p0_marsh_fleet_count p0_marsh_fleet_nextNumber p0_marsh_fleet_total p0_marsh_fleet_removedFares p0_marsh_fleet_meetings p0_marsh_plans_moves p0_marsh_plans_lengths p0_marsh_landings_cells p0_marsh_landings_count p0_marsh_fogSide p0_snapshot_reeds_states p0_snapshot_reeds_count p0_snapshot_reeds_broken p0_snapshot_fleet_numbers p0_snapshot_fleet_cells p0_snapshot_fleet_fares p0_snapshot_fleet_count p0_snapshot_fleet_nextNumber p0_snapshot_fleet_total p0_snapshot_fleet_removedFares p0_snapshot_fleet_meetings p0_snapshot_plans_moves p0_snapshot_plans_lengths p0_snapshot_landings_cells p0_snapshot_landings_count p0_snapshot_fogSide p0_history_count p0_snapshotTaken p1 = some X) (hp_p0 : At12 G w b0 p0_marsh_reeds_states p0_marsh_reeds_count p0_marsh_reeds_broken p0_marsh_fleet_numbers p0_marsh_fleet_cells p0_marsh_fleet_fares p0_marsh_fleet_count p0_marsh_fleet_nextNumber p0_marsh_fleet_total p0_marsh_fleet_removedFares p0_marsh_fleet_meetings p0_marsh_plans_moves p0_marsh_plans_lengths p0_marsh_landings_cells p0_marsh_landings_count p0_marsh_fogSide p0_snapshot_reeds_states p0_snapshot_reeds_count p0_snapshot_reeds_broken p0_snapshot_fleet_numbers p0_snapshot_fleet_cells p0_snapshot_fleet_fares p0_snapshot_fleet_count p0_snapshot_fleet_nextNumber p0_snapshot_fleet_total p0_snapshot_fleet_removedFares p0_snapshot_fleet_meetings p0_snapshot_plans_moves p0_snapshot_plans_lengths p0_snapshot_landings_cells p0_snapshot_landings_count p0_snapshot_fogSide p0_history_slots p0_history_free p0_history_count p0_ways_tolls p0_ways_queue p0_ways_heap p0_ways_heapSize p0_ways_found p0_ways_improved p0_pairing_costs p0_pairing_best p0_reader_kinds p0_reader_starts p0_reader_count p0_commandText_signs p0_commandText_length p0_line_signs p0_line_length p0_spareMoves p0_snapshotTaken p0_lastErrorPosition p0_lastFailedCommand) (hp_p1 : (a1, (.inl (G.2 3, 1, .inr (.inl p1)) : va_E)) ∈ w) (hd0 : b0 + 152 ≤ a1 ∨ a1 + 1 ≤ b0) : Met l yL_restore (Cond.codeWith yL_restore cL_restore 3 (some .int) [(0, 8, 11, 15)] :: gAll) ({ frames := 8, cells := 1, slots := 6, locals := 140 }) (va_Pc [.ref b0, .ref a1] (mm_Pre G w sz)) (mm_Qi G w sz (fun r w' => r = X.1 ∧ At12 G w' b0 X.2.1 X.2.2.1 X.2.2.2.1 X.2.2.2.2.1 X.2.2.2.2.2.1 X.2.2.2.2.2.2.1 X.2.2.2.2.2.2.2.1 X.2.2.2.2.2.2.2.2.1 X.2.2.2.2.2.2.2.2.2.1 X.2.2.2.2.2.2.2.2.2.2.1 X.2.2.2.2.2.2.2.2.2.2.2.1 X.2.2.2.2.2.2.2.2.2.2.2.2.1 X.2.2.2.2.2.2.2.2.2.2.2.2.2.1 X.2.2.2.2.2.2.2.2.2.2.2.2.2.2.1 X.2.2.2.2.2.2.2.2.2.2.2.2.2.2.2.1 X.2.2.2.2.2.2.2.2.2.2.2.2.2.2.2.2.1 p0_snapshot_reeds_states p0_snapshot_reeds_count p0_snapshot_reeds_broken p0_snapshot_fleet_numbers p0_snapshot_fleet_cells p0_snapshot_fleet_fares p0_snapshot_fleet_count p0_snapshot_fleet_nextNumber p0_snapshot_fleet_total p0_snapshot_fleet_removedFares p0_snapshot_fleet_meetings p0_snapshot_plans_moves p0_snapshot_plans_lengths p0_snapshot_landings_cells p0_snapshot_landings_count p0_snapshot_fogSide p0_history_slots p0_history_free X.2.2.2.2.2.2.2.2.2.2.2.2.2.2.2.2.2.1 p0_ways_tolls p0_ways_queue p0_ways_heap p0_ways_heapSize p0_ways_found p0_ways_improved p0_pairing_costs p0_pairing_best p0_reader_kinds p0_reader_starts p0_reader_count p0_commandText_signs p0_commandText_length p0_line_signs p0_line_length p0_spareMoves p0_snapshotTaken p0_lastErrorPosition p0_lastFailedCommand ∧ (a1, (.inl (G.2 3, 1, .inr (.inl X.2.2.2.2.2.2.2.2.2.2.2.2.2.2.2.2.2.2)) : va_E)) ∈ w' ∧ mm_fr2 w w' b0 (b0 + 152) a1 (a1 + 1))) 1 6 (va_A w sz) := by
  refine mm_hhead hfl [.ref b0, .ref a1] (by decide +kernel) rfl (Nat.le_of_ble_eq_true rfl) ?_
  intro p e s m args below meth c A Q hsz hC hM hret hxt ls hl
  have hx := hC.1.1
  have hb := hC.1.2.1
  have hl : lv_has ls 3 [(0, .ref b0), (1, .ref a1)] := hl
  have hF : mm_fr2 w w b0 (b0 + 152) a1 (a1 + 1) := mm_fr2.rf
  rw [f_L_restore] at hf
  refine lv_aload_n hx hb dL_restore_0 rfl (lv_at hl 1 rfl) ?_
  refine lv_iconst (v := 0) hx hb dL_restore_1 (by decide) ?_
  refine lv_aload_n hx hb dL_restore_2 rfl (lv_at hl 0 rfl) ?_
  obtain ⟨q3, hq3, hf⟩ := mm_bd hf
  refine mm_xVi (rest := [.int 0, .ref a1]) hC hM (c_X12_restore l hfl hq3 hp_p0) q6_234 q1_1 ykX12_restore q6_231 q6_232 q6_233 hp_p0.1 rfl ⟨rfl, rfl⟩ ⟨Nat.le_of_ble_eq_true rfl, Nat.le_of_ble_eq_true rfl⟩ rfl hl.1 rfl (Nat.le_of_ble_eq_true rfl) dL_restore_3 ⟨Nat.le_of_ble_eq_true rfl, Nat.le_of_ble_eq_true rfl⟩ (fun E ce qE w3 H locs hM hw hqE hv9 hcl9 => ?_) (fun r w3 H locs hM hw => ?_)
  · obtain ⟨hne, hE, hn_this, hfr⟩ := hw
    rw [if_neg hne] at hf
    by_cases hk0 : q3.1 = 3
    · rw [if_pos hk0] at hf
      have hEk : E = mm_ex 3 := by rw [hE, hk0]
      subst hEk
      have hp_p1 := hfr.keep hp_p1 (by omega)
      have hp_p0 := hn_this
      have hF := hF.tr (hfr.l (by omega) (by omega))
      refine vx_catch hC.1.2.2.2.1 [] ⟨0, 8, 11, 15⟩ [] hxt (fun z hz => absurd hz List.not_mem_nil) rfl (by decide) (hC.1.2.2.2.2 _ q3_170) (va_Nw.use rfl (hC.2.2.1.1.1 _ nw_castable_3)) hqE hv9 hcl9 ?_
      refine lv_astore_n (lv' := [(2, .ref qE), (0, .ref b0), (1, .ref a1)]) hx hb dL_restore_11 rfl hl (by decide) rfl (fun ls hl => ?_)
      refine lv_iconst (v := 1) hx hb dL_restore_12 (by decide) ?_
      cases hf
      exact hret hM dL_restore_13 rfl ⟨rfl, hp_p0, hp_p1, hF⟩ (Nat.le_of_ble_eq_true rfl) (Nat.le_of_ble_eq_true rfl)
    rw [if_neg hk0] at hf
    cases hf
  obtain ⟨h0, hr, hn_this, hfr⟩ := hw
  rw [if_pos h0] at hf
  rw [hr]
  have hp_p1 := hfr.keep hp_p1 (by omega)
  have hp_p0 := hn_this
  have hF := hF.tr (hfr.l (by omega) (by omega))
  refine lv_i2l hx hb dL_restore_6 rfl ?_
  refine mm_last0 hC hM hp_p1 dL_restore_7 (fun w7 H locs hM hm => ?_)
  have hp_p0 := hp_p0.up hm (by omega)
  have hp_p1 := hm.1
  have hF := hF.tr (hm.r (by omega) (by omega))
  refine lv_goto (tgt := 14) hx hb dL_restore_8 (by decide) ?_
  refine lv_iconst (v := 0) hx hb dL_restore_14 (by decide) ?_
  cases hf
  exact hret hM dL_restore_15 rfl ⟨rfl, hp_p0, hp_p1, hF⟩ (Nat.le_of_ble_eq_true rfl) (Nat.le_of_ble_eq_true rfl)
