section GLAW
variable {p : Program} {l : Launch} {e : Env} {s : State} {m : MethodId} {args : Array Value} {below : List Frame} {meth : Method} {c : Code} {H : Heap} {locs : List Loc} {cells slots : Nat} {Q : State → Prop}
variable {G : mm_G} {A : Nat → Prop} {w : va_W} {b b1 b2 a3 a4 L : Nat} {xs : Nat → Int32}
def g_law0 (K : Nat) (p1_marsh_reeds_states : Nat → Int32) (p1_marsh_reeds_count : Int32) (p1_marsh_reeds_broken : Int32) (p1_marsh_fleet_numbers : Nat → Int32) (p1_marsh_fleet_cells : Nat → Int32) (p1_marsh_fleet_fares : Nat → Int32) (p1_marsh_fleet_count : Int32) (p1_marsh_fleet_nextNumber : Int32) (p1_marsh_fleet_total : Int32) (p1_marsh_fleet_removedFares : Int32) (p1_marsh_fleet_meetings : Int32) (p1_marsh_plans_moves : Nat → Int32) (p1_marsh_plans_lengths : Nat → Int32) (p1_marsh_landings_cells : Nat → Int32) (p1_marsh_landings_count : Int32) (p1_marsh_fogSide : Int32) (p1_history_slots : Nat → mm_MV) (p1_history_free : Int32) (p1_history_count : Int32) (p2_changes : Int32) (p2_v : Nat → Int32) (p2_before : Nat → Int32) (p2_past : Nat → Int32) (p3 : Nat → Int64) (x1 : Int32) (x2 : Int32) : Option ((Nat → Int32) × Int32 × (Nat → mm_MV) × Int32 × Int32 × Int32 × Int32 × (Nat → Int32) × (Nat → Int32) × (Nat → Int32) × (Nat → Int64)) := (f_L_addReed K p1_marsh_reeds_states p1_marsh_reeds_count p1_marsh_reeds_broken p1_marsh_fleet_numbers p1_marsh_fleet_cells p1_marsh_fleet_fares p1_marsh_fleet_count p1_marsh_fleet_nextNumber p1_marsh_fleet_total p1_marsh_fleet_removedFares p1_marsh_fleet_meetings p1_marsh_plans_moves p1_marsh_plans_lengths p1_marsh_landings_cells p1_marsh_landings_count p1_marsh_fogSide p1_history_slots p1_history_free p1_history_count p3 x1 x2).bind fun q310 => (f_X13_addReed K p2_changes p2_v p2_before p2_past x1 x2).bind fun q328 => (f_X13_thrown q328.2.1).bind fun q334 => if q334 = q310.1 then if q310.1 = 0 then if (lg_cmp (q310.2.2.2.2.2.2 0) q328.1.toInt64) = 0 then some (q310.2.1, q310.2.2.1, q310.2.2.2.1, q310.2.2.2.2.1, q310.2.2.2.2.2.1, q328.2.1, q328.2.2.1, q328.2.2.2.1, q328.2.2.2.2.1, q328.2.2.2.2.2, q310.2.2.2.2.2.2) else none else some (q310.2.1, q310.2.2.1, q310.2.2.2.1, q310.2.2.2.2.1, q310.2.2.2.2.2.1, q328.2.1, q328.2.2.1, q328.2.2.2.1, q328.2.2.2.2.1, q328.2.2.2.2.2, q310.2.2.2.2.2.2) else none
set_option maxHeartbeats 4000000 in
set_option maxRecDepth 100000 in
theorem g_law0_c (hC : mm_C G A p s m c code 10 args "MirrorFerryLaw") (hsX : va_X b L xs s s.heap) (hbl : b < s.heap.size) (hbA : ¬ A b) (hd1 : b1 + 152 ≤ b2) (hd2 : b2 + 13 ≤ a3) (hd3 : a3 + 1 ≤ a4) (hrc : cells + 1000 ≤ room_1.cells) (hrs : slots + 10000 ≤ room_1.slots) (hfl : l.stackTraces = false) {K : Nat} {p1_marsh_reeds_states : Nat → Int32} {p1_marsh_reeds_count : Int32} {p1_marsh_reeds_broken : Int32} {p1_marsh_fleet_numbers : Nat → Int32} {p1_marsh_fleet_cells : Nat → Int32} {p1_marsh_fleet_fares : Nat → Int32} {p1_marsh_fleet_count : Int32} {p1_marsh_fleet_nextNumber : Int32} {p1_marsh_fleet_total : Int32} {p1_marsh_fleet_removedFares : Int32} {p1_marsh_fleet_meetings : Int32} {p1_marsh_plans_moves : Nat → Int32} {p1_marsh_plans_lengths : Nat → Int32} {p1_marsh_landings_cells : Nat → Int32} {p1_marsh_landings_count : Int32} {p1_marsh_fogSide : Int32} {p1_snapshot_reeds_states : Nat → Int32} {p1_snapshot_reeds_count : Int32} {p1_snapshot_reeds_broken : Int32} {p1_snapshot_fleet_numbers : Nat → Int32} {p1_snapshot_fleet_cells : Nat → Int32} {p1_snapshot_fleet_fares : Nat → Int32} {p1_snapshot_fleet_count : Int32} {p1_snapshot_fleet_nextNumber : Int32} {p1_snapshot_fleet_total : Int32} {p1_snapshot_fleet_removedFares : Int32} {p1_snapshot_fleet_meetings : Int32} {p1_snapshot_plans_moves : Nat → Int32} {p1_snapshot_plans_lengths : Nat → Int32} {p1_snapshot_landings_cells : Nat → Int32} {p1_snapshot_landings_count : Int32} {p1_snapshot_fogSide : Int32} {p1_history_slots : Nat → mm_MV} {p1_history_free : Int32} {p1_history_count : Int32} {p1_ways_tolls : Nat → Int32} {p1_ways_queue : Nat → Int32} {p1_ways_heap : Nat → Int32} {p1_ways_heapSize : Int32} {p1_ways_found : Nat → Int32} {p1_ways_improved : Nat → Int32} {p1_pairing_costs : Nat → Int32} {p1_pairing_best : Nat → Int32} {p1_reader_kinds : Nat → Int32} {p1_reader_starts : Nat → Int32} {p1_reader_count : Int32} {p1_commandText_signs : Nat → Int32} {p1_commandText_length : Int32} {p1_line_signs : Nat → Int32} {p1_line_length : Int32} {p1_spareMoves : Nat → Int32} {p1_snapshotTaken : Int32} {p1_lastErrorPosition : Int32} {p1_lastFailedCommand : Int32} {p2_thrown : Int32} {p2_changes : Int32} {p2_errorAt : Int32} {p2_failedAt : Int32} {p2_isSaved : Int32} {p2_v : Nat → Int32} {p2_before : Nat → Int32} {p2_saved : Nat → Int32} {p2_past : Nat → Int32} {p2_far : Nat → Int32} {p2_scratch : Nat → Int32} {p2_best : Nat → Int32} {p2_thenX : Int32} {p2_thenY : Int32} {p2_thenMet : Int32} {p2_text : Nat → Int32} {p2_line : Nat → Int32} {p2_isLeft : Nat → Int32} {p2_words : Nat → Int32} {p2_wordAt : Nat → Int32} {p2_textN : Int32} {p2_hereP : Int32} {p2_endP : Int32} {p2_lineN : Int32} {p2_isWrong : Int32} {p2_isDoing : Int32} {p3 : Nat → Int64} {p4 : Nat → UInt64} {x0 x1 x2 x3 x4 x5 : Int32} {X : (Nat → Int32) × Int32 × (Nat → mm_MV) × Int32 × Int32 × Int32 × Int32 × (Nat → Int32) × (Nat → Int32) × (Nat → Int32) × (Nat → Int64)} (hf : g_law0 K p1_marsh_reeds_states p1_marsh_reeds_count p1_marsh_reeds_broken p1_marsh_fleet_numbers p1_marsh_fleet_cells p1_marsh_fleet_fares p1_marsh_fleet_count p1_marsh_fleet_nextNumber p1_marsh_fleet_total p1_marsh_fleet_removedFares p1_marsh_fleet_meetings p1_marsh_plans_moves p1_marsh_plans_lengths p1_marsh_landings_cells p1_marsh_landings_count p1_marsh_fogSide p1_history_slots p1_history_free p1_history_count p2_changes p2_v p2_before p2_past p3 x1 x2 = some X) (hp_p1 : At12 G w b1 p1_marsh_reeds_states p1_marsh_reeds_count p1_marsh_reeds_broken p1_marsh_fleet_numbers p1_marsh_fleet_cells p1_marsh_fleet_fares p1_marsh_fleet_count p1_marsh_fleet_nextNumber p1_marsh_fleet_total p1_marsh_fleet_removedFares p1_marsh_fleet_meetings p1_marsh_plans_moves p1_marsh_plans_lengths p1_marsh_landings_cells p1_marsh_landings_count p1_marsh_fogSide p1_snapshot_reeds_states p1_snapshot_reeds_count p1_snapshot_reeds_broken p1_snapshot_fleet_numbers p1_snapshot_fleet_cells p1_snapshot_fleet_fares p1_snapshot_fleet_count p1_snapshot_fleet_nextNumber p1_snapshot_fleet_total p1_snapshot_fleet_removedFares p1_snapshot_fleet_meetings p1_snapshot_plans_moves p1_snapshot_plans_lengths p1_snapshot_landings_cells p1_snapshot_landings_count p1_snapshot_fogSide p1_history_slots p1_history_free p1_history_count p1_ways_tolls p1_ways_queue p1_ways_heap p1_ways_heapSize p1_ways_found p1_ways_improved p1_pairing_costs p1_pairing_best p1_reader_kinds p1_reader_starts p1_reader_count p1_commandText_signs p1_commandText_length p1_line_signs p1_line_length p1_spareMoves p1_snapshotTaken p1_lastErrorPosition p1_lastFailedCommand) (hp_p2 : At13 G w b2 p2_thrown p2_changes p2_errorAt p2_failedAt p2_isSaved p2_v p2_before p2_saved p2_past p2_far p2_scratch p2_best p2_thenX p2_thenY p2_thenMet p2_text p2_line p2_isLeft p2_words p2_wordAt p2_textN p2_hereP p2_endP p2_lineN p2_isWrong p2_isDoing) (hp_p3 : (a3, (.inl (G.2 3, 1, .inr (.inl p3)) : va_E)) ∈ w) (hp_p4 : (a4, (.inl (G.2 4, 1, .inr (.inr (.inr (.inl p4)))) : va_E)) ∈ w)
    (hsc : ∀ k : Nat, k < 5 → vp_in (x5 + Int32.ofNat k) L ∧ xs (x5 + Int32.ofNat k).toNatClampNeg = mm_x5 x0 x1 x2 x3 x4 k) (hM : mm_S G A s.heap w H locs)
    (hk : ∀ (w : va_W) (H : Heap) (locs : List Loc), mm_S G A s.heap w H locs → At12 G w b1 X.1 X.2.1 p1_marsh_reeds_broken p1_marsh_fleet_numbers p1_marsh_fleet_cells p1_marsh_fleet_fares p1_marsh_fleet_count p1_marsh_fleet_nextNumber p1_marsh_fleet_total p1_marsh_fleet_removedFares p1_marsh_fleet_meetings p1_marsh_plans_moves p1_marsh_plans_lengths p1_marsh_landings_cells p1_marsh_landings_count p1_marsh_fogSide p1_snapshot_reeds_states p1_snapshot_reeds_count p1_snapshot_reeds_broken p1_snapshot_fleet_numbers p1_snapshot_fleet_cells p1_snapshot_fleet_fares p1_snapshot_fleet_count p1_snapshot_fleet_nextNumber p1_snapshot_fleet_total p1_snapshot_fleet_removedFares p1_snapshot_fleet_meetings p1_snapshot_plans_moves p1_snapshot_plans_lengths p1_snapshot_landings_cells p1_snapshot_landings_count p1_snapshot_fogSide X.2.2.1 X.2.2.2.1 X.2.2.2.2.1 p1_ways_tolls p1_ways_queue p1_ways_heap p1_ways_heapSize p1_ways_found p1_ways_improved p1_pairing_costs p1_pairing_best p1_reader_kinds p1_reader_starts p1_reader_count p1_commandText_signs p1_commandText_length p1_line_signs p1_line_length p1_spareMoves p1_snapshotTaken p1_lastErrorPosition p1_lastFailedCommand → At13 G w b2 X.2.2.2.2.2.1 X.2.2.2.2.2.2.1 p2_errorAt p2_failedAt p2_isSaved X.2.2.2.2.2.2.2.1 X.2.2.2.2.2.2.2.2.1 p2_saved X.2.2.2.2.2.2.2.2.2.1 p2_far p2_scratch p2_best p2_thenX p2_thenY p2_thenMet p2_text p2_line p2_isLeft p2_words p2_wordAt p2_textN p2_hereP p2_endP p2_lineN p2_isWrong p2_isDoing → (a3, (.inl (G.2 3, 1, .inr (.inl X.2.2.2.2.2.2.2.2.2.2)) : va_E)) ∈ w → (a4, (.inl (G.2 4, 1, .inr (.inr (.inr (.inl p4)))) : va_E)) ∈ w → ∀ ls, lv_has ls 10 [(0, .ref b), (1, .ref b1), (2, .ref b2), (3, .ref a3), (4, .ref a4), (5, .int x5)] → W p l e room_1 s m args below meth c H locs (cells + 1000) (slots + 10000) Q (F0 m 3345 ls [])) (ls : Array Slot) (hl : lv_has ls 10 [(0, .ref b), (1, .ref b1), (2, .ref b2), (3, .ref a3), (4, .ref a4), (5, .int x5)]) : W p l e room_1 s m args below meth c H locs cells slots Q (F0 m 296 ls []) := by
  have hx := hC.1.1
  have hb := hC.1.2.1
  rw [g_law0] at hf
  refine lv_aload_n hx hb dL_law_296 rfl (lv_at hl 1 rfl) ?_
  refine lv_aload_n hx hb dL_law_297 rfl (lv_at hl 0 rfl) ?_
  refine lv_iload hx hb dL_law_298 (lv_at hl 5 rfl) ?_
  refine lv_iconst (v := 1) hx hb dL_law_300 (by decide) ?_
  refine lv_iadd hx hb dL_law_301 ?_
  refine mm_sld hC hM hsX hbl hbA (hsc 1 (by decide)).1 (hsc 1 (by decide)).2 dL_law_302 ?_
  refine lv_aload_n hx hb dL_law_303 rfl (lv_at hl 0 rfl) ?_
  refine lv_iload hx hb dL_law_304 (lv_at hl 5 rfl) ?_
  refine lv_iconst (v := 2) hx hb dL_law_306 (by decide) ?_
  refine lv_iadd hx hb dL_law_307 ?_
  refine mm_sld hC hM hsX hbl hbA (hsc 2 (by decide)).1 (hsc 2 (by decide)).2 dL_law_308 ?_
  refine lv_aload_n hx hb dL_law_309 rfl (lv_at hl 3 rfl) ?_
  obtain ⟨q310, hq310, hf⟩ := mm_bd hf
  refine mm_SiW (rest := []) hC hM (c_L_addReed l hfl hq310 hp_p1 hp_p3 (by omega)) q3_89 q1_0 ykL_addReed q3_87 q3_88 ⟨rfl, rfl⟩ ⟨Nat.le_of_ble_eq_true rfl, Nat.le_of_ble_eq_true rfl⟩ rfl hl.1 rfl (Nat.le_of_ble_eq_true rfl) dL_law_310 ⟨by omega, by omega⟩ (fun r w310 H locs hM hw => ?_)
  obtain ⟨hr, hn_p0, hn_p3, hfr⟩ := hw
  rw [hr]
  have hp_p2 := hp_p2.keep2 hfr (by omega) (by omega)
  have hp_p4 := hfr.keep hp_p4 (by omega) (by omega)
  have hp_p1 := hn_p0
  have hp_p3 := hn_p3
  refine lv_istore (lv' := [(6, .int q310.1), (0, .ref b), (1, .ref b1), (2, .ref b2), (3, .ref a3), (4, .ref a4), (5, .int x5)]) hx hb dL_law_313 hl (by decide) rfl (fun ls hl => ?_)
  refine lv_aload_n hx hb dL_law_315 rfl (lv_at hl 3 rfl) ?_
  refine lv_aload_n hx hb dL_law_316 rfl (lv_at hl 1 rfl) ?_
  refine lv_iload hx hb dL_law_317 (lv_at hl 6 rfl) ?_
  refine lv_iconst (v := 1) hx hb dL_law_319 (by decide) ?_
  refine lv_iadd hx hb dL_law_320 ?_
  refine mm_sld hC hM hsX hbl hbA (hsc 1 (by decide)).1 (hsc 1 (by decide)).2 dL_law_321 ?_
  refine lv_aload_n hx hb dL_law_322 rfl (lv_at hl 1 rfl) ?_
  refine lv_iload hx hb dL_law_323 (lv_at hl 6 rfl) ?_
  refine lv_iconst (v := 2) hx hb dL_law_325 (by decide) ?_
  refine lv_iadd hx hb dL_law_326 ?_
  refine mm_sld hC hM hsX hbl hbA (hsc 2 (by decide)).1 (hsc 2 (by decide)).2 dL_law_327 ?_
  obtain ⟨q328, hq328, hf⟩ := mm_bd hf
  refine mm_Vi (rest := []) hC hM (c_X13_addReed l hq328 hp_p2) q7_91 q1_12 ykX13_addReed q7_88 q7_89 q7_90 hp_p2.1 rfl ⟨rfl, rfl⟩ ⟨Nat.le_of_ble_eq_true rfl, Nat.le_of_ble_eq_true rfl⟩ rfl hl.1 rfl (Nat.le_of_ble_eq_true rfl) dL_law_328 ⟨by omega, by omega⟩ (fun r w328 H locs hM hw => ?_)
  obtain ⟨hr, hn_this, hfr⟩ := hw
  rw [hr]
  have hp_p1 := hp_p1.keep hfr (by omega)
  have hp_p3 := hfr.keep hp_p3 (by omega)
  have hp_p4 := hfr.keep hp_p4 (by omega)
  have hp_p2 := hn_this
  refine lv_istore (lv' := [(7, .int q328.1), (6, .int q310.1), (0, .ref b), (1, .ref b1), (2, .ref b2), (3, .ref a3), (4, .ref a4), (5, .int x5)]) hx hb dL_law_331 hl (by decide) rfl (fun ls hl => ?_)
  refine lv_aload_n hx hb dL_law_333 rfl (lv_at hl 4 rfl) ?_
  obtain ⟨q334, hq334, hf⟩ := mm_bd hf
  refine mm_Vi (rest := []) hC hM (c_X13_thrown l hq334 hp_p2) q7_87 q1_12 ykX13_thrown q7_84 q7_85 q7_86 hp_p2.1 rfl ⟨rfl, rfl⟩ ⟨Nat.le_of_ble_eq_true rfl, Nat.le_of_ble_eq_true rfl⟩ rfl hl.1 rfl (Nat.le_of_ble_eq_true rfl) dL_law_334 ⟨by omega, by omega⟩ (fun r w334 H locs hM hw => ?_)
  obtain ⟨hr, hw⟩ := hw
  rw [hr]
  rw [hw] at hM
  refine lv_iload hx hb dL_law_337 (lv_at hl 1 rfl) ?_
  refine lv_icmp_eq (tgt := 344) hx hb dL_law_339 (by decide) (fun hcd => ?_) (fun hcd => ?_)
  · rw [if_pos hcd] at hf
    refine lv_iload hx hb dL_law_344 (lv_at hl 1 rfl) ?_
    refine lv_if_ne (tgt := 361) hx hb dL_law_346 (by decide) (fun hcd => ?_) (fun hcd => ?_)
    · rw [if_neg hcd] at hf
      refine lv_goto (tgt := 3345) hx hb dL_law_361 (by decide) ?_
      cases hf
      exact W.widen (by omega) (by omega) (hk _ _ _ hM hp_p1 hp_p2 hp_p3 hp_p4 _ (lv_sub hl [2, 3, 4, 5, 6, 7] rfl))
    · rw [if_pos hcd] at hf
      refine lv_aload_n hx hb dL_law_349 rfl (lv_at hl 5 rfl) ?_
      refine lv_iconst (v := 0) hx hb dL_law_350 (by decide) ?_
      refine mm_lald0 hC hM hp_p3 dL_law_351 ?_
      refine lv_iload hx hb dL_law_352 (lv_at hl 0 rfl) ?_
      refine lv_i2l hx hb dL_law_354 rfl ?_
      refine W.lcmp hx hb dL_law_355 ?_
      refine lv_if_eq (tgt := 361) hx hb dL_law_356 (by decide) (fun hcd => ?_) (fun hcd => ?_)
      · rw [if_pos hcd] at hf
        refine lv_goto (tgt := 3345) hx hb dL_law_361 (by decide) ?_
        cases hf
        exact W.widen (by omega) (by omega) (hk _ _ _ hM hp_p1 hp_p2 hp_p3 hp_p4 _ (lv_sub hl [2, 3, 4, 5, 6, 7] rfl))
      · rw [if_neg hcd] at hf
        refine lv_iconst (v := 0) hx hb dL_law_359 (by decide) ?_
        cases hf
  · rw [if_neg hcd] at hf
    refine lv_iconst (v := 0) hx hb dL_law_342 (by decide) ?_
    cases hf
def g_law1 (K : Nat) (p1_marsh_reeds_states : Nat → Int32) (p1_marsh_reeds_count : Int32) (p1_marsh_reeds_broken : Int32) (p1_marsh_fleet_numbers : Nat → Int32) (p1_marsh_fleet_cells : Nat → Int32) (p1_marsh_fleet_fares : Nat → Int32) (p1_marsh_fleet_count : Int32) (p1_marsh_fleet_nextNumber : Int32) (p1_marsh_fleet_total : Int32) (p1_marsh_fleet_removedFares : Int32) (p1_marsh_fleet_meetings : Int32) (p1_marsh_plans_moves : Nat → Int32) (p1_marsh_plans_lengths : Nat → Int32) (p1_marsh_landings_cells : Nat → Int32) (p1_marsh_landings_count : Int32) (p1_marsh_fogSide : Int32) (p1_history_slots : Nat → mm_MV) (p1_history_free : Int32) (p1_history_count : Int32) (p2_changes : Int32) (p2_v : Nat → Int32) (p2_before : Nat → Int32) (p2_past : Nat → Int32) (p3 : Nat → Int64) (x1 : Int32) (x2 : Int32) : Option ((Nat → Int32) × Int32 × (Nat → mm_MV) × Int32 × Int32 × Int32 × Int32 × (Nat → Int32) × (Nat → Int32) × (Nat → Int32) × (Nat → Int64)) := (f_L_breakReed p1_marsh_reeds_states p1_marsh_reeds_count p1_marsh_reeds_broken p1_marsh_fleet_numbers p1_marsh_fleet_cells p1_marsh_fleet_fares p1_marsh_fleet_count p1_marsh_fleet_nextNumber p1_marsh_fleet_total p1_marsh_fleet_removedFares p1_marsh_fleet_meetings p1_marsh_plans_moves p1_marsh_plans_lengths p1_marsh_landings_cells p1_marsh_landings_count p1_marsh_fogSide p1_history_slots p1_history_free p1_history_count p3 x1 x2).bind fun q378 => (f_X13_breakReed K p2_changes p2_v p2_before p2_past x1 x2).bind fun q396 => (f_X13_thrown q396.2.1).bind fun q402 => if q402 = q378.1 then if q378.1 = 0 then if (lg_cmp (q378.2.2.2.2.2.2 0) q396.1.toInt64) = 0 then some (q378.2.1, q378.2.2.1, q378.2.2.2.1, q378.2.2.2.2.1, q378.2.2.2.2.2.1, q396.2.1, q396.2.2.1, q396.2.2.2.1, q396.2.2.2.2.1, q396.2.2.2.2.2, q378.2.2.2.2.2.2) else none else some (q378.2.1, q378.2.2.1, q378.2.2.2.1, q378.2.2.2.2.1, q378.2.2.2.2.2.1, q396.2.1, q396.2.2.1, q396.2.2.2.1, q396.2.2.2.2.1, q396.2.2.2.2.2, q378.2.2.2.2.2.2) else none
set_option maxHeartbeats 4000000 in
set_option maxRecDepth 100000 in
theorem g_law1_c (hC : mm_C G A p s m c code 10 args "MirrorFerryLaw") (hsX : va_X b L xs s s.heap) (hbl : b < s.heap.size) (hbA : ¬ A b) (hd1 : b1 + 152 ≤ b2) (hd2 : b2 + 13 ≤ a3) (hd3 : a3 + 1 ≤ a4) (hrc : cells + 1000 ≤ room_1.cells) (hrs : slots + 10000 ≤ room_1.slots) (hfl : l.stackTraces = false) {K : Nat} {p1_marsh_reeds_states : Nat → Int32} {p1_marsh_reeds_count : Int32} {p1_marsh_reeds_broken : Int32} {p1_marsh_fleet_numbers : Nat → Int32} {p1_marsh_fleet_cells : Nat → Int32} {p1_marsh_fleet_fares : Nat → Int32} {p1_marsh_fleet_count : Int32} {p1_marsh_fleet_nextNumber : Int32} {p1_marsh_fleet_total : Int32} {p1_marsh_fleet_removedFares : Int32} {p1_marsh_fleet_meetings : Int32} {p1_marsh_plans_moves : Nat → Int32} {p1_marsh_plans_lengths : Nat → Int32} {p1_marsh_landings_cells : Nat → Int32} {p1_marsh_landings_count : Int32} {p1_marsh_fogSide : Int32} {p1_snapshot_reeds_states : Nat → Int32} {p1_snapshot_reeds_count : Int32} {p1_snapshot_reeds_broken : Int32} {p1_snapshot_fleet_numbers : Nat → Int32} {p1_snapshot_fleet_cells : Nat → Int32} {p1_snapshot_fleet_fares : Nat → Int32} {p1_snapshot_fleet_count : Int32} {p1_snapshot_fleet_nextNumber : Int32} {p1_snapshot_fleet_total : Int32} {p1_snapshot_fleet_removedFares : Int32} {p1_snapshot_fleet_meetings : Int32} {p1_snapshot_plans_moves : Nat → Int32} {p1_snapshot_plans_lengths : Nat → Int32} {p1_snapshot_landings_cells : Nat → Int32} {p1_snapshot_landings_count : Int32} {p1_snapshot_fogSide : Int32} {p1_history_slots : Nat → mm_MV} {p1_history_free : Int32} {p1_history_count : Int32} {p1_ways_tolls : Nat → Int32} {p1_ways_queue : Nat → Int32} {p1_ways_heap : Nat → Int32} {p1_ways_heapSize : Int32} {p1_ways_found : Nat → Int32} {p1_ways_improved : Nat → Int32} {p1_pairing_costs : Nat → Int32} {p1_pairing_best : Nat → Int32} {p1_reader_kinds : Nat → Int32} {p1_reader_starts : Nat → Int32} {p1_reader_count : Int32} {p1_commandText_signs : Nat → Int32} {p1_commandText_length : Int32} {p1_line_signs : Nat → Int32} {p1_line_length : Int32} {p1_spareMoves : Nat → Int32} {p1_snapshotTaken : Int32} {p1_lastErrorPosition : Int32} {p1_lastFailedCommand : Int32} {p2_thrown : Int32} {p2_changes : Int32} {p2_errorAt : Int32} {p2_failedAt : Int32} {p2_isSaved : Int32} {p2_v : Nat → Int32} {p2_before : Nat → Int32} {p2_saved : Nat → Int32} {p2_past : Nat → Int32} {p2_far : Nat → Int32} {p2_scratch : Nat → Int32} {p2_best : Nat → Int32} {p2_thenX : Int32} {p2_thenY : Int32} {p2_thenMet : Int32} {p2_text : Nat → Int32} {p2_line : Nat → Int32} {p2_isLeft : Nat → Int32} {p2_words : Nat → Int32} {p2_wordAt : Nat → Int32} {p2_textN : Int32} {p2_hereP : Int32} {p2_endP : Int32} {p2_lineN : Int32} {p2_isWrong : Int32} {p2_isDoing : Int32} {p3 : Nat → Int64} {p4 : Nat → UInt64} {x0 x1 x2 x3 x4 x5 : Int32} {X : (Nat → Int32) × Int32 × (Nat → mm_MV) × Int32 × Int32 × Int32 × Int32 × (Nat → Int32) × (Nat → Int32) × (Nat → Int32) × (Nat → Int64)} (hf : g_law1 K p1_marsh_reeds_states p1_marsh_reeds_count p1_marsh_reeds_broken p1_marsh_fleet_numbers p1_marsh_fleet_cells p1_marsh_fleet_fares p1_marsh_fleet_count p1_marsh_fleet_nextNumber p1_marsh_fleet_total p1_marsh_fleet_removedFares p1_marsh_fleet_meetings p1_marsh_plans_moves p1_marsh_plans_lengths p1_marsh_landings_cells p1_marsh_landings_count p1_marsh_fogSide p1_history_slots p1_history_free p1_history_count p2_changes p2_v p2_before p2_past p3 x1 x2 = some X) (hp_p1 : At12 G w b1 p1_marsh_reeds_states p1_marsh_reeds_count p1_marsh_reeds_broken p1_marsh_fleet_numbers p1_marsh_fleet_cells p1_marsh_fleet_fares p1_marsh_fleet_count p1_marsh_fleet_nextNumber p1_marsh_fleet_total p1_marsh_fleet_removedFares p1_marsh_fleet_meetings p1_marsh_plans_moves p1_marsh_plans_lengths p1_marsh_landings_cells p1_marsh_landings_count p1_marsh_fogSide p1_snapshot_reeds_states p1_snapshot_reeds_count p1_snapshot_reeds_broken p1_snapshot_fleet_numbers p1_snapshot_fleet_cells p1_snapshot_fleet_fares p1_snapshot_fleet_count p1_snapshot_fleet_nextNumber p1_snapshot_fleet_total p1_snapshot_fleet_removedFares p1_snapshot_fleet_meetings p1_snapshot_plans_moves p1_snapshot_plans_lengths p1_snapshot_landings_cells p1_snapshot_landings_count p1_snapshot_fogSide p1_history_slots p1_history_free p1_history_count p1_ways_tolls p1_ways_queue p1_ways_heap p1_ways_heapSize p1_ways_found p1_ways_improved p1_pairing_costs p1_pairing_best p1_reader_kinds p1_reader_starts p1_reader_count p1_commandText_signs p1_commandText_length p1_line_signs p1_line_length p1_spareMoves p1_snapshotTaken p1_lastErrorPosition p1_lastFailedCommand) (hp_p2 : At13 G w b2 p2_thrown p2_changes p2_errorAt p2_failedAt p2_isSaved p2_v p2_before p2_saved p2_past p2_far p2_scratch p2_best p2_thenX p2_thenY p2_thenMet p2_text p2_line p2_isLeft p2_words p2_wordAt p2_textN p2_hereP p2_endP p2_lineN p2_isWrong p2_isDoing) (hp_p3 : (a3, (.inl (G.2 3, 1, .inr (.inl p3)) : va_E)) ∈ w) (hp_p4 : (a4, (.inl (G.2 4, 1, .inr (.inr (.inr (.inl p4)))) : va_E)) ∈ w)
    (hsc : ∀ k : Nat, k < 5 → vp_in (x5 + Int32.ofNat k) L ∧ xs (x5 + Int32.ofNat k).toNatClampNeg = mm_x5 x0 x1 x2 x3 x4 k) (hM : mm_S G A s.heap w H locs)
    (hk : ∀ (w : va_W) (H : Heap) (locs : List Loc), mm_S G A s.heap w H locs → At12 G w b1 X.1 p1_marsh_reeds_count X.2.1 p1_marsh_fleet_numbers p1_marsh_fleet_cells p1_marsh_fleet_fares p1_marsh_fleet_count p1_marsh_fleet_nextNumber p1_marsh_fleet_total p1_marsh_fleet_removedFares p1_marsh_fleet_meetings p1_marsh_plans_moves p1_marsh_plans_lengths p1_marsh_landings_cells p1_marsh_landings_count p1_marsh_fogSide p1_snapshot_reeds_states p1_snapshot_reeds_count p1_snapshot_reeds_broken p1_snapshot_fleet_numbers p1_snapshot_fleet_cells p1_snapshot_fleet_fares p1_snapshot_fleet_count p1_snapshot_fleet_nextNumber p1_snapshot_fleet_total p1_snapshot_fleet_removedFares p1_snapshot_fleet_meetings p1_snapshot_plans_moves p1_snapshot_plans_lengths p1_snapshot_landings_cells p1_snapshot_landings_count p1_snapshot_fogSide X.2.2.1 X.2.2.2.1 X.2.2.2.2.1 p1_ways_tolls p1_ways_queue p1_ways_heap p1_ways_heapSize p1_ways_found p1_ways_improved p1_pairing_costs p1_pairing_best p1_reader_kinds p1_reader_starts p1_reader_count p1_commandText_signs p1_commandText_length p1_line_signs p1_line_length p1_spareMoves p1_snapshotTaken p1_lastErrorPosition p1_lastFailedCommand → At13 G w b2 X.2.2.2.2.2.1 X.2.2.2.2.2.2.1 p2_errorAt p2_failedAt p2_isSaved X.2.2.2.2.2.2.2.1 X.2.2.2.2.2.2.2.2.1 p2_saved X.2.2.2.2.2.2.2.2.2.1 p2_far p2_scratch p2_best p2_thenX p2_thenY p2_thenMet p2_text p2_line p2_isLeft p2_words p2_wordAt p2_textN p2_hereP p2_endP p2_lineN p2_isWrong p2_isDoing → (a3, (.inl (G.2 3, 1, .inr (.inl X.2.2.2.2.2.2.2.2.2.2)) : va_E)) ∈ w → (a4, (.inl (G.2 4, 1, .inr (.inr (.inr (.inl p4)))) : va_E)) ∈ w → ∀ ls, lv_has ls 10 [(0, .ref b), (1, .ref b1), (2, .ref b2), (3, .ref a3), (4, .ref a4), (5, .int x5)] → W p l e room_1 s m args below meth c H locs (cells + 1000) (slots + 10000) Q (F0 m 3345 ls [])) (ls : Array Slot) (hl : lv_has ls 10 [(0, .ref b), (1, .ref b1), (2, .ref b2), (3, .ref a3), (4, .ref a4), (5, .int x5)]) : W p l e room_1 s m args below meth c H locs cells slots Q (F0 m 364 ls []) := by
  have hx := hC.1.1
  have hb := hC.1.2.1
  rw [g_law1] at hf
  refine lv_aload_n hx hb dL_law_364 rfl (lv_at hl 1 rfl) ?_
  refine lv_aload_n hx hb dL_law_365 rfl (lv_at hl 0 rfl) ?_
  refine lv_iload hx hb dL_law_366 (lv_at hl 5 rfl) ?_
  refine lv_iconst (v := 1) hx hb dL_law_368 (by decide) ?_
  refine lv_iadd hx hb dL_law_369 ?_
  refine mm_sld hC hM hsX hbl hbA (hsc 1 (by decide)).1 (hsc 1 (by decide)).2 dL_law_370 ?_
  refine lv_aload_n hx hb dL_law_371 rfl (lv_at hl 0 rfl) ?_
  refine lv_iload hx hb dL_law_372 (lv_at hl 5 rfl) ?_
  refine lv_iconst (v := 2) hx hb dL_law_374 (by decide) ?_
  refine lv_iadd hx hb dL_law_375 ?_
  refine mm_sld hC hM hsX hbl hbA (hsc 2 (by decide)).1 (hsc 2 (by decide)).2 dL_law_376 ?_
  refine lv_aload_n hx hb dL_law_377 rfl (lv_at hl 3 rfl) ?_
  obtain ⟨q378, hq378, hf⟩ := mm_bd hf
  refine mm_SiW (rest := []) hC hM (c_L_breakReed l hfl hq378 hp_p1 hp_p3 (by omega)) q4_50 q1_0 ykL_breakReed q4_48 q4_49 ⟨rfl, rfl⟩ ⟨Nat.le_of_ble_eq_true rfl, Nat.le_of_ble_eq_true rfl⟩ rfl hl.1 rfl (Nat.le_of_ble_eq_true rfl) dL_law_378 ⟨by omega, by omega⟩ (fun r w378 H locs hM hw => ?_)
  obtain ⟨hr, hn_p0, hn_p3, hfr⟩ := hw
  rw [hr]
  have hp_p2 := hp_p2.keep2 hfr (by omega) (by omega)
  have hp_p4 := hfr.keep hp_p4 (by omega) (by omega)
  have hp_p1 := hn_p0
  have hp_p3 := hn_p3
  refine lv_istore (lv' := [(6, .int q378.1), (0, .ref b), (1, .ref b1), (2, .ref b2), (3, .ref a3), (4, .ref a4), (5, .int x5)]) hx hb dL_law_381 hl (by decide) rfl (fun ls hl => ?_)
  refine lv_aload_n hx hb dL_law_383 rfl (lv_at hl 3 rfl) ?_
  refine lv_aload_n hx hb dL_law_384 rfl (lv_at hl 1 rfl) ?_
  refine lv_iload hx hb dL_law_385 (lv_at hl 6 rfl) ?_
  refine lv_iconst (v := 1) hx hb dL_law_387 (by decide) ?_
  refine lv_iadd hx hb dL_law_388 ?_
  refine mm_sld hC hM hsX hbl hbA (hsc 1 (by decide)).1 (hsc 1 (by decide)).2 dL_law_389 ?_
  refine lv_aload_n hx hb dL_law_390 rfl (lv_at hl 1 rfl) ?_
  refine lv_iload hx hb dL_law_391 (lv_at hl 6 rfl) ?_
  refine lv_iconst (v := 2) hx hb dL_law_393 (by decide) ?_
  refine lv_iadd hx hb dL_law_394 ?_
  refine mm_sld hC hM hsX hbl hbA (hsc 2 (by decide)).1 (hsc 2 (by decide)).2 dL_law_395 ?_
  obtain ⟨q396, hq396, hf⟩ := mm_bd hf
  refine mm_Vi (rest := []) hC hM (c_X13_breakReed l hq396 hp_p2) q7_137 q1_12 ykX13_breakReed q7_134 q7_135 q7_136 hp_p2.1 rfl ⟨rfl, rfl⟩ ⟨Nat.le_of_ble_eq_true rfl, Nat.le_of_ble_eq_true rfl⟩ rfl hl.1 rfl (Nat.le_of_ble_eq_true rfl) dL_law_396 ⟨by omega, by omega⟩ (fun r w396 H locs hM hw => ?_)
  obtain ⟨hr, hn_this, hfr⟩ := hw
  rw [hr]
  have hp_p1 := hp_p1.keep hfr (by omega)
  have hp_p3 := hfr.keep hp_p3 (by omega)
  have hp_p4 := hfr.keep hp_p4 (by omega)
  have hp_p2 := hn_this
  refine lv_istore (lv' := [(7, .int q396.1), (6, .int q378.1), (0, .ref b), (1, .ref b1), (2, .ref b2), (3, .ref a3), (4, .ref a4), (5, .int x5)]) hx hb dL_law_399 hl (by decide) rfl (fun ls hl => ?_)
  refine lv_aload_n hx hb dL_law_401 rfl (lv_at hl 4 rfl) ?_
  obtain ⟨q402, hq402, hf⟩ := mm_bd hf
  refine mm_Vi (rest := []) hC hM (c_X13_thrown l hq402 hp_p2) q7_87 q1_12 ykX13_thrown q7_84 q7_85 q7_86 hp_p2.1 rfl ⟨rfl, rfl⟩ ⟨Nat.le_of_ble_eq_true rfl, Nat.le_of_ble_eq_true rfl⟩ rfl hl.1 rfl (Nat.le_of_ble_eq_true rfl) dL_law_402 ⟨by omega, by omega⟩ (fun r w402 H locs hM hw => ?_)
  obtain ⟨hr, hw⟩ := hw
  rw [hr]
  rw [hw] at hM
  refine lv_iload hx hb dL_law_405 (lv_at hl 1 rfl) ?_
  refine lv_icmp_eq (tgt := 412) hx hb dL_law_407 (by decide) (fun hcd => ?_) (fun hcd => ?_)
  · rw [if_pos hcd] at hf
    refine lv_iload hx hb dL_law_412 (lv_at hl 1 rfl) ?_
    refine lv_if_ne (tgt := 429) hx hb dL_law_414 (by decide) (fun hcd => ?_) (fun hcd => ?_)
    · rw [if_neg hcd] at hf
      refine lv_goto (tgt := 3345) hx hb dL_law_429 (by decide) ?_
      cases hf
      exact W.widen (by omega) (by omega) (hk _ _ _ hM hp_p1 hp_p2 hp_p3 hp_p4 _ (lv_sub hl [2, 3, 4, 5, 6, 7] rfl))
    · rw [if_pos hcd] at hf
      refine lv_aload_n hx hb dL_law_417 rfl (lv_at hl 5 rfl) ?_
      refine lv_iconst (v := 0) hx hb dL_law_418 (by decide) ?_
      refine mm_lald0 hC hM hp_p3 dL_law_419 ?_
      refine lv_iload hx hb dL_law_420 (lv_at hl 0 rfl) ?_
      refine lv_i2l hx hb dL_law_422 rfl ?_
      refine W.lcmp hx hb dL_law_423 ?_
      refine lv_if_eq (tgt := 429) hx hb dL_law_424 (by decide) (fun hcd => ?_) (fun hcd => ?_)
      · rw [if_pos hcd] at hf
        refine lv_goto (tgt := 3345) hx hb dL_law_429 (by decide) ?_
        cases hf
        exact W.widen (by omega) (by omega) (hk _ _ _ hM hp_p1 hp_p2 hp_p3 hp_p4 _ (lv_sub hl [2, 3, 4, 5, 6, 7] rfl))
      · rw [if_neg hcd] at hf
        refine lv_iconst (v := 0) hx hb dL_law_427 (by decide) ?_
        cases hf
  · rw [if_neg hcd] at hf
    refine lv_iconst (v := 0) hx hb dL_law_410 (by decide) ?_
    cases hf
def g_law2 (K : Nat) (p1_marsh_reeds_states : Nat → Int32) (p1_marsh_reeds_count : Int32) (p1_marsh_reeds_broken : Int32) (p1_marsh_fleet_numbers : Nat → Int32) (p1_marsh_fleet_cells : Nat → Int32) (p1_marsh_fleet_fares : Nat → Int32) (p1_marsh_fleet_count : Int32) (p1_marsh_fleet_nextNumber : Int32) (p1_marsh_fleet_total : Int32) (p1_marsh_fleet_removedFares : Int32) (p1_marsh_fleet_meetings : Int32) (p1_marsh_plans_moves : Nat → Int32) (p1_marsh_plans_lengths : Nat → Int32) (p1_marsh_landings_cells : Nat → Int32) (p1_marsh_landings_count : Int32) (p1_marsh_fogSide : Int32) (p1_history_slots : Nat → mm_MV) (p1_history_free : Int32) (p1_history_count : Int32) (p2_changes : Int32) (p2_v : Nat → Int32) (p2_before : Nat → Int32) (p2_past : Nat → Int32) (p3 : Nat → Int64) (x1 : Int32) (x2 : Int32) : Option ((Nat → Int32) × Int32 × Int32 × (Nat → mm_MV) × Int32 × Int32 × Int32 × Int32 × (Nat → Int32) × (Nat → Int32) × (Nat → Int32) × (Nat → Int64)) := (f_L_removeReed p1_marsh_reeds_states p1_marsh_reeds_count p1_marsh_reeds_broken p1_marsh_fleet_numbers p1_marsh_fleet_cells p1_marsh_fleet_fares p1_marsh_fleet_count p1_marsh_fleet_nextNumber p1_marsh_fleet_total p1_marsh_fleet_removedFares p1_marsh_fleet_meetings p1_marsh_plans_moves p1_marsh_plans_lengths p1_marsh_landings_cells p1_marsh_landings_count p1_marsh_fogSide p1_history_slots p1_history_free p1_history_count p3 x1 x2).bind fun q446 => (f_X13_removeReed K p2_changes p2_v p2_before p2_past x1 x2).bind fun q464 => (f_X13_thrown q464.2.1).bind fun q470 => if q470 = q446.1 then if q446.1 = 0 then if (lg_cmp (q446.2.2.2.2.2.2.2 0) q464.1.toInt64) = 0 then some (q446.2.1, q446.2.2.1, q446.2.2.2.1, q446.2.2.2.2.1, q446.2.2.2.2.2.1, q446.2.2.2.2.2.2.1, q464.2.1, q464.2.2.1, q464.2.2.2.1, q464.2.2.2.2.1, q464.2.2.2.2.2, q446.2.2.2.2.2.2.2) else none else some (q446.2.1, q446.2.2.1, q446.2.2.2.1, q446.2.2.2.2.1, q446.2.2.2.2.2.1, q446.2.2.2.2.2.2.1, q464.2.1, q464.2.2.1, q464.2.2.2.1, q464.2.2.2.2.1, q464.2.2.2.2.2, q446.2.2.2.2.2.2.2) else none
set_option maxHeartbeats 4000000 in
set_option maxRecDepth 100000 in
theorem g_law2_c (hC : mm_C G A p s m c code 10 args "MirrorFerryLaw") (hsX : va_X b L xs s s.heap) (hbl : b < s.heap.size) (hbA : ¬ A b) (hd1 : b1 + 152 ≤ b2) (hd2 : b2 + 13 ≤ a3) (hd3 : a3 + 1 ≤ a4) (hrc : cells + 1000 ≤ room_1.cells) (hrs : slots + 10000 ≤ room_1.slots) (hfl : l.stackTraces = false) {K : Nat} {p1_marsh_reeds_states : Nat → Int32} {p1_marsh_reeds_count : Int32} {p1_marsh_reeds_broken : Int32} {p1_marsh_fleet_numbers : Nat → Int32} {p1_marsh_fleet_cells : Nat → Int32} {p1_marsh_fleet_fares : Nat → Int32} {p1_marsh_fleet_count : Int32} {p1_marsh_fleet_nextNumber : Int32} {p1_marsh_fleet_total : Int32} {p1_marsh_fleet_removedFares : Int32} {p1_marsh_fleet_meetings : Int32} {p1_marsh_plans_moves : Nat → Int32} {p1_marsh_plans_lengths : Nat → Int32} {p1_marsh_landings_cells : Nat → Int32} {p1_marsh_landings_count : Int32} {p1_marsh_fogSide : Int32} {p1_snapshot_reeds_states : Nat → Int32} {p1_snapshot_reeds_count : Int32} {p1_snapshot_reeds_broken : Int32} {p1_snapshot_fleet_numbers : Nat → Int32} {p1_snapshot_fleet_cells : Nat → Int32} {p1_snapshot_fleet_fares : Nat → Int32} {p1_snapshot_fleet_count : Int32} {p1_snapshot_fleet_nextNumber : Int32} {p1_snapshot_fleet_total : Int32} {p1_snapshot_fleet_removedFares : Int32} {p1_snapshot_fleet_meetings : Int32} {p1_snapshot_plans_moves : Nat → Int32} {p1_snapshot_plans_lengths : Nat → Int32} {p1_snapshot_landings_cells : Nat → Int32} {p1_snapshot_landings_count : Int32} {p1_snapshot_fogSide : Int32} {p1_history_slots : Nat → mm_MV} {p1_history_free : Int32} {p1_history_count : Int32} {p1_ways_tolls : Nat → Int32} {p1_ways_queue : Nat → Int32} {p1_ways_heap : Nat → Int32} {p1_ways_heapSize : Int32} {p1_ways_found : Nat → Int32} {p1_ways_improved : Nat → Int32} {p1_pairing_costs : Nat → Int32} {p1_pairing_best : Nat → Int32} {p1_reader_kinds : Nat → Int32} {p1_reader_starts : Nat → Int32} {p1_reader_count : Int32} {p1_commandText_signs : Nat → Int32} {p1_commandText_length : Int32} {p1_line_signs : Nat → Int32} {p1_line_length : Int32} {p1_spareMoves : Nat → Int32} {p1_snapshotTaken : Int32} {p1_lastErrorPosition : Int32} {p1_lastFailedCommand : Int32} {p2_thrown : Int32} {p2_changes : Int32} {p2_errorAt : Int32} {p2_failedAt : Int32} {p2_isSaved : Int32} {p2_v : Nat → Int32} {p2_before : Nat → Int32} {p2_saved : Nat → Int32} {p2_past : Nat → Int32} {p2_far : Nat → Int32} {p2_scratch : Nat → Int32} {p2_best : Nat → Int32} {p2_thenX : Int32} {p2_thenY : Int32} {p2_thenMet : Int32} {p2_text : Nat → Int32} {p2_line : Nat → Int32} {p2_isLeft : Nat → Int32} {p2_words : Nat → Int32} {p2_wordAt : Nat → Int32} {p2_textN : Int32} {p2_hereP : Int32} {p2_endP : Int32} {p2_lineN : Int32} {p2_isWrong : Int32} {p2_isDoing : Int32} {p3 : Nat → Int64} {p4 : Nat → UInt64} {x0 x1 x2 x3 x4 x5 : Int32} {X : (Nat → Int32) × Int32 × Int32 × (Nat → mm_MV) × Int32 × Int32 × Int32 × Int32 × (Nat → Int32) × (Nat → Int32) × (Nat → Int32) × (Nat → Int64)} (hf : g_law2 K p1_marsh_reeds_states p1_marsh_reeds_count p1_marsh_reeds_broken p1_marsh_fleet_numbers p1_marsh_fleet_cells p1_marsh_fleet_fares p1_marsh_fleet_count p1_marsh_fleet_nextNumber p1_marsh_fleet_total p1_marsh_fleet_removedFares p1_marsh_fleet_meetings p1_marsh_plans_moves p1_marsh_plans_lengths p1_marsh_landings_cells p1_marsh_landings_count p1_marsh_fogSide p1_history_slots p1_history_free p1_history_count p2_changes p2_v p2_before p2_past p3 x1 x2 = some X) (hp_p1 : At12 G w b1 p1_marsh_reeds_states p1_marsh_reeds_count p1_marsh_reeds_broken p1_marsh_fleet_numbers p1_marsh_fleet_cells p1_marsh_fleet_fares p1_marsh_fleet_count p1_marsh_fleet_nextNumber p1_marsh_fleet_total p1_marsh_fleet_removedFares p1_marsh_fleet_meetings p1_marsh_plans_moves p1_marsh_plans_lengths p1_marsh_landings_cells p1_marsh_landings_count p1_marsh_fogSide p1_snapshot_reeds_states p1_snapshot_reeds_count p1_snapshot_reeds_broken p1_snapshot_fleet_numbers p1_snapshot_fleet_cells p1_snapshot_fleet_fares p1_snapshot_fleet_count p1_snapshot_fleet_nextNumber p1_snapshot_fleet_total p1_snapshot_fleet_removedFares p1_snapshot_fleet_meetings p1_snapshot_plans_moves p1_snapshot_plans_lengths p1_snapshot_landings_cells p1_snapshot_landings_count p1_snapshot_fogSide p1_history_slots p1_history_free p1_history_count p1_ways_tolls p1_ways_queue p1_ways_heap p1_ways_heapSize p1_ways_found p1_ways_improved p1_pairing_costs p1_pairing_best p1_reader_kinds p1_reader_starts p1_reader_count p1_commandText_signs p1_commandText_length p1_line_signs p1_line_length p1_spareMoves p1_snapshotTaken p1_lastErrorPosition p1_lastFailedCommand) (hp_p2 : At13 G w b2 p2_thrown p2_changes p2_errorAt p2_failedAt p2_isSaved p2_v p2_before p2_saved p2_past p2_far p2_scratch p2_best p2_thenX p2_thenY p2_thenMet p2_text p2_line p2_isLeft p2_words p2_wordAt p2_textN p2_hereP p2_endP p2_lineN p2_isWrong p2_isDoing) (hp_p3 : (a3, (.inl (G.2 3, 1, .inr (.inl p3)) : va_E)) ∈ w) (hp_p4 : (a4, (.inl (G.2 4, 1, .inr (.inr (.inr (.inl p4)))) : va_E)) ∈ w)
    (hsc : ∀ k : Nat, k < 5 → vp_in (x5 + Int32.ofNat k) L ∧ xs (x5 + Int32.ofNat k).toNatClampNeg = mm_x5 x0 x1 x2 x3 x4 k) (hM : mm_S G A s.heap w H locs)
    (hk : ∀ (w : va_W) (H : Heap) (locs : List Loc), mm_S G A s.heap w H locs → At12 G w b1 X.1 X.2.1 X.2.2.1 p1_marsh_fleet_numbers p1_marsh_fleet_cells p1_marsh_fleet_fares p1_marsh_fleet_count p1_marsh_fleet_nextNumber p1_marsh_fleet_total p1_marsh_fleet_removedFares p1_marsh_fleet_meetings p1_marsh_plans_moves p1_marsh_plans_lengths p1_marsh_landings_cells p1_marsh_landings_count p1_marsh_fogSide p1_snapshot_reeds_states p1_snapshot_reeds_count p1_snapshot_reeds_broken p1_snapshot_fleet_numbers p1_snapshot_fleet_cells p1_snapshot_fleet_fares p1_snapshot_fleet_count p1_snapshot_fleet_nextNumber p1_snapshot_fleet_total p1_snapshot_fleet_removedFares p1_snapshot_fleet_meetings p1_snapshot_plans_moves p1_snapshot_plans_lengths p1_snapshot_landings_cells p1_snapshot_landings_count p1_snapshot_fogSide X.2.2.2.1 X.2.2.2.2.1 X.2.2.2.2.2.1 p1_ways_tolls p1_ways_queue p1_ways_heap p1_ways_heapSize p1_ways_found p1_ways_improved p1_pairing_costs p1_pairing_best p1_reader_kinds p1_reader_starts p1_reader_count p1_commandText_signs p1_commandText_length p1_line_signs p1_line_length p1_spareMoves p1_snapshotTaken p1_lastErrorPosition p1_lastFailedCommand → At13 G w b2 X.2.2.2.2.2.2.1 X.2.2.2.2.2.2.2.1 p2_errorAt p2_failedAt p2_isSaved X.2.2.2.2.2.2.2.2.1 X.2.2.2.2.2.2.2.2.2.1 p2_saved X.2.2.2.2.2.2.2.2.2.2.1 p2_far p2_scratch p2_best p2_thenX p2_thenY p2_thenMet p2_text p2_line p2_isLeft p2_words p2_wordAt p2_textN p2_hereP p2_endP p2_lineN p2_isWrong p2_isDoing → (a3, (.inl (G.2 3, 1, .inr (.inl X.2.2.2.2.2.2.2.2.2.2.2)) : va_E)) ∈ w → (a4, (.inl (G.2 4, 1, .inr (.inr (.inr (.inl p4)))) : va_E)) ∈ w → ∀ ls, lv_has ls 10 [(0, .ref b), (1, .ref b1), (2, .ref b2), (3, .ref a3), (4, .ref a4), (5, .int x5)] → W p l e room_1 s m args below meth c H locs (cells + 1000) (slots + 10000) Q (F0 m 3345 ls [])) (ls : Array Slot) (hl : lv_has ls 10 [(0, .ref b), (1, .ref b1), (2, .ref b2), (3, .ref a3), (4, .ref a4), (5, .int x5)]) : W p l e room_1 s m args below meth c H locs cells slots Q (F0 m 432 ls []) := by
  have hx := hC.1.1
  have hb := hC.1.2.1
  rw [g_law2] at hf
  refine lv_aload_n hx hb dL_law_432 rfl (lv_at hl 1 rfl) ?_
  refine lv_aload_n hx hb dL_law_433 rfl (lv_at hl 0 rfl) ?_
  refine lv_iload hx hb dL_law_434 (lv_at hl 5 rfl) ?_
  refine lv_iconst (v := 1) hx hb dL_law_436 (by decide) ?_
  refine lv_iadd hx hb dL_law_437 ?_
  refine mm_sld hC hM hsX hbl hbA (hsc 1 (by decide)).1 (hsc 1 (by decide)).2 dL_law_438 ?_
  refine lv_aload_n hx hb dL_law_439 rfl (lv_at hl 0 rfl) ?_
  refine lv_iload hx hb dL_law_440 (lv_at hl 5 rfl) ?_
  refine lv_iconst (v := 2) hx hb dL_law_442 (by decide) ?_
  refine lv_iadd hx hb dL_law_443 ?_
  refine mm_sld hC hM hsX hbl hbA (hsc 2 (by decide)).1 (hsc 2 (by decide)).2 dL_law_444 ?_
  refine lv_aload_n hx hb dL_law_445 rfl (lv_at hl 3 rfl) ?_
  obtain ⟨q446, hq446, hf⟩ := mm_bd hf
  refine mm_SiW (rest := []) hC hM (c_L_removeReed l hfl hq446 hp_p1 hp_p3 (by omega)) q4_66 q1_0 ykL_removeReed q4_64 q4_65 ⟨rfl, rfl⟩ ⟨Nat.le_of_ble_eq_true rfl, Nat.le_of_ble_eq_true rfl⟩ rfl hl.1 rfl (Nat.le_of_ble_eq_true rfl) dL_law_446 ⟨by omega, by omega⟩ (fun r w446 H locs hM hw => ?_)
  obtain ⟨hr, hn_p0, hn_p3, hfr⟩ := hw
  rw [hr]
  have hp_p2 := hp_p2.keep2 hfr (by omega) (by omega)
  have hp_p4 := hfr.keep hp_p4 (by omega) (by omega)
  have hp_p1 := hn_p0
  have hp_p3 := hn_p3
  refine lv_istore (lv' := [(6, .int q446.1), (0, .ref b), (1, .ref b1), (2, .ref b2), (3, .ref a3), (4, .ref a4), (5, .int x5)]) hx hb dL_law_449 hl (by decide) rfl (fun ls hl => ?_)
  refine lv_aload_n hx hb dL_law_451 rfl (lv_at hl 3 rfl) ?_
  refine lv_aload_n hx hb dL_law_452 rfl (lv_at hl 1 rfl) ?_
  refine lv_iload hx hb dL_law_453 (lv_at hl 6 rfl) ?_
  refine lv_iconst (v := 1) hx hb dL_law_455 (by decide) ?_
  refine lv_iadd hx hb dL_law_456 ?_
  refine mm_sld hC hM hsX hbl hbA (hsc 1 (by decide)).1 (hsc 1 (by decide)).2 dL_law_457 ?_
  refine lv_aload_n hx hb dL_law_458 rfl (lv_at hl 1 rfl) ?_
  refine lv_iload hx hb dL_law_459 (lv_at hl 6 rfl) ?_
  refine lv_iconst (v := 2) hx hb dL_law_461 (by decide) ?_
  refine lv_iadd hx hb dL_law_462 ?_
  refine mm_sld hC hM hsX hbl hbA (hsc 2 (by decide)).1 (hsc 2 (by decide)).2 dL_law_463 ?_
  obtain ⟨q464, hq464, hf⟩ := mm_bd hf
  refine mm_Vi (rest := []) hC hM (c_X13_removeReed l hq464 hp_p2) q7_149 q1_12 ykX13_removeReed q7_146 q7_147 q7_148 hp_p2.1 rfl ⟨rfl, rfl⟩ ⟨Nat.le_of_ble_eq_true rfl, Nat.le_of_ble_eq_true rfl⟩ rfl hl.1 rfl (Nat.le_of_ble_eq_true rfl) dL_law_464 ⟨by omega, by omega⟩ (fun r w464 H locs hM hw => ?_)
  obtain ⟨hr, hn_this, hfr⟩ := hw
  rw [hr]
  have hp_p1 := hp_p1.keep hfr (by omega)
  have hp_p3 := hfr.keep hp_p3 (by omega)
  have hp_p4 := hfr.keep hp_p4 (by omega)
  have hp_p2 := hn_this
  refine lv_istore (lv' := [(7, .int q464.1), (6, .int q446.1), (0, .ref b), (1, .ref b1), (2, .ref b2), (3, .ref a3), (4, .ref a4), (5, .int x5)]) hx hb dL_law_467 hl (by decide) rfl (fun ls hl => ?_)
  refine lv_aload_n hx hb dL_law_469 rfl (lv_at hl 4 rfl) ?_
  obtain ⟨q470, hq470, hf⟩ := mm_bd hf
  refine mm_Vi (rest := []) hC hM (c_X13_thrown l hq470 hp_p2) q7_87 q1_12 ykX13_thrown q7_84 q7_85 q7_86 hp_p2.1 rfl ⟨rfl, rfl⟩ ⟨Nat.le_of_ble_eq_true rfl, Nat.le_of_ble_eq_true rfl⟩ rfl hl.1 rfl (Nat.le_of_ble_eq_true rfl) dL_law_470 ⟨by omega, by omega⟩ (fun r w470 H locs hM hw => ?_)
  obtain ⟨hr, hw⟩ := hw
  rw [hr]
  rw [hw] at hM
  refine lv_iload hx hb dL_law_473 (lv_at hl 1 rfl) ?_
  refine lv_icmp_eq (tgt := 480) hx hb dL_law_475 (by decide) (fun hcd => ?_) (fun hcd => ?_)
  · rw [if_pos hcd] at hf
    refine lv_iload hx hb dL_law_480 (lv_at hl 1 rfl) ?_
    refine lv_if_ne (tgt := 497) hx hb dL_law_482 (by decide) (fun hcd => ?_) (fun hcd => ?_)
    · rw [if_neg hcd] at hf
      refine lv_goto (tgt := 3345) hx hb dL_law_497 (by decide) ?_
      cases hf
      exact W.widen (by omega) (by omega) (hk _ _ _ hM hp_p1 hp_p2 hp_p3 hp_p4 _ (lv_sub hl [2, 3, 4, 5, 6, 7] rfl))
    · rw [if_pos hcd] at hf
      refine lv_aload_n hx hb dL_law_485 rfl (lv_at hl 5 rfl) ?_
      refine lv_iconst (v := 0) hx hb dL_law_486 (by decide) ?_
      refine mm_lald0 hC hM hp_p3 dL_law_487 ?_
      refine lv_iload hx hb dL_law_488 (lv_at hl 0 rfl) ?_
      refine lv_i2l hx hb dL_law_490 rfl ?_
      refine W.lcmp hx hb dL_law_491 ?_
      refine lv_if_eq (tgt := 497) hx hb dL_law_492 (by decide) (fun hcd => ?_) (fun hcd => ?_)
      · rw [if_pos hcd] at hf
        refine lv_goto (tgt := 3345) hx hb dL_law_497 (by decide) ?_
        cases hf
        exact W.widen (by omega) (by omega) (hk _ _ _ hM hp_p1 hp_p2 hp_p3 hp_p4 _ (lv_sub hl [2, 3, 4, 5, 6, 7] rfl))
      · rw [if_neg hcd] at hf
        refine lv_iconst (v := 0) hx hb dL_law_495 (by decide) ?_
        cases hf
  · rw [if_neg hcd] at hf
    refine lv_iconst (v := 0) hx hb dL_law_478 (by decide) ?_
    cases hf
def g_law3 (p1_marsh_reeds_states : Nat → Int32) (p2_v : Nat → Int32) (p3 : Nat → Int64) (x1 : Int32) (x2 : Int32) : Option (Int32 × (Nat → Int64)) := (f_L_hasReed p1_marsh_reeds_states p3 x1 x2).bind fun q514 => (f_X13_hasReed p2_v x1 x2).bind fun q532 => (f_X13_thrown q532.2).bind fun q538 => if q538 = q514.1 then if q514.1 = 0 then if q532.1 = 0 then if (lg_cmp (q514.2 0) 0) = 0 then some (q532.2, q514.2) else none else if (lg_cmp (q514.2 0) 1) = 0 then some (q532.2, q514.2) else none else some (q532.2, q514.2) else none
set_option maxHeartbeats 4000000 in
set_option maxRecDepth 100000 in
theorem g_law3_c (hC : mm_C G A p s m c code 10 args "MirrorFerryLaw") (hsX : va_X b L xs s s.heap) (hbl : b < s.heap.size) (hbA : ¬ A b) (hd1 : b1 + 152 ≤ b2) (hd2 : b2 + 13 ≤ a3) (hd3 : a3 + 1 ≤ a4) (hrc : cells + 1000 ≤ room_1.cells) (hrs : slots + 10000 ≤ room_1.slots) (hfl : l.stackTraces = false) {p1_marsh_reeds_states : Nat → Int32} {p1_marsh_reeds_count : Int32} {p1_marsh_reeds_broken : Int32} {p1_marsh_fleet_numbers : Nat → Int32} {p1_marsh_fleet_cells : Nat → Int32} {p1_marsh_fleet_fares : Nat → Int32} {p1_marsh_fleet_count : Int32} {p1_marsh_fleet_nextNumber : Int32} {p1_marsh_fleet_total : Int32} {p1_marsh_fleet_removedFares : Int32} {p1_marsh_fleet_meetings : Int32} {p1_marsh_plans_moves : Nat → Int32} {p1_marsh_plans_lengths : Nat → Int32} {p1_marsh_landings_cells : Nat → Int32} {p1_marsh_landings_count : Int32} {p1_marsh_fogSide : Int32} {p1_snapshot_reeds_states : Nat → Int32} {p1_snapshot_reeds_count : Int32} {p1_snapshot_reeds_broken : Int32} {p1_snapshot_fleet_numbers : Nat → Int32} {p1_snapshot_fleet_cells : Nat → Int32} {p1_snapshot_fleet_fares : Nat → Int32} {p1_snapshot_fleet_count : Int32} {p1_snapshot_fleet_nextNumber : Int32} {p1_snapshot_fleet_total : Int32} {p1_snapshot_fleet_removedFares : Int32} {p1_snapshot_fleet_meetings : Int32} {p1_snapshot_plans_moves : Nat → Int32} {p1_snapshot_plans_lengths : Nat → Int32} {p1_snapshot_landings_cells : Nat → Int32} {p1_snapshot_landings_count : Int32} {p1_snapshot_fogSide : Int32} {p1_history_slots : Nat → mm_MV} {p1_history_free : Int32} {p1_history_count : Int32} {p1_ways_tolls : Nat → Int32} {p1_ways_queue : Nat → Int32} {p1_ways_heap : Nat → Int32} {p1_ways_heapSize : Int32} {p1_ways_found : Nat → Int32} {p1_ways_improved : Nat → Int32} {p1_pairing_costs : Nat → Int32} {p1_pairing_best : Nat → Int32} {p1_reader_kinds : Nat → Int32} {p1_reader_starts : Nat → Int32} {p1_reader_count : Int32} {p1_commandText_signs : Nat → Int32} {p1_commandText_length : Int32} {p1_line_signs : Nat → Int32} {p1_line_length : Int32} {p1_spareMoves : Nat → Int32} {p1_snapshotTaken : Int32} {p1_lastErrorPosition : Int32} {p1_lastFailedCommand : Int32} {p2_thrown : Int32} {p2_changes : Int32} {p2_errorAt : Int32} {p2_failedAt : Int32} {p2_isSaved : Int32} {p2_v : Nat → Int32} {p2_before : Nat → Int32} {p2_saved : Nat → Int32} {p2_past : Nat → Int32} {p2_far : Nat → Int32} {p2_scratch : Nat → Int32} {p2_best : Nat → Int32} {p2_thenX : Int32} {p2_thenY : Int32} {p2_thenMet : Int32} {p2_text : Nat → Int32} {p2_line : Nat → Int32} {p2_isLeft : Nat → Int32} {p2_words : Nat → Int32} {p2_wordAt : Nat → Int32} {p2_textN : Int32} {p2_hereP : Int32} {p2_endP : Int32} {p2_lineN : Int32} {p2_isWrong : Int32} {p2_isDoing : Int32} {p3 : Nat → Int64} {p4 : Nat → UInt64} {x0 x1 x2 x3 x4 x5 : Int32} {X : Int32 × (Nat → Int64)} (hf : g_law3 p1_marsh_reeds_states p2_v p3 x1 x2 = some X) (hp_p1 : At12 G w b1 p1_marsh_reeds_states p1_marsh_reeds_count p1_marsh_reeds_broken p1_marsh_fleet_numbers p1_marsh_fleet_cells p1_marsh_fleet_fares p1_marsh_fleet_count p1_marsh_fleet_nextNumber p1_marsh_fleet_total p1_marsh_fleet_removedFares p1_marsh_fleet_meetings p1_marsh_plans_moves p1_marsh_plans_lengths p1_marsh_landings_cells p1_marsh_landings_count p1_marsh_fogSide p1_snapshot_reeds_states p1_snapshot_reeds_count p1_snapshot_reeds_broken p1_snapshot_fleet_numbers p1_snapshot_fleet_cells p1_snapshot_fleet_fares p1_snapshot_fleet_count p1_snapshot_fleet_nextNumber p1_snapshot_fleet_total p1_snapshot_fleet_removedFares p1_snapshot_fleet_meetings p1_snapshot_plans_moves p1_snapshot_plans_lengths p1_snapshot_landings_cells p1_snapshot_landings_count p1_snapshot_fogSide p1_history_slots p1_history_free p1_history_count p1_ways_tolls p1_ways_queue p1_ways_heap p1_ways_heapSize p1_ways_found p1_ways_improved p1_pairing_costs p1_pairing_best p1_reader_kinds p1_reader_starts p1_reader_count p1_commandText_signs p1_commandText_length p1_line_signs p1_line_length p1_spareMoves p1_snapshotTaken p1_lastErrorPosition p1_lastFailedCommand) (hp_p2 : At13 G w b2 p2_thrown p2_changes p2_errorAt p2_failedAt p2_isSaved p2_v p2_before p2_saved p2_past p2_far p2_scratch p2_best p2_thenX p2_thenY p2_thenMet p2_text p2_line p2_isLeft p2_words p2_wordAt p2_textN p2_hereP p2_endP p2_lineN p2_isWrong p2_isDoing) (hp_p3 : (a3, (.inl (G.2 3, 1, .inr (.inl p3)) : va_E)) ∈ w) (hp_p4 : (a4, (.inl (G.2 4, 1, .inr (.inr (.inr (.inl p4)))) : va_E)) ∈ w)
    (hsc : ∀ k : Nat, k < 5 → vp_in (x5 + Int32.ofNat k) L ∧ xs (x5 + Int32.ofNat k).toNatClampNeg = mm_x5 x0 x1 x2 x3 x4 k) (hM : mm_S G A s.heap w H locs)
    (hk : ∀ (w : va_W) (H : Heap) (locs : List Loc), mm_S G A s.heap w H locs → At12 G w b1 p1_marsh_reeds_states p1_marsh_reeds_count p1_marsh_reeds_broken p1_marsh_fleet_numbers p1_marsh_fleet_cells p1_marsh_fleet_fares p1_marsh_fleet_count p1_marsh_fleet_nextNumber p1_marsh_fleet_total p1_marsh_fleet_removedFares p1_marsh_fleet_meetings p1_marsh_plans_moves p1_marsh_plans_lengths p1_marsh_landings_cells p1_marsh_landings_count p1_marsh_fogSide p1_snapshot_reeds_states p1_snapshot_reeds_count p1_snapshot_reeds_broken p1_snapshot_fleet_numbers p1_snapshot_fleet_cells p1_snapshot_fleet_fares p1_snapshot_fleet_count p1_snapshot_fleet_nextNumber p1_snapshot_fleet_total p1_snapshot_fleet_removedFares p1_snapshot_fleet_meetings p1_snapshot_plans_moves p1_snapshot_plans_lengths p1_snapshot_landings_cells p1_snapshot_landings_count p1_snapshot_fogSide p1_history_slots p1_history_free p1_history_count p1_ways_tolls p1_ways_queue p1_ways_heap p1_ways_heapSize p1_ways_found p1_ways_improved p1_pairing_costs p1_pairing_best p1_reader_kinds p1_reader_starts p1_reader_count p1_commandText_signs p1_commandText_length p1_line_signs p1_line_length p1_spareMoves p1_snapshotTaken p1_lastErrorPosition p1_lastFailedCommand → At13 G w b2 X.1 p2_changes p2_errorAt p2_failedAt p2_isSaved p2_v p2_before p2_saved p2_past p2_far p2_scratch p2_best p2_thenX p2_thenY p2_thenMet p2_text p2_line p2_isLeft p2_words p2_wordAt p2_textN p2_hereP p2_endP p2_lineN p2_isWrong p2_isDoing → (a3, (.inl (G.2 3, 1, .inr (.inl X.2)) : va_E)) ∈ w → (a4, (.inl (G.2 4, 1, .inr (.inr (.inr (.inl p4)))) : va_E)) ∈ w → ∀ ls, lv_has ls 10 [(0, .ref b), (1, .ref b1), (2, .ref b2), (3, .ref a3), (4, .ref a4), (5, .int x5)] → W p l e room_1 s m args below meth c H locs (cells + 1000) (slots + 10000) Q (F0 m 3345 ls [])) (ls : Array Slot) (hl : lv_has ls 10 [(0, .ref b), (1, .ref b1), (2, .ref b2), (3, .ref a3), (4, .ref a4), (5, .int x5)]) : W p l e room_1 s m args below meth c H locs cells slots Q (F0 m 500 ls []) := by
  have hx := hC.1.1
  have hb := hC.1.2.1
  rw [g_law3] at hf
  refine lv_aload_n hx hb dL_law_500 rfl (lv_at hl 1 rfl) ?_
  refine lv_aload_n hx hb dL_law_501 rfl (lv_at hl 0 rfl) ?_
  refine lv_iload hx hb dL_law_502 (lv_at hl 5 rfl) ?_
  refine lv_iconst (v := 1) hx hb dL_law_504 (by decide) ?_
  refine lv_iadd hx hb dL_law_505 ?_
  refine mm_sld hC hM hsX hbl hbA (hsc 1 (by decide)).1 (hsc 1 (by decide)).2 dL_law_506 ?_
  refine lv_aload_n hx hb dL_law_507 rfl (lv_at hl 0 rfl) ?_
  refine lv_iload hx hb dL_law_508 (lv_at hl 5 rfl) ?_
  refine lv_iconst (v := 2) hx hb dL_law_510 (by decide) ?_
  refine lv_iadd hx hb dL_law_511 ?_
  refine mm_sld hC hM hsX hbl hbA (hsc 2 (by decide)).1 (hsc 2 (by decide)).2 dL_law_512 ?_
  refine lv_aload_n hx hb dL_law_513 rfl (lv_at hl 3 rfl) ?_
  obtain ⟨q514, hq514, hf⟩ := mm_bd hf
  refine mm_SiW (rest := []) hC hM (c_L_hasReed l hfl hq514 hp_p1 hp_p3 (by omega)) q4_81 q1_0 ykL_hasReed q4_79 q4_80 ⟨rfl, rfl⟩ ⟨Nat.le_of_ble_eq_true rfl, Nat.le_of_ble_eq_true rfl⟩ rfl hl.1 rfl (Nat.le_of_ble_eq_true rfl) dL_law_514 ⟨by omega, by omega⟩ (fun r w514 H locs hM hw => ?_)
  obtain ⟨hr, hn_p3, hfr⟩ := hw
  rw [hr]
  have hp_p1 := hp_p1.keep hfr (by omega)
  have hp_p2 := hp_p2.keep hfr (by omega)
  have hp_p4 := hfr.keep hp_p4 (by omega)
  have hp_p3 := hn_p3
  refine lv_istore (lv' := [(6, .int q514.1), (0, .ref b), (1, .ref b1), (2, .ref b2), (3, .ref a3), (4, .ref a4), (5, .int x5)]) hx hb dL_law_517 hl (by decide) rfl (fun ls hl => ?_)
  refine lv_aload_n hx hb dL_law_519 rfl (lv_at hl 3 rfl) ?_
  refine lv_aload_n hx hb dL_law_520 rfl (lv_at hl 1 rfl) ?_
  refine lv_iload hx hb dL_law_521 (lv_at hl 6 rfl) ?_
  refine lv_iconst (v := 1) hx hb dL_law_523 (by decide) ?_
  refine lv_iadd hx hb dL_law_524 ?_
  refine mm_sld hC hM hsX hbl hbA (hsc 1 (by decide)).1 (hsc 1 (by decide)).2 dL_law_525 ?_
  refine lv_aload_n hx hb dL_law_526 rfl (lv_at hl 1 rfl) ?_
  refine lv_iload hx hb dL_law_527 (lv_at hl 6 rfl) ?_
  refine lv_iconst (v := 2) hx hb dL_law_529 (by decide) ?_
  refine lv_iadd hx hb dL_law_530 ?_
  refine mm_sld hC hM hsX hbl hbA (hsc 2 (by decide)).1 (hsc 2 (by decide)).2 dL_law_531 ?_
  obtain ⟨q532, hq532, hf⟩ := mm_bd hf
  refine mm_Vi (rest := []) hC hM (c_X13_hasReed l hq532 hp_p2) q7_157 q1_12 ykX13_hasReed q7_154 q7_155 q7_156 hp_p2.1 rfl ⟨rfl, rfl⟩ ⟨Nat.le_of_ble_eq_true rfl, Nat.le_of_ble_eq_true rfl⟩ rfl hl.1 rfl (Nat.le_of_ble_eq_true rfl) dL_law_532 ⟨by omega, by omega⟩ (fun r w532 H locs hM hw => ?_)
  obtain ⟨hr, hn_this, hfr⟩ := hw
  rw [hr]
  have hp_p1 := hp_p1.keep hfr (by omega)
  have hp_p3 := hfr.keep hp_p3 (by omega)
  have hp_p4 := hfr.keep hp_p4 (by omega)
  have hp_p2 := hn_this
  refine lv_istore (lv' := [(7, .int q532.1), (6, .int q514.1), (0, .ref b), (1, .ref b1), (2, .ref b2), (3, .ref a3), (4, .ref a4), (5, .int x5)]) hx hb dL_law_535 hl (by decide) rfl (fun ls hl => ?_)
  refine lv_aload_n hx hb dL_law_537 rfl (lv_at hl 4 rfl) ?_
  obtain ⟨q538, hq538, hf⟩ := mm_bd hf
  refine mm_Vi (rest := []) hC hM (c_X13_thrown l hq538 hp_p2) q7_87 q1_12 ykX13_thrown q7_84 q7_85 q7_86 hp_p2.1 rfl ⟨rfl, rfl⟩ ⟨Nat.le_of_ble_eq_true rfl, Nat.le_of_ble_eq_true rfl⟩ rfl hl.1 rfl (Nat.le_of_ble_eq_true rfl) dL_law_538 ⟨by omega, by omega⟩ (fun r w538 H locs hM hw => ?_)
  obtain ⟨hr, hw⟩ := hw
  rw [hr]
  rw [hw] at hM
  refine lv_iload hx hb dL_law_541 (lv_at hl 1 rfl) ?_
  refine lv_icmp_eq (tgt := 548) hx hb dL_law_543 (by decide) (fun hcd => ?_) (fun hcd => ?_)
  · rw [if_pos hcd] at hf
    refine lv_iload hx hb dL_law_548 (lv_at hl 1 rfl) ?_
    refine lv_if_ne (tgt := 572) hx hb dL_law_550 (by decide) (fun hcd => ?_) (fun hcd => ?_)
    · rw [if_neg hcd] at hf
      refine lv_goto (tgt := 3345) hx hb dL_law_572 (by decide) ?_
      cases hf
      exact W.widen (by omega) (by omega) (hk _ _ _ hM hp_p1 hp_p2 hp_p3 hp_p4 _ (lv_sub hl [2, 3, 4, 5, 6, 7] rfl))
    · rw [if_pos hcd] at hf
      refine lv_aload_n hx hb dL_law_553 rfl (lv_at hl 5 rfl) ?_
      refine lv_iconst (v := 0) hx hb dL_law_554 (by decide) ?_
      refine mm_lald0 hC hM hp_p3 dL_law_555 ?_
      refine lv_iload hx hb dL_law_556 (lv_at hl 0 rfl) ?_
      refine lv_if_eq (tgt := 565) hx hb dL_law_558 (by decide) (fun hcd => ?_) (fun hcd => ?_)
      · rw [if_pos hcd] at hf
        refine lv_lconst (v := 0) hx hb dL_law_565 (by decide) ?_
        refine W.lcmp hx hb dL_law_566 ?_
        refine lv_if_eq (tgt := 572) hx hb dL_law_567 (by decide) (fun hcd => ?_) (fun hcd => ?_)
        · rw [if_pos hcd] at hf
          refine lv_goto (tgt := 3345) hx hb dL_law_572 (by decide) ?_
          cases hf
          exact W.widen (by omega) (by omega) (hk _ _ _ hM hp_p1 hp_p2 hp_p3 hp_p4 _ (lv_sub hl [2, 3, 4, 5, 6, 7] rfl))
        · rw [if_neg hcd] at hf
          refine lv_iconst (v := 0) hx hb dL_law_570 (by decide) ?_
          cases hf
      · rw [if_neg hcd] at hf
        refine lv_lconst (v := 1) hx hb dL_law_561 (by decide) ?_
        refine lv_goto (tgt := 566) hx hb dL_law_562 (by decide) ?_
        refine W.lcmp hx hb dL_law_566 ?_
        refine lv_if_eq (tgt := 572) hx hb dL_law_567 (by decide) (fun hcd => ?_) (fun hcd => ?_)
        · rw [if_pos hcd] at hf
          refine lv_goto (tgt := 3345) hx hb dL_law_572 (by decide) ?_
          cases hf
          exact W.widen (by omega) (by omega) (hk _ _ _ hM hp_p1 hp_p2 hp_p3 hp_p4 _ (lv_sub hl [2, 3, 4, 5, 6, 7] rfl))
        · rw [if_neg hcd] at hf
          refine lv_iconst (v := 0) hx hb dL_law_570 (by decide) ?_
          cases hf
  · rw [if_neg hcd] at hf
    refine lv_iconst (v := 0) hx hb dL_law_546 (by decide) ?_
    cases hf
def g_law4 (p1_marsh_reeds_states : Nat → Int32) (p2_v : Nat → Int32) (p3 : Nat → Int64) (x1 : Int32) (x2 : Int32) : Option (Int32 × (Nat → Int64)) := (f_L_isPassable p1_marsh_reeds_states p3 x1 x2).bind fun q589 => (f_X13_isPassable p2_v x1 x2).bind fun q607 => (f_X13_thrown q607.2).bind fun q613 => if q613 = q589.1 then if q589.1 = 0 then if q607.1 = 0 then if (lg_cmp (q589.2 0) 0) = 0 then some (q607.2, q589.2) else none else if (lg_cmp (q589.2 0) 1) = 0 then some (q607.2, q589.2) else none else some (q607.2, q589.2) else none
set_option maxHeartbeats 4000000 in
set_option maxRecDepth 100000 in
theorem g_law4_c (hC : mm_C G A p s m c code 10 args "MirrorFerryLaw") (hsX : va_X b L xs s s.heap) (hbl : b < s.heap.size) (hbA : ¬ A b) (hd1 : b1 + 152 ≤ b2) (hd2 : b2 + 13 ≤ a3) (hd3 : a3 + 1 ≤ a4) (hrc : cells + 1000 ≤ room_1.cells) (hrs : slots + 10000 ≤ room_1.slots) (hfl : l.stackTraces = false) {p1_marsh_reeds_states : Nat → Int32} {p1_marsh_reeds_count : Int32} {p1_marsh_reeds_broken : Int32} {p1_marsh_fleet_numbers : Nat → Int32} {p1_marsh_fleet_cells : Nat → Int32} {p1_marsh_fleet_fares : Nat → Int32} {p1_marsh_fleet_count : Int32} {p1_marsh_fleet_nextNumber : Int32} {p1_marsh_fleet_total : Int32} {p1_marsh_fleet_removedFares : Int32} {p1_marsh_fleet_meetings : Int32} {p1_marsh_plans_moves : Nat → Int32} {p1_marsh_plans_lengths : Nat → Int32} {p1_marsh_landings_cells : Nat → Int32} {p1_marsh_landings_count : Int32} {p1_marsh_fogSide : Int32} {p1_snapshot_reeds_states : Nat → Int32} {p1_snapshot_reeds_count : Int32} {p1_snapshot_reeds_broken : Int32} {p1_snapshot_fleet_numbers : Nat → Int32} {p1_snapshot_fleet_cells : Nat → Int32} {p1_snapshot_fleet_fares : Nat → Int32} {p1_snapshot_fleet_count : Int32} {p1_snapshot_fleet_nextNumber : Int32} {p1_snapshot_fleet_total : Int32} {p1_snapshot_fleet_removedFares : Int32} {p1_snapshot_fleet_meetings : Int32} {p1_snapshot_plans_moves : Nat → Int32} {p1_snapshot_plans_lengths : Nat → Int32} {p1_snapshot_landings_cells : Nat → Int32} {p1_snapshot_landings_count : Int32} {p1_snapshot_fogSide : Int32} {p1_history_slots : Nat → mm_MV} {p1_history_free : Int32} {p1_history_count : Int32} {p1_ways_tolls : Nat → Int32} {p1_ways_queue : Nat → Int32} {p1_ways_heap : Nat → Int32} {p1_ways_heapSize : Int32} {p1_ways_found : Nat → Int32} {p1_ways_improved : Nat → Int32} {p1_pairing_costs : Nat → Int32} {p1_pairing_best : Nat → Int32} {p1_reader_kinds : Nat → Int32} {p1_reader_starts : Nat → Int32} {p1_reader_count : Int32} {p1_commandText_signs : Nat → Int32} {p1_commandText_length : Int32} {p1_line_signs : Nat → Int32} {p1_line_length : Int32} {p1_spareMoves : Nat → Int32} {p1_snapshotTaken : Int32} {p1_lastErrorPosition : Int32} {p1_lastFailedCommand : Int32} {p2_thrown : Int32} {p2_changes : Int32} {p2_errorAt : Int32} {p2_failedAt : Int32} {p2_isSaved : Int32} {p2_v : Nat → Int32} {p2_before : Nat → Int32} {p2_saved : Nat → Int32} {p2_past : Nat → Int32} {p2_far : Nat → Int32} {p2_scratch : Nat → Int32} {p2_best : Nat → Int32} {p2_thenX : Int32} {p2_thenY : Int32} {p2_thenMet : Int32} {p2_text : Nat → Int32} {p2_line : Nat → Int32} {p2_isLeft : Nat → Int32} {p2_words : Nat → Int32} {p2_wordAt : Nat → Int32} {p2_textN : Int32} {p2_hereP : Int32} {p2_endP : Int32} {p2_lineN : Int32} {p2_isWrong : Int32} {p2_isDoing : Int32} {p3 : Nat → Int64} {p4 : Nat → UInt64} {x0 x1 x2 x3 x4 x5 : Int32} {X : Int32 × (Nat → Int64)} (hf : g_law4 p1_marsh_reeds_states p2_v p3 x1 x2 = some X) (hp_p1 : At12 G w b1 p1_marsh_reeds_states p1_marsh_reeds_count p1_marsh_reeds_broken p1_marsh_fleet_numbers p1_marsh_fleet_cells p1_marsh_fleet_fares p1_marsh_fleet_count p1_marsh_fleet_nextNumber p1_marsh_fleet_total p1_marsh_fleet_removedFares p1_marsh_fleet_meetings p1_marsh_plans_moves p1_marsh_plans_lengths p1_marsh_landings_cells p1_marsh_landings_count p1_marsh_fogSide p1_snapshot_reeds_states p1_snapshot_reeds_count p1_snapshot_reeds_broken p1_snapshot_fleet_numbers p1_snapshot_fleet_cells p1_snapshot_fleet_fares p1_snapshot_fleet_count p1_snapshot_fleet_nextNumber p1_snapshot_fleet_total p1_snapshot_fleet_removedFares p1_snapshot_fleet_meetings p1_snapshot_plans_moves p1_snapshot_plans_lengths p1_snapshot_landings_cells p1_snapshot_landings_count p1_snapshot_fogSide p1_history_slots p1_history_free p1_history_count p1_ways_tolls p1_ways_queue p1_ways_heap p1_ways_heapSize p1_ways_found p1_ways_improved p1_pairing_costs p1_pairing_best p1_reader_kinds p1_reader_starts p1_reader_count p1_commandText_signs p1_commandText_length p1_line_signs p1_line_length p1_spareMoves p1_snapshotTaken p1_lastErrorPosition p1_lastFailedCommand) (hp_p2 : At13 G w b2 p2_thrown p2_changes p2_errorAt p2_failedAt p2_isSaved p2_v p2_before p2_saved p2_past p2_far p2_scratch p2_best p2_thenX p2_thenY p2_thenMet p2_text p2_line p2_isLeft p2_words p2_wordAt p2_textN p2_hereP p2_endP p2_lineN p2_isWrong p2_isDoing) (hp_p3 : (a3, (.inl (G.2 3, 1, .inr (.inl p3)) : va_E)) ∈ w) (hp_p4 : (a4, (.inl (G.2 4, 1, .inr (.inr (.inr (.inl p4)))) : va_E)) ∈ w)
    (hsc : ∀ k : Nat, k < 5 → vp_in (x5 + Int32.ofNat k) L ∧ xs (x5 + Int32.ofNat k).toNatClampNeg = mm_x5 x0 x1 x2 x3 x4 k) (hM : mm_S G A s.heap w H locs)
    (hk : ∀ (w : va_W) (H : Heap) (locs : List Loc), mm_S G A s.heap w H locs → At12 G w b1 p1_marsh_reeds_states p1_marsh_reeds_count p1_marsh_reeds_broken p1_marsh_fleet_numbers p1_marsh_fleet_cells p1_marsh_fleet_fares p1_marsh_fleet_count p1_marsh_fleet_nextNumber p1_marsh_fleet_total p1_marsh_fleet_removedFares p1_marsh_fleet_meetings p1_marsh_plans_moves p1_marsh_plans_lengths p1_marsh_landings_cells p1_marsh_landings_count p1_marsh_fogSide p1_snapshot_reeds_states p1_snapshot_reeds_count p1_snapshot_reeds_broken p1_snapshot_fleet_numbers p1_snapshot_fleet_cells p1_snapshot_fleet_fares p1_snapshot_fleet_count p1_snapshot_fleet_nextNumber p1_snapshot_fleet_total p1_snapshot_fleet_removedFares p1_snapshot_fleet_meetings p1_snapshot_plans_moves p1_snapshot_plans_lengths p1_snapshot_landings_cells p1_snapshot_landings_count p1_snapshot_fogSide p1_history_slots p1_history_free p1_history_count p1_ways_tolls p1_ways_queue p1_ways_heap p1_ways_heapSize p1_ways_found p1_ways_improved p1_pairing_costs p1_pairing_best p1_reader_kinds p1_reader_starts p1_reader_count p1_commandText_signs p1_commandText_length p1_line_signs p1_line_length p1_spareMoves p1_snapshotTaken p1_lastErrorPosition p1_lastFailedCommand → At13 G w b2 X.1 p2_changes p2_errorAt p2_failedAt p2_isSaved p2_v p2_before p2_saved p2_past p2_far p2_scratch p2_best p2_thenX p2_thenY p2_thenMet p2_text p2_line p2_isLeft p2_words p2_wordAt p2_textN p2_hereP p2_endP p2_lineN p2_isWrong p2_isDoing → (a3, (.inl (G.2 3, 1, .inr (.inl X.2)) : va_E)) ∈ w → (a4, (.inl (G.2 4, 1, .inr (.inr (.inr (.inl p4)))) : va_E)) ∈ w → ∀ ls, lv_has ls 10 [(0, .ref b), (1, .ref b1), (2, .ref b2), (3, .ref a3), (4, .ref a4), (5, .int x5)] → W p l e room_1 s m args below meth c H locs (cells + 1000) (slots + 10000) Q (F0 m 3345 ls [])) (ls : Array Slot) (hl : lv_has ls 10 [(0, .ref b), (1, .ref b1), (2, .ref b2), (3, .ref a3), (4, .ref a4), (5, .int x5)]) : W p l e room_1 s m args below meth c H locs cells slots Q (F0 m 575 ls []) := by
  have hx := hC.1.1
  have hb := hC.1.2.1
  rw [g_law4] at hf
  refine lv_aload_n hx hb dL_law_575 rfl (lv_at hl 1 rfl) ?_
  refine lv_aload_n hx hb dL_law_576 rfl (lv_at hl 0 rfl) ?_
  refine lv_iload hx hb dL_law_577 (lv_at hl 5 rfl) ?_
  refine lv_iconst (v := 1) hx hb dL_law_579 (by decide) ?_
  refine lv_iadd hx hb dL_law_580 ?_
  refine mm_sld hC hM hsX hbl hbA (hsc 1 (by decide)).1 (hsc 1 (by decide)).2 dL_law_581 ?_
  refine lv_aload_n hx hb dL_law_582 rfl (lv_at hl 0 rfl) ?_
  refine lv_iload hx hb dL_law_583 (lv_at hl 5 rfl) ?_
  refine lv_iconst (v := 2) hx hb dL_law_585 (by decide) ?_
  refine lv_iadd hx hb dL_law_586 ?_
  refine mm_sld hC hM hsX hbl hbA (hsc 2 (by decide)).1 (hsc 2 (by decide)).2 dL_law_587 ?_
  refine lv_aload_n hx hb dL_law_588 rfl (lv_at hl 3 rfl) ?_
  obtain ⟨q589, hq589, hf⟩ := mm_bd hf
  refine mm_SiW (rest := []) hC hM (c_L_isPassable l hfl hq589 hp_p1 hp_p3 (by omega)) q4_92 q1_0 ykL_isPassable q4_90 q4_91 ⟨rfl, rfl⟩ ⟨Nat.le_of_ble_eq_true rfl, Nat.le_of_ble_eq_true rfl⟩ rfl hl.1 rfl (Nat.le_of_ble_eq_true rfl) dL_law_589 ⟨by omega, by omega⟩ (fun r w589 H locs hM hw => ?_)
  obtain ⟨hr, hn_p3, hfr⟩ := hw
  rw [hr]
  have hp_p1 := hp_p1.keep hfr (by omega)
  have hp_p2 := hp_p2.keep hfr (by omega)
  have hp_p4 := hfr.keep hp_p4 (by omega)
  have hp_p3 := hn_p3
  refine lv_istore (lv' := [(6, .int q589.1), (0, .ref b), (1, .ref b1), (2, .ref b2), (3, .ref a3), (4, .ref a4), (5, .int x5)]) hx hb dL_law_592 hl (by decide) rfl (fun ls hl => ?_)
  refine lv_aload_n hx hb dL_law_594 rfl (lv_at hl 3 rfl) ?_
  refine lv_aload_n hx hb dL_law_595 rfl (lv_at hl 1 rfl) ?_
  refine lv_iload hx hb dL_law_596 (lv_at hl 6 rfl) ?_
  refine lv_iconst (v := 1) hx hb dL_law_598 (by decide) ?_
  refine lv_iadd hx hb dL_law_599 ?_
  refine mm_sld hC hM hsX hbl hbA (hsc 1 (by decide)).1 (hsc 1 (by decide)).2 dL_law_600 ?_
  refine lv_aload_n hx hb dL_law_601 rfl (lv_at hl 1 rfl) ?_
  refine lv_iload hx hb dL_law_602 (lv_at hl 6 rfl) ?_
  refine lv_iconst (v := 2) hx hb dL_law_604 (by decide) ?_
  refine lv_iadd hx hb dL_law_605 ?_
  refine mm_sld hC hM hsX hbl hbA (hsc 2 (by decide)).1 (hsc 2 (by decide)).2 dL_law_606 ?_
  obtain ⟨q607, hq607, hf⟩ := mm_bd hf
  refine mm_Vi (rest := []) hC hM (c_X13_isPassable l hq607 hp_p2) q7_161 q1_12 ykX13_isPassable q7_158 q7_159 q7_160 hp_p2.1 rfl ⟨rfl, rfl⟩ ⟨Nat.le_of_ble_eq_true rfl, Nat.le_of_ble_eq_true rfl⟩ rfl hl.1 rfl (Nat.le_of_ble_eq_true rfl) dL_law_607 ⟨by omega, by omega⟩ (fun r w607 H locs hM hw => ?_)
  obtain ⟨hr, hn_this, hfr⟩ := hw
  rw [hr]
  have hp_p1 := hp_p1.keep hfr (by omega)
  have hp_p3 := hfr.keep hp_p3 (by omega)
  have hp_p4 := hfr.keep hp_p4 (by omega)
  have hp_p2 := hn_this
  refine lv_istore (lv' := [(7, .int q607.1), (6, .int q589.1), (0, .ref b), (1, .ref b1), (2, .ref b2), (3, .ref a3), (4, .ref a4), (5, .int x5)]) hx hb dL_law_610 hl (by decide) rfl (fun ls hl => ?_)
  refine lv_aload_n hx hb dL_law_612 rfl (lv_at hl 4 rfl) ?_
  obtain ⟨q613, hq613, hf⟩ := mm_bd hf
  refine mm_Vi (rest := []) hC hM (c_X13_thrown l hq613 hp_p2) q7_87 q1_12 ykX13_thrown q7_84 q7_85 q7_86 hp_p2.1 rfl ⟨rfl, rfl⟩ ⟨Nat.le_of_ble_eq_true rfl, Nat.le_of_ble_eq_true rfl⟩ rfl hl.1 rfl (Nat.le_of_ble_eq_true rfl) dL_law_613 ⟨by omega, by omega⟩ (fun r w613 H locs hM hw => ?_)
  obtain ⟨hr, hw⟩ := hw
  rw [hr]
  rw [hw] at hM
  refine lv_iload hx hb dL_law_616 (lv_at hl 1 rfl) ?_
  refine lv_icmp_eq (tgt := 623) hx hb dL_law_618 (by decide) (fun hcd => ?_) (fun hcd => ?_)
  · rw [if_pos hcd] at hf
    refine lv_iload hx hb dL_law_623 (lv_at hl 1 rfl) ?_
    refine lv_if_ne (tgt := 647) hx hb dL_law_625 (by decide) (fun hcd => ?_) (fun hcd => ?_)
    · rw [if_neg hcd] at hf
      refine lv_goto (tgt := 3345) hx hb dL_law_647 (by decide) ?_
      cases hf
      exact W.widen (by omega) (by omega) (hk _ _ _ hM hp_p1 hp_p2 hp_p3 hp_p4 _ (lv_sub hl [2, 3, 4, 5, 6, 7] rfl))
    · rw [if_pos hcd] at hf
      refine lv_aload_n hx hb dL_law_628 rfl (lv_at hl 5 rfl) ?_
      refine lv_iconst (v := 0) hx hb dL_law_629 (by decide) ?_
      refine mm_lald0 hC hM hp_p3 dL_law_630 ?_
      refine lv_iload hx hb dL_law_631 (lv_at hl 0 rfl) ?_
      refine lv_if_eq (tgt := 640) hx hb dL_law_633 (by decide) (fun hcd => ?_) (fun hcd => ?_)
      · rw [if_pos hcd] at hf
        refine lv_lconst (v := 0) hx hb dL_law_640 (by decide) ?_
        refine W.lcmp hx hb dL_law_641 ?_
        refine lv_if_eq (tgt := 647) hx hb dL_law_642 (by decide) (fun hcd => ?_) (fun hcd => ?_)
        · rw [if_pos hcd] at hf
          refine lv_goto (tgt := 3345) hx hb dL_law_647 (by decide) ?_
          cases hf
          exact W.widen (by omega) (by omega) (hk _ _ _ hM hp_p1 hp_p2 hp_p3 hp_p4 _ (lv_sub hl [2, 3, 4, 5, 6, 7] rfl))
        · rw [if_neg hcd] at hf
          refine lv_iconst (v := 0) hx hb dL_law_645 (by decide) ?_
          cases hf
      · rw [if_neg hcd] at hf
        refine lv_lconst (v := 1) hx hb dL_law_636 (by decide) ?_
        refine lv_goto (tgt := 641) hx hb dL_law_637 (by decide) ?_
        refine W.lcmp hx hb dL_law_641 ?_
        refine lv_if_eq (tgt := 647) hx hb dL_law_642 (by decide) (fun hcd => ?_) (fun hcd => ?_)
        · rw [if_pos hcd] at hf
          refine lv_goto (tgt := 3345) hx hb dL_law_647 (by decide) ?_
          cases hf
          exact W.widen (by omega) (by omega) (hk _ _ _ hM hp_p1 hp_p2 hp_p3 hp_p4 _ (lv_sub hl [2, 3, 4, 5, 6, 7] rfl))
        · rw [if_neg hcd] at hf
          refine lv_iconst (v := 0) hx hb dL_law_645 (by decide) ?_
          cases hf
  · rw [if_neg hcd] at hf
    refine lv_iconst (v := 0) hx hb dL_law_621 (by decide) ?_
    cases hf
def g_law5 (p1_marsh_reeds_count : Int32) (p2_v : Nat → Int32) : Option (Int32) := (f_X12_reedCount p1_marsh_reeds_count).bind fun q651 => (f_X13_reedCount p2_v).bind fun q655 => if q651 = q655.1 then some q655.2 else none
set_option maxHeartbeats 4000000 in
set_option maxRecDepth 100000 in
theorem g_law5_c (hC : mm_C G A p s m c code 10 args "MirrorFerryLaw") (hsX : va_X b L xs s s.heap) (hbl : b < s.heap.size) (hbA : ¬ A b) (hd1 : b1 + 152 ≤ b2) (hd2 : b2 + 13 ≤ a3) (hd3 : a3 + 1 ≤ a4) (hrc : cells + 1000 ≤ room_1.cells) (hrs : slots + 10000 ≤ room_1.slots) (hfl : l.stackTraces = false) {p1_marsh_reeds_states : Nat → Int32} {p1_marsh_reeds_count : Int32} {p1_marsh_reeds_broken : Int32} {p1_marsh_fleet_numbers : Nat → Int32} {p1_marsh_fleet_cells : Nat → Int32} {p1_marsh_fleet_fares : Nat → Int32} {p1_marsh_fleet_count : Int32} {p1_marsh_fleet_nextNumber : Int32} {p1_marsh_fleet_total : Int32} {p1_marsh_fleet_removedFares : Int32} {p1_marsh_fleet_meetings : Int32} {p1_marsh_plans_moves : Nat → Int32} {p1_marsh_plans_lengths : Nat → Int32} {p1_marsh_landings_cells : Nat → Int32} {p1_marsh_landings_count : Int32} {p1_marsh_fogSide : Int32} {p1_snapshot_reeds_states : Nat → Int32} {p1_snapshot_reeds_count : Int32} {p1_snapshot_reeds_broken : Int32} {p1_snapshot_fleet_numbers : Nat → Int32} {p1_snapshot_fleet_cells : Nat → Int32} {p1_snapshot_fleet_fares : Nat → Int32} {p1_snapshot_fleet_count : Int32} {p1_snapshot_fleet_nextNumber : Int32} {p1_snapshot_fleet_total : Int32} {p1_snapshot_fleet_removedFares : Int32} {p1_snapshot_fleet_meetings : Int32} {p1_snapshot_plans_moves : Nat → Int32} {p1_snapshot_plans_lengths : Nat → Int32} {p1_snapshot_landings_cells : Nat → Int32} {p1_snapshot_landings_count : Int32} {p1_snapshot_fogSide : Int32} {p1_history_slots : Nat → mm_MV} {p1_history_free : Int32} {p1_history_count : Int32} {p1_ways_tolls : Nat → Int32} {p1_ways_queue : Nat → Int32} {p1_ways_heap : Nat → Int32} {p1_ways_heapSize : Int32} {p1_ways_found : Nat → Int32} {p1_ways_improved : Nat → Int32} {p1_pairing_costs : Nat → Int32} {p1_pairing_best : Nat → Int32} {p1_reader_kinds : Nat → Int32} {p1_reader_starts : Nat → Int32} {p1_reader_count : Int32} {p1_commandText_signs : Nat → Int32} {p1_commandText_length : Int32} {p1_line_signs : Nat → Int32} {p1_line_length : Int32} {p1_spareMoves : Nat → Int32} {p1_snapshotTaken : Int32} {p1_lastErrorPosition : Int32} {p1_lastFailedCommand : Int32} {p2_thrown : Int32} {p2_changes : Int32} {p2_errorAt : Int32} {p2_failedAt : Int32} {p2_isSaved : Int32} {p2_v : Nat → Int32} {p2_before : Nat → Int32} {p2_saved : Nat → Int32} {p2_past : Nat → Int32} {p2_far : Nat → Int32} {p2_scratch : Nat → Int32} {p2_best : Nat → Int32} {p2_thenX : Int32} {p2_thenY : Int32} {p2_thenMet : Int32} {p2_text : Nat → Int32} {p2_line : Nat → Int32} {p2_isLeft : Nat → Int32} {p2_words : Nat → Int32} {p2_wordAt : Nat → Int32} {p2_textN : Int32} {p2_hereP : Int32} {p2_endP : Int32} {p2_lineN : Int32} {p2_isWrong : Int32} {p2_isDoing : Int32} {p3 : Nat → Int64} {p4 : Nat → UInt64} {x0 x1 x2 x3 x4 x5 : Int32} {X : Int32} (hf : g_law5 p1_marsh_reeds_count p2_v = some X) (hp_p1 : At12 G w b1 p1_marsh_reeds_states p1_marsh_reeds_count p1_marsh_reeds_broken p1_marsh_fleet_numbers p1_marsh_fleet_cells p1_marsh_fleet_fares p1_marsh_fleet_count p1_marsh_fleet_nextNumber p1_marsh_fleet_total p1_marsh_fleet_removedFares p1_marsh_fleet_meetings p1_marsh_plans_moves p1_marsh_plans_lengths p1_marsh_landings_cells p1_marsh_landings_count p1_marsh_fogSide p1_snapshot_reeds_states p1_snapshot_reeds_count p1_snapshot_reeds_broken p1_snapshot_fleet_numbers p1_snapshot_fleet_cells p1_snapshot_fleet_fares p1_snapshot_fleet_count p1_snapshot_fleet_nextNumber p1_snapshot_fleet_total p1_snapshot_fleet_removedFares p1_snapshot_fleet_meetings p1_snapshot_plans_moves p1_snapshot_plans_lengths p1_snapshot_landings_cells p1_snapshot_landings_count p1_snapshot_fogSide p1_history_slots p1_history_free p1_history_count p1_ways_tolls p1_ways_queue p1_ways_heap p1_ways_heapSize p1_ways_found p1_ways_improved p1_pairing_costs p1_pairing_best p1_reader_kinds p1_reader_starts p1_reader_count p1_commandText_signs p1_commandText_length p1_line_signs p1_line_length p1_spareMoves p1_snapshotTaken p1_lastErrorPosition p1_lastFailedCommand) (hp_p2 : At13 G w b2 p2_thrown p2_changes p2_errorAt p2_failedAt p2_isSaved p2_v p2_before p2_saved p2_past p2_far p2_scratch p2_best p2_thenX p2_thenY p2_thenMet p2_text p2_line p2_isLeft p2_words p2_wordAt p2_textN p2_hereP p2_endP p2_lineN p2_isWrong p2_isDoing) (hp_p3 : (a3, (.inl (G.2 3, 1, .inr (.inl p3)) : va_E)) ∈ w) (hp_p4 : (a4, (.inl (G.2 4, 1, .inr (.inr (.inr (.inl p4)))) : va_E)) ∈ w)
    (hsc : ∀ k : Nat, k < 5 → vp_in (x5 + Int32.ofNat k) L ∧ xs (x5 + Int32.ofNat k).toNatClampNeg = mm_x5 x0 x1 x2 x3 x4 k) (hM : mm_S G A s.heap w H locs)
    (hk : ∀ (w : va_W) (H : Heap) (locs : List Loc), mm_S G A s.heap w H locs → At12 G w b1 p1_marsh_reeds_states p1_marsh_reeds_count p1_marsh_reeds_broken p1_marsh_fleet_numbers p1_marsh_fleet_cells p1_marsh_fleet_fares p1_marsh_fleet_count p1_marsh_fleet_nextNumber p1_marsh_fleet_total p1_marsh_fleet_removedFares p1_marsh_fleet_meetings p1_marsh_plans_moves p1_marsh_plans_lengths p1_marsh_landings_cells p1_marsh_landings_count p1_marsh_fogSide p1_snapshot_reeds_states p1_snapshot_reeds_count p1_snapshot_reeds_broken p1_snapshot_fleet_numbers p1_snapshot_fleet_cells p1_snapshot_fleet_fares p1_snapshot_fleet_count p1_snapshot_fleet_nextNumber p1_snapshot_fleet_total p1_snapshot_fleet_removedFares p1_snapshot_fleet_meetings p1_snapshot_plans_moves p1_snapshot_plans_lengths p1_snapshot_landings_cells p1_snapshot_landings_count p1_snapshot_fogSide p1_history_slots p1_history_free p1_history_count p1_ways_tolls p1_ways_queue p1_ways_heap p1_ways_heapSize p1_ways_found p1_ways_improved p1_pairing_costs p1_pairing_best p1_reader_kinds p1_reader_starts p1_reader_count p1_commandText_signs p1_commandText_length p1_line_signs p1_line_length p1_spareMoves p1_snapshotTaken p1_lastErrorPosition p1_lastFailedCommand → At13 G w b2 X p2_changes p2_errorAt p2_failedAt p2_isSaved p2_v p2_before p2_saved p2_past p2_far p2_scratch p2_best p2_thenX p2_thenY p2_thenMet p2_text p2_line p2_isLeft p2_words p2_wordAt p2_textN p2_hereP p2_endP p2_lineN p2_isWrong p2_isDoing → (a3, (.inl (G.2 3, 1, .inr (.inl p3)) : va_E)) ∈ w → (a4, (.inl (G.2 4, 1, .inr (.inr (.inr (.inl p4)))) : va_E)) ∈ w → ∀ ls, lv_has ls 10 [(0, .ref b), (1, .ref b1), (2, .ref b2), (3, .ref a3), (4, .ref a4), (5, .int x5)] → W p l e room_1 s m args below meth c H locs (cells + 1000) (slots + 10000) Q (F0 m 3345 ls [])) (ls : Array Slot) (hl : lv_has ls 10 [(0, .ref b), (1, .ref b1), (2, .ref b2), (3, .ref a3), (4, .ref a4), (5, .int x5)]) : W p l e room_1 s m args below meth c H locs cells slots Q (F0 m 650 ls []) := by
  have hx := hC.1.1
  have hb := hC.1.2.1
  rw [g_law5] at hf
  refine lv_aload_n hx hb dL_law_650 rfl (lv_at hl 1 rfl) ?_
  obtain ⟨q651, hq651, hf⟩ := mm_bd hf
  refine mm_Vi (rest := []) hC hM (c_X12_reedCount l hq651 hp_p1) q2_56 q1_1 ykX12_reedCount q2_53 q2_54 q2_55 hp_p1.1 rfl ⟨rfl, rfl⟩ ⟨Nat.le_of_ble_eq_true rfl, Nat.le_of_ble_eq_true rfl⟩ rfl hl.1 rfl (Nat.le_of_ble_eq_true rfl) dL_law_651 ⟨by omega, by omega⟩ (fun r w651 H locs hM hw => ?_)
  obtain ⟨hr, hw⟩ := hw
  rw [hr]
  rw [hw] at hM
  refine lv_aload_n hx hb dL_law_654 rfl (lv_at hl 2 rfl) ?_
  obtain ⟨q655, hq655, hf⟩ := mm_bd hf
  refine mm_Vi (rest := [.int q651]) hC hM (c_X13_reedCount l hq655 hp_p2) q7_173 q1_12 ykX13_reedCount q7_170 q7_171 q7_172 hp_p2.1 rfl ⟨rfl, rfl⟩ ⟨Nat.le_of_ble_eq_true rfl, Nat.le_of_ble_eq_true rfl⟩ rfl hl.1 rfl (Nat.le_of_ble_eq_true rfl) dL_law_655 ⟨by omega, by omega⟩ (fun r w655 H locs hM hw => ?_)
  obtain ⟨hr, hn_this, hfr⟩ := hw
  rw [hr]
  have hp_p1 := hp_p1.keep hfr (by omega)
  have hp_p3 := hfr.keep hp_p3 (by omega)
  have hp_p4 := hfr.keep hp_p4 (by omega)
  have hp_p2 := hn_this
  refine lv_icmp_eq (tgt := 3345) hx hb dL_law_658 (by decide) (fun hcd => ?_) (fun hcd => ?_)
  · rw [if_pos hcd] at hf
    cases hf
    exact W.widen (by omega) (by omega) (hk _ _ _ hM hp_p1 hp_p2 hp_p3 hp_p4 _ (lv_sub hl [0, 1, 2, 3, 4, 5] rfl))
  · rw [if_neg hcd] at hf
    refine lv_iconst (v := 0) hx hb dL_law_661 (by decide) ?_
    cases hf
def g_law6 (K : Nat) (p1_marsh_reeds_broken : Int32) (p2_v : Nat → Int32) : Option (Int32) := (f_X12_brokenCount p1_marsh_reeds_broken).bind fun q664 => (f_X13_brokenCount K p2_v).bind fun q668 => if q664 = q668.1 then some q668.2 else none
set_option maxHeartbeats 4000000 in
set_option maxRecDepth 100000 in
theorem g_law6_c (hC : mm_C G A p s m c code 10 args "MirrorFerryLaw") (hsX : va_X b L xs s s.heap) (hbl : b < s.heap.size) (hbA : ¬ A b) (hd1 : b1 + 152 ≤ b2) (hd2 : b2 + 13 ≤ a3) (hd3 : a3 + 1 ≤ a4) (hrc : cells + 1000 ≤ room_1.cells) (hrs : slots + 10000 ≤ room_1.slots) (hfl : l.stackTraces = false) {K : Nat} {p1_marsh_reeds_states : Nat → Int32} {p1_marsh_reeds_count : Int32} {p1_marsh_reeds_broken : Int32} {p1_marsh_fleet_numbers : Nat → Int32} {p1_marsh_fleet_cells : Nat → Int32} {p1_marsh_fleet_fares : Nat → Int32} {p1_marsh_fleet_count : Int32} {p1_marsh_fleet_nextNumber : Int32} {p1_marsh_fleet_total : Int32} {p1_marsh_fleet_removedFares : Int32} {p1_marsh_fleet_meetings : Int32} {p1_marsh_plans_moves : Nat → Int32} {p1_marsh_plans_lengths : Nat → Int32} {p1_marsh_landings_cells : Nat → Int32} {p1_marsh_landings_count : Int32} {p1_marsh_fogSide : Int32} {p1_snapshot_reeds_states : Nat → Int32} {p1_snapshot_reeds_count : Int32} {p1_snapshot_reeds_broken : Int32} {p1_snapshot_fleet_numbers : Nat → Int32} {p1_snapshot_fleet_cells : Nat → Int32} {p1_snapshot_fleet_fares : Nat → Int32} {p1_snapshot_fleet_count : Int32} {p1_snapshot_fleet_nextNumber : Int32} {p1_snapshot_fleet_total : Int32} {p1_snapshot_fleet_removedFares : Int32} {p1_snapshot_fleet_meetings : Int32} {p1_snapshot_plans_moves : Nat → Int32} {p1_snapshot_plans_lengths : Nat → Int32} {p1_snapshot_landings_cells : Nat → Int32} {p1_snapshot_landings_count : Int32} {p1_snapshot_fogSide : Int32} {p1_history_slots : Nat → mm_MV} {p1_history_free : Int32} {p1_history_count : Int32} {p1_ways_tolls : Nat → Int32} {p1_ways_queue : Nat → Int32} {p1_ways_heap : Nat → Int32} {p1_ways_heapSize : Int32} {p1_ways_found : Nat → Int32} {p1_ways_improved : Nat → Int32} {p1_pairing_costs : Nat → Int32} {p1_pairing_best : Nat → Int32} {p1_reader_kinds : Nat → Int32} {p1_reader_starts : Nat → Int32} {p1_reader_count : Int32} {p1_commandText_signs : Nat → Int32} {p1_commandText_length : Int32} {p1_line_signs : Nat → Int32} {p1_line_length : Int32} {p1_spareMoves : Nat → Int32} {p1_snapshotTaken : Int32} {p1_lastErrorPosition : Int32} {p1_lastFailedCommand : Int32} {p2_thrown : Int32} {p2_changes : Int32} {p2_errorAt : Int32} {p2_failedAt : Int32} {p2_isSaved : Int32} {p2_v : Nat → Int32} {p2_before : Nat → Int32} {p2_saved : Nat → Int32} {p2_past : Nat → Int32} {p2_far : Nat → Int32} {p2_scratch : Nat → Int32} {p2_best : Nat → Int32} {p2_thenX : Int32} {p2_thenY : Int32} {p2_thenMet : Int32} {p2_text : Nat → Int32} {p2_line : Nat → Int32} {p2_isLeft : Nat → Int32} {p2_words : Nat → Int32} {p2_wordAt : Nat → Int32} {p2_textN : Int32} {p2_hereP : Int32} {p2_endP : Int32} {p2_lineN : Int32} {p2_isWrong : Int32} {p2_isDoing : Int32} {p3 : Nat → Int64} {p4 : Nat → UInt64} {x0 x1 x2 x3 x4 x5 : Int32} {X : Int32} (hf : g_law6 K p1_marsh_reeds_broken p2_v = some X) (hp_p1 : At12 G w b1 p1_marsh_reeds_states p1_marsh_reeds_count p1_marsh_reeds_broken p1_marsh_fleet_numbers p1_marsh_fleet_cells p1_marsh_fleet_fares p1_marsh_fleet_count p1_marsh_fleet_nextNumber p1_marsh_fleet_total p1_marsh_fleet_removedFares p1_marsh_fleet_meetings p1_marsh_plans_moves p1_marsh_plans_lengths p1_marsh_landings_cells p1_marsh_landings_count p1_marsh_fogSide p1_snapshot_reeds_states p1_snapshot_reeds_count p1_snapshot_reeds_broken p1_snapshot_fleet_numbers p1_snapshot_fleet_cells p1_snapshot_fleet_fares p1_snapshot_fleet_count p1_snapshot_fleet_nextNumber p1_snapshot_fleet_total p1_snapshot_fleet_removedFares p1_snapshot_fleet_meetings p1_snapshot_plans_moves p1_snapshot_plans_lengths p1_snapshot_landings_cells p1_snapshot_landings_count p1_snapshot_fogSide p1_history_slots p1_history_free p1_history_count p1_ways_tolls p1_ways_queue p1_ways_heap p1_ways_heapSize p1_ways_found p1_ways_improved p1_pairing_costs p1_pairing_best p1_reader_kinds p1_reader_starts p1_reader_count p1_commandText_signs p1_commandText_length p1_line_signs p1_line_length p1_spareMoves p1_snapshotTaken p1_lastErrorPosition p1_lastFailedCommand) (hp_p2 : At13 G w b2 p2_thrown p2_changes p2_errorAt p2_failedAt p2_isSaved p2_v p2_before p2_saved p2_past p2_far p2_scratch p2_best p2_thenX p2_thenY p2_thenMet p2_text p2_line p2_isLeft p2_words p2_wordAt p2_textN p2_hereP p2_endP p2_lineN p2_isWrong p2_isDoing) (hp_p3 : (a3, (.inl (G.2 3, 1, .inr (.inl p3)) : va_E)) ∈ w) (hp_p4 : (a4, (.inl (G.2 4, 1, .inr (.inr (.inr (.inl p4)))) : va_E)) ∈ w)
    (hsc : ∀ k : Nat, k < 5 → vp_in (x5 + Int32.ofNat k) L ∧ xs (x5 + Int32.ofNat k).toNatClampNeg = mm_x5 x0 x1 x2 x3 x4 k) (hM : mm_S G A s.heap w H locs)
    (hk : ∀ (w : va_W) (H : Heap) (locs : List Loc), mm_S G A s.heap w H locs → At12 G w b1 p1_marsh_reeds_states p1_marsh_reeds_count p1_marsh_reeds_broken p1_marsh_fleet_numbers p1_marsh_fleet_cells p1_marsh_fleet_fares p1_marsh_fleet_count p1_marsh_fleet_nextNumber p1_marsh_fleet_total p1_marsh_fleet_removedFares p1_marsh_fleet_meetings p1_marsh_plans_moves p1_marsh_plans_lengths p1_marsh_landings_cells p1_marsh_landings_count p1_marsh_fogSide p1_snapshot_reeds_states p1_snapshot_reeds_count p1_snapshot_reeds_broken p1_snapshot_fleet_numbers p1_snapshot_fleet_cells p1_snapshot_fleet_fares p1_snapshot_fleet_count p1_snapshot_fleet_nextNumber p1_snapshot_fleet_total p1_snapshot_fleet_removedFares p1_snapshot_fleet_meetings p1_snapshot_plans_moves p1_snapshot_plans_lengths p1_snapshot_landings_cells p1_snapshot_landings_count p1_snapshot_fogSide p1_history_slots p1_history_free p1_history_count p1_ways_tolls p1_ways_queue p1_ways_heap p1_ways_heapSize p1_ways_found p1_ways_improved p1_pairing_costs p1_pairing_best p1_reader_kinds p1_reader_starts p1_reader_count p1_commandText_signs p1_commandText_length p1_line_signs p1_line_length p1_spareMoves p1_snapshotTaken p1_lastErrorPosition p1_lastFailedCommand → At13 G w b2 X p2_changes p2_errorAt p2_failedAt p2_isSaved p2_v p2_before p2_saved p2_past p2_far p2_scratch p2_best p2_thenX p2_thenY p2_thenMet p2_text p2_line p2_isLeft p2_words p2_wordAt p2_textN p2_hereP p2_endP p2_lineN p2_isWrong p2_isDoing → (a3, (.inl (G.2 3, 1, .inr (.inl p3)) : va_E)) ∈ w → (a4, (.inl (G.2 4, 1, .inr (.inr (.inr (.inl p4)))) : va_E)) ∈ w → ∀ ls, lv_has ls 10 [(0, .ref b), (1, .ref b1), (2, .ref b2), (3, .ref a3), (4, .ref a4), (5, .int x5)] → W p l e room_1 s m args below meth c H locs (cells + 1000) (slots + 10000) Q (F0 m 3345 ls [])) (ls : Array Slot) (hl : lv_has ls 10 [(0, .ref b), (1, .ref b1), (2, .ref b2), (3, .ref a3), (4, .ref a4), (5, .int x5)]) : W p l e room_1 s m args below meth c H locs cells slots Q (F0 m 663 ls []) := by
  have hx := hC.1.1
  have hb := hC.1.2.1
  rw [g_law6] at hf
  refine lv_aload_n hx hb dL_law_663 rfl (lv_at hl 1 rfl) ?_
  obtain ⟨q664, hq664, hf⟩ := mm_bd hf
  refine mm_Vi (rest := []) hC hM (c_X12_brokenCount l hq664 hp_p1) q2_60 q1_1 ykX12_brokenCount q2_57 q2_58 q2_59 hp_p1.1 rfl ⟨rfl, rfl⟩ ⟨Nat.le_of_ble_eq_true rfl, Nat.le_of_ble_eq_true rfl⟩ rfl hl.1 rfl (Nat.le_of_ble_eq_true rfl) dL_law_664 ⟨by omega, by omega⟩ (fun r w664 H locs hM hw => ?_)
  obtain ⟨hr, hw⟩ := hw
  rw [hr]
  rw [hw] at hM
  refine lv_aload_n hx hb dL_law_667 rfl (lv_at hl 2 rfl) ?_
  obtain ⟨q668, hq668, hf⟩ := mm_bd hf
  refine mm_Vi (rest := [.int q664]) hC hM (c_X13_brokenCount l hq668 hp_p2) q7_181 q1_12 ykX13_brokenCount q7_178 q7_179 q7_180 hp_p2.1 rfl ⟨rfl, rfl⟩ ⟨Nat.le_of_ble_eq_true rfl, Nat.le_of_ble_eq_true rfl⟩ rfl hl.1 rfl (Nat.le_of_ble_eq_true rfl) dL_law_668 ⟨by omega, by omega⟩ (fun r w668 H locs hM hw => ?_)
  obtain ⟨hr, hn_this, hfr⟩ := hw
  rw [hr]
  have hp_p1 := hp_p1.keep hfr (by omega)
  have hp_p3 := hfr.keep hp_p3 (by omega)
  have hp_p4 := hfr.keep hp_p4 (by omega)
  have hp_p2 := hn_this
  refine lv_icmp_eq (tgt := 3345) hx hb dL_law_671 (by decide) (fun hcd => ?_) (fun hcd => ?_)
  · rw [if_pos hcd] at hf
    cases hf
    exact W.widen (by omega) (by omega) (hk _ _ _ hM hp_p1 hp_p2 hp_p3 hp_p4 _ (lv_sub hl [0, 1, 2, 3, 4, 5] rfl))
  · rw [if_neg hcd] at hf
    refine lv_iconst (v := 0) hx hb dL_law_674 (by decide) ?_
    cases hf
def g_law7 (K : Nat) (p1_marsh_reeds_states : Nat → Int32) (p2_v : Nat → Int32) : Option (Int32) := (f_X12_oddReeds K p1_marsh_reeds_states).bind fun q677 => (f_X13_oddReeds K p2_v).bind fun q681 => if q677 = q681.1 then some q681.2 else none
set_option maxHeartbeats 4000000 in
set_option maxRecDepth 100000 in
theorem g_law7_c (hC : mm_C G A p s m c code 10 args "MirrorFerryLaw") (hsX : va_X b L xs s s.heap) (hbl : b < s.heap.size) (hbA : ¬ A b) (hd1 : b1 + 152 ≤ b2) (hd2 : b2 + 13 ≤ a3) (hd3 : a3 + 1 ≤ a4) (hrc : cells + 1000 ≤ room_1.cells) (hrs : slots + 10000 ≤ room_1.slots) (hfl : l.stackTraces = false) {K : Nat} {p1_marsh_reeds_states : Nat → Int32} {p1_marsh_reeds_count : Int32} {p1_marsh_reeds_broken : Int32} {p1_marsh_fleet_numbers : Nat → Int32} {p1_marsh_fleet_cells : Nat → Int32} {p1_marsh_fleet_fares : Nat → Int32} {p1_marsh_fleet_count : Int32} {p1_marsh_fleet_nextNumber : Int32} {p1_marsh_fleet_total : Int32} {p1_marsh_fleet_removedFares : Int32} {p1_marsh_fleet_meetings : Int32} {p1_marsh_plans_moves : Nat → Int32} {p1_marsh_plans_lengths : Nat → Int32} {p1_marsh_landings_cells : Nat → Int32} {p1_marsh_landings_count : Int32} {p1_marsh_fogSide : Int32} {p1_snapshot_reeds_states : Nat → Int32} {p1_snapshot_reeds_count : Int32} {p1_snapshot_reeds_broken : Int32} {p1_snapshot_fleet_numbers : Nat → Int32} {p1_snapshot_fleet_cells : Nat → Int32} {p1_snapshot_fleet_fares : Nat → Int32} {p1_snapshot_fleet_count : Int32} {p1_snapshot_fleet_nextNumber : Int32} {p1_snapshot_fleet_total : Int32} {p1_snapshot_fleet_removedFares : Int32} {p1_snapshot_fleet_meetings : Int32} {p1_snapshot_plans_moves : Nat → Int32} {p1_snapshot_plans_lengths : Nat → Int32} {p1_snapshot_landings_cells : Nat → Int32} {p1_snapshot_landings_count : Int32} {p1_snapshot_fogSide : Int32} {p1_history_slots : Nat → mm_MV} {p1_history_free : Int32} {p1_history_count : Int32} {p1_ways_tolls : Nat → Int32} {p1_ways_queue : Nat → Int32} {p1_ways_heap : Nat → Int32} {p1_ways_heapSize : Int32} {p1_ways_found : Nat → Int32} {p1_ways_improved : Nat → Int32} {p1_pairing_costs : Nat → Int32} {p1_pairing_best : Nat → Int32} {p1_reader_kinds : Nat → Int32} {p1_reader_starts : Nat → Int32} {p1_reader_count : Int32} {p1_commandText_signs : Nat → Int32} {p1_commandText_length : Int32} {p1_line_signs : Nat → Int32} {p1_line_length : Int32} {p1_spareMoves : Nat → Int32} {p1_snapshotTaken : Int32} {p1_lastErrorPosition : Int32} {p1_lastFailedCommand : Int32} {p2_thrown : Int32} {p2_changes : Int32} {p2_errorAt : Int32} {p2_failedAt : Int32} {p2_isSaved : Int32} {p2_v : Nat → Int32} {p2_before : Nat → Int32} {p2_saved : Nat → Int32} {p2_past : Nat → Int32} {p2_far : Nat → Int32} {p2_scratch : Nat → Int32} {p2_best : Nat → Int32} {p2_thenX : Int32} {p2_thenY : Int32} {p2_thenMet : Int32} {p2_text : Nat → Int32} {p2_line : Nat → Int32} {p2_isLeft : Nat → Int32} {p2_words : Nat → Int32} {p2_wordAt : Nat → Int32} {p2_textN : Int32} {p2_hereP : Int32} {p2_endP : Int32} {p2_lineN : Int32} {p2_isWrong : Int32} {p2_isDoing : Int32} {p3 : Nat → Int64} {p4 : Nat → UInt64} {x0 x1 x2 x3 x4 x5 : Int32} {X : Int32} (hf : g_law7 K p1_marsh_reeds_states p2_v = some X) (hp_p1 : At12 G w b1 p1_marsh_reeds_states p1_marsh_reeds_count p1_marsh_reeds_broken p1_marsh_fleet_numbers p1_marsh_fleet_cells p1_marsh_fleet_fares p1_marsh_fleet_count p1_marsh_fleet_nextNumber p1_marsh_fleet_total p1_marsh_fleet_removedFares p1_marsh_fleet_meetings p1_marsh_plans_moves p1_marsh_plans_lengths p1_marsh_landings_cells p1_marsh_landings_count p1_marsh_fogSide p1_snapshot_reeds_states p1_snapshot_reeds_count p1_snapshot_reeds_broken p1_snapshot_fleet_numbers p1_snapshot_fleet_cells p1_snapshot_fleet_fares p1_snapshot_fleet_count p1_snapshot_fleet_nextNumber p1_snapshot_fleet_total p1_snapshot_fleet_removedFares p1_snapshot_fleet_meetings p1_snapshot_plans_moves p1_snapshot_plans_lengths p1_snapshot_landings_cells p1_snapshot_landings_count p1_snapshot_fogSide p1_history_slots p1_history_free p1_history_count p1_ways_tolls p1_ways_queue p1_ways_heap p1_ways_heapSize p1_ways_found p1_ways_improved p1_pairing_costs p1_pairing_best p1_reader_kinds p1_reader_starts p1_reader_count p1_commandText_signs p1_commandText_length p1_line_signs p1_line_length p1_spareMoves p1_snapshotTaken p1_lastErrorPosition p1_lastFailedCommand) (hp_p2 : At13 G w b2 p2_thrown p2_changes p2_errorAt p2_failedAt p2_isSaved p2_v p2_before p2_saved p2_past p2_far p2_scratch p2_best p2_thenX p2_thenY p2_thenMet p2_text p2_line p2_isLeft p2_words p2_wordAt p2_textN p2_hereP p2_endP p2_lineN p2_isWrong p2_isDoing) (hp_p3 : (a3, (.inl (G.2 3, 1, .inr (.inl p3)) : va_E)) ∈ w) (hp_p4 : (a4, (.inl (G.2 4, 1, .inr (.inr (.inr (.inl p4)))) : va_E)) ∈ w)
    (hsc : ∀ k : Nat, k < 5 → vp_in (x5 + Int32.ofNat k) L ∧ xs (x5 + Int32.ofNat k).toNatClampNeg = mm_x5 x0 x1 x2 x3 x4 k) (hM : mm_S G A s.heap w H locs)
    (hk : ∀ (w : va_W) (H : Heap) (locs : List Loc), mm_S G A s.heap w H locs → At12 G w b1 p1_marsh_reeds_states p1_marsh_reeds_count p1_marsh_reeds_broken p1_marsh_fleet_numbers p1_marsh_fleet_cells p1_marsh_fleet_fares p1_marsh_fleet_count p1_marsh_fleet_nextNumber p1_marsh_fleet_total p1_marsh_fleet_removedFares p1_marsh_fleet_meetings p1_marsh_plans_moves p1_marsh_plans_lengths p1_marsh_landings_cells p1_marsh_landings_count p1_marsh_fogSide p1_snapshot_reeds_states p1_snapshot_reeds_count p1_snapshot_reeds_broken p1_snapshot_fleet_numbers p1_snapshot_fleet_cells p1_snapshot_fleet_fares p1_snapshot_fleet_count p1_snapshot_fleet_nextNumber p1_snapshot_fleet_total p1_snapshot_fleet_removedFares p1_snapshot_fleet_meetings p1_snapshot_plans_moves p1_snapshot_plans_lengths p1_snapshot_landings_cells p1_snapshot_landings_count p1_snapshot_fogSide p1_history_slots p1_history_free p1_history_count p1_ways_tolls p1_ways_queue p1_ways_heap p1_ways_heapSize p1_ways_found p1_ways_improved p1_pairing_costs p1_pairing_best p1_reader_kinds p1_reader_starts p1_reader_count p1_commandText_signs p1_commandText_length p1_line_signs p1_line_length p1_spareMoves p1_snapshotTaken p1_lastErrorPosition p1_lastFailedCommand → At13 G w b2 X p2_changes p2_errorAt p2_failedAt p2_isSaved p2_v p2_before p2_saved p2_past p2_far p2_scratch p2_best p2_thenX p2_thenY p2_thenMet p2_text p2_line p2_isLeft p2_words p2_wordAt p2_textN p2_hereP p2_endP p2_lineN p2_isWrong p2_isDoing → (a3, (.inl (G.2 3, 1, .inr (.inl p3)) : va_E)) ∈ w → (a4, (.inl (G.2 4, 1, .inr (.inr (.inr (.inl p4)))) : va_E)) ∈ w → ∀ ls, lv_has ls 10 [(0, .ref b), (1, .ref b1), (2, .ref b2), (3, .ref a3), (4, .ref a4), (5, .int x5)] → W p l e room_1 s m args below meth c H locs (cells + 1000) (slots + 10000) Q (F0 m 3345 ls [])) (ls : Array Slot) (hl : lv_has ls 10 [(0, .ref b), (1, .ref b1), (2, .ref b2), (3, .ref a3), (4, .ref a4), (5, .int x5)]) : W p l e room_1 s m args below meth c H locs cells slots Q (F0 m 676 ls []) := by
  have hx := hC.1.1
  have hb := hC.1.2.1
  rw [g_law7] at hf
  refine lv_aload_n hx hb dL_law_676 rfl (lv_at hl 1 rfl) ?_
  obtain ⟨q677, hq677, hf⟩ := mm_bd hf
  refine mm_Vi (rest := []) hC hM (c_X12_oddReeds l hq677 hp_p1) q2_64 q1_1 ykX12_oddReeds q2_61 q2_62 q2_63 hp_p1.1 rfl ⟨rfl, rfl⟩ ⟨Nat.le_of_ble_eq_true rfl, Nat.le_of_ble_eq_true rfl⟩ rfl hl.1 rfl (Nat.le_of_ble_eq_true rfl) dL_law_677 ⟨by omega, by omega⟩ (fun r w677 H locs hM hw => ?_)
  obtain ⟨hr, hw⟩ := hw
  rw [hr]
  rw [hw] at hM
  refine lv_aload_n hx hb dL_law_680 rfl (lv_at hl 2 rfl) ?_
  obtain ⟨q681, hq681, hf⟩ := mm_bd hf
  refine mm_Vi (rest := [.int q677]) hC hM (c_X13_oddReeds l hq681 hp_p2) q7_185 q1_12 ykX13_oddReeds q7_182 q7_183 q7_184 hp_p2.1 rfl ⟨rfl, rfl⟩ ⟨Nat.le_of_ble_eq_true rfl, Nat.le_of_ble_eq_true rfl⟩ rfl hl.1 rfl (Nat.le_of_ble_eq_true rfl) dL_law_681 ⟨by omega, by omega⟩ (fun r w681 H locs hM hw => ?_)
  obtain ⟨hr, hn_this, hfr⟩ := hw
  rw [hr]
  have hp_p1 := hp_p1.keep hfr (by omega)
  have hp_p3 := hfr.keep hp_p3 (by omega)
  have hp_p4 := hfr.keep hp_p4 (by omega)
  have hp_p2 := hn_this
  refine lv_icmp_eq (tgt := 3345) hx hb dL_law_684 (by decide) (fun hcd => ?_) (fun hcd => ?_)
  · rw [if_pos hcd] at hf
    cases hf
    exact W.widen (by omega) (by omega) (hk _ _ _ hM hp_p1 hp_p2 hp_p3 hp_p4 _ (lv_sub hl [0, 1, 2, 3, 4, 5] rfl))
  · rw [if_neg hcd] at hf
    refine lv_iconst (v := 0) hx hb dL_law_687 (by decide) ?_
    cases hf
def g_law8 (K : Nat) (p1_marsh_reeds_states : Nat → Int32) (p2_v : Nat → Int32) : Option (Int32) := (f_X12_oddReedsByRows K p1_marsh_reeds_states).bind fun q690 => (f_X13_oddReedsByRows K p2_v).bind fun q694 => if q690 = q694.1 then some q694.2 else none
set_option maxHeartbeats 4000000 in
set_option maxRecDepth 100000 in
theorem g_law8_c (hC : mm_C G A p s m c code 10 args "MirrorFerryLaw") (hsX : va_X b L xs s s.heap) (hbl : b < s.heap.size) (hbA : ¬ A b) (hd1 : b1 + 152 ≤ b2) (hd2 : b2 + 13 ≤ a3) (hd3 : a3 + 1 ≤ a4) (hrc : cells + 1000 ≤ room_1.cells) (hrs : slots + 10000 ≤ room_1.slots) (hfl : l.stackTraces = false) {K : Nat} {p1_marsh_reeds_states : Nat → Int32} {p1_marsh_reeds_count : Int32} {p1_marsh_reeds_broken : Int32} {p1_marsh_fleet_numbers : Nat → Int32} {p1_marsh_fleet_cells : Nat → Int32} {p1_marsh_fleet_fares : Nat → Int32} {p1_marsh_fleet_count : Int32} {p1_marsh_fleet_nextNumber : Int32} {p1_marsh_fleet_total : Int32} {p1_marsh_fleet_removedFares : Int32} {p1_marsh_fleet_meetings : Int32} {p1_marsh_plans_moves : Nat → Int32} {p1_marsh_plans_lengths : Nat → Int32} {p1_marsh_landings_cells : Nat → Int32} {p1_marsh_landings_count : Int32} {p1_marsh_fogSide : Int32} {p1_snapshot_reeds_states : Nat → Int32} {p1_snapshot_reeds_count : Int32} {p1_snapshot_reeds_broken : Int32} {p1_snapshot_fleet_numbers : Nat → Int32} {p1_snapshot_fleet_cells : Nat → Int32} {p1_snapshot_fleet_fares : Nat → Int32} {p1_snapshot_fleet_count : Int32} {p1_snapshot_fleet_nextNumber : Int32} {p1_snapshot_fleet_total : Int32} {p1_snapshot_fleet_removedFares : Int32} {p1_snapshot_fleet_meetings : Int32} {p1_snapshot_plans_moves : Nat → Int32} {p1_snapshot_plans_lengths : Nat → Int32} {p1_snapshot_landings_cells : Nat → Int32} {p1_snapshot_landings_count : Int32} {p1_snapshot_fogSide : Int32} {p1_history_slots : Nat → mm_MV} {p1_history_free : Int32} {p1_history_count : Int32} {p1_ways_tolls : Nat → Int32} {p1_ways_queue : Nat → Int32} {p1_ways_heap : Nat → Int32} {p1_ways_heapSize : Int32} {p1_ways_found : Nat → Int32} {p1_ways_improved : Nat → Int32} {p1_pairing_costs : Nat → Int32} {p1_pairing_best : Nat → Int32} {p1_reader_kinds : Nat → Int32} {p1_reader_starts : Nat → Int32} {p1_reader_count : Int32} {p1_commandText_signs : Nat → Int32} {p1_commandText_length : Int32} {p1_line_signs : Nat → Int32} {p1_line_length : Int32} {p1_spareMoves : Nat → Int32} {p1_snapshotTaken : Int32} {p1_lastErrorPosition : Int32} {p1_lastFailedCommand : Int32} {p2_thrown : Int32} {p2_changes : Int32} {p2_errorAt : Int32} {p2_failedAt : Int32} {p2_isSaved : Int32} {p2_v : Nat → Int32} {p2_before : Nat → Int32} {p2_saved : Nat → Int32} {p2_past : Nat → Int32} {p2_far : Nat → Int32} {p2_scratch : Nat → Int32} {p2_best : Nat → Int32} {p2_thenX : Int32} {p2_thenY : Int32} {p2_thenMet : Int32} {p2_text : Nat → Int32} {p2_line : Nat → Int32} {p2_isLeft : Nat → Int32} {p2_words : Nat → Int32} {p2_wordAt : Nat → Int32} {p2_textN : Int32} {p2_hereP : Int32} {p2_endP : Int32} {p2_lineN : Int32} {p2_isWrong : Int32} {p2_isDoing : Int32} {p3 : Nat → Int64} {p4 : Nat → UInt64} {x0 x1 x2 x3 x4 x5 : Int32} {X : Int32} (hf : g_law8 K p1_marsh_reeds_states p2_v = some X) (hp_p1 : At12 G w b1 p1_marsh_reeds_states p1_marsh_reeds_count p1_marsh_reeds_broken p1_marsh_fleet_numbers p1_marsh_fleet_cells p1_marsh_fleet_fares p1_marsh_fleet_count p1_marsh_fleet_nextNumber p1_marsh_fleet_total p1_marsh_fleet_removedFares p1_marsh_fleet_meetings p1_marsh_plans_moves p1_marsh_plans_lengths p1_marsh_landings_cells p1_marsh_landings_count p1_marsh_fogSide p1_snapshot_reeds_states p1_snapshot_reeds_count p1_snapshot_reeds_broken p1_snapshot_fleet_numbers p1_snapshot_fleet_cells p1_snapshot_fleet_fares p1_snapshot_fleet_count p1_snapshot_fleet_nextNumber p1_snapshot_fleet_total p1_snapshot_fleet_removedFares p1_snapshot_fleet_meetings p1_snapshot_plans_moves p1_snapshot_plans_lengths p1_snapshot_landings_cells p1_snapshot_landings_count p1_snapshot_fogSide p1_history_slots p1_history_free p1_history_count p1_ways_tolls p1_ways_queue p1_ways_heap p1_ways_heapSize p1_ways_found p1_ways_improved p1_pairing_costs p1_pairing_best p1_reader_kinds p1_reader_starts p1_reader_count p1_commandText_signs p1_commandText_length p1_line_signs p1_line_length p1_spareMoves p1_snapshotTaken p1_lastErrorPosition p1_lastFailedCommand) (hp_p2 : At13 G w b2 p2_thrown p2_changes p2_errorAt p2_failedAt p2_isSaved p2_v p2_before p2_saved p2_past p2_far p2_scratch p2_best p2_thenX p2_thenY p2_thenMet p2_text p2_line p2_isLeft p2_words p2_wordAt p2_textN p2_hereP p2_endP p2_lineN p2_isWrong p2_isDoing) (hp_p3 : (a3, (.inl (G.2 3, 1, .inr (.inl p3)) : va_E)) ∈ w) (hp_p4 : (a4, (.inl (G.2 4, 1, .inr (.inr (.inr (.inl p4)))) : va_E)) ∈ w)
    (hsc : ∀ k : Nat, k < 5 → vp_in (x5 + Int32.ofNat k) L ∧ xs (x5 + Int32.ofNat k).toNatClampNeg = mm_x5 x0 x1 x2 x3 x4 k) (hM : mm_S G A s.heap w H locs)
    (hk : ∀ (w : va_W) (H : Heap) (locs : List Loc), mm_S G A s.heap w H locs → At12 G w b1 p1_marsh_reeds_states p1_marsh_reeds_count p1_marsh_reeds_broken p1_marsh_fleet_numbers p1_marsh_fleet_cells p1_marsh_fleet_fares p1_marsh_fleet_count p1_marsh_fleet_nextNumber p1_marsh_fleet_total p1_marsh_fleet_removedFares p1_marsh_fleet_meetings p1_marsh_plans_moves p1_marsh_plans_lengths p1_marsh_landings_cells p1_marsh_landings_count p1_marsh_fogSide p1_snapshot_reeds_states p1_snapshot_reeds_count p1_snapshot_reeds_broken p1_snapshot_fleet_numbers p1_snapshot_fleet_cells p1_snapshot_fleet_fares p1_snapshot_fleet_count p1_snapshot_fleet_nextNumber p1_snapshot_fleet_total p1_snapshot_fleet_removedFares p1_snapshot_fleet_meetings p1_snapshot_plans_moves p1_snapshot_plans_lengths p1_snapshot_landings_cells p1_snapshot_landings_count p1_snapshot_fogSide p1_history_slots p1_history_free p1_history_count p1_ways_tolls p1_ways_queue p1_ways_heap p1_ways_heapSize p1_ways_found p1_ways_improved p1_pairing_costs p1_pairing_best p1_reader_kinds p1_reader_starts p1_reader_count p1_commandText_signs p1_commandText_length p1_line_signs p1_line_length p1_spareMoves p1_snapshotTaken p1_lastErrorPosition p1_lastFailedCommand → At13 G w b2 X p2_changes p2_errorAt p2_failedAt p2_isSaved p2_v p2_before p2_saved p2_past p2_far p2_scratch p2_best p2_thenX p2_thenY p2_thenMet p2_text p2_line p2_isLeft p2_words p2_wordAt p2_textN p2_hereP p2_endP p2_lineN p2_isWrong p2_isDoing → (a3, (.inl (G.2 3, 1, .inr (.inl p3)) : va_E)) ∈ w → (a4, (.inl (G.2 4, 1, .inr (.inr (.inr (.inl p4)))) : va_E)) ∈ w → ∀ ls, lv_has ls 10 [(0, .ref b), (1, .ref b1), (2, .ref b2), (3, .ref a3), (4, .ref a4), (5, .int x5)] → W p l e room_1 s m args below meth c H locs (cells + 1000) (slots + 10000) Q (F0 m 3345 ls [])) (ls : Array Slot) (hl : lv_has ls 10 [(0, .ref b), (1, .ref b1), (2, .ref b2), (3, .ref a3), (4, .ref a4), (5, .int x5)]) : W p l e room_1 s m args below meth c H locs cells slots Q (F0 m 689 ls []) := by
  have hx := hC.1.1
  have hb := hC.1.2.1
  rw [g_law8] at hf
  refine lv_aload_n hx hb dL_law_689 rfl (lv_at hl 1 rfl) ?_
  obtain ⟨q690, hq690, hf⟩ := mm_bd hf
  refine mm_Vi (rest := []) hC hM (c_X12_oddReedsByRows l hq690 hp_p1) q2_79 q1_1 ykX12_oddReedsByRows q2_76 q2_77 q2_78 hp_p1.1 rfl ⟨rfl, rfl⟩ ⟨Nat.le_of_ble_eq_true rfl, Nat.le_of_ble_eq_true rfl⟩ rfl hl.1 rfl (Nat.le_of_ble_eq_true rfl) dL_law_690 ⟨by omega, by omega⟩ (fun r w690 H locs hM hw => ?_)
  obtain ⟨hr, hw⟩ := hw
  rw [hr]
  rw [hw] at hM
  refine lv_aload_n hx hb dL_law_693 rfl (lv_at hl 2 rfl) ?_
  obtain ⟨q694, hq694, hf⟩ := mm_bd hf
  refine mm_Vi (rest := [.int q690]) hC hM (c_X13_oddReedsByRows l hq694 hp_p2) q7_189 q1_12 ykX13_oddReedsByRows q7_186 q7_187 q7_188 hp_p2.1 rfl ⟨rfl, rfl⟩ ⟨Nat.le_of_ble_eq_true rfl, Nat.le_of_ble_eq_true rfl⟩ rfl hl.1 rfl (Nat.le_of_ble_eq_true rfl) dL_law_694 ⟨by omega, by omega⟩ (fun r w694 H locs hM hw => ?_)
  obtain ⟨hr, hn_this, hfr⟩ := hw
  rw [hr]
  have hp_p1 := hp_p1.keep hfr (by omega)
  have hp_p3 := hfr.keep hp_p3 (by omega)
  have hp_p4 := hfr.keep hp_p4 (by omega)
  have hp_p2 := hn_this
  refine lv_icmp_eq (tgt := 3345) hx hb dL_law_697 (by decide) (fun hcd => ?_) (fun hcd => ?_)
  · rw [if_pos hcd] at hf
    cases hf
    exact W.widen (by omega) (by omega) (hk _ _ _ hM hp_p1 hp_p2 hp_p3 hp_p4 _ (lv_sub hl [0, 1, 2, 3, 4, 5] rfl))
  · rw [if_neg hcd] at hf
    refine lv_iconst (v := 0) hx hb dL_law_700 (by decide) ?_
    cases hf
def g_law9 (K : Nat) (p1_marsh_reeds_states : Nat → Int32) (p1_marsh_reeds_count : Int32) (p1_marsh_reeds_broken : Int32) (p1_marsh_fleet_numbers : Nat → Int32) (p1_marsh_fleet_cells : Nat → Int32) (p1_marsh_fleet_fares : Nat → Int32) (p1_marsh_fleet_count : Int32) (p1_marsh_fleet_nextNumber : Int32) (p1_marsh_fleet_total : Int32) (p1_marsh_fleet_removedFares : Int32) (p1_marsh_fleet_meetings : Int32) (p1_marsh_plans_moves : Nat → Int32) (p1_marsh_plans_lengths : Nat → Int32) (p1_marsh_landings_cells : Nat → Int32) (p1_marsh_landings_count : Int32) (p1_marsh_fogSide : Int32) (p1_history_slots : Nat → mm_MV) (p1_history_free : Int32) (p1_history_count : Int32) (p2_changes : Int32) (p2_v : Nat → Int32) (p2_before : Nat → Int32) (p2_past : Nat → Int32) (p3 : Nat → Int64) (x1 : Int32) : Option (Int32 × (Nat → mm_MV) × Int32 × Int32 × Int32 × Int32 × (Nat → Int32) × (Nat → Int32) × (Nat → Int32) × (Nat → Int64)) := (f_L_setFog p1_marsh_reeds_states p1_marsh_reeds_count p1_marsh_reeds_broken p1_marsh_fleet_numbers p1_marsh_fleet_cells p1_marsh_fleet_fares p1_marsh_fleet_count p1_marsh_fleet_nextNumber p1_marsh_fleet_total p1_marsh_fleet_removedFares p1_marsh_fleet_meetings p1_marsh_plans_moves p1_marsh_plans_lengths p1_marsh_landings_cells p1_marsh_landings_count p1_marsh_fogSide p1_history_slots p1_history_free p1_history_count p3 x1).bind fun q710 => (f_X13_setFog K p2_changes p2_v p2_before p2_past x1).bind fun q722 => (f_X13_thrown q722.2.1).bind fun q728 => if q728 = q710.1 then if q710.1 = 0 then if (lg_cmp (q710.2.2.2.2.2 0) q722.1.toInt64) = 0 then some (q710.2.1, q710.2.2.1, q710.2.2.2.1, q710.2.2.2.2.1, q722.2.1, q722.2.2.1, q722.2.2.2.1, q722.2.2.2.2.1, q722.2.2.2.2.2, q710.2.2.2.2.2) else none else some (q710.2.1, q710.2.2.1, q710.2.2.2.1, q710.2.2.2.2.1, q722.2.1, q722.2.2.1, q722.2.2.2.1, q722.2.2.2.2.1, q722.2.2.2.2.2, q710.2.2.2.2.2) else none
set_option maxHeartbeats 4000000 in
set_option maxRecDepth 100000 in
theorem g_law9_c (hC : mm_C G A p s m c code 10 args "MirrorFerryLaw") (hsX : va_X b L xs s s.heap) (hbl : b < s.heap.size) (hbA : ¬ A b) (hd1 : b1 + 152 ≤ b2) (hd2 : b2 + 13 ≤ a3) (hd3 : a3 + 1 ≤ a4) (hrc : cells + 1000 ≤ room_1.cells) (hrs : slots + 10000 ≤ room_1.slots) (hfl : l.stackTraces = false) {K : Nat} {p1_marsh_reeds_states : Nat → Int32} {p1_marsh_reeds_count : Int32} {p1_marsh_reeds_broken : Int32} {p1_marsh_fleet_numbers : Nat → Int32} {p1_marsh_fleet_cells : Nat → Int32} {p1_marsh_fleet_fares : Nat → Int32} {p1_marsh_fleet_count : Int32} {p1_marsh_fleet_nextNumber : Int32} {p1_marsh_fleet_total : Int32} {p1_marsh_fleet_removedFares : Int32} {p1_marsh_fleet_meetings : Int32} {p1_marsh_plans_moves : Nat → Int32} {p1_marsh_plans_lengths : Nat → Int32} {p1_marsh_landings_cells : Nat → Int32} {p1_marsh_landings_count : Int32} {p1_marsh_fogSide : Int32} {p1_snapshot_reeds_states : Nat → Int32} {p1_snapshot_reeds_count : Int32} {p1_snapshot_reeds_broken : Int32} {p1_snapshot_fleet_numbers : Nat → Int32} {p1_snapshot_fleet_cells : Nat → Int32} {p1_snapshot_fleet_fares : Nat → Int32} {p1_snapshot_fleet_count : Int32} {p1_snapshot_fleet_nextNumber : Int32} {p1_snapshot_fleet_total : Int32} {p1_snapshot_fleet_removedFares : Int32} {p1_snapshot_fleet_meetings : Int32} {p1_snapshot_plans_moves : Nat → Int32} {p1_snapshot_plans_lengths : Nat → Int32} {p1_snapshot_landings_cells : Nat → Int32} {p1_snapshot_landings_count : Int32} {p1_snapshot_fogSide : Int32} {p1_history_slots : Nat → mm_MV} {p1_history_free : Int32} {p1_history_count : Int32} {p1_ways_tolls : Nat → Int32} {p1_ways_queue : Nat → Int32} {p1_ways_heap : Nat → Int32} {p1_ways_heapSize : Int32} {p1_ways_found : Nat → Int32} {p1_ways_improved : Nat → Int32} {p1_pairing_costs : Nat → Int32} {p1_pairing_best : Nat → Int32} {p1_reader_kinds : Nat → Int32} {p1_reader_starts : Nat → Int32} {p1_reader_count : Int32} {p1_commandText_signs : Nat → Int32} {p1_commandText_length : Int32} {p1_line_signs : Nat → Int32} {p1_line_length : Int32} {p1_spareMoves : Nat → Int32} {p1_snapshotTaken : Int32} {p1_lastErrorPosition : Int32} {p1_lastFailedCommand : Int32} {p2_thrown : Int32} {p2_changes : Int32} {p2_errorAt : Int32} {p2_failedAt : Int32} {p2_isSaved : Int32} {p2_v : Nat → Int32} {p2_before : Nat → Int32} {p2_saved : Nat → Int32} {p2_past : Nat → Int32} {p2_far : Nat → Int32} {p2_scratch : Nat → Int32} {p2_best : Nat → Int32} {p2_thenX : Int32} {p2_thenY : Int32} {p2_thenMet : Int32} {p2_text : Nat → Int32} {p2_line : Nat → Int32} {p2_isLeft : Nat → Int32} {p2_words : Nat → Int32} {p2_wordAt : Nat → Int32} {p2_textN : Int32} {p2_hereP : Int32} {p2_endP : Int32} {p2_lineN : Int32} {p2_isWrong : Int32} {p2_isDoing : Int32} {p3 : Nat → Int64} {p4 : Nat → UInt64} {x0 x1 x2 x3 x4 x5 : Int32} {X : Int32 × (Nat → mm_MV) × Int32 × Int32 × Int32 × Int32 × (Nat → Int32) × (Nat → Int32) × (Nat → Int32) × (Nat → Int64)} (hf : g_law9 K p1_marsh_reeds_states p1_marsh_reeds_count p1_marsh_reeds_broken p1_marsh_fleet_numbers p1_marsh_fleet_cells p1_marsh_fleet_fares p1_marsh_fleet_count p1_marsh_fleet_nextNumber p1_marsh_fleet_total p1_marsh_fleet_removedFares p1_marsh_fleet_meetings p1_marsh_plans_moves p1_marsh_plans_lengths p1_marsh_landings_cells p1_marsh_landings_count p1_marsh_fogSide p1_history_slots p1_history_free p1_history_count p2_changes p2_v p2_before p2_past p3 x1 = some X) (hp_p1 : At12 G w b1 p1_marsh_reeds_states p1_marsh_reeds_count p1_marsh_reeds_broken p1_marsh_fleet_numbers p1_marsh_fleet_cells p1_marsh_fleet_fares p1_marsh_fleet_count p1_marsh_fleet_nextNumber p1_marsh_fleet_total p1_marsh_fleet_removedFares p1_marsh_fleet_meetings p1_marsh_plans_moves p1_marsh_plans_lengths p1_marsh_landings_cells p1_marsh_landings_count p1_marsh_fogSide p1_snapshot_reeds_states p1_snapshot_reeds_count p1_snapshot_reeds_broken p1_snapshot_fleet_numbers p1_snapshot_fleet_cells p1_snapshot_fleet_fares p1_snapshot_fleet_count p1_snapshot_fleet_nextNumber p1_snapshot_fleet_total p1_snapshot_fleet_removedFares p1_snapshot_fleet_meetings p1_snapshot_plans_moves p1_snapshot_plans_lengths p1_snapshot_landings_cells p1_snapshot_landings_count p1_snapshot_fogSide p1_history_slots p1_history_free p1_history_count p1_ways_tolls p1_ways_queue p1_ways_heap p1_ways_heapSize p1_ways_found p1_ways_improved p1_pairing_costs p1_pairing_best p1_reader_kinds p1_reader_starts p1_reader_count p1_commandText_signs p1_commandText_length p1_line_signs p1_line_length p1_spareMoves p1_snapshotTaken p1_lastErrorPosition p1_lastFailedCommand) (hp_p2 : At13 G w b2 p2_thrown p2_changes p2_errorAt p2_failedAt p2_isSaved p2_v p2_before p2_saved p2_past p2_far p2_scratch p2_best p2_thenX p2_thenY p2_thenMet p2_text p2_line p2_isLeft p2_words p2_wordAt p2_textN p2_hereP p2_endP p2_lineN p2_isWrong p2_isDoing) (hp_p3 : (a3, (.inl (G.2 3, 1, .inr (.inl p3)) : va_E)) ∈ w) (hp_p4 : (a4, (.inl (G.2 4, 1, .inr (.inr (.inr (.inl p4)))) : va_E)) ∈ w)
    (hsc : ∀ k : Nat, k < 5 → vp_in (x5 + Int32.ofNat k) L ∧ xs (x5 + Int32.ofNat k).toNatClampNeg = mm_x5 x0 x1 x2 x3 x4 k) (hM : mm_S G A s.heap w H locs)
    (hk : ∀ (w : va_W) (H : Heap) (locs : List Loc), mm_S G A s.heap w H locs → At12 G w b1 p1_marsh_reeds_states p1_marsh_reeds_count p1_marsh_reeds_broken p1_marsh_fleet_numbers p1_marsh_fleet_cells p1_marsh_fleet_fares p1_marsh_fleet_count p1_marsh_fleet_nextNumber p1_marsh_fleet_total p1_marsh_fleet_removedFares p1_marsh_fleet_meetings p1_marsh_plans_moves p1_marsh_plans_lengths p1_marsh_landings_cells p1_marsh_landings_count X.1 p1_snapshot_reeds_states p1_snapshot_reeds_count p1_snapshot_reeds_broken p1_snapshot_fleet_numbers p1_snapshot_fleet_cells p1_snapshot_fleet_fares p1_snapshot_fleet_count p1_snapshot_fleet_nextNumber p1_snapshot_fleet_total p1_snapshot_fleet_removedFares p1_snapshot_fleet_meetings p1_snapshot_plans_moves p1_snapshot_plans_lengths p1_snapshot_landings_cells p1_snapshot_landings_count p1_snapshot_fogSide X.2.1 X.2.2.1 X.2.2.2.1 p1_ways_tolls p1_ways_queue p1_ways_heap p1_ways_heapSize p1_ways_found p1_ways_improved p1_pairing_costs p1_pairing_best p1_reader_kinds p1_reader_starts p1_reader_count p1_commandText_signs p1_commandText_length p1_line_signs p1_line_length p1_spareMoves p1_snapshotTaken p1_lastErrorPosition p1_lastFailedCommand → At13 G w b2 X.2.2.2.2.1 X.2.2.2.2.2.1 p2_errorAt p2_failedAt p2_isSaved X.2.2.2.2.2.2.1 X.2.2.2.2.2.2.2.1 p2_saved X.2.2.2.2.2.2.2.2.1 p2_far p2_scratch p2_best p2_thenX p2_thenY p2_thenMet p2_text p2_line p2_isLeft p2_words p2_wordAt p2_textN p2_hereP p2_endP p2_lineN p2_isWrong p2_isDoing → (a3, (.inl (G.2 3, 1, .inr (.inl X.2.2.2.2.2.2.2.2.2)) : va_E)) ∈ w → (a4, (.inl (G.2 4, 1, .inr (.inr (.inr (.inl p4)))) : va_E)) ∈ w → ∀ ls, lv_has ls 10 [(0, .ref b), (1, .ref b1), (2, .ref b2), (3, .ref a3), (4, .ref a4), (5, .int x5)] → W p l e room_1 s m args below meth c H locs (cells + 1000) (slots + 10000) Q (F0 m 3345 ls [])) (ls : Array Slot) (hl : lv_has ls 10 [(0, .ref b), (1, .ref b1), (2, .ref b2), (3, .ref a3), (4, .ref a4), (5, .int x5)]) : W p l e room_1 s m args below meth c H locs cells slots Q (F0 m 702 ls []) := by
  have hx := hC.1.1
  have hb := hC.1.2.1
  rw [g_law9] at hf
  refine lv_aload_n hx hb dL_law_702 rfl (lv_at hl 1 rfl) ?_
  refine lv_aload_n hx hb dL_law_703 rfl (lv_at hl 0 rfl) ?_
  refine lv_iload hx hb dL_law_704 (lv_at hl 5 rfl) ?_
  refine lv_iconst (v := 1) hx hb dL_law_706 (by decide) ?_
  refine lv_iadd hx hb dL_law_707 ?_
  refine mm_sld hC hM hsX hbl hbA (hsc 1 (by decide)).1 (hsc 1 (by decide)).2 dL_law_708 ?_
  refine lv_aload_n hx hb dL_law_709 rfl (lv_at hl 3 rfl) ?_
  obtain ⟨q710, hq710, hf⟩ := mm_bd hf
  refine mm_SiW (rest := []) hC hM (c_L_setFog l hfl hq710 hp_p1 hp_p3 (by omega)) q4_100 q1_0 ykL_setFog q4_98 q4_99 ⟨rfl, rfl⟩ ⟨Nat.le_of_ble_eq_true rfl, Nat.le_of_ble_eq_true rfl⟩ rfl hl.1 rfl (Nat.le_of_ble_eq_true rfl) dL_law_710 ⟨by omega, by omega⟩ (fun r w710 H locs hM hw => ?_)
  obtain ⟨hr, hn_p0, hn_p2, hfr⟩ := hw
  rw [hr]
  have hp_p2 := hp_p2.keep2 hfr (by omega) (by omega)
  have hp_p4 := hfr.keep hp_p4 (by omega) (by omega)
  have hp_p1 := hn_p0
  have hp_p3 := hn_p2
  refine lv_istore (lv' := [(6, .int q710.1), (0, .ref b), (1, .ref b1), (2, .ref b2), (3, .ref a3), (4, .ref a4), (5, .int x5)]) hx hb dL_law_713 hl (by decide) rfl (fun ls hl => ?_)
  refine lv_aload_n hx hb dL_law_715 rfl (lv_at hl 3 rfl) ?_
  refine lv_aload_n hx hb dL_law_716 rfl (lv_at hl 1 rfl) ?_
  refine lv_iload hx hb dL_law_717 (lv_at hl 6 rfl) ?_
  refine lv_iconst (v := 1) hx hb dL_law_719 (by decide) ?_
  refine lv_iadd hx hb dL_law_720 ?_
  refine mm_sld hC hM hsX hbl hbA (hsc 1 (by decide)).1 (hsc 1 (by decide)).2 dL_law_721 ?_
  obtain ⟨q722, hq722, hf⟩ := mm_bd hf
  refine mm_Vi (rest := []) hC hM (c_X13_setFog l hq722 hp_p2) q7_194 q1_12 ykX13_setFog q7_191 q7_192 q7_193 hp_p2.1 rfl ⟨rfl, rfl⟩ ⟨Nat.le_of_ble_eq_true rfl, Nat.le_of_ble_eq_true rfl⟩ rfl hl.1 rfl (Nat.le_of_ble_eq_true rfl) dL_law_722 ⟨by omega, by omega⟩ (fun r w722 H locs hM hw => ?_)
  obtain ⟨hr, hn_this, hfr⟩ := hw
  rw [hr]
  have hp_p1 := hp_p1.keep hfr (by omega)
  have hp_p3 := hfr.keep hp_p3 (by omega)
  have hp_p4 := hfr.keep hp_p4 (by omega)
  have hp_p2 := hn_this
  refine lv_istore (lv' := [(7, .int q722.1), (6, .int q710.1), (0, .ref b), (1, .ref b1), (2, .ref b2), (3, .ref a3), (4, .ref a4), (5, .int x5)]) hx hb dL_law_725 hl (by decide) rfl (fun ls hl => ?_)
  refine lv_aload_n hx hb dL_law_727 rfl (lv_at hl 4 rfl) ?_
  obtain ⟨q728, hq728, hf⟩ := mm_bd hf
  refine mm_Vi (rest := []) hC hM (c_X13_thrown l hq728 hp_p2) q7_87 q1_12 ykX13_thrown q7_84 q7_85 q7_86 hp_p2.1 rfl ⟨rfl, rfl⟩ ⟨Nat.le_of_ble_eq_true rfl, Nat.le_of_ble_eq_true rfl⟩ rfl hl.1 rfl (Nat.le_of_ble_eq_true rfl) dL_law_728 ⟨by omega, by omega⟩ (fun r w728 H locs hM hw => ?_)
  obtain ⟨hr, hw⟩ := hw
  rw [hr]
  rw [hw] at hM
  refine lv_iload hx hb dL_law_731 (lv_at hl 1 rfl) ?_
  refine lv_icmp_eq (tgt := 738) hx hb dL_law_733 (by decide) (fun hcd => ?_) (fun hcd => ?_)
  · rw [if_pos hcd] at hf
    refine lv_iload hx hb dL_law_738 (lv_at hl 1 rfl) ?_
    refine lv_if_ne (tgt := 755) hx hb dL_law_740 (by decide) (fun hcd => ?_) (fun hcd => ?_)
    · rw [if_neg hcd] at hf
      refine lv_goto (tgt := 3345) hx hb dL_law_755 (by decide) ?_
      cases hf
      exact W.widen (by omega) (by omega) (hk _ _ _ hM hp_p1 hp_p2 hp_p3 hp_p4 _ (lv_sub hl [2, 3, 4, 5, 6, 7] rfl))
    · rw [if_pos hcd] at hf
      refine lv_aload_n hx hb dL_law_743 rfl (lv_at hl 5 rfl) ?_
      refine lv_iconst (v := 0) hx hb dL_law_744 (by decide) ?_
      refine mm_lald0 hC hM hp_p3 dL_law_745 ?_
      refine lv_iload hx hb dL_law_746 (lv_at hl 0 rfl) ?_
      refine lv_i2l hx hb dL_law_748 rfl ?_
      refine W.lcmp hx hb dL_law_749 ?_
      refine lv_if_eq (tgt := 755) hx hb dL_law_750 (by decide) (fun hcd => ?_) (fun hcd => ?_)
      · rw [if_pos hcd] at hf
        refine lv_goto (tgt := 3345) hx hb dL_law_755 (by decide) ?_
        cases hf
        exact W.widen (by omega) (by omega) (hk _ _ _ hM hp_p1 hp_p2 hp_p3 hp_p4 _ (lv_sub hl [2, 3, 4, 5, 6, 7] rfl))
      · rw [if_neg hcd] at hf
        refine lv_iconst (v := 0) hx hb dL_law_753 (by decide) ?_
        cases hf
  · rw [if_neg hcd] at hf
    refine lv_iconst (v := 0) hx hb dL_law_736 (by decide) ?_
    cases hf
def g_law10 (p1_marsh_fogSide : Int32) (p2_v : Nat → Int32) : Option (Int32) := (f_X12_fog p1_marsh_fogSide).bind fun q759 => (f_X13_fog p2_v).bind fun q763 => if q759 = q763.1 then some q763.2 else none
set_option maxHeartbeats 4000000 in
set_option maxRecDepth 100000 in
theorem g_law10_c (hC : mm_C G A p s m c code 10 args "MirrorFerryLaw") (hsX : va_X b L xs s s.heap) (hbl : b < s.heap.size) (hbA : ¬ A b) (hd1 : b1 + 152 ≤ b2) (hd2 : b2 + 13 ≤ a3) (hd3 : a3 + 1 ≤ a4) (hrc : cells + 1000 ≤ room_1.cells) (hrs : slots + 10000 ≤ room_1.slots) (hfl : l.stackTraces = false) {p1_marsh_reeds_states : Nat → Int32} {p1_marsh_reeds_count : Int32} {p1_marsh_reeds_broken : Int32} {p1_marsh_fleet_numbers : Nat → Int32} {p1_marsh_fleet_cells : Nat → Int32} {p1_marsh_fleet_fares : Nat → Int32} {p1_marsh_fleet_count : Int32} {p1_marsh_fleet_nextNumber : Int32} {p1_marsh_fleet_total : Int32} {p1_marsh_fleet_removedFares : Int32} {p1_marsh_fleet_meetings : Int32} {p1_marsh_plans_moves : Nat → Int32} {p1_marsh_plans_lengths : Nat → Int32} {p1_marsh_landings_cells : Nat → Int32} {p1_marsh_landings_count : Int32} {p1_marsh_fogSide : Int32} {p1_snapshot_reeds_states : Nat → Int32} {p1_snapshot_reeds_count : Int32} {p1_snapshot_reeds_broken : Int32} {p1_snapshot_fleet_numbers : Nat → Int32} {p1_snapshot_fleet_cells : Nat → Int32} {p1_snapshot_fleet_fares : Nat → Int32} {p1_snapshot_fleet_count : Int32} {p1_snapshot_fleet_nextNumber : Int32} {p1_snapshot_fleet_total : Int32} {p1_snapshot_fleet_removedFares : Int32} {p1_snapshot_fleet_meetings : Int32} {p1_snapshot_plans_moves : Nat → Int32} {p1_snapshot_plans_lengths : Nat → Int32} {p1_snapshot_landings_cells : Nat → Int32} {p1_snapshot_landings_count : Int32} {p1_snapshot_fogSide : Int32} {p1_history_slots : Nat → mm_MV} {p1_history_free : Int32} {p1_history_count : Int32} {p1_ways_tolls : Nat → Int32} {p1_ways_queue : Nat → Int32} {p1_ways_heap : Nat → Int32} {p1_ways_heapSize : Int32} {p1_ways_found : Nat → Int32} {p1_ways_improved : Nat → Int32} {p1_pairing_costs : Nat → Int32} {p1_pairing_best : Nat → Int32} {p1_reader_kinds : Nat → Int32} {p1_reader_starts : Nat → Int32} {p1_reader_count : Int32} {p1_commandText_signs : Nat → Int32} {p1_commandText_length : Int32} {p1_line_signs : Nat → Int32} {p1_line_length : Int32} {p1_spareMoves : Nat → Int32} {p1_snapshotTaken : Int32} {p1_lastErrorPosition : Int32} {p1_lastFailedCommand : Int32} {p2_thrown : Int32} {p2_changes : Int32} {p2_errorAt : Int32} {p2_failedAt : Int32} {p2_isSaved : Int32} {p2_v : Nat → Int32} {p2_before : Nat → Int32} {p2_saved : Nat → Int32} {p2_past : Nat → Int32} {p2_far : Nat → Int32} {p2_scratch : Nat → Int32} {p2_best : Nat → Int32} {p2_thenX : Int32} {p2_thenY : Int32} {p2_thenMet : Int32} {p2_text : Nat → Int32} {p2_line : Nat → Int32} {p2_isLeft : Nat → Int32} {p2_words : Nat → Int32} {p2_wordAt : Nat → Int32} {p2_textN : Int32} {p2_hereP : Int32} {p2_endP : Int32} {p2_lineN : Int32} {p2_isWrong : Int32} {p2_isDoing : Int32} {p3 : Nat → Int64} {p4 : Nat → UInt64} {x0 x1 x2 x3 x4 x5 : Int32} {X : Int32} (hf : g_law10 p1_marsh_fogSide p2_v = some X) (hp_p1 : At12 G w b1 p1_marsh_reeds_states p1_marsh_reeds_count p1_marsh_reeds_broken p1_marsh_fleet_numbers p1_marsh_fleet_cells p1_marsh_fleet_fares p1_marsh_fleet_count p1_marsh_fleet_nextNumber p1_marsh_fleet_total p1_marsh_fleet_removedFares p1_marsh_fleet_meetings p1_marsh_plans_moves p1_marsh_plans_lengths p1_marsh_landings_cells p1_marsh_landings_count p1_marsh_fogSide p1_snapshot_reeds_states p1_snapshot_reeds_count p1_snapshot_reeds_broken p1_snapshot_fleet_numbers p1_snapshot_fleet_cells p1_snapshot_fleet_fares p1_snapshot_fleet_count p1_snapshot_fleet_nextNumber p1_snapshot_fleet_total p1_snapshot_fleet_removedFares p1_snapshot_fleet_meetings p1_snapshot_plans_moves p1_snapshot_plans_lengths p1_snapshot_landings_cells p1_snapshot_landings_count p1_snapshot_fogSide p1_history_slots p1_history_free p1_history_count p1_ways_tolls p1_ways_queue p1_ways_heap p1_ways_heapSize p1_ways_found p1_ways_improved p1_pairing_costs p1_pairing_best p1_reader_kinds p1_reader_starts p1_reader_count p1_commandText_signs p1_commandText_length p1_line_signs p1_line_length p1_spareMoves p1_snapshotTaken p1_lastErrorPosition p1_lastFailedCommand) (hp_p2 : At13 G w b2 p2_thrown p2_changes p2_errorAt p2_failedAt p2_isSaved p2_v p2_before p2_saved p2_past p2_far p2_scratch p2_best p2_thenX p2_thenY p2_thenMet p2_text p2_line p2_isLeft p2_words p2_wordAt p2_textN p2_hereP p2_endP p2_lineN p2_isWrong p2_isDoing) (hp_p3 : (a3, (.inl (G.2 3, 1, .inr (.inl p3)) : va_E)) ∈ w) (hp_p4 : (a4, (.inl (G.2 4, 1, .inr (.inr (.inr (.inl p4)))) : va_E)) ∈ w)
    (hsc : ∀ k : Nat, k < 5 → vp_in (x5 + Int32.ofNat k) L ∧ xs (x5 + Int32.ofNat k).toNatClampNeg = mm_x5 x0 x1 x2 x3 x4 k) (hM : mm_S G A s.heap w H locs)
    (hk : ∀ (w : va_W) (H : Heap) (locs : List Loc), mm_S G A s.heap w H locs → At12 G w b1 p1_marsh_reeds_states p1_marsh_reeds_count p1_marsh_reeds_broken p1_marsh_fleet_numbers p1_marsh_fleet_cells p1_marsh_fleet_fares p1_marsh_fleet_count p1_marsh_fleet_nextNumber p1_marsh_fleet_total p1_marsh_fleet_removedFares p1_marsh_fleet_meetings p1_marsh_plans_moves p1_marsh_plans_lengths p1_marsh_landings_cells p1_marsh_landings_count p1_marsh_fogSide p1_snapshot_reeds_states p1_snapshot_reeds_count p1_snapshot_reeds_broken p1_snapshot_fleet_numbers p1_snapshot_fleet_cells p1_snapshot_fleet_fares p1_snapshot_fleet_count p1_snapshot_fleet_nextNumber p1_snapshot_fleet_total p1_snapshot_fleet_removedFares p1_snapshot_fleet_meetings p1_snapshot_plans_moves p1_snapshot_plans_lengths p1_snapshot_landings_cells p1_snapshot_landings_count p1_snapshot_fogSide p1_history_slots p1_history_free p1_history_count p1_ways_tolls p1_ways_queue p1_ways_heap p1_ways_heapSize p1_ways_found p1_ways_improved p1_pairing_costs p1_pairing_best p1_reader_kinds p1_reader_starts p1_reader_count p1_commandText_signs p1_commandText_length p1_line_signs p1_line_length p1_spareMoves p1_snapshotTaken p1_lastErrorPosition p1_lastFailedCommand → At13 G w b2 X p2_changes p2_errorAt p2_failedAt p2_isSaved p2_v p2_before p2_saved p2_past p2_far p2_scratch p2_best p2_thenX p2_thenY p2_thenMet p2_text p2_line p2_isLeft p2_words p2_wordAt p2_textN p2_hereP p2_endP p2_lineN p2_isWrong p2_isDoing → (a3, (.inl (G.2 3, 1, .inr (.inl p3)) : va_E)) ∈ w → (a4, (.inl (G.2 4, 1, .inr (.inr (.inr (.inl p4)))) : va_E)) ∈ w → ∀ ls, lv_has ls 10 [(0, .ref b), (1, .ref b1), (2, .ref b2), (3, .ref a3), (4, .ref a4), (5, .int x5)] → W p l e room_1 s m args below meth c H locs (cells + 1000) (slots + 10000) Q (F0 m 3345 ls [])) (ls : Array Slot) (hl : lv_has ls 10 [(0, .ref b), (1, .ref b1), (2, .ref b2), (3, .ref a3), (4, .ref a4), (5, .int x5)]) : W p l e room_1 s m args below meth c H locs cells slots Q (F0 m 758 ls []) := by
  have hx := hC.1.1
  have hb := hC.1.2.1
  rw [g_law10] at hf
  refine lv_aload_n hx hb dL_law_758 rfl (lv_at hl 1 rfl) ?_
  obtain ⟨q759, hq759, hf⟩ := mm_bd hf
  refine mm_Vi (rest := []) hC hM (c_X12_fog l hq759 hp_p1) q2_93 q1_1 ykX12_fog q2_90 q2_91 q2_92 hp_p1.1 rfl ⟨rfl, rfl⟩ ⟨Nat.le_of_ble_eq_true rfl, Nat.le_of_ble_eq_true rfl⟩ rfl hl.1 rfl (Nat.le_of_ble_eq_true rfl) dL_law_759 ⟨by omega, by omega⟩ (fun r w759 H locs hM hw => ?_)
  obtain ⟨hr, hw⟩ := hw
  rw [hr]
  rw [hw] at hM
  refine lv_aload_n hx hb dL_law_762 rfl (lv_at hl 2 rfl) ?_
  obtain ⟨q763, hq763, hf⟩ := mm_bd hf
  refine mm_Vi (rest := [.int q759]) hC hM (c_X13_fog l hq763 hp_p2) q7_202 q1_12 ykX13_fog q7_199 q7_200 q7_201 hp_p2.1 rfl ⟨rfl, rfl⟩ ⟨Nat.le_of_ble_eq_true rfl, Nat.le_of_ble_eq_true rfl⟩ rfl hl.1 rfl (Nat.le_of_ble_eq_true rfl) dL_law_763 ⟨by omega, by omega⟩ (fun r w763 H locs hM hw => ?_)
  obtain ⟨hr, hn_this, hfr⟩ := hw
  rw [hr]
  have hp_p1 := hp_p1.keep hfr (by omega)
  have hp_p3 := hfr.keep hp_p3 (by omega)
  have hp_p4 := hfr.keep hp_p4 (by omega)
  have hp_p2 := hn_this
  refine lv_icmp_eq (tgt := 3345) hx hb dL_law_766 (by decide) (fun hcd => ?_) (fun hcd => ?_)
  · rw [if_pos hcd] at hf
    cases hf
    exact W.widen (by omega) (by omega) (hk _ _ _ hM hp_p1 hp_p2 hp_p3 hp_p4 _ (lv_sub hl [0, 1, 2, 3, 4, 5] rfl))
  · rw [if_neg hcd] at hf
    refine lv_iconst (v := 0) hx hb dL_law_769 (by decide) ?_
    cases hf
def g_law11 (K : Nat) (p1_marsh_reeds_states : Nat → Int32) (p1_marsh_reeds_count : Int32) (p1_marsh_reeds_broken : Int32) (p1_marsh_fleet_numbers : Nat → Int32) (p1_marsh_fleet_cells : Nat → Int32) (p1_marsh_fleet_fares : Nat → Int32) (p1_marsh_fleet_count : Int32) (p1_marsh_fleet_nextNumber : Int32) (p1_marsh_fleet_total : Int32) (p1_marsh_fleet_removedFares : Int32) (p1_marsh_fleet_meetings : Int32) (p1_marsh_plans_moves : Nat → Int32) (p1_marsh_plans_lengths : Nat → Int32) (p1_marsh_landings_cells : Nat → Int32) (p1_marsh_landings_count : Int32) (p1_marsh_fogSide : Int32) (p1_history_slots : Nat → mm_MV) (p1_history_free : Int32) (p1_history_count : Int32) (p2_changes : Int32) (p2_v : Nat → Int32) (p2_before : Nat → Int32) (p2_past : Nat → Int32) (p3 : Nat → Int64) (x1 : Int32) (x2 : Int32) : Option ((Nat → Int32) × (Nat → Int32) × (Nat → Int32) × Int32 × Int32 × (Nat → mm_MV) × Int32 × Int32 × Int32 × Int32 × (Nat → Int32) × (Nat → Int32) × (Nat → Int32) × (Nat → Int64)) := (f_L_addBoat K p1_marsh_reeds_states p1_marsh_reeds_count p1_marsh_reeds_broken p1_marsh_fleet_numbers p1_marsh_fleet_cells p1_marsh_fleet_fares p1_marsh_fleet_count p1_marsh_fleet_nextNumber p1_marsh_fleet_total p1_marsh_fleet_removedFares p1_marsh_fleet_meetings p1_marsh_plans_moves p1_marsh_plans_lengths p1_marsh_landings_cells p1_marsh_landings_count p1_marsh_fogSide p1_history_slots p1_history_free p1_history_count p3 x1 x2).bind fun q785 => (f_X13_addBoat K p2_changes p2_v p2_before p2_past x1 x2).bind fun q803 => (f_X13_thrown q803.2.1).bind fun q809 => if q809 = q785.1 then if q785.1 = 0 then if (lg_cmp (q785.2.2.2.2.2.2.2.2.2 0) q803.1.toInt64) = 0 then some (q785.2.1, q785.2.2.1, q785.2.2.2.1, q785.2.2.2.2.1, q785.2.2.2.2.2.1, q785.2.2.2.2.2.2.1, q785.2.2.2.2.2.2.2.1, q785.2.2.2.2.2.2.2.2.1, q803.2.1, q803.2.2.1, q803.2.2.2.1, q803.2.2.2.2.1, q803.2.2.2.2.2, q785.2.2.2.2.2.2.2.2.2) else none else some (q785.2.1, q785.2.2.1, q785.2.2.2.1, q785.2.2.2.2.1, q785.2.2.2.2.2.1, q785.2.2.2.2.2.2.1, q785.2.2.2.2.2.2.2.1, q785.2.2.2.2.2.2.2.2.1, q803.2.1, q803.2.2.1, q803.2.2.2.1, q803.2.2.2.2.1, q803.2.2.2.2.2, q785.2.2.2.2.2.2.2.2.2) else none
set_option maxHeartbeats 4000000 in
set_option maxRecDepth 100000 in
theorem g_law11_c (hC : mm_C G A p s m c code 10 args "MirrorFerryLaw") (hsX : va_X b L xs s s.heap) (hbl : b < s.heap.size) (hbA : ¬ A b) (hd1 : b1 + 152 ≤ b2) (hd2 : b2 + 13 ≤ a3) (hd3 : a3 + 1 ≤ a4) (hrc : cells + 1000 ≤ room_1.cells) (hrs : slots + 10000 ≤ room_1.slots) (hfl : l.stackTraces = false) {K : Nat} {p1_marsh_reeds_states : Nat → Int32} {p1_marsh_reeds_count : Int32} {p1_marsh_reeds_broken : Int32} {p1_marsh_fleet_numbers : Nat → Int32} {p1_marsh_fleet_cells : Nat → Int32} {p1_marsh_fleet_fares : Nat → Int32} {p1_marsh_fleet_count : Int32} {p1_marsh_fleet_nextNumber : Int32} {p1_marsh_fleet_total : Int32} {p1_marsh_fleet_removedFares : Int32} {p1_marsh_fleet_meetings : Int32} {p1_marsh_plans_moves : Nat → Int32} {p1_marsh_plans_lengths : Nat → Int32} {p1_marsh_landings_cells : Nat → Int32} {p1_marsh_landings_count : Int32} {p1_marsh_fogSide : Int32} {p1_snapshot_reeds_states : Nat → Int32} {p1_snapshot_reeds_count : Int32} {p1_snapshot_reeds_broken : Int32} {p1_snapshot_fleet_numbers : Nat → Int32} {p1_snapshot_fleet_cells : Nat → Int32} {p1_snapshot_fleet_fares : Nat → Int32} {p1_snapshot_fleet_count : Int32} {p1_snapshot_fleet_nextNumber : Int32} {p1_snapshot_fleet_total : Int32} {p1_snapshot_fleet_removedFares : Int32} {p1_snapshot_fleet_meetings : Int32} {p1_snapshot_plans_moves : Nat → Int32} {p1_snapshot_plans_lengths : Nat → Int32} {p1_snapshot_landings_cells : Nat → Int32} {p1_snapshot_landings_count : Int32} {p1_snapshot_fogSide : Int32} {p1_history_slots : Nat → mm_MV} {p1_history_free : Int32} {p1_history_count : Int32} {p1_ways_tolls : Nat → Int32} {p1_ways_queue : Nat → Int32} {p1_ways_heap : Nat → Int32} {p1_ways_heapSize : Int32} {p1_ways_found : Nat → Int32} {p1_ways_improved : Nat → Int32} {p1_pairing_costs : Nat → Int32} {p1_pairing_best : Nat → Int32} {p1_reader_kinds : Nat → Int32} {p1_reader_starts : Nat → Int32} {p1_reader_count : Int32} {p1_commandText_signs : Nat → Int32} {p1_commandText_length : Int32} {p1_line_signs : Nat → Int32} {p1_line_length : Int32} {p1_spareMoves : Nat → Int32} {p1_snapshotTaken : Int32} {p1_lastErrorPosition : Int32} {p1_lastFailedCommand : Int32} {p2_thrown : Int32} {p2_changes : Int32} {p2_errorAt : Int32} {p2_failedAt : Int32} {p2_isSaved : Int32} {p2_v : Nat → Int32} {p2_before : Nat → Int32} {p2_saved : Nat → Int32} {p2_past : Nat → Int32} {p2_far : Nat → Int32} {p2_scratch : Nat → Int32} {p2_best : Nat → Int32} {p2_thenX : Int32} {p2_thenY : Int32} {p2_thenMet : Int32} {p2_text : Nat → Int32} {p2_line : Nat → Int32} {p2_isLeft : Nat → Int32} {p2_words : Nat → Int32} {p2_wordAt : Nat → Int32} {p2_textN : Int32} {p2_hereP : Int32} {p2_endP : Int32} {p2_lineN : Int32} {p2_isWrong : Int32} {p2_isDoing : Int32} {p3 : Nat → Int64} {p4 : Nat → UInt64} {x0 x1 x2 x3 x4 x5 : Int32} {X : (Nat → Int32) × (Nat → Int32) × (Nat → Int32) × Int32 × Int32 × (Nat → mm_MV) × Int32 × Int32 × Int32 × Int32 × (Nat → Int32) × (Nat → Int32) × (Nat → Int32) × (Nat → Int64)} (hf : g_law11 K p1_marsh_reeds_states p1_marsh_reeds_count p1_marsh_reeds_broken p1_marsh_fleet_numbers p1_marsh_fleet_cells p1_marsh_fleet_fares p1_marsh_fleet_count p1_marsh_fleet_nextNumber p1_marsh_fleet_total p1_marsh_fleet_removedFares p1_marsh_fleet_meetings p1_marsh_plans_moves p1_marsh_plans_lengths p1_marsh_landings_cells p1_marsh_landings_count p1_marsh_fogSide p1_history_slots p1_history_free p1_history_count p2_changes p2_v p2_before p2_past p3 x1 x2 = some X) (hp_p1 : At12 G w b1 p1_marsh_reeds_states p1_marsh_reeds_count p1_marsh_reeds_broken p1_marsh_fleet_numbers p1_marsh_fleet_cells p1_marsh_fleet_fares p1_marsh_fleet_count p1_marsh_fleet_nextNumber p1_marsh_fleet_total p1_marsh_fleet_removedFares p1_marsh_fleet_meetings p1_marsh_plans_moves p1_marsh_plans_lengths p1_marsh_landings_cells p1_marsh_landings_count p1_marsh_fogSide p1_snapshot_reeds_states p1_snapshot_reeds_count p1_snapshot_reeds_broken p1_snapshot_fleet_numbers p1_snapshot_fleet_cells p1_snapshot_fleet_fares p1_snapshot_fleet_count p1_snapshot_fleet_nextNumber p1_snapshot_fleet_total p1_snapshot_fleet_removedFares p1_snapshot_fleet_meetings p1_snapshot_plans_moves p1_snapshot_plans_lengths p1_snapshot_landings_cells p1_snapshot_landings_count p1_snapshot_fogSide p1_history_slots p1_history_free p1_history_count p1_ways_tolls p1_ways_queue p1_ways_heap p1_ways_heapSize p1_ways_found p1_ways_improved p1_pairing_costs p1_pairing_best p1_reader_kinds p1_reader_starts p1_reader_count p1_commandText_signs p1_commandText_length p1_line_signs p1_line_length p1_spareMoves p1_snapshotTaken p1_lastErrorPosition p1_lastFailedCommand) (hp_p2 : At13 G w b2 p2_thrown p2_changes p2_errorAt p2_failedAt p2_isSaved p2_v p2_before p2_saved p2_past p2_far p2_scratch p2_best p2_thenX p2_thenY p2_thenMet p2_text p2_line p2_isLeft p2_words p2_wordAt p2_textN p2_hereP p2_endP p2_lineN p2_isWrong p2_isDoing) (hp_p3 : (a3, (.inl (G.2 3, 1, .inr (.inl p3)) : va_E)) ∈ w) (hp_p4 : (a4, (.inl (G.2 4, 1, .inr (.inr (.inr (.inl p4)))) : va_E)) ∈ w)
    (hsc : ∀ k : Nat, k < 5 → vp_in (x5 + Int32.ofNat k) L ∧ xs (x5 + Int32.ofNat k).toNatClampNeg = mm_x5 x0 x1 x2 x3 x4 k) (hM : mm_S G A s.heap w H locs)
    (hk : ∀ (w : va_W) (H : Heap) (locs : List Loc), mm_S G A s.heap w H locs → At12 G w b1 p1_marsh_reeds_states p1_marsh_reeds_count p1_marsh_reeds_broken X.1 X.2.1 X.2.2.1 X.2.2.2.1 X.2.2.2.2.1 p1_marsh_fleet_total p1_marsh_fleet_removedFares p1_marsh_fleet_meetings p1_marsh_plans_moves p1_marsh_plans_lengths p1_marsh_landings_cells p1_marsh_landings_count p1_marsh_fogSide p1_snapshot_reeds_states p1_snapshot_reeds_count p1_snapshot_reeds_broken p1_snapshot_fleet_numbers p1_snapshot_fleet_cells p1_snapshot_fleet_fares p1_snapshot_fleet_count p1_snapshot_fleet_nextNumber p1_snapshot_fleet_total p1_snapshot_fleet_removedFares p1_snapshot_fleet_meetings p1_snapshot_plans_moves p1_snapshot_plans_lengths p1_snapshot_landings_cells p1_snapshot_landings_count p1_snapshot_fogSide X.2.2.2.2.2.1 X.2.2.2.2.2.2.1 X.2.2.2.2.2.2.2.1 p1_ways_tolls p1_ways_queue p1_ways_heap p1_ways_heapSize p1_ways_found p1_ways_improved p1_pairing_costs p1_pairing_best p1_reader_kinds p1_reader_starts p1_reader_count p1_commandText_signs p1_commandText_length p1_line_signs p1_line_length p1_spareMoves p1_snapshotTaken p1_lastErrorPosition p1_lastFailedCommand → At13 G w b2 X.2.2.2.2.2.2.2.2.1 X.2.2.2.2.2.2.2.2.2.1 p2_errorAt p2_failedAt p2_isSaved X.2.2.2.2.2.2.2.2.2.2.1 X.2.2.2.2.2.2.2.2.2.2.2.1 p2_saved X.2.2.2.2.2.2.2.2.2.2.2.2.1 p2_far p2_scratch p2_best p2_thenX p2_thenY p2_thenMet p2_text p2_line p2_isLeft p2_words p2_wordAt p2_textN p2_hereP p2_endP p2_lineN p2_isWrong p2_isDoing → (a3, (.inl (G.2 3, 1, .inr (.inl X.2.2.2.2.2.2.2.2.2.2.2.2.2)) : va_E)) ∈ w → (a4, (.inl (G.2 4, 1, .inr (.inr (.inr (.inl p4)))) : va_E)) ∈ w → ∀ ls, lv_has ls 10 [(0, .ref b), (1, .ref b1), (2, .ref b2), (3, .ref a3), (4, .ref a4), (5, .int x5)] → W p l e room_1 s m args below meth c H locs (cells + 1000) (slots + 10000) Q (F0 m 3345 ls [])) (ls : Array Slot) (hl : lv_has ls 10 [(0, .ref b), (1, .ref b1), (2, .ref b2), (3, .ref a3), (4, .ref a4), (5, .int x5)]) : W p l e room_1 s m args below meth c H locs cells slots Q (F0 m 771 ls []) := by
  have hx := hC.1.1
  have hb := hC.1.2.1
  rw [g_law11] at hf
  refine lv_aload_n hx hb dL_law_771 rfl (lv_at hl 1 rfl) ?_
  refine lv_aload_n hx hb dL_law_772 rfl (lv_at hl 0 rfl) ?_
  refine lv_iload hx hb dL_law_773 (lv_at hl 5 rfl) ?_
  refine lv_iconst (v := 1) hx hb dL_law_775 (by decide) ?_
  refine lv_iadd hx hb dL_law_776 ?_
  refine mm_sld hC hM hsX hbl hbA (hsc 1 (by decide)).1 (hsc 1 (by decide)).2 dL_law_777 ?_
  refine lv_aload_n hx hb dL_law_778 rfl (lv_at hl 0 rfl) ?_
  refine lv_iload hx hb dL_law_779 (lv_at hl 5 rfl) ?_
  refine lv_iconst (v := 2) hx hb dL_law_781 (by decide) ?_
  refine lv_iadd hx hb dL_law_782 ?_
  refine mm_sld hC hM hsX hbl hbA (hsc 2 (by decide)).1 (hsc 2 (by decide)).2 dL_law_783 ?_
  refine lv_aload_n hx hb dL_law_784 rfl (lv_at hl 3 rfl) ?_
  obtain ⟨q785, hq785, hf⟩ := mm_bd hf
  refine mm_SiW (rest := []) hC hM (c_L_addBoat l hfl hq785 hp_p1 hp_p3 (by omega)) q4_112 q1_0 ykL_addBoat q4_110 q4_111 ⟨rfl, rfl⟩ ⟨Nat.le_of_ble_eq_true rfl, Nat.le_of_ble_eq_true rfl⟩ rfl hl.1 rfl (Nat.le_of_ble_eq_true rfl) dL_law_785 ⟨by omega, by omega⟩ (fun r w785 H locs hM hw => ?_)
  obtain ⟨hr, hn_p0, hn_p3, hfr⟩ := hw
  rw [hr]
  have hp_p2 := hp_p2.keep2 hfr (by omega) (by omega)
  have hp_p4 := hfr.keep hp_p4 (by omega) (by omega)
  have hp_p1 := hn_p0
  have hp_p3 := hn_p3
  refine lv_istore (lv' := [(6, .int q785.1), (0, .ref b), (1, .ref b1), (2, .ref b2), (3, .ref a3), (4, .ref a4), (5, .int x5)]) hx hb dL_law_788 hl (by decide) rfl (fun ls hl => ?_)
  refine lv_aload_n hx hb dL_law_790 rfl (lv_at hl 3 rfl) ?_
  refine lv_aload_n hx hb dL_law_791 rfl (lv_at hl 1 rfl) ?_
  refine lv_iload hx hb dL_law_792 (lv_at hl 6 rfl) ?_
  refine lv_iconst (v := 1) hx hb dL_law_794 (by decide) ?_
  refine lv_iadd hx hb dL_law_795 ?_
  refine mm_sld hC hM hsX hbl hbA (hsc 1 (by decide)).1 (hsc 1 (by decide)).2 dL_law_796 ?_
  refine lv_aload_n hx hb dL_law_797 rfl (lv_at hl 1 rfl) ?_
  refine lv_iload hx hb dL_law_798 (lv_at hl 6 rfl) ?_
  refine lv_iconst (v := 2) hx hb dL_law_800 (by decide) ?_
  refine lv_iadd hx hb dL_law_801 ?_
  refine mm_sld hC hM hsX hbl hbA (hsc 2 (by decide)).1 (hsc 2 (by decide)).2 dL_law_802 ?_
  obtain ⟨q803, hq803, hf⟩ := mm_bd hf
  refine mm_Vi (rest := []) hC hM (c_X13_addBoat l hq803 hp_p2) q7_206 q1_12 ykX13_addBoat q7_203 q7_204 q7_205 hp_p2.1 rfl ⟨rfl, rfl⟩ ⟨Nat.le_of_ble_eq_true rfl, Nat.le_of_ble_eq_true rfl⟩ rfl hl.1 rfl (Nat.le_of_ble_eq_true rfl) dL_law_803 ⟨by omega, by omega⟩ (fun r w803 H locs hM hw => ?_)
  obtain ⟨hr, hn_this, hfr⟩ := hw
  rw [hr]
  have hp_p1 := hp_p1.keep hfr (by omega)
  have hp_p3 := hfr.keep hp_p3 (by omega)
  have hp_p4 := hfr.keep hp_p4 (by omega)
  have hp_p2 := hn_this
  refine lv_istore (lv' := [(7, .int q803.1), (6, .int q785.1), (0, .ref b), (1, .ref b1), (2, .ref b2), (3, .ref a3), (4, .ref a4), (5, .int x5)]) hx hb dL_law_806 hl (by decide) rfl (fun ls hl => ?_)
  refine lv_aload_n hx hb dL_law_808 rfl (lv_at hl 4 rfl) ?_
  obtain ⟨q809, hq809, hf⟩ := mm_bd hf
  refine mm_Vi (rest := []) hC hM (c_X13_thrown l hq809 hp_p2) q7_87 q1_12 ykX13_thrown q7_84 q7_85 q7_86 hp_p2.1 rfl ⟨rfl, rfl⟩ ⟨Nat.le_of_ble_eq_true rfl, Nat.le_of_ble_eq_true rfl⟩ rfl hl.1 rfl (Nat.le_of_ble_eq_true rfl) dL_law_809 ⟨by omega, by omega⟩ (fun r w809 H locs hM hw => ?_)
  obtain ⟨hr, hw⟩ := hw
  rw [hr]
  rw [hw] at hM
  refine lv_iload hx hb dL_law_812 (lv_at hl 1 rfl) ?_
  refine lv_icmp_eq (tgt := 819) hx hb dL_law_814 (by decide) (fun hcd => ?_) (fun hcd => ?_)
  · rw [if_pos hcd] at hf
    refine lv_iload hx hb dL_law_819 (lv_at hl 1 rfl) ?_
    refine lv_if_ne (tgt := 836) hx hb dL_law_821 (by decide) (fun hcd => ?_) (fun hcd => ?_)
    · rw [if_neg hcd] at hf
      refine lv_goto (tgt := 3345) hx hb dL_law_836 (by decide) ?_
      cases hf
      exact W.widen (by omega) (by omega) (hk _ _ _ hM hp_p1 hp_p2 hp_p3 hp_p4 _ (lv_sub hl [2, 3, 4, 5, 6, 7] rfl))
    · rw [if_pos hcd] at hf
      refine lv_aload_n hx hb dL_law_824 rfl (lv_at hl 5 rfl) ?_
      refine lv_iconst (v := 0) hx hb dL_law_825 (by decide) ?_
      refine mm_lald0 hC hM hp_p3 dL_law_826 ?_
      refine lv_iload hx hb dL_law_827 (lv_at hl 0 rfl) ?_
      refine lv_i2l hx hb dL_law_829 rfl ?_
      refine W.lcmp hx hb dL_law_830 ?_
      refine lv_if_eq (tgt := 836) hx hb dL_law_831 (by decide) (fun hcd => ?_) (fun hcd => ?_)
      · rw [if_pos hcd] at hf
        refine lv_goto (tgt := 3345) hx hb dL_law_836 (by decide) ?_
        cases hf
        exact W.widen (by omega) (by omega) (hk _ _ _ hM hp_p1 hp_p2 hp_p3 hp_p4 _ (lv_sub hl [2, 3, 4, 5, 6, 7] rfl))
      · rw [if_neg hcd] at hf
        refine lv_iconst (v := 0) hx hb dL_law_834 (by decide) ?_
        cases hf
  · rw [if_neg hcd] at hf
    refine lv_iconst (v := 0) hx hb dL_law_817 (by decide) ?_
    cases hf
def g_law12 (K : Nat) (p1_marsh_reeds_states : Nat → Int32) (p1_marsh_reeds_count : Int32) (p1_marsh_reeds_broken : Int32) (p1_marsh_fleet_numbers : Nat → Int32) (p1_marsh_fleet_cells : Nat → Int32) (p1_marsh_fleet_fares : Nat → Int32) (p1_marsh_fleet_count : Int32) (p1_marsh_fleet_nextNumber : Int32) (p1_marsh_fleet_total : Int32) (p1_marsh_fleet_removedFares : Int32) (p1_marsh_fleet_meetings : Int32) (p1_marsh_plans_moves : Nat → Int32) (p1_marsh_plans_lengths : Nat → Int32) (p1_marsh_landings_cells : Nat → Int32) (p1_marsh_landings_count : Int32) (p1_marsh_fogSide : Int32) (p1_history_slots : Nat → mm_MV) (p1_history_free : Int32) (p1_history_count : Int32) (p2_changes : Int32) (p2_v : Nat → Int32) (p2_before : Nat → Int32) (p2_past : Nat → Int32) (p3 : Nat → Int64) (x1 : Int32) : Option ((Nat → Int32) × (Nat → Int32) × (Nat → Int32) × Int32 × Int32 × (Nat → mm_MV) × Int32 × Int32 × Int32 × Int32 × (Nat → Int32) × (Nat → Int32) × (Nat → Int32) × (Nat → Int64)) := (f_L_removeBoat K p1_marsh_reeds_states p1_marsh_reeds_count p1_marsh_reeds_broken p1_marsh_fleet_numbers p1_marsh_fleet_cells p1_marsh_fleet_fares p1_marsh_fleet_count p1_marsh_fleet_nextNumber p1_marsh_fleet_total p1_marsh_fleet_removedFares p1_marsh_fleet_meetings p1_marsh_plans_moves p1_marsh_plans_lengths p1_marsh_landings_cells p1_marsh_landings_count p1_marsh_fogSide p1_history_slots p1_history_free p1_history_count p3 x1).bind fun q847 => (f_X13_removeBoat K p2_changes p2_v p2_before p2_past x1).bind fun q859 => (f_X13_thrown q859.2.1).bind fun q865 => if q865 = q847.1 then if q847.1 = 0 then if (lg_cmp (q847.2.2.2.2.2.2.2.2.2 0) q859.1.toInt64) = 0 then some (q847.2.1, q847.2.2.1, q847.2.2.2.1, q847.2.2.2.2.1, q847.2.2.2.2.2.1, q847.2.2.2.2.2.2.1, q847.2.2.2.2.2.2.2.1, q847.2.2.2.2.2.2.2.2.1, q859.2.1, q859.2.2.1, q859.2.2.2.1, q859.2.2.2.2.1, q859.2.2.2.2.2, q847.2.2.2.2.2.2.2.2.2) else none else some (q847.2.1, q847.2.2.1, q847.2.2.2.1, q847.2.2.2.2.1, q847.2.2.2.2.2.1, q847.2.2.2.2.2.2.1, q847.2.2.2.2.2.2.2.1, q847.2.2.2.2.2.2.2.2.1, q859.2.1, q859.2.2.1, q859.2.2.2.1, q859.2.2.2.2.1, q859.2.2.2.2.2, q847.2.2.2.2.2.2.2.2.2) else none
set_option maxHeartbeats 4000000 in
set_option maxRecDepth 100000 in
theorem g_law12_c (hC : mm_C G A p s m c code 10 args "MirrorFerryLaw") (hsX : va_X b L xs s s.heap) (hbl : b < s.heap.size) (hbA : ¬ A b) (hd1 : b1 + 152 ≤ b2) (hd2 : b2 + 13 ≤ a3) (hd3 : a3 + 1 ≤ a4) (hrc : cells + 1000 ≤ room_1.cells) (hrs : slots + 10000 ≤ room_1.slots) (hfl : l.stackTraces = false) {K : Nat} {p1_marsh_reeds_states : Nat → Int32} {p1_marsh_reeds_count : Int32} {p1_marsh_reeds_broken : Int32} {p1_marsh_fleet_numbers : Nat → Int32} {p1_marsh_fleet_cells : Nat → Int32} {p1_marsh_fleet_fares : Nat → Int32} {p1_marsh_fleet_count : Int32} {p1_marsh_fleet_nextNumber : Int32} {p1_marsh_fleet_total : Int32} {p1_marsh_fleet_removedFares : Int32} {p1_marsh_fleet_meetings : Int32} {p1_marsh_plans_moves : Nat → Int32} {p1_marsh_plans_lengths : Nat → Int32} {p1_marsh_landings_cells : Nat → Int32} {p1_marsh_landings_count : Int32} {p1_marsh_fogSide : Int32} {p1_snapshot_reeds_states : Nat → Int32} {p1_snapshot_reeds_count : Int32} {p1_snapshot_reeds_broken : Int32} {p1_snapshot_fleet_numbers : Nat → Int32} {p1_snapshot_fleet_cells : Nat → Int32} {p1_snapshot_fleet_fares : Nat → Int32} {p1_snapshot_fleet_count : Int32} {p1_snapshot_fleet_nextNumber : Int32} {p1_snapshot_fleet_total : Int32} {p1_snapshot_fleet_removedFares : Int32} {p1_snapshot_fleet_meetings : Int32} {p1_snapshot_plans_moves : Nat → Int32} {p1_snapshot_plans_lengths : Nat → Int32} {p1_snapshot_landings_cells : Nat → Int32} {p1_snapshot_landings_count : Int32} {p1_snapshot_fogSide : Int32} {p1_history_slots : Nat → mm_MV} {p1_history_free : Int32} {p1_history_count : Int32} {p1_ways_tolls : Nat → Int32} {p1_ways_queue : Nat → Int32} {p1_ways_heap : Nat → Int32} {p1_ways_heapSize : Int32} {p1_ways_found : Nat → Int32} {p1_ways_improved : Nat → Int32} {p1_pairing_costs : Nat → Int32} {p1_pairing_best : Nat → Int32} {p1_reader_kinds : Nat → Int32} {p1_reader_starts : Nat → Int32} {p1_reader_count : Int32} {p1_commandText_signs : Nat → Int32} {p1_commandText_length : Int32} {p1_line_signs : Nat → Int32} {p1_line_length : Int32} {p1_spareMoves : Nat → Int32} {p1_snapshotTaken : Int32} {p1_lastErrorPosition : Int32} {p1_lastFailedCommand : Int32} {p2_thrown : Int32} {p2_changes : Int32} {p2_errorAt : Int32} {p2_failedAt : Int32} {p2_isSaved : Int32} {p2_v : Nat → Int32} {p2_before : Nat → Int32} {p2_saved : Nat → Int32} {p2_past : Nat → Int32} {p2_far : Nat → Int32} {p2_scratch : Nat → Int32} {p2_best : Nat → Int32} {p2_thenX : Int32} {p2_thenY : Int32} {p2_thenMet : Int32} {p2_text : Nat → Int32} {p2_line : Nat → Int32} {p2_isLeft : Nat → Int32} {p2_words : Nat → Int32} {p2_wordAt : Nat → Int32} {p2_textN : Int32} {p2_hereP : Int32} {p2_endP : Int32} {p2_lineN : Int32} {p2_isWrong : Int32} {p2_isDoing : Int32} {p3 : Nat → Int64} {p4 : Nat → UInt64} {x0 x1 x2 x3 x4 x5 : Int32} {X : (Nat → Int32) × (Nat → Int32) × (Nat → Int32) × Int32 × Int32 × (Nat → mm_MV) × Int32 × Int32 × Int32 × Int32 × (Nat → Int32) × (Nat → Int32) × (Nat → Int32) × (Nat → Int64)} (hf : g_law12 K p1_marsh_reeds_states p1_marsh_reeds_count p1_marsh_reeds_broken p1_marsh_fleet_numbers p1_marsh_fleet_cells p1_marsh_fleet_fares p1_marsh_fleet_count p1_marsh_fleet_nextNumber p1_marsh_fleet_total p1_marsh_fleet_removedFares p1_marsh_fleet_meetings p1_marsh_plans_moves p1_marsh_plans_lengths p1_marsh_landings_cells p1_marsh_landings_count p1_marsh_fogSide p1_history_slots p1_history_free p1_history_count p2_changes p2_v p2_before p2_past p3 x1 = some X) (hp_p1 : At12 G w b1 p1_marsh_reeds_states p1_marsh_reeds_count p1_marsh_reeds_broken p1_marsh_fleet_numbers p1_marsh_fleet_cells p1_marsh_fleet_fares p1_marsh_fleet_count p1_marsh_fleet_nextNumber p1_marsh_fleet_total p1_marsh_fleet_removedFares p1_marsh_fleet_meetings p1_marsh_plans_moves p1_marsh_plans_lengths p1_marsh_landings_cells p1_marsh_landings_count p1_marsh_fogSide p1_snapshot_reeds_states p1_snapshot_reeds_count p1_snapshot_reeds_broken p1_snapshot_fleet_numbers p1_snapshot_fleet_cells p1_snapshot_fleet_fares p1_snapshot_fleet_count p1_snapshot_fleet_nextNumber p1_snapshot_fleet_total p1_snapshot_fleet_removedFares p1_snapshot_fleet_meetings p1_snapshot_plans_moves p1_snapshot_plans_lengths p1_snapshot_landings_cells p1_snapshot_landings_count p1_snapshot_fogSide p1_history_slots p1_history_free p1_history_count p1_ways_tolls p1_ways_queue p1_ways_heap p1_ways_heapSize p1_ways_found p1_ways_improved p1_pairing_costs p1_pairing_best p1_reader_kinds p1_reader_starts p1_reader_count p1_commandText_signs p1_commandText_length p1_line_signs p1_line_length p1_spareMoves p1_snapshotTaken p1_lastErrorPosition p1_lastFailedCommand) (hp_p2 : At13 G w b2 p2_thrown p2_changes p2_errorAt p2_failedAt p2_isSaved p2_v p2_before p2_saved p2_past p2_far p2_scratch p2_best p2_thenX p2_thenY p2_thenMet p2_text p2_line p2_isLeft p2_words p2_wordAt p2_textN p2_hereP p2_endP p2_lineN p2_isWrong p2_isDoing) (hp_p3 : (a3, (.inl (G.2 3, 1, .inr (.inl p3)) : va_E)) ∈ w) (hp_p4 : (a4, (.inl (G.2 4, 1, .inr (.inr (.inr (.inl p4)))) : va_E)) ∈ w)
    (hsc : ∀ k : Nat, k < 5 → vp_in (x5 + Int32.ofNat k) L ∧ xs (x5 + Int32.ofNat k).toNatClampNeg = mm_x5 x0 x1 x2 x3 x4 k) (hM : mm_S G A s.heap w H locs)
    (hk : ∀ (w : va_W) (H : Heap) (locs : List Loc), mm_S G A s.heap w H locs → At12 G w b1 p1_marsh_reeds_states p1_marsh_reeds_count p1_marsh_reeds_broken X.1 X.2.1 X.2.2.1 X.2.2.2.1 p1_marsh_fleet_nextNumber p1_marsh_fleet_total X.2.2.2.2.1 p1_marsh_fleet_meetings p1_marsh_plans_moves p1_marsh_plans_lengths p1_marsh_landings_cells p1_marsh_landings_count p1_marsh_fogSide p1_snapshot_reeds_states p1_snapshot_reeds_count p1_snapshot_reeds_broken p1_snapshot_fleet_numbers p1_snapshot_fleet_cells p1_snapshot_fleet_fares p1_snapshot_fleet_count p1_snapshot_fleet_nextNumber p1_snapshot_fleet_total p1_snapshot_fleet_removedFares p1_snapshot_fleet_meetings p1_snapshot_plans_moves p1_snapshot_plans_lengths p1_snapshot_landings_cells p1_snapshot_landings_count p1_snapshot_fogSide X.2.2.2.2.2.1 X.2.2.2.2.2.2.1 X.2.2.2.2.2.2.2.1 p1_ways_tolls p1_ways_queue p1_ways_heap p1_ways_heapSize p1_ways_found p1_ways_improved p1_pairing_costs p1_pairing_best p1_reader_kinds p1_reader_starts p1_reader_count p1_commandText_signs p1_commandText_length p1_line_signs p1_line_length p1_spareMoves p1_snapshotTaken p1_lastErrorPosition p1_lastFailedCommand → At13 G w b2 X.2.2.2.2.2.2.2.2.1 X.2.2.2.2.2.2.2.2.2.1 p2_errorAt p2_failedAt p2_isSaved X.2.2.2.2.2.2.2.2.2.2.1 X.2.2.2.2.2.2.2.2.2.2.2.1 p2_saved X.2.2.2.2.2.2.2.2.2.2.2.2.1 p2_far p2_scratch p2_best p2_thenX p2_thenY p2_thenMet p2_text p2_line p2_isLeft p2_words p2_wordAt p2_textN p2_hereP p2_endP p2_lineN p2_isWrong p2_isDoing → (a3, (.inl (G.2 3, 1, .inr (.inl X.2.2.2.2.2.2.2.2.2.2.2.2.2)) : va_E)) ∈ w → (a4, (.inl (G.2 4, 1, .inr (.inr (.inr (.inl p4)))) : va_E)) ∈ w → ∀ ls, lv_has ls 10 [(0, .ref b), (1, .ref b1), (2, .ref b2), (3, .ref a3), (4, .ref a4), (5, .int x5)] → W p l e room_1 s m args below meth c H locs (cells + 1000) (slots + 10000) Q (F0 m 3345 ls [])) (ls : Array Slot) (hl : lv_has ls 10 [(0, .ref b), (1, .ref b1), (2, .ref b2), (3, .ref a3), (4, .ref a4), (5, .int x5)]) : W p l e room_1 s m args below meth c H locs cells slots Q (F0 m 839 ls []) := by
  have hx := hC.1.1
  have hb := hC.1.2.1
  rw [g_law12] at hf
  refine lv_aload_n hx hb dL_law_839 rfl (lv_at hl 1 rfl) ?_
  refine lv_aload_n hx hb dL_law_840 rfl (lv_at hl 0 rfl) ?_
  refine lv_iload hx hb dL_law_841 (lv_at hl 5 rfl) ?_
  refine lv_iconst (v := 1) hx hb dL_law_843 (by decide) ?_
  refine lv_iadd hx hb dL_law_844 ?_
  refine mm_sld hC hM hsX hbl hbA (hsc 1 (by decide)).1 (hsc 1 (by decide)).2 dL_law_845 ?_
  refine lv_aload_n hx hb dL_law_846 rfl (lv_at hl 3 rfl) ?_
  obtain ⟨q847, hq847, hf⟩ := mm_bd hf
  refine mm_SiW (rest := []) hC hM (c_L_removeBoat l hfl hq847 hp_p1 hp_p3 (by omega)) q4_129 q1_0 ykL_removeBoat q4_127 q4_128 ⟨rfl, rfl⟩ ⟨Nat.le_of_ble_eq_true rfl, Nat.le_of_ble_eq_true rfl⟩ rfl hl.1 rfl (Nat.le_of_ble_eq_true rfl) dL_law_847 ⟨by omega, by omega⟩ (fun r w847 H locs hM hw => ?_)
  obtain ⟨hr, hn_p0, hn_p2, hfr⟩ := hw
  rw [hr]
  have hp_p2 := hp_p2.keep2 hfr (by omega) (by omega)
  have hp_p4 := hfr.keep hp_p4 (by omega) (by omega)
  have hp_p1 := hn_p0
  have hp_p3 := hn_p2
  refine lv_istore (lv' := [(6, .int q847.1), (0, .ref b), (1, .ref b1), (2, .ref b2), (3, .ref a3), (4, .ref a4), (5, .int x5)]) hx hb dL_law_850 hl (by decide) rfl (fun ls hl => ?_)
  refine lv_aload_n hx hb dL_law_852 rfl (lv_at hl 3 rfl) ?_
  refine lv_aload_n hx hb dL_law_853 rfl (lv_at hl 1 rfl) ?_
  refine lv_iload hx hb dL_law_854 (lv_at hl 6 rfl) ?_
  refine lv_iconst (v := 1) hx hb dL_law_856 (by decide) ?_
  refine lv_iadd hx hb dL_law_857 ?_
  refine mm_sld hC hM hsX hbl hbA (hsc 1 (by decide)).1 (hsc 1 (by decide)).2 dL_law_858 ?_
  obtain ⟨q859, hq859, hf⟩ := mm_bd hf
  refine mm_Vi (rest := []) hC hM (c_X13_removeBoat l hq859 hp_p2) q7_214 q1_12 ykX13_removeBoat q7_211 q7_212 q7_213 hp_p2.1 rfl ⟨rfl, rfl⟩ ⟨Nat.le_of_ble_eq_true rfl, Nat.le_of_ble_eq_true rfl⟩ rfl hl.1 rfl (Nat.le_of_ble_eq_true rfl) dL_law_859 ⟨by omega, by omega⟩ (fun r w859 H locs hM hw => ?_)
  obtain ⟨hr, hn_this, hfr⟩ := hw
  rw [hr]
  have hp_p1 := hp_p1.keep hfr (by omega)
  have hp_p3 := hfr.keep hp_p3 (by omega)
  have hp_p4 := hfr.keep hp_p4 (by omega)
  have hp_p2 := hn_this
  refine lv_istore (lv' := [(7, .int q859.1), (6, .int q847.1), (0, .ref b), (1, .ref b1), (2, .ref b2), (3, .ref a3), (4, .ref a4), (5, .int x5)]) hx hb dL_law_862 hl (by decide) rfl (fun ls hl => ?_)
  refine lv_aload_n hx hb dL_law_864 rfl (lv_at hl 4 rfl) ?_
  obtain ⟨q865, hq865, hf⟩ := mm_bd hf
  refine mm_Vi (rest := []) hC hM (c_X13_thrown l hq865 hp_p2) q7_87 q1_12 ykX13_thrown q7_84 q7_85 q7_86 hp_p2.1 rfl ⟨rfl, rfl⟩ ⟨Nat.le_of_ble_eq_true rfl, Nat.le_of_ble_eq_true rfl⟩ rfl hl.1 rfl (Nat.le_of_ble_eq_true rfl) dL_law_865 ⟨by omega, by omega⟩ (fun r w865 H locs hM hw => ?_)
  obtain ⟨hr, hw⟩ := hw
  rw [hr]
  rw [hw] at hM
  refine lv_iload hx hb dL_law_868 (lv_at hl 1 rfl) ?_
  refine lv_icmp_eq (tgt := 875) hx hb dL_law_870 (by decide) (fun hcd => ?_) (fun hcd => ?_)
  · rw [if_pos hcd] at hf
    refine lv_iload hx hb dL_law_875 (lv_at hl 1 rfl) ?_
    refine lv_if_ne (tgt := 892) hx hb dL_law_877 (by decide) (fun hcd => ?_) (fun hcd => ?_)
    · rw [if_neg hcd] at hf
      refine lv_goto (tgt := 3345) hx hb dL_law_892 (by decide) ?_
      cases hf
      exact W.widen (by omega) (by omega) (hk _ _ _ hM hp_p1 hp_p2 hp_p3 hp_p4 _ (lv_sub hl [2, 3, 4, 5, 6, 7] rfl))
    · rw [if_pos hcd] at hf
      refine lv_aload_n hx hb dL_law_880 rfl (lv_at hl 5 rfl) ?_
      refine lv_iconst (v := 0) hx hb dL_law_881 (by decide) ?_
      refine mm_lald0 hC hM hp_p3 dL_law_882 ?_
      refine lv_iload hx hb dL_law_883 (lv_at hl 0 rfl) ?_
      refine lv_i2l hx hb dL_law_885 rfl ?_
      refine W.lcmp hx hb dL_law_886 ?_
      refine lv_if_eq (tgt := 892) hx hb dL_law_887 (by decide) (fun hcd => ?_) (fun hcd => ?_)
      · rw [if_pos hcd] at hf
        refine lv_goto (tgt := 3345) hx hb dL_law_892 (by decide) ?_
        cases hf
        exact W.widen (by omega) (by omega) (hk _ _ _ hM hp_p1 hp_p2 hp_p3 hp_p4 _ (lv_sub hl [2, 3, 4, 5, 6, 7] rfl))
      · rw [if_neg hcd] at hf
        refine lv_iconst (v := 0) hx hb dL_law_890 (by decide) ?_
        cases hf
  · rw [if_neg hcd] at hf
    refine lv_iconst (v := 0) hx hb dL_law_873 (by decide) ?_
    cases hf
def g_law13 (p1_marsh_fleet_count : Int32) (p2_v : Nat → Int32) : Option (Int32) := (f_X12_boatCount p1_marsh_fleet_count).bind fun q896 => (f_X13_boatCount p2_v).bind fun q900 => if q896 = q900.1 then some q900.2 else none
set_option maxHeartbeats 4000000 in
set_option maxRecDepth 100000 in
theorem g_law13_c (hC : mm_C G A p s m c code 10 args "MirrorFerryLaw") (hsX : va_X b L xs s s.heap) (hbl : b < s.heap.size) (hbA : ¬ A b) (hd1 : b1 + 152 ≤ b2) (hd2 : b2 + 13 ≤ a3) (hd3 : a3 + 1 ≤ a4) (hrc : cells + 1000 ≤ room_1.cells) (hrs : slots + 10000 ≤ room_1.slots) (hfl : l.stackTraces = false) {p1_marsh_reeds_states : Nat → Int32} {p1_marsh_reeds_count : Int32} {p1_marsh_reeds_broken : Int32} {p1_marsh_fleet_numbers : Nat → Int32} {p1_marsh_fleet_cells : Nat → Int32} {p1_marsh_fleet_fares : Nat → Int32} {p1_marsh_fleet_count : Int32} {p1_marsh_fleet_nextNumber : Int32} {p1_marsh_fleet_total : Int32} {p1_marsh_fleet_removedFares : Int32} {p1_marsh_fleet_meetings : Int32} {p1_marsh_plans_moves : Nat → Int32} {p1_marsh_plans_lengths : Nat → Int32} {p1_marsh_landings_cells : Nat → Int32} {p1_marsh_landings_count : Int32} {p1_marsh_fogSide : Int32} {p1_snapshot_reeds_states : Nat → Int32} {p1_snapshot_reeds_count : Int32} {p1_snapshot_reeds_broken : Int32} {p1_snapshot_fleet_numbers : Nat → Int32} {p1_snapshot_fleet_cells : Nat → Int32} {p1_snapshot_fleet_fares : Nat → Int32} {p1_snapshot_fleet_count : Int32} {p1_snapshot_fleet_nextNumber : Int32} {p1_snapshot_fleet_total : Int32} {p1_snapshot_fleet_removedFares : Int32} {p1_snapshot_fleet_meetings : Int32} {p1_snapshot_plans_moves : Nat → Int32} {p1_snapshot_plans_lengths : Nat → Int32} {p1_snapshot_landings_cells : Nat → Int32} {p1_snapshot_landings_count : Int32} {p1_snapshot_fogSide : Int32} {p1_history_slots : Nat → mm_MV} {p1_history_free : Int32} {p1_history_count : Int32} {p1_ways_tolls : Nat → Int32} {p1_ways_queue : Nat → Int32} {p1_ways_heap : Nat → Int32} {p1_ways_heapSize : Int32} {p1_ways_found : Nat → Int32} {p1_ways_improved : Nat → Int32} {p1_pairing_costs : Nat → Int32} {p1_pairing_best : Nat → Int32} {p1_reader_kinds : Nat → Int32} {p1_reader_starts : Nat → Int32} {p1_reader_count : Int32} {p1_commandText_signs : Nat → Int32} {p1_commandText_length : Int32} {p1_line_signs : Nat → Int32} {p1_line_length : Int32} {p1_spareMoves : Nat → Int32} {p1_snapshotTaken : Int32} {p1_lastErrorPosition : Int32} {p1_lastFailedCommand : Int32} {p2_thrown : Int32} {p2_changes : Int32} {p2_errorAt : Int32} {p2_failedAt : Int32} {p2_isSaved : Int32} {p2_v : Nat → Int32} {p2_before : Nat → Int32} {p2_saved : Nat → Int32} {p2_past : Nat → Int32} {p2_far : Nat → Int32} {p2_scratch : Nat → Int32} {p2_best : Nat → Int32} {p2_thenX : Int32} {p2_thenY : Int32} {p2_thenMet : Int32} {p2_text : Nat → Int32} {p2_line : Nat → Int32} {p2_isLeft : Nat → Int32} {p2_words : Nat → Int32} {p2_wordAt : Nat → Int32} {p2_textN : Int32} {p2_hereP : Int32} {p2_endP : Int32} {p2_lineN : Int32} {p2_isWrong : Int32} {p2_isDoing : Int32} {p3 : Nat → Int64} {p4 : Nat → UInt64} {x0 x1 x2 x3 x4 x5 : Int32} {X : Int32} (hf : g_law13 p1_marsh_fleet_count p2_v = some X) (hp_p1 : At12 G w b1 p1_marsh_reeds_states p1_marsh_reeds_count p1_marsh_reeds_broken p1_marsh_fleet_numbers p1_marsh_fleet_cells p1_marsh_fleet_fares p1_marsh_fleet_count p1_marsh_fleet_nextNumber p1_marsh_fleet_total p1_marsh_fleet_removedFares p1_marsh_fleet_meetings p1_marsh_plans_moves p1_marsh_plans_lengths p1_marsh_landings_cells p1_marsh_landings_count p1_marsh_fogSide p1_snapshot_reeds_states p1_snapshot_reeds_count p1_snapshot_reeds_broken p1_snapshot_fleet_numbers p1_snapshot_fleet_cells p1_snapshot_fleet_fares p1_snapshot_fleet_count p1_snapshot_fleet_nextNumber p1_snapshot_fleet_total p1_snapshot_fleet_removedFares p1_snapshot_fleet_meetings p1_snapshot_plans_moves p1_snapshot_plans_lengths p1_snapshot_landings_cells p1_snapshot_landings_count p1_snapshot_fogSide p1_history_slots p1_history_free p1_history_count p1_ways_tolls p1_ways_queue p1_ways_heap p1_ways_heapSize p1_ways_found p1_ways_improved p1_pairing_costs p1_pairing_best p1_reader_kinds p1_reader_starts p1_reader_count p1_commandText_signs p1_commandText_length p1_line_signs p1_line_length p1_spareMoves p1_snapshotTaken p1_lastErrorPosition p1_lastFailedCommand) (hp_p2 : At13 G w b2 p2_thrown p2_changes p2_errorAt p2_failedAt p2_isSaved p2_v p2_before p2_saved p2_past p2_far p2_scratch p2_best p2_thenX p2_thenY p2_thenMet p2_text p2_line p2_isLeft p2_words p2_wordAt p2_textN p2_hereP p2_endP p2_lineN p2_isWrong p2_isDoing) (hp_p3 : (a3, (.inl (G.2 3, 1, .inr (.inl p3)) : va_E)) ∈ w) (hp_p4 : (a4, (.inl (G.2 4, 1, .inr (.inr (.inr (.inl p4)))) : va_E)) ∈ w)
    (hsc : ∀ k : Nat, k < 5 → vp_in (x5 + Int32.ofNat k) L ∧ xs (x5 + Int32.ofNat k).toNatClampNeg = mm_x5 x0 x1 x2 x3 x4 k) (hM : mm_S G A s.heap w H locs)
    (hk : ∀ (w : va_W) (H : Heap) (locs : List Loc), mm_S G A s.heap w H locs → At12 G w b1 p1_marsh_reeds_states p1_marsh_reeds_count p1_marsh_reeds_broken p1_marsh_fleet_numbers p1_marsh_fleet_cells p1_marsh_fleet_fares p1_marsh_fleet_count p1_marsh_fleet_nextNumber p1_marsh_fleet_total p1_marsh_fleet_removedFares p1_marsh_fleet_meetings p1_marsh_plans_moves p1_marsh_plans_lengths p1_marsh_landings_cells p1_marsh_landings_count p1_marsh_fogSide p1_snapshot_reeds_states p1_snapshot_reeds_count p1_snapshot_reeds_broken p1_snapshot_fleet_numbers p1_snapshot_fleet_cells p1_snapshot_fleet_fares p1_snapshot_fleet_count p1_snapshot_fleet_nextNumber p1_snapshot_fleet_total p1_snapshot_fleet_removedFares p1_snapshot_fleet_meetings p1_snapshot_plans_moves p1_snapshot_plans_lengths p1_snapshot_landings_cells p1_snapshot_landings_count p1_snapshot_fogSide p1_history_slots p1_history_free p1_history_count p1_ways_tolls p1_ways_queue p1_ways_heap p1_ways_heapSize p1_ways_found p1_ways_improved p1_pairing_costs p1_pairing_best p1_reader_kinds p1_reader_starts p1_reader_count p1_commandText_signs p1_commandText_length p1_line_signs p1_line_length p1_spareMoves p1_snapshotTaken p1_lastErrorPosition p1_lastFailedCommand → At13 G w b2 X p2_changes p2_errorAt p2_failedAt p2_isSaved p2_v p2_before p2_saved p2_past p2_far p2_scratch p2_best p2_thenX p2_thenY p2_thenMet p2_text p2_line p2_isLeft p2_words p2_wordAt p2_textN p2_hereP p2_endP p2_lineN p2_isWrong p2_isDoing → (a3, (.inl (G.2 3, 1, .inr (.inl p3)) : va_E)) ∈ w → (a4, (.inl (G.2 4, 1, .inr (.inr (.inr (.inl p4)))) : va_E)) ∈ w → ∀ ls, lv_has ls 10 [(0, .ref b), (1, .ref b1), (2, .ref b2), (3, .ref a3), (4, .ref a4), (5, .int x5)] → W p l e room_1 s m args below meth c H locs (cells + 1000) (slots + 10000) Q (F0 m 3345 ls [])) (ls : Array Slot) (hl : lv_has ls 10 [(0, .ref b), (1, .ref b1), (2, .ref b2), (3, .ref a3), (4, .ref a4), (5, .int x5)]) : W p l e room_1 s m args below meth c H locs cells slots Q (F0 m 895 ls []) := by
  have hx := hC.1.1
  have hb := hC.1.2.1
  rw [g_law13] at hf
  refine lv_aload_n hx hb dL_law_895 rfl (lv_at hl 1 rfl) ?_
  obtain ⟨q896, hq896, hf⟩ := mm_bd hf
  refine mm_Vi (rest := []) hC hM (c_X12_boatCount l hq896 hp_p1) q2_97 q1_1 ykX12_boatCount q2_94 q2_95 q2_96 hp_p1.1 rfl ⟨rfl, rfl⟩ ⟨Nat.le_of_ble_eq_true rfl, Nat.le_of_ble_eq_true rfl⟩ rfl hl.1 rfl (Nat.le_of_ble_eq_true rfl) dL_law_896 ⟨by omega, by omega⟩ (fun r w896 H locs hM hw => ?_)
  obtain ⟨hr, hw⟩ := hw
  rw [hr]
  rw [hw] at hM
  refine lv_aload_n hx hb dL_law_899 rfl (lv_at hl 2 rfl) ?_
  obtain ⟨q900, hq900, hf⟩ := mm_bd hf
  refine mm_Vi (rest := [.int q896]) hC hM (c_X13_boatCount l hq900 hp_p2) q7_226 q1_12 ykX13_boatCount q7_223 q7_224 q7_225 hp_p2.1 rfl ⟨rfl, rfl⟩ ⟨Nat.le_of_ble_eq_true rfl, Nat.le_of_ble_eq_true rfl⟩ rfl hl.1 rfl (Nat.le_of_ble_eq_true rfl) dL_law_900 ⟨by omega, by omega⟩ (fun r w900 H locs hM hw => ?_)
  obtain ⟨hr, hn_this, hfr⟩ := hw
  rw [hr]
  have hp_p1 := hp_p1.keep hfr (by omega)
  have hp_p3 := hfr.keep hp_p3 (by omega)
  have hp_p4 := hfr.keep hp_p4 (by omega)
  have hp_p2 := hn_this
  refine lv_icmp_eq (tgt := 3345) hx hb dL_law_903 (by decide) (fun hcd => ?_) (fun hcd => ?_)
  · rw [if_pos hcd] at hf
    cases hf
    exact W.widen (by omega) (by omega) (hk _ _ _ hM hp_p1 hp_p2 hp_p3 hp_p4 _ (lv_sub hl [0, 1, 2, 3, 4, 5] rfl))
  · rw [if_neg hcd] at hf
    refine lv_iconst (v := 0) hx hb dL_law_906 (by decide) ?_
    cases hf
def g_law14 (p1_marsh_fleet_numbers : Nat → Int32) (p1_marsh_fleet_count : Int32) (p2_v : Nat → Int32) (p3 : Nat → Int64) (x1 : Int32) : Option (Int32 × (Nat → Int64)) := (f_L_boatAt p1_marsh_fleet_numbers p1_marsh_fleet_count p3 x1).bind fun q916 => (f_X13_boatAt p2_v x1).bind fun q928 => (f_X13_thrown q928.2).bind fun q934 => if q934 = q916.1 then if q916.1 = 0 then if (lg_cmp (q916.2 0) q928.1.toInt64) = 0 then some (q928.2, q916.2) else none else some (q928.2, q916.2) else none
set_option maxHeartbeats 4000000 in
set_option maxRecDepth 100000 in
theorem g_law14_c (hC : mm_C G A p s m c code 10 args "MirrorFerryLaw") (hsX : va_X b L xs s s.heap) (hbl : b < s.heap.size) (hbA : ¬ A b) (hd1 : b1 + 152 ≤ b2) (hd2 : b2 + 13 ≤ a3) (hd3 : a3 + 1 ≤ a4) (hrc : cells + 1000 ≤ room_1.cells) (hrs : slots + 10000 ≤ room_1.slots) (hfl : l.stackTraces = false) {p1_marsh_reeds_states : Nat → Int32} {p1_marsh_reeds_count : Int32} {p1_marsh_reeds_broken : Int32} {p1_marsh_fleet_numbers : Nat → Int32} {p1_marsh_fleet_cells : Nat → Int32} {p1_marsh_fleet_fares : Nat → Int32} {p1_marsh_fleet_count : Int32} {p1_marsh_fleet_nextNumber : Int32} {p1_marsh_fleet_total : Int32} {p1_marsh_fleet_removedFares : Int32} {p1_marsh_fleet_meetings : Int32} {p1_marsh_plans_moves : Nat → Int32} {p1_marsh_plans_lengths : Nat → Int32} {p1_marsh_landings_cells : Nat → Int32} {p1_marsh_landings_count : Int32} {p1_marsh_fogSide : Int32} {p1_snapshot_reeds_states : Nat → Int32} {p1_snapshot_reeds_count : Int32} {p1_snapshot_reeds_broken : Int32} {p1_snapshot_fleet_numbers : Nat → Int32} {p1_snapshot_fleet_cells : Nat → Int32} {p1_snapshot_fleet_fares : Nat → Int32} {p1_snapshot_fleet_count : Int32} {p1_snapshot_fleet_nextNumber : Int32} {p1_snapshot_fleet_total : Int32} {p1_snapshot_fleet_removedFares : Int32} {p1_snapshot_fleet_meetings : Int32} {p1_snapshot_plans_moves : Nat → Int32} {p1_snapshot_plans_lengths : Nat → Int32} {p1_snapshot_landings_cells : Nat → Int32} {p1_snapshot_landings_count : Int32} {p1_snapshot_fogSide : Int32} {p1_history_slots : Nat → mm_MV} {p1_history_free : Int32} {p1_history_count : Int32} {p1_ways_tolls : Nat → Int32} {p1_ways_queue : Nat → Int32} {p1_ways_heap : Nat → Int32} {p1_ways_heapSize : Int32} {p1_ways_found : Nat → Int32} {p1_ways_improved : Nat → Int32} {p1_pairing_costs : Nat → Int32} {p1_pairing_best : Nat → Int32} {p1_reader_kinds : Nat → Int32} {p1_reader_starts : Nat → Int32} {p1_reader_count : Int32} {p1_commandText_signs : Nat → Int32} {p1_commandText_length : Int32} {p1_line_signs : Nat → Int32} {p1_line_length : Int32} {p1_spareMoves : Nat → Int32} {p1_snapshotTaken : Int32} {p1_lastErrorPosition : Int32} {p1_lastFailedCommand : Int32} {p2_thrown : Int32} {p2_changes : Int32} {p2_errorAt : Int32} {p2_failedAt : Int32} {p2_isSaved : Int32} {p2_v : Nat → Int32} {p2_before : Nat → Int32} {p2_saved : Nat → Int32} {p2_past : Nat → Int32} {p2_far : Nat → Int32} {p2_scratch : Nat → Int32} {p2_best : Nat → Int32} {p2_thenX : Int32} {p2_thenY : Int32} {p2_thenMet : Int32} {p2_text : Nat → Int32} {p2_line : Nat → Int32} {p2_isLeft : Nat → Int32} {p2_words : Nat → Int32} {p2_wordAt : Nat → Int32} {p2_textN : Int32} {p2_hereP : Int32} {p2_endP : Int32} {p2_lineN : Int32} {p2_isWrong : Int32} {p2_isDoing : Int32} {p3 : Nat → Int64} {p4 : Nat → UInt64} {x0 x1 x2 x3 x4 x5 : Int32} {X : Int32 × (Nat → Int64)} (hf : g_law14 p1_marsh_fleet_numbers p1_marsh_fleet_count p2_v p3 x1 = some X) (hp_p1 : At12 G w b1 p1_marsh_reeds_states p1_marsh_reeds_count p1_marsh_reeds_broken p1_marsh_fleet_numbers p1_marsh_fleet_cells p1_marsh_fleet_fares p1_marsh_fleet_count p1_marsh_fleet_nextNumber p1_marsh_fleet_total p1_marsh_fleet_removedFares p1_marsh_fleet_meetings p1_marsh_plans_moves p1_marsh_plans_lengths p1_marsh_landings_cells p1_marsh_landings_count p1_marsh_fogSide p1_snapshot_reeds_states p1_snapshot_reeds_count p1_snapshot_reeds_broken p1_snapshot_fleet_numbers p1_snapshot_fleet_cells p1_snapshot_fleet_fares p1_snapshot_fleet_count p1_snapshot_fleet_nextNumber p1_snapshot_fleet_total p1_snapshot_fleet_removedFares p1_snapshot_fleet_meetings p1_snapshot_plans_moves p1_snapshot_plans_lengths p1_snapshot_landings_cells p1_snapshot_landings_count p1_snapshot_fogSide p1_history_slots p1_history_free p1_history_count p1_ways_tolls p1_ways_queue p1_ways_heap p1_ways_heapSize p1_ways_found p1_ways_improved p1_pairing_costs p1_pairing_best p1_reader_kinds p1_reader_starts p1_reader_count p1_commandText_signs p1_commandText_length p1_line_signs p1_line_length p1_spareMoves p1_snapshotTaken p1_lastErrorPosition p1_lastFailedCommand) (hp_p2 : At13 G w b2 p2_thrown p2_changes p2_errorAt p2_failedAt p2_isSaved p2_v p2_before p2_saved p2_past p2_far p2_scratch p2_best p2_thenX p2_thenY p2_thenMet p2_text p2_line p2_isLeft p2_words p2_wordAt p2_textN p2_hereP p2_endP p2_lineN p2_isWrong p2_isDoing) (hp_p3 : (a3, (.inl (G.2 3, 1, .inr (.inl p3)) : va_E)) ∈ w) (hp_p4 : (a4, (.inl (G.2 4, 1, .inr (.inr (.inr (.inl p4)))) : va_E)) ∈ w)
    (hsc : ∀ k : Nat, k < 5 → vp_in (x5 + Int32.ofNat k) L ∧ xs (x5 + Int32.ofNat k).toNatClampNeg = mm_x5 x0 x1 x2 x3 x4 k) (hM : mm_S G A s.heap w H locs)
    (hk : ∀ (w : va_W) (H : Heap) (locs : List Loc), mm_S G A s.heap w H locs → At12 G w b1 p1_marsh_reeds_states p1_marsh_reeds_count p1_marsh_reeds_broken p1_marsh_fleet_numbers p1_marsh_fleet_cells p1_marsh_fleet_fares p1_marsh_fleet_count p1_marsh_fleet_nextNumber p1_marsh_fleet_total p1_marsh_fleet_removedFares p1_marsh_fleet_meetings p1_marsh_plans_moves p1_marsh_plans_lengths p1_marsh_landings_cells p1_marsh_landings_count p1_marsh_fogSide p1_snapshot_reeds_states p1_snapshot_reeds_count p1_snapshot_reeds_broken p1_snapshot_fleet_numbers p1_snapshot_fleet_cells p1_snapshot_fleet_fares p1_snapshot_fleet_count p1_snapshot_fleet_nextNumber p1_snapshot_fleet_total p1_snapshot_fleet_removedFares p1_snapshot_fleet_meetings p1_snapshot_plans_moves p1_snapshot_plans_lengths p1_snapshot_landings_cells p1_snapshot_landings_count p1_snapshot_fogSide p1_history_slots p1_history_free p1_history_count p1_ways_tolls p1_ways_queue p1_ways_heap p1_ways_heapSize p1_ways_found p1_ways_improved p1_pairing_costs p1_pairing_best p1_reader_kinds p1_reader_starts p1_reader_count p1_commandText_signs p1_commandText_length p1_line_signs p1_line_length p1_spareMoves p1_snapshotTaken p1_lastErrorPosition p1_lastFailedCommand → At13 G w b2 X.1 p2_changes p2_errorAt p2_failedAt p2_isSaved p2_v p2_before p2_saved p2_past p2_far p2_scratch p2_best p2_thenX p2_thenY p2_thenMet p2_text p2_line p2_isLeft p2_words p2_wordAt p2_textN p2_hereP p2_endP p2_lineN p2_isWrong p2_isDoing → (a3, (.inl (G.2 3, 1, .inr (.inl X.2)) : va_E)) ∈ w → (a4, (.inl (G.2 4, 1, .inr (.inr (.inr (.inl p4)))) : va_E)) ∈ w → ∀ ls, lv_has ls 10 [(0, .ref b), (1, .ref b1), (2, .ref b2), (3, .ref a3), (4, .ref a4), (5, .int x5)] → W p l e room_1 s m args below meth c H locs (cells + 1000) (slots + 10000) Q (F0 m 3345 ls [])) (ls : Array Slot) (hl : lv_has ls 10 [(0, .ref b), (1, .ref b1), (2, .ref b2), (3, .ref a3), (4, .ref a4), (5, .int x5)]) : W p l e room_1 s m args below meth c H locs cells slots Q (F0 m 908 ls []) := by
  have hx := hC.1.1
  have hb := hC.1.2.1
  rw [g_law14] at hf
  refine lv_aload_n hx hb dL_law_908 rfl (lv_at hl 1 rfl) ?_
  refine lv_aload_n hx hb dL_law_909 rfl (lv_at hl 0 rfl) ?_
  refine lv_iload hx hb dL_law_910 (lv_at hl 5 rfl) ?_
  refine lv_iconst (v := 1) hx hb dL_law_912 (by decide) ?_
  refine lv_iadd hx hb dL_law_913 ?_
  refine mm_sld hC hM hsX hbl hbA (hsc 1 (by decide)).1 (hsc 1 (by decide)).2 dL_law_914 ?_
  refine lv_aload_n hx hb dL_law_915 rfl (lv_at hl 3 rfl) ?_
  obtain ⟨q916, hq916, hf⟩ := mm_bd hf
  refine mm_SiW (rest := []) hC hM (c_L_boatAt l hfl hq916 hp_p1 hp_p3 (by omega)) q4_144 q1_0 ykL_boatAt q4_142 q4_143 ⟨rfl, rfl⟩ ⟨Nat.le_of_ble_eq_true rfl, Nat.le_of_ble_eq_true rfl⟩ rfl hl.1 rfl (Nat.le_of_ble_eq_true rfl) dL_law_916 ⟨by omega, by omega⟩ (fun r w916 H locs hM hw => ?_)
  obtain ⟨hr, hn_p2, hfr⟩ := hw
  rw [hr]
  have hp_p1 := hp_p1.keep hfr (by omega)
  have hp_p2 := hp_p2.keep hfr (by omega)
  have hp_p4 := hfr.keep hp_p4 (by omega)
  have hp_p3 := hn_p2
  refine lv_istore (lv' := [(6, .int q916.1), (0, .ref b), (1, .ref b1), (2, .ref b2), (3, .ref a3), (4, .ref a4), (5, .int x5)]) hx hb dL_law_919 hl (by decide) rfl (fun ls hl => ?_)
  refine lv_aload_n hx hb dL_law_921 rfl (lv_at hl 3 rfl) ?_
  refine lv_aload_n hx hb dL_law_922 rfl (lv_at hl 1 rfl) ?_
  refine lv_iload hx hb dL_law_923 (lv_at hl 6 rfl) ?_
  refine lv_iconst (v := 1) hx hb dL_law_925 (by decide) ?_
  refine lv_iadd hx hb dL_law_926 ?_
  refine mm_sld hC hM hsX hbl hbA (hsc 1 (by decide)).1 (hsc 1 (by decide)).2 dL_law_927 ?_
  obtain ⟨q928, hq928, hf⟩ := mm_bd hf
  refine mm_Vi (rest := []) hC hM (c_X13_boatAt l hq928 hp_p2) q7_230 q1_12 ykX13_boatAt q7_227 q7_228 q7_229 hp_p2.1 rfl ⟨rfl, rfl⟩ ⟨Nat.le_of_ble_eq_true rfl, Nat.le_of_ble_eq_true rfl⟩ rfl hl.1 rfl (Nat.le_of_ble_eq_true rfl) dL_law_928 ⟨by omega, by omega⟩ (fun r w928 H locs hM hw => ?_)
  obtain ⟨hr, hn_this, hfr⟩ := hw
  rw [hr]
  have hp_p1 := hp_p1.keep hfr (by omega)
  have hp_p3 := hfr.keep hp_p3 (by omega)
  have hp_p4 := hfr.keep hp_p4 (by omega)
  have hp_p2 := hn_this
  refine lv_istore (lv' := [(7, .int q928.1), (6, .int q916.1), (0, .ref b), (1, .ref b1), (2, .ref b2), (3, .ref a3), (4, .ref a4), (5, .int x5)]) hx hb dL_law_931 hl (by decide) rfl (fun ls hl => ?_)
  refine lv_aload_n hx hb dL_law_933 rfl (lv_at hl 4 rfl) ?_
  obtain ⟨q934, hq934, hf⟩ := mm_bd hf
  refine mm_Vi (rest := []) hC hM (c_X13_thrown l hq934 hp_p2) q7_87 q1_12 ykX13_thrown q7_84 q7_85 q7_86 hp_p2.1 rfl ⟨rfl, rfl⟩ ⟨Nat.le_of_ble_eq_true rfl, Nat.le_of_ble_eq_true rfl⟩ rfl hl.1 rfl (Nat.le_of_ble_eq_true rfl) dL_law_934 ⟨by omega, by omega⟩ (fun r w934 H locs hM hw => ?_)
  obtain ⟨hr, hw⟩ := hw
  rw [hr]
  rw [hw] at hM
  refine lv_iload hx hb dL_law_937 (lv_at hl 1 rfl) ?_
  refine lv_icmp_eq (tgt := 944) hx hb dL_law_939 (by decide) (fun hcd => ?_) (fun hcd => ?_)
  · rw [if_pos hcd] at hf
    refine lv_iload hx hb dL_law_944 (lv_at hl 1 rfl) ?_
    refine lv_if_ne (tgt := 961) hx hb dL_law_946 (by decide) (fun hcd => ?_) (fun hcd => ?_)
    · rw [if_neg hcd] at hf
      refine lv_goto (tgt := 3345) hx hb dL_law_961 (by decide) ?_
      cases hf
      exact W.widen (by omega) (by omega) (hk _ _ _ hM hp_p1 hp_p2 hp_p3 hp_p4 _ (lv_sub hl [2, 3, 4, 5, 6, 7] rfl))
    · rw [if_pos hcd] at hf
      refine lv_aload_n hx hb dL_law_949 rfl (lv_at hl 5 rfl) ?_
      refine lv_iconst (v := 0) hx hb dL_law_950 (by decide) ?_
      refine mm_lald0 hC hM hp_p3 dL_law_951 ?_
      refine lv_iload hx hb dL_law_952 (lv_at hl 0 rfl) ?_
      refine lv_i2l hx hb dL_law_954 rfl ?_
      refine W.lcmp hx hb dL_law_955 ?_
      refine lv_if_eq (tgt := 961) hx hb dL_law_956 (by decide) (fun hcd => ?_) (fun hcd => ?_)
      · rw [if_pos hcd] at hf
        refine lv_goto (tgt := 3345) hx hb dL_law_961 (by decide) ?_
        cases hf
        exact W.widen (by omega) (by omega) (hk _ _ _ hM hp_p1 hp_p2 hp_p3 hp_p4 _ (lv_sub hl [2, 3, 4, 5, 6, 7] rfl))
      · rw [if_neg hcd] at hf
        refine lv_iconst (v := 0) hx hb dL_law_959 (by decide) ?_
        cases hf
  · rw [if_neg hcd] at hf
    refine lv_iconst (v := 0) hx hb dL_law_942 (by decide) ?_
    cases hf
def g_law15 (K : Nat) (p1_marsh_fleet_numbers : Nat → Int32) (p1_marsh_fleet_cells : Nat → Int32) (p1_marsh_fleet_count : Int32) (p2_v : Nat → Int32) (p3 : Nat → Int64) (x1 : Int32) : Option (Int32 × (Nat → Int64)) := (f_L_columnOf K p1_marsh_fleet_numbers p1_marsh_fleet_cells p1_marsh_fleet_count p3 x1).bind fun q972 => (f_X13_columnOf K p2_v x1).bind fun q984 => (f_X13_thrown q984.2).bind fun q990 => if q990 = q972.1 then if q972.1 = 0 then if (lg_cmp (q972.2 0) q984.1.toInt64) = 0 then some (q984.2, q972.2) else none else some (q984.2, q972.2) else none
set_option maxHeartbeats 4000000 in
set_option maxRecDepth 100000 in
theorem g_law15_c (hC : mm_C G A p s m c code 10 args "MirrorFerryLaw") (hsX : va_X b L xs s s.heap) (hbl : b < s.heap.size) (hbA : ¬ A b) (hd1 : b1 + 152 ≤ b2) (hd2 : b2 + 13 ≤ a3) (hd3 : a3 + 1 ≤ a4) (hrc : cells + 1000 ≤ room_1.cells) (hrs : slots + 10000 ≤ room_1.slots) (hfl : l.stackTraces = false) {K : Nat} {p1_marsh_reeds_states : Nat → Int32} {p1_marsh_reeds_count : Int32} {p1_marsh_reeds_broken : Int32} {p1_marsh_fleet_numbers : Nat → Int32} {p1_marsh_fleet_cells : Nat → Int32} {p1_marsh_fleet_fares : Nat → Int32} {p1_marsh_fleet_count : Int32} {p1_marsh_fleet_nextNumber : Int32} {p1_marsh_fleet_total : Int32} {p1_marsh_fleet_removedFares : Int32} {p1_marsh_fleet_meetings : Int32} {p1_marsh_plans_moves : Nat → Int32} {p1_marsh_plans_lengths : Nat → Int32} {p1_marsh_landings_cells : Nat → Int32} {p1_marsh_landings_count : Int32} {p1_marsh_fogSide : Int32} {p1_snapshot_reeds_states : Nat → Int32} {p1_snapshot_reeds_count : Int32} {p1_snapshot_reeds_broken : Int32} {p1_snapshot_fleet_numbers : Nat → Int32} {p1_snapshot_fleet_cells : Nat → Int32} {p1_snapshot_fleet_fares : Nat → Int32} {p1_snapshot_fleet_count : Int32} {p1_snapshot_fleet_nextNumber : Int32} {p1_snapshot_fleet_total : Int32} {p1_snapshot_fleet_removedFares : Int32} {p1_snapshot_fleet_meetings : Int32} {p1_snapshot_plans_moves : Nat → Int32} {p1_snapshot_plans_lengths : Nat → Int32} {p1_snapshot_landings_cells : Nat → Int32} {p1_snapshot_landings_count : Int32} {p1_snapshot_fogSide : Int32} {p1_history_slots : Nat → mm_MV} {p1_history_free : Int32} {p1_history_count : Int32} {p1_ways_tolls : Nat → Int32} {p1_ways_queue : Nat → Int32} {p1_ways_heap : Nat → Int32} {p1_ways_heapSize : Int32} {p1_ways_found : Nat → Int32} {p1_ways_improved : Nat → Int32} {p1_pairing_costs : Nat → Int32} {p1_pairing_best : Nat → Int32} {p1_reader_kinds : Nat → Int32} {p1_reader_starts : Nat → Int32} {p1_reader_count : Int32} {p1_commandText_signs : Nat → Int32} {p1_commandText_length : Int32} {p1_line_signs : Nat → Int32} {p1_line_length : Int32} {p1_spareMoves : Nat → Int32} {p1_snapshotTaken : Int32} {p1_lastErrorPosition : Int32} {p1_lastFailedCommand : Int32} {p2_thrown : Int32} {p2_changes : Int32} {p2_errorAt : Int32} {p2_failedAt : Int32} {p2_isSaved : Int32} {p2_v : Nat → Int32} {p2_before : Nat → Int32} {p2_saved : Nat → Int32} {p2_past : Nat → Int32} {p2_far : Nat → Int32} {p2_scratch : Nat → Int32} {p2_best : Nat → Int32} {p2_thenX : Int32} {p2_thenY : Int32} {p2_thenMet : Int32} {p2_text : Nat → Int32} {p2_line : Nat → Int32} {p2_isLeft : Nat → Int32} {p2_words : Nat → Int32} {p2_wordAt : Nat → Int32} {p2_textN : Int32} {p2_hereP : Int32} {p2_endP : Int32} {p2_lineN : Int32} {p2_isWrong : Int32} {p2_isDoing : Int32} {p3 : Nat → Int64} {p4 : Nat → UInt64} {x0 x1 x2 x3 x4 x5 : Int32} {X : Int32 × (Nat → Int64)} (hf : g_law15 K p1_marsh_fleet_numbers p1_marsh_fleet_cells p1_marsh_fleet_count p2_v p3 x1 = some X) (hp_p1 : At12 G w b1 p1_marsh_reeds_states p1_marsh_reeds_count p1_marsh_reeds_broken p1_marsh_fleet_numbers p1_marsh_fleet_cells p1_marsh_fleet_fares p1_marsh_fleet_count p1_marsh_fleet_nextNumber p1_marsh_fleet_total p1_marsh_fleet_removedFares p1_marsh_fleet_meetings p1_marsh_plans_moves p1_marsh_plans_lengths p1_marsh_landings_cells p1_marsh_landings_count p1_marsh_fogSide p1_snapshot_reeds_states p1_snapshot_reeds_count p1_snapshot_reeds_broken p1_snapshot_fleet_numbers p1_snapshot_fleet_cells p1_snapshot_fleet_fares p1_snapshot_fleet_count p1_snapshot_fleet_nextNumber p1_snapshot_fleet_total p1_snapshot_fleet_removedFares p1_snapshot_fleet_meetings p1_snapshot_plans_moves p1_snapshot_plans_lengths p1_snapshot_landings_cells p1_snapshot_landings_count p1_snapshot_fogSide p1_history_slots p1_history_free p1_history_count p1_ways_tolls p1_ways_queue p1_ways_heap p1_ways_heapSize p1_ways_found p1_ways_improved p1_pairing_costs p1_pairing_best p1_reader_kinds p1_reader_starts p1_reader_count p1_commandText_signs p1_commandText_length p1_line_signs p1_line_length p1_spareMoves p1_snapshotTaken p1_lastErrorPosition p1_lastFailedCommand) (hp_p2 : At13 G w b2 p2_thrown p2_changes p2_errorAt p2_failedAt p2_isSaved p2_v p2_before p2_saved p2_past p2_far p2_scratch p2_best p2_thenX p2_thenY p2_thenMet p2_text p2_line p2_isLeft p2_words p2_wordAt p2_textN p2_hereP p2_endP p2_lineN p2_isWrong p2_isDoing) (hp_p3 : (a3, (.inl (G.2 3, 1, .inr (.inl p3)) : va_E)) ∈ w) (hp_p4 : (a4, (.inl (G.2 4, 1, .inr (.inr (.inr (.inl p4)))) : va_E)) ∈ w)
    (hsc : ∀ k : Nat, k < 5 → vp_in (x5 + Int32.ofNat k) L ∧ xs (x5 + Int32.ofNat k).toNatClampNeg = mm_x5 x0 x1 x2 x3 x4 k) (hM : mm_S G A s.heap w H locs)
    (hk : ∀ (w : va_W) (H : Heap) (locs : List Loc), mm_S G A s.heap w H locs → At12 G w b1 p1_marsh_reeds_states p1_marsh_reeds_count p1_marsh_reeds_broken p1_marsh_fleet_numbers p1_marsh_fleet_cells p1_marsh_fleet_fares p1_marsh_fleet_count p1_marsh_fleet_nextNumber p1_marsh_fleet_total p1_marsh_fleet_removedFares p1_marsh_fleet_meetings p1_marsh_plans_moves p1_marsh_plans_lengths p1_marsh_landings_cells p1_marsh_landings_count p1_marsh_fogSide p1_snapshot_reeds_states p1_snapshot_reeds_count p1_snapshot_reeds_broken p1_snapshot_fleet_numbers p1_snapshot_fleet_cells p1_snapshot_fleet_fares p1_snapshot_fleet_count p1_snapshot_fleet_nextNumber p1_snapshot_fleet_total p1_snapshot_fleet_removedFares p1_snapshot_fleet_meetings p1_snapshot_plans_moves p1_snapshot_plans_lengths p1_snapshot_landings_cells p1_snapshot_landings_count p1_snapshot_fogSide p1_history_slots p1_history_free p1_history_count p1_ways_tolls p1_ways_queue p1_ways_heap p1_ways_heapSize p1_ways_found p1_ways_improved p1_pairing_costs p1_pairing_best p1_reader_kinds p1_reader_starts p1_reader_count p1_commandText_signs p1_commandText_length p1_line_signs p1_line_length p1_spareMoves p1_snapshotTaken p1_lastErrorPosition p1_lastFailedCommand → At13 G w b2 X.1 p2_changes p2_errorAt p2_failedAt p2_isSaved p2_v p2_before p2_saved p2_past p2_far p2_scratch p2_best p2_thenX p2_thenY p2_thenMet p2_text p2_line p2_isLeft p2_words p2_wordAt p2_textN p2_hereP p2_endP p2_lineN p2_isWrong p2_isDoing → (a3, (.inl (G.2 3, 1, .inr (.inl X.2)) : va_E)) ∈ w → (a4, (.inl (G.2 4, 1, .inr (.inr (.inr (.inl p4)))) : va_E)) ∈ w → ∀ ls, lv_has ls 10 [(0, .ref b), (1, .ref b1), (2, .ref b2), (3, .ref a3), (4, .ref a4), (5, .int x5)] → W p l e room_1 s m args below meth c H locs (cells + 1000) (slots + 10000) Q (F0 m 3345 ls [])) (ls : Array Slot) (hl : lv_has ls 10 [(0, .ref b), (1, .ref b1), (2, .ref b2), (3, .ref a3), (4, .ref a4), (5, .int x5)]) : W p l e room_1 s m args below meth c H locs cells slots Q (F0 m 964 ls []) := by
  have hx := hC.1.1
  have hb := hC.1.2.1
  rw [g_law15] at hf
  refine lv_aload_n hx hb dL_law_964 rfl (lv_at hl 1 rfl) ?_
  refine lv_aload_n hx hb dL_law_965 rfl (lv_at hl 0 rfl) ?_
  refine lv_iload hx hb dL_law_966 (lv_at hl 5 rfl) ?_
  refine lv_iconst (v := 1) hx hb dL_law_968 (by decide) ?_
  refine lv_iadd hx hb dL_law_969 ?_
  refine mm_sld hC hM hsX hbl hbA (hsc 1 (by decide)).1 (hsc 1 (by decide)).2 dL_law_970 ?_
  refine lv_aload_n hx hb dL_law_971 rfl (lv_at hl 3 rfl) ?_
  obtain ⟨q972, hq972, hf⟩ := mm_bd hf
  refine mm_SiW (rest := []) hC hM (c_L_columnOf l hfl hq972 hp_p1 hp_p3 (by omega)) q4_151 q1_0 ykL_columnOf q4_149 q4_150 ⟨rfl, rfl⟩ ⟨Nat.le_of_ble_eq_true rfl, Nat.le_of_ble_eq_true rfl⟩ rfl hl.1 rfl (Nat.le_of_ble_eq_true rfl) dL_law_972 ⟨by omega, by omega⟩ (fun r w972 H locs hM hw => ?_)
  obtain ⟨hr, hn_p2, hfr⟩ := hw
  rw [hr]
  have hp_p1 := hp_p1.keep hfr (by omega)
  have hp_p2 := hp_p2.keep hfr (by omega)
  have hp_p4 := hfr.keep hp_p4 (by omega)
  have hp_p3 := hn_p2
  refine lv_istore (lv' := [(6, .int q972.1), (0, .ref b), (1, .ref b1), (2, .ref b2), (3, .ref a3), (4, .ref a4), (5, .int x5)]) hx hb dL_law_975 hl (by decide) rfl (fun ls hl => ?_)
  refine lv_aload_n hx hb dL_law_977 rfl (lv_at hl 3 rfl) ?_
  refine lv_aload_n hx hb dL_law_978 rfl (lv_at hl 1 rfl) ?_
  refine lv_iload hx hb dL_law_979 (lv_at hl 6 rfl) ?_
  refine lv_iconst (v := 1) hx hb dL_law_981 (by decide) ?_
  refine lv_iadd hx hb dL_law_982 ?_
  refine mm_sld hC hM hsX hbl hbA (hsc 1 (by decide)).1 (hsc 1 (by decide)).2 dL_law_983 ?_
  obtain ⟨q984, hq984, hf⟩ := mm_bd hf
  refine mm_Vi (rest := []) hC hM (c_X13_columnOf l hq984 hp_p2) q7_234 q1_12 ykX13_columnOf q7_231 q7_232 q7_233 hp_p2.1 rfl ⟨rfl, rfl⟩ ⟨Nat.le_of_ble_eq_true rfl, Nat.le_of_ble_eq_true rfl⟩ rfl hl.1 rfl (Nat.le_of_ble_eq_true rfl) dL_law_984 ⟨by omega, by omega⟩ (fun r w984 H locs hM hw => ?_)
  obtain ⟨hr, hn_this, hfr⟩ := hw
  rw [hr]
  have hp_p1 := hp_p1.keep hfr (by omega)
  have hp_p3 := hfr.keep hp_p3 (by omega)
  have hp_p4 := hfr.keep hp_p4 (by omega)
  have hp_p2 := hn_this
  refine lv_istore (lv' := [(7, .int q984.1), (6, .int q972.1), (0, .ref b), (1, .ref b1), (2, .ref b2), (3, .ref a3), (4, .ref a4), (5, .int x5)]) hx hb dL_law_987 hl (by decide) rfl (fun ls hl => ?_)
  refine lv_aload_n hx hb dL_law_989 rfl (lv_at hl 4 rfl) ?_
  obtain ⟨q990, hq990, hf⟩ := mm_bd hf
  refine mm_Vi (rest := []) hC hM (c_X13_thrown l hq990 hp_p2) q7_87 q1_12 ykX13_thrown q7_84 q7_85 q7_86 hp_p2.1 rfl ⟨rfl, rfl⟩ ⟨Nat.le_of_ble_eq_true rfl, Nat.le_of_ble_eq_true rfl⟩ rfl hl.1 rfl (Nat.le_of_ble_eq_true rfl) dL_law_990 ⟨by omega, by omega⟩ (fun r w990 H locs hM hw => ?_)
  obtain ⟨hr, hw⟩ := hw
  rw [hr]
  rw [hw] at hM
  refine lv_iload hx hb dL_law_993 (lv_at hl 1 rfl) ?_
  refine lv_icmp_eq (tgt := 1000) hx hb dL_law_995 (by decide) (fun hcd => ?_) (fun hcd => ?_)
  · rw [if_pos hcd] at hf
    refine lv_iload hx hb dL_law_1000 (lv_at hl 1 rfl) ?_
    refine lv_if_ne (tgt := 1017) hx hb dL_law_1002 (by decide) (fun hcd => ?_) (fun hcd => ?_)
    · rw [if_neg hcd] at hf
      refine lv_goto (tgt := 3345) hx hb dL_law_1017 (by decide) ?_
      cases hf
      exact W.widen (by omega) (by omega) (hk _ _ _ hM hp_p1 hp_p2 hp_p3 hp_p4 _ (lv_sub hl [2, 3, 4, 5, 6, 7] rfl))
    · rw [if_pos hcd] at hf
      refine lv_aload_n hx hb dL_law_1005 rfl (lv_at hl 5 rfl) ?_
      refine lv_iconst (v := 0) hx hb dL_law_1006 (by decide) ?_
      refine mm_lald0 hC hM hp_p3 dL_law_1007 ?_
      refine lv_iload hx hb dL_law_1008 (lv_at hl 0 rfl) ?_
      refine lv_i2l hx hb dL_law_1010 rfl ?_
      refine W.lcmp hx hb dL_law_1011 ?_
      refine lv_if_eq (tgt := 1017) hx hb dL_law_1012 (by decide) (fun hcd => ?_) (fun hcd => ?_)
      · rw [if_pos hcd] at hf
        refine lv_goto (tgt := 3345) hx hb dL_law_1017 (by decide) ?_
        cases hf
        exact W.widen (by omega) (by omega) (hk _ _ _ hM hp_p1 hp_p2 hp_p3 hp_p4 _ (lv_sub hl [2, 3, 4, 5, 6, 7] rfl))
      · rw [if_neg hcd] at hf
        refine lv_iconst (v := 0) hx hb dL_law_1015 (by decide) ?_
        cases hf
  · rw [if_neg hcd] at hf
    refine lv_iconst (v := 0) hx hb dL_law_998 (by decide) ?_
    cases hf
def g_law16 (K : Nat) (p1_marsh_fleet_numbers : Nat → Int32) (p1_marsh_fleet_cells : Nat → Int32) (p1_marsh_fleet_count : Int32) (p2_v : Nat → Int32) (p3 : Nat → Int64) (x1 : Int32) : Option (Int32 × (Nat → Int64)) := (f_L_rowOf K p1_marsh_fleet_numbers p1_marsh_fleet_cells p1_marsh_fleet_count p3 x1).bind fun q1028 => (f_X13_rowOf K p2_v x1).bind fun q1040 => (f_X13_thrown q1040.2).bind fun q1046 => if q1046 = q1028.1 then if q1028.1 = 0 then if (lg_cmp (q1028.2 0) q1040.1.toInt64) = 0 then some (q1040.2, q1028.2) else none else some (q1040.2, q1028.2) else none
set_option maxHeartbeats 4000000 in
set_option maxRecDepth 100000 in
theorem g_law16_c (hC : mm_C G A p s m c code 10 args "MirrorFerryLaw") (hsX : va_X b L xs s s.heap) (hbl : b < s.heap.size) (hbA : ¬ A b) (hd1 : b1 + 152 ≤ b2) (hd2 : b2 + 13 ≤ a3) (hd3 : a3 + 1 ≤ a4) (hrc : cells + 1000 ≤ room_1.cells) (hrs : slots + 10000 ≤ room_1.slots) (hfl : l.stackTraces = false) {K : Nat} {p1_marsh_reeds_states : Nat → Int32} {p1_marsh_reeds_count : Int32} {p1_marsh_reeds_broken : Int32} {p1_marsh_fleet_numbers : Nat → Int32} {p1_marsh_fleet_cells : Nat → Int32} {p1_marsh_fleet_fares : Nat → Int32} {p1_marsh_fleet_count : Int32} {p1_marsh_fleet_nextNumber : Int32} {p1_marsh_fleet_total : Int32} {p1_marsh_fleet_removedFares : Int32} {p1_marsh_fleet_meetings : Int32} {p1_marsh_plans_moves : Nat → Int32} {p1_marsh_plans_lengths : Nat → Int32} {p1_marsh_landings_cells : Nat → Int32} {p1_marsh_landings_count : Int32} {p1_marsh_fogSide : Int32} {p1_snapshot_reeds_states : Nat → Int32} {p1_snapshot_reeds_count : Int32} {p1_snapshot_reeds_broken : Int32} {p1_snapshot_fleet_numbers : Nat → Int32} {p1_snapshot_fleet_cells : Nat → Int32} {p1_snapshot_fleet_fares : Nat → Int32} {p1_snapshot_fleet_count : Int32} {p1_snapshot_fleet_nextNumber : Int32} {p1_snapshot_fleet_total : Int32} {p1_snapshot_fleet_removedFares : Int32} {p1_snapshot_fleet_meetings : Int32} {p1_snapshot_plans_moves : Nat → Int32} {p1_snapshot_plans_lengths : Nat → Int32} {p1_snapshot_landings_cells : Nat → Int32} {p1_snapshot_landings_count : Int32} {p1_snapshot_fogSide : Int32} {p1_history_slots : Nat → mm_MV} {p1_history_free : Int32} {p1_history_count : Int32} {p1_ways_tolls : Nat → Int32} {p1_ways_queue : Nat → Int32} {p1_ways_heap : Nat → Int32} {p1_ways_heapSize : Int32} {p1_ways_found : Nat → Int32} {p1_ways_improved : Nat → Int32} {p1_pairing_costs : Nat → Int32} {p1_pairing_best : Nat → Int32} {p1_reader_kinds : Nat → Int32} {p1_reader_starts : Nat → Int32} {p1_reader_count : Int32} {p1_commandText_signs : Nat → Int32} {p1_commandText_length : Int32} {p1_line_signs : Nat → Int32} {p1_line_length : Int32} {p1_spareMoves : Nat → Int32} {p1_snapshotTaken : Int32} {p1_lastErrorPosition : Int32} {p1_lastFailedCommand : Int32} {p2_thrown : Int32} {p2_changes : Int32} {p2_errorAt : Int32} {p2_failedAt : Int32} {p2_isSaved : Int32} {p2_v : Nat → Int32} {p2_before : Nat → Int32} {p2_saved : Nat → Int32} {p2_past : Nat → Int32} {p2_far : Nat → Int32} {p2_scratch : Nat → Int32} {p2_best : Nat → Int32} {p2_thenX : Int32} {p2_thenY : Int32} {p2_thenMet : Int32} {p2_text : Nat → Int32} {p2_line : Nat → Int32} {p2_isLeft : Nat → Int32} {p2_words : Nat → Int32} {p2_wordAt : Nat → Int32} {p2_textN : Int32} {p2_hereP : Int32} {p2_endP : Int32} {p2_lineN : Int32} {p2_isWrong : Int32} {p2_isDoing : Int32} {p3 : Nat → Int64} {p4 : Nat → UInt64} {x0 x1 x2 x3 x4 x5 : Int32} {X : Int32 × (Nat → Int64)} (hf : g_law16 K p1_marsh_fleet_numbers p1_marsh_fleet_cells p1_marsh_fleet_count p2_v p3 x1 = some X) (hp_p1 : At12 G w b1 p1_marsh_reeds_states p1_marsh_reeds_count p1_marsh_reeds_broken p1_marsh_fleet_numbers p1_marsh_fleet_cells p1_marsh_fleet_fares p1_marsh_fleet_count p1_marsh_fleet_nextNumber p1_marsh_fleet_total p1_marsh_fleet_removedFares p1_marsh_fleet_meetings p1_marsh_plans_moves p1_marsh_plans_lengths p1_marsh_landings_cells p1_marsh_landings_count p1_marsh_fogSide p1_snapshot_reeds_states p1_snapshot_reeds_count p1_snapshot_reeds_broken p1_snapshot_fleet_numbers p1_snapshot_fleet_cells p1_snapshot_fleet_fares p1_snapshot_fleet_count p1_snapshot_fleet_nextNumber p1_snapshot_fleet_total p1_snapshot_fleet_removedFares p1_snapshot_fleet_meetings p1_snapshot_plans_moves p1_snapshot_plans_lengths p1_snapshot_landings_cells p1_snapshot_landings_count p1_snapshot_fogSide p1_history_slots p1_history_free p1_history_count p1_ways_tolls p1_ways_queue p1_ways_heap p1_ways_heapSize p1_ways_found p1_ways_improved p1_pairing_costs p1_pairing_best p1_reader_kinds p1_reader_starts p1_reader_count p1_commandText_signs p1_commandText_length p1_line_signs p1_line_length p1_spareMoves p1_snapshotTaken p1_lastErrorPosition p1_lastFailedCommand) (hp_p2 : At13 G w b2 p2_thrown p2_changes p2_errorAt p2_failedAt p2_isSaved p2_v p2_before p2_saved p2_past p2_far p2_scratch p2_best p2_thenX p2_thenY p2_thenMet p2_text p2_line p2_isLeft p2_words p2_wordAt p2_textN p2_hereP p2_endP p2_lineN p2_isWrong p2_isDoing) (hp_p3 : (a3, (.inl (G.2 3, 1, .inr (.inl p3)) : va_E)) ∈ w) (hp_p4 : (a4, (.inl (G.2 4, 1, .inr (.inr (.inr (.inl p4)))) : va_E)) ∈ w)
    (hsc : ∀ k : Nat, k < 5 → vp_in (x5 + Int32.ofNat k) L ∧ xs (x5 + Int32.ofNat k).toNatClampNeg = mm_x5 x0 x1 x2 x3 x4 k) (hM : mm_S G A s.heap w H locs)
    (hk : ∀ (w : va_W) (H : Heap) (locs : List Loc), mm_S G A s.heap w H locs → At12 G w b1 p1_marsh_reeds_states p1_marsh_reeds_count p1_marsh_reeds_broken p1_marsh_fleet_numbers p1_marsh_fleet_cells p1_marsh_fleet_fares p1_marsh_fleet_count p1_marsh_fleet_nextNumber p1_marsh_fleet_total p1_marsh_fleet_removedFares p1_marsh_fleet_meetings p1_marsh_plans_moves p1_marsh_plans_lengths p1_marsh_landings_cells p1_marsh_landings_count p1_marsh_fogSide p1_snapshot_reeds_states p1_snapshot_reeds_count p1_snapshot_reeds_broken p1_snapshot_fleet_numbers p1_snapshot_fleet_cells p1_snapshot_fleet_fares p1_snapshot_fleet_count p1_snapshot_fleet_nextNumber p1_snapshot_fleet_total p1_snapshot_fleet_removedFares p1_snapshot_fleet_meetings p1_snapshot_plans_moves p1_snapshot_plans_lengths p1_snapshot_landings_cells p1_snapshot_landings_count p1_snapshot_fogSide p1_history_slots p1_history_free p1_history_count p1_ways_tolls p1_ways_queue p1_ways_heap p1_ways_heapSize p1_ways_found p1_ways_improved p1_pairing_costs p1_pairing_best p1_reader_kinds p1_reader_starts p1_reader_count p1_commandText_signs p1_commandText_length p1_line_signs p1_line_length p1_spareMoves p1_snapshotTaken p1_lastErrorPosition p1_lastFailedCommand → At13 G w b2 X.1 p2_changes p2_errorAt p2_failedAt p2_isSaved p2_v p2_before p2_saved p2_past p2_far p2_scratch p2_best p2_thenX p2_thenY p2_thenMet p2_text p2_line p2_isLeft p2_words p2_wordAt p2_textN p2_hereP p2_endP p2_lineN p2_isWrong p2_isDoing → (a3, (.inl (G.2 3, 1, .inr (.inl X.2)) : va_E)) ∈ w → (a4, (.inl (G.2 4, 1, .inr (.inr (.inr (.inl p4)))) : va_E)) ∈ w → ∀ ls, lv_has ls 10 [(0, .ref b), (1, .ref b1), (2, .ref b2), (3, .ref a3), (4, .ref a4), (5, .int x5)] → W p l e room_1 s m args below meth c H locs (cells + 1000) (slots + 10000) Q (F0 m 3345 ls [])) (ls : Array Slot) (hl : lv_has ls 10 [(0, .ref b), (1, .ref b1), (2, .ref b2), (3, .ref a3), (4, .ref a4), (5, .int x5)]) : W p l e room_1 s m args below meth c H locs cells slots Q (F0 m 1020 ls []) := by
  have hx := hC.1.1
  have hb := hC.1.2.1
  rw [g_law16] at hf
  refine lv_aload_n hx hb dL_law_1020 rfl (lv_at hl 1 rfl) ?_
  refine lv_aload_n hx hb dL_law_1021 rfl (lv_at hl 0 rfl) ?_
  refine lv_iload hx hb dL_law_1022 (lv_at hl 5 rfl) ?_
  refine lv_iconst (v := 1) hx hb dL_law_1024 (by decide) ?_
  refine lv_iadd hx hb dL_law_1025 ?_
  refine mm_sld hC hM hsX hbl hbA (hsc 1 (by decide)).1 (hsc 1 (by decide)).2 dL_law_1026 ?_
  refine lv_aload_n hx hb dL_law_1027 rfl (lv_at hl 3 rfl) ?_
  obtain ⟨q1028, hq1028, hf⟩ := mm_bd hf
  refine mm_SiW (rest := []) hC hM (c_L_rowOf l hfl hq1028 hp_p1 hp_p3 (by omega)) q4_163 q1_0 ykL_rowOf q4_161 q4_162 ⟨rfl, rfl⟩ ⟨Nat.le_of_ble_eq_true rfl, Nat.le_of_ble_eq_true rfl⟩ rfl hl.1 rfl (Nat.le_of_ble_eq_true rfl) dL_law_1028 ⟨by omega, by omega⟩ (fun r w1028 H locs hM hw => ?_)
  obtain ⟨hr, hn_p2, hfr⟩ := hw
  rw [hr]
  have hp_p1 := hp_p1.keep hfr (by omega)
  have hp_p2 := hp_p2.keep hfr (by omega)
  have hp_p4 := hfr.keep hp_p4 (by omega)
  have hp_p3 := hn_p2
  refine lv_istore (lv' := [(6, .int q1028.1), (0, .ref b), (1, .ref b1), (2, .ref b2), (3, .ref a3), (4, .ref a4), (5, .int x5)]) hx hb dL_law_1031 hl (by decide) rfl (fun ls hl => ?_)
  refine lv_aload_n hx hb dL_law_1033 rfl (lv_at hl 3 rfl) ?_
  refine lv_aload_n hx hb dL_law_1034 rfl (lv_at hl 1 rfl) ?_
  refine lv_iload hx hb dL_law_1035 (lv_at hl 6 rfl) ?_
  refine lv_iconst (v := 1) hx hb dL_law_1037 (by decide) ?_
  refine lv_iadd hx hb dL_law_1038 ?_
  refine mm_sld hC hM hsX hbl hbA (hsc 1 (by decide)).1 (hsc 1 (by decide)).2 dL_law_1039 ?_
  obtain ⟨q1040, hq1040, hf⟩ := mm_bd hf
  refine mm_Vi (rest := []) hC hM (c_X13_rowOf l hq1040 hp_p2) q8_2 q1_12 ykX13_rowOf q7_239 q8_0 q8_1 hp_p2.1 rfl ⟨rfl, rfl⟩ ⟨Nat.le_of_ble_eq_true rfl, Nat.le_of_ble_eq_true rfl⟩ rfl hl.1 rfl (Nat.le_of_ble_eq_true rfl) dL_law_1040 ⟨by omega, by omega⟩ (fun r w1040 H locs hM hw => ?_)
  obtain ⟨hr, hn_this, hfr⟩ := hw
  rw [hr]
  have hp_p1 := hp_p1.keep hfr (by omega)
  have hp_p3 := hfr.keep hp_p3 (by omega)
  have hp_p4 := hfr.keep hp_p4 (by omega)
  have hp_p2 := hn_this
  refine lv_istore (lv' := [(7, .int q1040.1), (6, .int q1028.1), (0, .ref b), (1, .ref b1), (2, .ref b2), (3, .ref a3), (4, .ref a4), (5, .int x5)]) hx hb dL_law_1043 hl (by decide) rfl (fun ls hl => ?_)
  refine lv_aload_n hx hb dL_law_1045 rfl (lv_at hl 4 rfl) ?_
  obtain ⟨q1046, hq1046, hf⟩ := mm_bd hf
  refine mm_Vi (rest := []) hC hM (c_X13_thrown l hq1046 hp_p2) q7_87 q1_12 ykX13_thrown q7_84 q7_85 q7_86 hp_p2.1 rfl ⟨rfl, rfl⟩ ⟨Nat.le_of_ble_eq_true rfl, Nat.le_of_ble_eq_true rfl⟩ rfl hl.1 rfl (Nat.le_of_ble_eq_true rfl) dL_law_1046 ⟨by omega, by omega⟩ (fun r w1046 H locs hM hw => ?_)
  obtain ⟨hr, hw⟩ := hw
  rw [hr]
  rw [hw] at hM
  refine lv_iload hx hb dL_law_1049 (lv_at hl 1 rfl) ?_
  refine lv_icmp_eq (tgt := 1056) hx hb dL_law_1051 (by decide) (fun hcd => ?_) (fun hcd => ?_)
  · rw [if_pos hcd] at hf
    refine lv_iload hx hb dL_law_1056 (lv_at hl 1 rfl) ?_
    refine lv_if_ne (tgt := 1073) hx hb dL_law_1058 (by decide) (fun hcd => ?_) (fun hcd => ?_)
    · rw [if_neg hcd] at hf
      refine lv_goto (tgt := 3345) hx hb dL_law_1073 (by decide) ?_
      cases hf
      exact W.widen (by omega) (by omega) (hk _ _ _ hM hp_p1 hp_p2 hp_p3 hp_p4 _ (lv_sub hl [2, 3, 4, 5, 6, 7] rfl))
    · rw [if_pos hcd] at hf
      refine lv_aload_n hx hb dL_law_1061 rfl (lv_at hl 5 rfl) ?_
      refine lv_iconst (v := 0) hx hb dL_law_1062 (by decide) ?_
      refine mm_lald0 hC hM hp_p3 dL_law_1063 ?_
      refine lv_iload hx hb dL_law_1064 (lv_at hl 0 rfl) ?_
      refine lv_i2l hx hb dL_law_1066 rfl ?_
      refine W.lcmp hx hb dL_law_1067 ?_
      refine lv_if_eq (tgt := 1073) hx hb dL_law_1068 (by decide) (fun hcd => ?_) (fun hcd => ?_)
      · rw [if_pos hcd] at hf
        refine lv_goto (tgt := 3345) hx hb dL_law_1073 (by decide) ?_
        cases hf
        exact W.widen (by omega) (by omega) (hk _ _ _ hM hp_p1 hp_p2 hp_p3 hp_p4 _ (lv_sub hl [2, 3, 4, 5, 6, 7] rfl))
      · rw [if_neg hcd] at hf
        refine lv_iconst (v := 0) hx hb dL_law_1071 (by decide) ?_
        cases hf
  · rw [if_neg hcd] at hf
    refine lv_iconst (v := 0) hx hb dL_law_1054 (by decide) ?_
    cases hf
def g_law17 (K : Nat) (p1_marsh_fleet_numbers : Nat → Int32) (p1_marsh_fleet_cells : Nat → Int32) (p1_marsh_fleet_count : Int32) (p2_v : Nat → Int32) (p3 : Nat → Int64) (x1 : Int32) : Option (Int32 × (Nat → Int64)) := (f_L_imageColumnOf K p1_marsh_fleet_numbers p1_marsh_fleet_cells p1_marsh_fleet_count p3 x1).bind fun q1084 => (f_X13_imageColumnOf K p2_v x1).bind fun q1096 => (f_X13_thrown q1096.2).bind fun q1102 => if q1102 = q1084.1 then if q1084.1 = 0 then if (lg_cmp (q1084.2 0) q1096.1.toInt64) = 0 then some (q1096.2, q1084.2) else none else some (q1096.2, q1084.2) else none
set_option maxHeartbeats 4000000 in
set_option maxRecDepth 100000 in
theorem g_law17_c (hC : mm_C G A p s m c code 10 args "MirrorFerryLaw") (hsX : va_X b L xs s s.heap) (hbl : b < s.heap.size) (hbA : ¬ A b) (hd1 : b1 + 152 ≤ b2) (hd2 : b2 + 13 ≤ a3) (hd3 : a3 + 1 ≤ a4) (hrc : cells + 1000 ≤ room_1.cells) (hrs : slots + 10000 ≤ room_1.slots) (hfl : l.stackTraces = false) {K : Nat} {p1_marsh_reeds_states : Nat → Int32} {p1_marsh_reeds_count : Int32} {p1_marsh_reeds_broken : Int32} {p1_marsh_fleet_numbers : Nat → Int32} {p1_marsh_fleet_cells : Nat → Int32} {p1_marsh_fleet_fares : Nat → Int32} {p1_marsh_fleet_count : Int32} {p1_marsh_fleet_nextNumber : Int32} {p1_marsh_fleet_total : Int32} {p1_marsh_fleet_removedFares : Int32} {p1_marsh_fleet_meetings : Int32} {p1_marsh_plans_moves : Nat → Int32} {p1_marsh_plans_lengths : Nat → Int32} {p1_marsh_landings_cells : Nat → Int32} {p1_marsh_landings_count : Int32} {p1_marsh_fogSide : Int32} {p1_snapshot_reeds_states : Nat → Int32} {p1_snapshot_reeds_count : Int32} {p1_snapshot_reeds_broken : Int32} {p1_snapshot_fleet_numbers : Nat → Int32} {p1_snapshot_fleet_cells : Nat → Int32} {p1_snapshot_fleet_fares : Nat → Int32} {p1_snapshot_fleet_count : Int32} {p1_snapshot_fleet_nextNumber : Int32} {p1_snapshot_fleet_total : Int32} {p1_snapshot_fleet_removedFares : Int32} {p1_snapshot_fleet_meetings : Int32} {p1_snapshot_plans_moves : Nat → Int32} {p1_snapshot_plans_lengths : Nat → Int32} {p1_snapshot_landings_cells : Nat → Int32} {p1_snapshot_landings_count : Int32} {p1_snapshot_fogSide : Int32} {p1_history_slots : Nat → mm_MV} {p1_history_free : Int32} {p1_history_count : Int32} {p1_ways_tolls : Nat → Int32} {p1_ways_queue : Nat → Int32} {p1_ways_heap : Nat → Int32} {p1_ways_heapSize : Int32} {p1_ways_found : Nat → Int32} {p1_ways_improved : Nat → Int32} {p1_pairing_costs : Nat → Int32} {p1_pairing_best : Nat → Int32} {p1_reader_kinds : Nat → Int32} {p1_reader_starts : Nat → Int32} {p1_reader_count : Int32} {p1_commandText_signs : Nat → Int32} {p1_commandText_length : Int32} {p1_line_signs : Nat → Int32} {p1_line_length : Int32} {p1_spareMoves : Nat → Int32} {p1_snapshotTaken : Int32} {p1_lastErrorPosition : Int32} {p1_lastFailedCommand : Int32} {p2_thrown : Int32} {p2_changes : Int32} {p2_errorAt : Int32} {p2_failedAt : Int32} {p2_isSaved : Int32} {p2_v : Nat → Int32} {p2_before : Nat → Int32} {p2_saved : Nat → Int32} {p2_past : Nat → Int32} {p2_far : Nat → Int32} {p2_scratch : Nat → Int32} {p2_best : Nat → Int32} {p2_thenX : Int32} {p2_thenY : Int32} {p2_thenMet : Int32} {p2_text : Nat → Int32} {p2_line : Nat → Int32} {p2_isLeft : Nat → Int32} {p2_words : Nat → Int32} {p2_wordAt : Nat → Int32} {p2_textN : Int32} {p2_hereP : Int32} {p2_endP : Int32} {p2_lineN : Int32} {p2_isWrong : Int32} {p2_isDoing : Int32} {p3 : Nat → Int64} {p4 : Nat → UInt64} {x0 x1 x2 x3 x4 x5 : Int32} {X : Int32 × (Nat → Int64)} (hf : g_law17 K p1_marsh_fleet_numbers p1_marsh_fleet_cells p1_marsh_fleet_count p2_v p3 x1 = some X) (hp_p1 : At12 G w b1 p1_marsh_reeds_states p1_marsh_reeds_count p1_marsh_reeds_broken p1_marsh_fleet_numbers p1_marsh_fleet_cells p1_marsh_fleet_fares p1_marsh_fleet_count p1_marsh_fleet_nextNumber p1_marsh_fleet_total p1_marsh_fleet_removedFares p1_marsh_fleet_meetings p1_marsh_plans_moves p1_marsh_plans_lengths p1_marsh_landings_cells p1_marsh_landings_count p1_marsh_fogSide p1_snapshot_reeds_states p1_snapshot_reeds_count p1_snapshot_reeds_broken p1_snapshot_fleet_numbers p1_snapshot_fleet_cells p1_snapshot_fleet_fares p1_snapshot_fleet_count p1_snapshot_fleet_nextNumber p1_snapshot_fleet_total p1_snapshot_fleet_removedFares p1_snapshot_fleet_meetings p1_snapshot_plans_moves p1_snapshot_plans_lengths p1_snapshot_landings_cells p1_snapshot_landings_count p1_snapshot_fogSide p1_history_slots p1_history_free p1_history_count p1_ways_tolls p1_ways_queue p1_ways_heap p1_ways_heapSize p1_ways_found p1_ways_improved p1_pairing_costs p1_pairing_best p1_reader_kinds p1_reader_starts p1_reader_count p1_commandText_signs p1_commandText_length p1_line_signs p1_line_length p1_spareMoves p1_snapshotTaken p1_lastErrorPosition p1_lastFailedCommand) (hp_p2 : At13 G w b2 p2_thrown p2_changes p2_errorAt p2_failedAt p2_isSaved p2_v p2_before p2_saved p2_past p2_far p2_scratch p2_best p2_thenX p2_thenY p2_thenMet p2_text p2_line p2_isLeft p2_words p2_wordAt p2_textN p2_hereP p2_endP p2_lineN p2_isWrong p2_isDoing) (hp_p3 : (a3, (.inl (G.2 3, 1, .inr (.inl p3)) : va_E)) ∈ w) (hp_p4 : (a4, (.inl (G.2 4, 1, .inr (.inr (.inr (.inl p4)))) : va_E)) ∈ w)
    (hsc : ∀ k : Nat, k < 5 → vp_in (x5 + Int32.ofNat k) L ∧ xs (x5 + Int32.ofNat k).toNatClampNeg = mm_x5 x0 x1 x2 x3 x4 k) (hM : mm_S G A s.heap w H locs)
    (hk : ∀ (w : va_W) (H : Heap) (locs : List Loc), mm_S G A s.heap w H locs → At12 G w b1 p1_marsh_reeds_states p1_marsh_reeds_count p1_marsh_reeds_broken p1_marsh_fleet_numbers p1_marsh_fleet_cells p1_marsh_fleet_fares p1_marsh_fleet_count p1_marsh_fleet_nextNumber p1_marsh_fleet_total p1_marsh_fleet_removedFares p1_marsh_fleet_meetings p1_marsh_plans_moves p1_marsh_plans_lengths p1_marsh_landings_cells p1_marsh_landings_count p1_marsh_fogSide p1_snapshot_reeds_states p1_snapshot_reeds_count p1_snapshot_reeds_broken p1_snapshot_fleet_numbers p1_snapshot_fleet_cells p1_snapshot_fleet_fares p1_snapshot_fleet_count p1_snapshot_fleet_nextNumber p1_snapshot_fleet_total p1_snapshot_fleet_removedFares p1_snapshot_fleet_meetings p1_snapshot_plans_moves p1_snapshot_plans_lengths p1_snapshot_landings_cells p1_snapshot_landings_count p1_snapshot_fogSide p1_history_slots p1_history_free p1_history_count p1_ways_tolls p1_ways_queue p1_ways_heap p1_ways_heapSize p1_ways_found p1_ways_improved p1_pairing_costs p1_pairing_best p1_reader_kinds p1_reader_starts p1_reader_count p1_commandText_signs p1_commandText_length p1_line_signs p1_line_length p1_spareMoves p1_snapshotTaken p1_lastErrorPosition p1_lastFailedCommand → At13 G w b2 X.1 p2_changes p2_errorAt p2_failedAt p2_isSaved p2_v p2_before p2_saved p2_past p2_far p2_scratch p2_best p2_thenX p2_thenY p2_thenMet p2_text p2_line p2_isLeft p2_words p2_wordAt p2_textN p2_hereP p2_endP p2_lineN p2_isWrong p2_isDoing → (a3, (.inl (G.2 3, 1, .inr (.inl X.2)) : va_E)) ∈ w → (a4, (.inl (G.2 4, 1, .inr (.inr (.inr (.inl p4)))) : va_E)) ∈ w → ∀ ls, lv_has ls 10 [(0, .ref b), (1, .ref b1), (2, .ref b2), (3, .ref a3), (4, .ref a4), (5, .int x5)] → W p l e room_1 s m args below meth c H locs (cells + 1000) (slots + 10000) Q (F0 m 3345 ls [])) (ls : Array Slot) (hl : lv_has ls 10 [(0, .ref b), (1, .ref b1), (2, .ref b2), (3, .ref a3), (4, .ref a4), (5, .int x5)]) : W p l e room_1 s m args below meth c H locs cells slots Q (F0 m 1076 ls []) := by
  have hx := hC.1.1
  have hb := hC.1.2.1
  rw [g_law17] at hf
  refine lv_aload_n hx hb dL_law_1076 rfl (lv_at hl 1 rfl) ?_
  refine lv_aload_n hx hb dL_law_1077 rfl (lv_at hl 0 rfl) ?_
  refine lv_iload hx hb dL_law_1078 (lv_at hl 5 rfl) ?_
  refine lv_iconst (v := 1) hx hb dL_law_1080 (by decide) ?_
  refine lv_iadd hx hb dL_law_1081 ?_
  refine mm_sld hC hM hsX hbl hbA (hsc 1 (by decide)).1 (hsc 1 (by decide)).2 dL_law_1082 ?_
  refine lv_aload_n hx hb dL_law_1083 rfl (lv_at hl 3 rfl) ?_
  obtain ⟨q1084, hq1084, hf⟩ := mm_bd hf
  refine mm_SiW (rest := []) hC hM (c_L_imageColumnOf l hfl hq1084 hp_p1 hp_p3 (by omega)) q4_170 q1_0 ykL_imageColumnOf q4_168 q4_169 ⟨rfl, rfl⟩ ⟨Nat.le_of_ble_eq_true rfl, Nat.le_of_ble_eq_true rfl⟩ rfl hl.1 rfl (Nat.le_of_ble_eq_true rfl) dL_law_1084 ⟨by omega, by omega⟩ (fun r w1084 H locs hM hw => ?_)
  obtain ⟨hr, hn_p2, hfr⟩ := hw
  rw [hr]
  have hp_p1 := hp_p1.keep hfr (by omega)
  have hp_p2 := hp_p2.keep hfr (by omega)
  have hp_p4 := hfr.keep hp_p4 (by omega)
  have hp_p3 := hn_p2
  refine lv_istore (lv' := [(6, .int q1084.1), (0, .ref b), (1, .ref b1), (2, .ref b2), (3, .ref a3), (4, .ref a4), (5, .int x5)]) hx hb dL_law_1087 hl (by decide) rfl (fun ls hl => ?_)
  refine lv_aload_n hx hb dL_law_1089 rfl (lv_at hl 3 rfl) ?_
  refine lv_aload_n hx hb dL_law_1090 rfl (lv_at hl 1 rfl) ?_
  refine lv_iload hx hb dL_law_1091 (lv_at hl 6 rfl) ?_
  refine lv_iconst (v := 1) hx hb dL_law_1093 (by decide) ?_
  refine lv_iadd hx hb dL_law_1094 ?_
  refine mm_sld hC hM hsX hbl hbA (hsc 1 (by decide)).1 (hsc 1 (by decide)).2 dL_law_1095 ?_
  obtain ⟨q1096, hq1096, hf⟩ := mm_bd hf
  refine mm_Vi (rest := []) hC hM (c_X13_imageColumnOf l hq1096 hp_p2) q8_6 q1_12 ykX13_imageColumnOf q8_3 q8_4 q8_5 hp_p2.1 rfl ⟨rfl, rfl⟩ ⟨Nat.le_of_ble_eq_true rfl, Nat.le_of_ble_eq_true rfl⟩ rfl hl.1 rfl (Nat.le_of_ble_eq_true rfl) dL_law_1096 ⟨by omega, by omega⟩ (fun r w1096 H locs hM hw => ?_)
  obtain ⟨hr, hn_this, hfr⟩ := hw
  rw [hr]
  have hp_p1 := hp_p1.keep hfr (by omega)
  have hp_p3 := hfr.keep hp_p3 (by omega)
  have hp_p4 := hfr.keep hp_p4 (by omega)
  have hp_p2 := hn_this
  refine lv_istore (lv' := [(7, .int q1096.1), (6, .int q1084.1), (0, .ref b), (1, .ref b1), (2, .ref b2), (3, .ref a3), (4, .ref a4), (5, .int x5)]) hx hb dL_law_1099 hl (by decide) rfl (fun ls hl => ?_)
  refine lv_aload_n hx hb dL_law_1101 rfl (lv_at hl 4 rfl) ?_
  obtain ⟨q1102, hq1102, hf⟩ := mm_bd hf
  refine mm_Vi (rest := []) hC hM (c_X13_thrown l hq1102 hp_p2) q7_87 q1_12 ykX13_thrown q7_84 q7_85 q7_86 hp_p2.1 rfl ⟨rfl, rfl⟩ ⟨Nat.le_of_ble_eq_true rfl, Nat.le_of_ble_eq_true rfl⟩ rfl hl.1 rfl (Nat.le_of_ble_eq_true rfl) dL_law_1102 ⟨by omega, by omega⟩ (fun r w1102 H locs hM hw => ?_)
  obtain ⟨hr, hw⟩ := hw
  rw [hr]
  rw [hw] at hM
  refine lv_iload hx hb dL_law_1105 (lv_at hl 1 rfl) ?_
  refine lv_icmp_eq (tgt := 1112) hx hb dL_law_1107 (by decide) (fun hcd => ?_) (fun hcd => ?_)
  · rw [if_pos hcd] at hf
    refine lv_iload hx hb dL_law_1112 (lv_at hl 1 rfl) ?_
    refine lv_if_ne (tgt := 1129) hx hb dL_law_1114 (by decide) (fun hcd => ?_) (fun hcd => ?_)
    · rw [if_neg hcd] at hf
      refine lv_goto (tgt := 3345) hx hb dL_law_1129 (by decide) ?_
      cases hf
      exact W.widen (by omega) (by omega) (hk _ _ _ hM hp_p1 hp_p2 hp_p3 hp_p4 _ (lv_sub hl [2, 3, 4, 5, 6, 7] rfl))
    · rw [if_pos hcd] at hf
      refine lv_aload_n hx hb dL_law_1117 rfl (lv_at hl 5 rfl) ?_
      refine lv_iconst (v := 0) hx hb dL_law_1118 (by decide) ?_
      refine mm_lald0 hC hM hp_p3 dL_law_1119 ?_
      refine lv_iload hx hb dL_law_1120 (lv_at hl 0 rfl) ?_
      refine lv_i2l hx hb dL_law_1122 rfl ?_
      refine W.lcmp hx hb dL_law_1123 ?_
      refine lv_if_eq (tgt := 1129) hx hb dL_law_1124 (by decide) (fun hcd => ?_) (fun hcd => ?_)
      · rw [if_pos hcd] at hf
        refine lv_goto (tgt := 3345) hx hb dL_law_1129 (by decide) ?_
        cases hf
        exact W.widen (by omega) (by omega) (hk _ _ _ hM hp_p1 hp_p2 hp_p3 hp_p4 _ (lv_sub hl [2, 3, 4, 5, 6, 7] rfl))
      · rw [if_neg hcd] at hf
        refine lv_iconst (v := 0) hx hb dL_law_1127 (by decide) ?_
        cases hf
  · rw [if_neg hcd] at hf
    refine lv_iconst (v := 0) hx hb dL_law_1110 (by decide) ?_
    cases hf
def g_law18 (K : Nat) (p1_marsh_fleet_numbers : Nat → Int32) (p1_marsh_fleet_fares : Nat → Int32) (p1_marsh_fleet_count : Int32) (p2_v : Nat → Int32) (p3 : Nat → Int64) (x1 : Int32) : Option (Int32 × (Nat → Int64)) := (f_L_faresOf K p1_marsh_fleet_numbers p1_marsh_fleet_fares p1_marsh_fleet_count p3 x1).bind fun q1140 => (f_X13_faresOf K p2_v x1).bind fun q1152 => (f_X13_thrown q1152.2).bind fun q1158 => if q1158 = q1140.1 then if q1140.1 = 0 then if (lg_cmp (q1140.2 0) q1152.1.toInt64) = 0 then some (q1152.2, q1140.2) else none else some (q1152.2, q1140.2) else none
set_option maxHeartbeats 4000000 in
set_option maxRecDepth 100000 in
theorem g_law18_c (hC : mm_C G A p s m c code 10 args "MirrorFerryLaw") (hsX : va_X b L xs s s.heap) (hbl : b < s.heap.size) (hbA : ¬ A b) (hd1 : b1 + 152 ≤ b2) (hd2 : b2 + 13 ≤ a3) (hd3 : a3 + 1 ≤ a4) (hrc : cells + 1000 ≤ room_1.cells) (hrs : slots + 10000 ≤ room_1.slots) (hfl : l.stackTraces = false) {K : Nat} {p1_marsh_reeds_states : Nat → Int32} {p1_marsh_reeds_count : Int32} {p1_marsh_reeds_broken : Int32} {p1_marsh_fleet_numbers : Nat → Int32} {p1_marsh_fleet_cells : Nat → Int32} {p1_marsh_fleet_fares : Nat → Int32} {p1_marsh_fleet_count : Int32} {p1_marsh_fleet_nextNumber : Int32} {p1_marsh_fleet_total : Int32} {p1_marsh_fleet_removedFares : Int32} {p1_marsh_fleet_meetings : Int32} {p1_marsh_plans_moves : Nat → Int32} {p1_marsh_plans_lengths : Nat → Int32} {p1_marsh_landings_cells : Nat → Int32} {p1_marsh_landings_count : Int32} {p1_marsh_fogSide : Int32} {p1_snapshot_reeds_states : Nat → Int32} {p1_snapshot_reeds_count : Int32} {p1_snapshot_reeds_broken : Int32} {p1_snapshot_fleet_numbers : Nat → Int32} {p1_snapshot_fleet_cells : Nat → Int32} {p1_snapshot_fleet_fares : Nat → Int32} {p1_snapshot_fleet_count : Int32} {p1_snapshot_fleet_nextNumber : Int32} {p1_snapshot_fleet_total : Int32} {p1_snapshot_fleet_removedFares : Int32} {p1_snapshot_fleet_meetings : Int32} {p1_snapshot_plans_moves : Nat → Int32} {p1_snapshot_plans_lengths : Nat → Int32} {p1_snapshot_landings_cells : Nat → Int32} {p1_snapshot_landings_count : Int32} {p1_snapshot_fogSide : Int32} {p1_history_slots : Nat → mm_MV} {p1_history_free : Int32} {p1_history_count : Int32} {p1_ways_tolls : Nat → Int32} {p1_ways_queue : Nat → Int32} {p1_ways_heap : Nat → Int32} {p1_ways_heapSize : Int32} {p1_ways_found : Nat → Int32} {p1_ways_improved : Nat → Int32} {p1_pairing_costs : Nat → Int32} {p1_pairing_best : Nat → Int32} {p1_reader_kinds : Nat → Int32} {p1_reader_starts : Nat → Int32} {p1_reader_count : Int32} {p1_commandText_signs : Nat → Int32} {p1_commandText_length : Int32} {p1_line_signs : Nat → Int32} {p1_line_length : Int32} {p1_spareMoves : Nat → Int32} {p1_snapshotTaken : Int32} {p1_lastErrorPosition : Int32} {p1_lastFailedCommand : Int32} {p2_thrown : Int32} {p2_changes : Int32} {p2_errorAt : Int32} {p2_failedAt : Int32} {p2_isSaved : Int32} {p2_v : Nat → Int32} {p2_before : Nat → Int32} {p2_saved : Nat → Int32} {p2_past : Nat → Int32} {p2_far : Nat → Int32} {p2_scratch : Nat → Int32} {p2_best : Nat → Int32} {p2_thenX : Int32} {p2_thenY : Int32} {p2_thenMet : Int32} {p2_text : Nat → Int32} {p2_line : Nat → Int32} {p2_isLeft : Nat → Int32} {p2_words : Nat → Int32} {p2_wordAt : Nat → Int32} {p2_textN : Int32} {p2_hereP : Int32} {p2_endP : Int32} {p2_lineN : Int32} {p2_isWrong : Int32} {p2_isDoing : Int32} {p3 : Nat → Int64} {p4 : Nat → UInt64} {x0 x1 x2 x3 x4 x5 : Int32} {X : Int32 × (Nat → Int64)} (hf : g_law18 K p1_marsh_fleet_numbers p1_marsh_fleet_fares p1_marsh_fleet_count p2_v p3 x1 = some X) (hp_p1 : At12 G w b1 p1_marsh_reeds_states p1_marsh_reeds_count p1_marsh_reeds_broken p1_marsh_fleet_numbers p1_marsh_fleet_cells p1_marsh_fleet_fares p1_marsh_fleet_count p1_marsh_fleet_nextNumber p1_marsh_fleet_total p1_marsh_fleet_removedFares p1_marsh_fleet_meetings p1_marsh_plans_moves p1_marsh_plans_lengths p1_marsh_landings_cells p1_marsh_landings_count p1_marsh_fogSide p1_snapshot_reeds_states p1_snapshot_reeds_count p1_snapshot_reeds_broken p1_snapshot_fleet_numbers p1_snapshot_fleet_cells p1_snapshot_fleet_fares p1_snapshot_fleet_count p1_snapshot_fleet_nextNumber p1_snapshot_fleet_total p1_snapshot_fleet_removedFares p1_snapshot_fleet_meetings p1_snapshot_plans_moves p1_snapshot_plans_lengths p1_snapshot_landings_cells p1_snapshot_landings_count p1_snapshot_fogSide p1_history_slots p1_history_free p1_history_count p1_ways_tolls p1_ways_queue p1_ways_heap p1_ways_heapSize p1_ways_found p1_ways_improved p1_pairing_costs p1_pairing_best p1_reader_kinds p1_reader_starts p1_reader_count p1_commandText_signs p1_commandText_length p1_line_signs p1_line_length p1_spareMoves p1_snapshotTaken p1_lastErrorPosition p1_lastFailedCommand) (hp_p2 : At13 G w b2 p2_thrown p2_changes p2_errorAt p2_failedAt p2_isSaved p2_v p2_before p2_saved p2_past p2_far p2_scratch p2_best p2_thenX p2_thenY p2_thenMet p2_text p2_line p2_isLeft p2_words p2_wordAt p2_textN p2_hereP p2_endP p2_lineN p2_isWrong p2_isDoing) (hp_p3 : (a3, (.inl (G.2 3, 1, .inr (.inl p3)) : va_E)) ∈ w) (hp_p4 : (a4, (.inl (G.2 4, 1, .inr (.inr (.inr (.inl p4)))) : va_E)) ∈ w)
    (hsc : ∀ k : Nat, k < 5 → vp_in (x5 + Int32.ofNat k) L ∧ xs (x5 + Int32.ofNat k).toNatClampNeg = mm_x5 x0 x1 x2 x3 x4 k) (hM : mm_S G A s.heap w H locs)
    (hk : ∀ (w : va_W) (H : Heap) (locs : List Loc), mm_S G A s.heap w H locs → At12 G w b1 p1_marsh_reeds_states p1_marsh_reeds_count p1_marsh_reeds_broken p1_marsh_fleet_numbers p1_marsh_fleet_cells p1_marsh_fleet_fares p1_marsh_fleet_count p1_marsh_fleet_nextNumber p1_marsh_fleet_total p1_marsh_fleet_removedFares p1_marsh_fleet_meetings p1_marsh_plans_moves p1_marsh_plans_lengths p1_marsh_landings_cells p1_marsh_landings_count p1_marsh_fogSide p1_snapshot_reeds_states p1_snapshot_reeds_count p1_snapshot_reeds_broken p1_snapshot_fleet_numbers p1_snapshot_fleet_cells p1_snapshot_fleet_fares p1_snapshot_fleet_count p1_snapshot_fleet_nextNumber p1_snapshot_fleet_total p1_snapshot_fleet_removedFares p1_snapshot_fleet_meetings p1_snapshot_plans_moves p1_snapshot_plans_lengths p1_snapshot_landings_cells p1_snapshot_landings_count p1_snapshot_fogSide p1_history_slots p1_history_free p1_history_count p1_ways_tolls p1_ways_queue p1_ways_heap p1_ways_heapSize p1_ways_found p1_ways_improved p1_pairing_costs p1_pairing_best p1_reader_kinds p1_reader_starts p1_reader_count p1_commandText_signs p1_commandText_length p1_line_signs p1_line_length p1_spareMoves p1_snapshotTaken p1_lastErrorPosition p1_lastFailedCommand → At13 G w b2 X.1 p2_changes p2_errorAt p2_failedAt p2_isSaved p2_v p2_before p2_saved p2_past p2_far p2_scratch p2_best p2_thenX p2_thenY p2_thenMet p2_text p2_line p2_isLeft p2_words p2_wordAt p2_textN p2_hereP p2_endP p2_lineN p2_isWrong p2_isDoing → (a3, (.inl (G.2 3, 1, .inr (.inl X.2)) : va_E)) ∈ w → (a4, (.inl (G.2 4, 1, .inr (.inr (.inr (.inl p4)))) : va_E)) ∈ w → ∀ ls, lv_has ls 10 [(0, .ref b), (1, .ref b1), (2, .ref b2), (3, .ref a3), (4, .ref a4), (5, .int x5)] → W p l e room_1 s m args below meth c H locs (cells + 1000) (slots + 10000) Q (F0 m 3345 ls [])) (ls : Array Slot) (hl : lv_has ls 10 [(0, .ref b), (1, .ref b1), (2, .ref b2), (3, .ref a3), (4, .ref a4), (5, .int x5)]) : W p l e room_1 s m args below meth c H locs cells slots Q (F0 m 1132 ls []) := by
  have hx := hC.1.1
  have hb := hC.1.2.1
  rw [g_law18] at hf
  refine lv_aload_n hx hb dL_law_1132 rfl (lv_at hl 1 rfl) ?_
  refine lv_aload_n hx hb dL_law_1133 rfl (lv_at hl 0 rfl) ?_
  refine lv_iload hx hb dL_law_1134 (lv_at hl 5 rfl) ?_
  refine lv_iconst (v := 1) hx hb dL_law_1136 (by decide) ?_
  refine lv_iadd hx hb dL_law_1137 ?_
  refine mm_sld hC hM hsX hbl hbA (hsc 1 (by decide)).1 (hsc 1 (by decide)).2 dL_law_1138 ?_
  refine lv_aload_n hx hb dL_law_1139 rfl (lv_at hl 3 rfl) ?_
  obtain ⟨q1140, hq1140, hf⟩ := mm_bd hf
  refine mm_SiW (rest := []) hC hM (c_L_faresOf l hfl hq1140 hp_p1 hp_p3 (by omega)) q4_178 q1_0 ykL_faresOf q4_176 q4_177 ⟨rfl, rfl⟩ ⟨Nat.le_of_ble_eq_true rfl, Nat.le_of_ble_eq_true rfl⟩ rfl hl.1 rfl (Nat.le_of_ble_eq_true rfl) dL_law_1140 ⟨by omega, by omega⟩ (fun r w1140 H locs hM hw => ?_)
  obtain ⟨hr, hn_p2, hfr⟩ := hw
  rw [hr]
  have hp_p1 := hp_p1.keep hfr (by omega)
  have hp_p2 := hp_p2.keep hfr (by omega)
  have hp_p4 := hfr.keep hp_p4 (by omega)
  have hp_p3 := hn_p2
  refine lv_istore (lv' := [(6, .int q1140.1), (0, .ref b), (1, .ref b1), (2, .ref b2), (3, .ref a3), (4, .ref a4), (5, .int x5)]) hx hb dL_law_1143 hl (by decide) rfl (fun ls hl => ?_)
  refine lv_aload_n hx hb dL_law_1145 rfl (lv_at hl 3 rfl) ?_
  refine lv_aload_n hx hb dL_law_1146 rfl (lv_at hl 1 rfl) ?_
  refine lv_iload hx hb dL_law_1147 (lv_at hl 6 rfl) ?_
  refine lv_iconst (v := 1) hx hb dL_law_1149 (by decide) ?_
  refine lv_iadd hx hb dL_law_1150 ?_
  refine mm_sld hC hM hsX hbl hbA (hsc 1 (by decide)).1 (hsc 1 (by decide)).2 dL_law_1151 ?_
  obtain ⟨q1152, hq1152, hf⟩ := mm_bd hf
  refine mm_Vi (rest := []) hC hM (c_X13_faresOf l hq1152 hp_p2) q8_10 q1_12 ykX13_faresOf q8_7 q8_8 q8_9 hp_p2.1 rfl ⟨rfl, rfl⟩ ⟨Nat.le_of_ble_eq_true rfl, Nat.le_of_ble_eq_true rfl⟩ rfl hl.1 rfl (Nat.le_of_ble_eq_true rfl) dL_law_1152 ⟨by omega, by omega⟩ (fun r w1152 H locs hM hw => ?_)
  obtain ⟨hr, hn_this, hfr⟩ := hw
  rw [hr]
  have hp_p1 := hp_p1.keep hfr (by omega)
  have hp_p3 := hfr.keep hp_p3 (by omega)
  have hp_p4 := hfr.keep hp_p4 (by omega)
  have hp_p2 := hn_this
  refine lv_istore (lv' := [(7, .int q1152.1), (6, .int q1140.1), (0, .ref b), (1, .ref b1), (2, .ref b2), (3, .ref a3), (4, .ref a4), (5, .int x5)]) hx hb dL_law_1155 hl (by decide) rfl (fun ls hl => ?_)
  refine lv_aload_n hx hb dL_law_1157 rfl (lv_at hl 4 rfl) ?_
  obtain ⟨q1158, hq1158, hf⟩ := mm_bd hf
  refine mm_Vi (rest := []) hC hM (c_X13_thrown l hq1158 hp_p2) q7_87 q1_12 ykX13_thrown q7_84 q7_85 q7_86 hp_p2.1 rfl ⟨rfl, rfl⟩ ⟨Nat.le_of_ble_eq_true rfl, Nat.le_of_ble_eq_true rfl⟩ rfl hl.1 rfl (Nat.le_of_ble_eq_true rfl) dL_law_1158 ⟨by omega, by omega⟩ (fun r w1158 H locs hM hw => ?_)
  obtain ⟨hr, hw⟩ := hw
  rw [hr]
  rw [hw] at hM
  refine lv_iload hx hb dL_law_1161 (lv_at hl 1 rfl) ?_
  refine lv_icmp_eq (tgt := 1168) hx hb dL_law_1163 (by decide) (fun hcd => ?_) (fun hcd => ?_)
  · rw [if_pos hcd] at hf
    refine lv_iload hx hb dL_law_1168 (lv_at hl 1 rfl) ?_
    refine lv_if_ne (tgt := 1185) hx hb dL_law_1170 (by decide) (fun hcd => ?_) (fun hcd => ?_)
    · rw [if_neg hcd] at hf
      refine lv_goto (tgt := 3345) hx hb dL_law_1185 (by decide) ?_
      cases hf
      exact W.widen (by omega) (by omega) (hk _ _ _ hM hp_p1 hp_p2 hp_p3 hp_p4 _ (lv_sub hl [2, 3, 4, 5, 6, 7] rfl))
    · rw [if_pos hcd] at hf
      refine lv_aload_n hx hb dL_law_1173 rfl (lv_at hl 5 rfl) ?_
      refine lv_iconst (v := 0) hx hb dL_law_1174 (by decide) ?_
      refine mm_lald0 hC hM hp_p3 dL_law_1175 ?_
      refine lv_iload hx hb dL_law_1176 (lv_at hl 0 rfl) ?_
      refine lv_i2l hx hb dL_law_1178 rfl ?_
      refine W.lcmp hx hb dL_law_1179 ?_
      refine lv_if_eq (tgt := 1185) hx hb dL_law_1180 (by decide) (fun hcd => ?_) (fun hcd => ?_)
      · rw [if_pos hcd] at hf
        refine lv_goto (tgt := 3345) hx hb dL_law_1185 (by decide) ?_
        cases hf
        exact W.widen (by omega) (by omega) (hk _ _ _ hM hp_p1 hp_p2 hp_p3 hp_p4 _ (lv_sub hl [2, 3, 4, 5, 6, 7] rfl))
      · rw [if_neg hcd] at hf
        refine lv_iconst (v := 0) hx hb dL_law_1183 (by decide) ?_
        cases hf
  · rw [if_neg hcd] at hf
    refine lv_iconst (v := 0) hx hb dL_law_1166 (by decide) ?_
    cases hf
def g_law19 (K : Nat) (p1_marsh_fleet_numbers : Nat → Int32) (p1_marsh_fleet_fares : Nat → Int32) (p1_marsh_fleet_count : Int32) (p2_v : Nat → Int32) (p3 : Nat → Int64) (x1 : Int32) : Option (Int32 × (Nat → Int64)) := (f_L_boatAtRank K p1_marsh_fleet_numbers p1_marsh_fleet_fares p1_marsh_fleet_count p3 x1).bind fun q1196 => (f_X13_boatAtRank K p2_v x1).bind fun q1208 => (f_X13_thrown q1208.2).bind fun q1214 => if q1214 = q1196.1 then if q1196.1 = 0 then if (lg_cmp (q1196.2 0) q1208.1.toInt64) = 0 then some (q1208.2, q1196.2) else none else some (q1208.2, q1196.2) else none
set_option maxHeartbeats 4000000 in
set_option maxRecDepth 100000 in
theorem g_law19_c (hC : mm_C G A p s m c code 10 args "MirrorFerryLaw") (hsX : va_X b L xs s s.heap) (hbl : b < s.heap.size) (hbA : ¬ A b) (hd1 : b1 + 152 ≤ b2) (hd2 : b2 + 13 ≤ a3) (hd3 : a3 + 1 ≤ a4) (hrc : cells + 1000 ≤ room_1.cells) (hrs : slots + 10000 ≤ room_1.slots) (hfl : l.stackTraces = false) {K : Nat} {p1_marsh_reeds_states : Nat → Int32} {p1_marsh_reeds_count : Int32} {p1_marsh_reeds_broken : Int32} {p1_marsh_fleet_numbers : Nat → Int32} {p1_marsh_fleet_cells : Nat → Int32} {p1_marsh_fleet_fares : Nat → Int32} {p1_marsh_fleet_count : Int32} {p1_marsh_fleet_nextNumber : Int32} {p1_marsh_fleet_total : Int32} {p1_marsh_fleet_removedFares : Int32} {p1_marsh_fleet_meetings : Int32} {p1_marsh_plans_moves : Nat → Int32} {p1_marsh_plans_lengths : Nat → Int32} {p1_marsh_landings_cells : Nat → Int32} {p1_marsh_landings_count : Int32} {p1_marsh_fogSide : Int32} {p1_snapshot_reeds_states : Nat → Int32} {p1_snapshot_reeds_count : Int32} {p1_snapshot_reeds_broken : Int32} {p1_snapshot_fleet_numbers : Nat → Int32} {p1_snapshot_fleet_cells : Nat → Int32} {p1_snapshot_fleet_fares : Nat → Int32} {p1_snapshot_fleet_count : Int32} {p1_snapshot_fleet_nextNumber : Int32} {p1_snapshot_fleet_total : Int32} {p1_snapshot_fleet_removedFares : Int32} {p1_snapshot_fleet_meetings : Int32} {p1_snapshot_plans_moves : Nat → Int32} {p1_snapshot_plans_lengths : Nat → Int32} {p1_snapshot_landings_cells : Nat → Int32} {p1_snapshot_landings_count : Int32} {p1_snapshot_fogSide : Int32} {p1_history_slots : Nat → mm_MV} {p1_history_free : Int32} {p1_history_count : Int32} {p1_ways_tolls : Nat → Int32} {p1_ways_queue : Nat → Int32} {p1_ways_heap : Nat → Int32} {p1_ways_heapSize : Int32} {p1_ways_found : Nat → Int32} {p1_ways_improved : Nat → Int32} {p1_pairing_costs : Nat → Int32} {p1_pairing_best : Nat → Int32} {p1_reader_kinds : Nat → Int32} {p1_reader_starts : Nat → Int32} {p1_reader_count : Int32} {p1_commandText_signs : Nat → Int32} {p1_commandText_length : Int32} {p1_line_signs : Nat → Int32} {p1_line_length : Int32} {p1_spareMoves : Nat → Int32} {p1_snapshotTaken : Int32} {p1_lastErrorPosition : Int32} {p1_lastFailedCommand : Int32} {p2_thrown : Int32} {p2_changes : Int32} {p2_errorAt : Int32} {p2_failedAt : Int32} {p2_isSaved : Int32} {p2_v : Nat → Int32} {p2_before : Nat → Int32} {p2_saved : Nat → Int32} {p2_past : Nat → Int32} {p2_far : Nat → Int32} {p2_scratch : Nat → Int32} {p2_best : Nat → Int32} {p2_thenX : Int32} {p2_thenY : Int32} {p2_thenMet : Int32} {p2_text : Nat → Int32} {p2_line : Nat → Int32} {p2_isLeft : Nat → Int32} {p2_words : Nat → Int32} {p2_wordAt : Nat → Int32} {p2_textN : Int32} {p2_hereP : Int32} {p2_endP : Int32} {p2_lineN : Int32} {p2_isWrong : Int32} {p2_isDoing : Int32} {p3 : Nat → Int64} {p4 : Nat → UInt64} {x0 x1 x2 x3 x4 x5 : Int32} {X : Int32 × (Nat → Int64)} (hf : g_law19 K p1_marsh_fleet_numbers p1_marsh_fleet_fares p1_marsh_fleet_count p2_v p3 x1 = some X) (hp_p1 : At12 G w b1 p1_marsh_reeds_states p1_marsh_reeds_count p1_marsh_reeds_broken p1_marsh_fleet_numbers p1_marsh_fleet_cells p1_marsh_fleet_fares p1_marsh_fleet_count p1_marsh_fleet_nextNumber p1_marsh_fleet_total p1_marsh_fleet_removedFares p1_marsh_fleet_meetings p1_marsh_plans_moves p1_marsh_plans_lengths p1_marsh_landings_cells p1_marsh_landings_count p1_marsh_fogSide p1_snapshot_reeds_states p1_snapshot_reeds_count p1_snapshot_reeds_broken p1_snapshot_fleet_numbers p1_snapshot_fleet_cells p1_snapshot_fleet_fares p1_snapshot_fleet_count p1_snapshot_fleet_nextNumber p1_snapshot_fleet_total p1_snapshot_fleet_removedFares p1_snapshot_fleet_meetings p1_snapshot_plans_moves p1_snapshot_plans_lengths p1_snapshot_landings_cells p1_snapshot_landings_count p1_snapshot_fogSide p1_history_slots p1_history_free p1_history_count p1_ways_tolls p1_ways_queue p1_ways_heap p1_ways_heapSize p1_ways_found p1_ways_improved p1_pairing_costs p1_pairing_best p1_reader_kinds p1_reader_starts p1_reader_count p1_commandText_signs p1_commandText_length p1_line_signs p1_line_length p1_spareMoves p1_snapshotTaken p1_lastErrorPosition p1_lastFailedCommand) (hp_p2 : At13 G w b2 p2_thrown p2_changes p2_errorAt p2_failedAt p2_isSaved p2_v p2_before p2_saved p2_past p2_far p2_scratch p2_best p2_thenX p2_thenY p2_thenMet p2_text p2_line p2_isLeft p2_words p2_wordAt p2_textN p2_hereP p2_endP p2_lineN p2_isWrong p2_isDoing) (hp_p3 : (a3, (.inl (G.2 3, 1, .inr (.inl p3)) : va_E)) ∈ w) (hp_p4 : (a4, (.inl (G.2 4, 1, .inr (.inr (.inr (.inl p4)))) : va_E)) ∈ w)
    (hsc : ∀ k : Nat, k < 5 → vp_in (x5 + Int32.ofNat k) L ∧ xs (x5 + Int32.ofNat k).toNatClampNeg = mm_x5 x0 x1 x2 x3 x4 k) (hM : mm_S G A s.heap w H locs)
    (hk : ∀ (w : va_W) (H : Heap) (locs : List Loc), mm_S G A s.heap w H locs → At12 G w b1 p1_marsh_reeds_states p1_marsh_reeds_count p1_marsh_reeds_broken p1_marsh_fleet_numbers p1_marsh_fleet_cells p1_marsh_fleet_fares p1_marsh_fleet_count p1_marsh_fleet_nextNumber p1_marsh_fleet_total p1_marsh_fleet_removedFares p1_marsh_fleet_meetings p1_marsh_plans_moves p1_marsh_plans_lengths p1_marsh_landings_cells p1_marsh_landings_count p1_marsh_fogSide p1_snapshot_reeds_states p1_snapshot_reeds_count p1_snapshot_reeds_broken p1_snapshot_fleet_numbers p1_snapshot_fleet_cells p1_snapshot_fleet_fares p1_snapshot_fleet_count p1_snapshot_fleet_nextNumber p1_snapshot_fleet_total p1_snapshot_fleet_removedFares p1_snapshot_fleet_meetings p1_snapshot_plans_moves p1_snapshot_plans_lengths p1_snapshot_landings_cells p1_snapshot_landings_count p1_snapshot_fogSide p1_history_slots p1_history_free p1_history_count p1_ways_tolls p1_ways_queue p1_ways_heap p1_ways_heapSize p1_ways_found p1_ways_improved p1_pairing_costs p1_pairing_best p1_reader_kinds p1_reader_starts p1_reader_count p1_commandText_signs p1_commandText_length p1_line_signs p1_line_length p1_spareMoves p1_snapshotTaken p1_lastErrorPosition p1_lastFailedCommand → At13 G w b2 X.1 p2_changes p2_errorAt p2_failedAt p2_isSaved p2_v p2_before p2_saved p2_past p2_far p2_scratch p2_best p2_thenX p2_thenY p2_thenMet p2_text p2_line p2_isLeft p2_words p2_wordAt p2_textN p2_hereP p2_endP p2_lineN p2_isWrong p2_isDoing → (a3, (.inl (G.2 3, 1, .inr (.inl X.2)) : va_E)) ∈ w → (a4, (.inl (G.2 4, 1, .inr (.inr (.inr (.inl p4)))) : va_E)) ∈ w → ∀ ls, lv_has ls 10 [(0, .ref b), (1, .ref b1), (2, .ref b2), (3, .ref a3), (4, .ref a4), (5, .int x5)] → W p l e room_1 s m args below meth c H locs (cells + 1000) (slots + 10000) Q (F0 m 3345 ls [])) (ls : Array Slot) (hl : lv_has ls 10 [(0, .ref b), (1, .ref b1), (2, .ref b2), (3, .ref a3), (4, .ref a4), (5, .int x5)]) : W p l e room_1 s m args below meth c H locs cells slots Q (F0 m 1188 ls []) := by
  have hx := hC.1.1
  have hb := hC.1.2.1
  rw [g_law19] at hf
  refine lv_aload_n hx hb dL_law_1188 rfl (lv_at hl 1 rfl) ?_
  refine lv_aload_n hx hb dL_law_1189 rfl (lv_at hl 0 rfl) ?_
  refine lv_iload hx hb dL_law_1190 (lv_at hl 5 rfl) ?_
  refine lv_iconst (v := 1) hx hb dL_law_1192 (by decide) ?_
  refine lv_iadd hx hb dL_law_1193 ?_
  refine mm_sld hC hM hsX hbl hbA (hsc 1 (by decide)).1 (hsc 1 (by decide)).2 dL_law_1194 ?_
  refine lv_aload_n hx hb dL_law_1195 rfl (lv_at hl 3 rfl) ?_
  obtain ⟨q1196, hq1196, hf⟩ := mm_bd hf
  refine mm_SiW (rest := []) hC hM (c_L_boatAtRank l hfl hq1196 hp_p1 hp_p3 (by omega)) q4_185 q1_0 ykL_boatAtRank q4_183 q4_184 ⟨rfl, rfl⟩ ⟨Nat.le_of_ble_eq_true rfl, Nat.le_of_ble_eq_true rfl⟩ rfl hl.1 rfl (Nat.le_of_ble_eq_true rfl) dL_law_1196 ⟨by omega, by omega⟩ (fun r w1196 H locs hM hw => ?_)
  obtain ⟨hr, hn_p2, hfr⟩ := hw
  rw [hr]
  have hp_p1 := hp_p1.keep hfr (by omega)
  have hp_p2 := hp_p2.keep hfr (by omega)
  have hp_p4 := hfr.keep hp_p4 (by omega)
  have hp_p3 := hn_p2
  refine lv_istore (lv' := [(6, .int q1196.1), (0, .ref b), (1, .ref b1), (2, .ref b2), (3, .ref a3), (4, .ref a4), (5, .int x5)]) hx hb dL_law_1199 hl (by decide) rfl (fun ls hl => ?_)
  refine lv_aload_n hx hb dL_law_1201 rfl (lv_at hl 3 rfl) ?_
  refine lv_aload_n hx hb dL_law_1202 rfl (lv_at hl 1 rfl) ?_
  refine lv_iload hx hb dL_law_1203 (lv_at hl 6 rfl) ?_
  refine lv_iconst (v := 1) hx hb dL_law_1205 (by decide) ?_
  refine lv_iadd hx hb dL_law_1206 ?_
  refine mm_sld hC hM hsX hbl hbA (hsc 1 (by decide)).1 (hsc 1 (by decide)).2 dL_law_1207 ?_
  obtain ⟨q1208, hq1208, hf⟩ := mm_bd hf
  refine mm_Vi (rest := []) hC hM (c_X13_boatAtRank l hq1208 hp_p2) q8_14 q1_12 ykX13_boatAtRank q8_11 q8_12 q8_13 hp_p2.1 rfl ⟨rfl, rfl⟩ ⟨Nat.le_of_ble_eq_true rfl, Nat.le_of_ble_eq_true rfl⟩ rfl hl.1 rfl (Nat.le_of_ble_eq_true rfl) dL_law_1208 ⟨by omega, by omega⟩ (fun r w1208 H locs hM hw => ?_)
  obtain ⟨hr, hn_this, hfr⟩ := hw
  rw [hr]
  have hp_p1 := hp_p1.keep hfr (by omega)
  have hp_p3 := hfr.keep hp_p3 (by omega)
  have hp_p4 := hfr.keep hp_p4 (by omega)
  have hp_p2 := hn_this
  refine lv_istore (lv' := [(7, .int q1208.1), (6, .int q1196.1), (0, .ref b), (1, .ref b1), (2, .ref b2), (3, .ref a3), (4, .ref a4), (5, .int x5)]) hx hb dL_law_1211 hl (by decide) rfl (fun ls hl => ?_)
  refine lv_aload_n hx hb dL_law_1213 rfl (lv_at hl 4 rfl) ?_
  obtain ⟨q1214, hq1214, hf⟩ := mm_bd hf
  refine mm_Vi (rest := []) hC hM (c_X13_thrown l hq1214 hp_p2) q7_87 q1_12 ykX13_thrown q7_84 q7_85 q7_86 hp_p2.1 rfl ⟨rfl, rfl⟩ ⟨Nat.le_of_ble_eq_true rfl, Nat.le_of_ble_eq_true rfl⟩ rfl hl.1 rfl (Nat.le_of_ble_eq_true rfl) dL_law_1214 ⟨by omega, by omega⟩ (fun r w1214 H locs hM hw => ?_)
  obtain ⟨hr, hw⟩ := hw
  rw [hr]
  rw [hw] at hM
  refine lv_iload hx hb dL_law_1217 (lv_at hl 1 rfl) ?_
  refine lv_icmp_eq (tgt := 1224) hx hb dL_law_1219 (by decide) (fun hcd => ?_) (fun hcd => ?_)
  · rw [if_pos hcd] at hf
    refine lv_iload hx hb dL_law_1224 (lv_at hl 1 rfl) ?_
    refine lv_if_ne (tgt := 1241) hx hb dL_law_1226 (by decide) (fun hcd => ?_) (fun hcd => ?_)
    · rw [if_neg hcd] at hf
      refine lv_goto (tgt := 3345) hx hb dL_law_1241 (by decide) ?_
      cases hf
      exact W.widen (by omega) (by omega) (hk _ _ _ hM hp_p1 hp_p2 hp_p3 hp_p4 _ (lv_sub hl [2, 3, 4, 5, 6, 7] rfl))
    · rw [if_pos hcd] at hf
      refine lv_aload_n hx hb dL_law_1229 rfl (lv_at hl 5 rfl) ?_
      refine lv_iconst (v := 0) hx hb dL_law_1230 (by decide) ?_
      refine mm_lald0 hC hM hp_p3 dL_law_1231 ?_
      refine lv_iload hx hb dL_law_1232 (lv_at hl 0 rfl) ?_
      refine lv_i2l hx hb dL_law_1234 rfl ?_
      refine W.lcmp hx hb dL_law_1235 ?_
      refine lv_if_eq (tgt := 1241) hx hb dL_law_1236 (by decide) (fun hcd => ?_) (fun hcd => ?_)
      · rw [if_pos hcd] at hf
        refine lv_goto (tgt := 3345) hx hb dL_law_1241 (by decide) ?_
        cases hf
        exact W.widen (by omega) (by omega) (hk _ _ _ hM hp_p1 hp_p2 hp_p3 hp_p4 _ (lv_sub hl [2, 3, 4, 5, 6, 7] rfl))
      · rw [if_neg hcd] at hf
        refine lv_iconst (v := 0) hx hb dL_law_1239 (by decide) ?_
        cases hf
  · rw [if_neg hcd] at hf
    refine lv_iconst (v := 0) hx hb dL_law_1222 (by decide) ?_
    cases hf
def g_law20 (K : Nat) (p1_marsh_reeds_states : Nat → Int32) (p1_marsh_reeds_count : Int32) (p1_marsh_reeds_broken : Int32) (p1_marsh_fleet_numbers : Nat → Int32) (p1_marsh_fleet_cells : Nat → Int32) (p1_marsh_fleet_fares : Nat → Int32) (p1_marsh_fleet_count : Int32) (p1_marsh_fleet_nextNumber : Int32) (p1_marsh_fleet_total : Int32) (p1_marsh_fleet_removedFares : Int32) (p1_marsh_fleet_meetings : Int32) (p1_marsh_plans_moves : Nat → Int32) (p1_marsh_plans_lengths : Nat → Int32) (p1_marsh_landings_cells : Nat → Int32) (p1_marsh_landings_count : Int32) (p1_marsh_fogSide : Int32) (p1_history_slots : Nat → mm_MV) (p1_history_free : Int32) (p1_history_count : Int32) (p2_changes : Int32) (p2_v : Nat → Int32) (p2_before : Nat → Int32) (p2_past : Nat → Int32) (p3 : Nat → Int64) (x1 : Int32) (x2 : Int32) : Option ((Nat → Int32) × (Nat → Int32) × (Nat → mm_MV) × Int32 × Int32 × Int32 × Int32 × (Nat → Int32) × (Nat → Int32) × (Nat → Int32) × (Nat → Int64)) := (f_L_addMove K p1_marsh_reeds_states p1_marsh_reeds_count p1_marsh_reeds_broken p1_marsh_fleet_numbers p1_marsh_fleet_cells p1_marsh_fleet_fares p1_marsh_fleet_count p1_marsh_fleet_nextNumber p1_marsh_fleet_total p1_marsh_fleet_removedFares p1_marsh_fleet_meetings p1_marsh_plans_moves p1_marsh_plans_lengths p1_marsh_landings_cells p1_marsh_landings_count p1_marsh_fogSide p1_history_slots p1_history_free p1_history_count p3 x1 ((x2.toUInt32 % 65536).toInt32)).bind fun q1259 => (f_X13_addMove K p2_changes p2_v p2_before p2_past x1 ((x2.toUInt32 % 65536).toInt32)).bind fun q1278 => (f_X13_thrown q1278.2.1).bind fun q1284 => if q1284 = q1259.1 then if q1259.1 = 0 then if (lg_cmp (q1259.2.2.2.2.2.2 0) q1278.1.toInt64) = 0 then some (q1259.2.1, q1259.2.2.1, q1259.2.2.2.1, q1259.2.2.2.2.1, q1259.2.2.2.2.2.1, q1278.2.1, q1278.2.2.1, q1278.2.2.2.1, q1278.2.2.2.2.1, q1278.2.2.2.2.2, q1259.2.2.2.2.2.2) else none else some (q1259.2.1, q1259.2.2.1, q1259.2.2.2.1, q1259.2.2.2.2.1, q1259.2.2.2.2.2.1, q1278.2.1, q1278.2.2.1, q1278.2.2.2.1, q1278.2.2.2.2.1, q1278.2.2.2.2.2, q1259.2.2.2.2.2.2) else none
set_option maxHeartbeats 4000000 in
set_option maxRecDepth 100000 in
theorem g_law20_c (hC : mm_C G A p s m c code 10 args "MirrorFerryLaw") (hsX : va_X b L xs s s.heap) (hbl : b < s.heap.size) (hbA : ¬ A b) (hd1 : b1 + 152 ≤ b2) (hd2 : b2 + 13 ≤ a3) (hd3 : a3 + 1 ≤ a4) (hrc : cells + 1000 ≤ room_1.cells) (hrs : slots + 10000 ≤ room_1.slots) (hfl : l.stackTraces = false) {K : Nat} {p1_marsh_reeds_states : Nat → Int32} {p1_marsh_reeds_count : Int32} {p1_marsh_reeds_broken : Int32} {p1_marsh_fleet_numbers : Nat → Int32} {p1_marsh_fleet_cells : Nat → Int32} {p1_marsh_fleet_fares : Nat → Int32} {p1_marsh_fleet_count : Int32} {p1_marsh_fleet_nextNumber : Int32} {p1_marsh_fleet_total : Int32} {p1_marsh_fleet_removedFares : Int32} {p1_marsh_fleet_meetings : Int32} {p1_marsh_plans_moves : Nat → Int32} {p1_marsh_plans_lengths : Nat → Int32} {p1_marsh_landings_cells : Nat → Int32} {p1_marsh_landings_count : Int32} {p1_marsh_fogSide : Int32} {p1_snapshot_reeds_states : Nat → Int32} {p1_snapshot_reeds_count : Int32} {p1_snapshot_reeds_broken : Int32} {p1_snapshot_fleet_numbers : Nat → Int32} {p1_snapshot_fleet_cells : Nat → Int32} {p1_snapshot_fleet_fares : Nat → Int32} {p1_snapshot_fleet_count : Int32} {p1_snapshot_fleet_nextNumber : Int32} {p1_snapshot_fleet_total : Int32} {p1_snapshot_fleet_removedFares : Int32} {p1_snapshot_fleet_meetings : Int32} {p1_snapshot_plans_moves : Nat → Int32} {p1_snapshot_plans_lengths : Nat → Int32} {p1_snapshot_landings_cells : Nat → Int32} {p1_snapshot_landings_count : Int32} {p1_snapshot_fogSide : Int32} {p1_history_slots : Nat → mm_MV} {p1_history_free : Int32} {p1_history_count : Int32} {p1_ways_tolls : Nat → Int32} {p1_ways_queue : Nat → Int32} {p1_ways_heap : Nat → Int32} {p1_ways_heapSize : Int32} {p1_ways_found : Nat → Int32} {p1_ways_improved : Nat → Int32} {p1_pairing_costs : Nat → Int32} {p1_pairing_best : Nat → Int32} {p1_reader_kinds : Nat → Int32} {p1_reader_starts : Nat → Int32} {p1_reader_count : Int32} {p1_commandText_signs : Nat → Int32} {p1_commandText_length : Int32} {p1_line_signs : Nat → Int32} {p1_line_length : Int32} {p1_spareMoves : Nat → Int32} {p1_snapshotTaken : Int32} {p1_lastErrorPosition : Int32} {p1_lastFailedCommand : Int32} {p2_thrown : Int32} {p2_changes : Int32} {p2_errorAt : Int32} {p2_failedAt : Int32} {p2_isSaved : Int32} {p2_v : Nat → Int32} {p2_before : Nat → Int32} {p2_saved : Nat → Int32} {p2_past : Nat → Int32} {p2_far : Nat → Int32} {p2_scratch : Nat → Int32} {p2_best : Nat → Int32} {p2_thenX : Int32} {p2_thenY : Int32} {p2_thenMet : Int32} {p2_text : Nat → Int32} {p2_line : Nat → Int32} {p2_isLeft : Nat → Int32} {p2_words : Nat → Int32} {p2_wordAt : Nat → Int32} {p2_textN : Int32} {p2_hereP : Int32} {p2_endP : Int32} {p2_lineN : Int32} {p2_isWrong : Int32} {p2_isDoing : Int32} {p3 : Nat → Int64} {p4 : Nat → UInt64} {x0 x1 x2 x3 x4 x5 : Int32} {X : (Nat → Int32) × (Nat → Int32) × (Nat → mm_MV) × Int32 × Int32 × Int32 × Int32 × (Nat → Int32) × (Nat → Int32) × (Nat → Int32) × (Nat → Int64)} (hf : g_law20 K p1_marsh_reeds_states p1_marsh_reeds_count p1_marsh_reeds_broken p1_marsh_fleet_numbers p1_marsh_fleet_cells p1_marsh_fleet_fares p1_marsh_fleet_count p1_marsh_fleet_nextNumber p1_marsh_fleet_total p1_marsh_fleet_removedFares p1_marsh_fleet_meetings p1_marsh_plans_moves p1_marsh_plans_lengths p1_marsh_landings_cells p1_marsh_landings_count p1_marsh_fogSide p1_history_slots p1_history_free p1_history_count p2_changes p2_v p2_before p2_past p3 x1 x2 = some X) (hp_p1 : At12 G w b1 p1_marsh_reeds_states p1_marsh_reeds_count p1_marsh_reeds_broken p1_marsh_fleet_numbers p1_marsh_fleet_cells p1_marsh_fleet_fares p1_marsh_fleet_count p1_marsh_fleet_nextNumber p1_marsh_fleet_total p1_marsh_fleet_removedFares p1_marsh_fleet_meetings p1_marsh_plans_moves p1_marsh_plans_lengths p1_marsh_landings_cells p1_marsh_landings_count p1_marsh_fogSide p1_snapshot_reeds_states p1_snapshot_reeds_count p1_snapshot_reeds_broken p1_snapshot_fleet_numbers p1_snapshot_fleet_cells p1_snapshot_fleet_fares p1_snapshot_fleet_count p1_snapshot_fleet_nextNumber p1_snapshot_fleet_total p1_snapshot_fleet_removedFares p1_snapshot_fleet_meetings p1_snapshot_plans_moves p1_snapshot_plans_lengths p1_snapshot_landings_cells p1_snapshot_landings_count p1_snapshot_fogSide p1_history_slots p1_history_free p1_history_count p1_ways_tolls p1_ways_queue p1_ways_heap p1_ways_heapSize p1_ways_found p1_ways_improved p1_pairing_costs p1_pairing_best p1_reader_kinds p1_reader_starts p1_reader_count p1_commandText_signs p1_commandText_length p1_line_signs p1_line_length p1_spareMoves p1_snapshotTaken p1_lastErrorPosition p1_lastFailedCommand) (hp_p2 : At13 G w b2 p2_thrown p2_changes p2_errorAt p2_failedAt p2_isSaved p2_v p2_before p2_saved p2_past p2_far p2_scratch p2_best p2_thenX p2_thenY p2_thenMet p2_text p2_line p2_isLeft p2_words p2_wordAt p2_textN p2_hereP p2_endP p2_lineN p2_isWrong p2_isDoing) (hp_p3 : (a3, (.inl (G.2 3, 1, .inr (.inl p3)) : va_E)) ∈ w) (hp_p4 : (a4, (.inl (G.2 4, 1, .inr (.inr (.inr (.inl p4)))) : va_E)) ∈ w)
    (hsc : ∀ k : Nat, k < 5 → vp_in (x5 + Int32.ofNat k) L ∧ xs (x5 + Int32.ofNat k).toNatClampNeg = mm_x5 x0 x1 x2 x3 x4 k) (hM : mm_S G A s.heap w H locs)
    (hk : ∀ (w : va_W) (H : Heap) (locs : List Loc), mm_S G A s.heap w H locs → At12 G w b1 p1_marsh_reeds_states p1_marsh_reeds_count p1_marsh_reeds_broken p1_marsh_fleet_numbers p1_marsh_fleet_cells p1_marsh_fleet_fares p1_marsh_fleet_count p1_marsh_fleet_nextNumber p1_marsh_fleet_total p1_marsh_fleet_removedFares p1_marsh_fleet_meetings X.1 X.2.1 p1_marsh_landings_cells p1_marsh_landings_count p1_marsh_fogSide p1_snapshot_reeds_states p1_snapshot_reeds_count p1_snapshot_reeds_broken p1_snapshot_fleet_numbers p1_snapshot_fleet_cells p1_snapshot_fleet_fares p1_snapshot_fleet_count p1_snapshot_fleet_nextNumber p1_snapshot_fleet_total p1_snapshot_fleet_removedFares p1_snapshot_fleet_meetings p1_snapshot_plans_moves p1_snapshot_plans_lengths p1_snapshot_landings_cells p1_snapshot_landings_count p1_snapshot_fogSide X.2.2.1 X.2.2.2.1 X.2.2.2.2.1 p1_ways_tolls p1_ways_queue p1_ways_heap p1_ways_heapSize p1_ways_found p1_ways_improved p1_pairing_costs p1_pairing_best p1_reader_kinds p1_reader_starts p1_reader_count p1_commandText_signs p1_commandText_length p1_line_signs p1_line_length p1_spareMoves p1_snapshotTaken p1_lastErrorPosition p1_lastFailedCommand → At13 G w b2 X.2.2.2.2.2.1 X.2.2.2.2.2.2.1 p2_errorAt p2_failedAt p2_isSaved X.2.2.2.2.2.2.2.1 X.2.2.2.2.2.2.2.2.1 p2_saved X.2.2.2.2.2.2.2.2.2.1 p2_far p2_scratch p2_best p2_thenX p2_thenY p2_thenMet p2_text p2_line p2_isLeft p2_words p2_wordAt p2_textN p2_hereP p2_endP p2_lineN p2_isWrong p2_isDoing → (a3, (.inl (G.2 3, 1, .inr (.inl X.2.2.2.2.2.2.2.2.2.2)) : va_E)) ∈ w → (a4, (.inl (G.2 4, 1, .inr (.inr (.inr (.inl p4)))) : va_E)) ∈ w → ∀ ls, lv_has ls 10 [(0, .ref b), (1, .ref b1), (2, .ref b2), (3, .ref a3), (4, .ref a4), (5, .int x5)] → W p l e room_1 s m args below meth c H locs (cells + 1000) (slots + 10000) Q (F0 m 3345 ls [])) (ls : Array Slot) (hl : lv_has ls 10 [(0, .ref b), (1, .ref b1), (2, .ref b2), (3, .ref a3), (4, .ref a4), (5, .int x5)]) : W p l e room_1 s m args below meth c H locs cells slots Q (F0 m 1244 ls []) := by
  have hx := hC.1.1
  have hb := hC.1.2.1
  rw [g_law20] at hf
  refine lv_aload_n hx hb dL_law_1244 rfl (lv_at hl 1 rfl) ?_
  refine lv_aload_n hx hb dL_law_1245 rfl (lv_at hl 0 rfl) ?_
  refine lv_iload hx hb dL_law_1246 (lv_at hl 5 rfl) ?_
  refine lv_iconst (v := 1) hx hb dL_law_1248 (by decide) ?_
  refine lv_iadd hx hb dL_law_1249 ?_
  refine mm_sld hC hM hsX hbl hbA (hsc 1 (by decide)).1 (hsc 1 (by decide)).2 dL_law_1250 ?_
  refine lv_aload_n hx hb dL_law_1251 rfl (lv_at hl 0 rfl) ?_
  refine lv_iload hx hb dL_law_1252 (lv_at hl 5 rfl) ?_
  refine lv_iconst (v := 2) hx hb dL_law_1254 (by decide) ?_
  refine lv_iadd hx hb dL_law_1255 ?_
  refine mm_sld hC hM hsX hbl hbA (hsc 2 (by decide)).1 (hsc 2 (by decide)).2 dL_law_1256 ?_
  refine lv_i2c hx hb dL_law_1257 rfl ?_
  refine lv_aload_n hx hb dL_law_1258 rfl (lv_at hl 3 rfl) ?_
  obtain ⟨q1259, hq1259, hf⟩ := mm_bd hf
  refine mm_SiW (rest := []) hC hM (c_L_addMove l hfl hq1259 hp_p1 hp_p3 (by omega)) q4_200 q1_0 ykL_addMove q4_198 q4_199 ⟨rfl, rfl⟩ ⟨Nat.le_of_ble_eq_true rfl, Nat.le_of_ble_eq_true rfl⟩ rfl hl.1 rfl (Nat.le_of_ble_eq_true rfl) dL_law_1259 ⟨by omega, by omega⟩ (fun r w1259 H locs hM hw => ?_)
  obtain ⟨hr, hn_p0, hn_p3, hfr⟩ := hw
  rw [hr]
  have hp_p2 := hp_p2.keep2 hfr (by omega) (by omega)
  have hp_p4 := hfr.keep hp_p4 (by omega) (by omega)
  have hp_p1 := hn_p0
  have hp_p3 := hn_p3
  refine lv_istore (lv' := [(6, .int q1259.1), (0, .ref b), (1, .ref b1), (2, .ref b2), (3, .ref a3), (4, .ref a4), (5, .int x5)]) hx hb dL_law_1262 hl (by decide) rfl (fun ls hl => ?_)
  refine lv_aload_n hx hb dL_law_1264 rfl (lv_at hl 3 rfl) ?_
  refine lv_aload_n hx hb dL_law_1265 rfl (lv_at hl 1 rfl) ?_
  refine lv_iload hx hb dL_law_1266 (lv_at hl 6 rfl) ?_
  refine lv_iconst (v := 1) hx hb dL_law_1268 (by decide) ?_
  refine lv_iadd hx hb dL_law_1269 ?_
  refine mm_sld hC hM hsX hbl hbA (hsc 1 (by decide)).1 (hsc 1 (by decide)).2 dL_law_1270 ?_
  refine lv_aload_n hx hb dL_law_1271 rfl (lv_at hl 1 rfl) ?_
  refine lv_iload hx hb dL_law_1272 (lv_at hl 6 rfl) ?_
  refine lv_iconst (v := 2) hx hb dL_law_1274 (by decide) ?_
  refine lv_iadd hx hb dL_law_1275 ?_
  refine mm_sld hC hM hsX hbl hbA (hsc 2 (by decide)).1 (hsc 2 (by decide)).2 dL_law_1276 ?_
  refine lv_i2c hx hb dL_law_1277 rfl ?_
  obtain ⟨q1278, hq1278, hf⟩ := mm_bd hf
  refine mm_Vi (rest := []) hC hM (c_X13_addMove l hq1278 hp_p2) q8_18 q1_12 ykX13_addMove q8_15 q8_16 q8_17 hp_p2.1 rfl ⟨rfl, rfl⟩ ⟨Nat.le_of_ble_eq_true rfl, Nat.le_of_ble_eq_true rfl⟩ rfl hl.1 rfl (Nat.le_of_ble_eq_true rfl) dL_law_1278 ⟨by omega, by omega⟩ (fun r w1278 H locs hM hw => ?_)
  obtain ⟨hr, hn_this, hfr⟩ := hw
  rw [hr]
  have hp_p1 := hp_p1.keep hfr (by omega)
  have hp_p3 := hfr.keep hp_p3 (by omega)
  have hp_p4 := hfr.keep hp_p4 (by omega)
  have hp_p2 := hn_this
  refine lv_istore (lv' := [(7, .int q1278.1), (6, .int q1259.1), (0, .ref b), (1, .ref b1), (2, .ref b2), (3, .ref a3), (4, .ref a4), (5, .int x5)]) hx hb dL_law_1281 hl (by decide) rfl (fun ls hl => ?_)
  refine lv_aload_n hx hb dL_law_1283 rfl (lv_at hl 4 rfl) ?_
  obtain ⟨q1284, hq1284, hf⟩ := mm_bd hf
  refine mm_Vi (rest := []) hC hM (c_X13_thrown l hq1284 hp_p2) q7_87 q1_12 ykX13_thrown q7_84 q7_85 q7_86 hp_p2.1 rfl ⟨rfl, rfl⟩ ⟨Nat.le_of_ble_eq_true rfl, Nat.le_of_ble_eq_true rfl⟩ rfl hl.1 rfl (Nat.le_of_ble_eq_true rfl) dL_law_1284 ⟨by omega, by omega⟩ (fun r w1284 H locs hM hw => ?_)
  obtain ⟨hr, hw⟩ := hw
  rw [hr]
  rw [hw] at hM
  refine lv_iload hx hb dL_law_1287 (lv_at hl 1 rfl) ?_
  refine lv_icmp_eq (tgt := 1294) hx hb dL_law_1289 (by decide) (fun hcd => ?_) (fun hcd => ?_)
  · rw [if_pos hcd] at hf
    refine lv_iload hx hb dL_law_1294 (lv_at hl 1 rfl) ?_
    refine lv_if_ne (tgt := 1311) hx hb dL_law_1296 (by decide) (fun hcd => ?_) (fun hcd => ?_)
    · rw [if_neg hcd] at hf
      refine lv_goto (tgt := 3345) hx hb dL_law_1311 (by decide) ?_
      cases hf
      exact W.widen (by omega) (by omega) (hk _ _ _ hM hp_p1 hp_p2 hp_p3 hp_p4 _ (lv_sub hl [2, 3, 4, 5, 6, 7] rfl))
    · rw [if_pos hcd] at hf
      refine lv_aload_n hx hb dL_law_1299 rfl (lv_at hl 5 rfl) ?_
      refine lv_iconst (v := 0) hx hb dL_law_1300 (by decide) ?_
      refine mm_lald0 hC hM hp_p3 dL_law_1301 ?_
      refine lv_iload hx hb dL_law_1302 (lv_at hl 0 rfl) ?_
      refine lv_i2l hx hb dL_law_1304 rfl ?_
      refine W.lcmp hx hb dL_law_1305 ?_
      refine lv_if_eq (tgt := 1311) hx hb dL_law_1306 (by decide) (fun hcd => ?_) (fun hcd => ?_)
      · rw [if_pos hcd] at hf
        refine lv_goto (tgt := 3345) hx hb dL_law_1311 (by decide) ?_
        cases hf
        exact W.widen (by omega) (by omega) (hk _ _ _ hM hp_p1 hp_p2 hp_p3 hp_p4 _ (lv_sub hl [2, 3, 4, 5, 6, 7] rfl))
      · rw [if_neg hcd] at hf
        refine lv_iconst (v := 0) hx hb dL_law_1309 (by decide) ?_
        cases hf
  · rw [if_neg hcd] at hf
    refine lv_iconst (v := 0) hx hb dL_law_1292 (by decide) ?_
    cases hf
def g_law21 (K : Nat) (p1_marsh_reeds_states : Nat → Int32) (p1_marsh_reeds_count : Int32) (p1_marsh_reeds_broken : Int32) (p1_marsh_fleet_numbers : Nat → Int32) (p1_marsh_fleet_cells : Nat → Int32) (p1_marsh_fleet_fares : Nat → Int32) (p1_marsh_fleet_count : Int32) (p1_marsh_fleet_nextNumber : Int32) (p1_marsh_fleet_total : Int32) (p1_marsh_fleet_removedFares : Int32) (p1_marsh_fleet_meetings : Int32) (p1_marsh_plans_moves : Nat → Int32) (p1_marsh_plans_lengths : Nat → Int32) (p1_marsh_landings_cells : Nat → Int32) (p1_marsh_landings_count : Int32) (p1_marsh_fogSide : Int32) (p1_history_slots : Nat → mm_MV) (p1_history_free : Int32) (p1_history_count : Int32) (p2_changes : Int32) (p2_v : Nat → Int32) (p2_before : Nat → Int32) (p2_past : Nat → Int32) (p3 : Nat → Int64) (x1 : Int32) : Option ((Nat → Int32) × (Nat → mm_MV) × Int32 × Int32 × Int32 × Int32 × (Nat → Int32) × (Nat → Int32) × (Nat → Int32) × (Nat → Int64)) := (f_L_clearPlan p1_marsh_reeds_states p1_marsh_reeds_count p1_marsh_reeds_broken p1_marsh_fleet_numbers p1_marsh_fleet_cells p1_marsh_fleet_fares p1_marsh_fleet_count p1_marsh_fleet_nextNumber p1_marsh_fleet_total p1_marsh_fleet_removedFares p1_marsh_fleet_meetings p1_marsh_plans_moves p1_marsh_plans_lengths p1_marsh_landings_cells p1_marsh_landings_count p1_marsh_fogSide p1_history_slots p1_history_free p1_history_count p3 x1).bind fun q1322 => (f_X13_clearPlan K p2_changes p2_v p2_before p2_past x1).bind fun q1334 => (f_X13_thrown q1334.2.1).bind fun q1340 => if q1340 = q1322.1 then if q1322.1 = 0 then if (lg_cmp (q1322.2.2.2.2.2 0) q1334.1.toInt64) = 0 then some (q1322.2.1, q1322.2.2.1, q1322.2.2.2.1, q1322.2.2.2.2.1, q1334.2.1, q1334.2.2.1, q1334.2.2.2.1, q1334.2.2.2.2.1, q1334.2.2.2.2.2, q1322.2.2.2.2.2) else none else some (q1322.2.1, q1322.2.2.1, q1322.2.2.2.1, q1322.2.2.2.2.1, q1334.2.1, q1334.2.2.1, q1334.2.2.2.1, q1334.2.2.2.2.1, q1334.2.2.2.2.2, q1322.2.2.2.2.2) else none
set_option maxHeartbeats 4000000 in
set_option maxRecDepth 100000 in
theorem g_law21_c (hC : mm_C G A p s m c code 10 args "MirrorFerryLaw") (hsX : va_X b L xs s s.heap) (hbl : b < s.heap.size) (hbA : ¬ A b) (hd1 : b1 + 152 ≤ b2) (hd2 : b2 + 13 ≤ a3) (hd3 : a3 + 1 ≤ a4) (hrc : cells + 1000 ≤ room_1.cells) (hrs : slots + 10000 ≤ room_1.slots) (hfl : l.stackTraces = false) {K : Nat} {p1_marsh_reeds_states : Nat → Int32} {p1_marsh_reeds_count : Int32} {p1_marsh_reeds_broken : Int32} {p1_marsh_fleet_numbers : Nat → Int32} {p1_marsh_fleet_cells : Nat → Int32} {p1_marsh_fleet_fares : Nat → Int32} {p1_marsh_fleet_count : Int32} {p1_marsh_fleet_nextNumber : Int32} {p1_marsh_fleet_total : Int32} {p1_marsh_fleet_removedFares : Int32} {p1_marsh_fleet_meetings : Int32} {p1_marsh_plans_moves : Nat → Int32} {p1_marsh_plans_lengths : Nat → Int32} {p1_marsh_landings_cells : Nat → Int32} {p1_marsh_landings_count : Int32} {p1_marsh_fogSide : Int32} {p1_snapshot_reeds_states : Nat → Int32} {p1_snapshot_reeds_count : Int32} {p1_snapshot_reeds_broken : Int32} {p1_snapshot_fleet_numbers : Nat → Int32} {p1_snapshot_fleet_cells : Nat → Int32} {p1_snapshot_fleet_fares : Nat → Int32} {p1_snapshot_fleet_count : Int32} {p1_snapshot_fleet_nextNumber : Int32} {p1_snapshot_fleet_total : Int32} {p1_snapshot_fleet_removedFares : Int32} {p1_snapshot_fleet_meetings : Int32} {p1_snapshot_plans_moves : Nat → Int32} {p1_snapshot_plans_lengths : Nat → Int32} {p1_snapshot_landings_cells : Nat → Int32} {p1_snapshot_landings_count : Int32} {p1_snapshot_fogSide : Int32} {p1_history_slots : Nat → mm_MV} {p1_history_free : Int32} {p1_history_count : Int32} {p1_ways_tolls : Nat → Int32} {p1_ways_queue : Nat → Int32} {p1_ways_heap : Nat → Int32} {p1_ways_heapSize : Int32} {p1_ways_found : Nat → Int32} {p1_ways_improved : Nat → Int32} {p1_pairing_costs : Nat → Int32} {p1_pairing_best : Nat → Int32} {p1_reader_kinds : Nat → Int32} {p1_reader_starts : Nat → Int32} {p1_reader_count : Int32} {p1_commandText_signs : Nat → Int32} {p1_commandText_length : Int32} {p1_line_signs : Nat → Int32} {p1_line_length : Int32} {p1_spareMoves : Nat → Int32} {p1_snapshotTaken : Int32} {p1_lastErrorPosition : Int32} {p1_lastFailedCommand : Int32} {p2_thrown : Int32} {p2_changes : Int32} {p2_errorAt : Int32} {p2_failedAt : Int32} {p2_isSaved : Int32} {p2_v : Nat → Int32} {p2_before : Nat → Int32} {p2_saved : Nat → Int32} {p2_past : Nat → Int32} {p2_far : Nat → Int32} {p2_scratch : Nat → Int32} {p2_best : Nat → Int32} {p2_thenX : Int32} {p2_thenY : Int32} {p2_thenMet : Int32} {p2_text : Nat → Int32} {p2_line : Nat → Int32} {p2_isLeft : Nat → Int32} {p2_words : Nat → Int32} {p2_wordAt : Nat → Int32} {p2_textN : Int32} {p2_hereP : Int32} {p2_endP : Int32} {p2_lineN : Int32} {p2_isWrong : Int32} {p2_isDoing : Int32} {p3 : Nat → Int64} {p4 : Nat → UInt64} {x0 x1 x2 x3 x4 x5 : Int32} {X : (Nat → Int32) × (Nat → mm_MV) × Int32 × Int32 × Int32 × Int32 × (Nat → Int32) × (Nat → Int32) × (Nat → Int32) × (Nat → Int64)} (hf : g_law21 K p1_marsh_reeds_states p1_marsh_reeds_count p1_marsh_reeds_broken p1_marsh_fleet_numbers p1_marsh_fleet_cells p1_marsh_fleet_fares p1_marsh_fleet_count p1_marsh_fleet_nextNumber p1_marsh_fleet_total p1_marsh_fleet_removedFares p1_marsh_fleet_meetings p1_marsh_plans_moves p1_marsh_plans_lengths p1_marsh_landings_cells p1_marsh_landings_count p1_marsh_fogSide p1_history_slots p1_history_free p1_history_count p2_changes p2_v p2_before p2_past p3 x1 = some X) (hp_p1 : At12 G w b1 p1_marsh_reeds_states p1_marsh_reeds_count p1_marsh_reeds_broken p1_marsh_fleet_numbers p1_marsh_fleet_cells p1_marsh_fleet_fares p1_marsh_fleet_count p1_marsh_fleet_nextNumber p1_marsh_fleet_total p1_marsh_fleet_removedFares p1_marsh_fleet_meetings p1_marsh_plans_moves p1_marsh_plans_lengths p1_marsh_landings_cells p1_marsh_landings_count p1_marsh_fogSide p1_snapshot_reeds_states p1_snapshot_reeds_count p1_snapshot_reeds_broken p1_snapshot_fleet_numbers p1_snapshot_fleet_cells p1_snapshot_fleet_fares p1_snapshot_fleet_count p1_snapshot_fleet_nextNumber p1_snapshot_fleet_total p1_snapshot_fleet_removedFares p1_snapshot_fleet_meetings p1_snapshot_plans_moves p1_snapshot_plans_lengths p1_snapshot_landings_cells p1_snapshot_landings_count p1_snapshot_fogSide p1_history_slots p1_history_free p1_history_count p1_ways_tolls p1_ways_queue p1_ways_heap p1_ways_heapSize p1_ways_found p1_ways_improved p1_pairing_costs p1_pairing_best p1_reader_kinds p1_reader_starts p1_reader_count p1_commandText_signs p1_commandText_length p1_line_signs p1_line_length p1_spareMoves p1_snapshotTaken p1_lastErrorPosition p1_lastFailedCommand) (hp_p2 : At13 G w b2 p2_thrown p2_changes p2_errorAt p2_failedAt p2_isSaved p2_v p2_before p2_saved p2_past p2_far p2_scratch p2_best p2_thenX p2_thenY p2_thenMet p2_text p2_line p2_isLeft p2_words p2_wordAt p2_textN p2_hereP p2_endP p2_lineN p2_isWrong p2_isDoing) (hp_p3 : (a3, (.inl (G.2 3, 1, .inr (.inl p3)) : va_E)) ∈ w) (hp_p4 : (a4, (.inl (G.2 4, 1, .inr (.inr (.inr (.inl p4)))) : va_E)) ∈ w)
    (hsc : ∀ k : Nat, k < 5 → vp_in (x5 + Int32.ofNat k) L ∧ xs (x5 + Int32.ofNat k).toNatClampNeg = mm_x5 x0 x1 x2 x3 x4 k) (hM : mm_S G A s.heap w H locs)
    (hk : ∀ (w : va_W) (H : Heap) (locs : List Loc), mm_S G A s.heap w H locs → At12 G w b1 p1_marsh_reeds_states p1_marsh_reeds_count p1_marsh_reeds_broken p1_marsh_fleet_numbers p1_marsh_fleet_cells p1_marsh_fleet_fares p1_marsh_fleet_count p1_marsh_fleet_nextNumber p1_marsh_fleet_total p1_marsh_fleet_removedFares p1_marsh_fleet_meetings p1_marsh_plans_moves X.1 p1_marsh_landings_cells p1_marsh_landings_count p1_marsh_fogSide p1_snapshot_reeds_states p1_snapshot_reeds_count p1_snapshot_reeds_broken p1_snapshot_fleet_numbers p1_snapshot_fleet_cells p1_snapshot_fleet_fares p1_snapshot_fleet_count p1_snapshot_fleet_nextNumber p1_snapshot_fleet_total p1_snapshot_fleet_removedFares p1_snapshot_fleet_meetings p1_snapshot_plans_moves p1_snapshot_plans_lengths p1_snapshot_landings_cells p1_snapshot_landings_count p1_snapshot_fogSide X.2.1 X.2.2.1 X.2.2.2.1 p1_ways_tolls p1_ways_queue p1_ways_heap p1_ways_heapSize p1_ways_found p1_ways_improved p1_pairing_costs p1_pairing_best p1_reader_kinds p1_reader_starts p1_reader_count p1_commandText_signs p1_commandText_length p1_line_signs p1_line_length p1_spareMoves p1_snapshotTaken p1_lastErrorPosition p1_lastFailedCommand → At13 G w b2 X.2.2.2.2.1 X.2.2.2.2.2.1 p2_errorAt p2_failedAt p2_isSaved X.2.2.2.2.2.2.1 X.2.2.2.2.2.2.2.1 p2_saved X.2.2.2.2.2.2.2.2.1 p2_far p2_scratch p2_best p2_thenX p2_thenY p2_thenMet p2_text p2_line p2_isLeft p2_words p2_wordAt p2_textN p2_hereP p2_endP p2_lineN p2_isWrong p2_isDoing → (a3, (.inl (G.2 3, 1, .inr (.inl X.2.2.2.2.2.2.2.2.2)) : va_E)) ∈ w → (a4, (.inl (G.2 4, 1, .inr (.inr (.inr (.inl p4)))) : va_E)) ∈ w → ∀ ls, lv_has ls 10 [(0, .ref b), (1, .ref b1), (2, .ref b2), (3, .ref a3), (4, .ref a4), (5, .int x5)] → W p l e room_1 s m args below meth c H locs (cells + 1000) (slots + 10000) Q (F0 m 3345 ls [])) (ls : Array Slot) (hl : lv_has ls 10 [(0, .ref b), (1, .ref b1), (2, .ref b2), (3, .ref a3), (4, .ref a4), (5, .int x5)]) : W p l e room_1 s m args below meth c H locs cells slots Q (F0 m 1314 ls []) := by
  have hx := hC.1.1
  have hb := hC.1.2.1
  rw [g_law21] at hf
  refine lv_aload_n hx hb dL_law_1314 rfl (lv_at hl 1 rfl) ?_
  refine lv_aload_n hx hb dL_law_1315 rfl (lv_at hl 0 rfl) ?_
  refine lv_iload hx hb dL_law_1316 (lv_at hl 5 rfl) ?_
  refine lv_iconst (v := 1) hx hb dL_law_1318 (by decide) ?_
  refine lv_iadd hx hb dL_law_1319 ?_
  refine mm_sld hC hM hsX hbl hbA (hsc 1 (by decide)).1 (hsc 1 (by decide)).2 dL_law_1320 ?_
  refine lv_aload_n hx hb dL_law_1321 rfl (lv_at hl 3 rfl) ?_
  obtain ⟨q1322, hq1322, hf⟩ := mm_bd hf
  refine mm_SiW (rest := []) hC hM (c_L_clearPlan l hfl hq1322 hp_p1 hp_p3 (by omega)) q4_223 q1_0 ykL_clearPlan q4_221 q4_222 ⟨rfl, rfl⟩ ⟨Nat.le_of_ble_eq_true rfl, Nat.le_of_ble_eq_true rfl⟩ rfl hl.1 rfl (Nat.le_of_ble_eq_true rfl) dL_law_1322 ⟨by omega, by omega⟩ (fun r w1322 H locs hM hw => ?_)
  obtain ⟨hr, hn_p0, hn_p2, hfr⟩ := hw
  rw [hr]
  have hp_p2 := hp_p2.keep2 hfr (by omega) (by omega)
  have hp_p4 := hfr.keep hp_p4 (by omega) (by omega)
  have hp_p1 := hn_p0
  have hp_p3 := hn_p2
  refine lv_istore (lv' := [(6, .int q1322.1), (0, .ref b), (1, .ref b1), (2, .ref b2), (3, .ref a3), (4, .ref a4), (5, .int x5)]) hx hb dL_law_1325 hl (by decide) rfl (fun ls hl => ?_)
  refine lv_aload_n hx hb dL_law_1327 rfl (lv_at hl 3 rfl) ?_
  refine lv_aload_n hx hb dL_law_1328 rfl (lv_at hl 1 rfl) ?_
  refine lv_iload hx hb dL_law_1329 (lv_at hl 6 rfl) ?_
  refine lv_iconst (v := 1) hx hb dL_law_1331 (by decide) ?_
  refine lv_iadd hx hb dL_law_1332 ?_
  refine mm_sld hC hM hsX hbl hbA (hsc 1 (by decide)).1 (hsc 1 (by decide)).2 dL_law_1333 ?_
  obtain ⟨q1334, hq1334, hf⟩ := mm_bd hf
  refine mm_Vi (rest := []) hC hM (c_X13_clearPlan l hq1334 hp_p2) q8_35 q1_12 ykX13_clearPlan q8_32 q8_33 q8_34 hp_p2.1 rfl ⟨rfl, rfl⟩ ⟨Nat.le_of_ble_eq_true rfl, Nat.le_of_ble_eq_true rfl⟩ rfl hl.1 rfl (Nat.le_of_ble_eq_true rfl) dL_law_1334 ⟨by omega, by omega⟩ (fun r w1334 H locs hM hw => ?_)
  obtain ⟨hr, hn_this, hfr⟩ := hw
  rw [hr]
  have hp_p1 := hp_p1.keep hfr (by omega)
  have hp_p3 := hfr.keep hp_p3 (by omega)
  have hp_p4 := hfr.keep hp_p4 (by omega)
  have hp_p2 := hn_this
  refine lv_istore (lv' := [(7, .int q1334.1), (6, .int q1322.1), (0, .ref b), (1, .ref b1), (2, .ref b2), (3, .ref a3), (4, .ref a4), (5, .int x5)]) hx hb dL_law_1337 hl (by decide) rfl (fun ls hl => ?_)
  refine lv_aload_n hx hb dL_law_1339 rfl (lv_at hl 4 rfl) ?_
  obtain ⟨q1340, hq1340, hf⟩ := mm_bd hf
  refine mm_Vi (rest := []) hC hM (c_X13_thrown l hq1340 hp_p2) q7_87 q1_12 ykX13_thrown q7_84 q7_85 q7_86 hp_p2.1 rfl ⟨rfl, rfl⟩ ⟨Nat.le_of_ble_eq_true rfl, Nat.le_of_ble_eq_true rfl⟩ rfl hl.1 rfl (Nat.le_of_ble_eq_true rfl) dL_law_1340 ⟨by omega, by omega⟩ (fun r w1340 H locs hM hw => ?_)
  obtain ⟨hr, hw⟩ := hw
  rw [hr]
  rw [hw] at hM
  refine lv_iload hx hb dL_law_1343 (lv_at hl 1 rfl) ?_
  refine lv_icmp_eq (tgt := 1350) hx hb dL_law_1345 (by decide) (fun hcd => ?_) (fun hcd => ?_)
  · rw [if_pos hcd] at hf
    refine lv_iload hx hb dL_law_1350 (lv_at hl 1 rfl) ?_
    refine lv_if_ne (tgt := 1367) hx hb dL_law_1352 (by decide) (fun hcd => ?_) (fun hcd => ?_)
    · rw [if_neg hcd] at hf
      refine lv_goto (tgt := 3345) hx hb dL_law_1367 (by decide) ?_
      cases hf
      exact W.widen (by omega) (by omega) (hk _ _ _ hM hp_p1 hp_p2 hp_p3 hp_p4 _ (lv_sub hl [2, 3, 4, 5, 6, 7] rfl))
    · rw [if_pos hcd] at hf
      refine lv_aload_n hx hb dL_law_1355 rfl (lv_at hl 5 rfl) ?_
      refine lv_iconst (v := 0) hx hb dL_law_1356 (by decide) ?_
      refine mm_lald0 hC hM hp_p3 dL_law_1357 ?_
      refine lv_iload hx hb dL_law_1358 (lv_at hl 0 rfl) ?_
      refine lv_i2l hx hb dL_law_1360 rfl ?_
      refine W.lcmp hx hb dL_law_1361 ?_
      refine lv_if_eq (tgt := 1367) hx hb dL_law_1362 (by decide) (fun hcd => ?_) (fun hcd => ?_)
      · rw [if_pos hcd] at hf
        refine lv_goto (tgt := 3345) hx hb dL_law_1367 (by decide) ?_
        cases hf
        exact W.widen (by omega) (by omega) (hk _ _ _ hM hp_p1 hp_p2 hp_p3 hp_p4 _ (lv_sub hl [2, 3, 4, 5, 6, 7] rfl))
      · rw [if_neg hcd] at hf
        refine lv_iconst (v := 0) hx hb dL_law_1365 (by decide) ?_
        cases hf
  · rw [if_neg hcd] at hf
    refine lv_iconst (v := 0) hx hb dL_law_1348 (by decide) ?_
    cases hf
def g_law22 (K : Nat) (p1_marsh_reeds_states : Nat → Int32) (p1_marsh_reeds_count : Int32) (p1_marsh_reeds_broken : Int32) (p1_marsh_fleet_numbers : Nat → Int32) (p1_marsh_fleet_cells : Nat → Int32) (p1_marsh_fleet_fares : Nat → Int32) (p1_marsh_fleet_count : Int32) (p1_marsh_fleet_nextNumber : Int32) (p1_marsh_fleet_total : Int32) (p1_marsh_fleet_removedFares : Int32) (p1_marsh_fleet_meetings : Int32) (p1_marsh_plans_moves : Nat → Int32) (p1_marsh_plans_lengths : Nat → Int32) (p1_marsh_landings_cells : Nat → Int32) (p1_marsh_landings_count : Int32) (p1_marsh_fogSide : Int32) (p1_history_slots : Nat → mm_MV) (p1_history_free : Int32) (p1_history_count : Int32) (p2_changes : Int32) (p2_v : Nat → Int32) (p2_before : Nat → Int32) (p2_past : Nat → Int32) (p2_scratch : Nat → Int32) (p3 : Nat → Int64) (x1 : Int32) (x2 : Int32) : Option ((Nat → Int32) × (Nat → Int32) × (Nat → mm_MV) × Int32 × Int32 × Int32 × Int32 × (Nat → Int32) × (Nat → Int32) × (Nat → Int32) × (Nat → Int32) × (Nat → Int64)) := (f_L_mirror K p1_marsh_reeds_states p1_marsh_reeds_count p1_marsh_reeds_broken p1_marsh_fleet_numbers p1_marsh_fleet_cells p1_marsh_fleet_fares p1_marsh_fleet_count p1_marsh_fleet_nextNumber p1_marsh_fleet_total p1_marsh_fleet_removedFares p1_marsh_fleet_meetings p1_marsh_plans_moves p1_marsh_plans_lengths p1_marsh_landings_cells p1_marsh_landings_count p1_marsh_fogSide p1_history_slots p1_history_free p1_history_count p3 x1 x2).bind fun q1384 => (f_X13_mirror K p2_changes p2_v p2_before p2_past p2_scratch x1 x2).bind fun q1402 => (f_X13_thrown q1402.2.1).bind fun q1408 => if q1408 = q1384.1 then if q1384.1 = 0 then if (lg_cmp (q1384.2.2.2.2.2.2 0) q1402.1.toInt64) = 0 then some (q1384.2.1, q1384.2.2.1, q1384.2.2.2.1, q1384.2.2.2.2.1, q1384.2.2.2.2.2.1, q1402.2.1, q1402.2.2.1, q1402.2.2.2.1, q1402.2.2.2.2.1, q1402.2.2.2.2.2.1, q1402.2.2.2.2.2.2, q1384.2.2.2.2.2.2) else none else some (q1384.2.1, q1384.2.2.1, q1384.2.2.2.1, q1384.2.2.2.2.1, q1384.2.2.2.2.2.1, q1402.2.1, q1402.2.2.1, q1402.2.2.2.1, q1402.2.2.2.2.1, q1402.2.2.2.2.2.1, q1402.2.2.2.2.2.2, q1384.2.2.2.2.2.2) else none
set_option maxHeartbeats 4000000 in
set_option maxRecDepth 100000 in
theorem g_law22_c (hC : mm_C G A p s m c code 10 args "MirrorFerryLaw") (hsX : va_X b L xs s s.heap) (hbl : b < s.heap.size) (hbA : ¬ A b) (hd1 : b1 + 152 ≤ b2) (hd2 : b2 + 13 ≤ a3) (hd3 : a3 + 1 ≤ a4) (hrc : cells + 1000 ≤ room_1.cells) (hrs : slots + 10000 ≤ room_1.slots) (hfl : l.stackTraces = false) {K : Nat} {p1_marsh_reeds_states : Nat → Int32} {p1_marsh_reeds_count : Int32} {p1_marsh_reeds_broken : Int32} {p1_marsh_fleet_numbers : Nat → Int32} {p1_marsh_fleet_cells : Nat → Int32} {p1_marsh_fleet_fares : Nat → Int32} {p1_marsh_fleet_count : Int32} {p1_marsh_fleet_nextNumber : Int32} {p1_marsh_fleet_total : Int32} {p1_marsh_fleet_removedFares : Int32} {p1_marsh_fleet_meetings : Int32} {p1_marsh_plans_moves : Nat → Int32} {p1_marsh_plans_lengths : Nat → Int32} {p1_marsh_landings_cells : Nat → Int32} {p1_marsh_landings_count : Int32} {p1_marsh_fogSide : Int32} {p1_snapshot_reeds_states : Nat → Int32} {p1_snapshot_reeds_count : Int32} {p1_snapshot_reeds_broken : Int32} {p1_snapshot_fleet_numbers : Nat → Int32} {p1_snapshot_fleet_cells : Nat → Int32} {p1_snapshot_fleet_fares : Nat → Int32} {p1_snapshot_fleet_count : Int32} {p1_snapshot_fleet_nextNumber : Int32} {p1_snapshot_fleet_total : Int32} {p1_snapshot_fleet_removedFares : Int32} {p1_snapshot_fleet_meetings : Int32} {p1_snapshot_plans_moves : Nat → Int32} {p1_snapshot_plans_lengths : Nat → Int32} {p1_snapshot_landings_cells : Nat → Int32} {p1_snapshot_landings_count : Int32} {p1_snapshot_fogSide : Int32} {p1_history_slots : Nat → mm_MV} {p1_history_free : Int32} {p1_history_count : Int32} {p1_ways_tolls : Nat → Int32} {p1_ways_queue : Nat → Int32} {p1_ways_heap : Nat → Int32} {p1_ways_heapSize : Int32} {p1_ways_found : Nat → Int32} {p1_ways_improved : Nat → Int32} {p1_pairing_costs : Nat → Int32} {p1_pairing_best : Nat → Int32} {p1_reader_kinds : Nat → Int32} {p1_reader_starts : Nat → Int32} {p1_reader_count : Int32} {p1_commandText_signs : Nat → Int32} {p1_commandText_length : Int32} {p1_line_signs : Nat → Int32} {p1_line_length : Int32} {p1_spareMoves : Nat → Int32} {p1_snapshotTaken : Int32} {p1_lastErrorPosition : Int32} {p1_lastFailedCommand : Int32} {p2_thrown : Int32} {p2_changes : Int32} {p2_errorAt : Int32} {p2_failedAt : Int32} {p2_isSaved : Int32} {p2_v : Nat → Int32} {p2_before : Nat → Int32} {p2_saved : Nat → Int32} {p2_past : Nat → Int32} {p2_far : Nat → Int32} {p2_scratch : Nat → Int32} {p2_best : Nat → Int32} {p2_thenX : Int32} {p2_thenY : Int32} {p2_thenMet : Int32} {p2_text : Nat → Int32} {p2_line : Nat → Int32} {p2_isLeft : Nat → Int32} {p2_words : Nat → Int32} {p2_wordAt : Nat → Int32} {p2_textN : Int32} {p2_hereP : Int32} {p2_endP : Int32} {p2_lineN : Int32} {p2_isWrong : Int32} {p2_isDoing : Int32} {p3 : Nat → Int64} {p4 : Nat → UInt64} {x0 x1 x2 x3 x4 x5 : Int32} {X : (Nat → Int32) × (Nat → Int32) × (Nat → mm_MV) × Int32 × Int32 × Int32 × Int32 × (Nat → Int32) × (Nat → Int32) × (Nat → Int32) × (Nat → Int32) × (Nat → Int64)} (hf : g_law22 K p1_marsh_reeds_states p1_marsh_reeds_count p1_marsh_reeds_broken p1_marsh_fleet_numbers p1_marsh_fleet_cells p1_marsh_fleet_fares p1_marsh_fleet_count p1_marsh_fleet_nextNumber p1_marsh_fleet_total p1_marsh_fleet_removedFares p1_marsh_fleet_meetings p1_marsh_plans_moves p1_marsh_plans_lengths p1_marsh_landings_cells p1_marsh_landings_count p1_marsh_fogSide p1_history_slots p1_history_free p1_history_count p2_changes p2_v p2_before p2_past p2_scratch p3 x1 x2 = some X) (hp_p1 : At12 G w b1 p1_marsh_reeds_states p1_marsh_reeds_count p1_marsh_reeds_broken p1_marsh_fleet_numbers p1_marsh_fleet_cells p1_marsh_fleet_fares p1_marsh_fleet_count p1_marsh_fleet_nextNumber p1_marsh_fleet_total p1_marsh_fleet_removedFares p1_marsh_fleet_meetings p1_marsh_plans_moves p1_marsh_plans_lengths p1_marsh_landings_cells p1_marsh_landings_count p1_marsh_fogSide p1_snapshot_reeds_states p1_snapshot_reeds_count p1_snapshot_reeds_broken p1_snapshot_fleet_numbers p1_snapshot_fleet_cells p1_snapshot_fleet_fares p1_snapshot_fleet_count p1_snapshot_fleet_nextNumber p1_snapshot_fleet_total p1_snapshot_fleet_removedFares p1_snapshot_fleet_meetings p1_snapshot_plans_moves p1_snapshot_plans_lengths p1_snapshot_landings_cells p1_snapshot_landings_count p1_snapshot_fogSide p1_history_slots p1_history_free p1_history_count p1_ways_tolls p1_ways_queue p1_ways_heap p1_ways_heapSize p1_ways_found p1_ways_improved p1_pairing_costs p1_pairing_best p1_reader_kinds p1_reader_starts p1_reader_count p1_commandText_signs p1_commandText_length p1_line_signs p1_line_length p1_spareMoves p1_snapshotTaken p1_lastErrorPosition p1_lastFailedCommand) (hp_p2 : At13 G w b2 p2_thrown p2_changes p2_errorAt p2_failedAt p2_isSaved p2_v p2_before p2_saved p2_past p2_far p2_scratch p2_best p2_thenX p2_thenY p2_thenMet p2_text p2_line p2_isLeft p2_words p2_wordAt p2_textN p2_hereP p2_endP p2_lineN p2_isWrong p2_isDoing) (hp_p3 : (a3, (.inl (G.2 3, 1, .inr (.inl p3)) : va_E)) ∈ w) (hp_p4 : (a4, (.inl (G.2 4, 1, .inr (.inr (.inr (.inl p4)))) : va_E)) ∈ w)
    (hsc : ∀ k : Nat, k < 5 → vp_in (x5 + Int32.ofNat k) L ∧ xs (x5 + Int32.ofNat k).toNatClampNeg = mm_x5 x0 x1 x2 x3 x4 k) (hM : mm_S G A s.heap w H locs)
    (hk : ∀ (w : va_W) (H : Heap) (locs : List Loc), mm_S G A s.heap w H locs → At12 G w b1 p1_marsh_reeds_states p1_marsh_reeds_count p1_marsh_reeds_broken p1_marsh_fleet_numbers p1_marsh_fleet_cells p1_marsh_fleet_fares p1_marsh_fleet_count p1_marsh_fleet_nextNumber p1_marsh_fleet_total p1_marsh_fleet_removedFares p1_marsh_fleet_meetings X.1 X.2.1 p1_marsh_landings_cells p1_marsh_landings_count p1_marsh_fogSide p1_snapshot_reeds_states p1_snapshot_reeds_count p1_snapshot_reeds_broken p1_snapshot_fleet_numbers p1_snapshot_fleet_cells p1_snapshot_fleet_fares p1_snapshot_fleet_count p1_snapshot_fleet_nextNumber p1_snapshot_fleet_total p1_snapshot_fleet_removedFares p1_snapshot_fleet_meetings p1_snapshot_plans_moves p1_snapshot_plans_lengths p1_snapshot_landings_cells p1_snapshot_landings_count p1_snapshot_fogSide X.2.2.1 X.2.2.2.1 X.2.2.2.2.1 p1_ways_tolls p1_ways_queue p1_ways_heap p1_ways_heapSize p1_ways_found p1_ways_improved p1_pairing_costs p1_pairing_best p1_reader_kinds p1_reader_starts p1_reader_count p1_commandText_signs p1_commandText_length p1_line_signs p1_line_length p1_spareMoves p1_snapshotTaken p1_lastErrorPosition p1_lastFailedCommand → At13 G w b2 X.2.2.2.2.2.1 X.2.2.2.2.2.2.1 p2_errorAt p2_failedAt p2_isSaved X.2.2.2.2.2.2.2.1 X.2.2.2.2.2.2.2.2.1 p2_saved X.2.2.2.2.2.2.2.2.2.1 p2_far X.2.2.2.2.2.2.2.2.2.2.1 p2_best p2_thenX p2_thenY p2_thenMet p2_text p2_line p2_isLeft p2_words p2_wordAt p2_textN p2_hereP p2_endP p2_lineN p2_isWrong p2_isDoing → (a3, (.inl (G.2 3, 1, .inr (.inl X.2.2.2.2.2.2.2.2.2.2.2)) : va_E)) ∈ w → (a4, (.inl (G.2 4, 1, .inr (.inr (.inr (.inl p4)))) : va_E)) ∈ w → ∀ ls, lv_has ls 10 [(0, .ref b), (1, .ref b1), (2, .ref b2), (3, .ref a3), (4, .ref a4), (5, .int x5)] → W p l e room_1 s m args below meth c H locs (cells + 1000) (slots + 10000) Q (F0 m 3345 ls [])) (ls : Array Slot) (hl : lv_has ls 10 [(0, .ref b), (1, .ref b1), (2, .ref b2), (3, .ref a3), (4, .ref a4), (5, .int x5)]) : W p l e room_1 s m args below meth c H locs cells slots Q (F0 m 1370 ls []) := by
  have hx := hC.1.1
  have hb := hC.1.2.1
  rw [g_law22] at hf
  refine lv_aload_n hx hb dL_law_1370 rfl (lv_at hl 1 rfl) ?_
  refine lv_aload_n hx hb dL_law_1371 rfl (lv_at hl 0 rfl) ?_
  refine lv_iload hx hb dL_law_1372 (lv_at hl 5 rfl) ?_
  refine lv_iconst (v := 1) hx hb dL_law_1374 (by decide) ?_
  refine lv_iadd hx hb dL_law_1375 ?_
  refine mm_sld hC hM hsX hbl hbA (hsc 1 (by decide)).1 (hsc 1 (by decide)).2 dL_law_1376 ?_
  refine lv_aload_n hx hb dL_law_1377 rfl (lv_at hl 0 rfl) ?_
  refine lv_iload hx hb dL_law_1378 (lv_at hl 5 rfl) ?_
  refine lv_iconst (v := 2) hx hb dL_law_1380 (by decide) ?_
  refine lv_iadd hx hb dL_law_1381 ?_
  refine mm_sld hC hM hsX hbl hbA (hsc 2 (by decide)).1 (hsc 2 (by decide)).2 dL_law_1382 ?_
  refine lv_aload_n hx hb dL_law_1383 rfl (lv_at hl 3 rfl) ?_
  obtain ⟨q1384, hq1384, hf⟩ := mm_bd hf
  refine mm_SiW (rest := []) hC hM (c_L_mirror l hfl hq1384 hp_p1 hp_p3 (by omega)) q4_234 q1_0 ykL_mirror q4_232 q4_233 ⟨rfl, rfl⟩ ⟨Nat.le_of_ble_eq_true rfl, Nat.le_of_ble_eq_true rfl⟩ rfl hl.1 rfl (Nat.le_of_ble_eq_true rfl) dL_law_1384 ⟨by omega, by omega⟩ (fun r w1384 H locs hM hw => ?_)
  obtain ⟨hr, hn_p0, hn_p3, hfr⟩ := hw
  rw [hr]
  have hp_p2 := hp_p2.keep2 hfr (by omega) (by omega)
  have hp_p4 := hfr.keep hp_p4 (by omega) (by omega)
  have hp_p1 := hn_p0
  have hp_p3 := hn_p3
  refine lv_istore (lv' := [(6, .int q1384.1), (0, .ref b), (1, .ref b1), (2, .ref b2), (3, .ref a3), (4, .ref a4), (5, .int x5)]) hx hb dL_law_1387 hl (by decide) rfl (fun ls hl => ?_)
  refine lv_aload_n hx hb dL_law_1389 rfl (lv_at hl 3 rfl) ?_
  refine lv_aload_n hx hb dL_law_1390 rfl (lv_at hl 1 rfl) ?_
  refine lv_iload hx hb dL_law_1391 (lv_at hl 6 rfl) ?_
  refine lv_iconst (v := 1) hx hb dL_law_1393 (by decide) ?_
  refine lv_iadd hx hb dL_law_1394 ?_
  refine mm_sld hC hM hsX hbl hbA (hsc 1 (by decide)).1 (hsc 1 (by decide)).2 dL_law_1395 ?_
  refine lv_aload_n hx hb dL_law_1396 rfl (lv_at hl 1 rfl) ?_
  refine lv_iload hx hb dL_law_1397 (lv_at hl 6 rfl) ?_
  refine lv_iconst (v := 2) hx hb dL_law_1399 (by decide) ?_
  refine lv_iadd hx hb dL_law_1400 ?_
  refine mm_sld hC hM hsX hbl hbA (hsc 2 (by decide)).1 (hsc 2 (by decide)).2 dL_law_1401 ?_
  obtain ⟨q1402, hq1402, hf⟩ := mm_bd hf
  refine mm_Vi (rest := []) hC hM (c_X13_mirror l hq1402 hp_p2) q8_43 q1_12 ykX13_mirror q8_40 q8_41 q8_42 hp_p2.1 rfl ⟨rfl, rfl⟩ ⟨Nat.le_of_ble_eq_true rfl, Nat.le_of_ble_eq_true rfl⟩ rfl hl.1 rfl (Nat.le_of_ble_eq_true rfl) dL_law_1402 ⟨by omega, by omega⟩ (fun r w1402 H locs hM hw => ?_)
  obtain ⟨hr, hn_this, hfr⟩ := hw
  rw [hr]
  have hp_p1 := hp_p1.keep hfr (by omega)
  have hp_p3 := hfr.keep hp_p3 (by omega)
  have hp_p4 := hfr.keep hp_p4 (by omega)
  have hp_p2 := hn_this
  refine lv_istore (lv' := [(7, .int q1402.1), (6, .int q1384.1), (0, .ref b), (1, .ref b1), (2, .ref b2), (3, .ref a3), (4, .ref a4), (5, .int x5)]) hx hb dL_law_1405 hl (by decide) rfl (fun ls hl => ?_)
  refine lv_aload_n hx hb dL_law_1407 rfl (lv_at hl 4 rfl) ?_
  obtain ⟨q1408, hq1408, hf⟩ := mm_bd hf
  refine mm_Vi (rest := []) hC hM (c_X13_thrown l hq1408 hp_p2) q7_87 q1_12 ykX13_thrown q7_84 q7_85 q7_86 hp_p2.1 rfl ⟨rfl, rfl⟩ ⟨Nat.le_of_ble_eq_true rfl, Nat.le_of_ble_eq_true rfl⟩ rfl hl.1 rfl (Nat.le_of_ble_eq_true rfl) dL_law_1408 ⟨by omega, by omega⟩ (fun r w1408 H locs hM hw => ?_)
  obtain ⟨hr, hw⟩ := hw
  rw [hr]
  rw [hw] at hM
  refine lv_iload hx hb dL_law_1411 (lv_at hl 1 rfl) ?_
  refine lv_icmp_eq (tgt := 1418) hx hb dL_law_1413 (by decide) (fun hcd => ?_) (fun hcd => ?_)
  · rw [if_pos hcd] at hf
    refine lv_iload hx hb dL_law_1418 (lv_at hl 1 rfl) ?_
    refine lv_if_ne (tgt := 1435) hx hb dL_law_1420 (by decide) (fun hcd => ?_) (fun hcd => ?_)
    · rw [if_neg hcd] at hf
      refine lv_goto (tgt := 3345) hx hb dL_law_1435 (by decide) ?_
      cases hf
      exact W.widen (by omega) (by omega) (hk _ _ _ hM hp_p1 hp_p2 hp_p3 hp_p4 _ (lv_sub hl [2, 3, 4, 5, 6, 7] rfl))
    · rw [if_pos hcd] at hf
      refine lv_aload_n hx hb dL_law_1423 rfl (lv_at hl 5 rfl) ?_
      refine lv_iconst (v := 0) hx hb dL_law_1424 (by decide) ?_
      refine mm_lald0 hC hM hp_p3 dL_law_1425 ?_
      refine lv_iload hx hb dL_law_1426 (lv_at hl 0 rfl) ?_
      refine lv_i2l hx hb dL_law_1428 rfl ?_
      refine W.lcmp hx hb dL_law_1429 ?_
      refine lv_if_eq (tgt := 1435) hx hb dL_law_1430 (by decide) (fun hcd => ?_) (fun hcd => ?_)
      · rw [if_pos hcd] at hf
        refine lv_goto (tgt := 3345) hx hb dL_law_1435 (by decide) ?_
        cases hf
        exact W.widen (by omega) (by omega) (hk _ _ _ hM hp_p1 hp_p2 hp_p3 hp_p4 _ (lv_sub hl [2, 3, 4, 5, 6, 7] rfl))
      · rw [if_neg hcd] at hf
        refine lv_iconst (v := 0) hx hb dL_law_1433 (by decide) ?_
        cases hf
  · rw [if_neg hcd] at hf
    refine lv_iconst (v := 0) hx hb dL_law_1416 (by decide) ?_
    cases hf
def g_law23 (K : Nat) (p1_marsh_reeds_states : Nat → Int32) (p1_marsh_reeds_count : Int32) (p1_marsh_reeds_broken : Int32) (p1_marsh_fleet_numbers : Nat → Int32) (p1_marsh_fleet_cells : Nat → Int32) (p1_marsh_fleet_fares : Nat → Int32) (p1_marsh_fleet_count : Int32) (p1_marsh_fleet_nextNumber : Int32) (p1_marsh_fleet_total : Int32) (p1_marsh_fleet_removedFares : Int32) (p1_marsh_fleet_meetings : Int32) (p1_marsh_plans_moves : Nat → Int32) (p1_marsh_plans_lengths : Nat → Int32) (p1_marsh_landings_cells : Nat → Int32) (p1_marsh_landings_count : Int32) (p1_marsh_fogSide : Int32) (p1_history_slots : Nat → mm_MV) (p1_history_free : Int32) (p1_history_count : Int32) (p2_changes : Int32) (p2_v : Nat → Int32) (p2_before : Nat → Int32) (p2_past : Nat → Int32) (p2_scratch : Nat → Int32) (p3 : Nat → Int64) (x1 : Int32) (x2 : Int32) : Option ((Nat → Int32) × (Nat → Int32) × (Nat → mm_MV) × Int32 × Int32 × Int32 × Int32 × (Nat → Int32) × (Nat → Int32) × (Nat → Int32) × (Nat → Int32) × (Nat → Int64)) := (f_L_reverse K p1_marsh_reeds_states p1_marsh_reeds_count p1_marsh_reeds_broken p1_marsh_fleet_numbers p1_marsh_fleet_cells p1_marsh_fleet_fares p1_marsh_fleet_count p1_marsh_fleet_nextNumber p1_marsh_fleet_total p1_marsh_fleet_removedFares p1_marsh_fleet_meetings p1_marsh_plans_moves p1_marsh_plans_lengths p1_marsh_landings_cells p1_marsh_landings_count p1_marsh_fogSide p1_history_slots p1_history_free p1_history_count p3 x1 x2).bind fun q1452 => (f_X13_reverse K p2_changes p2_v p2_before p2_past p2_scratch x1 x2).bind fun q1470 => (f_X13_thrown q1470.2.1).bind fun q1476 => if q1476 = q1452.1 then if q1452.1 = 0 then if (lg_cmp (q1452.2.2.2.2.2.2 0) q1470.1.toInt64) = 0 then some (q1452.2.1, q1452.2.2.1, q1452.2.2.2.1, q1452.2.2.2.2.1, q1452.2.2.2.2.2.1, q1470.2.1, q1470.2.2.1, q1470.2.2.2.1, q1470.2.2.2.2.1, q1470.2.2.2.2.2.1, q1470.2.2.2.2.2.2, q1452.2.2.2.2.2.2) else none else some (q1452.2.1, q1452.2.2.1, q1452.2.2.2.1, q1452.2.2.2.2.1, q1452.2.2.2.2.2.1, q1470.2.1, q1470.2.2.1, q1470.2.2.2.1, q1470.2.2.2.2.1, q1470.2.2.2.2.2.1, q1470.2.2.2.2.2.2, q1452.2.2.2.2.2.2) else none
set_option maxHeartbeats 4000000 in
set_option maxRecDepth 100000 in
theorem g_law23_c (hC : mm_C G A p s m c code 10 args "MirrorFerryLaw") (hsX : va_X b L xs s s.heap) (hbl : b < s.heap.size) (hbA : ¬ A b) (hd1 : b1 + 152 ≤ b2) (hd2 : b2 + 13 ≤ a3) (hd3 : a3 + 1 ≤ a4) (hrc : cells + 1000 ≤ room_1.cells) (hrs : slots + 10000 ≤ room_1.slots) (hfl : l.stackTraces = false) {K : Nat} {p1_marsh_reeds_states : Nat → Int32} {p1_marsh_reeds_count : Int32} {p1_marsh_reeds_broken : Int32} {p1_marsh_fleet_numbers : Nat → Int32} {p1_marsh_fleet_cells : Nat → Int32} {p1_marsh_fleet_fares : Nat → Int32} {p1_marsh_fleet_count : Int32} {p1_marsh_fleet_nextNumber : Int32} {p1_marsh_fleet_total : Int32} {p1_marsh_fleet_removedFares : Int32} {p1_marsh_fleet_meetings : Int32} {p1_marsh_plans_moves : Nat → Int32} {p1_marsh_plans_lengths : Nat → Int32} {p1_marsh_landings_cells : Nat → Int32} {p1_marsh_landings_count : Int32} {p1_marsh_fogSide : Int32} {p1_snapshot_reeds_states : Nat → Int32} {p1_snapshot_reeds_count : Int32} {p1_snapshot_reeds_broken : Int32} {p1_snapshot_fleet_numbers : Nat → Int32} {p1_snapshot_fleet_cells : Nat → Int32} {p1_snapshot_fleet_fares : Nat → Int32} {p1_snapshot_fleet_count : Int32} {p1_snapshot_fleet_nextNumber : Int32} {p1_snapshot_fleet_total : Int32} {p1_snapshot_fleet_removedFares : Int32} {p1_snapshot_fleet_meetings : Int32} {p1_snapshot_plans_moves : Nat → Int32} {p1_snapshot_plans_lengths : Nat → Int32} {p1_snapshot_landings_cells : Nat → Int32} {p1_snapshot_landings_count : Int32} {p1_snapshot_fogSide : Int32} {p1_history_slots : Nat → mm_MV} {p1_history_free : Int32} {p1_history_count : Int32} {p1_ways_tolls : Nat → Int32} {p1_ways_queue : Nat → Int32} {p1_ways_heap : Nat → Int32} {p1_ways_heapSize : Int32} {p1_ways_found : Nat → Int32} {p1_ways_improved : Nat → Int32} {p1_pairing_costs : Nat → Int32} {p1_pairing_best : Nat → Int32} {p1_reader_kinds : Nat → Int32} {p1_reader_starts : Nat → Int32} {p1_reader_count : Int32} {p1_commandText_signs : Nat → Int32} {p1_commandText_length : Int32} {p1_line_signs : Nat → Int32} {p1_line_length : Int32} {p1_spareMoves : Nat → Int32} {p1_snapshotTaken : Int32} {p1_lastErrorPosition : Int32} {p1_lastFailedCommand : Int32} {p2_thrown : Int32} {p2_changes : Int32} {p2_errorAt : Int32} {p2_failedAt : Int32} {p2_isSaved : Int32} {p2_v : Nat → Int32} {p2_before : Nat → Int32} {p2_saved : Nat → Int32} {p2_past : Nat → Int32} {p2_far : Nat → Int32} {p2_scratch : Nat → Int32} {p2_best : Nat → Int32} {p2_thenX : Int32} {p2_thenY : Int32} {p2_thenMet : Int32} {p2_text : Nat → Int32} {p2_line : Nat → Int32} {p2_isLeft : Nat → Int32} {p2_words : Nat → Int32} {p2_wordAt : Nat → Int32} {p2_textN : Int32} {p2_hereP : Int32} {p2_endP : Int32} {p2_lineN : Int32} {p2_isWrong : Int32} {p2_isDoing : Int32} {p3 : Nat → Int64} {p4 : Nat → UInt64} {x0 x1 x2 x3 x4 x5 : Int32} {X : (Nat → Int32) × (Nat → Int32) × (Nat → mm_MV) × Int32 × Int32 × Int32 × Int32 × (Nat → Int32) × (Nat → Int32) × (Nat → Int32) × (Nat → Int32) × (Nat → Int64)} (hf : g_law23 K p1_marsh_reeds_states p1_marsh_reeds_count p1_marsh_reeds_broken p1_marsh_fleet_numbers p1_marsh_fleet_cells p1_marsh_fleet_fares p1_marsh_fleet_count p1_marsh_fleet_nextNumber p1_marsh_fleet_total p1_marsh_fleet_removedFares p1_marsh_fleet_meetings p1_marsh_plans_moves p1_marsh_plans_lengths p1_marsh_landings_cells p1_marsh_landings_count p1_marsh_fogSide p1_history_slots p1_history_free p1_history_count p2_changes p2_v p2_before p2_past p2_scratch p3 x1 x2 = some X) (hp_p1 : At12 G w b1 p1_marsh_reeds_states p1_marsh_reeds_count p1_marsh_reeds_broken p1_marsh_fleet_numbers p1_marsh_fleet_cells p1_marsh_fleet_fares p1_marsh_fleet_count p1_marsh_fleet_nextNumber p1_marsh_fleet_total p1_marsh_fleet_removedFares p1_marsh_fleet_meetings p1_marsh_plans_moves p1_marsh_plans_lengths p1_marsh_landings_cells p1_marsh_landings_count p1_marsh_fogSide p1_snapshot_reeds_states p1_snapshot_reeds_count p1_snapshot_reeds_broken p1_snapshot_fleet_numbers p1_snapshot_fleet_cells p1_snapshot_fleet_fares p1_snapshot_fleet_count p1_snapshot_fleet_nextNumber p1_snapshot_fleet_total p1_snapshot_fleet_removedFares p1_snapshot_fleet_meetings p1_snapshot_plans_moves p1_snapshot_plans_lengths p1_snapshot_landings_cells p1_snapshot_landings_count p1_snapshot_fogSide p1_history_slots p1_history_free p1_history_count p1_ways_tolls p1_ways_queue p1_ways_heap p1_ways_heapSize p1_ways_found p1_ways_improved p1_pairing_costs p1_pairing_best p1_reader_kinds p1_reader_starts p1_reader_count p1_commandText_signs p1_commandText_length p1_line_signs p1_line_length p1_spareMoves p1_snapshotTaken p1_lastErrorPosition p1_lastFailedCommand) (hp_p2 : At13 G w b2 p2_thrown p2_changes p2_errorAt p2_failedAt p2_isSaved p2_v p2_before p2_saved p2_past p2_far p2_scratch p2_best p2_thenX p2_thenY p2_thenMet p2_text p2_line p2_isLeft p2_words p2_wordAt p2_textN p2_hereP p2_endP p2_lineN p2_isWrong p2_isDoing) (hp_p3 : (a3, (.inl (G.2 3, 1, .inr (.inl p3)) : va_E)) ∈ w) (hp_p4 : (a4, (.inl (G.2 4, 1, .inr (.inr (.inr (.inl p4)))) : va_E)) ∈ w)
    (hsc : ∀ k : Nat, k < 5 → vp_in (x5 + Int32.ofNat k) L ∧ xs (x5 + Int32.ofNat k).toNatClampNeg = mm_x5 x0 x1 x2 x3 x4 k) (hM : mm_S G A s.heap w H locs)
    (hk : ∀ (w : va_W) (H : Heap) (locs : List Loc), mm_S G A s.heap w H locs → At12 G w b1 p1_marsh_reeds_states p1_marsh_reeds_count p1_marsh_reeds_broken p1_marsh_fleet_numbers p1_marsh_fleet_cells p1_marsh_fleet_fares p1_marsh_fleet_count p1_marsh_fleet_nextNumber p1_marsh_fleet_total p1_marsh_fleet_removedFares p1_marsh_fleet_meetings X.1 X.2.1 p1_marsh_landings_cells p1_marsh_landings_count p1_marsh_fogSide p1_snapshot_reeds_states p1_snapshot_reeds_count p1_snapshot_reeds_broken p1_snapshot_fleet_numbers p1_snapshot_fleet_cells p1_snapshot_fleet_fares p1_snapshot_fleet_count p1_snapshot_fleet_nextNumber p1_snapshot_fleet_total p1_snapshot_fleet_removedFares p1_snapshot_fleet_meetings p1_snapshot_plans_moves p1_snapshot_plans_lengths p1_snapshot_landings_cells p1_snapshot_landings_count p1_snapshot_fogSide X.2.2.1 X.2.2.2.1 X.2.2.2.2.1 p1_ways_tolls p1_ways_queue p1_ways_heap p1_ways_heapSize p1_ways_found p1_ways_improved p1_pairing_costs p1_pairing_best p1_reader_kinds p1_reader_starts p1_reader_count p1_commandText_signs p1_commandText_length p1_line_signs p1_line_length p1_spareMoves p1_snapshotTaken p1_lastErrorPosition p1_lastFailedCommand → At13 G w b2 X.2.2.2.2.2.1 X.2.2.2.2.2.2.1 p2_errorAt p2_failedAt p2_isSaved X.2.2.2.2.2.2.2.1 X.2.2.2.2.2.2.2.2.1 p2_saved X.2.2.2.2.2.2.2.2.2.1 p2_far X.2.2.2.2.2.2.2.2.2.2.1 p2_best p2_thenX p2_thenY p2_thenMet p2_text p2_line p2_isLeft p2_words p2_wordAt p2_textN p2_hereP p2_endP p2_lineN p2_isWrong p2_isDoing → (a3, (.inl (G.2 3, 1, .inr (.inl X.2.2.2.2.2.2.2.2.2.2.2)) : va_E)) ∈ w → (a4, (.inl (G.2 4, 1, .inr (.inr (.inr (.inl p4)))) : va_E)) ∈ w → ∀ ls, lv_has ls 10 [(0, .ref b), (1, .ref b1), (2, .ref b2), (3, .ref a3), (4, .ref a4), (5, .int x5)] → W p l e room_1 s m args below meth c H locs (cells + 1000) (slots + 10000) Q (F0 m 3345 ls [])) (ls : Array Slot) (hl : lv_has ls 10 [(0, .ref b), (1, .ref b1), (2, .ref b2), (3, .ref a3), (4, .ref a4), (5, .int x5)]) : W p l e room_1 s m args below meth c H locs cells slots Q (F0 m 1438 ls []) := by
  have hx := hC.1.1
  have hb := hC.1.2.1
  rw [g_law23] at hf
  refine lv_aload_n hx hb dL_law_1438 rfl (lv_at hl 1 rfl) ?_
  refine lv_aload_n hx hb dL_law_1439 rfl (lv_at hl 0 rfl) ?_
  refine lv_iload hx hb dL_law_1440 (lv_at hl 5 rfl) ?_
  refine lv_iconst (v := 1) hx hb dL_law_1442 (by decide) ?_
  refine lv_iadd hx hb dL_law_1443 ?_
  refine mm_sld hC hM hsX hbl hbA (hsc 1 (by decide)).1 (hsc 1 (by decide)).2 dL_law_1444 ?_
  refine lv_aload_n hx hb dL_law_1445 rfl (lv_at hl 0 rfl) ?_
  refine lv_iload hx hb dL_law_1446 (lv_at hl 5 rfl) ?_
  refine lv_iconst (v := 2) hx hb dL_law_1448 (by decide) ?_
  refine lv_iadd hx hb dL_law_1449 ?_
  refine mm_sld hC hM hsX hbl hbA (hsc 2 (by decide)).1 (hsc 2 (by decide)).2 dL_law_1450 ?_
  refine lv_aload_n hx hb dL_law_1451 rfl (lv_at hl 3 rfl) ?_
  obtain ⟨q1452, hq1452, hf⟩ := mm_bd hf
  refine mm_SiW (rest := []) hC hM (c_L_reverse l hfl hq1452 hp_p1 hp_p3 (by omega)) q5_9 q1_0 ykL_reverse q5_7 q5_8 ⟨rfl, rfl⟩ ⟨Nat.le_of_ble_eq_true rfl, Nat.le_of_ble_eq_true rfl⟩ rfl hl.1 rfl (Nat.le_of_ble_eq_true rfl) dL_law_1452 ⟨by omega, by omega⟩ (fun r w1452 H locs hM hw => ?_)
  obtain ⟨hr, hn_p0, hn_p3, hfr⟩ := hw
  rw [hr]
  have hp_p2 := hp_p2.keep2 hfr (by omega) (by omega)
  have hp_p4 := hfr.keep hp_p4 (by omega) (by omega)
  have hp_p1 := hn_p0
  have hp_p3 := hn_p3
  refine lv_istore (lv' := [(6, .int q1452.1), (0, .ref b), (1, .ref b1), (2, .ref b2), (3, .ref a3), (4, .ref a4), (5, .int x5)]) hx hb dL_law_1455 hl (by decide) rfl (fun ls hl => ?_)
  refine lv_aload_n hx hb dL_law_1457 rfl (lv_at hl 3 rfl) ?_
  refine lv_aload_n hx hb dL_law_1458 rfl (lv_at hl 1 rfl) ?_
  refine lv_iload hx hb dL_law_1459 (lv_at hl 6 rfl) ?_
  refine lv_iconst (v := 1) hx hb dL_law_1461 (by decide) ?_
  refine lv_iadd hx hb dL_law_1462 ?_
  refine mm_sld hC hM hsX hbl hbA (hsc 1 (by decide)).1 (hsc 1 (by decide)).2 dL_law_1463 ?_
  refine lv_aload_n hx hb dL_law_1464 rfl (lv_at hl 1 rfl) ?_
  refine lv_iload hx hb dL_law_1465 (lv_at hl 6 rfl) ?_
  refine lv_iconst (v := 2) hx hb dL_law_1467 (by decide) ?_
  refine lv_iadd hx hb dL_law_1468 ?_
  refine mm_sld hC hM hsX hbl hbA (hsc 2 (by decide)).1 (hsc 2 (by decide)).2 dL_law_1469 ?_
  obtain ⟨q1470, hq1470, hf⟩ := mm_bd hf
  refine mm_Vi (rest := []) hC hM (c_X13_reverse l hq1470 hp_p2) q8_58 q1_12 ykX13_reverse q8_55 q8_56 q8_57 hp_p2.1 rfl ⟨rfl, rfl⟩ ⟨Nat.le_of_ble_eq_true rfl, Nat.le_of_ble_eq_true rfl⟩ rfl hl.1 rfl (Nat.le_of_ble_eq_true rfl) dL_law_1470 ⟨by omega, by omega⟩ (fun r w1470 H locs hM hw => ?_)
  obtain ⟨hr, hn_this, hfr⟩ := hw
  rw [hr]
  have hp_p1 := hp_p1.keep hfr (by omega)
  have hp_p3 := hfr.keep hp_p3 (by omega)
  have hp_p4 := hfr.keep hp_p4 (by omega)
  have hp_p2 := hn_this
  refine lv_istore (lv' := [(7, .int q1470.1), (6, .int q1452.1), (0, .ref b), (1, .ref b1), (2, .ref b2), (3, .ref a3), (4, .ref a4), (5, .int x5)]) hx hb dL_law_1473 hl (by decide) rfl (fun ls hl => ?_)
  refine lv_aload_n hx hb dL_law_1475 rfl (lv_at hl 4 rfl) ?_
  obtain ⟨q1476, hq1476, hf⟩ := mm_bd hf
  refine mm_Vi (rest := []) hC hM (c_X13_thrown l hq1476 hp_p2) q7_87 q1_12 ykX13_thrown q7_84 q7_85 q7_86 hp_p2.1 rfl ⟨rfl, rfl⟩ ⟨Nat.le_of_ble_eq_true rfl, Nat.le_of_ble_eq_true rfl⟩ rfl hl.1 rfl (Nat.le_of_ble_eq_true rfl) dL_law_1476 ⟨by omega, by omega⟩ (fun r w1476 H locs hM hw => ?_)
  obtain ⟨hr, hw⟩ := hw
  rw [hr]
  rw [hw] at hM
  refine lv_iload hx hb dL_law_1479 (lv_at hl 1 rfl) ?_
  refine lv_icmp_eq (tgt := 1486) hx hb dL_law_1481 (by decide) (fun hcd => ?_) (fun hcd => ?_)
  · rw [if_pos hcd] at hf
    refine lv_iload hx hb dL_law_1486 (lv_at hl 1 rfl) ?_
    refine lv_if_ne (tgt := 1503) hx hb dL_law_1488 (by decide) (fun hcd => ?_) (fun hcd => ?_)
    · rw [if_neg hcd] at hf
      refine lv_goto (tgt := 3345) hx hb dL_law_1503 (by decide) ?_
      cases hf
      exact W.widen (by omega) (by omega) (hk _ _ _ hM hp_p1 hp_p2 hp_p3 hp_p4 _ (lv_sub hl [2, 3, 4, 5, 6, 7] rfl))
    · rw [if_pos hcd] at hf
      refine lv_aload_n hx hb dL_law_1491 rfl (lv_at hl 5 rfl) ?_
      refine lv_iconst (v := 0) hx hb dL_law_1492 (by decide) ?_
      refine mm_lald0 hC hM hp_p3 dL_law_1493 ?_
      refine lv_iload hx hb dL_law_1494 (lv_at hl 0 rfl) ?_
      refine lv_i2l hx hb dL_law_1496 rfl ?_
      refine W.lcmp hx hb dL_law_1497 ?_
      refine lv_if_eq (tgt := 1503) hx hb dL_law_1498 (by decide) (fun hcd => ?_) (fun hcd => ?_)
      · rw [if_pos hcd] at hf
        refine lv_goto (tgt := 3345) hx hb dL_law_1503 (by decide) ?_
        cases hf
        exact W.widen (by omega) (by omega) (hk _ _ _ hM hp_p1 hp_p2 hp_p3 hp_p4 _ (lv_sub hl [2, 3, 4, 5, 6, 7] rfl))
      · rw [if_neg hcd] at hf
        refine lv_iconst (v := 0) hx hb dL_law_1501 (by decide) ?_
        cases hf
  · rw [if_neg hcd] at hf
    refine lv_iconst (v := 0) hx hb dL_law_1484 (by decide) ?_
    cases hf
def g_law24 (K : Nat) (p1_marsh_reeds_states : Nat → Int32) (p1_marsh_reeds_count : Int32) (p1_marsh_reeds_broken : Int32) (p1_marsh_fleet_numbers : Nat → Int32) (p1_marsh_fleet_cells : Nat → Int32) (p1_marsh_fleet_fares : Nat → Int32) (p1_marsh_fleet_count : Int32) (p1_marsh_fleet_nextNumber : Int32) (p1_marsh_fleet_total : Int32) (p1_marsh_fleet_removedFares : Int32) (p1_marsh_fleet_meetings : Int32) (p1_marsh_plans_moves : Nat → Int32) (p1_marsh_plans_lengths : Nat → Int32) (p1_marsh_landings_cells : Nat → Int32) (p1_marsh_landings_count : Int32) (p1_marsh_fogSide : Int32) (p1_history_slots : Nat → mm_MV) (p1_history_free : Int32) (p1_history_count : Int32) (p2_changes : Int32) (p2_v : Nat → Int32) (p2_before : Nat → Int32) (p2_past : Nat → Int32) (p2_scratch : Nat → Int32) (p3 : Nat → Int64) (x1 : Int32) : Option ((Nat → Int32) × (Nat → Int32) × (Nat → mm_MV) × Int32 × Int32 × Int32 × Int32 × (Nat → Int32) × (Nat → Int32) × (Nat → Int32) × (Nat → Int32) × (Nat → Int64)) := (f_L_reduce K p1_marsh_reeds_states p1_marsh_reeds_count p1_marsh_reeds_broken p1_marsh_fleet_numbers p1_marsh_fleet_cells p1_marsh_fleet_fares p1_marsh_fleet_count p1_marsh_fleet_nextNumber p1_marsh_fleet_total p1_marsh_fleet_removedFares p1_marsh_fleet_meetings p1_marsh_plans_moves p1_marsh_plans_lengths p1_marsh_landings_cells p1_marsh_landings_count p1_marsh_fogSide p1_history_slots p1_history_free p1_history_count p3 x1).bind fun q1514 => (f_X13_reduce K p2_changes p2_v p2_before p2_past p2_scratch x1).bind fun q1526 => (f_X13_thrown q1526.2.1).bind fun q1532 => if q1532 = q1514.1 then if q1514.1 = 0 then if (lg_cmp (q1514.2.2.2.2.2.2 0) q1526.1.toInt64) = 0 then some (q1514.2.1, q1514.2.2.1, q1514.2.2.2.1, q1514.2.2.2.2.1, q1514.2.2.2.2.2.1, q1526.2.1, q1526.2.2.1, q1526.2.2.2.1, q1526.2.2.2.2.1, q1526.2.2.2.2.2.1, q1526.2.2.2.2.2.2, q1514.2.2.2.2.2.2) else none else some (q1514.2.1, q1514.2.2.1, q1514.2.2.2.1, q1514.2.2.2.2.1, q1514.2.2.2.2.2.1, q1526.2.1, q1526.2.2.1, q1526.2.2.2.1, q1526.2.2.2.2.1, q1526.2.2.2.2.2.1, q1526.2.2.2.2.2.2, q1514.2.2.2.2.2.2) else none
set_option maxHeartbeats 4000000 in
set_option maxRecDepth 100000 in
theorem g_law24_c (hC : mm_C G A p s m c code 10 args "MirrorFerryLaw") (hsX : va_X b L xs s s.heap) (hbl : b < s.heap.size) (hbA : ¬ A b) (hd1 : b1 + 152 ≤ b2) (hd2 : b2 + 13 ≤ a3) (hd3 : a3 + 1 ≤ a4) (hrc : cells + 1000 ≤ room_1.cells) (hrs : slots + 10000 ≤ room_1.slots) (hfl : l.stackTraces = false) {K : Nat} {p1_marsh_reeds_states : Nat → Int32} {p1_marsh_reeds_count : Int32} {p1_marsh_reeds_broken : Int32} {p1_marsh_fleet_numbers : Nat → Int32} {p1_marsh_fleet_cells : Nat → Int32} {p1_marsh_fleet_fares : Nat → Int32} {p1_marsh_fleet_count : Int32} {p1_marsh_fleet_nextNumber : Int32} {p1_marsh_fleet_total : Int32} {p1_marsh_fleet_removedFares : Int32} {p1_marsh_fleet_meetings : Int32} {p1_marsh_plans_moves : Nat → Int32} {p1_marsh_plans_lengths : Nat → Int32} {p1_marsh_landings_cells : Nat → Int32} {p1_marsh_landings_count : Int32} {p1_marsh_fogSide : Int32} {p1_snapshot_reeds_states : Nat → Int32} {p1_snapshot_reeds_count : Int32} {p1_snapshot_reeds_broken : Int32} {p1_snapshot_fleet_numbers : Nat → Int32} {p1_snapshot_fleet_cells : Nat → Int32} {p1_snapshot_fleet_fares : Nat → Int32} {p1_snapshot_fleet_count : Int32} {p1_snapshot_fleet_nextNumber : Int32} {p1_snapshot_fleet_total : Int32} {p1_snapshot_fleet_removedFares : Int32} {p1_snapshot_fleet_meetings : Int32} {p1_snapshot_plans_moves : Nat → Int32} {p1_snapshot_plans_lengths : Nat → Int32} {p1_snapshot_landings_cells : Nat → Int32} {p1_snapshot_landings_count : Int32} {p1_snapshot_fogSide : Int32} {p1_history_slots : Nat → mm_MV} {p1_history_free : Int32} {p1_history_count : Int32} {p1_ways_tolls : Nat → Int32} {p1_ways_queue : Nat → Int32} {p1_ways_heap : Nat → Int32} {p1_ways_heapSize : Int32} {p1_ways_found : Nat → Int32} {p1_ways_improved : Nat → Int32} {p1_pairing_costs : Nat → Int32} {p1_pairing_best : Nat → Int32} {p1_reader_kinds : Nat → Int32} {p1_reader_starts : Nat → Int32} {p1_reader_count : Int32} {p1_commandText_signs : Nat → Int32} {p1_commandText_length : Int32} {p1_line_signs : Nat → Int32} {p1_line_length : Int32} {p1_spareMoves : Nat → Int32} {p1_snapshotTaken : Int32} {p1_lastErrorPosition : Int32} {p1_lastFailedCommand : Int32} {p2_thrown : Int32} {p2_changes : Int32} {p2_errorAt : Int32} {p2_failedAt : Int32} {p2_isSaved : Int32} {p2_v : Nat → Int32} {p2_before : Nat → Int32} {p2_saved : Nat → Int32} {p2_past : Nat → Int32} {p2_far : Nat → Int32} {p2_scratch : Nat → Int32} {p2_best : Nat → Int32} {p2_thenX : Int32} {p2_thenY : Int32} {p2_thenMet : Int32} {p2_text : Nat → Int32} {p2_line : Nat → Int32} {p2_isLeft : Nat → Int32} {p2_words : Nat → Int32} {p2_wordAt : Nat → Int32} {p2_textN : Int32} {p2_hereP : Int32} {p2_endP : Int32} {p2_lineN : Int32} {p2_isWrong : Int32} {p2_isDoing : Int32} {p3 : Nat → Int64} {p4 : Nat → UInt64} {x0 x1 x2 x3 x4 x5 : Int32} {X : (Nat → Int32) × (Nat → Int32) × (Nat → mm_MV) × Int32 × Int32 × Int32 × Int32 × (Nat → Int32) × (Nat → Int32) × (Nat → Int32) × (Nat → Int32) × (Nat → Int64)} (hf : g_law24 K p1_marsh_reeds_states p1_marsh_reeds_count p1_marsh_reeds_broken p1_marsh_fleet_numbers p1_marsh_fleet_cells p1_marsh_fleet_fares p1_marsh_fleet_count p1_marsh_fleet_nextNumber p1_marsh_fleet_total p1_marsh_fleet_removedFares p1_marsh_fleet_meetings p1_marsh_plans_moves p1_marsh_plans_lengths p1_marsh_landings_cells p1_marsh_landings_count p1_marsh_fogSide p1_history_slots p1_history_free p1_history_count p2_changes p2_v p2_before p2_past p2_scratch p3 x1 = some X) (hp_p1 : At12 G w b1 p1_marsh_reeds_states p1_marsh_reeds_count p1_marsh_reeds_broken p1_marsh_fleet_numbers p1_marsh_fleet_cells p1_marsh_fleet_fares p1_marsh_fleet_count p1_marsh_fleet_nextNumber p1_marsh_fleet_total p1_marsh_fleet_removedFares p1_marsh_fleet_meetings p1_marsh_plans_moves p1_marsh_plans_lengths p1_marsh_landings_cells p1_marsh_landings_count p1_marsh_fogSide p1_snapshot_reeds_states p1_snapshot_reeds_count p1_snapshot_reeds_broken p1_snapshot_fleet_numbers p1_snapshot_fleet_cells p1_snapshot_fleet_fares p1_snapshot_fleet_count p1_snapshot_fleet_nextNumber p1_snapshot_fleet_total p1_snapshot_fleet_removedFares p1_snapshot_fleet_meetings p1_snapshot_plans_moves p1_snapshot_plans_lengths p1_snapshot_landings_cells p1_snapshot_landings_count p1_snapshot_fogSide p1_history_slots p1_history_free p1_history_count p1_ways_tolls p1_ways_queue p1_ways_heap p1_ways_heapSize p1_ways_found p1_ways_improved p1_pairing_costs p1_pairing_best p1_reader_kinds p1_reader_starts p1_reader_count p1_commandText_signs p1_commandText_length p1_line_signs p1_line_length p1_spareMoves p1_snapshotTaken p1_lastErrorPosition p1_lastFailedCommand) (hp_p2 : At13 G w b2 p2_thrown p2_changes p2_errorAt p2_failedAt p2_isSaved p2_v p2_before p2_saved p2_past p2_far p2_scratch p2_best p2_thenX p2_thenY p2_thenMet p2_text p2_line p2_isLeft p2_words p2_wordAt p2_textN p2_hereP p2_endP p2_lineN p2_isWrong p2_isDoing) (hp_p3 : (a3, (.inl (G.2 3, 1, .inr (.inl p3)) : va_E)) ∈ w) (hp_p4 : (a4, (.inl (G.2 4, 1, .inr (.inr (.inr (.inl p4)))) : va_E)) ∈ w)
    (hsc : ∀ k : Nat, k < 5 → vp_in (x5 + Int32.ofNat k) L ∧ xs (x5 + Int32.ofNat k).toNatClampNeg = mm_x5 x0 x1 x2 x3 x4 k) (hM : mm_S G A s.heap w H locs)
    (hk : ∀ (w : va_W) (H : Heap) (locs : List Loc), mm_S G A s.heap w H locs → At12 G w b1 p1_marsh_reeds_states p1_marsh_reeds_count p1_marsh_reeds_broken p1_marsh_fleet_numbers p1_marsh_fleet_cells p1_marsh_fleet_fares p1_marsh_fleet_count p1_marsh_fleet_nextNumber p1_marsh_fleet_total p1_marsh_fleet_removedFares p1_marsh_fleet_meetings X.1 X.2.1 p1_marsh_landings_cells p1_marsh_landings_count p1_marsh_fogSide p1_snapshot_reeds_states p1_snapshot_reeds_count p1_snapshot_reeds_broken p1_snapshot_fleet_numbers p1_snapshot_fleet_cells p1_snapshot_fleet_fares p1_snapshot_fleet_count p1_snapshot_fleet_nextNumber p1_snapshot_fleet_total p1_snapshot_fleet_removedFares p1_snapshot_fleet_meetings p1_snapshot_plans_moves p1_snapshot_plans_lengths p1_snapshot_landings_cells p1_snapshot_landings_count p1_snapshot_fogSide X.2.2.1 X.2.2.2.1 X.2.2.2.2.1 p1_ways_tolls p1_ways_queue p1_ways_heap p1_ways_heapSize p1_ways_found p1_ways_improved p1_pairing_costs p1_pairing_best p1_reader_kinds p1_reader_starts p1_reader_count p1_commandText_signs p1_commandText_length p1_line_signs p1_line_length p1_spareMoves p1_snapshotTaken p1_lastErrorPosition p1_lastFailedCommand → At13 G w b2 X.2.2.2.2.2.1 X.2.2.2.2.2.2.1 p2_errorAt p2_failedAt p2_isSaved X.2.2.2.2.2.2.2.1 X.2.2.2.2.2.2.2.2.1 p2_saved X.2.2.2.2.2.2.2.2.2.1 p2_far X.2.2.2.2.2.2.2.2.2.2.1 p2_best p2_thenX p2_thenY p2_thenMet p2_text p2_line p2_isLeft p2_words p2_wordAt p2_textN p2_hereP p2_endP p2_lineN p2_isWrong p2_isDoing → (a3, (.inl (G.2 3, 1, .inr (.inl X.2.2.2.2.2.2.2.2.2.2.2)) : va_E)) ∈ w → (a4, (.inl (G.2 4, 1, .inr (.inr (.inr (.inl p4)))) : va_E)) ∈ w → ∀ ls, lv_has ls 10 [(0, .ref b), (1, .ref b1), (2, .ref b2), (3, .ref a3), (4, .ref a4), (5, .int x5)] → W p l e room_1 s m args below meth c H locs (cells + 1000) (slots + 10000) Q (F0 m 3345 ls [])) (ls : Array Slot) (hl : lv_has ls 10 [(0, .ref b), (1, .ref b1), (2, .ref b2), (3, .ref a3), (4, .ref a4), (5, .int x5)]) : W p l e room_1 s m args below meth c H locs cells slots Q (F0 m 1506 ls []) := by
  have hx := hC.1.1
  have hb := hC.1.2.1
  rw [g_law24] at hf
  refine lv_aload_n hx hb dL_law_1506 rfl (lv_at hl 1 rfl) ?_
  refine lv_aload_n hx hb dL_law_1507 rfl (lv_at hl 0 rfl) ?_
  refine lv_iload hx hb dL_law_1508 (lv_at hl 5 rfl) ?_
  refine lv_iconst (v := 1) hx hb dL_law_1510 (by decide) ?_
  refine lv_iadd hx hb dL_law_1511 ?_
  refine mm_sld hC hM hsX hbl hbA (hsc 1 (by decide)).1 (hsc 1 (by decide)).2 dL_law_1512 ?_
  refine lv_aload_n hx hb dL_law_1513 rfl (lv_at hl 3 rfl) ?_
  obtain ⟨q1514, hq1514, hf⟩ := mm_bd hf
  refine mm_SiW (rest := []) hC hM (c_L_reduce l hfl hq1514 hp_p1 hp_p3 (by omega)) q5_20 q1_0 ykL_reduce q5_18 q5_19 ⟨rfl, rfl⟩ ⟨Nat.le_of_ble_eq_true rfl, Nat.le_of_ble_eq_true rfl⟩ rfl hl.1 rfl (Nat.le_of_ble_eq_true rfl) dL_law_1514 ⟨by omega, by omega⟩ (fun r w1514 H locs hM hw => ?_)
  obtain ⟨hr, hn_p0, hn_p2, hfr⟩ := hw
  rw [hr]
  have hp_p2 := hp_p2.keep2 hfr (by omega) (by omega)
  have hp_p4 := hfr.keep hp_p4 (by omega) (by omega)
  have hp_p1 := hn_p0
  have hp_p3 := hn_p2
  refine lv_istore (lv' := [(6, .int q1514.1), (0, .ref b), (1, .ref b1), (2, .ref b2), (3, .ref a3), (4, .ref a4), (5, .int x5)]) hx hb dL_law_1517 hl (by decide) rfl (fun ls hl => ?_)
  refine lv_aload_n hx hb dL_law_1519 rfl (lv_at hl 3 rfl) ?_
  refine lv_aload_n hx hb dL_law_1520 rfl (lv_at hl 1 rfl) ?_
  refine lv_iload hx hb dL_law_1521 (lv_at hl 6 rfl) ?_
  refine lv_iconst (v := 1) hx hb dL_law_1523 (by decide) ?_
  refine lv_iadd hx hb dL_law_1524 ?_
  refine mm_sld hC hM hsX hbl hbA (hsc 1 (by decide)).1 (hsc 1 (by decide)).2 dL_law_1525 ?_
  obtain ⟨q1526, hq1526, hf⟩ := mm_bd hf
  refine mm_Vi (rest := []) hC hM (c_X13_reduce l hq1526 hp_p2) q8_66 q1_12 ykX13_reduce q8_63 q8_64 q8_65 hp_p2.1 rfl ⟨rfl, rfl⟩ ⟨Nat.le_of_ble_eq_true rfl, Nat.le_of_ble_eq_true rfl⟩ rfl hl.1 rfl (Nat.le_of_ble_eq_true rfl) dL_law_1526 ⟨by omega, by omega⟩ (fun r w1526 H locs hM hw => ?_)
  obtain ⟨hr, hn_this, hfr⟩ := hw
  rw [hr]
  have hp_p1 := hp_p1.keep hfr (by omega)
  have hp_p3 := hfr.keep hp_p3 (by omega)
  have hp_p4 := hfr.keep hp_p4 (by omega)
  have hp_p2 := hn_this
  refine lv_istore (lv' := [(7, .int q1526.1), (6, .int q1514.1), (0, .ref b), (1, .ref b1), (2, .ref b2), (3, .ref a3), (4, .ref a4), (5, .int x5)]) hx hb dL_law_1529 hl (by decide) rfl (fun ls hl => ?_)
  refine lv_aload_n hx hb dL_law_1531 rfl (lv_at hl 4 rfl) ?_
  obtain ⟨q1532, hq1532, hf⟩ := mm_bd hf
  refine mm_Vi (rest := []) hC hM (c_X13_thrown l hq1532 hp_p2) q7_87 q1_12 ykX13_thrown q7_84 q7_85 q7_86 hp_p2.1 rfl ⟨rfl, rfl⟩ ⟨Nat.le_of_ble_eq_true rfl, Nat.le_of_ble_eq_true rfl⟩ rfl hl.1 rfl (Nat.le_of_ble_eq_true rfl) dL_law_1532 ⟨by omega, by omega⟩ (fun r w1532 H locs hM hw => ?_)
  obtain ⟨hr, hw⟩ := hw
  rw [hr]
  rw [hw] at hM
  refine lv_iload hx hb dL_law_1535 (lv_at hl 1 rfl) ?_
  refine lv_icmp_eq (tgt := 1542) hx hb dL_law_1537 (by decide) (fun hcd => ?_) (fun hcd => ?_)
  · rw [if_pos hcd] at hf
    refine lv_iload hx hb dL_law_1542 (lv_at hl 1 rfl) ?_
    refine lv_if_ne (tgt := 1559) hx hb dL_law_1544 (by decide) (fun hcd => ?_) (fun hcd => ?_)
    · rw [if_neg hcd] at hf
      refine lv_goto (tgt := 3345) hx hb dL_law_1559 (by decide) ?_
      cases hf
      exact W.widen (by omega) (by omega) (hk _ _ _ hM hp_p1 hp_p2 hp_p3 hp_p4 _ (lv_sub hl [2, 3, 4, 5, 6, 7] rfl))
    · rw [if_pos hcd] at hf
      refine lv_aload_n hx hb dL_law_1547 rfl (lv_at hl 5 rfl) ?_
      refine lv_iconst (v := 0) hx hb dL_law_1548 (by decide) ?_
      refine mm_lald0 hC hM hp_p3 dL_law_1549 ?_
      refine lv_iload hx hb dL_law_1550 (lv_at hl 0 rfl) ?_
      refine lv_i2l hx hb dL_law_1552 rfl ?_
      refine W.lcmp hx hb dL_law_1553 ?_
      refine lv_if_eq (tgt := 1559) hx hb dL_law_1554 (by decide) (fun hcd => ?_) (fun hcd => ?_)
      · rw [if_pos hcd] at hf
        refine lv_goto (tgt := 3345) hx hb dL_law_1559 (by decide) ?_
        cases hf
        exact W.widen (by omega) (by omega) (hk _ _ _ hM hp_p1 hp_p2 hp_p3 hp_p4 _ (lv_sub hl [2, 3, 4, 5, 6, 7] rfl))
      · rw [if_neg hcd] at hf
        refine lv_iconst (v := 0) hx hb dL_law_1557 (by decide) ?_
        cases hf
  · rw [if_neg hcd] at hf
    refine lv_iconst (v := 0) hx hb dL_law_1540 (by decide) ?_
    cases hf
def g_law25 (K : Nat) (p1_marsh_plans_moves : Nat → Int32) (p1_marsh_plans_lengths : Nat → Int32) (p1_spareMoves : Nat → Int32) (p2_v : Nat → Int32) (p2_scratch : Nat → Int32) (p3 : Nat → Int64) (x1 : Int32) : Option ((Nat → Int32) × Int32 × (Nat → Int32) × (Nat → Int64)) := (f_L_reducedLength K p1_marsh_plans_moves p1_marsh_plans_lengths p1_spareMoves p3 x1).bind fun q1570 => (f_X13_reducedLength K p2_v p2_scratch x1).bind fun q1582 => (f_X13_thrown q1582.2.1).bind fun q1588 => if q1588 = q1570.1 then if q1570.1 = 0 then if (lg_cmp (q1570.2.2 0) q1582.1.toInt64) = 0 then some (q1570.2.1, q1582.2.1, q1582.2.2, q1570.2.2) else none else some (q1570.2.1, q1582.2.1, q1582.2.2, q1570.2.2) else none
set_option maxHeartbeats 4000000 in
set_option maxRecDepth 100000 in
theorem g_law25_c (hC : mm_C G A p s m c code 10 args "MirrorFerryLaw") (hsX : va_X b L xs s s.heap) (hbl : b < s.heap.size) (hbA : ¬ A b) (hd1 : b1 + 152 ≤ b2) (hd2 : b2 + 13 ≤ a3) (hd3 : a3 + 1 ≤ a4) (hrc : cells + 1000 ≤ room_1.cells) (hrs : slots + 10000 ≤ room_1.slots) (hfl : l.stackTraces = false) {K : Nat} {p1_marsh_reeds_states : Nat → Int32} {p1_marsh_reeds_count : Int32} {p1_marsh_reeds_broken : Int32} {p1_marsh_fleet_numbers : Nat → Int32} {p1_marsh_fleet_cells : Nat → Int32} {p1_marsh_fleet_fares : Nat → Int32} {p1_marsh_fleet_count : Int32} {p1_marsh_fleet_nextNumber : Int32} {p1_marsh_fleet_total : Int32} {p1_marsh_fleet_removedFares : Int32} {p1_marsh_fleet_meetings : Int32} {p1_marsh_plans_moves : Nat → Int32} {p1_marsh_plans_lengths : Nat → Int32} {p1_marsh_landings_cells : Nat → Int32} {p1_marsh_landings_count : Int32} {p1_marsh_fogSide : Int32} {p1_snapshot_reeds_states : Nat → Int32} {p1_snapshot_reeds_count : Int32} {p1_snapshot_reeds_broken : Int32} {p1_snapshot_fleet_numbers : Nat → Int32} {p1_snapshot_fleet_cells : Nat → Int32} {p1_snapshot_fleet_fares : Nat → Int32} {p1_snapshot_fleet_count : Int32} {p1_snapshot_fleet_nextNumber : Int32} {p1_snapshot_fleet_total : Int32} {p1_snapshot_fleet_removedFares : Int32} {p1_snapshot_fleet_meetings : Int32} {p1_snapshot_plans_moves : Nat → Int32} {p1_snapshot_plans_lengths : Nat → Int32} {p1_snapshot_landings_cells : Nat → Int32} {p1_snapshot_landings_count : Int32} {p1_snapshot_fogSide : Int32} {p1_history_slots : Nat → mm_MV} {p1_history_free : Int32} {p1_history_count : Int32} {p1_ways_tolls : Nat → Int32} {p1_ways_queue : Nat → Int32} {p1_ways_heap : Nat → Int32} {p1_ways_heapSize : Int32} {p1_ways_found : Nat → Int32} {p1_ways_improved : Nat → Int32} {p1_pairing_costs : Nat → Int32} {p1_pairing_best : Nat → Int32} {p1_reader_kinds : Nat → Int32} {p1_reader_starts : Nat → Int32} {p1_reader_count : Int32} {p1_commandText_signs : Nat → Int32} {p1_commandText_length : Int32} {p1_line_signs : Nat → Int32} {p1_line_length : Int32} {p1_spareMoves : Nat → Int32} {p1_snapshotTaken : Int32} {p1_lastErrorPosition : Int32} {p1_lastFailedCommand : Int32} {p2_thrown : Int32} {p2_changes : Int32} {p2_errorAt : Int32} {p2_failedAt : Int32} {p2_isSaved : Int32} {p2_v : Nat → Int32} {p2_before : Nat → Int32} {p2_saved : Nat → Int32} {p2_past : Nat → Int32} {p2_far : Nat → Int32} {p2_scratch : Nat → Int32} {p2_best : Nat → Int32} {p2_thenX : Int32} {p2_thenY : Int32} {p2_thenMet : Int32} {p2_text : Nat → Int32} {p2_line : Nat → Int32} {p2_isLeft : Nat → Int32} {p2_words : Nat → Int32} {p2_wordAt : Nat → Int32} {p2_textN : Int32} {p2_hereP : Int32} {p2_endP : Int32} {p2_lineN : Int32} {p2_isWrong : Int32} {p2_isDoing : Int32} {p3 : Nat → Int64} {p4 : Nat → UInt64} {x0 x1 x2 x3 x4 x5 : Int32} {X : (Nat → Int32) × Int32 × (Nat → Int32) × (Nat → Int64)} (hf : g_law25 K p1_marsh_plans_moves p1_marsh_plans_lengths p1_spareMoves p2_v p2_scratch p3 x1 = some X) (hp_p1 : At12 G w b1 p1_marsh_reeds_states p1_marsh_reeds_count p1_marsh_reeds_broken p1_marsh_fleet_numbers p1_marsh_fleet_cells p1_marsh_fleet_fares p1_marsh_fleet_count p1_marsh_fleet_nextNumber p1_marsh_fleet_total p1_marsh_fleet_removedFares p1_marsh_fleet_meetings p1_marsh_plans_moves p1_marsh_plans_lengths p1_marsh_landings_cells p1_marsh_landings_count p1_marsh_fogSide p1_snapshot_reeds_states p1_snapshot_reeds_count p1_snapshot_reeds_broken p1_snapshot_fleet_numbers p1_snapshot_fleet_cells p1_snapshot_fleet_fares p1_snapshot_fleet_count p1_snapshot_fleet_nextNumber p1_snapshot_fleet_total p1_snapshot_fleet_removedFares p1_snapshot_fleet_meetings p1_snapshot_plans_moves p1_snapshot_plans_lengths p1_snapshot_landings_cells p1_snapshot_landings_count p1_snapshot_fogSide p1_history_slots p1_history_free p1_history_count p1_ways_tolls p1_ways_queue p1_ways_heap p1_ways_heapSize p1_ways_found p1_ways_improved p1_pairing_costs p1_pairing_best p1_reader_kinds p1_reader_starts p1_reader_count p1_commandText_signs p1_commandText_length p1_line_signs p1_line_length p1_spareMoves p1_snapshotTaken p1_lastErrorPosition p1_lastFailedCommand) (hp_p2 : At13 G w b2 p2_thrown p2_changes p2_errorAt p2_failedAt p2_isSaved p2_v p2_before p2_saved p2_past p2_far p2_scratch p2_best p2_thenX p2_thenY p2_thenMet p2_text p2_line p2_isLeft p2_words p2_wordAt p2_textN p2_hereP p2_endP p2_lineN p2_isWrong p2_isDoing) (hp_p3 : (a3, (.inl (G.2 3, 1, .inr (.inl p3)) : va_E)) ∈ w) (hp_p4 : (a4, (.inl (G.2 4, 1, .inr (.inr (.inr (.inl p4)))) : va_E)) ∈ w)
    (hsc : ∀ k : Nat, k < 5 → vp_in (x5 + Int32.ofNat k) L ∧ xs (x5 + Int32.ofNat k).toNatClampNeg = mm_x5 x0 x1 x2 x3 x4 k) (hM : mm_S G A s.heap w H locs)
    (hk : ∀ (w : va_W) (H : Heap) (locs : List Loc), mm_S G A s.heap w H locs → At12 G w b1 p1_marsh_reeds_states p1_marsh_reeds_count p1_marsh_reeds_broken p1_marsh_fleet_numbers p1_marsh_fleet_cells p1_marsh_fleet_fares p1_marsh_fleet_count p1_marsh_fleet_nextNumber p1_marsh_fleet_total p1_marsh_fleet_removedFares p1_marsh_fleet_meetings p1_marsh_plans_moves p1_marsh_plans_lengths p1_marsh_landings_cells p1_marsh_landings_count p1_marsh_fogSide p1_snapshot_reeds_states p1_snapshot_reeds_count p1_snapshot_reeds_broken p1_snapshot_fleet_numbers p1_snapshot_fleet_cells p1_snapshot_fleet_fares p1_snapshot_fleet_count p1_snapshot_fleet_nextNumber p1_snapshot_fleet_total p1_snapshot_fleet_removedFares p1_snapshot_fleet_meetings p1_snapshot_plans_moves p1_snapshot_plans_lengths p1_snapshot_landings_cells p1_snapshot_landings_count p1_snapshot_fogSide p1_history_slots p1_history_free p1_history_count p1_ways_tolls p1_ways_queue p1_ways_heap p1_ways_heapSize p1_ways_found p1_ways_improved p1_pairing_costs p1_pairing_best p1_reader_kinds p1_reader_starts p1_reader_count p1_commandText_signs p1_commandText_length p1_line_signs p1_line_length X.1 p1_snapshotTaken p1_lastErrorPosition p1_lastFailedCommand → At13 G w b2 X.2.1 p2_changes p2_errorAt p2_failedAt p2_isSaved p2_v p2_before p2_saved p2_past p2_far X.2.2.1 p2_best p2_thenX p2_thenY p2_thenMet p2_text p2_line p2_isLeft p2_words p2_wordAt p2_textN p2_hereP p2_endP p2_lineN p2_isWrong p2_isDoing → (a3, (.inl (G.2 3, 1, .inr (.inl X.2.2.2)) : va_E)) ∈ w → (a4, (.inl (G.2 4, 1, .inr (.inr (.inr (.inl p4)))) : va_E)) ∈ w → ∀ ls, lv_has ls 10 [(0, .ref b), (1, .ref b1), (2, .ref b2), (3, .ref a3), (4, .ref a4), (5, .int x5)] → W p l e room_1 s m args below meth c H locs (cells + 1000) (slots + 10000) Q (F0 m 3345 ls [])) (ls : Array Slot) (hl : lv_has ls 10 [(0, .ref b), (1, .ref b1), (2, .ref b2), (3, .ref a3), (4, .ref a4), (5, .int x5)]) : W p l e room_1 s m args below meth c H locs cells slots Q (F0 m 1562 ls []) := by
  have hx := hC.1.1
  have hb := hC.1.2.1
  rw [g_law25] at hf
  refine lv_aload_n hx hb dL_law_1562 rfl (lv_at hl 1 rfl) ?_
  refine lv_aload_n hx hb dL_law_1563 rfl (lv_at hl 0 rfl) ?_
  refine lv_iload hx hb dL_law_1564 (lv_at hl 5 rfl) ?_
  refine lv_iconst (v := 1) hx hb dL_law_1566 (by decide) ?_
  refine lv_iadd hx hb dL_law_1567 ?_
  refine mm_sld hC hM hsX hbl hbA (hsc 1 (by decide)).1 (hsc 1 (by decide)).2 dL_law_1568 ?_
  refine lv_aload_n hx hb dL_law_1569 rfl (lv_at hl 3 rfl) ?_
  obtain ⟨q1570, hq1570, hf⟩ := mm_bd hf
  refine mm_SiW (rest := []) hC hM (c_L_reducedLength l hfl hq1570 hp_p1 hp_p3 (by omega)) q5_31 q1_0 ykL_reducedLength q5_29 q5_30 ⟨rfl, rfl⟩ ⟨Nat.le_of_ble_eq_true rfl, Nat.le_of_ble_eq_true rfl⟩ rfl hl.1 rfl (Nat.le_of_ble_eq_true rfl) dL_law_1570 ⟨by omega, by omega⟩ (fun r w1570 H locs hM hw => ?_)
  obtain ⟨hr, hn_p0, hn_p2, hfr⟩ := hw
  rw [hr]
  have hp_p2 := hp_p2.keep2 hfr (by omega) (by omega)
  have hp_p4 := hfr.keep hp_p4 (by omega) (by omega)
  have hp_p1 := hn_p0
  have hp_p3 := hn_p2
  refine lv_istore (lv' := [(6, .int q1570.1), (0, .ref b), (1, .ref b1), (2, .ref b2), (3, .ref a3), (4, .ref a4), (5, .int x5)]) hx hb dL_law_1573 hl (by decide) rfl (fun ls hl => ?_)
  refine lv_aload_n hx hb dL_law_1575 rfl (lv_at hl 3 rfl) ?_
  refine lv_aload_n hx hb dL_law_1576 rfl (lv_at hl 1 rfl) ?_
  refine lv_iload hx hb dL_law_1577 (lv_at hl 6 rfl) ?_
  refine lv_iconst (v := 1) hx hb dL_law_1579 (by decide) ?_
  refine lv_iadd hx hb dL_law_1580 ?_
  refine mm_sld hC hM hsX hbl hbA (hsc 1 (by decide)).1 (hsc 1 (by decide)).2 dL_law_1581 ?_
  obtain ⟨q1582, hq1582, hf⟩ := mm_bd hf
  refine mm_Vi (rest := []) hC hM (c_X13_reducedLength l hq1582 hp_p2) q8_78 q1_12 ykX13_reducedLength q8_75 q8_76 q8_77 hp_p2.1 rfl ⟨rfl, rfl⟩ ⟨Nat.le_of_ble_eq_true rfl, Nat.le_of_ble_eq_true rfl⟩ rfl hl.1 rfl (Nat.le_of_ble_eq_true rfl) dL_law_1582 ⟨by omega, by omega⟩ (fun r w1582 H locs hM hw => ?_)
  obtain ⟨hr, hn_this, hfr⟩ := hw
  rw [hr]
  have hp_p1 := hp_p1.keep hfr (by omega)
  have hp_p3 := hfr.keep hp_p3 (by omega)
  have hp_p4 := hfr.keep hp_p4 (by omega)
  have hp_p2 := hn_this
  refine lv_istore (lv' := [(7, .int q1582.1), (6, .int q1570.1), (0, .ref b), (1, .ref b1), (2, .ref b2), (3, .ref a3), (4, .ref a4), (5, .int x5)]) hx hb dL_law_1585 hl (by decide) rfl (fun ls hl => ?_)
  refine lv_aload_n hx hb dL_law_1587 rfl (lv_at hl 4 rfl) ?_
  obtain ⟨q1588, hq1588, hf⟩ := mm_bd hf
  refine mm_Vi (rest := []) hC hM (c_X13_thrown l hq1588 hp_p2) q7_87 q1_12 ykX13_thrown q7_84 q7_85 q7_86 hp_p2.1 rfl ⟨rfl, rfl⟩ ⟨Nat.le_of_ble_eq_true rfl, Nat.le_of_ble_eq_true rfl⟩ rfl hl.1 rfl (Nat.le_of_ble_eq_true rfl) dL_law_1588 ⟨by omega, by omega⟩ (fun r w1588 H locs hM hw => ?_)
  obtain ⟨hr, hw⟩ := hw
  rw [hr]
  rw [hw] at hM
  refine lv_iload hx hb dL_law_1591 (lv_at hl 1 rfl) ?_
  refine lv_icmp_eq (tgt := 1598) hx hb dL_law_1593 (by decide) (fun hcd => ?_) (fun hcd => ?_)
  · rw [if_pos hcd] at hf
    refine lv_iload hx hb dL_law_1598 (lv_at hl 1 rfl) ?_
    refine lv_if_ne (tgt := 1615) hx hb dL_law_1600 (by decide) (fun hcd => ?_) (fun hcd => ?_)
    · rw [if_neg hcd] at hf
      refine lv_goto (tgt := 3345) hx hb dL_law_1615 (by decide) ?_
      cases hf
      exact W.widen (by omega) (by omega) (hk _ _ _ hM hp_p1 hp_p2 hp_p3 hp_p4 _ (lv_sub hl [2, 3, 4, 5, 6, 7] rfl))
    · rw [if_pos hcd] at hf
      refine lv_aload_n hx hb dL_law_1603 rfl (lv_at hl 5 rfl) ?_
      refine lv_iconst (v := 0) hx hb dL_law_1604 (by decide) ?_
      refine mm_lald0 hC hM hp_p3 dL_law_1605 ?_
      refine lv_iload hx hb dL_law_1606 (lv_at hl 0 rfl) ?_
      refine lv_i2l hx hb dL_law_1608 rfl ?_
      refine W.lcmp hx hb dL_law_1609 ?_
      refine lv_if_eq (tgt := 1615) hx hb dL_law_1610 (by decide) (fun hcd => ?_) (fun hcd => ?_)
      · rw [if_pos hcd] at hf
        refine lv_goto (tgt := 3345) hx hb dL_law_1615 (by decide) ?_
        cases hf
        exact W.widen (by omega) (by omega) (hk _ _ _ hM hp_p1 hp_p2 hp_p3 hp_p4 _ (lv_sub hl [2, 3, 4, 5, 6, 7] rfl))
      · rw [if_neg hcd] at hf
        refine lv_iconst (v := 0) hx hb dL_law_1613 (by decide) ?_
        cases hf
  · rw [if_neg hcd] at hf
    refine lv_iconst (v := 0) hx hb dL_law_1596 (by decide) ?_
    cases hf
def g_law26 (p1_marsh_plans_lengths : Nat → Int32) (p2_v : Nat → Int32) (p3 : Nat → Int64) (x1 : Int32) : Option (Int32 × (Nat → Int64)) := (f_L_planLength p1_marsh_plans_lengths p3 x1).bind fun q1626 => (f_X13_planLength p2_v x1).bind fun q1638 => (f_X13_thrown q1638.2).bind fun q1644 => if q1644 = q1626.1 then if q1626.1 = 0 then if (lg_cmp (q1626.2 0) q1638.1.toInt64) = 0 then some (q1638.2, q1626.2) else none else some (q1638.2, q1626.2) else none
set_option maxHeartbeats 4000000 in
set_option maxRecDepth 100000 in
theorem g_law26_c (hC : mm_C G A p s m c code 10 args "MirrorFerryLaw") (hsX : va_X b L xs s s.heap) (hbl : b < s.heap.size) (hbA : ¬ A b) (hd1 : b1 + 152 ≤ b2) (hd2 : b2 + 13 ≤ a3) (hd3 : a3 + 1 ≤ a4) (hrc : cells + 1000 ≤ room_1.cells) (hrs : slots + 10000 ≤ room_1.slots) (hfl : l.stackTraces = false) {p1_marsh_reeds_states : Nat → Int32} {p1_marsh_reeds_count : Int32} {p1_marsh_reeds_broken : Int32} {p1_marsh_fleet_numbers : Nat → Int32} {p1_marsh_fleet_cells : Nat → Int32} {p1_marsh_fleet_fares : Nat → Int32} {p1_marsh_fleet_count : Int32} {p1_marsh_fleet_nextNumber : Int32} {p1_marsh_fleet_total : Int32} {p1_marsh_fleet_removedFares : Int32} {p1_marsh_fleet_meetings : Int32} {p1_marsh_plans_moves : Nat → Int32} {p1_marsh_plans_lengths : Nat → Int32} {p1_marsh_landings_cells : Nat → Int32} {p1_marsh_landings_count : Int32} {p1_marsh_fogSide : Int32} {p1_snapshot_reeds_states : Nat → Int32} {p1_snapshot_reeds_count : Int32} {p1_snapshot_reeds_broken : Int32} {p1_snapshot_fleet_numbers : Nat → Int32} {p1_snapshot_fleet_cells : Nat → Int32} {p1_snapshot_fleet_fares : Nat → Int32} {p1_snapshot_fleet_count : Int32} {p1_snapshot_fleet_nextNumber : Int32} {p1_snapshot_fleet_total : Int32} {p1_snapshot_fleet_removedFares : Int32} {p1_snapshot_fleet_meetings : Int32} {p1_snapshot_plans_moves : Nat → Int32} {p1_snapshot_plans_lengths : Nat → Int32} {p1_snapshot_landings_cells : Nat → Int32} {p1_snapshot_landings_count : Int32} {p1_snapshot_fogSide : Int32} {p1_history_slots : Nat → mm_MV} {p1_history_free : Int32} {p1_history_count : Int32} {p1_ways_tolls : Nat → Int32} {p1_ways_queue : Nat → Int32} {p1_ways_heap : Nat → Int32} {p1_ways_heapSize : Int32} {p1_ways_found : Nat → Int32} {p1_ways_improved : Nat → Int32} {p1_pairing_costs : Nat → Int32} {p1_pairing_best : Nat → Int32} {p1_reader_kinds : Nat → Int32} {p1_reader_starts : Nat → Int32} {p1_reader_count : Int32} {p1_commandText_signs : Nat → Int32} {p1_commandText_length : Int32} {p1_line_signs : Nat → Int32} {p1_line_length : Int32} {p1_spareMoves : Nat → Int32} {p1_snapshotTaken : Int32} {p1_lastErrorPosition : Int32} {p1_lastFailedCommand : Int32} {p2_thrown : Int32} {p2_changes : Int32} {p2_errorAt : Int32} {p2_failedAt : Int32} {p2_isSaved : Int32} {p2_v : Nat → Int32} {p2_before : Nat → Int32} {p2_saved : Nat → Int32} {p2_past : Nat → Int32} {p2_far : Nat → Int32} {p2_scratch : Nat → Int32} {p2_best : Nat → Int32} {p2_thenX : Int32} {p2_thenY : Int32} {p2_thenMet : Int32} {p2_text : Nat → Int32} {p2_line : Nat → Int32} {p2_isLeft : Nat → Int32} {p2_words : Nat → Int32} {p2_wordAt : Nat → Int32} {p2_textN : Int32} {p2_hereP : Int32} {p2_endP : Int32} {p2_lineN : Int32} {p2_isWrong : Int32} {p2_isDoing : Int32} {p3 : Nat → Int64} {p4 : Nat → UInt64} {x0 x1 x2 x3 x4 x5 : Int32} {X : Int32 × (Nat → Int64)} (hf : g_law26 p1_marsh_plans_lengths p2_v p3 x1 = some X) (hp_p1 : At12 G w b1 p1_marsh_reeds_states p1_marsh_reeds_count p1_marsh_reeds_broken p1_marsh_fleet_numbers p1_marsh_fleet_cells p1_marsh_fleet_fares p1_marsh_fleet_count p1_marsh_fleet_nextNumber p1_marsh_fleet_total p1_marsh_fleet_removedFares p1_marsh_fleet_meetings p1_marsh_plans_moves p1_marsh_plans_lengths p1_marsh_landings_cells p1_marsh_landings_count p1_marsh_fogSide p1_snapshot_reeds_states p1_snapshot_reeds_count p1_snapshot_reeds_broken p1_snapshot_fleet_numbers p1_snapshot_fleet_cells p1_snapshot_fleet_fares p1_snapshot_fleet_count p1_snapshot_fleet_nextNumber p1_snapshot_fleet_total p1_snapshot_fleet_removedFares p1_snapshot_fleet_meetings p1_snapshot_plans_moves p1_snapshot_plans_lengths p1_snapshot_landings_cells p1_snapshot_landings_count p1_snapshot_fogSide p1_history_slots p1_history_free p1_history_count p1_ways_tolls p1_ways_queue p1_ways_heap p1_ways_heapSize p1_ways_found p1_ways_improved p1_pairing_costs p1_pairing_best p1_reader_kinds p1_reader_starts p1_reader_count p1_commandText_signs p1_commandText_length p1_line_signs p1_line_length p1_spareMoves p1_snapshotTaken p1_lastErrorPosition p1_lastFailedCommand) (hp_p2 : At13 G w b2 p2_thrown p2_changes p2_errorAt p2_failedAt p2_isSaved p2_v p2_before p2_saved p2_past p2_far p2_scratch p2_best p2_thenX p2_thenY p2_thenMet p2_text p2_line p2_isLeft p2_words p2_wordAt p2_textN p2_hereP p2_endP p2_lineN p2_isWrong p2_isDoing) (hp_p3 : (a3, (.inl (G.2 3, 1, .inr (.inl p3)) : va_E)) ∈ w) (hp_p4 : (a4, (.inl (G.2 4, 1, .inr (.inr (.inr (.inl p4)))) : va_E)) ∈ w)
    (hsc : ∀ k : Nat, k < 5 → vp_in (x5 + Int32.ofNat k) L ∧ xs (x5 + Int32.ofNat k).toNatClampNeg = mm_x5 x0 x1 x2 x3 x4 k) (hM : mm_S G A s.heap w H locs)
    (hk : ∀ (w : va_W) (H : Heap) (locs : List Loc), mm_S G A s.heap w H locs → At12 G w b1 p1_marsh_reeds_states p1_marsh_reeds_count p1_marsh_reeds_broken p1_marsh_fleet_numbers p1_marsh_fleet_cells p1_marsh_fleet_fares p1_marsh_fleet_count p1_marsh_fleet_nextNumber p1_marsh_fleet_total p1_marsh_fleet_removedFares p1_marsh_fleet_meetings p1_marsh_plans_moves p1_marsh_plans_lengths p1_marsh_landings_cells p1_marsh_landings_count p1_marsh_fogSide p1_snapshot_reeds_states p1_snapshot_reeds_count p1_snapshot_reeds_broken p1_snapshot_fleet_numbers p1_snapshot_fleet_cells p1_snapshot_fleet_fares p1_snapshot_fleet_count p1_snapshot_fleet_nextNumber p1_snapshot_fleet_total p1_snapshot_fleet_removedFares p1_snapshot_fleet_meetings p1_snapshot_plans_moves p1_snapshot_plans_lengths p1_snapshot_landings_cells p1_snapshot_landings_count p1_snapshot_fogSide p1_history_slots p1_history_free p1_history_count p1_ways_tolls p1_ways_queue p1_ways_heap p1_ways_heapSize p1_ways_found p1_ways_improved p1_pairing_costs p1_pairing_best p1_reader_kinds p1_reader_starts p1_reader_count p1_commandText_signs p1_commandText_length p1_line_signs p1_line_length p1_spareMoves p1_snapshotTaken p1_lastErrorPosition p1_lastFailedCommand → At13 G w b2 X.1 p2_changes p2_errorAt p2_failedAt p2_isSaved p2_v p2_before p2_saved p2_past p2_far p2_scratch p2_best p2_thenX p2_thenY p2_thenMet p2_text p2_line p2_isLeft p2_words p2_wordAt p2_textN p2_hereP p2_endP p2_lineN p2_isWrong p2_isDoing → (a3, (.inl (G.2 3, 1, .inr (.inl X.2)) : va_E)) ∈ w → (a4, (.inl (G.2 4, 1, .inr (.inr (.inr (.inl p4)))) : va_E)) ∈ w → ∀ ls, lv_has ls 10 [(0, .ref b), (1, .ref b1), (2, .ref b2), (3, .ref a3), (4, .ref a4), (5, .int x5)] → W p l e room_1 s m args below meth c H locs (cells + 1000) (slots + 10000) Q (F0 m 3345 ls [])) (ls : Array Slot) (hl : lv_has ls 10 [(0, .ref b), (1, .ref b1), (2, .ref b2), (3, .ref a3), (4, .ref a4), (5, .int x5)]) : W p l e room_1 s m args below meth c H locs cells slots Q (F0 m 1618 ls []) := by
  have hx := hC.1.1
  have hb := hC.1.2.1
  rw [g_law26] at hf
  refine lv_aload_n hx hb dL_law_1618 rfl (lv_at hl 1 rfl) ?_
  refine lv_aload_n hx hb dL_law_1619 rfl (lv_at hl 0 rfl) ?_
  refine lv_iload hx hb dL_law_1620 (lv_at hl 5 rfl) ?_
  refine lv_iconst (v := 1) hx hb dL_law_1622 (by decide) ?_
  refine lv_iadd hx hb dL_law_1623 ?_
  refine mm_sld hC hM hsX hbl hbA (hsc 1 (by decide)).1 (hsc 1 (by decide)).2 dL_law_1624 ?_
  refine lv_aload_n hx hb dL_law_1625 rfl (lv_at hl 3 rfl) ?_
  obtain ⟨q1626, hq1626, hf⟩ := mm_bd hf
  refine mm_SiW (rest := []) hC hM (c_L_planLength l hfl hq1626 hp_p1 hp_p3 (by omega)) q5_42 q1_0 ykL_planLength q5_40 q5_41 ⟨rfl, rfl⟩ ⟨Nat.le_of_ble_eq_true rfl, Nat.le_of_ble_eq_true rfl⟩ rfl hl.1 rfl (Nat.le_of_ble_eq_true rfl) dL_law_1626 ⟨by omega, by omega⟩ (fun r w1626 H locs hM hw => ?_)
  obtain ⟨hr, hn_p2, hfr⟩ := hw
  rw [hr]
  have hp_p1 := hp_p1.keep hfr (by omega)
  have hp_p2 := hp_p2.keep hfr (by omega)
  have hp_p4 := hfr.keep hp_p4 (by omega)
  have hp_p3 := hn_p2
  refine lv_istore (lv' := [(6, .int q1626.1), (0, .ref b), (1, .ref b1), (2, .ref b2), (3, .ref a3), (4, .ref a4), (5, .int x5)]) hx hb dL_law_1629 hl (by decide) rfl (fun ls hl => ?_)
  refine lv_aload_n hx hb dL_law_1631 rfl (lv_at hl 3 rfl) ?_
  refine lv_aload_n hx hb dL_law_1632 rfl (lv_at hl 1 rfl) ?_
  refine lv_iload hx hb dL_law_1633 (lv_at hl 6 rfl) ?_
  refine lv_iconst (v := 1) hx hb dL_law_1635 (by decide) ?_
  refine lv_iadd hx hb dL_law_1636 ?_
  refine mm_sld hC hM hsX hbl hbA (hsc 1 (by decide)).1 (hsc 1 (by decide)).2 dL_law_1637 ?_
  obtain ⟨q1638, hq1638, hf⟩ := mm_bd hf
  refine mm_Vi (rest := []) hC hM (c_X13_planLength l hq1638 hp_p2) q8_82 q1_12 ykX13_planLength q8_79 q8_80 q8_81 hp_p2.1 rfl ⟨rfl, rfl⟩ ⟨Nat.le_of_ble_eq_true rfl, Nat.le_of_ble_eq_true rfl⟩ rfl hl.1 rfl (Nat.le_of_ble_eq_true rfl) dL_law_1638 ⟨by omega, by omega⟩ (fun r w1638 H locs hM hw => ?_)
  obtain ⟨hr, hn_this, hfr⟩ := hw
  rw [hr]
  have hp_p1 := hp_p1.keep hfr (by omega)
  have hp_p3 := hfr.keep hp_p3 (by omega)
  have hp_p4 := hfr.keep hp_p4 (by omega)
  have hp_p2 := hn_this
  refine lv_istore (lv' := [(7, .int q1638.1), (6, .int q1626.1), (0, .ref b), (1, .ref b1), (2, .ref b2), (3, .ref a3), (4, .ref a4), (5, .int x5)]) hx hb dL_law_1641 hl (by decide) rfl (fun ls hl => ?_)
  refine lv_aload_n hx hb dL_law_1643 rfl (lv_at hl 4 rfl) ?_
  obtain ⟨q1644, hq1644, hf⟩ := mm_bd hf
  refine mm_Vi (rest := []) hC hM (c_X13_thrown l hq1644 hp_p2) q7_87 q1_12 ykX13_thrown q7_84 q7_85 q7_86 hp_p2.1 rfl ⟨rfl, rfl⟩ ⟨Nat.le_of_ble_eq_true rfl, Nat.le_of_ble_eq_true rfl⟩ rfl hl.1 rfl (Nat.le_of_ble_eq_true rfl) dL_law_1644 ⟨by omega, by omega⟩ (fun r w1644 H locs hM hw => ?_)
  obtain ⟨hr, hw⟩ := hw
  rw [hr]
  rw [hw] at hM
  refine lv_iload hx hb dL_law_1647 (lv_at hl 1 rfl) ?_
  refine lv_icmp_eq (tgt := 1654) hx hb dL_law_1649 (by decide) (fun hcd => ?_) (fun hcd => ?_)
  · rw [if_pos hcd] at hf
    refine lv_iload hx hb dL_law_1654 (lv_at hl 1 rfl) ?_
    refine lv_if_ne (tgt := 1671) hx hb dL_law_1656 (by decide) (fun hcd => ?_) (fun hcd => ?_)
    · rw [if_neg hcd] at hf
      refine lv_goto (tgt := 3345) hx hb dL_law_1671 (by decide) ?_
      cases hf
      exact W.widen (by omega) (by omega) (hk _ _ _ hM hp_p1 hp_p2 hp_p3 hp_p4 _ (lv_sub hl [2, 3, 4, 5, 6, 7] rfl))
    · rw [if_pos hcd] at hf
      refine lv_aload_n hx hb dL_law_1659 rfl (lv_at hl 5 rfl) ?_
      refine lv_iconst (v := 0) hx hb dL_law_1660 (by decide) ?_
      refine mm_lald0 hC hM hp_p3 dL_law_1661 ?_
      refine lv_iload hx hb dL_law_1662 (lv_at hl 0 rfl) ?_
      refine lv_i2l hx hb dL_law_1664 rfl ?_
      refine W.lcmp hx hb dL_law_1665 ?_
      refine lv_if_eq (tgt := 1671) hx hb dL_law_1666 (by decide) (fun hcd => ?_) (fun hcd => ?_)
      · rw [if_pos hcd] at hf
        refine lv_goto (tgt := 3345) hx hb dL_law_1671 (by decide) ?_
        cases hf
        exact W.widen (by omega) (by omega) (hk _ _ _ hM hp_p1 hp_p2 hp_p3 hp_p4 _ (lv_sub hl [2, 3, 4, 5, 6, 7] rfl))
      · rw [if_neg hcd] at hf
        refine lv_iconst (v := 0) hx hb dL_law_1669 (by decide) ?_
        cases hf
  · rw [if_neg hcd] at hf
    refine lv_iconst (v := 0) hx hb dL_law_1652 (by decide) ?_
    cases hf
def g_law27 (p1_marsh_plans_moves : Nat → Int32) (p1_marsh_plans_lengths : Nat → Int32) (p2_v : Nat → Int32) (p3 : Nat → Int64) (x1 : Int32) (x2 : Int32) : Option (Int32 × (Nat → Int64)) := (f_L_moveAt p1_marsh_plans_moves p1_marsh_plans_lengths p3 x1 x2).bind fun q1688 => (f_X13_moveAt p2_v x1 x2).bind fun q1706 => (f_X13_thrown q1706.2).bind fun q1712 => if q1712 = q1688.1 then if q1688.1 = 0 then if (lg_cmp (q1688.2 0) q1706.1.toInt64) = 0 then some (q1706.2, q1688.2) else none else some (q1706.2, q1688.2) else none
set_option maxHeartbeats 4000000 in
set_option maxRecDepth 100000 in
theorem g_law27_c (hC : mm_C G A p s m c code 10 args "MirrorFerryLaw") (hsX : va_X b L xs s s.heap) (hbl : b < s.heap.size) (hbA : ¬ A b) (hd1 : b1 + 152 ≤ b2) (hd2 : b2 + 13 ≤ a3) (hd3 : a3 + 1 ≤ a4) (hrc : cells + 1000 ≤ room_1.cells) (hrs : slots + 10000 ≤ room_1.slots) (hfl : l.stackTraces = false) {p1_marsh_reeds_states : Nat → Int32} {p1_marsh_reeds_count : Int32} {p1_marsh_reeds_broken : Int32} {p1_marsh_fleet_numbers : Nat → Int32} {p1_marsh_fleet_cells : Nat → Int32} {p1_marsh_fleet_fares : Nat → Int32} {p1_marsh_fleet_count : Int32} {p1_marsh_fleet_nextNumber : Int32} {p1_marsh_fleet_total : Int32} {p1_marsh_fleet_removedFares : Int32} {p1_marsh_fleet_meetings : Int32} {p1_marsh_plans_moves : Nat → Int32} {p1_marsh_plans_lengths : Nat → Int32} {p1_marsh_landings_cells : Nat → Int32} {p1_marsh_landings_count : Int32} {p1_marsh_fogSide : Int32} {p1_snapshot_reeds_states : Nat → Int32} {p1_snapshot_reeds_count : Int32} {p1_snapshot_reeds_broken : Int32} {p1_snapshot_fleet_numbers : Nat → Int32} {p1_snapshot_fleet_cells : Nat → Int32} {p1_snapshot_fleet_fares : Nat → Int32} {p1_snapshot_fleet_count : Int32} {p1_snapshot_fleet_nextNumber : Int32} {p1_snapshot_fleet_total : Int32} {p1_snapshot_fleet_removedFares : Int32} {p1_snapshot_fleet_meetings : Int32} {p1_snapshot_plans_moves : Nat → Int32} {p1_snapshot_plans_lengths : Nat → Int32} {p1_snapshot_landings_cells : Nat → Int32} {p1_snapshot_landings_count : Int32} {p1_snapshot_fogSide : Int32} {p1_history_slots : Nat → mm_MV} {p1_history_free : Int32} {p1_history_count : Int32} {p1_ways_tolls : Nat → Int32} {p1_ways_queue : Nat → Int32} {p1_ways_heap : Nat → Int32} {p1_ways_heapSize : Int32} {p1_ways_found : Nat → Int32} {p1_ways_improved : Nat → Int32} {p1_pairing_costs : Nat → Int32} {p1_pairing_best : Nat → Int32} {p1_reader_kinds : Nat → Int32} {p1_reader_starts : Nat → Int32} {p1_reader_count : Int32} {p1_commandText_signs : Nat → Int32} {p1_commandText_length : Int32} {p1_line_signs : Nat → Int32} {p1_line_length : Int32} {p1_spareMoves : Nat → Int32} {p1_snapshotTaken : Int32} {p1_lastErrorPosition : Int32} {p1_lastFailedCommand : Int32} {p2_thrown : Int32} {p2_changes : Int32} {p2_errorAt : Int32} {p2_failedAt : Int32} {p2_isSaved : Int32} {p2_v : Nat → Int32} {p2_before : Nat → Int32} {p2_saved : Nat → Int32} {p2_past : Nat → Int32} {p2_far : Nat → Int32} {p2_scratch : Nat → Int32} {p2_best : Nat → Int32} {p2_thenX : Int32} {p2_thenY : Int32} {p2_thenMet : Int32} {p2_text : Nat → Int32} {p2_line : Nat → Int32} {p2_isLeft : Nat → Int32} {p2_words : Nat → Int32} {p2_wordAt : Nat → Int32} {p2_textN : Int32} {p2_hereP : Int32} {p2_endP : Int32} {p2_lineN : Int32} {p2_isWrong : Int32} {p2_isDoing : Int32} {p3 : Nat → Int64} {p4 : Nat → UInt64} {x0 x1 x2 x3 x4 x5 : Int32} {X : Int32 × (Nat → Int64)} (hf : g_law27 p1_marsh_plans_moves p1_marsh_plans_lengths p2_v p3 x1 x2 = some X) (hp_p1 : At12 G w b1 p1_marsh_reeds_states p1_marsh_reeds_count p1_marsh_reeds_broken p1_marsh_fleet_numbers p1_marsh_fleet_cells p1_marsh_fleet_fares p1_marsh_fleet_count p1_marsh_fleet_nextNumber p1_marsh_fleet_total p1_marsh_fleet_removedFares p1_marsh_fleet_meetings p1_marsh_plans_moves p1_marsh_plans_lengths p1_marsh_landings_cells p1_marsh_landings_count p1_marsh_fogSide p1_snapshot_reeds_states p1_snapshot_reeds_count p1_snapshot_reeds_broken p1_snapshot_fleet_numbers p1_snapshot_fleet_cells p1_snapshot_fleet_fares p1_snapshot_fleet_count p1_snapshot_fleet_nextNumber p1_snapshot_fleet_total p1_snapshot_fleet_removedFares p1_snapshot_fleet_meetings p1_snapshot_plans_moves p1_snapshot_plans_lengths p1_snapshot_landings_cells p1_snapshot_landings_count p1_snapshot_fogSide p1_history_slots p1_history_free p1_history_count p1_ways_tolls p1_ways_queue p1_ways_heap p1_ways_heapSize p1_ways_found p1_ways_improved p1_pairing_costs p1_pairing_best p1_reader_kinds p1_reader_starts p1_reader_count p1_commandText_signs p1_commandText_length p1_line_signs p1_line_length p1_spareMoves p1_snapshotTaken p1_lastErrorPosition p1_lastFailedCommand) (hp_p2 : At13 G w b2 p2_thrown p2_changes p2_errorAt p2_failedAt p2_isSaved p2_v p2_before p2_saved p2_past p2_far p2_scratch p2_best p2_thenX p2_thenY p2_thenMet p2_text p2_line p2_isLeft p2_words p2_wordAt p2_textN p2_hereP p2_endP p2_lineN p2_isWrong p2_isDoing) (hp_p3 : (a3, (.inl (G.2 3, 1, .inr (.inl p3)) : va_E)) ∈ w) (hp_p4 : (a4, (.inl (G.2 4, 1, .inr (.inr (.inr (.inl p4)))) : va_E)) ∈ w)
    (hsc : ∀ k : Nat, k < 5 → vp_in (x5 + Int32.ofNat k) L ∧ xs (x5 + Int32.ofNat k).toNatClampNeg = mm_x5 x0 x1 x2 x3 x4 k) (hM : mm_S G A s.heap w H locs)
    (hk : ∀ (w : va_W) (H : Heap) (locs : List Loc), mm_S G A s.heap w H locs → At12 G w b1 p1_marsh_reeds_states p1_marsh_reeds_count p1_marsh_reeds_broken p1_marsh_fleet_numbers p1_marsh_fleet_cells p1_marsh_fleet_fares p1_marsh_fleet_count p1_marsh_fleet_nextNumber p1_marsh_fleet_total p1_marsh_fleet_removedFares p1_marsh_fleet_meetings p1_marsh_plans_moves p1_marsh_plans_lengths p1_marsh_landings_cells p1_marsh_landings_count p1_marsh_fogSide p1_snapshot_reeds_states p1_snapshot_reeds_count p1_snapshot_reeds_broken p1_snapshot_fleet_numbers p1_snapshot_fleet_cells p1_snapshot_fleet_fares p1_snapshot_fleet_count p1_snapshot_fleet_nextNumber p1_snapshot_fleet_total p1_snapshot_fleet_removedFares p1_snapshot_fleet_meetings p1_snapshot_plans_moves p1_snapshot_plans_lengths p1_snapshot_landings_cells p1_snapshot_landings_count p1_snapshot_fogSide p1_history_slots p1_history_free p1_history_count p1_ways_tolls p1_ways_queue p1_ways_heap p1_ways_heapSize p1_ways_found p1_ways_improved p1_pairing_costs p1_pairing_best p1_reader_kinds p1_reader_starts p1_reader_count p1_commandText_signs p1_commandText_length p1_line_signs p1_line_length p1_spareMoves p1_snapshotTaken p1_lastErrorPosition p1_lastFailedCommand → At13 G w b2 X.1 p2_changes p2_errorAt p2_failedAt p2_isSaved p2_v p2_before p2_saved p2_past p2_far p2_scratch p2_best p2_thenX p2_thenY p2_thenMet p2_text p2_line p2_isLeft p2_words p2_wordAt p2_textN p2_hereP p2_endP p2_lineN p2_isWrong p2_isDoing → (a3, (.inl (G.2 3, 1, .inr (.inl X.2)) : va_E)) ∈ w → (a4, (.inl (G.2 4, 1, .inr (.inr (.inr (.inl p4)))) : va_E)) ∈ w → ∀ ls, lv_has ls 10 [(0, .ref b), (1, .ref b1), (2, .ref b2), (3, .ref a3), (4, .ref a4), (5, .int x5)] → W p l e room_1 s m args below meth c H locs (cells + 1000) (slots + 10000) Q (F0 m 3345 ls [])) (ls : Array Slot) (hl : lv_has ls 10 [(0, .ref b), (1, .ref b1), (2, .ref b2), (3, .ref a3), (4, .ref a4), (5, .int x5)]) : W p l e room_1 s m args below meth c H locs cells slots Q (F0 m 1674 ls []) := by
  have hx := hC.1.1
  have hb := hC.1.2.1
  rw [g_law27] at hf
  refine lv_aload_n hx hb dL_law_1674 rfl (lv_at hl 1 rfl) ?_
  refine lv_aload_n hx hb dL_law_1675 rfl (lv_at hl 0 rfl) ?_
  refine lv_iload hx hb dL_law_1676 (lv_at hl 5 rfl) ?_
  refine lv_iconst (v := 1) hx hb dL_law_1678 (by decide) ?_
  refine lv_iadd hx hb dL_law_1679 ?_
  refine mm_sld hC hM hsX hbl hbA (hsc 1 (by decide)).1 (hsc 1 (by decide)).2 dL_law_1680 ?_
  refine lv_aload_n hx hb dL_law_1681 rfl (lv_at hl 0 rfl) ?_
  refine lv_iload hx hb dL_law_1682 (lv_at hl 5 rfl) ?_
  refine lv_iconst (v := 2) hx hb dL_law_1684 (by decide) ?_
  refine lv_iadd hx hb dL_law_1685 ?_
  refine mm_sld hC hM hsX hbl hbA (hsc 2 (by decide)).1 (hsc 2 (by decide)).2 dL_law_1686 ?_
  refine lv_aload_n hx hb dL_law_1687 rfl (lv_at hl 3 rfl) ?_
  obtain ⟨q1688, hq1688, hf⟩ := mm_bd hf
  refine mm_SiW (rest := []) hC hM (c_L_moveAt l hfl hq1688 hp_p1 hp_p3 (by omega)) q5_49 q1_0 ykL_moveAt q5_47 q5_48 ⟨rfl, rfl⟩ ⟨Nat.le_of_ble_eq_true rfl, Nat.le_of_ble_eq_true rfl⟩ rfl hl.1 rfl (Nat.le_of_ble_eq_true rfl) dL_law_1688 ⟨by omega, by omega⟩ (fun r w1688 H locs hM hw => ?_)
  obtain ⟨hr, hn_p3, hfr⟩ := hw
  rw [hr]
  have hp_p1 := hp_p1.keep hfr (by omega)
  have hp_p2 := hp_p2.keep hfr (by omega)
  have hp_p4 := hfr.keep hp_p4 (by omega)
  have hp_p3 := hn_p3
  refine lv_istore (lv' := [(6, .int q1688.1), (0, .ref b), (1, .ref b1), (2, .ref b2), (3, .ref a3), (4, .ref a4), (5, .int x5)]) hx hb dL_law_1691 hl (by decide) rfl (fun ls hl => ?_)
  refine lv_aload_n hx hb dL_law_1693 rfl (lv_at hl 3 rfl) ?_
  refine lv_aload_n hx hb dL_law_1694 rfl (lv_at hl 1 rfl) ?_
  refine lv_iload hx hb dL_law_1695 (lv_at hl 6 rfl) ?_
  refine lv_iconst (v := 1) hx hb dL_law_1697 (by decide) ?_
  refine lv_iadd hx hb dL_law_1698 ?_
  refine mm_sld hC hM hsX hbl hbA (hsc 1 (by decide)).1 (hsc 1 (by decide)).2 dL_law_1699 ?_
  refine lv_aload_n hx hb dL_law_1700 rfl (lv_at hl 1 rfl) ?_
  refine lv_iload hx hb dL_law_1701 (lv_at hl 6 rfl) ?_
  refine lv_iconst (v := 2) hx hb dL_law_1703 (by decide) ?_
  refine lv_iadd hx hb dL_law_1704 ?_
  refine mm_sld hC hM hsX hbl hbA (hsc 2 (by decide)).1 (hsc 2 (by decide)).2 dL_law_1705 ?_
  obtain ⟨q1706, hq1706, hf⟩ := mm_bd hf
  refine mm_Vi (rest := []) hC hM (c_X13_moveAt l hq1706 hp_p2) q8_86 q1_12 ykX13_moveAt q8_83 q8_84 q8_85 hp_p2.1 rfl ⟨rfl, rfl⟩ ⟨Nat.le_of_ble_eq_true rfl, Nat.le_of_ble_eq_true rfl⟩ rfl hl.1 rfl (Nat.le_of_ble_eq_true rfl) dL_law_1706 ⟨by omega, by omega⟩ (fun r w1706 H locs hM hw => ?_)
  obtain ⟨hr, hn_this, hfr⟩ := hw
  rw [hr]
  have hp_p1 := hp_p1.keep hfr (by omega)
  have hp_p3 := hfr.keep hp_p3 (by omega)
  have hp_p4 := hfr.keep hp_p4 (by omega)
  have hp_p2 := hn_this
  refine lv_istore (lv' := [(7, .int q1706.1), (6, .int q1688.1), (0, .ref b), (1, .ref b1), (2, .ref b2), (3, .ref a3), (4, .ref a4), (5, .int x5)]) hx hb dL_law_1709 hl (by decide) rfl (fun ls hl => ?_)
  refine lv_aload_n hx hb dL_law_1711 rfl (lv_at hl 4 rfl) ?_
  obtain ⟨q1712, hq1712, hf⟩ := mm_bd hf
  refine mm_Vi (rest := []) hC hM (c_X13_thrown l hq1712 hp_p2) q7_87 q1_12 ykX13_thrown q7_84 q7_85 q7_86 hp_p2.1 rfl ⟨rfl, rfl⟩ ⟨Nat.le_of_ble_eq_true rfl, Nat.le_of_ble_eq_true rfl⟩ rfl hl.1 rfl (Nat.le_of_ble_eq_true rfl) dL_law_1712 ⟨by omega, by omega⟩ (fun r w1712 H locs hM hw => ?_)
  obtain ⟨hr, hw⟩ := hw
  rw [hr]
  rw [hw] at hM
  refine lv_iload hx hb dL_law_1715 (lv_at hl 1 rfl) ?_
  refine lv_icmp_eq (tgt := 1722) hx hb dL_law_1717 (by decide) (fun hcd => ?_) (fun hcd => ?_)
  · rw [if_pos hcd] at hf
    refine lv_iload hx hb dL_law_1722 (lv_at hl 1 rfl) ?_
    refine lv_if_ne (tgt := 1739) hx hb dL_law_1724 (by decide) (fun hcd => ?_) (fun hcd => ?_)
    · rw [if_neg hcd] at hf
      refine lv_goto (tgt := 3345) hx hb dL_law_1739 (by decide) ?_
      cases hf
      exact W.widen (by omega) (by omega) (hk _ _ _ hM hp_p1 hp_p2 hp_p3 hp_p4 _ (lv_sub hl [2, 3, 4, 5, 6, 7] rfl))
    · rw [if_pos hcd] at hf
      refine lv_aload_n hx hb dL_law_1727 rfl (lv_at hl 5 rfl) ?_
      refine lv_iconst (v := 0) hx hb dL_law_1728 (by decide) ?_
      refine mm_lald0 hC hM hp_p3 dL_law_1729 ?_
      refine lv_iload hx hb dL_law_1730 (lv_at hl 0 rfl) ?_
      refine lv_i2l hx hb dL_law_1732 rfl ?_
      refine W.lcmp hx hb dL_law_1733 ?_
      refine lv_if_eq (tgt := 1739) hx hb dL_law_1734 (by decide) (fun hcd => ?_) (fun hcd => ?_)
      · rw [if_pos hcd] at hf
        refine lv_goto (tgt := 3345) hx hb dL_law_1739 (by decide) ?_
        cases hf
        exact W.widen (by omega) (by omega) (hk _ _ _ hM hp_p1 hp_p2 hp_p3 hp_p4 _ (lv_sub hl [2, 3, 4, 5, 6, 7] rfl))
      · rw [if_neg hcd] at hf
        refine lv_iconst (v := 0) hx hb dL_law_1737 (by decide) ?_
        cases hf
  · rw [if_neg hcd] at hf
    refine lv_iconst (v := 0) hx hb dL_law_1720 (by decide) ?_
    cases hf
def g_law28 (K : Nat) (p1_marsh_plans_moves : Nat → Int32) (p1_marsh_plans_lengths : Nat → Int32) (p2_v : Nat → Int32) (p3 : Nat → Int64) (x1 : Int32) (x2 : Int32) : Option (Int32 × (Nat → Int64)) := (f_L_areMirrored K p1_marsh_plans_moves p1_marsh_plans_lengths p3 x1 x2).bind fun q1756 => (f_X13_areMirrored K p2_v x1 x2).bind fun q1774 => (f_X13_thrown q1774.2).bind fun q1780 => if q1780 = q1756.1 then if q1756.1 = 0 then if q1774.1 = 0 then if (lg_cmp (q1756.2 0) 0) = 0 then some (q1774.2, q1756.2) else none else if (lg_cmp (q1756.2 0) 1) = 0 then some (q1774.2, q1756.2) else none else some (q1774.2, q1756.2) else none
set_option maxHeartbeats 4000000 in
set_option maxRecDepth 100000 in
theorem g_law28_c (hC : mm_C G A p s m c code 10 args "MirrorFerryLaw") (hsX : va_X b L xs s s.heap) (hbl : b < s.heap.size) (hbA : ¬ A b) (hd1 : b1 + 152 ≤ b2) (hd2 : b2 + 13 ≤ a3) (hd3 : a3 + 1 ≤ a4) (hrc : cells + 1000 ≤ room_1.cells) (hrs : slots + 10000 ≤ room_1.slots) (hfl : l.stackTraces = false) {K : Nat} {p1_marsh_reeds_states : Nat → Int32} {p1_marsh_reeds_count : Int32} {p1_marsh_reeds_broken : Int32} {p1_marsh_fleet_numbers : Nat → Int32} {p1_marsh_fleet_cells : Nat → Int32} {p1_marsh_fleet_fares : Nat → Int32} {p1_marsh_fleet_count : Int32} {p1_marsh_fleet_nextNumber : Int32} {p1_marsh_fleet_total : Int32} {p1_marsh_fleet_removedFares : Int32} {p1_marsh_fleet_meetings : Int32} {p1_marsh_plans_moves : Nat → Int32} {p1_marsh_plans_lengths : Nat → Int32} {p1_marsh_landings_cells : Nat → Int32} {p1_marsh_landings_count : Int32} {p1_marsh_fogSide : Int32} {p1_snapshot_reeds_states : Nat → Int32} {p1_snapshot_reeds_count : Int32} {p1_snapshot_reeds_broken : Int32} {p1_snapshot_fleet_numbers : Nat → Int32} {p1_snapshot_fleet_cells : Nat → Int32} {p1_snapshot_fleet_fares : Nat → Int32} {p1_snapshot_fleet_count : Int32} {p1_snapshot_fleet_nextNumber : Int32} {p1_snapshot_fleet_total : Int32} {p1_snapshot_fleet_removedFares : Int32} {p1_snapshot_fleet_meetings : Int32} {p1_snapshot_plans_moves : Nat → Int32} {p1_snapshot_plans_lengths : Nat → Int32} {p1_snapshot_landings_cells : Nat → Int32} {p1_snapshot_landings_count : Int32} {p1_snapshot_fogSide : Int32} {p1_history_slots : Nat → mm_MV} {p1_history_free : Int32} {p1_history_count : Int32} {p1_ways_tolls : Nat → Int32} {p1_ways_queue : Nat → Int32} {p1_ways_heap : Nat → Int32} {p1_ways_heapSize : Int32} {p1_ways_found : Nat → Int32} {p1_ways_improved : Nat → Int32} {p1_pairing_costs : Nat → Int32} {p1_pairing_best : Nat → Int32} {p1_reader_kinds : Nat → Int32} {p1_reader_starts : Nat → Int32} {p1_reader_count : Int32} {p1_commandText_signs : Nat → Int32} {p1_commandText_length : Int32} {p1_line_signs : Nat → Int32} {p1_line_length : Int32} {p1_spareMoves : Nat → Int32} {p1_snapshotTaken : Int32} {p1_lastErrorPosition : Int32} {p1_lastFailedCommand : Int32} {p2_thrown : Int32} {p2_changes : Int32} {p2_errorAt : Int32} {p2_failedAt : Int32} {p2_isSaved : Int32} {p2_v : Nat → Int32} {p2_before : Nat → Int32} {p2_saved : Nat → Int32} {p2_past : Nat → Int32} {p2_far : Nat → Int32} {p2_scratch : Nat → Int32} {p2_best : Nat → Int32} {p2_thenX : Int32} {p2_thenY : Int32} {p2_thenMet : Int32} {p2_text : Nat → Int32} {p2_line : Nat → Int32} {p2_isLeft : Nat → Int32} {p2_words : Nat → Int32} {p2_wordAt : Nat → Int32} {p2_textN : Int32} {p2_hereP : Int32} {p2_endP : Int32} {p2_lineN : Int32} {p2_isWrong : Int32} {p2_isDoing : Int32} {p3 : Nat → Int64} {p4 : Nat → UInt64} {x0 x1 x2 x3 x4 x5 : Int32} {X : Int32 × (Nat → Int64)} (hf : g_law28 K p1_marsh_plans_moves p1_marsh_plans_lengths p2_v p3 x1 x2 = some X) (hp_p1 : At12 G w b1 p1_marsh_reeds_states p1_marsh_reeds_count p1_marsh_reeds_broken p1_marsh_fleet_numbers p1_marsh_fleet_cells p1_marsh_fleet_fares p1_marsh_fleet_count p1_marsh_fleet_nextNumber p1_marsh_fleet_total p1_marsh_fleet_removedFares p1_marsh_fleet_meetings p1_marsh_plans_moves p1_marsh_plans_lengths p1_marsh_landings_cells p1_marsh_landings_count p1_marsh_fogSide p1_snapshot_reeds_states p1_snapshot_reeds_count p1_snapshot_reeds_broken p1_snapshot_fleet_numbers p1_snapshot_fleet_cells p1_snapshot_fleet_fares p1_snapshot_fleet_count p1_snapshot_fleet_nextNumber p1_snapshot_fleet_total p1_snapshot_fleet_removedFares p1_snapshot_fleet_meetings p1_snapshot_plans_moves p1_snapshot_plans_lengths p1_snapshot_landings_cells p1_snapshot_landings_count p1_snapshot_fogSide p1_history_slots p1_history_free p1_history_count p1_ways_tolls p1_ways_queue p1_ways_heap p1_ways_heapSize p1_ways_found p1_ways_improved p1_pairing_costs p1_pairing_best p1_reader_kinds p1_reader_starts p1_reader_count p1_commandText_signs p1_commandText_length p1_line_signs p1_line_length p1_spareMoves p1_snapshotTaken p1_lastErrorPosition p1_lastFailedCommand) (hp_p2 : At13 G w b2 p2_thrown p2_changes p2_errorAt p2_failedAt p2_isSaved p2_v p2_before p2_saved p2_past p2_far p2_scratch p2_best p2_thenX p2_thenY p2_thenMet p2_text p2_line p2_isLeft p2_words p2_wordAt p2_textN p2_hereP p2_endP p2_lineN p2_isWrong p2_isDoing) (hp_p3 : (a3, (.inl (G.2 3, 1, .inr (.inl p3)) : va_E)) ∈ w) (hp_p4 : (a4, (.inl (G.2 4, 1, .inr (.inr (.inr (.inl p4)))) : va_E)) ∈ w)
    (hsc : ∀ k : Nat, k < 5 → vp_in (x5 + Int32.ofNat k) L ∧ xs (x5 + Int32.ofNat k).toNatClampNeg = mm_x5 x0 x1 x2 x3 x4 k) (hM : mm_S G A s.heap w H locs)
    (hk : ∀ (w : va_W) (H : Heap) (locs : List Loc), mm_S G A s.heap w H locs → At12 G w b1 p1_marsh_reeds_states p1_marsh_reeds_count p1_marsh_reeds_broken p1_marsh_fleet_numbers p1_marsh_fleet_cells p1_marsh_fleet_fares p1_marsh_fleet_count p1_marsh_fleet_nextNumber p1_marsh_fleet_total p1_marsh_fleet_removedFares p1_marsh_fleet_meetings p1_marsh_plans_moves p1_marsh_plans_lengths p1_marsh_landings_cells p1_marsh_landings_count p1_marsh_fogSide p1_snapshot_reeds_states p1_snapshot_reeds_count p1_snapshot_reeds_broken p1_snapshot_fleet_numbers p1_snapshot_fleet_cells p1_snapshot_fleet_fares p1_snapshot_fleet_count p1_snapshot_fleet_nextNumber p1_snapshot_fleet_total p1_snapshot_fleet_removedFares p1_snapshot_fleet_meetings p1_snapshot_plans_moves p1_snapshot_plans_lengths p1_snapshot_landings_cells p1_snapshot_landings_count p1_snapshot_fogSide p1_history_slots p1_history_free p1_history_count p1_ways_tolls p1_ways_queue p1_ways_heap p1_ways_heapSize p1_ways_found p1_ways_improved p1_pairing_costs p1_pairing_best p1_reader_kinds p1_reader_starts p1_reader_count p1_commandText_signs p1_commandText_length p1_line_signs p1_line_length p1_spareMoves p1_snapshotTaken p1_lastErrorPosition p1_lastFailedCommand → At13 G w b2 X.1 p2_changes p2_errorAt p2_failedAt p2_isSaved p2_v p2_before p2_saved p2_past p2_far p2_scratch p2_best p2_thenX p2_thenY p2_thenMet p2_text p2_line p2_isLeft p2_words p2_wordAt p2_textN p2_hereP p2_endP p2_lineN p2_isWrong p2_isDoing → (a3, (.inl (G.2 3, 1, .inr (.inl X.2)) : va_E)) ∈ w → (a4, (.inl (G.2 4, 1, .inr (.inr (.inr (.inl p4)))) : va_E)) ∈ w → ∀ ls, lv_has ls 10 [(0, .ref b), (1, .ref b1), (2, .ref b2), (3, .ref a3), (4, .ref a4), (5, .int x5)] → W p l e room_1 s m args below meth c H locs (cells + 1000) (slots + 10000) Q (F0 m 3345 ls [])) (ls : Array Slot) (hl : lv_has ls 10 [(0, .ref b), (1, .ref b1), (2, .ref b2), (3, .ref a3), (4, .ref a4), (5, .int x5)]) : W p l e room_1 s m args below meth c H locs cells slots Q (F0 m 1742 ls []) := by
  have hx := hC.1.1
  have hb := hC.1.2.1
  rw [g_law28] at hf
  refine lv_aload_n hx hb dL_law_1742 rfl (lv_at hl 1 rfl) ?_
  refine lv_aload_n hx hb dL_law_1743 rfl (lv_at hl 0 rfl) ?_
  refine lv_iload hx hb dL_law_1744 (lv_at hl 5 rfl) ?_
  refine lv_iconst (v := 1) hx hb dL_law_1746 (by decide) ?_
  refine lv_iadd hx hb dL_law_1747 ?_
  refine mm_sld hC hM hsX hbl hbA (hsc 1 (by decide)).1 (hsc 1 (by decide)).2 dL_law_1748 ?_
  refine lv_aload_n hx hb dL_law_1749 rfl (lv_at hl 0 rfl) ?_
  refine lv_iload hx hb dL_law_1750 (lv_at hl 5 rfl) ?_
  refine lv_iconst (v := 2) hx hb dL_law_1752 (by decide) ?_
  refine lv_iadd hx hb dL_law_1753 ?_
  refine mm_sld hC hM hsX hbl hbA (hsc 2 (by decide)).1 (hsc 2 (by decide)).2 dL_law_1754 ?_
  refine lv_aload_n hx hb dL_law_1755 rfl (lv_at hl 3 rfl) ?_
  obtain ⟨q1756, hq1756, hf⟩ := mm_bd hf
  refine mm_SiW (rest := []) hC hM (c_L_areMirrored l hfl hq1756 hp_p1 hp_p3 (by omega)) q5_60 q1_0 ykL_areMirrored q5_58 q5_59 ⟨rfl, rfl⟩ ⟨Nat.le_of_ble_eq_true rfl, Nat.le_of_ble_eq_true rfl⟩ rfl hl.1 rfl (Nat.le_of_ble_eq_true rfl) dL_law_1756 ⟨by omega, by omega⟩ (fun r w1756 H locs hM hw => ?_)
  obtain ⟨hr, hn_p3, hfr⟩ := hw
  rw [hr]
  have hp_p1 := hp_p1.keep hfr (by omega)
  have hp_p2 := hp_p2.keep hfr (by omega)
  have hp_p4 := hfr.keep hp_p4 (by omega)
  have hp_p3 := hn_p3
  refine lv_istore (lv' := [(6, .int q1756.1), (0, .ref b), (1, .ref b1), (2, .ref b2), (3, .ref a3), (4, .ref a4), (5, .int x5)]) hx hb dL_law_1759 hl (by decide) rfl (fun ls hl => ?_)
  refine lv_aload_n hx hb dL_law_1761 rfl (lv_at hl 3 rfl) ?_
  refine lv_aload_n hx hb dL_law_1762 rfl (lv_at hl 1 rfl) ?_
  refine lv_iload hx hb dL_law_1763 (lv_at hl 6 rfl) ?_
  refine lv_iconst (v := 1) hx hb dL_law_1765 (by decide) ?_
  refine lv_iadd hx hb dL_law_1766 ?_
  refine mm_sld hC hM hsX hbl hbA (hsc 1 (by decide)).1 (hsc 1 (by decide)).2 dL_law_1767 ?_
  refine lv_aload_n hx hb dL_law_1768 rfl (lv_at hl 1 rfl) ?_
  refine lv_iload hx hb dL_law_1769 (lv_at hl 6 rfl) ?_
  refine lv_iconst (v := 2) hx hb dL_law_1771 (by decide) ?_
  refine lv_iadd hx hb dL_law_1772 ?_
  refine mm_sld hC hM hsX hbl hbA (hsc 2 (by decide)).1 (hsc 2 (by decide)).2 dL_law_1773 ?_
  obtain ⟨q1774, hq1774, hf⟩ := mm_bd hf
  refine mm_Vi (rest := []) hC hM (c_X13_areMirrored l hq1774 hp_p2) q8_93 q1_12 ykX13_areMirrored q8_90 q8_91 q8_92 hp_p2.1 rfl ⟨rfl, rfl⟩ ⟨Nat.le_of_ble_eq_true rfl, Nat.le_of_ble_eq_true rfl⟩ rfl hl.1 rfl (Nat.le_of_ble_eq_true rfl) dL_law_1774 ⟨by omega, by omega⟩ (fun r w1774 H locs hM hw => ?_)
  obtain ⟨hr, hn_this, hfr⟩ := hw
  rw [hr]
  have hp_p1 := hp_p1.keep hfr (by omega)
  have hp_p3 := hfr.keep hp_p3 (by omega)
  have hp_p4 := hfr.keep hp_p4 (by omega)
  have hp_p2 := hn_this
  refine lv_istore (lv' := [(7, .int q1774.1), (6, .int q1756.1), (0, .ref b), (1, .ref b1), (2, .ref b2), (3, .ref a3), (4, .ref a4), (5, .int x5)]) hx hb dL_law_1777 hl (by decide) rfl (fun ls hl => ?_)
  refine lv_aload_n hx hb dL_law_1779 rfl (lv_at hl 4 rfl) ?_
  obtain ⟨q1780, hq1780, hf⟩ := mm_bd hf
  refine mm_Vi (rest := []) hC hM (c_X13_thrown l hq1780 hp_p2) q7_87 q1_12 ykX13_thrown q7_84 q7_85 q7_86 hp_p2.1 rfl ⟨rfl, rfl⟩ ⟨Nat.le_of_ble_eq_true rfl, Nat.le_of_ble_eq_true rfl⟩ rfl hl.1 rfl (Nat.le_of_ble_eq_true rfl) dL_law_1780 ⟨by omega, by omega⟩ (fun r w1780 H locs hM hw => ?_)
  obtain ⟨hr, hw⟩ := hw
  rw [hr]
  rw [hw] at hM
  refine lv_iload hx hb dL_law_1783 (lv_at hl 1 rfl) ?_
  refine lv_icmp_eq (tgt := 1790) hx hb dL_law_1785 (by decide) (fun hcd => ?_) (fun hcd => ?_)
  · rw [if_pos hcd] at hf
    refine lv_iload hx hb dL_law_1790 (lv_at hl 1 rfl) ?_
    refine lv_if_ne (tgt := 1814) hx hb dL_law_1792 (by decide) (fun hcd => ?_) (fun hcd => ?_)
    · rw [if_neg hcd] at hf
      refine lv_goto (tgt := 3345) hx hb dL_law_1814 (by decide) ?_
      cases hf
      exact W.widen (by omega) (by omega) (hk _ _ _ hM hp_p1 hp_p2 hp_p3 hp_p4 _ (lv_sub hl [2, 3, 4, 5, 6, 7] rfl))
    · rw [if_pos hcd] at hf
      refine lv_aload_n hx hb dL_law_1795 rfl (lv_at hl 5 rfl) ?_
      refine lv_iconst (v := 0) hx hb dL_law_1796 (by decide) ?_
      refine mm_lald0 hC hM hp_p3 dL_law_1797 ?_
      refine lv_iload hx hb dL_law_1798 (lv_at hl 0 rfl) ?_
      refine lv_if_eq (tgt := 1807) hx hb dL_law_1800 (by decide) (fun hcd => ?_) (fun hcd => ?_)
      · rw [if_pos hcd] at hf
        refine lv_lconst (v := 0) hx hb dL_law_1807 (by decide) ?_
        refine W.lcmp hx hb dL_law_1808 ?_
        refine lv_if_eq (tgt := 1814) hx hb dL_law_1809 (by decide) (fun hcd => ?_) (fun hcd => ?_)
        · rw [if_pos hcd] at hf
          refine lv_goto (tgt := 3345) hx hb dL_law_1814 (by decide) ?_
          cases hf
          exact W.widen (by omega) (by omega) (hk _ _ _ hM hp_p1 hp_p2 hp_p3 hp_p4 _ (lv_sub hl [2, 3, 4, 5, 6, 7] rfl))
        · rw [if_neg hcd] at hf
          refine lv_iconst (v := 0) hx hb dL_law_1812 (by decide) ?_
          cases hf
      · rw [if_neg hcd] at hf
        refine lv_lconst (v := 1) hx hb dL_law_1803 (by decide) ?_
        refine lv_goto (tgt := 1808) hx hb dL_law_1804 (by decide) ?_
        refine W.lcmp hx hb dL_law_1808 ?_
        refine lv_if_eq (tgt := 1814) hx hb dL_law_1809 (by decide) (fun hcd => ?_) (fun hcd => ?_)
        · rw [if_pos hcd] at hf
          refine lv_goto (tgt := 3345) hx hb dL_law_1814 (by decide) ?_
          cases hf
          exact W.widen (by omega) (by omega) (hk _ _ _ hM hp_p1 hp_p2 hp_p3 hp_p4 _ (lv_sub hl [2, 3, 4, 5, 6, 7] rfl))
        · rw [if_neg hcd] at hf
          refine lv_iconst (v := 0) hx hb dL_law_1812 (by decide) ?_
          cases hf
  · rw [if_neg hcd] at hf
    refine lv_iconst (v := 0) hx hb dL_law_1788 (by decide) ?_
    cases hf
def g_law29 (K : Nat) (p1_marsh_reeds_states : Nat → Int32) (p1_marsh_reeds_count : Int32) (p1_marsh_reeds_broken : Int32) (p1_marsh_fleet_numbers : Nat → Int32) (p1_marsh_fleet_cells : Nat → Int32) (p1_marsh_fleet_fares : Nat → Int32) (p1_marsh_fleet_count : Int32) (p1_marsh_fleet_nextNumber : Int32) (p1_marsh_fleet_total : Int32) (p1_marsh_fleet_removedFares : Int32) (p1_marsh_fleet_meetings : Int32) (p1_marsh_plans_moves : Nat → Int32) (p1_marsh_plans_lengths : Nat → Int32) (p1_marsh_landings_cells : Nat → Int32) (p1_marsh_landings_count : Int32) (p1_marsh_fogSide : Int32) (p1_history_slots : Nat → mm_MV) (p1_history_free : Int32) (p1_history_count : Int32) (p2_changes : Int32) (p2_v : Nat → Int32) (p2_before : Nat → Int32) (p2_past : Nat → Int32) (p2_thenX : Int32) (p2_thenY : Int32) (p2_thenMet : Int32) (p3 : Nat → Int64) (x1 : Int32) (x2 : Int32) : Option ((Nat → Int32) × (Nat → Int32) × Int32 × Int32 × (Nat → mm_MV) × Int32 × Int32 × Int32 × Int32 × (Nat → Int32) × (Nat → Int32) × (Nat → Int32) × Int32 × Int32 × Int32 × (Nat → Int64)) := (f_L_sail K p1_marsh_reeds_states p1_marsh_reeds_count p1_marsh_reeds_broken p1_marsh_fleet_numbers p1_marsh_fleet_cells p1_marsh_fleet_fares p1_marsh_fleet_count p1_marsh_fleet_nextNumber p1_marsh_fleet_total p1_marsh_fleet_removedFares p1_marsh_fleet_meetings p1_marsh_plans_moves p1_marsh_plans_lengths p1_marsh_landings_cells p1_marsh_landings_count p1_marsh_fogSide p1_history_slots p1_history_free p1_history_count p3 x1 x2).bind fun q1831 => (f_X13_sail K p2_changes p2_v p2_before p2_past p2_thenX p2_thenY p2_thenMet x1 x2).bind fun q1849 => (f_X13_thrown q1849.2.1).bind fun q1855 => if q1855 = q1831.1 then if q1831.1 = 0 then if (lg_cmp (q1831.2.2.2.2.2.2.2.2 0) q1849.1.toInt64) = 0 then some (q1831.2.1, q1831.2.2.1, q1831.2.2.2.1, q1831.2.2.2.2.1, q1831.2.2.2.2.2.1, q1831.2.2.2.2.2.2.1, q1831.2.2.2.2.2.2.2.1, q1849.2.1, q1849.2.2.1, q1849.2.2.2.1, q1849.2.2.2.2.1, q1849.2.2.2.2.2.1, q1849.2.2.2.2.2.2.1, q1849.2.2.2.2.2.2.2.1, q1849.2.2.2.2.2.2.2.2, q1831.2.2.2.2.2.2.2.2) else none else some (q1831.2.1, q1831.2.2.1, q1831.2.2.2.1, q1831.2.2.2.2.1, q1831.2.2.2.2.2.1, q1831.2.2.2.2.2.2.1, q1831.2.2.2.2.2.2.2.1, q1849.2.1, q1849.2.2.1, q1849.2.2.2.1, q1849.2.2.2.2.1, q1849.2.2.2.2.2.1, q1849.2.2.2.2.2.2.1, q1849.2.2.2.2.2.2.2.1, q1849.2.2.2.2.2.2.2.2, q1831.2.2.2.2.2.2.2.2) else none
set_option maxHeartbeats 4000000 in
set_option maxRecDepth 100000 in
theorem g_law29_c (hC : mm_C G A p s m c code 10 args "MirrorFerryLaw") (hsX : va_X b L xs s s.heap) (hbl : b < s.heap.size) (hbA : ¬ A b) (hd1 : b1 + 152 ≤ b2) (hd2 : b2 + 13 ≤ a3) (hd3 : a3 + 1 ≤ a4) (hrc : cells + 1000 ≤ room_1.cells) (hrs : slots + 10000 ≤ room_1.slots) (hfl : l.stackTraces = false) {K : Nat} {p1_marsh_reeds_states : Nat → Int32} {p1_marsh_reeds_count : Int32} {p1_marsh_reeds_broken : Int32} {p1_marsh_fleet_numbers : Nat → Int32} {p1_marsh_fleet_cells : Nat → Int32} {p1_marsh_fleet_fares : Nat → Int32} {p1_marsh_fleet_count : Int32} {p1_marsh_fleet_nextNumber : Int32} {p1_marsh_fleet_total : Int32} {p1_marsh_fleet_removedFares : Int32} {p1_marsh_fleet_meetings : Int32} {p1_marsh_plans_moves : Nat → Int32} {p1_marsh_plans_lengths : Nat → Int32} {p1_marsh_landings_cells : Nat → Int32} {p1_marsh_landings_count : Int32} {p1_marsh_fogSide : Int32} {p1_snapshot_reeds_states : Nat → Int32} {p1_snapshot_reeds_count : Int32} {p1_snapshot_reeds_broken : Int32} {p1_snapshot_fleet_numbers : Nat → Int32} {p1_snapshot_fleet_cells : Nat → Int32} {p1_snapshot_fleet_fares : Nat → Int32} {p1_snapshot_fleet_count : Int32} {p1_snapshot_fleet_nextNumber : Int32} {p1_snapshot_fleet_total : Int32} {p1_snapshot_fleet_removedFares : Int32} {p1_snapshot_fleet_meetings : Int32} {p1_snapshot_plans_moves : Nat → Int32} {p1_snapshot_plans_lengths : Nat → Int32} {p1_snapshot_landings_cells : Nat → Int32} {p1_snapshot_landings_count : Int32} {p1_snapshot_fogSide : Int32} {p1_history_slots : Nat → mm_MV} {p1_history_free : Int32} {p1_history_count : Int32} {p1_ways_tolls : Nat → Int32} {p1_ways_queue : Nat → Int32} {p1_ways_heap : Nat → Int32} {p1_ways_heapSize : Int32} {p1_ways_found : Nat → Int32} {p1_ways_improved : Nat → Int32} {p1_pairing_costs : Nat → Int32} {p1_pairing_best : Nat → Int32} {p1_reader_kinds : Nat → Int32} {p1_reader_starts : Nat → Int32} {p1_reader_count : Int32} {p1_commandText_signs : Nat → Int32} {p1_commandText_length : Int32} {p1_line_signs : Nat → Int32} {p1_line_length : Int32} {p1_spareMoves : Nat → Int32} {p1_snapshotTaken : Int32} {p1_lastErrorPosition : Int32} {p1_lastFailedCommand : Int32} {p2_thrown : Int32} {p2_changes : Int32} {p2_errorAt : Int32} {p2_failedAt : Int32} {p2_isSaved : Int32} {p2_v : Nat → Int32} {p2_before : Nat → Int32} {p2_saved : Nat → Int32} {p2_past : Nat → Int32} {p2_far : Nat → Int32} {p2_scratch : Nat → Int32} {p2_best : Nat → Int32} {p2_thenX : Int32} {p2_thenY : Int32} {p2_thenMet : Int32} {p2_text : Nat → Int32} {p2_line : Nat → Int32} {p2_isLeft : Nat → Int32} {p2_words : Nat → Int32} {p2_wordAt : Nat → Int32} {p2_textN : Int32} {p2_hereP : Int32} {p2_endP : Int32} {p2_lineN : Int32} {p2_isWrong : Int32} {p2_isDoing : Int32} {p3 : Nat → Int64} {p4 : Nat → UInt64} {x0 x1 x2 x3 x4 x5 : Int32} {X : (Nat → Int32) × (Nat → Int32) × Int32 × Int32 × (Nat → mm_MV) × Int32 × Int32 × Int32 × Int32 × (Nat → Int32) × (Nat → Int32) × (Nat → Int32) × Int32 × Int32 × Int32 × (Nat → Int64)} (hf : g_law29 K p1_marsh_reeds_states p1_marsh_reeds_count p1_marsh_reeds_broken p1_marsh_fleet_numbers p1_marsh_fleet_cells p1_marsh_fleet_fares p1_marsh_fleet_count p1_marsh_fleet_nextNumber p1_marsh_fleet_total p1_marsh_fleet_removedFares p1_marsh_fleet_meetings p1_marsh_plans_moves p1_marsh_plans_lengths p1_marsh_landings_cells p1_marsh_landings_count p1_marsh_fogSide p1_history_slots p1_history_free p1_history_count p2_changes p2_v p2_before p2_past p2_thenX p2_thenY p2_thenMet p3 x1 x2 = some X) (hp_p1 : At12 G w b1 p1_marsh_reeds_states p1_marsh_reeds_count p1_marsh_reeds_broken p1_marsh_fleet_numbers p1_marsh_fleet_cells p1_marsh_fleet_fares p1_marsh_fleet_count p1_marsh_fleet_nextNumber p1_marsh_fleet_total p1_marsh_fleet_removedFares p1_marsh_fleet_meetings p1_marsh_plans_moves p1_marsh_plans_lengths p1_marsh_landings_cells p1_marsh_landings_count p1_marsh_fogSide p1_snapshot_reeds_states p1_snapshot_reeds_count p1_snapshot_reeds_broken p1_snapshot_fleet_numbers p1_snapshot_fleet_cells p1_snapshot_fleet_fares p1_snapshot_fleet_count p1_snapshot_fleet_nextNumber p1_snapshot_fleet_total p1_snapshot_fleet_removedFares p1_snapshot_fleet_meetings p1_snapshot_plans_moves p1_snapshot_plans_lengths p1_snapshot_landings_cells p1_snapshot_landings_count p1_snapshot_fogSide p1_history_slots p1_history_free p1_history_count p1_ways_tolls p1_ways_queue p1_ways_heap p1_ways_heapSize p1_ways_found p1_ways_improved p1_pairing_costs p1_pairing_best p1_reader_kinds p1_reader_starts p1_reader_count p1_commandText_signs p1_commandText_length p1_line_signs p1_line_length p1_spareMoves p1_snapshotTaken p1_lastErrorPosition p1_lastFailedCommand) (hp_p2 : At13 G w b2 p2_thrown p2_changes p2_errorAt p2_failedAt p2_isSaved p2_v p2_before p2_saved p2_past p2_far p2_scratch p2_best p2_thenX p2_thenY p2_thenMet p2_text p2_line p2_isLeft p2_words p2_wordAt p2_textN p2_hereP p2_endP p2_lineN p2_isWrong p2_isDoing) (hp_p3 : (a3, (.inl (G.2 3, 1, .inr (.inl p3)) : va_E)) ∈ w) (hp_p4 : (a4, (.inl (G.2 4, 1, .inr (.inr (.inr (.inl p4)))) : va_E)) ∈ w)
    (hsc : ∀ k : Nat, k < 5 → vp_in (x5 + Int32.ofNat k) L ∧ xs (x5 + Int32.ofNat k).toNatClampNeg = mm_x5 x0 x1 x2 x3 x4 k) (hM : mm_S G A s.heap w H locs)
    (hk : ∀ (w : va_W) (H : Heap) (locs : List Loc), mm_S G A s.heap w H locs → At12 G w b1 p1_marsh_reeds_states p1_marsh_reeds_count p1_marsh_reeds_broken p1_marsh_fleet_numbers X.1 X.2.1 p1_marsh_fleet_count p1_marsh_fleet_nextNumber X.2.2.1 p1_marsh_fleet_removedFares X.2.2.2.1 p1_marsh_plans_moves p1_marsh_plans_lengths p1_marsh_landings_cells p1_marsh_landings_count p1_marsh_fogSide p1_snapshot_reeds_states p1_snapshot_reeds_count p1_snapshot_reeds_broken p1_snapshot_fleet_numbers p1_snapshot_fleet_cells p1_snapshot_fleet_fares p1_snapshot_fleet_count p1_snapshot_fleet_nextNumber p1_snapshot_fleet_total p1_snapshot_fleet_removedFares p1_snapshot_fleet_meetings p1_snapshot_plans_moves p1_snapshot_plans_lengths p1_snapshot_landings_cells p1_snapshot_landings_count p1_snapshot_fogSide X.2.2.2.2.1 X.2.2.2.2.2.1 X.2.2.2.2.2.2.1 p1_ways_tolls p1_ways_queue p1_ways_heap p1_ways_heapSize p1_ways_found p1_ways_improved p1_pairing_costs p1_pairing_best p1_reader_kinds p1_reader_starts p1_reader_count p1_commandText_signs p1_commandText_length p1_line_signs p1_line_length p1_spareMoves p1_snapshotTaken p1_lastErrorPosition p1_lastFailedCommand → At13 G w b2 X.2.2.2.2.2.2.2.1 X.2.2.2.2.2.2.2.2.1 p2_errorAt p2_failedAt p2_isSaved X.2.2.2.2.2.2.2.2.2.1 X.2.2.2.2.2.2.2.2.2.2.1 p2_saved X.2.2.2.2.2.2.2.2.2.2.2.1 p2_far p2_scratch p2_best X.2.2.2.2.2.2.2.2.2.2.2.2.1 X.2.2.2.2.2.2.2.2.2.2.2.2.2.1 X.2.2.2.2.2.2.2.2.2.2.2.2.2.2.1 p2_text p2_line p2_isLeft p2_words p2_wordAt p2_textN p2_hereP p2_endP p2_lineN p2_isWrong p2_isDoing → (a3, (.inl (G.2 3, 1, .inr (.inl X.2.2.2.2.2.2.2.2.2.2.2.2.2.2.2)) : va_E)) ∈ w → (a4, (.inl (G.2 4, 1, .inr (.inr (.inr (.inl p4)))) : va_E)) ∈ w → ∀ ls, lv_has ls 10 [(0, .ref b), (1, .ref b1), (2, .ref b2), (3, .ref a3), (4, .ref a4), (5, .int x5)] → W p l e room_1 s m args below meth c H locs (cells + 1000) (slots + 10000) Q (F0 m 3345 ls [])) (ls : Array Slot) (hl : lv_has ls 10 [(0, .ref b), (1, .ref b1), (2, .ref b2), (3, .ref a3), (4, .ref a4), (5, .int x5)]) : W p l e room_1 s m args below meth c H locs cells slots Q (F0 m 1817 ls []) := by
  have hx := hC.1.1
  have hb := hC.1.2.1
  rw [g_law29] at hf
  refine lv_aload_n hx hb dL_law_1817 rfl (lv_at hl 1 rfl) ?_
  refine lv_aload_n hx hb dL_law_1818 rfl (lv_at hl 0 rfl) ?_
  refine lv_iload hx hb dL_law_1819 (lv_at hl 5 rfl) ?_
  refine lv_iconst (v := 1) hx hb dL_law_1821 (by decide) ?_
  refine lv_iadd hx hb dL_law_1822 ?_
  refine mm_sld hC hM hsX hbl hbA (hsc 1 (by decide)).1 (hsc 1 (by decide)).2 dL_law_1823 ?_
  refine lv_aload_n hx hb dL_law_1824 rfl (lv_at hl 0 rfl) ?_
  refine lv_iload hx hb dL_law_1825 (lv_at hl 5 rfl) ?_
  refine lv_iconst (v := 2) hx hb dL_law_1827 (by decide) ?_
  refine lv_iadd hx hb dL_law_1828 ?_
  refine mm_sld hC hM hsX hbl hbA (hsc 2 (by decide)).1 (hsc 2 (by decide)).2 dL_law_1829 ?_
  refine lv_aload_n hx hb dL_law_1830 rfl (lv_at hl 3 rfl) ?_
  obtain ⟨q1831, hq1831, hf⟩ := mm_bd hf
  refine mm_SiW (rest := []) hC hM (c_L_sail l hfl hq1831 hp_p1 hp_p3 (by omega)) q5_71 q1_0 ykL_sail q5_69 q5_70 ⟨rfl, rfl⟩ ⟨Nat.le_of_ble_eq_true rfl, Nat.le_of_ble_eq_true rfl⟩ rfl hl.1 rfl (Nat.le_of_ble_eq_true rfl) dL_law_1831 ⟨by omega, by omega⟩ (fun r w1831 H locs hM hw => ?_)
  obtain ⟨hr, hn_p0, hn_p3, hfr⟩ := hw
  rw [hr]
  have hp_p2 := hp_p2.keep2 hfr (by omega) (by omega)
  have hp_p4 := hfr.keep hp_p4 (by omega) (by omega)
  have hp_p1 := hn_p0
  have hp_p3 := hn_p3
  refine lv_istore (lv' := [(6, .int q1831.1), (0, .ref b), (1, .ref b1), (2, .ref b2), (3, .ref a3), (4, .ref a4), (5, .int x5)]) hx hb dL_law_1834 hl (by decide) rfl (fun ls hl => ?_)
  refine lv_aload_n hx hb dL_law_1836 rfl (lv_at hl 3 rfl) ?_
  refine lv_aload_n hx hb dL_law_1837 rfl (lv_at hl 1 rfl) ?_
  refine lv_iload hx hb dL_law_1838 (lv_at hl 6 rfl) ?_
  refine lv_iconst (v := 1) hx hb dL_law_1840 (by decide) ?_
  refine lv_iadd hx hb dL_law_1841 ?_
  refine mm_sld hC hM hsX hbl hbA (hsc 1 (by decide)).1 (hsc 1 (by decide)).2 dL_law_1842 ?_
  refine lv_aload_n hx hb dL_law_1843 rfl (lv_at hl 1 rfl) ?_
  refine lv_iload hx hb dL_law_1844 (lv_at hl 6 rfl) ?_
  refine lv_iconst (v := 2) hx hb dL_law_1846 (by decide) ?_
  refine lv_iadd hx hb dL_law_1847 ?_
  refine mm_sld hC hM hsX hbl hbA (hsc 2 (by decide)).1 (hsc 2 (by decide)).2 dL_law_1848 ?_
  obtain ⟨q1849, hq1849, hf⟩ := mm_bd hf
  refine mm_Vi (rest := []) hC hM (c_X13_sail l hq1849 hp_p2) q8_97 q1_12 ykX13_sail q8_94 q8_95 q8_96 hp_p2.1 rfl ⟨rfl, rfl⟩ ⟨Nat.le_of_ble_eq_true rfl, Nat.le_of_ble_eq_true rfl⟩ rfl hl.1 rfl (Nat.le_of_ble_eq_true rfl) dL_law_1849 ⟨by omega, by omega⟩ (fun r w1849 H locs hM hw => ?_)
  obtain ⟨hr, hn_this, hfr⟩ := hw
  rw [hr]
  have hp_p1 := hp_p1.keep hfr (by omega)
  have hp_p3 := hfr.keep hp_p3 (by omega)
  have hp_p4 := hfr.keep hp_p4 (by omega)
  have hp_p2 := hn_this
  refine lv_istore (lv' := [(7, .int q1849.1), (6, .int q1831.1), (0, .ref b), (1, .ref b1), (2, .ref b2), (3, .ref a3), (4, .ref a4), (5, .int x5)]) hx hb dL_law_1852 hl (by decide) rfl (fun ls hl => ?_)
  refine lv_aload_n hx hb dL_law_1854 rfl (lv_at hl 4 rfl) ?_
  obtain ⟨q1855, hq1855, hf⟩ := mm_bd hf
  refine mm_Vi (rest := []) hC hM (c_X13_thrown l hq1855 hp_p2) q7_87 q1_12 ykX13_thrown q7_84 q7_85 q7_86 hp_p2.1 rfl ⟨rfl, rfl⟩ ⟨Nat.le_of_ble_eq_true rfl, Nat.le_of_ble_eq_true rfl⟩ rfl hl.1 rfl (Nat.le_of_ble_eq_true rfl) dL_law_1855 ⟨by omega, by omega⟩ (fun r w1855 H locs hM hw => ?_)
  obtain ⟨hr, hw⟩ := hw
  rw [hr]
  rw [hw] at hM
  refine lv_iload hx hb dL_law_1858 (lv_at hl 1 rfl) ?_
  refine lv_icmp_eq (tgt := 1865) hx hb dL_law_1860 (by decide) (fun hcd => ?_) (fun hcd => ?_)
  · rw [if_pos hcd] at hf
    refine lv_iload hx hb dL_law_1865 (lv_at hl 1 rfl) ?_
    refine lv_if_ne (tgt := 1882) hx hb dL_law_1867 (by decide) (fun hcd => ?_) (fun hcd => ?_)
    · rw [if_neg hcd] at hf
      refine lv_goto (tgt := 3345) hx hb dL_law_1882 (by decide) ?_
      cases hf
      exact W.widen (by omega) (by omega) (hk _ _ _ hM hp_p1 hp_p2 hp_p3 hp_p4 _ (lv_sub hl [2, 3, 4, 5, 6, 7] rfl))
    · rw [if_pos hcd] at hf
      refine lv_aload_n hx hb dL_law_1870 rfl (lv_at hl 5 rfl) ?_
      refine lv_iconst (v := 0) hx hb dL_law_1871 (by decide) ?_
      refine mm_lald0 hC hM hp_p3 dL_law_1872 ?_
      refine lv_iload hx hb dL_law_1873 (lv_at hl 0 rfl) ?_
      refine lv_i2l hx hb dL_law_1875 rfl ?_
      refine W.lcmp hx hb dL_law_1876 ?_
      refine lv_if_eq (tgt := 1882) hx hb dL_law_1877 (by decide) (fun hcd => ?_) (fun hcd => ?_)
      · rw [if_pos hcd] at hf
        refine lv_goto (tgt := 3345) hx hb dL_law_1882 (by decide) ?_
        cases hf
        exact W.widen (by omega) (by omega) (hk _ _ _ hM hp_p1 hp_p2 hp_p3 hp_p4 _ (lv_sub hl [2, 3, 4, 5, 6, 7] rfl))
      · rw [if_neg hcd] at hf
        refine lv_iconst (v := 0) hx hb dL_law_1880 (by decide) ?_
        cases hf
  · rw [if_neg hcd] at hf
    refine lv_iconst (v := 0) hx hb dL_law_1863 (by decide) ?_
    cases hf
def g_law30 (K : Nat) (p1_marsh_reeds_states : Nat → Int32) (p1_marsh_fleet_numbers : Nat → Int32) (p1_marsh_fleet_cells : Nat → Int32) (p1_marsh_fleet_count : Int32) (p1_marsh_plans_moves : Nat → Int32) (p1_marsh_plans_lengths : Nat → Int32) (p2_v : Nat → Int32) (p2_thenX : Int32) (p2_thenY : Int32) (p2_thenMet : Int32) (p3 : Nat → Int64) (x1 : Int32) (x2 : Int32) : Option (Int32 × Int32 × Int32 × Int32 × (Nat → Int64)) := (f_L_blockedMove K p1_marsh_reeds_states p1_marsh_fleet_numbers p1_marsh_fleet_cells p1_marsh_fleet_count p1_marsh_plans_moves p1_marsh_plans_lengths p3 x1 x2).bind fun q1899 => (f_X13_blockedMove K p2_v p2_thenX p2_thenY p2_thenMet x1 x2).bind fun q1917 => (f_X13_thrown q1917.2.1).bind fun q1923 => if q1923 = q1899.1 then if q1899.1 = 0 then if (lg_cmp (q1899.2 0) q1917.1.toInt64) = 0 then some (q1917.2.1, q1917.2.2.1, q1917.2.2.2.1, q1917.2.2.2.2, q1899.2) else none else some (q1917.2.1, q1917.2.2.1, q1917.2.2.2.1, q1917.2.2.2.2, q1899.2) else none
set_option maxHeartbeats 4000000 in
set_option maxRecDepth 100000 in
theorem g_law30_c (hC : mm_C G A p s m c code 10 args "MirrorFerryLaw") (hsX : va_X b L xs s s.heap) (hbl : b < s.heap.size) (hbA : ¬ A b) (hd1 : b1 + 152 ≤ b2) (hd2 : b2 + 13 ≤ a3) (hd3 : a3 + 1 ≤ a4) (hrc : cells + 1000 ≤ room_1.cells) (hrs : slots + 10000 ≤ room_1.slots) (hfl : l.stackTraces = false) {K : Nat} {p1_marsh_reeds_states : Nat → Int32} {p1_marsh_reeds_count : Int32} {p1_marsh_reeds_broken : Int32} {p1_marsh_fleet_numbers : Nat → Int32} {p1_marsh_fleet_cells : Nat → Int32} {p1_marsh_fleet_fares : Nat → Int32} {p1_marsh_fleet_count : Int32} {p1_marsh_fleet_nextNumber : Int32} {p1_marsh_fleet_total : Int32} {p1_marsh_fleet_removedFares : Int32} {p1_marsh_fleet_meetings : Int32} {p1_marsh_plans_moves : Nat → Int32} {p1_marsh_plans_lengths : Nat → Int32} {p1_marsh_landings_cells : Nat → Int32} {p1_marsh_landings_count : Int32} {p1_marsh_fogSide : Int32} {p1_snapshot_reeds_states : Nat → Int32} {p1_snapshot_reeds_count : Int32} {p1_snapshot_reeds_broken : Int32} {p1_snapshot_fleet_numbers : Nat → Int32} {p1_snapshot_fleet_cells : Nat → Int32} {p1_snapshot_fleet_fares : Nat → Int32} {p1_snapshot_fleet_count : Int32} {p1_snapshot_fleet_nextNumber : Int32} {p1_snapshot_fleet_total : Int32} {p1_snapshot_fleet_removedFares : Int32} {p1_snapshot_fleet_meetings : Int32} {p1_snapshot_plans_moves : Nat → Int32} {p1_snapshot_plans_lengths : Nat → Int32} {p1_snapshot_landings_cells : Nat → Int32} {p1_snapshot_landings_count : Int32} {p1_snapshot_fogSide : Int32} {p1_history_slots : Nat → mm_MV} {p1_history_free : Int32} {p1_history_count : Int32} {p1_ways_tolls : Nat → Int32} {p1_ways_queue : Nat → Int32} {p1_ways_heap : Nat → Int32} {p1_ways_heapSize : Int32} {p1_ways_found : Nat → Int32} {p1_ways_improved : Nat → Int32} {p1_pairing_costs : Nat → Int32} {p1_pairing_best : Nat → Int32} {p1_reader_kinds : Nat → Int32} {p1_reader_starts : Nat → Int32} {p1_reader_count : Int32} {p1_commandText_signs : Nat → Int32} {p1_commandText_length : Int32} {p1_line_signs : Nat → Int32} {p1_line_length : Int32} {p1_spareMoves : Nat → Int32} {p1_snapshotTaken : Int32} {p1_lastErrorPosition : Int32} {p1_lastFailedCommand : Int32} {p2_thrown : Int32} {p2_changes : Int32} {p2_errorAt : Int32} {p2_failedAt : Int32} {p2_isSaved : Int32} {p2_v : Nat → Int32} {p2_before : Nat → Int32} {p2_saved : Nat → Int32} {p2_past : Nat → Int32} {p2_far : Nat → Int32} {p2_scratch : Nat → Int32} {p2_best : Nat → Int32} {p2_thenX : Int32} {p2_thenY : Int32} {p2_thenMet : Int32} {p2_text : Nat → Int32} {p2_line : Nat → Int32} {p2_isLeft : Nat → Int32} {p2_words : Nat → Int32} {p2_wordAt : Nat → Int32} {p2_textN : Int32} {p2_hereP : Int32} {p2_endP : Int32} {p2_lineN : Int32} {p2_isWrong : Int32} {p2_isDoing : Int32} {p3 : Nat → Int64} {p4 : Nat → UInt64} {x0 x1 x2 x3 x4 x5 : Int32} {X : Int32 × Int32 × Int32 × Int32 × (Nat → Int64)} (hf : g_law30 K p1_marsh_reeds_states p1_marsh_fleet_numbers p1_marsh_fleet_cells p1_marsh_fleet_count p1_marsh_plans_moves p1_marsh_plans_lengths p2_v p2_thenX p2_thenY p2_thenMet p3 x1 x2 = some X) (hp_p1 : At12 G w b1 p1_marsh_reeds_states p1_marsh_reeds_count p1_marsh_reeds_broken p1_marsh_fleet_numbers p1_marsh_fleet_cells p1_marsh_fleet_fares p1_marsh_fleet_count p1_marsh_fleet_nextNumber p1_marsh_fleet_total p1_marsh_fleet_removedFares p1_marsh_fleet_meetings p1_marsh_plans_moves p1_marsh_plans_lengths p1_marsh_landings_cells p1_marsh_landings_count p1_marsh_fogSide p1_snapshot_reeds_states p1_snapshot_reeds_count p1_snapshot_reeds_broken p1_snapshot_fleet_numbers p1_snapshot_fleet_cells p1_snapshot_fleet_fares p1_snapshot_fleet_count p1_snapshot_fleet_nextNumber p1_snapshot_fleet_total p1_snapshot_fleet_removedFares p1_snapshot_fleet_meetings p1_snapshot_plans_moves p1_snapshot_plans_lengths p1_snapshot_landings_cells p1_snapshot_landings_count p1_snapshot_fogSide p1_history_slots p1_history_free p1_history_count p1_ways_tolls p1_ways_queue p1_ways_heap p1_ways_heapSize p1_ways_found p1_ways_improved p1_pairing_costs p1_pairing_best p1_reader_kinds p1_reader_starts p1_reader_count p1_commandText_signs p1_commandText_length p1_line_signs p1_line_length p1_spareMoves p1_snapshotTaken p1_lastErrorPosition p1_lastFailedCommand) (hp_p2 : At13 G w b2 p2_thrown p2_changes p2_errorAt p2_failedAt p2_isSaved p2_v p2_before p2_saved p2_past p2_far p2_scratch p2_best p2_thenX p2_thenY p2_thenMet p2_text p2_line p2_isLeft p2_words p2_wordAt p2_textN p2_hereP p2_endP p2_lineN p2_isWrong p2_isDoing) (hp_p3 : (a3, (.inl (G.2 3, 1, .inr (.inl p3)) : va_E)) ∈ w) (hp_p4 : (a4, (.inl (G.2 4, 1, .inr (.inr (.inr (.inl p4)))) : va_E)) ∈ w)
    (hsc : ∀ k : Nat, k < 5 → vp_in (x5 + Int32.ofNat k) L ∧ xs (x5 + Int32.ofNat k).toNatClampNeg = mm_x5 x0 x1 x2 x3 x4 k) (hM : mm_S G A s.heap w H locs)
    (hk : ∀ (w : va_W) (H : Heap) (locs : List Loc), mm_S G A s.heap w H locs → At12 G w b1 p1_marsh_reeds_states p1_marsh_reeds_count p1_marsh_reeds_broken p1_marsh_fleet_numbers p1_marsh_fleet_cells p1_marsh_fleet_fares p1_marsh_fleet_count p1_marsh_fleet_nextNumber p1_marsh_fleet_total p1_marsh_fleet_removedFares p1_marsh_fleet_meetings p1_marsh_plans_moves p1_marsh_plans_lengths p1_marsh_landings_cells p1_marsh_landings_count p1_marsh_fogSide p1_snapshot_reeds_states p1_snapshot_reeds_count p1_snapshot_reeds_broken p1_snapshot_fleet_numbers p1_snapshot_fleet_cells p1_snapshot_fleet_fares p1_snapshot_fleet_count p1_snapshot_fleet_nextNumber p1_snapshot_fleet_total p1_snapshot_fleet_removedFares p1_snapshot_fleet_meetings p1_snapshot_plans_moves p1_snapshot_plans_lengths p1_snapshot_landings_cells p1_snapshot_landings_count p1_snapshot_fogSide p1_history_slots p1_history_free p1_history_count p1_ways_tolls p1_ways_queue p1_ways_heap p1_ways_heapSize p1_ways_found p1_ways_improved p1_pairing_costs p1_pairing_best p1_reader_kinds p1_reader_starts p1_reader_count p1_commandText_signs p1_commandText_length p1_line_signs p1_line_length p1_spareMoves p1_snapshotTaken p1_lastErrorPosition p1_lastFailedCommand → At13 G w b2 X.1 p2_changes p2_errorAt p2_failedAt p2_isSaved p2_v p2_before p2_saved p2_past p2_far p2_scratch p2_best X.2.1 X.2.2.1 X.2.2.2.1 p2_text p2_line p2_isLeft p2_words p2_wordAt p2_textN p2_hereP p2_endP p2_lineN p2_isWrong p2_isDoing → (a3, (.inl (G.2 3, 1, .inr (.inl X.2.2.2.2)) : va_E)) ∈ w → (a4, (.inl (G.2 4, 1, .inr (.inr (.inr (.inl p4)))) : va_E)) ∈ w → ∀ ls, lv_has ls 10 [(0, .ref b), (1, .ref b1), (2, .ref b2), (3, .ref a3), (4, .ref a4), (5, .int x5)] → W p l e room_1 s m args below meth c H locs (cells + 1000) (slots + 10000) Q (F0 m 3345 ls [])) (ls : Array Slot) (hl : lv_has ls 10 [(0, .ref b), (1, .ref b1), (2, .ref b2), (3, .ref a3), (4, .ref a4), (5, .int x5)]) : W p l e room_1 s m args below meth c H locs cells slots Q (F0 m 1885 ls []) := by
  have hx := hC.1.1
  have hb := hC.1.2.1
  rw [g_law30] at hf
  refine lv_aload_n hx hb dL_law_1885 rfl (lv_at hl 1 rfl) ?_
  refine lv_aload_n hx hb dL_law_1886 rfl (lv_at hl 0 rfl) ?_
  refine lv_iload hx hb dL_law_1887 (lv_at hl 5 rfl) ?_
  refine lv_iconst (v := 1) hx hb dL_law_1889 (by decide) ?_
  refine lv_iadd hx hb dL_law_1890 ?_
  refine mm_sld hC hM hsX hbl hbA (hsc 1 (by decide)).1 (hsc 1 (by decide)).2 dL_law_1891 ?_
  refine lv_aload_n hx hb dL_law_1892 rfl (lv_at hl 0 rfl) ?_
  refine lv_iload hx hb dL_law_1893 (lv_at hl 5 rfl) ?_
  refine lv_iconst (v := 2) hx hb dL_law_1895 (by decide) ?_
  refine lv_iadd hx hb dL_law_1896 ?_
  refine mm_sld hC hM hsX hbl hbA (hsc 2 (by decide)).1 (hsc 2 (by decide)).2 dL_law_1897 ?_
  refine lv_aload_n hx hb dL_law_1898 rfl (lv_at hl 3 rfl) ?_
  obtain ⟨q1899, hq1899, hf⟩ := mm_bd hf
  refine mm_SiW (rest := []) hC hM (c_L_blockedMove l hfl hq1899 hp_p1 hp_p3 (by omega)) q5_100 q1_0 ykL_blockedMove q5_98 q5_99 ⟨rfl, rfl⟩ ⟨Nat.le_of_ble_eq_true rfl, Nat.le_of_ble_eq_true rfl⟩ rfl hl.1 rfl (Nat.le_of_ble_eq_true rfl) dL_law_1899 ⟨by omega, by omega⟩ (fun r w1899 H locs hM hw => ?_)
  obtain ⟨hr, hn_p3, hfr⟩ := hw
  rw [hr]
  have hp_p1 := hp_p1.keep hfr (by omega)
  have hp_p2 := hp_p2.keep hfr (by omega)
  have hp_p4 := hfr.keep hp_p4 (by omega)
  have hp_p3 := hn_p3
  refine lv_istore (lv' := [(6, .int q1899.1), (0, .ref b), (1, .ref b1), (2, .ref b2), (3, .ref a3), (4, .ref a4), (5, .int x5)]) hx hb dL_law_1902 hl (by decide) rfl (fun ls hl => ?_)
  refine lv_aload_n hx hb dL_law_1904 rfl (lv_at hl 3 rfl) ?_
  refine lv_aload_n hx hb dL_law_1905 rfl (lv_at hl 1 rfl) ?_
  refine lv_iload hx hb dL_law_1906 (lv_at hl 6 rfl) ?_
  refine lv_iconst (v := 1) hx hb dL_law_1908 (by decide) ?_
  refine lv_iadd hx hb dL_law_1909 ?_
  refine mm_sld hC hM hsX hbl hbA (hsc 1 (by decide)).1 (hsc 1 (by decide)).2 dL_law_1910 ?_
  refine lv_aload_n hx hb dL_law_1911 rfl (lv_at hl 1 rfl) ?_
  refine lv_iload hx hb dL_law_1912 (lv_at hl 6 rfl) ?_
  refine lv_iconst (v := 2) hx hb dL_law_1914 (by decide) ?_
  refine lv_iadd hx hb dL_law_1915 ?_
  refine mm_sld hC hM hsX hbl hbA (hsc 2 (by decide)).1 (hsc 2 (by decide)).2 dL_law_1916 ?_
  obtain ⟨q1917, hq1917, hf⟩ := mm_bd hf
  refine mm_Vi (rest := []) hC hM (c_X13_blockedMove l hq1917 hp_p2) q8_113 q1_12 ykX13_blockedMove q8_110 q8_111 q8_112 hp_p2.1 rfl ⟨rfl, rfl⟩ ⟨Nat.le_of_ble_eq_true rfl, Nat.le_of_ble_eq_true rfl⟩ rfl hl.1 rfl (Nat.le_of_ble_eq_true rfl) dL_law_1917 ⟨by omega, by omega⟩ (fun r w1917 H locs hM hw => ?_)
  obtain ⟨hr, hn_this, hfr⟩ := hw
  rw [hr]
  have hp_p1 := hp_p1.keep hfr (by omega)
  have hp_p3 := hfr.keep hp_p3 (by omega)
  have hp_p4 := hfr.keep hp_p4 (by omega)
  have hp_p2 := hn_this
  refine lv_istore (lv' := [(7, .int q1917.1), (6, .int q1899.1), (0, .ref b), (1, .ref b1), (2, .ref b2), (3, .ref a3), (4, .ref a4), (5, .int x5)]) hx hb dL_law_1920 hl (by decide) rfl (fun ls hl => ?_)
  refine lv_aload_n hx hb dL_law_1922 rfl (lv_at hl 4 rfl) ?_
  obtain ⟨q1923, hq1923, hf⟩ := mm_bd hf
  refine mm_Vi (rest := []) hC hM (c_X13_thrown l hq1923 hp_p2) q7_87 q1_12 ykX13_thrown q7_84 q7_85 q7_86 hp_p2.1 rfl ⟨rfl, rfl⟩ ⟨Nat.le_of_ble_eq_true rfl, Nat.le_of_ble_eq_true rfl⟩ rfl hl.1 rfl (Nat.le_of_ble_eq_true rfl) dL_law_1923 ⟨by omega, by omega⟩ (fun r w1923 H locs hM hw => ?_)
  obtain ⟨hr, hw⟩ := hw
  rw [hr]
  rw [hw] at hM
  refine lv_iload hx hb dL_law_1926 (lv_at hl 1 rfl) ?_
  refine lv_icmp_eq (tgt := 1933) hx hb dL_law_1928 (by decide) (fun hcd => ?_) (fun hcd => ?_)
  · rw [if_pos hcd] at hf
    refine lv_iload hx hb dL_law_1933 (lv_at hl 1 rfl) ?_
    refine lv_if_ne (tgt := 1950) hx hb dL_law_1935 (by decide) (fun hcd => ?_) (fun hcd => ?_)
    · rw [if_neg hcd] at hf
      refine lv_goto (tgt := 3345) hx hb dL_law_1950 (by decide) ?_
      cases hf
      exact W.widen (by omega) (by omega) (hk _ _ _ hM hp_p1 hp_p2 hp_p3 hp_p4 _ (lv_sub hl [2, 3, 4, 5, 6, 7] rfl))
    · rw [if_pos hcd] at hf
      refine lv_aload_n hx hb dL_law_1938 rfl (lv_at hl 5 rfl) ?_
      refine lv_iconst (v := 0) hx hb dL_law_1939 (by decide) ?_
      refine mm_lald0 hC hM hp_p3 dL_law_1940 ?_
      refine lv_iload hx hb dL_law_1941 (lv_at hl 0 rfl) ?_
      refine lv_i2l hx hb dL_law_1943 rfl ?_
      refine W.lcmp hx hb dL_law_1944 ?_
      refine lv_if_eq (tgt := 1950) hx hb dL_law_1945 (by decide) (fun hcd => ?_) (fun hcd => ?_)
      · rw [if_pos hcd] at hf
        refine lv_goto (tgt := 3345) hx hb dL_law_1950 (by decide) ?_
        cases hf
        exact W.widen (by omega) (by omega) (hk _ _ _ hM hp_p1 hp_p2 hp_p3 hp_p4 _ (lv_sub hl [2, 3, 4, 5, 6, 7] rfl))
      · rw [if_neg hcd] at hf
        refine lv_iconst (v := 0) hx hb dL_law_1948 (by decide) ?_
        cases hf
  · rw [if_neg hcd] at hf
    refine lv_iconst (v := 0) hx hb dL_law_1931 (by decide) ?_
    cases hf
def g_law31 (K : Nat) (p1_marsh_reeds_states : Nat → Int32) (p1_marsh_fleet_numbers : Nat → Int32) (p1_marsh_fleet_cells : Nat → Int32) (p1_marsh_fleet_count : Int32) (p1_ways_tolls : Nat → Int32) (p1_ways_queue : Nat → Int32) (p1_ways_found : Nat → Int32) (p2_v : Nat → Int32) (p2_far : Nat → Int32) (p3 : Nat → Int64) (x1 : Int32) (x2 : Int32) (x3 : Int32) : Option ((Nat → Int32) × (Nat → Int32) × (Nat → Int32) × Int32 × (Nat → Int32) × (Nat → Int64)) := (f_L_wayLength K p1_marsh_reeds_states p1_marsh_fleet_numbers p1_marsh_fleet_cells p1_marsh_fleet_count p1_ways_tolls p1_ways_queue p1_ways_found p3 x1 x2 x3).bind fun q1973 => (f_X13_wayLength K p2_v p2_far x1 x2 x3).bind fun q1997 => (f_X13_thrown q1997.2.1).bind fun q2003 => if q2003 = q1973.1 then if q1973.1 = 0 then if (lg_cmp (q1973.2.2.2.2 0) q1997.1.toInt64) = 0 then some (q1973.2.1, q1973.2.2.1, q1973.2.2.2.1, q1997.2.1, q1997.2.2, q1973.2.2.2.2) else none else some (q1973.2.1, q1973.2.2.1, q1973.2.2.2.1, q1997.2.1, q1997.2.2, q1973.2.2.2.2) else none
set_option maxHeartbeats 4000000 in
set_option maxRecDepth 100000 in
theorem g_law31_c (hC : mm_C G A p s m c code 10 args "MirrorFerryLaw") (hsX : va_X b L xs s s.heap) (hbl : b < s.heap.size) (hbA : ¬ A b) (hd1 : b1 + 152 ≤ b2) (hd2 : b2 + 13 ≤ a3) (hd3 : a3 + 1 ≤ a4) (hrc : cells + 1000 ≤ room_1.cells) (hrs : slots + 10000 ≤ room_1.slots) (hfl : l.stackTraces = false) {K : Nat} {p1_marsh_reeds_states : Nat → Int32} {p1_marsh_reeds_count : Int32} {p1_marsh_reeds_broken : Int32} {p1_marsh_fleet_numbers : Nat → Int32} {p1_marsh_fleet_cells : Nat → Int32} {p1_marsh_fleet_fares : Nat → Int32} {p1_marsh_fleet_count : Int32} {p1_marsh_fleet_nextNumber : Int32} {p1_marsh_fleet_total : Int32} {p1_marsh_fleet_removedFares : Int32} {p1_marsh_fleet_meetings : Int32} {p1_marsh_plans_moves : Nat → Int32} {p1_marsh_plans_lengths : Nat → Int32} {p1_marsh_landings_cells : Nat → Int32} {p1_marsh_landings_count : Int32} {p1_marsh_fogSide : Int32} {p1_snapshot_reeds_states : Nat → Int32} {p1_snapshot_reeds_count : Int32} {p1_snapshot_reeds_broken : Int32} {p1_snapshot_fleet_numbers : Nat → Int32} {p1_snapshot_fleet_cells : Nat → Int32} {p1_snapshot_fleet_fares : Nat → Int32} {p1_snapshot_fleet_count : Int32} {p1_snapshot_fleet_nextNumber : Int32} {p1_snapshot_fleet_total : Int32} {p1_snapshot_fleet_removedFares : Int32} {p1_snapshot_fleet_meetings : Int32} {p1_snapshot_plans_moves : Nat → Int32} {p1_snapshot_plans_lengths : Nat → Int32} {p1_snapshot_landings_cells : Nat → Int32} {p1_snapshot_landings_count : Int32} {p1_snapshot_fogSide : Int32} {p1_history_slots : Nat → mm_MV} {p1_history_free : Int32} {p1_history_count : Int32} {p1_ways_tolls : Nat → Int32} {p1_ways_queue : Nat → Int32} {p1_ways_heap : Nat → Int32} {p1_ways_heapSize : Int32} {p1_ways_found : Nat → Int32} {p1_ways_improved : Nat → Int32} {p1_pairing_costs : Nat → Int32} {p1_pairing_best : Nat → Int32} {p1_reader_kinds : Nat → Int32} {p1_reader_starts : Nat → Int32} {p1_reader_count : Int32} {p1_commandText_signs : Nat → Int32} {p1_commandText_length : Int32} {p1_line_signs : Nat → Int32} {p1_line_length : Int32} {p1_spareMoves : Nat → Int32} {p1_snapshotTaken : Int32} {p1_lastErrorPosition : Int32} {p1_lastFailedCommand : Int32} {p2_thrown : Int32} {p2_changes : Int32} {p2_errorAt : Int32} {p2_failedAt : Int32} {p2_isSaved : Int32} {p2_v : Nat → Int32} {p2_before : Nat → Int32} {p2_saved : Nat → Int32} {p2_past : Nat → Int32} {p2_far : Nat → Int32} {p2_scratch : Nat → Int32} {p2_best : Nat → Int32} {p2_thenX : Int32} {p2_thenY : Int32} {p2_thenMet : Int32} {p2_text : Nat → Int32} {p2_line : Nat → Int32} {p2_isLeft : Nat → Int32} {p2_words : Nat → Int32} {p2_wordAt : Nat → Int32} {p2_textN : Int32} {p2_hereP : Int32} {p2_endP : Int32} {p2_lineN : Int32} {p2_isWrong : Int32} {p2_isDoing : Int32} {p3 : Nat → Int64} {p4 : Nat → UInt64} {x0 x1 x2 x3 x4 x5 : Int32} {X : (Nat → Int32) × (Nat → Int32) × (Nat → Int32) × Int32 × (Nat → Int32) × (Nat → Int64)} (hf : g_law31 K p1_marsh_reeds_states p1_marsh_fleet_numbers p1_marsh_fleet_cells p1_marsh_fleet_count p1_ways_tolls p1_ways_queue p1_ways_found p2_v p2_far p3 x1 x2 x3 = some X) (hp_p1 : At12 G w b1 p1_marsh_reeds_states p1_marsh_reeds_count p1_marsh_reeds_broken p1_marsh_fleet_numbers p1_marsh_fleet_cells p1_marsh_fleet_fares p1_marsh_fleet_count p1_marsh_fleet_nextNumber p1_marsh_fleet_total p1_marsh_fleet_removedFares p1_marsh_fleet_meetings p1_marsh_plans_moves p1_marsh_plans_lengths p1_marsh_landings_cells p1_marsh_landings_count p1_marsh_fogSide p1_snapshot_reeds_states p1_snapshot_reeds_count p1_snapshot_reeds_broken p1_snapshot_fleet_numbers p1_snapshot_fleet_cells p1_snapshot_fleet_fares p1_snapshot_fleet_count p1_snapshot_fleet_nextNumber p1_snapshot_fleet_total p1_snapshot_fleet_removedFares p1_snapshot_fleet_meetings p1_snapshot_plans_moves p1_snapshot_plans_lengths p1_snapshot_landings_cells p1_snapshot_landings_count p1_snapshot_fogSide p1_history_slots p1_history_free p1_history_count p1_ways_tolls p1_ways_queue p1_ways_heap p1_ways_heapSize p1_ways_found p1_ways_improved p1_pairing_costs p1_pairing_best p1_reader_kinds p1_reader_starts p1_reader_count p1_commandText_signs p1_commandText_length p1_line_signs p1_line_length p1_spareMoves p1_snapshotTaken p1_lastErrorPosition p1_lastFailedCommand) (hp_p2 : At13 G w b2 p2_thrown p2_changes p2_errorAt p2_failedAt p2_isSaved p2_v p2_before p2_saved p2_past p2_far p2_scratch p2_best p2_thenX p2_thenY p2_thenMet p2_text p2_line p2_isLeft p2_words p2_wordAt p2_textN p2_hereP p2_endP p2_lineN p2_isWrong p2_isDoing) (hp_p3 : (a3, (.inl (G.2 3, 1, .inr (.inl p3)) : va_E)) ∈ w) (hp_p4 : (a4, (.inl (G.2 4, 1, .inr (.inr (.inr (.inl p4)))) : va_E)) ∈ w)
    (hsc : ∀ k : Nat, k < 5 → vp_in (x5 + Int32.ofNat k) L ∧ xs (x5 + Int32.ofNat k).toNatClampNeg = mm_x5 x0 x1 x2 x3 x4 k) (hM : mm_S G A s.heap w H locs)
    (hk : ∀ (w : va_W) (H : Heap) (locs : List Loc), mm_S G A s.heap w H locs → At12 G w b1 p1_marsh_reeds_states p1_marsh_reeds_count p1_marsh_reeds_broken p1_marsh_fleet_numbers p1_marsh_fleet_cells p1_marsh_fleet_fares p1_marsh_fleet_count p1_marsh_fleet_nextNumber p1_marsh_fleet_total p1_marsh_fleet_removedFares p1_marsh_fleet_meetings p1_marsh_plans_moves p1_marsh_plans_lengths p1_marsh_landings_cells p1_marsh_landings_count p1_marsh_fogSide p1_snapshot_reeds_states p1_snapshot_reeds_count p1_snapshot_reeds_broken p1_snapshot_fleet_numbers p1_snapshot_fleet_cells p1_snapshot_fleet_fares p1_snapshot_fleet_count p1_snapshot_fleet_nextNumber p1_snapshot_fleet_total p1_snapshot_fleet_removedFares p1_snapshot_fleet_meetings p1_snapshot_plans_moves p1_snapshot_plans_lengths p1_snapshot_landings_cells p1_snapshot_landings_count p1_snapshot_fogSide p1_history_slots p1_history_free p1_history_count X.1 X.2.1 p1_ways_heap p1_ways_heapSize X.2.2.1 p1_ways_improved p1_pairing_costs p1_pairing_best p1_reader_kinds p1_reader_starts p1_reader_count p1_commandText_signs p1_commandText_length p1_line_signs p1_line_length p1_spareMoves p1_snapshotTaken p1_lastErrorPosition p1_lastFailedCommand → At13 G w b2 X.2.2.2.1 p2_changes p2_errorAt p2_failedAt p2_isSaved p2_v p2_before p2_saved p2_past X.2.2.2.2.1 p2_scratch p2_best p2_thenX p2_thenY p2_thenMet p2_text p2_line p2_isLeft p2_words p2_wordAt p2_textN p2_hereP p2_endP p2_lineN p2_isWrong p2_isDoing → (a3, (.inl (G.2 3, 1, .inr (.inl X.2.2.2.2.2)) : va_E)) ∈ w → (a4, (.inl (G.2 4, 1, .inr (.inr (.inr (.inl p4)))) : va_E)) ∈ w → ∀ ls, lv_has ls 10 [(0, .ref b), (1, .ref b1), (2, .ref b2), (3, .ref a3), (4, .ref a4), (5, .int x5)] → W p l e room_1 s m args below meth c H locs (cells + 1000) (slots + 10000) Q (F0 m 3345 ls [])) (ls : Array Slot) (hl : lv_has ls 10 [(0, .ref b), (1, .ref b1), (2, .ref b2), (3, .ref a3), (4, .ref a4), (5, .int x5)]) : W p l e room_1 s m args below meth c H locs cells slots Q (F0 m 1953 ls []) := by
  have hx := hC.1.1
  have hb := hC.1.2.1
  rw [g_law31] at hf
  refine lv_aload_n hx hb dL_law_1953 rfl (lv_at hl 1 rfl) ?_
  refine lv_aload_n hx hb dL_law_1954 rfl (lv_at hl 0 rfl) ?_
  refine lv_iload hx hb dL_law_1955 (lv_at hl 5 rfl) ?_
  refine lv_iconst (v := 1) hx hb dL_law_1957 (by decide) ?_
  refine lv_iadd hx hb dL_law_1958 ?_
  refine mm_sld hC hM hsX hbl hbA (hsc 1 (by decide)).1 (hsc 1 (by decide)).2 dL_law_1959 ?_
  refine lv_aload_n hx hb dL_law_1960 rfl (lv_at hl 0 rfl) ?_
  refine lv_iload hx hb dL_law_1961 (lv_at hl 5 rfl) ?_
  refine lv_iconst (v := 2) hx hb dL_law_1963 (by decide) ?_
  refine lv_iadd hx hb dL_law_1964 ?_
  refine mm_sld hC hM hsX hbl hbA (hsc 2 (by decide)).1 (hsc 2 (by decide)).2 dL_law_1965 ?_
  refine lv_aload_n hx hb dL_law_1966 rfl (lv_at hl 0 rfl) ?_
  refine lv_iload hx hb dL_law_1967 (lv_at hl 5 rfl) ?_
  refine lv_iconst (v := 3) hx hb dL_law_1969 (by decide) ?_
  refine lv_iadd hx hb dL_law_1970 ?_
  refine mm_sld hC hM hsX hbl hbA (hsc 3 (by decide)).1 (hsc 3 (by decide)).2 dL_law_1971 ?_
  refine lv_aload_n hx hb dL_law_1972 rfl (lv_at hl 3 rfl) ?_
  obtain ⟨q1973, hq1973, hf⟩ := mm_bd hf
  refine mm_SiW (rest := []) hC hM (c_L_wayLength l hfl hq1973 hp_p1 hp_p3 (by omega)) q5_108 q1_0 ykL_wayLength q5_106 q5_107 ⟨rfl, rfl⟩ ⟨Nat.le_of_ble_eq_true rfl, Nat.le_of_ble_eq_true rfl⟩ rfl hl.1 rfl (Nat.le_of_ble_eq_true rfl) dL_law_1973 ⟨by omega, by omega⟩ (fun r w1973 H locs hM hw => ?_)
  obtain ⟨hr, hn_p0, hn_p4, hfr⟩ := hw
  rw [hr]
  have hp_p2 := hp_p2.keep2 hfr (by omega) (by omega)
  have hp_p4 := hfr.keep hp_p4 (by omega) (by omega)
  have hp_p1 := hn_p0
  have hp_p3 := hn_p4
  refine lv_istore (lv' := [(6, .int q1973.1), (0, .ref b), (1, .ref b1), (2, .ref b2), (3, .ref a3), (4, .ref a4), (5, .int x5)]) hx hb dL_law_1976 hl (by decide) rfl (fun ls hl => ?_)
  refine lv_aload_n hx hb dL_law_1978 rfl (lv_at hl 3 rfl) ?_
  refine lv_aload_n hx hb dL_law_1979 rfl (lv_at hl 1 rfl) ?_
  refine lv_iload hx hb dL_law_1980 (lv_at hl 6 rfl) ?_
  refine lv_iconst (v := 1) hx hb dL_law_1982 (by decide) ?_
  refine lv_iadd hx hb dL_law_1983 ?_
  refine mm_sld hC hM hsX hbl hbA (hsc 1 (by decide)).1 (hsc 1 (by decide)).2 dL_law_1984 ?_
  refine lv_aload_n hx hb dL_law_1985 rfl (lv_at hl 1 rfl) ?_
  refine lv_iload hx hb dL_law_1986 (lv_at hl 6 rfl) ?_
  refine lv_iconst (v := 2) hx hb dL_law_1988 (by decide) ?_
  refine lv_iadd hx hb dL_law_1989 ?_
  refine mm_sld hC hM hsX hbl hbA (hsc 2 (by decide)).1 (hsc 2 (by decide)).2 dL_law_1990 ?_
  refine lv_aload_n hx hb dL_law_1991 rfl (lv_at hl 1 rfl) ?_
  refine lv_iload hx hb dL_law_1992 (lv_at hl 6 rfl) ?_
  refine lv_iconst (v := 3) hx hb dL_law_1994 (by decide) ?_
  refine lv_iadd hx hb dL_law_1995 ?_
  refine mm_sld hC hM hsX hbl hbA (hsc 3 (by decide)).1 (hsc 3 (by decide)).2 dL_law_1996 ?_
  obtain ⟨q1997, hq1997, hf⟩ := mm_bd hf
  refine mm_Vi (rest := []) hC hM (c_X13_wayLength l hq1997 hp_p2) q8_117 q1_12 ykX13_wayLength q8_114 q8_115 q8_116 hp_p2.1 rfl ⟨rfl, rfl⟩ ⟨Nat.le_of_ble_eq_true rfl, Nat.le_of_ble_eq_true rfl⟩ rfl hl.1 rfl (Nat.le_of_ble_eq_true rfl) dL_law_1997 ⟨by omega, by omega⟩ (fun r w1997 H locs hM hw => ?_)
  obtain ⟨hr, hn_this, hfr⟩ := hw
  rw [hr]
  have hp_p1 := hp_p1.keep hfr (by omega)
  have hp_p3 := hfr.keep hp_p3 (by omega)
  have hp_p4 := hfr.keep hp_p4 (by omega)
  have hp_p2 := hn_this
  refine lv_istore (lv' := [(7, .int q1997.1), (6, .int q1973.1), (0, .ref b), (1, .ref b1), (2, .ref b2), (3, .ref a3), (4, .ref a4), (5, .int x5)]) hx hb dL_law_2000 hl (by decide) rfl (fun ls hl => ?_)
  refine lv_aload_n hx hb dL_law_2002 rfl (lv_at hl 4 rfl) ?_
  obtain ⟨q2003, hq2003, hf⟩ := mm_bd hf
  refine mm_Vi (rest := []) hC hM (c_X13_thrown l hq2003 hp_p2) q7_87 q1_12 ykX13_thrown q7_84 q7_85 q7_86 hp_p2.1 rfl ⟨rfl, rfl⟩ ⟨Nat.le_of_ble_eq_true rfl, Nat.le_of_ble_eq_true rfl⟩ rfl hl.1 rfl (Nat.le_of_ble_eq_true rfl) dL_law_2003 ⟨by omega, by omega⟩ (fun r w2003 H locs hM hw => ?_)
  obtain ⟨hr, hw⟩ := hw
  rw [hr]
  rw [hw] at hM
  refine lv_iload hx hb dL_law_2006 (lv_at hl 1 rfl) ?_
  refine lv_icmp_eq (tgt := 2013) hx hb dL_law_2008 (by decide) (fun hcd => ?_) (fun hcd => ?_)
  · rw [if_pos hcd] at hf
    refine lv_iload hx hb dL_law_2013 (lv_at hl 1 rfl) ?_
    refine lv_if_ne (tgt := 2030) hx hb dL_law_2015 (by decide) (fun hcd => ?_) (fun hcd => ?_)
    · rw [if_neg hcd] at hf
      refine lv_goto (tgt := 3345) hx hb dL_law_2030 (by decide) ?_
      cases hf
      exact W.widen (by omega) (by omega) (hk _ _ _ hM hp_p1 hp_p2 hp_p3 hp_p4 _ (lv_sub hl [2, 3, 4, 5, 6, 7] rfl))
    · rw [if_pos hcd] at hf
      refine lv_aload_n hx hb dL_law_2018 rfl (lv_at hl 5 rfl) ?_
      refine lv_iconst (v := 0) hx hb dL_law_2019 (by decide) ?_
      refine mm_lald0 hC hM hp_p3 dL_law_2020 ?_
      refine lv_iload hx hb dL_law_2021 (lv_at hl 0 rfl) ?_
      refine lv_i2l hx hb dL_law_2023 rfl ?_
      refine W.lcmp hx hb dL_law_2024 ?_
      refine lv_if_eq (tgt := 2030) hx hb dL_law_2025 (by decide) (fun hcd => ?_) (fun hcd => ?_)
      · rw [if_pos hcd] at hf
        refine lv_goto (tgt := 3345) hx hb dL_law_2030 (by decide) ?_
        cases hf
        exact W.widen (by omega) (by omega) (hk _ _ _ hM hp_p1 hp_p2 hp_p3 hp_p4 _ (lv_sub hl [2, 3, 4, 5, 6, 7] rfl))
      · rw [if_neg hcd] at hf
        refine lv_iconst (v := 0) hx hb dL_law_2028 (by decide) ?_
        cases hf
  · rw [if_neg hcd] at hf
    refine lv_iconst (v := 0) hx hb dL_law_2011 (by decide) ?_
    cases hf
def g_law32 (K : Nat) (p1_marsh_reeds_states : Nat → Int32) (p1_marsh_fleet_numbers : Nat → Int32) (p1_marsh_fleet_cells : Nat → Int32) (p1_marsh_fleet_count : Int32) (p1_ways_tolls : Nat → Int32) (p1_ways_improved : Nat → Int32) (p2_v : Nat → Int32) (p2_far : Nat → Int32) (p3 : Nat → Int64) (x1 : Int32) (x2 : Int32) (x3 : Int32) : Option ((Nat → Int32) × (Nat → Int32) × Int32 × (Nat → Int32) × (Nat → Int64)) := (f_L_wayLengthByRounds K p1_marsh_reeds_states p1_marsh_fleet_numbers p1_marsh_fleet_cells p1_marsh_fleet_count p1_ways_tolls p1_ways_improved p3 x1 x2 x3).bind fun q2053 => (f_X13_wayLengthByRounds K p2_v p2_far x1 x2 x3).bind fun q2077 => (f_X13_thrown q2077.2.1).bind fun q2083 => if q2083 = q2053.1 then if q2053.1 = 0 then if (lg_cmp (q2053.2.2.2 0) q2077.1.toInt64) = 0 then some (q2053.2.1, q2053.2.2.1, q2077.2.1, q2077.2.2, q2053.2.2.2) else none else some (q2053.2.1, q2053.2.2.1, q2077.2.1, q2077.2.2, q2053.2.2.2) else none
set_option maxHeartbeats 4000000 in
set_option maxRecDepth 100000 in
theorem g_law32_c (hC : mm_C G A p s m c code 10 args "MirrorFerryLaw") (hsX : va_X b L xs s s.heap) (hbl : b < s.heap.size) (hbA : ¬ A b) (hd1 : b1 + 152 ≤ b2) (hd2 : b2 + 13 ≤ a3) (hd3 : a3 + 1 ≤ a4) (hrc : cells + 1000 ≤ room_1.cells) (hrs : slots + 10000 ≤ room_1.slots) (hfl : l.stackTraces = false) {K : Nat} {p1_marsh_reeds_states : Nat → Int32} {p1_marsh_reeds_count : Int32} {p1_marsh_reeds_broken : Int32} {p1_marsh_fleet_numbers : Nat → Int32} {p1_marsh_fleet_cells : Nat → Int32} {p1_marsh_fleet_fares : Nat → Int32} {p1_marsh_fleet_count : Int32} {p1_marsh_fleet_nextNumber : Int32} {p1_marsh_fleet_total : Int32} {p1_marsh_fleet_removedFares : Int32} {p1_marsh_fleet_meetings : Int32} {p1_marsh_plans_moves : Nat → Int32} {p1_marsh_plans_lengths : Nat → Int32} {p1_marsh_landings_cells : Nat → Int32} {p1_marsh_landings_count : Int32} {p1_marsh_fogSide : Int32} {p1_snapshot_reeds_states : Nat → Int32} {p1_snapshot_reeds_count : Int32} {p1_snapshot_reeds_broken : Int32} {p1_snapshot_fleet_numbers : Nat → Int32} {p1_snapshot_fleet_cells : Nat → Int32} {p1_snapshot_fleet_fares : Nat → Int32} {p1_snapshot_fleet_count : Int32} {p1_snapshot_fleet_nextNumber : Int32} {p1_snapshot_fleet_total : Int32} {p1_snapshot_fleet_removedFares : Int32} {p1_snapshot_fleet_meetings : Int32} {p1_snapshot_plans_moves : Nat → Int32} {p1_snapshot_plans_lengths : Nat → Int32} {p1_snapshot_landings_cells : Nat → Int32} {p1_snapshot_landings_count : Int32} {p1_snapshot_fogSide : Int32} {p1_history_slots : Nat → mm_MV} {p1_history_free : Int32} {p1_history_count : Int32} {p1_ways_tolls : Nat → Int32} {p1_ways_queue : Nat → Int32} {p1_ways_heap : Nat → Int32} {p1_ways_heapSize : Int32} {p1_ways_found : Nat → Int32} {p1_ways_improved : Nat → Int32} {p1_pairing_costs : Nat → Int32} {p1_pairing_best : Nat → Int32} {p1_reader_kinds : Nat → Int32} {p1_reader_starts : Nat → Int32} {p1_reader_count : Int32} {p1_commandText_signs : Nat → Int32} {p1_commandText_length : Int32} {p1_line_signs : Nat → Int32} {p1_line_length : Int32} {p1_spareMoves : Nat → Int32} {p1_snapshotTaken : Int32} {p1_lastErrorPosition : Int32} {p1_lastFailedCommand : Int32} {p2_thrown : Int32} {p2_changes : Int32} {p2_errorAt : Int32} {p2_failedAt : Int32} {p2_isSaved : Int32} {p2_v : Nat → Int32} {p2_before : Nat → Int32} {p2_saved : Nat → Int32} {p2_past : Nat → Int32} {p2_far : Nat → Int32} {p2_scratch : Nat → Int32} {p2_best : Nat → Int32} {p2_thenX : Int32} {p2_thenY : Int32} {p2_thenMet : Int32} {p2_text : Nat → Int32} {p2_line : Nat → Int32} {p2_isLeft : Nat → Int32} {p2_words : Nat → Int32} {p2_wordAt : Nat → Int32} {p2_textN : Int32} {p2_hereP : Int32} {p2_endP : Int32} {p2_lineN : Int32} {p2_isWrong : Int32} {p2_isDoing : Int32} {p3 : Nat → Int64} {p4 : Nat → UInt64} {x0 x1 x2 x3 x4 x5 : Int32} {X : (Nat → Int32) × (Nat → Int32) × Int32 × (Nat → Int32) × (Nat → Int64)} (hf : g_law32 K p1_marsh_reeds_states p1_marsh_fleet_numbers p1_marsh_fleet_cells p1_marsh_fleet_count p1_ways_tolls p1_ways_improved p2_v p2_far p3 x1 x2 x3 = some X) (hp_p1 : At12 G w b1 p1_marsh_reeds_states p1_marsh_reeds_count p1_marsh_reeds_broken p1_marsh_fleet_numbers p1_marsh_fleet_cells p1_marsh_fleet_fares p1_marsh_fleet_count p1_marsh_fleet_nextNumber p1_marsh_fleet_total p1_marsh_fleet_removedFares p1_marsh_fleet_meetings p1_marsh_plans_moves p1_marsh_plans_lengths p1_marsh_landings_cells p1_marsh_landings_count p1_marsh_fogSide p1_snapshot_reeds_states p1_snapshot_reeds_count p1_snapshot_reeds_broken p1_snapshot_fleet_numbers p1_snapshot_fleet_cells p1_snapshot_fleet_fares p1_snapshot_fleet_count p1_snapshot_fleet_nextNumber p1_snapshot_fleet_total p1_snapshot_fleet_removedFares p1_snapshot_fleet_meetings p1_snapshot_plans_moves p1_snapshot_plans_lengths p1_snapshot_landings_cells p1_snapshot_landings_count p1_snapshot_fogSide p1_history_slots p1_history_free p1_history_count p1_ways_tolls p1_ways_queue p1_ways_heap p1_ways_heapSize p1_ways_found p1_ways_improved p1_pairing_costs p1_pairing_best p1_reader_kinds p1_reader_starts p1_reader_count p1_commandText_signs p1_commandText_length p1_line_signs p1_line_length p1_spareMoves p1_snapshotTaken p1_lastErrorPosition p1_lastFailedCommand) (hp_p2 : At13 G w b2 p2_thrown p2_changes p2_errorAt p2_failedAt p2_isSaved p2_v p2_before p2_saved p2_past p2_far p2_scratch p2_best p2_thenX p2_thenY p2_thenMet p2_text p2_line p2_isLeft p2_words p2_wordAt p2_textN p2_hereP p2_endP p2_lineN p2_isWrong p2_isDoing) (hp_p3 : (a3, (.inl (G.2 3, 1, .inr (.inl p3)) : va_E)) ∈ w) (hp_p4 : (a4, (.inl (G.2 4, 1, .inr (.inr (.inr (.inl p4)))) : va_E)) ∈ w)
    (hsc : ∀ k : Nat, k < 5 → vp_in (x5 + Int32.ofNat k) L ∧ xs (x5 + Int32.ofNat k).toNatClampNeg = mm_x5 x0 x1 x2 x3 x4 k) (hM : mm_S G A s.heap w H locs)
    (hk : ∀ (w : va_W) (H : Heap) (locs : List Loc), mm_S G A s.heap w H locs → At12 G w b1 p1_marsh_reeds_states p1_marsh_reeds_count p1_marsh_reeds_broken p1_marsh_fleet_numbers p1_marsh_fleet_cells p1_marsh_fleet_fares p1_marsh_fleet_count p1_marsh_fleet_nextNumber p1_marsh_fleet_total p1_marsh_fleet_removedFares p1_marsh_fleet_meetings p1_marsh_plans_moves p1_marsh_plans_lengths p1_marsh_landings_cells p1_marsh_landings_count p1_marsh_fogSide p1_snapshot_reeds_states p1_snapshot_reeds_count p1_snapshot_reeds_broken p1_snapshot_fleet_numbers p1_snapshot_fleet_cells p1_snapshot_fleet_fares p1_snapshot_fleet_count p1_snapshot_fleet_nextNumber p1_snapshot_fleet_total p1_snapshot_fleet_removedFares p1_snapshot_fleet_meetings p1_snapshot_plans_moves p1_snapshot_plans_lengths p1_snapshot_landings_cells p1_snapshot_landings_count p1_snapshot_fogSide p1_history_slots p1_history_free p1_history_count X.1 p1_ways_queue p1_ways_heap p1_ways_heapSize p1_ways_found X.2.1 p1_pairing_costs p1_pairing_best p1_reader_kinds p1_reader_starts p1_reader_count p1_commandText_signs p1_commandText_length p1_line_signs p1_line_length p1_spareMoves p1_snapshotTaken p1_lastErrorPosition p1_lastFailedCommand → At13 G w b2 X.2.2.1 p2_changes p2_errorAt p2_failedAt p2_isSaved p2_v p2_before p2_saved p2_past X.2.2.2.1 p2_scratch p2_best p2_thenX p2_thenY p2_thenMet p2_text p2_line p2_isLeft p2_words p2_wordAt p2_textN p2_hereP p2_endP p2_lineN p2_isWrong p2_isDoing → (a3, (.inl (G.2 3, 1, .inr (.inl X.2.2.2.2)) : va_E)) ∈ w → (a4, (.inl (G.2 4, 1, .inr (.inr (.inr (.inl p4)))) : va_E)) ∈ w → ∀ ls, lv_has ls 10 [(0, .ref b), (1, .ref b1), (2, .ref b2), (3, .ref a3), (4, .ref a4), (5, .int x5)] → W p l e room_1 s m args below meth c H locs (cells + 1000) (slots + 10000) Q (F0 m 3345 ls [])) (ls : Array Slot) (hl : lv_has ls 10 [(0, .ref b), (1, .ref b1), (2, .ref b2), (3, .ref a3), (4, .ref a4), (5, .int x5)]) : W p l e room_1 s m args below meth c H locs cells slots Q (F0 m 2033 ls []) := by
  have hx := hC.1.1
  have hb := hC.1.2.1
  rw [g_law32] at hf
  refine lv_aload_n hx hb dL_law_2033 rfl (lv_at hl 1 rfl) ?_
  refine lv_aload_n hx hb dL_law_2034 rfl (lv_at hl 0 rfl) ?_
  refine lv_iload hx hb dL_law_2035 (lv_at hl 5 rfl) ?_
  refine lv_iconst (v := 1) hx hb dL_law_2037 (by decide) ?_
  refine lv_iadd hx hb dL_law_2038 ?_
  refine mm_sld hC hM hsX hbl hbA (hsc 1 (by decide)).1 (hsc 1 (by decide)).2 dL_law_2039 ?_
  refine lv_aload_n hx hb dL_law_2040 rfl (lv_at hl 0 rfl) ?_
  refine lv_iload hx hb dL_law_2041 (lv_at hl 5 rfl) ?_
  refine lv_iconst (v := 2) hx hb dL_law_2043 (by decide) ?_
  refine lv_iadd hx hb dL_law_2044 ?_
  refine mm_sld hC hM hsX hbl hbA (hsc 2 (by decide)).1 (hsc 2 (by decide)).2 dL_law_2045 ?_
  refine lv_aload_n hx hb dL_law_2046 rfl (lv_at hl 0 rfl) ?_
  refine lv_iload hx hb dL_law_2047 (lv_at hl 5 rfl) ?_
  refine lv_iconst (v := 3) hx hb dL_law_2049 (by decide) ?_
  refine lv_iadd hx hb dL_law_2050 ?_
  refine mm_sld hC hM hsX hbl hbA (hsc 3 (by decide)).1 (hsc 3 (by decide)).2 dL_law_2051 ?_
  refine lv_aload_n hx hb dL_law_2052 rfl (lv_at hl 3 rfl) ?_
  obtain ⟨q2053, hq2053, hf⟩ := mm_bd hf
  refine mm_SiW (rest := []) hC hM (c_L_wayLengthByRounds l hfl hq2053 hp_p1 hp_p3 (by omega)) q5_119 q1_0 ykL_wayLengthByRounds q5_117 q5_118 ⟨rfl, rfl⟩ ⟨Nat.le_of_ble_eq_true rfl, Nat.le_of_ble_eq_true rfl⟩ rfl hl.1 rfl (Nat.le_of_ble_eq_true rfl) dL_law_2053 ⟨by omega, by omega⟩ (fun r w2053 H locs hM hw => ?_)
  obtain ⟨hr, hn_p0, hn_p4, hfr⟩ := hw
  rw [hr]
  have hp_p2 := hp_p2.keep2 hfr (by omega) (by omega)
  have hp_p4 := hfr.keep hp_p4 (by omega) (by omega)
  have hp_p1 := hn_p0
  have hp_p3 := hn_p4
  refine lv_istore (lv' := [(6, .int q2053.1), (0, .ref b), (1, .ref b1), (2, .ref b2), (3, .ref a3), (4, .ref a4), (5, .int x5)]) hx hb dL_law_2056 hl (by decide) rfl (fun ls hl => ?_)
  refine lv_aload_n hx hb dL_law_2058 rfl (lv_at hl 3 rfl) ?_
  refine lv_aload_n hx hb dL_law_2059 rfl (lv_at hl 1 rfl) ?_
  refine lv_iload hx hb dL_law_2060 (lv_at hl 6 rfl) ?_
  refine lv_iconst (v := 1) hx hb dL_law_2062 (by decide) ?_
  refine lv_iadd hx hb dL_law_2063 ?_
  refine mm_sld hC hM hsX hbl hbA (hsc 1 (by decide)).1 (hsc 1 (by decide)).2 dL_law_2064 ?_
  refine lv_aload_n hx hb dL_law_2065 rfl (lv_at hl 1 rfl) ?_
  refine lv_iload hx hb dL_law_2066 (lv_at hl 6 rfl) ?_
  refine lv_iconst (v := 2) hx hb dL_law_2068 (by decide) ?_
  refine lv_iadd hx hb dL_law_2069 ?_
  refine mm_sld hC hM hsX hbl hbA (hsc 2 (by decide)).1 (hsc 2 (by decide)).2 dL_law_2070 ?_
  refine lv_aload_n hx hb dL_law_2071 rfl (lv_at hl 1 rfl) ?_
  refine lv_iload hx hb dL_law_2072 (lv_at hl 6 rfl) ?_
  refine lv_iconst (v := 3) hx hb dL_law_2074 (by decide) ?_
  refine lv_iadd hx hb dL_law_2075 ?_
  refine mm_sld hC hM hsX hbl hbA (hsc 3 (by decide)).1 (hsc 3 (by decide)).2 dL_law_2076 ?_
  obtain ⟨q2077, hq2077, hf⟩ := mm_bd hf
  refine mm_Vi (rest := []) hC hM (c_X13_wayLengthByRounds l hq2077 hp_p2) q8_142 q1_12 ykX13_wayLengthByRounds q8_139 q8_140 q8_141 hp_p2.1 rfl ⟨rfl, rfl⟩ ⟨Nat.le_of_ble_eq_true rfl, Nat.le_of_ble_eq_true rfl⟩ rfl hl.1 rfl (Nat.le_of_ble_eq_true rfl) dL_law_2077 ⟨by omega, by omega⟩ (fun r w2077 H locs hM hw => ?_)
  obtain ⟨hr, hn_this, hfr⟩ := hw
  rw [hr]
  have hp_p1 := hp_p1.keep hfr (by omega)
  have hp_p3 := hfr.keep hp_p3 (by omega)
  have hp_p4 := hfr.keep hp_p4 (by omega)
  have hp_p2 := hn_this
  refine lv_istore (lv' := [(7, .int q2077.1), (6, .int q2053.1), (0, .ref b), (1, .ref b1), (2, .ref b2), (3, .ref a3), (4, .ref a4), (5, .int x5)]) hx hb dL_law_2080 hl (by decide) rfl (fun ls hl => ?_)
  refine lv_aload_n hx hb dL_law_2082 rfl (lv_at hl 4 rfl) ?_
  obtain ⟨q2083, hq2083, hf⟩ := mm_bd hf
  refine mm_Vi (rest := []) hC hM (c_X13_thrown l hq2083 hp_p2) q7_87 q1_12 ykX13_thrown q7_84 q7_85 q7_86 hp_p2.1 rfl ⟨rfl, rfl⟩ ⟨Nat.le_of_ble_eq_true rfl, Nat.le_of_ble_eq_true rfl⟩ rfl hl.1 rfl (Nat.le_of_ble_eq_true rfl) dL_law_2083 ⟨by omega, by omega⟩ (fun r w2083 H locs hM hw => ?_)
  obtain ⟨hr, hw⟩ := hw
  rw [hr]
  rw [hw] at hM
  refine lv_iload hx hb dL_law_2086 (lv_at hl 1 rfl) ?_
  refine lv_icmp_eq (tgt := 2093) hx hb dL_law_2088 (by decide) (fun hcd => ?_) (fun hcd => ?_)
  · rw [if_pos hcd] at hf
    refine lv_iload hx hb dL_law_2093 (lv_at hl 1 rfl) ?_
    refine lv_if_ne (tgt := 2110) hx hb dL_law_2095 (by decide) (fun hcd => ?_) (fun hcd => ?_)
    · rw [if_neg hcd] at hf
      refine lv_goto (tgt := 3345) hx hb dL_law_2110 (by decide) ?_
      cases hf
      exact W.widen (by omega) (by omega) (hk _ _ _ hM hp_p1 hp_p2 hp_p3 hp_p4 _ (lv_sub hl [2, 3, 4, 5, 6, 7] rfl))
    · rw [if_pos hcd] at hf
      refine lv_aload_n hx hb dL_law_2098 rfl (lv_at hl 5 rfl) ?_
      refine lv_iconst (v := 0) hx hb dL_law_2099 (by decide) ?_
      refine mm_lald0 hC hM hp_p3 dL_law_2100 ?_
      refine lv_iload hx hb dL_law_2101 (lv_at hl 0 rfl) ?_
      refine lv_i2l hx hb dL_law_2103 rfl ?_
      refine W.lcmp hx hb dL_law_2104 ?_
      refine lv_if_eq (tgt := 2110) hx hb dL_law_2105 (by decide) (fun hcd => ?_) (fun hcd => ?_)
      · rw [if_pos hcd] at hf
        refine lv_goto (tgt := 3345) hx hb dL_law_2110 (by decide) ?_
        cases hf
        exact W.widen (by omega) (by omega) (hk _ _ _ hM hp_p1 hp_p2 hp_p3 hp_p4 _ (lv_sub hl [2, 3, 4, 5, 6, 7] rfl))
      · rw [if_neg hcd] at hf
        refine lv_iconst (v := 0) hx hb dL_law_2108 (by decide) ?_
        cases hf
  · rw [if_neg hcd] at hf
    refine lv_iconst (v := 0) hx hb dL_law_2091 (by decide) ?_
    cases hf
def g_law33 (K : Nat) (p1_marsh_reeds_states : Nat → Int32) (p1_marsh_fleet_numbers : Nat → Int32) (p1_marsh_fleet_cells : Nat → Int32) (p1_marsh_fleet_count : Int32) (p1_marsh_fogSide : Int32) (p1_ways_tolls : Nat → Int32) (p1_ways_heap : Nat → Int32) (p1_ways_heapSize : Int32) (p1_ways_found : Nat → Int32) (p2_v : Nat → Int32) (p2_far : Nat → Int32) (p3 : Nat → Int64) (x1 : Int32) (x2 : Int32) (x3 : Int32) : Option ((Nat → Int32) × (Nat → Int32) × Int32 × (Nat → Int32) × Int32 × (Nat → Int32) × (Nat → Int64)) := (f_L_wayCost K p1_marsh_reeds_states p1_marsh_fleet_numbers p1_marsh_fleet_cells p1_marsh_fleet_count p1_marsh_fogSide p1_ways_tolls p1_ways_heap p1_ways_heapSize p1_ways_found p3 x1 x2 x3).bind fun q2133 => (f_X13_wayCost K p2_v p2_far x1 x2 x3).bind fun q2157 => (f_X13_thrown q2157.2.1).bind fun q2163 => if q2163 = q2133.1 then if q2133.1 = 0 then if (lg_cmp (q2133.2.2.2.2.2 0) q2157.1.toInt64) = 0 then some (q2133.2.1, q2133.2.2.1, q2133.2.2.2.1, q2133.2.2.2.2.1, q2157.2.1, q2157.2.2, q2133.2.2.2.2.2) else none else some (q2133.2.1, q2133.2.2.1, q2133.2.2.2.1, q2133.2.2.2.2.1, q2157.2.1, q2157.2.2, q2133.2.2.2.2.2) else none
set_option maxHeartbeats 4000000 in
set_option maxRecDepth 100000 in
theorem g_law33_c (hC : mm_C G A p s m c code 10 args "MirrorFerryLaw") (hsX : va_X b L xs s s.heap) (hbl : b < s.heap.size) (hbA : ¬ A b) (hd1 : b1 + 152 ≤ b2) (hd2 : b2 + 13 ≤ a3) (hd3 : a3 + 1 ≤ a4) (hrc : cells + 1000 ≤ room_1.cells) (hrs : slots + 10000 ≤ room_1.slots) (hfl : l.stackTraces = false) {K : Nat} {p1_marsh_reeds_states : Nat → Int32} {p1_marsh_reeds_count : Int32} {p1_marsh_reeds_broken : Int32} {p1_marsh_fleet_numbers : Nat → Int32} {p1_marsh_fleet_cells : Nat → Int32} {p1_marsh_fleet_fares : Nat → Int32} {p1_marsh_fleet_count : Int32} {p1_marsh_fleet_nextNumber : Int32} {p1_marsh_fleet_total : Int32} {p1_marsh_fleet_removedFares : Int32} {p1_marsh_fleet_meetings : Int32} {p1_marsh_plans_moves : Nat → Int32} {p1_marsh_plans_lengths : Nat → Int32} {p1_marsh_landings_cells : Nat → Int32} {p1_marsh_landings_count : Int32} {p1_marsh_fogSide : Int32} {p1_snapshot_reeds_states : Nat → Int32} {p1_snapshot_reeds_count : Int32} {p1_snapshot_reeds_broken : Int32} {p1_snapshot_fleet_numbers : Nat → Int32} {p1_snapshot_fleet_cells : Nat → Int32} {p1_snapshot_fleet_fares : Nat → Int32} {p1_snapshot_fleet_count : Int32} {p1_snapshot_fleet_nextNumber : Int32} {p1_snapshot_fleet_total : Int32} {p1_snapshot_fleet_removedFares : Int32} {p1_snapshot_fleet_meetings : Int32} {p1_snapshot_plans_moves : Nat → Int32} {p1_snapshot_plans_lengths : Nat → Int32} {p1_snapshot_landings_cells : Nat → Int32} {p1_snapshot_landings_count : Int32} {p1_snapshot_fogSide : Int32} {p1_history_slots : Nat → mm_MV} {p1_history_free : Int32} {p1_history_count : Int32} {p1_ways_tolls : Nat → Int32} {p1_ways_queue : Nat → Int32} {p1_ways_heap : Nat → Int32} {p1_ways_heapSize : Int32} {p1_ways_found : Nat → Int32} {p1_ways_improved : Nat → Int32} {p1_pairing_costs : Nat → Int32} {p1_pairing_best : Nat → Int32} {p1_reader_kinds : Nat → Int32} {p1_reader_starts : Nat → Int32} {p1_reader_count : Int32} {p1_commandText_signs : Nat → Int32} {p1_commandText_length : Int32} {p1_line_signs : Nat → Int32} {p1_line_length : Int32} {p1_spareMoves : Nat → Int32} {p1_snapshotTaken : Int32} {p1_lastErrorPosition : Int32} {p1_lastFailedCommand : Int32} {p2_thrown : Int32} {p2_changes : Int32} {p2_errorAt : Int32} {p2_failedAt : Int32} {p2_isSaved : Int32} {p2_v : Nat → Int32} {p2_before : Nat → Int32} {p2_saved : Nat → Int32} {p2_past : Nat → Int32} {p2_far : Nat → Int32} {p2_scratch : Nat → Int32} {p2_best : Nat → Int32} {p2_thenX : Int32} {p2_thenY : Int32} {p2_thenMet : Int32} {p2_text : Nat → Int32} {p2_line : Nat → Int32} {p2_isLeft : Nat → Int32} {p2_words : Nat → Int32} {p2_wordAt : Nat → Int32} {p2_textN : Int32} {p2_hereP : Int32} {p2_endP : Int32} {p2_lineN : Int32} {p2_isWrong : Int32} {p2_isDoing : Int32} {p3 : Nat → Int64} {p4 : Nat → UInt64} {x0 x1 x2 x3 x4 x5 : Int32} {X : (Nat → Int32) × (Nat → Int32) × Int32 × (Nat → Int32) × Int32 × (Nat → Int32) × (Nat → Int64)} (hf : g_law33 K p1_marsh_reeds_states p1_marsh_fleet_numbers p1_marsh_fleet_cells p1_marsh_fleet_count p1_marsh_fogSide p1_ways_tolls p1_ways_heap p1_ways_heapSize p1_ways_found p2_v p2_far p3 x1 x2 x3 = some X) (hp_p1 : At12 G w b1 p1_marsh_reeds_states p1_marsh_reeds_count p1_marsh_reeds_broken p1_marsh_fleet_numbers p1_marsh_fleet_cells p1_marsh_fleet_fares p1_marsh_fleet_count p1_marsh_fleet_nextNumber p1_marsh_fleet_total p1_marsh_fleet_removedFares p1_marsh_fleet_meetings p1_marsh_plans_moves p1_marsh_plans_lengths p1_marsh_landings_cells p1_marsh_landings_count p1_marsh_fogSide p1_snapshot_reeds_states p1_snapshot_reeds_count p1_snapshot_reeds_broken p1_snapshot_fleet_numbers p1_snapshot_fleet_cells p1_snapshot_fleet_fares p1_snapshot_fleet_count p1_snapshot_fleet_nextNumber p1_snapshot_fleet_total p1_snapshot_fleet_removedFares p1_snapshot_fleet_meetings p1_snapshot_plans_moves p1_snapshot_plans_lengths p1_snapshot_landings_cells p1_snapshot_landings_count p1_snapshot_fogSide p1_history_slots p1_history_free p1_history_count p1_ways_tolls p1_ways_queue p1_ways_heap p1_ways_heapSize p1_ways_found p1_ways_improved p1_pairing_costs p1_pairing_best p1_reader_kinds p1_reader_starts p1_reader_count p1_commandText_signs p1_commandText_length p1_line_signs p1_line_length p1_spareMoves p1_snapshotTaken p1_lastErrorPosition p1_lastFailedCommand) (hp_p2 : At13 G w b2 p2_thrown p2_changes p2_errorAt p2_failedAt p2_isSaved p2_v p2_before p2_saved p2_past p2_far p2_scratch p2_best p2_thenX p2_thenY p2_thenMet p2_text p2_line p2_isLeft p2_words p2_wordAt p2_textN p2_hereP p2_endP p2_lineN p2_isWrong p2_isDoing) (hp_p3 : (a3, (.inl (G.2 3, 1, .inr (.inl p3)) : va_E)) ∈ w) (hp_p4 : (a4, (.inl (G.2 4, 1, .inr (.inr (.inr (.inl p4)))) : va_E)) ∈ w)
    (hsc : ∀ k : Nat, k < 5 → vp_in (x5 + Int32.ofNat k) L ∧ xs (x5 + Int32.ofNat k).toNatClampNeg = mm_x5 x0 x1 x2 x3 x4 k) (hM : mm_S G A s.heap w H locs)
    (hk : ∀ (w : va_W) (H : Heap) (locs : List Loc), mm_S G A s.heap w H locs → At12 G w b1 p1_marsh_reeds_states p1_marsh_reeds_count p1_marsh_reeds_broken p1_marsh_fleet_numbers p1_marsh_fleet_cells p1_marsh_fleet_fares p1_marsh_fleet_count p1_marsh_fleet_nextNumber p1_marsh_fleet_total p1_marsh_fleet_removedFares p1_marsh_fleet_meetings p1_marsh_plans_moves p1_marsh_plans_lengths p1_marsh_landings_cells p1_marsh_landings_count p1_marsh_fogSide p1_snapshot_reeds_states p1_snapshot_reeds_count p1_snapshot_reeds_broken p1_snapshot_fleet_numbers p1_snapshot_fleet_cells p1_snapshot_fleet_fares p1_snapshot_fleet_count p1_snapshot_fleet_nextNumber p1_snapshot_fleet_total p1_snapshot_fleet_removedFares p1_snapshot_fleet_meetings p1_snapshot_plans_moves p1_snapshot_plans_lengths p1_snapshot_landings_cells p1_snapshot_landings_count p1_snapshot_fogSide p1_history_slots p1_history_free p1_history_count X.1 p1_ways_queue X.2.1 X.2.2.1 X.2.2.2.1 p1_ways_improved p1_pairing_costs p1_pairing_best p1_reader_kinds p1_reader_starts p1_reader_count p1_commandText_signs p1_commandText_length p1_line_signs p1_line_length p1_spareMoves p1_snapshotTaken p1_lastErrorPosition p1_lastFailedCommand → At13 G w b2 X.2.2.2.2.1 p2_changes p2_errorAt p2_failedAt p2_isSaved p2_v p2_before p2_saved p2_past X.2.2.2.2.2.1 p2_scratch p2_best p2_thenX p2_thenY p2_thenMet p2_text p2_line p2_isLeft p2_words p2_wordAt p2_textN p2_hereP p2_endP p2_lineN p2_isWrong p2_isDoing → (a3, (.inl (G.2 3, 1, .inr (.inl X.2.2.2.2.2.2)) : va_E)) ∈ w → (a4, (.inl (G.2 4, 1, .inr (.inr (.inr (.inl p4)))) : va_E)) ∈ w → ∀ ls, lv_has ls 10 [(0, .ref b), (1, .ref b1), (2, .ref b2), (3, .ref a3), (4, .ref a4), (5, .int x5)] → W p l e room_1 s m args below meth c H locs (cells + 1000) (slots + 10000) Q (F0 m 3345 ls [])) (ls : Array Slot) (hl : lv_has ls 10 [(0, .ref b), (1, .ref b1), (2, .ref b2), (3, .ref a3), (4, .ref a4), (5, .int x5)]) : W p l e room_1 s m args below meth c H locs cells slots Q (F0 m 2113 ls []) := by
  have hx := hC.1.1
  have hb := hC.1.2.1
  rw [g_law33] at hf
  refine lv_aload_n hx hb dL_law_2113 rfl (lv_at hl 1 rfl) ?_
  refine lv_aload_n hx hb dL_law_2114 rfl (lv_at hl 0 rfl) ?_
  refine lv_iload hx hb dL_law_2115 (lv_at hl 5 rfl) ?_
  refine lv_iconst (v := 1) hx hb dL_law_2117 (by decide) ?_
  refine lv_iadd hx hb dL_law_2118 ?_
  refine mm_sld hC hM hsX hbl hbA (hsc 1 (by decide)).1 (hsc 1 (by decide)).2 dL_law_2119 ?_
  refine lv_aload_n hx hb dL_law_2120 rfl (lv_at hl 0 rfl) ?_
  refine lv_iload hx hb dL_law_2121 (lv_at hl 5 rfl) ?_
  refine lv_iconst (v := 2) hx hb dL_law_2123 (by decide) ?_
  refine lv_iadd hx hb dL_law_2124 ?_
  refine mm_sld hC hM hsX hbl hbA (hsc 2 (by decide)).1 (hsc 2 (by decide)).2 dL_law_2125 ?_
  refine lv_aload_n hx hb dL_law_2126 rfl (lv_at hl 0 rfl) ?_
  refine lv_iload hx hb dL_law_2127 (lv_at hl 5 rfl) ?_
  refine lv_iconst (v := 3) hx hb dL_law_2129 (by decide) ?_
  refine lv_iadd hx hb dL_law_2130 ?_
  refine mm_sld hC hM hsX hbl hbA (hsc 3 (by decide)).1 (hsc 3 (by decide)).2 dL_law_2131 ?_
  refine lv_aload_n hx hb dL_law_2132 rfl (lv_at hl 3 rfl) ?_
  obtain ⟨q2133, hq2133, hf⟩ := mm_bd hf
  refine mm_SiW (rest := []) hC hM (c_L_wayCost l hfl hq2133 hp_p1 hp_p3 (by omega)) q5_126 q1_0 ykL_wayCost q5_124 q5_125 ⟨rfl, rfl⟩ ⟨Nat.le_of_ble_eq_true rfl, Nat.le_of_ble_eq_true rfl⟩ rfl hl.1 rfl (Nat.le_of_ble_eq_true rfl) dL_law_2133 ⟨by omega, by omega⟩ (fun r w2133 H locs hM hw => ?_)
  obtain ⟨hr, hn_p0, hn_p4, hfr⟩ := hw
  rw [hr]
  have hp_p2 := hp_p2.keep2 hfr (by omega) (by omega)
  have hp_p4 := hfr.keep hp_p4 (by omega) (by omega)
  have hp_p1 := hn_p0
  have hp_p3 := hn_p4
  refine lv_istore (lv' := [(6, .int q2133.1), (0, .ref b), (1, .ref b1), (2, .ref b2), (3, .ref a3), (4, .ref a4), (5, .int x5)]) hx hb dL_law_2136 hl (by decide) rfl (fun ls hl => ?_)
  refine lv_aload_n hx hb dL_law_2138 rfl (lv_at hl 3 rfl) ?_
  refine lv_aload_n hx hb dL_law_2139 rfl (lv_at hl 1 rfl) ?_
  refine lv_iload hx hb dL_law_2140 (lv_at hl 6 rfl) ?_
  refine lv_iconst (v := 1) hx hb dL_law_2142 (by decide) ?_
  refine lv_iadd hx hb dL_law_2143 ?_
  refine mm_sld hC hM hsX hbl hbA (hsc 1 (by decide)).1 (hsc 1 (by decide)).2 dL_law_2144 ?_
  refine lv_aload_n hx hb dL_law_2145 rfl (lv_at hl 1 rfl) ?_
  refine lv_iload hx hb dL_law_2146 (lv_at hl 6 rfl) ?_
  refine lv_iconst (v := 2) hx hb dL_law_2148 (by decide) ?_
  refine lv_iadd hx hb dL_law_2149 ?_
  refine mm_sld hC hM hsX hbl hbA (hsc 2 (by decide)).1 (hsc 2 (by decide)).2 dL_law_2150 ?_
  refine lv_aload_n hx hb dL_law_2151 rfl (lv_at hl 1 rfl) ?_
  refine lv_iload hx hb dL_law_2152 (lv_at hl 6 rfl) ?_
  refine lv_iconst (v := 3) hx hb dL_law_2154 (by decide) ?_
  refine lv_iadd hx hb dL_law_2155 ?_
  refine mm_sld hC hM hsX hbl hbA (hsc 3 (by decide)).1 (hsc 3 (by decide)).2 dL_law_2156 ?_
  obtain ⟨q2157, hq2157, hf⟩ := mm_bd hf
  refine mm_Vi (rest := []) hC hM (c_X13_wayCost l hq2157 hp_p2) q8_146 q1_12 ykX13_wayCost q8_143 q8_144 q8_145 hp_p2.1 rfl ⟨rfl, rfl⟩ ⟨Nat.le_of_ble_eq_true rfl, Nat.le_of_ble_eq_true rfl⟩ rfl hl.1 rfl (Nat.le_of_ble_eq_true rfl) dL_law_2157 ⟨by omega, by omega⟩ (fun r w2157 H locs hM hw => ?_)
  obtain ⟨hr, hn_this, hfr⟩ := hw
  rw [hr]
  have hp_p1 := hp_p1.keep hfr (by omega)
  have hp_p3 := hfr.keep hp_p3 (by omega)
  have hp_p4 := hfr.keep hp_p4 (by omega)
  have hp_p2 := hn_this
  refine lv_istore (lv' := [(7, .int q2157.1), (6, .int q2133.1), (0, .ref b), (1, .ref b1), (2, .ref b2), (3, .ref a3), (4, .ref a4), (5, .int x5)]) hx hb dL_law_2160 hl (by decide) rfl (fun ls hl => ?_)
  refine lv_aload_n hx hb dL_law_2162 rfl (lv_at hl 4 rfl) ?_
  obtain ⟨q2163, hq2163, hf⟩ := mm_bd hf
  refine mm_Vi (rest := []) hC hM (c_X13_thrown l hq2163 hp_p2) q7_87 q1_12 ykX13_thrown q7_84 q7_85 q7_86 hp_p2.1 rfl ⟨rfl, rfl⟩ ⟨Nat.le_of_ble_eq_true rfl, Nat.le_of_ble_eq_true rfl⟩ rfl hl.1 rfl (Nat.le_of_ble_eq_true rfl) dL_law_2163 ⟨by omega, by omega⟩ (fun r w2163 H locs hM hw => ?_)
  obtain ⟨hr, hw⟩ := hw
  rw [hr]
  rw [hw] at hM
  refine lv_iload hx hb dL_law_2166 (lv_at hl 1 rfl) ?_
  refine lv_icmp_eq (tgt := 2173) hx hb dL_law_2168 (by decide) (fun hcd => ?_) (fun hcd => ?_)
  · rw [if_pos hcd] at hf
    refine lv_iload hx hb dL_law_2173 (lv_at hl 1 rfl) ?_
    refine lv_if_ne (tgt := 2190) hx hb dL_law_2175 (by decide) (fun hcd => ?_) (fun hcd => ?_)
    · rw [if_neg hcd] at hf
      refine lv_goto (tgt := 3345) hx hb dL_law_2190 (by decide) ?_
      cases hf
      exact W.widen (by omega) (by omega) (hk _ _ _ hM hp_p1 hp_p2 hp_p3 hp_p4 _ (lv_sub hl [2, 3, 4, 5, 6, 7] rfl))
    · rw [if_pos hcd] at hf
      refine lv_aload_n hx hb dL_law_2178 rfl (lv_at hl 5 rfl) ?_
      refine lv_iconst (v := 0) hx hb dL_law_2179 (by decide) ?_
      refine mm_lald0 hC hM hp_p3 dL_law_2180 ?_
      refine lv_iload hx hb dL_law_2181 (lv_at hl 0 rfl) ?_
      refine lv_i2l hx hb dL_law_2183 rfl ?_
      refine W.lcmp hx hb dL_law_2184 ?_
      refine lv_if_eq (tgt := 2190) hx hb dL_law_2185 (by decide) (fun hcd => ?_) (fun hcd => ?_)
      · rw [if_pos hcd] at hf
        refine lv_goto (tgt := 3345) hx hb dL_law_2190 (by decide) ?_
        cases hf
        exact W.widen (by omega) (by omega) (hk _ _ _ hM hp_p1 hp_p2 hp_p3 hp_p4 _ (lv_sub hl [2, 3, 4, 5, 6, 7] rfl))
      · rw [if_neg hcd] at hf
        refine lv_iconst (v := 0) hx hb dL_law_2188 (by decide) ?_
        cases hf
  · rw [if_neg hcd] at hf
    refine lv_iconst (v := 0) hx hb dL_law_2171 (by decide) ?_
    cases hf
def g_law34 (K : Nat) (p1_marsh_reeds_states : Nat → Int32) (p1_marsh_fleet_numbers : Nat → Int32) (p1_marsh_fleet_cells : Nat → Int32) (p1_marsh_fleet_count : Int32) (p1_marsh_fogSide : Int32) (p1_ways_tolls : Nat → Int32) (p1_ways_improved : Nat → Int32) (p2_v : Nat → Int32) (p2_far : Nat → Int32) (p3 : Nat → Int64) (x1 : Int32) (x2 : Int32) (x3 : Int32) : Option ((Nat → Int32) × (Nat → Int32) × Int32 × (Nat → Int32) × (Nat → Int64)) := (f_L_wayCostByRounds K p1_marsh_reeds_states p1_marsh_fleet_numbers p1_marsh_fleet_cells p1_marsh_fleet_count p1_marsh_fogSide p1_ways_tolls p1_ways_improved p3 x1 x2 x3).bind fun q2213 => (f_X13_wayCostByRounds K p2_v p2_far x1 x2 x3).bind fun q2237 => (f_X13_thrown q2237.2.1).bind fun q2243 => if q2243 = q2213.1 then if q2213.1 = 0 then if (lg_cmp (q2213.2.2.2 0) q2237.1.toInt64) = 0 then some (q2213.2.1, q2213.2.2.1, q2237.2.1, q2237.2.2, q2213.2.2.2) else none else some (q2213.2.1, q2213.2.2.1, q2237.2.1, q2237.2.2, q2213.2.2.2) else none
set_option maxHeartbeats 4000000 in
set_option maxRecDepth 100000 in
theorem g_law34_c (hC : mm_C G A p s m c code 10 args "MirrorFerryLaw") (hsX : va_X b L xs s s.heap) (hbl : b < s.heap.size) (hbA : ¬ A b) (hd1 : b1 + 152 ≤ b2) (hd2 : b2 + 13 ≤ a3) (hd3 : a3 + 1 ≤ a4) (hrc : cells + 1000 ≤ room_1.cells) (hrs : slots + 10000 ≤ room_1.slots) (hfl : l.stackTraces = false) {K : Nat} {p1_marsh_reeds_states : Nat → Int32} {p1_marsh_reeds_count : Int32} {p1_marsh_reeds_broken : Int32} {p1_marsh_fleet_numbers : Nat → Int32} {p1_marsh_fleet_cells : Nat → Int32} {p1_marsh_fleet_fares : Nat → Int32} {p1_marsh_fleet_count : Int32} {p1_marsh_fleet_nextNumber : Int32} {p1_marsh_fleet_total : Int32} {p1_marsh_fleet_removedFares : Int32} {p1_marsh_fleet_meetings : Int32} {p1_marsh_plans_moves : Nat → Int32} {p1_marsh_plans_lengths : Nat → Int32} {p1_marsh_landings_cells : Nat → Int32} {p1_marsh_landings_count : Int32} {p1_marsh_fogSide : Int32} {p1_snapshot_reeds_states : Nat → Int32} {p1_snapshot_reeds_count : Int32} {p1_snapshot_reeds_broken : Int32} {p1_snapshot_fleet_numbers : Nat → Int32} {p1_snapshot_fleet_cells : Nat → Int32} {p1_snapshot_fleet_fares : Nat → Int32} {p1_snapshot_fleet_count : Int32} {p1_snapshot_fleet_nextNumber : Int32} {p1_snapshot_fleet_total : Int32} {p1_snapshot_fleet_removedFares : Int32} {p1_snapshot_fleet_meetings : Int32} {p1_snapshot_plans_moves : Nat → Int32} {p1_snapshot_plans_lengths : Nat → Int32} {p1_snapshot_landings_cells : Nat → Int32} {p1_snapshot_landings_count : Int32} {p1_snapshot_fogSide : Int32} {p1_history_slots : Nat → mm_MV} {p1_history_free : Int32} {p1_history_count : Int32} {p1_ways_tolls : Nat → Int32} {p1_ways_queue : Nat → Int32} {p1_ways_heap : Nat → Int32} {p1_ways_heapSize : Int32} {p1_ways_found : Nat → Int32} {p1_ways_improved : Nat → Int32} {p1_pairing_costs : Nat → Int32} {p1_pairing_best : Nat → Int32} {p1_reader_kinds : Nat → Int32} {p1_reader_starts : Nat → Int32} {p1_reader_count : Int32} {p1_commandText_signs : Nat → Int32} {p1_commandText_length : Int32} {p1_line_signs : Nat → Int32} {p1_line_length : Int32} {p1_spareMoves : Nat → Int32} {p1_snapshotTaken : Int32} {p1_lastErrorPosition : Int32} {p1_lastFailedCommand : Int32} {p2_thrown : Int32} {p2_changes : Int32} {p2_errorAt : Int32} {p2_failedAt : Int32} {p2_isSaved : Int32} {p2_v : Nat → Int32} {p2_before : Nat → Int32} {p2_saved : Nat → Int32} {p2_past : Nat → Int32} {p2_far : Nat → Int32} {p2_scratch : Nat → Int32} {p2_best : Nat → Int32} {p2_thenX : Int32} {p2_thenY : Int32} {p2_thenMet : Int32} {p2_text : Nat → Int32} {p2_line : Nat → Int32} {p2_isLeft : Nat → Int32} {p2_words : Nat → Int32} {p2_wordAt : Nat → Int32} {p2_textN : Int32} {p2_hereP : Int32} {p2_endP : Int32} {p2_lineN : Int32} {p2_isWrong : Int32} {p2_isDoing : Int32} {p3 : Nat → Int64} {p4 : Nat → UInt64} {x0 x1 x2 x3 x4 x5 : Int32} {X : (Nat → Int32) × (Nat → Int32) × Int32 × (Nat → Int32) × (Nat → Int64)} (hf : g_law34 K p1_marsh_reeds_states p1_marsh_fleet_numbers p1_marsh_fleet_cells p1_marsh_fleet_count p1_marsh_fogSide p1_ways_tolls p1_ways_improved p2_v p2_far p3 x1 x2 x3 = some X) (hp_p1 : At12 G w b1 p1_marsh_reeds_states p1_marsh_reeds_count p1_marsh_reeds_broken p1_marsh_fleet_numbers p1_marsh_fleet_cells p1_marsh_fleet_fares p1_marsh_fleet_count p1_marsh_fleet_nextNumber p1_marsh_fleet_total p1_marsh_fleet_removedFares p1_marsh_fleet_meetings p1_marsh_plans_moves p1_marsh_plans_lengths p1_marsh_landings_cells p1_marsh_landings_count p1_marsh_fogSide p1_snapshot_reeds_states p1_snapshot_reeds_count p1_snapshot_reeds_broken p1_snapshot_fleet_numbers p1_snapshot_fleet_cells p1_snapshot_fleet_fares p1_snapshot_fleet_count p1_snapshot_fleet_nextNumber p1_snapshot_fleet_total p1_snapshot_fleet_removedFares p1_snapshot_fleet_meetings p1_snapshot_plans_moves p1_snapshot_plans_lengths p1_snapshot_landings_cells p1_snapshot_landings_count p1_snapshot_fogSide p1_history_slots p1_history_free p1_history_count p1_ways_tolls p1_ways_queue p1_ways_heap p1_ways_heapSize p1_ways_found p1_ways_improved p1_pairing_costs p1_pairing_best p1_reader_kinds p1_reader_starts p1_reader_count p1_commandText_signs p1_commandText_length p1_line_signs p1_line_length p1_spareMoves p1_snapshotTaken p1_lastErrorPosition p1_lastFailedCommand) (hp_p2 : At13 G w b2 p2_thrown p2_changes p2_errorAt p2_failedAt p2_isSaved p2_v p2_before p2_saved p2_past p2_far p2_scratch p2_best p2_thenX p2_thenY p2_thenMet p2_text p2_line p2_isLeft p2_words p2_wordAt p2_textN p2_hereP p2_endP p2_lineN p2_isWrong p2_isDoing) (hp_p3 : (a3, (.inl (G.2 3, 1, .inr (.inl p3)) : va_E)) ∈ w) (hp_p4 : (a4, (.inl (G.2 4, 1, .inr (.inr (.inr (.inl p4)))) : va_E)) ∈ w)
    (hsc : ∀ k : Nat, k < 5 → vp_in (x5 + Int32.ofNat k) L ∧ xs (x5 + Int32.ofNat k).toNatClampNeg = mm_x5 x0 x1 x2 x3 x4 k) (hM : mm_S G A s.heap w H locs)
    (hk : ∀ (w : va_W) (H : Heap) (locs : List Loc), mm_S G A s.heap w H locs → At12 G w b1 p1_marsh_reeds_states p1_marsh_reeds_count p1_marsh_reeds_broken p1_marsh_fleet_numbers p1_marsh_fleet_cells p1_marsh_fleet_fares p1_marsh_fleet_count p1_marsh_fleet_nextNumber p1_marsh_fleet_total p1_marsh_fleet_removedFares p1_marsh_fleet_meetings p1_marsh_plans_moves p1_marsh_plans_lengths p1_marsh_landings_cells p1_marsh_landings_count p1_marsh_fogSide p1_snapshot_reeds_states p1_snapshot_reeds_count p1_snapshot_reeds_broken p1_snapshot_fleet_numbers p1_snapshot_fleet_cells p1_snapshot_fleet_fares p1_snapshot_fleet_count p1_snapshot_fleet_nextNumber p1_snapshot_fleet_total p1_snapshot_fleet_removedFares p1_snapshot_fleet_meetings p1_snapshot_plans_moves p1_snapshot_plans_lengths p1_snapshot_landings_cells p1_snapshot_landings_count p1_snapshot_fogSide p1_history_slots p1_history_free p1_history_count X.1 p1_ways_queue p1_ways_heap p1_ways_heapSize p1_ways_found X.2.1 p1_pairing_costs p1_pairing_best p1_reader_kinds p1_reader_starts p1_reader_count p1_commandText_signs p1_commandText_length p1_line_signs p1_line_length p1_spareMoves p1_snapshotTaken p1_lastErrorPosition p1_lastFailedCommand → At13 G w b2 X.2.2.1 p2_changes p2_errorAt p2_failedAt p2_isSaved p2_v p2_before p2_saved p2_past X.2.2.2.1 p2_scratch p2_best p2_thenX p2_thenY p2_thenMet p2_text p2_line p2_isLeft p2_words p2_wordAt p2_textN p2_hereP p2_endP p2_lineN p2_isWrong p2_isDoing → (a3, (.inl (G.2 3, 1, .inr (.inl X.2.2.2.2)) : va_E)) ∈ w → (a4, (.inl (G.2 4, 1, .inr (.inr (.inr (.inl p4)))) : va_E)) ∈ w → ∀ ls, lv_has ls 10 [(0, .ref b), (1, .ref b1), (2, .ref b2), (3, .ref a3), (4, .ref a4), (5, .int x5)] → W p l e room_1 s m args below meth c H locs (cells + 1000) (slots + 10000) Q (F0 m 3345 ls [])) (ls : Array Slot) (hl : lv_has ls 10 [(0, .ref b), (1, .ref b1), (2, .ref b2), (3, .ref a3), (4, .ref a4), (5, .int x5)]) : W p l e room_1 s m args below meth c H locs cells slots Q (F0 m 2193 ls []) := by
  have hx := hC.1.1
  have hb := hC.1.2.1
  rw [g_law34] at hf
  refine lv_aload_n hx hb dL_law_2193 rfl (lv_at hl 1 rfl) ?_
  refine lv_aload_n hx hb dL_law_2194 rfl (lv_at hl 0 rfl) ?_
  refine lv_iload hx hb dL_law_2195 (lv_at hl 5 rfl) ?_
  refine lv_iconst (v := 1) hx hb dL_law_2197 (by decide) ?_
  refine lv_iadd hx hb dL_law_2198 ?_
  refine mm_sld hC hM hsX hbl hbA (hsc 1 (by decide)).1 (hsc 1 (by decide)).2 dL_law_2199 ?_
  refine lv_aload_n hx hb dL_law_2200 rfl (lv_at hl 0 rfl) ?_
  refine lv_iload hx hb dL_law_2201 (lv_at hl 5 rfl) ?_
  refine lv_iconst (v := 2) hx hb dL_law_2203 (by decide) ?_
  refine lv_iadd hx hb dL_law_2204 ?_
  refine mm_sld hC hM hsX hbl hbA (hsc 2 (by decide)).1 (hsc 2 (by decide)).2 dL_law_2205 ?_
  refine lv_aload_n hx hb dL_law_2206 rfl (lv_at hl 0 rfl) ?_
  refine lv_iload hx hb dL_law_2207 (lv_at hl 5 rfl) ?_
  refine lv_iconst (v := 3) hx hb dL_law_2209 (by decide) ?_
  refine lv_iadd hx hb dL_law_2210 ?_
  refine mm_sld hC hM hsX hbl hbA (hsc 3 (by decide)).1 (hsc 3 (by decide)).2 dL_law_2211 ?_
  refine lv_aload_n hx hb dL_law_2212 rfl (lv_at hl 3 rfl) ?_
  obtain ⟨q2213, hq2213, hf⟩ := mm_bd hf
  refine mm_SiW (rest := []) hC hM (c_L_wayCostByRounds l hfl hq2213 hp_p1 hp_p3 (by omega)) q5_133 q1_0 ykL_wayCostByRounds q5_131 q5_132 ⟨rfl, rfl⟩ ⟨Nat.le_of_ble_eq_true rfl, Nat.le_of_ble_eq_true rfl⟩ rfl hl.1 rfl (Nat.le_of_ble_eq_true rfl) dL_law_2213 ⟨by omega, by omega⟩ (fun r w2213 H locs hM hw => ?_)
  obtain ⟨hr, hn_p0, hn_p4, hfr⟩ := hw
  rw [hr]
  have hp_p2 := hp_p2.keep2 hfr (by omega) (by omega)
  have hp_p4 := hfr.keep hp_p4 (by omega) (by omega)
  have hp_p1 := hn_p0
  have hp_p3 := hn_p4
  refine lv_istore (lv' := [(6, .int q2213.1), (0, .ref b), (1, .ref b1), (2, .ref b2), (3, .ref a3), (4, .ref a4), (5, .int x5)]) hx hb dL_law_2216 hl (by decide) rfl (fun ls hl => ?_)
  refine lv_aload_n hx hb dL_law_2218 rfl (lv_at hl 3 rfl) ?_
  refine lv_aload_n hx hb dL_law_2219 rfl (lv_at hl 1 rfl) ?_
  refine lv_iload hx hb dL_law_2220 (lv_at hl 6 rfl) ?_
  refine lv_iconst (v := 1) hx hb dL_law_2222 (by decide) ?_
  refine lv_iadd hx hb dL_law_2223 ?_
  refine mm_sld hC hM hsX hbl hbA (hsc 1 (by decide)).1 (hsc 1 (by decide)).2 dL_law_2224 ?_
  refine lv_aload_n hx hb dL_law_2225 rfl (lv_at hl 1 rfl) ?_
  refine lv_iload hx hb dL_law_2226 (lv_at hl 6 rfl) ?_
  refine lv_iconst (v := 2) hx hb dL_law_2228 (by decide) ?_
  refine lv_iadd hx hb dL_law_2229 ?_
  refine mm_sld hC hM hsX hbl hbA (hsc 2 (by decide)).1 (hsc 2 (by decide)).2 dL_law_2230 ?_
  refine lv_aload_n hx hb dL_law_2231 rfl (lv_at hl 1 rfl) ?_
  refine lv_iload hx hb dL_law_2232 (lv_at hl 6 rfl) ?_
  refine lv_iconst (v := 3) hx hb dL_law_2234 (by decide) ?_
  refine lv_iadd hx hb dL_law_2235 ?_
  refine mm_sld hC hM hsX hbl hbA (hsc 3 (by decide)).1 (hsc 3 (by decide)).2 dL_law_2236 ?_
  obtain ⟨q2237, hq2237, hf⟩ := mm_bd hf
  refine mm_Vi (rest := []) hC hM (c_X13_wayCostByRounds l hq2237 hp_p2) q8_150 q1_12 ykX13_wayCostByRounds q8_147 q8_148 q8_149 hp_p2.1 rfl ⟨rfl, rfl⟩ ⟨Nat.le_of_ble_eq_true rfl, Nat.le_of_ble_eq_true rfl⟩ rfl hl.1 rfl (Nat.le_of_ble_eq_true rfl) dL_law_2237 ⟨by omega, by omega⟩ (fun r w2237 H locs hM hw => ?_)
  obtain ⟨hr, hn_this, hfr⟩ := hw
  rw [hr]
  have hp_p1 := hp_p1.keep hfr (by omega)
  have hp_p3 := hfr.keep hp_p3 (by omega)
  have hp_p4 := hfr.keep hp_p4 (by omega)
  have hp_p2 := hn_this
  refine lv_istore (lv' := [(7, .int q2237.1), (6, .int q2213.1), (0, .ref b), (1, .ref b1), (2, .ref b2), (3, .ref a3), (4, .ref a4), (5, .int x5)]) hx hb dL_law_2240 hl (by decide) rfl (fun ls hl => ?_)
  refine lv_aload_n hx hb dL_law_2242 rfl (lv_at hl 4 rfl) ?_
  obtain ⟨q2243, hq2243, hf⟩ := mm_bd hf
  refine mm_Vi (rest := []) hC hM (c_X13_thrown l hq2243 hp_p2) q7_87 q1_12 ykX13_thrown q7_84 q7_85 q7_86 hp_p2.1 rfl ⟨rfl, rfl⟩ ⟨Nat.le_of_ble_eq_true rfl, Nat.le_of_ble_eq_true rfl⟩ rfl hl.1 rfl (Nat.le_of_ble_eq_true rfl) dL_law_2243 ⟨by omega, by omega⟩ (fun r w2243 H locs hM hw => ?_)
  obtain ⟨hr, hw⟩ := hw
  rw [hr]
  rw [hw] at hM
  refine lv_iload hx hb dL_law_2246 (lv_at hl 1 rfl) ?_
  refine lv_icmp_eq (tgt := 2253) hx hb dL_law_2248 (by decide) (fun hcd => ?_) (fun hcd => ?_)
  · rw [if_pos hcd] at hf
    refine lv_iload hx hb dL_law_2253 (lv_at hl 1 rfl) ?_
    refine lv_if_ne (tgt := 2270) hx hb dL_law_2255 (by decide) (fun hcd => ?_) (fun hcd => ?_)
    · rw [if_neg hcd] at hf
      refine lv_goto (tgt := 3345) hx hb dL_law_2270 (by decide) ?_
      cases hf
      exact W.widen (by omega) (by omega) (hk _ _ _ hM hp_p1 hp_p2 hp_p3 hp_p4 _ (lv_sub hl [2, 3, 4, 5, 6, 7] rfl))
    · rw [if_pos hcd] at hf
      refine lv_aload_n hx hb dL_law_2258 rfl (lv_at hl 5 rfl) ?_
      refine lv_iconst (v := 0) hx hb dL_law_2259 (by decide) ?_
      refine mm_lald0 hC hM hp_p3 dL_law_2260 ?_
      refine lv_iload hx hb dL_law_2261 (lv_at hl 0 rfl) ?_
      refine lv_i2l hx hb dL_law_2263 rfl ?_
      refine W.lcmp hx hb dL_law_2264 ?_
      refine lv_if_eq (tgt := 2270) hx hb dL_law_2265 (by decide) (fun hcd => ?_) (fun hcd => ?_)
      · rw [if_pos hcd] at hf
        refine lv_goto (tgt := 3345) hx hb dL_law_2270 (by decide) ?_
        cases hf
        exact W.widen (by omega) (by omega) (hk _ _ _ hM hp_p1 hp_p2 hp_p3 hp_p4 _ (lv_sub hl [2, 3, 4, 5, 6, 7] rfl))
      · rw [if_neg hcd] at hf
        refine lv_iconst (v := 0) hx hb dL_law_2268 (by decide) ?_
        cases hf
  · rw [if_neg hcd] at hf
    refine lv_iconst (v := 0) hx hb dL_law_2251 (by decide) ?_
    cases hf
def g_law35 (K : Nat) (p1_marsh_reeds_states : Nat → Int32) (p1_marsh_fleet_numbers : Nat → Int32) (p1_marsh_fleet_cells : Nat → Int32) (p1_marsh_fleet_count : Int32) (p1_ways_tolls : Nat → Int32) (p1_ways_heap : Nat → Int32) (p1_ways_heapSize : Int32) (p1_ways_found : Nat → Int32) (p2_v : Nat → Int32) (p2_far : Nat → Int32) (p3 : Nat → Int64) (x1 : Int32) (x2 : Int32) (x3 : Int32) : Option ((Nat → Int32) × (Nat → Int32) × Int32 × (Nat → Int32) × Int32 × (Nat → Int32) × (Nat → Int64)) := (f_L_breakingEffort K p1_marsh_reeds_states p1_marsh_fleet_numbers p1_marsh_fleet_cells p1_marsh_fleet_count p1_ways_tolls p1_ways_heap p1_ways_heapSize p1_ways_found p3 x1 x2 x3).bind fun q2293 => (f_X13_breakingEffort K p2_v p2_far x1 x2 x3).bind fun q2317 => (f_X13_thrown q2317.2.1).bind fun q2323 => if q2323 = q2293.1 then if q2293.1 = 0 then if (lg_cmp (q2293.2.2.2.2.2 0) q2317.1.toInt64) = 0 then some (q2293.2.1, q2293.2.2.1, q2293.2.2.2.1, q2293.2.2.2.2.1, q2317.2.1, q2317.2.2, q2293.2.2.2.2.2) else none else some (q2293.2.1, q2293.2.2.1, q2293.2.2.2.1, q2293.2.2.2.2.1, q2317.2.1, q2317.2.2, q2293.2.2.2.2.2) else none
set_option maxHeartbeats 4000000 in
set_option maxRecDepth 100000 in
theorem g_law35_c (hC : mm_C G A p s m c code 10 args "MirrorFerryLaw") (hsX : va_X b L xs s s.heap) (hbl : b < s.heap.size) (hbA : ¬ A b) (hd1 : b1 + 152 ≤ b2) (hd2 : b2 + 13 ≤ a3) (hd3 : a3 + 1 ≤ a4) (hrc : cells + 1000 ≤ room_1.cells) (hrs : slots + 10000 ≤ room_1.slots) (hfl : l.stackTraces = false) {K : Nat} {p1_marsh_reeds_states : Nat → Int32} {p1_marsh_reeds_count : Int32} {p1_marsh_reeds_broken : Int32} {p1_marsh_fleet_numbers : Nat → Int32} {p1_marsh_fleet_cells : Nat → Int32} {p1_marsh_fleet_fares : Nat → Int32} {p1_marsh_fleet_count : Int32} {p1_marsh_fleet_nextNumber : Int32} {p1_marsh_fleet_total : Int32} {p1_marsh_fleet_removedFares : Int32} {p1_marsh_fleet_meetings : Int32} {p1_marsh_plans_moves : Nat → Int32} {p1_marsh_plans_lengths : Nat → Int32} {p1_marsh_landings_cells : Nat → Int32} {p1_marsh_landings_count : Int32} {p1_marsh_fogSide : Int32} {p1_snapshot_reeds_states : Nat → Int32} {p1_snapshot_reeds_count : Int32} {p1_snapshot_reeds_broken : Int32} {p1_snapshot_fleet_numbers : Nat → Int32} {p1_snapshot_fleet_cells : Nat → Int32} {p1_snapshot_fleet_fares : Nat → Int32} {p1_snapshot_fleet_count : Int32} {p1_snapshot_fleet_nextNumber : Int32} {p1_snapshot_fleet_total : Int32} {p1_snapshot_fleet_removedFares : Int32} {p1_snapshot_fleet_meetings : Int32} {p1_snapshot_plans_moves : Nat → Int32} {p1_snapshot_plans_lengths : Nat → Int32} {p1_snapshot_landings_cells : Nat → Int32} {p1_snapshot_landings_count : Int32} {p1_snapshot_fogSide : Int32} {p1_history_slots : Nat → mm_MV} {p1_history_free : Int32} {p1_history_count : Int32} {p1_ways_tolls : Nat → Int32} {p1_ways_queue : Nat → Int32} {p1_ways_heap : Nat → Int32} {p1_ways_heapSize : Int32} {p1_ways_found : Nat → Int32} {p1_ways_improved : Nat → Int32} {p1_pairing_costs : Nat → Int32} {p1_pairing_best : Nat → Int32} {p1_reader_kinds : Nat → Int32} {p1_reader_starts : Nat → Int32} {p1_reader_count : Int32} {p1_commandText_signs : Nat → Int32} {p1_commandText_length : Int32} {p1_line_signs : Nat → Int32} {p1_line_length : Int32} {p1_spareMoves : Nat → Int32} {p1_snapshotTaken : Int32} {p1_lastErrorPosition : Int32} {p1_lastFailedCommand : Int32} {p2_thrown : Int32} {p2_changes : Int32} {p2_errorAt : Int32} {p2_failedAt : Int32} {p2_isSaved : Int32} {p2_v : Nat → Int32} {p2_before : Nat → Int32} {p2_saved : Nat → Int32} {p2_past : Nat → Int32} {p2_far : Nat → Int32} {p2_scratch : Nat → Int32} {p2_best : Nat → Int32} {p2_thenX : Int32} {p2_thenY : Int32} {p2_thenMet : Int32} {p2_text : Nat → Int32} {p2_line : Nat → Int32} {p2_isLeft : Nat → Int32} {p2_words : Nat → Int32} {p2_wordAt : Nat → Int32} {p2_textN : Int32} {p2_hereP : Int32} {p2_endP : Int32} {p2_lineN : Int32} {p2_isWrong : Int32} {p2_isDoing : Int32} {p3 : Nat → Int64} {p4 : Nat → UInt64} {x0 x1 x2 x3 x4 x5 : Int32} {X : (Nat → Int32) × (Nat → Int32) × Int32 × (Nat → Int32) × Int32 × (Nat → Int32) × (Nat → Int64)} (hf : g_law35 K p1_marsh_reeds_states p1_marsh_fleet_numbers p1_marsh_fleet_cells p1_marsh_fleet_count p1_ways_tolls p1_ways_heap p1_ways_heapSize p1_ways_found p2_v p2_far p3 x1 x2 x3 = some X) (hp_p1 : At12 G w b1 p1_marsh_reeds_states p1_marsh_reeds_count p1_marsh_reeds_broken p1_marsh_fleet_numbers p1_marsh_fleet_cells p1_marsh_fleet_fares p1_marsh_fleet_count p1_marsh_fleet_nextNumber p1_marsh_fleet_total p1_marsh_fleet_removedFares p1_marsh_fleet_meetings p1_marsh_plans_moves p1_marsh_plans_lengths p1_marsh_landings_cells p1_marsh_landings_count p1_marsh_fogSide p1_snapshot_reeds_states p1_snapshot_reeds_count p1_snapshot_reeds_broken p1_snapshot_fleet_numbers p1_snapshot_fleet_cells p1_snapshot_fleet_fares p1_snapshot_fleet_count p1_snapshot_fleet_nextNumber p1_snapshot_fleet_total p1_snapshot_fleet_removedFares p1_snapshot_fleet_meetings p1_snapshot_plans_moves p1_snapshot_plans_lengths p1_snapshot_landings_cells p1_snapshot_landings_count p1_snapshot_fogSide p1_history_slots p1_history_free p1_history_count p1_ways_tolls p1_ways_queue p1_ways_heap p1_ways_heapSize p1_ways_found p1_ways_improved p1_pairing_costs p1_pairing_best p1_reader_kinds p1_reader_starts p1_reader_count p1_commandText_signs p1_commandText_length p1_line_signs p1_line_length p1_spareMoves p1_snapshotTaken p1_lastErrorPosition p1_lastFailedCommand) (hp_p2 : At13 G w b2 p2_thrown p2_changes p2_errorAt p2_failedAt p2_isSaved p2_v p2_before p2_saved p2_past p2_far p2_scratch p2_best p2_thenX p2_thenY p2_thenMet p2_text p2_line p2_isLeft p2_words p2_wordAt p2_textN p2_hereP p2_endP p2_lineN p2_isWrong p2_isDoing) (hp_p3 : (a3, (.inl (G.2 3, 1, .inr (.inl p3)) : va_E)) ∈ w) (hp_p4 : (a4, (.inl (G.2 4, 1, .inr (.inr (.inr (.inl p4)))) : va_E)) ∈ w)
    (hsc : ∀ k : Nat, k < 5 → vp_in (x5 + Int32.ofNat k) L ∧ xs (x5 + Int32.ofNat k).toNatClampNeg = mm_x5 x0 x1 x2 x3 x4 k) (hM : mm_S G A s.heap w H locs)
    (hk : ∀ (w : va_W) (H : Heap) (locs : List Loc), mm_S G A s.heap w H locs → At12 G w b1 p1_marsh_reeds_states p1_marsh_reeds_count p1_marsh_reeds_broken p1_marsh_fleet_numbers p1_marsh_fleet_cells p1_marsh_fleet_fares p1_marsh_fleet_count p1_marsh_fleet_nextNumber p1_marsh_fleet_total p1_marsh_fleet_removedFares p1_marsh_fleet_meetings p1_marsh_plans_moves p1_marsh_plans_lengths p1_marsh_landings_cells p1_marsh_landings_count p1_marsh_fogSide p1_snapshot_reeds_states p1_snapshot_reeds_count p1_snapshot_reeds_broken p1_snapshot_fleet_numbers p1_snapshot_fleet_cells p1_snapshot_fleet_fares p1_snapshot_fleet_count p1_snapshot_fleet_nextNumber p1_snapshot_fleet_total p1_snapshot_fleet_removedFares p1_snapshot_fleet_meetings p1_snapshot_plans_moves p1_snapshot_plans_lengths p1_snapshot_landings_cells p1_snapshot_landings_count p1_snapshot_fogSide p1_history_slots p1_history_free p1_history_count X.1 p1_ways_queue X.2.1 X.2.2.1 X.2.2.2.1 p1_ways_improved p1_pairing_costs p1_pairing_best p1_reader_kinds p1_reader_starts p1_reader_count p1_commandText_signs p1_commandText_length p1_line_signs p1_line_length p1_spareMoves p1_snapshotTaken p1_lastErrorPosition p1_lastFailedCommand → At13 G w b2 X.2.2.2.2.1 p2_changes p2_errorAt p2_failedAt p2_isSaved p2_v p2_before p2_saved p2_past X.2.2.2.2.2.1 p2_scratch p2_best p2_thenX p2_thenY p2_thenMet p2_text p2_line p2_isLeft p2_words p2_wordAt p2_textN p2_hereP p2_endP p2_lineN p2_isWrong p2_isDoing → (a3, (.inl (G.2 3, 1, .inr (.inl X.2.2.2.2.2.2)) : va_E)) ∈ w → (a4, (.inl (G.2 4, 1, .inr (.inr (.inr (.inl p4)))) : va_E)) ∈ w → ∀ ls, lv_has ls 10 [(0, .ref b), (1, .ref b1), (2, .ref b2), (3, .ref a3), (4, .ref a4), (5, .int x5)] → W p l e room_1 s m args below meth c H locs (cells + 1000) (slots + 10000) Q (F0 m 3345 ls [])) (ls : Array Slot) (hl : lv_has ls 10 [(0, .ref b), (1, .ref b1), (2, .ref b2), (3, .ref a3), (4, .ref a4), (5, .int x5)]) : W p l e room_1 s m args below meth c H locs cells slots Q (F0 m 2273 ls []) := by
  have hx := hC.1.1
  have hb := hC.1.2.1
  rw [g_law35] at hf
  refine lv_aload_n hx hb dL_law_2273 rfl (lv_at hl 1 rfl) ?_
  refine lv_aload_n hx hb dL_law_2274 rfl (lv_at hl 0 rfl) ?_
  refine lv_iload hx hb dL_law_2275 (lv_at hl 5 rfl) ?_
  refine lv_iconst (v := 1) hx hb dL_law_2277 (by decide) ?_
  refine lv_iadd hx hb dL_law_2278 ?_
  refine mm_sld hC hM hsX hbl hbA (hsc 1 (by decide)).1 (hsc 1 (by decide)).2 dL_law_2279 ?_
  refine lv_aload_n hx hb dL_law_2280 rfl (lv_at hl 0 rfl) ?_
  refine lv_iload hx hb dL_law_2281 (lv_at hl 5 rfl) ?_
  refine lv_iconst (v := 2) hx hb dL_law_2283 (by decide) ?_
  refine lv_iadd hx hb dL_law_2284 ?_
  refine mm_sld hC hM hsX hbl hbA (hsc 2 (by decide)).1 (hsc 2 (by decide)).2 dL_law_2285 ?_
  refine lv_aload_n hx hb dL_law_2286 rfl (lv_at hl 0 rfl) ?_
  refine lv_iload hx hb dL_law_2287 (lv_at hl 5 rfl) ?_
  refine lv_iconst (v := 3) hx hb dL_law_2289 (by decide) ?_
  refine lv_iadd hx hb dL_law_2290 ?_
  refine mm_sld hC hM hsX hbl hbA (hsc 3 (by decide)).1 (hsc 3 (by decide)).2 dL_law_2291 ?_
  refine lv_aload_n hx hb dL_law_2292 rfl (lv_at hl 3 rfl) ?_
  obtain ⟨q2293, hq2293, hf⟩ := mm_bd hf
  refine mm_SiW (rest := []) hC hM (c_L_breakingEffort l hfl hq2293 hp_p1 hp_p3 (by omega)) q5_140 q1_0 ykL_breakingEffort q5_138 q5_139 ⟨rfl, rfl⟩ ⟨Nat.le_of_ble_eq_true rfl, Nat.le_of_ble_eq_true rfl⟩ rfl hl.1 rfl (Nat.le_of_ble_eq_true rfl) dL_law_2293 ⟨by omega, by omega⟩ (fun r w2293 H locs hM hw => ?_)
  obtain ⟨hr, hn_p0, hn_p4, hfr⟩ := hw
  rw [hr]
  have hp_p2 := hp_p2.keep2 hfr (by omega) (by omega)
  have hp_p4 := hfr.keep hp_p4 (by omega) (by omega)
  have hp_p1 := hn_p0
  have hp_p3 := hn_p4
  refine lv_istore (lv' := [(6, .int q2293.1), (0, .ref b), (1, .ref b1), (2, .ref b2), (3, .ref a3), (4, .ref a4), (5, .int x5)]) hx hb dL_law_2296 hl (by decide) rfl (fun ls hl => ?_)
  refine lv_aload_n hx hb dL_law_2298 rfl (lv_at hl 3 rfl) ?_
  refine lv_aload_n hx hb dL_law_2299 rfl (lv_at hl 1 rfl) ?_
  refine lv_iload hx hb dL_law_2300 (lv_at hl 6 rfl) ?_
  refine lv_iconst (v := 1) hx hb dL_law_2302 (by decide) ?_
  refine lv_iadd hx hb dL_law_2303 ?_
  refine mm_sld hC hM hsX hbl hbA (hsc 1 (by decide)).1 (hsc 1 (by decide)).2 dL_law_2304 ?_
  refine lv_aload_n hx hb dL_law_2305 rfl (lv_at hl 1 rfl) ?_
  refine lv_iload hx hb dL_law_2306 (lv_at hl 6 rfl) ?_
  refine lv_iconst (v := 2) hx hb dL_law_2308 (by decide) ?_
  refine lv_iadd hx hb dL_law_2309 ?_
  refine mm_sld hC hM hsX hbl hbA (hsc 2 (by decide)).1 (hsc 2 (by decide)).2 dL_law_2310 ?_
  refine lv_aload_n hx hb dL_law_2311 rfl (lv_at hl 1 rfl) ?_
  refine lv_iload hx hb dL_law_2312 (lv_at hl 6 rfl) ?_
  refine lv_iconst (v := 3) hx hb dL_law_2314 (by decide) ?_
  refine lv_iadd hx hb dL_law_2315 ?_
  refine mm_sld hC hM hsX hbl hbA (hsc 3 (by decide)).1 (hsc 3 (by decide)).2 dL_law_2316 ?_
  obtain ⟨q2317, hq2317, hf⟩ := mm_bd hf
  refine mm_Vi (rest := []) hC hM (c_X13_breakingEffort l hq2317 hp_p2) q8_154 q1_12 ykX13_breakingEffort q8_151 q8_152 q8_153 hp_p2.1 rfl ⟨rfl, rfl⟩ ⟨Nat.le_of_ble_eq_true rfl, Nat.le_of_ble_eq_true rfl⟩ rfl hl.1 rfl (Nat.le_of_ble_eq_true rfl) dL_law_2317 ⟨by omega, by omega⟩ (fun r w2317 H locs hM hw => ?_)
  obtain ⟨hr, hn_this, hfr⟩ := hw
  rw [hr]
  have hp_p1 := hp_p1.keep hfr (by omega)
  have hp_p3 := hfr.keep hp_p3 (by omega)
  have hp_p4 := hfr.keep hp_p4 (by omega)
  have hp_p2 := hn_this
  refine lv_istore (lv' := [(7, .int q2317.1), (6, .int q2293.1), (0, .ref b), (1, .ref b1), (2, .ref b2), (3, .ref a3), (4, .ref a4), (5, .int x5)]) hx hb dL_law_2320 hl (by decide) rfl (fun ls hl => ?_)
  refine lv_aload_n hx hb dL_law_2322 rfl (lv_at hl 4 rfl) ?_
  obtain ⟨q2323, hq2323, hf⟩ := mm_bd hf
  refine mm_Vi (rest := []) hC hM (c_X13_thrown l hq2323 hp_p2) q7_87 q1_12 ykX13_thrown q7_84 q7_85 q7_86 hp_p2.1 rfl ⟨rfl, rfl⟩ ⟨Nat.le_of_ble_eq_true rfl, Nat.le_of_ble_eq_true rfl⟩ rfl hl.1 rfl (Nat.le_of_ble_eq_true rfl) dL_law_2323 ⟨by omega, by omega⟩ (fun r w2323 H locs hM hw => ?_)
  obtain ⟨hr, hw⟩ := hw
  rw [hr]
  rw [hw] at hM
  refine lv_iload hx hb dL_law_2326 (lv_at hl 1 rfl) ?_
  refine lv_icmp_eq (tgt := 2333) hx hb dL_law_2328 (by decide) (fun hcd => ?_) (fun hcd => ?_)
  · rw [if_pos hcd] at hf
    refine lv_iload hx hb dL_law_2333 (lv_at hl 1 rfl) ?_
    refine lv_if_ne (tgt := 2350) hx hb dL_law_2335 (by decide) (fun hcd => ?_) (fun hcd => ?_)
    · rw [if_neg hcd] at hf
      refine lv_goto (tgt := 3345) hx hb dL_law_2350 (by decide) ?_
      cases hf
      exact W.widen (by omega) (by omega) (hk _ _ _ hM hp_p1 hp_p2 hp_p3 hp_p4 _ (lv_sub hl [2, 3, 4, 5, 6, 7] rfl))
    · rw [if_pos hcd] at hf
      refine lv_aload_n hx hb dL_law_2338 rfl (lv_at hl 5 rfl) ?_
      refine lv_iconst (v := 0) hx hb dL_law_2339 (by decide) ?_
      refine mm_lald0 hC hM hp_p3 dL_law_2340 ?_
      refine lv_iload hx hb dL_law_2341 (lv_at hl 0 rfl) ?_
      refine lv_i2l hx hb dL_law_2343 rfl ?_
      refine W.lcmp hx hb dL_law_2344 ?_
      refine lv_if_eq (tgt := 2350) hx hb dL_law_2345 (by decide) (fun hcd => ?_) (fun hcd => ?_)
      · rw [if_pos hcd] at hf
        refine lv_goto (tgt := 3345) hx hb dL_law_2350 (by decide) ?_
        cases hf
        exact W.widen (by omega) (by omega) (hk _ _ _ hM hp_p1 hp_p2 hp_p3 hp_p4 _ (lv_sub hl [2, 3, 4, 5, 6, 7] rfl))
      · rw [if_neg hcd] at hf
        refine lv_iconst (v := 0) hx hb dL_law_2348 (by decide) ?_
        cases hf
  · rw [if_neg hcd] at hf
    refine lv_iconst (v := 0) hx hb dL_law_2331 (by decide) ?_
    cases hf
def g_law36 (K : Nat) (p1_marsh_reeds_states : Nat → Int32) (p1_marsh_reeds_count : Int32) (p1_marsh_reeds_broken : Int32) (p1_marsh_fleet_numbers : Nat → Int32) (p1_marsh_fleet_cells : Nat → Int32) (p1_marsh_fleet_fares : Nat → Int32) (p1_marsh_fleet_count : Int32) (p1_marsh_fleet_nextNumber : Int32) (p1_marsh_fleet_total : Int32) (p1_marsh_fleet_removedFares : Int32) (p1_marsh_fleet_meetings : Int32) (p1_marsh_plans_moves : Nat → Int32) (p1_marsh_plans_lengths : Nat → Int32) (p1_marsh_landings_cells : Nat → Int32) (p1_marsh_landings_count : Int32) (p1_marsh_fogSide : Int32) (p1_history_slots : Nat → mm_MV) (p1_history_free : Int32) (p1_history_count : Int32) (p1_ways_tolls : Nat → Int32) (p1_ways_queue : Nat → Int32) (p1_ways_found : Nat → Int32) (p2_changes : Int32) (p2_v : Nat → Int32) (p2_before : Nat → Int32) (p2_past : Nat → Int32) (p2_far : Nat → Int32) (p2_scratch : Nat → Int32) (p2_thenX : Int32) (p2_thenY : Int32) (p3 : Nat → Int64) (x1 : Int32) (x2 : Int32) (x3 : Int32) (x4 : Int32) : Option ((Nat → Int32) × (Nat → Int32) × (Nat → mm_MV) × Int32 × Int32 × (Nat → Int32) × (Nat → Int32) × (Nat → Int32) × Int32 × Int32 × (Nat → Int32) × (Nat → Int32) × (Nat → Int32) × (Nat → Int32) × (Nat → Int32) × Int32 × Int32 × (Nat → Int64)) := (f_L_planWay K p1_marsh_reeds_states p1_marsh_reeds_count p1_marsh_reeds_broken p1_marsh_fleet_numbers p1_marsh_fleet_cells p1_marsh_fleet_fares p1_marsh_fleet_count p1_marsh_fleet_nextNumber p1_marsh_fleet_total p1_marsh_fleet_removedFares p1_marsh_fleet_meetings p1_marsh_plans_moves p1_marsh_plans_lengths p1_marsh_landings_cells p1_marsh_landings_count p1_marsh_fogSide p1_history_slots p1_history_free p1_history_count p1_ways_tolls p1_ways_queue p1_ways_found p3 x1 x2 x3 x4).bind fun q2379 => (f_X13_planWay K p2_changes p2_v p2_before p2_past p2_far p2_scratch p2_thenX p2_thenY x1 x2 x3 x4).bind fun q2409 => (f_X13_thrown q2409.2.1).bind fun q2415 => if q2415 = q2379.1 then if q2379.1 = 0 then if (lg_cmp (q2379.2.2.2.2.2.2.2.2.2 0) q2409.1.toInt64) = 0 then some (q2379.2.1, q2379.2.2.1, q2379.2.2.2.1, q2379.2.2.2.2.1, q2379.2.2.2.2.2.1, q2379.2.2.2.2.2.2.1, q2379.2.2.2.2.2.2.2.1, q2379.2.2.2.2.2.2.2.2.1, q2409.2.1, q2409.2.2.1, q2409.2.2.2.1, q2409.2.2.2.2.1, q2409.2.2.2.2.2.1, q2409.2.2.2.2.2.2.1, q2409.2.2.2.2.2.2.2.1, q2409.2.2.2.2.2.2.2.2.1, q2409.2.2.2.2.2.2.2.2.2, q2379.2.2.2.2.2.2.2.2.2) else none else some (q2379.2.1, q2379.2.2.1, q2379.2.2.2.1, q2379.2.2.2.2.1, q2379.2.2.2.2.2.1, q2379.2.2.2.2.2.2.1, q2379.2.2.2.2.2.2.2.1, q2379.2.2.2.2.2.2.2.2.1, q2409.2.1, q2409.2.2.1, q2409.2.2.2.1, q2409.2.2.2.2.1, q2409.2.2.2.2.2.1, q2409.2.2.2.2.2.2.1, q2409.2.2.2.2.2.2.2.1, q2409.2.2.2.2.2.2.2.2.1, q2409.2.2.2.2.2.2.2.2.2, q2379.2.2.2.2.2.2.2.2.2) else none
set_option maxHeartbeats 4000000 in
set_option maxRecDepth 100000 in
theorem g_law36_c (hC : mm_C G A p s m c code 10 args "MirrorFerryLaw") (hsX : va_X b L xs s s.heap) (hbl : b < s.heap.size) (hbA : ¬ A b) (hd1 : b1 + 152 ≤ b2) (hd2 : b2 + 13 ≤ a3) (hd3 : a3 + 1 ≤ a4) (hrc : cells + 1000 ≤ room_1.cells) (hrs : slots + 10000 ≤ room_1.slots) (hfl : l.stackTraces = false) {K : Nat} {p1_marsh_reeds_states : Nat → Int32} {p1_marsh_reeds_count : Int32} {p1_marsh_reeds_broken : Int32} {p1_marsh_fleet_numbers : Nat → Int32} {p1_marsh_fleet_cells : Nat → Int32} {p1_marsh_fleet_fares : Nat → Int32} {p1_marsh_fleet_count : Int32} {p1_marsh_fleet_nextNumber : Int32} {p1_marsh_fleet_total : Int32} {p1_marsh_fleet_removedFares : Int32} {p1_marsh_fleet_meetings : Int32} {p1_marsh_plans_moves : Nat → Int32} {p1_marsh_plans_lengths : Nat → Int32} {p1_marsh_landings_cells : Nat → Int32} {p1_marsh_landings_count : Int32} {p1_marsh_fogSide : Int32} {p1_snapshot_reeds_states : Nat → Int32} {p1_snapshot_reeds_count : Int32} {p1_snapshot_reeds_broken : Int32} {p1_snapshot_fleet_numbers : Nat → Int32} {p1_snapshot_fleet_cells : Nat → Int32} {p1_snapshot_fleet_fares : Nat → Int32} {p1_snapshot_fleet_count : Int32} {p1_snapshot_fleet_nextNumber : Int32} {p1_snapshot_fleet_total : Int32} {p1_snapshot_fleet_removedFares : Int32} {p1_snapshot_fleet_meetings : Int32} {p1_snapshot_plans_moves : Nat → Int32} {p1_snapshot_plans_lengths : Nat → Int32} {p1_snapshot_landings_cells : Nat → Int32} {p1_snapshot_landings_count : Int32} {p1_snapshot_fogSide : Int32} {p1_history_slots : Nat → mm_MV} {p1_history_free : Int32} {p1_history_count : Int32} {p1_ways_tolls : Nat → Int32} {p1_ways_queue : Nat → Int32} {p1_ways_heap : Nat → Int32} {p1_ways_heapSize : Int32} {p1_ways_found : Nat → Int32} {p1_ways_improved : Nat → Int32} {p1_pairing_costs : Nat → Int32} {p1_pairing_best : Nat → Int32} {p1_reader_kinds : Nat → Int32} {p1_reader_starts : Nat → Int32} {p1_reader_count : Int32} {p1_commandText_signs : Nat → Int32} {p1_commandText_length : Int32} {p1_line_signs : Nat → Int32} {p1_line_length : Int32} {p1_spareMoves : Nat → Int32} {p1_snapshotTaken : Int32} {p1_lastErrorPosition : Int32} {p1_lastFailedCommand : Int32} {p2_thrown : Int32} {p2_changes : Int32} {p2_errorAt : Int32} {p2_failedAt : Int32} {p2_isSaved : Int32} {p2_v : Nat → Int32} {p2_before : Nat → Int32} {p2_saved : Nat → Int32} {p2_past : Nat → Int32} {p2_far : Nat → Int32} {p2_scratch : Nat → Int32} {p2_best : Nat → Int32} {p2_thenX : Int32} {p2_thenY : Int32} {p2_thenMet : Int32} {p2_text : Nat → Int32} {p2_line : Nat → Int32} {p2_isLeft : Nat → Int32} {p2_words : Nat → Int32} {p2_wordAt : Nat → Int32} {p2_textN : Int32} {p2_hereP : Int32} {p2_endP : Int32} {p2_lineN : Int32} {p2_isWrong : Int32} {p2_isDoing : Int32} {p3 : Nat → Int64} {p4 : Nat → UInt64} {x0 x1 x2 x3 x4 x5 : Int32} {X : (Nat → Int32) × (Nat → Int32) × (Nat → mm_MV) × Int32 × Int32 × (Nat → Int32) × (Nat → Int32) × (Nat → Int32) × Int32 × Int32 × (Nat → Int32) × (Nat → Int32) × (Nat → Int32) × (Nat → Int32) × (Nat → Int32) × Int32 × Int32 × (Nat → Int64)} (hf : g_law36 K p1_marsh_reeds_states p1_marsh_reeds_count p1_marsh_reeds_broken p1_marsh_fleet_numbers p1_marsh_fleet_cells p1_marsh_fleet_fares p1_marsh_fleet_count p1_marsh_fleet_nextNumber p1_marsh_fleet_total p1_marsh_fleet_removedFares p1_marsh_fleet_meetings p1_marsh_plans_moves p1_marsh_plans_lengths p1_marsh_landings_cells p1_marsh_landings_count p1_marsh_fogSide p1_history_slots p1_history_free p1_history_count p1_ways_tolls p1_ways_queue p1_ways_found p2_changes p2_v p2_before p2_past p2_far p2_scratch p2_thenX p2_thenY p3 x1 x2 x3 x4 = some X) (hp_p1 : At12 G w b1 p1_marsh_reeds_states p1_marsh_reeds_count p1_marsh_reeds_broken p1_marsh_fleet_numbers p1_marsh_fleet_cells p1_marsh_fleet_fares p1_marsh_fleet_count p1_marsh_fleet_nextNumber p1_marsh_fleet_total p1_marsh_fleet_removedFares p1_marsh_fleet_meetings p1_marsh_plans_moves p1_marsh_plans_lengths p1_marsh_landings_cells p1_marsh_landings_count p1_marsh_fogSide p1_snapshot_reeds_states p1_snapshot_reeds_count p1_snapshot_reeds_broken p1_snapshot_fleet_numbers p1_snapshot_fleet_cells p1_snapshot_fleet_fares p1_snapshot_fleet_count p1_snapshot_fleet_nextNumber p1_snapshot_fleet_total p1_snapshot_fleet_removedFares p1_snapshot_fleet_meetings p1_snapshot_plans_moves p1_snapshot_plans_lengths p1_snapshot_landings_cells p1_snapshot_landings_count p1_snapshot_fogSide p1_history_slots p1_history_free p1_history_count p1_ways_tolls p1_ways_queue p1_ways_heap p1_ways_heapSize p1_ways_found p1_ways_improved p1_pairing_costs p1_pairing_best p1_reader_kinds p1_reader_starts p1_reader_count p1_commandText_signs p1_commandText_length p1_line_signs p1_line_length p1_spareMoves p1_snapshotTaken p1_lastErrorPosition p1_lastFailedCommand) (hp_p2 : At13 G w b2 p2_thrown p2_changes p2_errorAt p2_failedAt p2_isSaved p2_v p2_before p2_saved p2_past p2_far p2_scratch p2_best p2_thenX p2_thenY p2_thenMet p2_text p2_line p2_isLeft p2_words p2_wordAt p2_textN p2_hereP p2_endP p2_lineN p2_isWrong p2_isDoing) (hp_p3 : (a3, (.inl (G.2 3, 1, .inr (.inl p3)) : va_E)) ∈ w) (hp_p4 : (a4, (.inl (G.2 4, 1, .inr (.inr (.inr (.inl p4)))) : va_E)) ∈ w)
    (hsc : ∀ k : Nat, k < 5 → vp_in (x5 + Int32.ofNat k) L ∧ xs (x5 + Int32.ofNat k).toNatClampNeg = mm_x5 x0 x1 x2 x3 x4 k) (hM : mm_S G A s.heap w H locs)
    (hk : ∀ (w : va_W) (H : Heap) (locs : List Loc), mm_S G A s.heap w H locs → At12 G w b1 p1_marsh_reeds_states p1_marsh_reeds_count p1_marsh_reeds_broken p1_marsh_fleet_numbers p1_marsh_fleet_cells p1_marsh_fleet_fares p1_marsh_fleet_count p1_marsh_fleet_nextNumber p1_marsh_fleet_total p1_marsh_fleet_removedFares p1_marsh_fleet_meetings X.1 X.2.1 p1_marsh_landings_cells p1_marsh_landings_count p1_marsh_fogSide p1_snapshot_reeds_states p1_snapshot_reeds_count p1_snapshot_reeds_broken p1_snapshot_fleet_numbers p1_snapshot_fleet_cells p1_snapshot_fleet_fares p1_snapshot_fleet_count p1_snapshot_fleet_nextNumber p1_snapshot_fleet_total p1_snapshot_fleet_removedFares p1_snapshot_fleet_meetings p1_snapshot_plans_moves p1_snapshot_plans_lengths p1_snapshot_landings_cells p1_snapshot_landings_count p1_snapshot_fogSide X.2.2.1 X.2.2.2.1 X.2.2.2.2.1 X.2.2.2.2.2.1 X.2.2.2.2.2.2.1 p1_ways_heap p1_ways_heapSize X.2.2.2.2.2.2.2.1 p1_ways_improved p1_pairing_costs p1_pairing_best p1_reader_kinds p1_reader_starts p1_reader_count p1_commandText_signs p1_commandText_length p1_line_signs p1_line_length p1_spareMoves p1_snapshotTaken p1_lastErrorPosition p1_lastFailedCommand → At13 G w b2 X.2.2.2.2.2.2.2.2.1 X.2.2.2.2.2.2.2.2.2.1 p2_errorAt p2_failedAt p2_isSaved X.2.2.2.2.2.2.2.2.2.2.1 X.2.2.2.2.2.2.2.2.2.2.2.1 p2_saved X.2.2.2.2.2.2.2.2.2.2.2.2.1 X.2.2.2.2.2.2.2.2.2.2.2.2.2.1 X.2.2.2.2.2.2.2.2.2.2.2.2.2.2.1 p2_best X.2.2.2.2.2.2.2.2.2.2.2.2.2.2.2.1 X.2.2.2.2.2.2.2.2.2.2.2.2.2.2.2.2.1 p2_thenMet p2_text p2_line p2_isLeft p2_words p2_wordAt p2_textN p2_hereP p2_endP p2_lineN p2_isWrong p2_isDoing → (a3, (.inl (G.2 3, 1, .inr (.inl X.2.2.2.2.2.2.2.2.2.2.2.2.2.2.2.2.2)) : va_E)) ∈ w → (a4, (.inl (G.2 4, 1, .inr (.inr (.inr (.inl p4)))) : va_E)) ∈ w → ∀ ls, lv_has ls 10 [(0, .ref b), (1, .ref b1), (2, .ref b2), (3, .ref a3), (4, .ref a4), (5, .int x5)] → W p l e room_1 s m args below meth c H locs (cells + 1000) (slots + 10000) Q (F0 m 3345 ls [])) (ls : Array Slot) (hl : lv_has ls 10 [(0, .ref b), (1, .ref b1), (2, .ref b2), (3, .ref a3), (4, .ref a4), (5, .int x5)]) : W p l e room_1 s m args below meth c H locs cells slots Q (F0 m 2353 ls []) := by
  have hx := hC.1.1
  have hb := hC.1.2.1
  rw [g_law36] at hf
  refine lv_aload_n hx hb dL_law_2353 rfl (lv_at hl 1 rfl) ?_
  refine lv_aload_n hx hb dL_law_2354 rfl (lv_at hl 0 rfl) ?_
  refine lv_iload hx hb dL_law_2355 (lv_at hl 5 rfl) ?_
  refine lv_iconst (v := 1) hx hb dL_law_2357 (by decide) ?_
  refine lv_iadd hx hb dL_law_2358 ?_
  refine mm_sld hC hM hsX hbl hbA (hsc 1 (by decide)).1 (hsc 1 (by decide)).2 dL_law_2359 ?_
  refine lv_aload_n hx hb dL_law_2360 rfl (lv_at hl 0 rfl) ?_
  refine lv_iload hx hb dL_law_2361 (lv_at hl 5 rfl) ?_
  refine lv_iconst (v := 2) hx hb dL_law_2363 (by decide) ?_
  refine lv_iadd hx hb dL_law_2364 ?_
  refine mm_sld hC hM hsX hbl hbA (hsc 2 (by decide)).1 (hsc 2 (by decide)).2 dL_law_2365 ?_
  refine lv_aload_n hx hb dL_law_2366 rfl (lv_at hl 0 rfl) ?_
  refine lv_iload hx hb dL_law_2367 (lv_at hl 5 rfl) ?_
  refine lv_iconst (v := 3) hx hb dL_law_2369 (by decide) ?_
  refine lv_iadd hx hb dL_law_2370 ?_
  refine mm_sld hC hM hsX hbl hbA (hsc 3 (by decide)).1 (hsc 3 (by decide)).2 dL_law_2371 ?_
  refine lv_aload_n hx hb dL_law_2372 rfl (lv_at hl 0 rfl) ?_
  refine lv_iload hx hb dL_law_2373 (lv_at hl 5 rfl) ?_
  refine lv_iconst (v := 4) hx hb dL_law_2375 (by decide) ?_
  refine lv_iadd hx hb dL_law_2376 ?_
  refine mm_sld hC hM hsX hbl hbA (hsc 4 (by decide)).1 (hsc 4 (by decide)).2 dL_law_2377 ?_
  refine lv_aload_n hx hb dL_law_2378 rfl (lv_at hl 3 rfl) ?_
  obtain ⟨q2379, hq2379, hf⟩ := mm_bd hf
  refine mm_SiW (rest := []) hC hM (c_L_planWay l hfl hq2379 hp_p1 hp_p3 (by omega)) q5_155 q1_0 ykL_planWay q5_153 q5_154 ⟨rfl, rfl⟩ ⟨Nat.le_of_ble_eq_true rfl, Nat.le_of_ble_eq_true rfl⟩ rfl hl.1 rfl (Nat.le_of_ble_eq_true rfl) dL_law_2379 ⟨by omega, by omega⟩ (fun r w2379 H locs hM hw => ?_)
  obtain ⟨hr, hn_p0, hn_p5, hfr⟩ := hw
  rw [hr]
  have hp_p2 := hp_p2.keep2 hfr (by omega) (by omega)
  have hp_p4 := hfr.keep hp_p4 (by omega) (by omega)
  have hp_p1 := hn_p0
  have hp_p3 := hn_p5
  refine lv_istore (lv' := [(6, .int q2379.1), (0, .ref b), (1, .ref b1), (2, .ref b2), (3, .ref a3), (4, .ref a4), (5, .int x5)]) hx hb dL_law_2382 hl (by decide) rfl (fun ls hl => ?_)
  refine lv_aload_n hx hb dL_law_2384 rfl (lv_at hl 3 rfl) ?_
  refine lv_aload_n hx hb dL_law_2385 rfl (lv_at hl 1 rfl) ?_
  refine lv_iload hx hb dL_law_2386 (lv_at hl 6 rfl) ?_
  refine lv_iconst (v := 1) hx hb dL_law_2388 (by decide) ?_
  refine lv_iadd hx hb dL_law_2389 ?_
  refine mm_sld hC hM hsX hbl hbA (hsc 1 (by decide)).1 (hsc 1 (by decide)).2 dL_law_2390 ?_
  refine lv_aload_n hx hb dL_law_2391 rfl (lv_at hl 1 rfl) ?_
  refine lv_iload hx hb dL_law_2392 (lv_at hl 6 rfl) ?_
  refine lv_iconst (v := 2) hx hb dL_law_2394 (by decide) ?_
  refine lv_iadd hx hb dL_law_2395 ?_
  refine mm_sld hC hM hsX hbl hbA (hsc 2 (by decide)).1 (hsc 2 (by decide)).2 dL_law_2396 ?_
  refine lv_aload_n hx hb dL_law_2397 rfl (lv_at hl 1 rfl) ?_
  refine lv_iload hx hb dL_law_2398 (lv_at hl 6 rfl) ?_
  refine lv_iconst (v := 3) hx hb dL_law_2400 (by decide) ?_
  refine lv_iadd hx hb dL_law_2401 ?_
  refine mm_sld hC hM hsX hbl hbA (hsc 3 (by decide)).1 (hsc 3 (by decide)).2 dL_law_2402 ?_
  refine lv_aload_n hx hb dL_law_2403 rfl (lv_at hl 1 rfl) ?_
  refine lv_iload hx hb dL_law_2404 (lv_at hl 6 rfl) ?_
  refine lv_iconst (v := 4) hx hb dL_law_2406 (by decide) ?_
  refine lv_iadd hx hb dL_law_2407 ?_
  refine mm_sld hC hM hsX hbl hbA (hsc 4 (by decide)).1 (hsc 4 (by decide)).2 dL_law_2408 ?_
  obtain ⟨q2409, hq2409, hf⟩ := mm_bd hf
  refine mm_Vi (rest := []) hC hM (c_X13_planWay l hq2409 hp_p2) q8_158 q1_12 ykX13_planWay q8_155 q8_156 q8_157 hp_p2.1 rfl ⟨rfl, rfl⟩ ⟨Nat.le_of_ble_eq_true rfl, Nat.le_of_ble_eq_true rfl⟩ rfl hl.1 rfl (Nat.le_of_ble_eq_true rfl) dL_law_2409 ⟨by omega, by omega⟩ (fun r w2409 H locs hM hw => ?_)
  obtain ⟨hr, hn_this, hfr⟩ := hw
  rw [hr]
  have hp_p1 := hp_p1.keep hfr (by omega)
  have hp_p3 := hfr.keep hp_p3 (by omega)
  have hp_p4 := hfr.keep hp_p4 (by omega)
  have hp_p2 := hn_this
  refine lv_istore (lv' := [(7, .int q2409.1), (6, .int q2379.1), (0, .ref b), (1, .ref b1), (2, .ref b2), (3, .ref a3), (4, .ref a4), (5, .int x5)]) hx hb dL_law_2412 hl (by decide) rfl (fun ls hl => ?_)
  refine lv_aload_n hx hb dL_law_2414 rfl (lv_at hl 4 rfl) ?_
  obtain ⟨q2415, hq2415, hf⟩ := mm_bd hf
  refine mm_Vi (rest := []) hC hM (c_X13_thrown l hq2415 hp_p2) q7_87 q1_12 ykX13_thrown q7_84 q7_85 q7_86 hp_p2.1 rfl ⟨rfl, rfl⟩ ⟨Nat.le_of_ble_eq_true rfl, Nat.le_of_ble_eq_true rfl⟩ rfl hl.1 rfl (Nat.le_of_ble_eq_true rfl) dL_law_2415 ⟨by omega, by omega⟩ (fun r w2415 H locs hM hw => ?_)
  obtain ⟨hr, hw⟩ := hw
  rw [hr]
  rw [hw] at hM
  refine lv_iload hx hb dL_law_2418 (lv_at hl 1 rfl) ?_
  refine lv_icmp_eq (tgt := 2425) hx hb dL_law_2420 (by decide) (fun hcd => ?_) (fun hcd => ?_)
  · rw [if_pos hcd] at hf
    refine lv_iload hx hb dL_law_2425 (lv_at hl 1 rfl) ?_
    refine lv_if_ne (tgt := 2442) hx hb dL_law_2427 (by decide) (fun hcd => ?_) (fun hcd => ?_)
    · rw [if_neg hcd] at hf
      refine lv_goto (tgt := 3345) hx hb dL_law_2442 (by decide) ?_
      cases hf
      exact W.widen (by omega) (by omega) (hk _ _ _ hM hp_p1 hp_p2 hp_p3 hp_p4 _ (lv_sub hl [2, 3, 4, 5, 6, 7] rfl))
    · rw [if_pos hcd] at hf
      refine lv_aload_n hx hb dL_law_2430 rfl (lv_at hl 5 rfl) ?_
      refine lv_iconst (v := 0) hx hb dL_law_2431 (by decide) ?_
      refine mm_lald0 hC hM hp_p3 dL_law_2432 ?_
      refine lv_iload hx hb dL_law_2433 (lv_at hl 0 rfl) ?_
      refine lv_i2l hx hb dL_law_2435 rfl ?_
      refine W.lcmp hx hb dL_law_2436 ?_
      refine lv_if_eq (tgt := 2442) hx hb dL_law_2437 (by decide) (fun hcd => ?_) (fun hcd => ?_)
      · rw [if_pos hcd] at hf
        refine lv_goto (tgt := 3345) hx hb dL_law_2442 (by decide) ?_
        cases hf
        exact W.widen (by omega) (by omega) (hk _ _ _ hM hp_p1 hp_p2 hp_p3 hp_p4 _ (lv_sub hl [2, 3, 4, 5, 6, 7] rfl))
      · rw [if_neg hcd] at hf
        refine lv_iconst (v := 0) hx hb dL_law_2440 (by decide) ?_
        cases hf
  · rw [if_neg hcd] at hf
    refine lv_iconst (v := 0) hx hb dL_law_2423 (by decide) ?_
    cases hf
def g_law37 (K : Nat) (p1_marsh_reeds_states : Nat → Int32) (p1_marsh_reeds_count : Int32) (p1_marsh_reeds_broken : Int32) (p1_marsh_fleet_numbers : Nat → Int32) (p1_marsh_fleet_cells : Nat → Int32) (p1_marsh_fleet_fares : Nat → Int32) (p1_marsh_fleet_count : Int32) (p1_marsh_fleet_nextNumber : Int32) (p1_marsh_fleet_total : Int32) (p1_marsh_fleet_removedFares : Int32) (p1_marsh_fleet_meetings : Int32) (p1_marsh_plans_moves : Nat → Int32) (p1_marsh_plans_lengths : Nat → Int32) (p1_marsh_landings_cells : Nat → Int32) (p1_marsh_landings_count : Int32) (p1_marsh_fogSide : Int32) (p1_history_slots : Nat → mm_MV) (p1_history_free : Int32) (p1_history_count : Int32) (p2_changes : Int32) (p2_v : Nat → Int32) (p2_before : Nat → Int32) (p2_past : Nat → Int32) (p3 : Nat → Int64) (x1 : Int32) (x2 : Int32) : Option ((Nat → Int32) × Int32 × (Nat → mm_MV) × Int32 × Int32 × Int32 × Int32 × (Nat → Int32) × (Nat → Int32) × (Nat → Int32) × (Nat → Int64)) := (f_L_addLanding K p1_marsh_reeds_states p1_marsh_reeds_count p1_marsh_reeds_broken p1_marsh_fleet_numbers p1_marsh_fleet_cells p1_marsh_fleet_fares p1_marsh_fleet_count p1_marsh_fleet_nextNumber p1_marsh_fleet_total p1_marsh_fleet_removedFares p1_marsh_fleet_meetings p1_marsh_plans_moves p1_marsh_plans_lengths p1_marsh_landings_cells p1_marsh_landings_count p1_marsh_fogSide p1_history_slots p1_history_free p1_history_count p3 x1 x2).bind fun q2459 => (f_X13_addLanding K p2_changes p2_v p2_before p2_past x1 x2).bind fun q2477 => (f_X13_thrown q2477.2.1).bind fun q2483 => if q2483 = q2459.1 then if q2459.1 = 0 then if (lg_cmp (q2459.2.2.2.2.2.2 0) q2477.1.toInt64) = 0 then some (q2459.2.1, q2459.2.2.1, q2459.2.2.2.1, q2459.2.2.2.2.1, q2459.2.2.2.2.2.1, q2477.2.1, q2477.2.2.1, q2477.2.2.2.1, q2477.2.2.2.2.1, q2477.2.2.2.2.2, q2459.2.2.2.2.2.2) else none else some (q2459.2.1, q2459.2.2.1, q2459.2.2.2.1, q2459.2.2.2.2.1, q2459.2.2.2.2.2.1, q2477.2.1, q2477.2.2.1, q2477.2.2.2.1, q2477.2.2.2.2.1, q2477.2.2.2.2.2, q2459.2.2.2.2.2.2) else none
set_option maxHeartbeats 4000000 in
set_option maxRecDepth 100000 in
theorem g_law37_c (hC : mm_C G A p s m c code 10 args "MirrorFerryLaw") (hsX : va_X b L xs s s.heap) (hbl : b < s.heap.size) (hbA : ¬ A b) (hd1 : b1 + 152 ≤ b2) (hd2 : b2 + 13 ≤ a3) (hd3 : a3 + 1 ≤ a4) (hrc : cells + 1000 ≤ room_1.cells) (hrs : slots + 10000 ≤ room_1.slots) (hfl : l.stackTraces = false) {K : Nat} {p1_marsh_reeds_states : Nat → Int32} {p1_marsh_reeds_count : Int32} {p1_marsh_reeds_broken : Int32} {p1_marsh_fleet_numbers : Nat → Int32} {p1_marsh_fleet_cells : Nat → Int32} {p1_marsh_fleet_fares : Nat → Int32} {p1_marsh_fleet_count : Int32} {p1_marsh_fleet_nextNumber : Int32} {p1_marsh_fleet_total : Int32} {p1_marsh_fleet_removedFares : Int32} {p1_marsh_fleet_meetings : Int32} {p1_marsh_plans_moves : Nat → Int32} {p1_marsh_plans_lengths : Nat → Int32} {p1_marsh_landings_cells : Nat → Int32} {p1_marsh_landings_count : Int32} {p1_marsh_fogSide : Int32} {p1_snapshot_reeds_states : Nat → Int32} {p1_snapshot_reeds_count : Int32} {p1_snapshot_reeds_broken : Int32} {p1_snapshot_fleet_numbers : Nat → Int32} {p1_snapshot_fleet_cells : Nat → Int32} {p1_snapshot_fleet_fares : Nat → Int32} {p1_snapshot_fleet_count : Int32} {p1_snapshot_fleet_nextNumber : Int32} {p1_snapshot_fleet_total : Int32} {p1_snapshot_fleet_removedFares : Int32} {p1_snapshot_fleet_meetings : Int32} {p1_snapshot_plans_moves : Nat → Int32} {p1_snapshot_plans_lengths : Nat → Int32} {p1_snapshot_landings_cells : Nat → Int32} {p1_snapshot_landings_count : Int32} {p1_snapshot_fogSide : Int32} {p1_history_slots : Nat → mm_MV} {p1_history_free : Int32} {p1_history_count : Int32} {p1_ways_tolls : Nat → Int32} {p1_ways_queue : Nat → Int32} {p1_ways_heap : Nat → Int32} {p1_ways_heapSize : Int32} {p1_ways_found : Nat → Int32} {p1_ways_improved : Nat → Int32} {p1_pairing_costs : Nat → Int32} {p1_pairing_best : Nat → Int32} {p1_reader_kinds : Nat → Int32} {p1_reader_starts : Nat → Int32} {p1_reader_count : Int32} {p1_commandText_signs : Nat → Int32} {p1_commandText_length : Int32} {p1_line_signs : Nat → Int32} {p1_line_length : Int32} {p1_spareMoves : Nat → Int32} {p1_snapshotTaken : Int32} {p1_lastErrorPosition : Int32} {p1_lastFailedCommand : Int32} {p2_thrown : Int32} {p2_changes : Int32} {p2_errorAt : Int32} {p2_failedAt : Int32} {p2_isSaved : Int32} {p2_v : Nat → Int32} {p2_before : Nat → Int32} {p2_saved : Nat → Int32} {p2_past : Nat → Int32} {p2_far : Nat → Int32} {p2_scratch : Nat → Int32} {p2_best : Nat → Int32} {p2_thenX : Int32} {p2_thenY : Int32} {p2_thenMet : Int32} {p2_text : Nat → Int32} {p2_line : Nat → Int32} {p2_isLeft : Nat → Int32} {p2_words : Nat → Int32} {p2_wordAt : Nat → Int32} {p2_textN : Int32} {p2_hereP : Int32} {p2_endP : Int32} {p2_lineN : Int32} {p2_isWrong : Int32} {p2_isDoing : Int32} {p3 : Nat → Int64} {p4 : Nat → UInt64} {x0 x1 x2 x3 x4 x5 : Int32} {X : (Nat → Int32) × Int32 × (Nat → mm_MV) × Int32 × Int32 × Int32 × Int32 × (Nat → Int32) × (Nat → Int32) × (Nat → Int32) × (Nat → Int64)} (hf : g_law37 K p1_marsh_reeds_states p1_marsh_reeds_count p1_marsh_reeds_broken p1_marsh_fleet_numbers p1_marsh_fleet_cells p1_marsh_fleet_fares p1_marsh_fleet_count p1_marsh_fleet_nextNumber p1_marsh_fleet_total p1_marsh_fleet_removedFares p1_marsh_fleet_meetings p1_marsh_plans_moves p1_marsh_plans_lengths p1_marsh_landings_cells p1_marsh_landings_count p1_marsh_fogSide p1_history_slots p1_history_free p1_history_count p2_changes p2_v p2_before p2_past p3 x1 x2 = some X) (hp_p1 : At12 G w b1 p1_marsh_reeds_states p1_marsh_reeds_count p1_marsh_reeds_broken p1_marsh_fleet_numbers p1_marsh_fleet_cells p1_marsh_fleet_fares p1_marsh_fleet_count p1_marsh_fleet_nextNumber p1_marsh_fleet_total p1_marsh_fleet_removedFares p1_marsh_fleet_meetings p1_marsh_plans_moves p1_marsh_plans_lengths p1_marsh_landings_cells p1_marsh_landings_count p1_marsh_fogSide p1_snapshot_reeds_states p1_snapshot_reeds_count p1_snapshot_reeds_broken p1_snapshot_fleet_numbers p1_snapshot_fleet_cells p1_snapshot_fleet_fares p1_snapshot_fleet_count p1_snapshot_fleet_nextNumber p1_snapshot_fleet_total p1_snapshot_fleet_removedFares p1_snapshot_fleet_meetings p1_snapshot_plans_moves p1_snapshot_plans_lengths p1_snapshot_landings_cells p1_snapshot_landings_count p1_snapshot_fogSide p1_history_slots p1_history_free p1_history_count p1_ways_tolls p1_ways_queue p1_ways_heap p1_ways_heapSize p1_ways_found p1_ways_improved p1_pairing_costs p1_pairing_best p1_reader_kinds p1_reader_starts p1_reader_count p1_commandText_signs p1_commandText_length p1_line_signs p1_line_length p1_spareMoves p1_snapshotTaken p1_lastErrorPosition p1_lastFailedCommand) (hp_p2 : At13 G w b2 p2_thrown p2_changes p2_errorAt p2_failedAt p2_isSaved p2_v p2_before p2_saved p2_past p2_far p2_scratch p2_best p2_thenX p2_thenY p2_thenMet p2_text p2_line p2_isLeft p2_words p2_wordAt p2_textN p2_hereP p2_endP p2_lineN p2_isWrong p2_isDoing) (hp_p3 : (a3, (.inl (G.2 3, 1, .inr (.inl p3)) : va_E)) ∈ w) (hp_p4 : (a4, (.inl (G.2 4, 1, .inr (.inr (.inr (.inl p4)))) : va_E)) ∈ w)
    (hsc : ∀ k : Nat, k < 5 → vp_in (x5 + Int32.ofNat k) L ∧ xs (x5 + Int32.ofNat k).toNatClampNeg = mm_x5 x0 x1 x2 x3 x4 k) (hM : mm_S G A s.heap w H locs)
    (hk : ∀ (w : va_W) (H : Heap) (locs : List Loc), mm_S G A s.heap w H locs → At12 G w b1 p1_marsh_reeds_states p1_marsh_reeds_count p1_marsh_reeds_broken p1_marsh_fleet_numbers p1_marsh_fleet_cells p1_marsh_fleet_fares p1_marsh_fleet_count p1_marsh_fleet_nextNumber p1_marsh_fleet_total p1_marsh_fleet_removedFares p1_marsh_fleet_meetings p1_marsh_plans_moves p1_marsh_plans_lengths X.1 X.2.1 p1_marsh_fogSide p1_snapshot_reeds_states p1_snapshot_reeds_count p1_snapshot_reeds_broken p1_snapshot_fleet_numbers p1_snapshot_fleet_cells p1_snapshot_fleet_fares p1_snapshot_fleet_count p1_snapshot_fleet_nextNumber p1_snapshot_fleet_total p1_snapshot_fleet_removedFares p1_snapshot_fleet_meetings p1_snapshot_plans_moves p1_snapshot_plans_lengths p1_snapshot_landings_cells p1_snapshot_landings_count p1_snapshot_fogSide X.2.2.1 X.2.2.2.1 X.2.2.2.2.1 p1_ways_tolls p1_ways_queue p1_ways_heap p1_ways_heapSize p1_ways_found p1_ways_improved p1_pairing_costs p1_pairing_best p1_reader_kinds p1_reader_starts p1_reader_count p1_commandText_signs p1_commandText_length p1_line_signs p1_line_length p1_spareMoves p1_snapshotTaken p1_lastErrorPosition p1_lastFailedCommand → At13 G w b2 X.2.2.2.2.2.1 X.2.2.2.2.2.2.1 p2_errorAt p2_failedAt p2_isSaved X.2.2.2.2.2.2.2.1 X.2.2.2.2.2.2.2.2.1 p2_saved X.2.2.2.2.2.2.2.2.2.1 p2_far p2_scratch p2_best p2_thenX p2_thenY p2_thenMet p2_text p2_line p2_isLeft p2_words p2_wordAt p2_textN p2_hereP p2_endP p2_lineN p2_isWrong p2_isDoing → (a3, (.inl (G.2 3, 1, .inr (.inl X.2.2.2.2.2.2.2.2.2.2)) : va_E)) ∈ w → (a4, (.inl (G.2 4, 1, .inr (.inr (.inr (.inl p4)))) : va_E)) ∈ w → ∀ ls, lv_has ls 10 [(0, .ref b), (1, .ref b1), (2, .ref b2), (3, .ref a3), (4, .ref a4), (5, .int x5)] → W p l e room_1 s m args below meth c H locs (cells + 1000) (slots + 10000) Q (F0 m 3345 ls [])) (ls : Array Slot) (hl : lv_has ls 10 [(0, .ref b), (1, .ref b1), (2, .ref b2), (3, .ref a3), (4, .ref a4), (5, .int x5)]) : W p l e room_1 s m args below meth c H locs cells slots Q (F0 m 2445 ls []) := by
  have hx := hC.1.1
  have hb := hC.1.2.1
  rw [g_law37] at hf
  refine lv_aload_n hx hb dL_law_2445 rfl (lv_at hl 1 rfl) ?_
  refine lv_aload_n hx hb dL_law_2446 rfl (lv_at hl 0 rfl) ?_
  refine lv_iload hx hb dL_law_2447 (lv_at hl 5 rfl) ?_
  refine lv_iconst (v := 1) hx hb dL_law_2449 (by decide) ?_
  refine lv_iadd hx hb dL_law_2450 ?_
  refine mm_sld hC hM hsX hbl hbA (hsc 1 (by decide)).1 (hsc 1 (by decide)).2 dL_law_2451 ?_
  refine lv_aload_n hx hb dL_law_2452 rfl (lv_at hl 0 rfl) ?_
  refine lv_iload hx hb dL_law_2453 (lv_at hl 5 rfl) ?_
  refine lv_iconst (v := 2) hx hb dL_law_2455 (by decide) ?_
  refine lv_iadd hx hb dL_law_2456 ?_
  refine mm_sld hC hM hsX hbl hbA (hsc 2 (by decide)).1 (hsc 2 (by decide)).2 dL_law_2457 ?_
  refine lv_aload_n hx hb dL_law_2458 rfl (lv_at hl 3 rfl) ?_
  obtain ⟨q2459, hq2459, hf⟩ := mm_bd hf
  refine mm_SiW (rest := []) hC hM (c_L_addLanding l hfl hq2459 hp_p1 hp_p3 (by omega)) q5_176 q1_0 ykL_addLanding q5_174 q5_175 ⟨rfl, rfl⟩ ⟨Nat.le_of_ble_eq_true rfl, Nat.le_of_ble_eq_true rfl⟩ rfl hl.1 rfl (Nat.le_of_ble_eq_true rfl) dL_law_2459 ⟨by omega, by omega⟩ (fun r w2459 H locs hM hw => ?_)
  obtain ⟨hr, hn_p0, hn_p3, hfr⟩ := hw
  rw [hr]
  have hp_p2 := hp_p2.keep2 hfr (by omega) (by omega)
  have hp_p4 := hfr.keep hp_p4 (by omega) (by omega)
  have hp_p1 := hn_p0
  have hp_p3 := hn_p3
  refine lv_istore (lv' := [(6, .int q2459.1), (0, .ref b), (1, .ref b1), (2, .ref b2), (3, .ref a3), (4, .ref a4), (5, .int x5)]) hx hb dL_law_2462 hl (by decide) rfl (fun ls hl => ?_)
  refine lv_aload_n hx hb dL_law_2464 rfl (lv_at hl 3 rfl) ?_
  refine lv_aload_n hx hb dL_law_2465 rfl (lv_at hl 1 rfl) ?_
  refine lv_iload hx hb dL_law_2466 (lv_at hl 6 rfl) ?_
  refine lv_iconst (v := 1) hx hb dL_law_2468 (by decide) ?_
  refine lv_iadd hx hb dL_law_2469 ?_
  refine mm_sld hC hM hsX hbl hbA (hsc 1 (by decide)).1 (hsc 1 (by decide)).2 dL_law_2470 ?_
  refine lv_aload_n hx hb dL_law_2471 rfl (lv_at hl 1 rfl) ?_
  refine lv_iload hx hb dL_law_2472 (lv_at hl 6 rfl) ?_
  refine lv_iconst (v := 2) hx hb dL_law_2474 (by decide) ?_
  refine lv_iadd hx hb dL_law_2475 ?_
  refine mm_sld hC hM hsX hbl hbA (hsc 2 (by decide)).1 (hsc 2 (by decide)).2 dL_law_2476 ?_
  obtain ⟨q2477, hq2477, hf⟩ := mm_bd hf
  refine mm_Vi (rest := []) hC hM (c_X13_addLanding l hq2477 hp_p2) q8_170 q1_12 ykX13_addLanding q8_167 q8_168 q8_169 hp_p2.1 rfl ⟨rfl, rfl⟩ ⟨Nat.le_of_ble_eq_true rfl, Nat.le_of_ble_eq_true rfl⟩ rfl hl.1 rfl (Nat.le_of_ble_eq_true rfl) dL_law_2477 ⟨by omega, by omega⟩ (fun r w2477 H locs hM hw => ?_)
  obtain ⟨hr, hn_this, hfr⟩ := hw
  rw [hr]
  have hp_p1 := hp_p1.keep hfr (by omega)
  have hp_p3 := hfr.keep hp_p3 (by omega)
  have hp_p4 := hfr.keep hp_p4 (by omega)
  have hp_p2 := hn_this
  refine lv_istore (lv' := [(7, .int q2477.1), (6, .int q2459.1), (0, .ref b), (1, .ref b1), (2, .ref b2), (3, .ref a3), (4, .ref a4), (5, .int x5)]) hx hb dL_law_2480 hl (by decide) rfl (fun ls hl => ?_)
  refine lv_aload_n hx hb dL_law_2482 rfl (lv_at hl 4 rfl) ?_
  obtain ⟨q2483, hq2483, hf⟩ := mm_bd hf
  refine mm_Vi (rest := []) hC hM (c_X13_thrown l hq2483 hp_p2) q7_87 q1_12 ykX13_thrown q7_84 q7_85 q7_86 hp_p2.1 rfl ⟨rfl, rfl⟩ ⟨Nat.le_of_ble_eq_true rfl, Nat.le_of_ble_eq_true rfl⟩ rfl hl.1 rfl (Nat.le_of_ble_eq_true rfl) dL_law_2483 ⟨by omega, by omega⟩ (fun r w2483 H locs hM hw => ?_)
  obtain ⟨hr, hw⟩ := hw
  rw [hr]
  rw [hw] at hM
  refine lv_iload hx hb dL_law_2486 (lv_at hl 1 rfl) ?_
  refine lv_icmp_eq (tgt := 2493) hx hb dL_law_2488 (by decide) (fun hcd => ?_) (fun hcd => ?_)
  · rw [if_pos hcd] at hf
    refine lv_iload hx hb dL_law_2493 (lv_at hl 1 rfl) ?_
    refine lv_if_ne (tgt := 2510) hx hb dL_law_2495 (by decide) (fun hcd => ?_) (fun hcd => ?_)
    · rw [if_neg hcd] at hf
      refine lv_goto (tgt := 3345) hx hb dL_law_2510 (by decide) ?_
      cases hf
      exact W.widen (by omega) (by omega) (hk _ _ _ hM hp_p1 hp_p2 hp_p3 hp_p4 _ (lv_sub hl [2, 3, 4, 5, 6, 7] rfl))
    · rw [if_pos hcd] at hf
      refine lv_aload_n hx hb dL_law_2498 rfl (lv_at hl 5 rfl) ?_
      refine lv_iconst (v := 0) hx hb dL_law_2499 (by decide) ?_
      refine mm_lald0 hC hM hp_p3 dL_law_2500 ?_
      refine lv_iload hx hb dL_law_2501 (lv_at hl 0 rfl) ?_
      refine lv_i2l hx hb dL_law_2503 rfl ?_
      refine W.lcmp hx hb dL_law_2504 ?_
      refine lv_if_eq (tgt := 2510) hx hb dL_law_2505 (by decide) (fun hcd => ?_) (fun hcd => ?_)
      · rw [if_pos hcd] at hf
        refine lv_goto (tgt := 3345) hx hb dL_law_2510 (by decide) ?_
        cases hf
        exact W.widen (by omega) (by omega) (hk _ _ _ hM hp_p1 hp_p2 hp_p3 hp_p4 _ (lv_sub hl [2, 3, 4, 5, 6, 7] rfl))
      · rw [if_neg hcd] at hf
        refine lv_iconst (v := 0) hx hb dL_law_2508 (by decide) ?_
        cases hf
  · rw [if_neg hcd] at hf
    refine lv_iconst (v := 0) hx hb dL_law_2491 (by decide) ?_
    cases hf
def g_law38 (K : Nat) (p1_marsh_reeds_states : Nat → Int32) (p1_marsh_reeds_count : Int32) (p1_marsh_reeds_broken : Int32) (p1_marsh_fleet_numbers : Nat → Int32) (p1_marsh_fleet_cells : Nat → Int32) (p1_marsh_fleet_fares : Nat → Int32) (p1_marsh_fleet_count : Int32) (p1_marsh_fleet_nextNumber : Int32) (p1_marsh_fleet_total : Int32) (p1_marsh_fleet_removedFares : Int32) (p1_marsh_fleet_meetings : Int32) (p1_marsh_plans_moves : Nat → Int32) (p1_marsh_plans_lengths : Nat → Int32) (p1_marsh_landings_cells : Nat → Int32) (p1_marsh_landings_count : Int32) (p1_marsh_fogSide : Int32) (p1_history_slots : Nat → mm_MV) (p1_history_free : Int32) (p1_history_count : Int32) (p2_changes : Int32) (p2_v : Nat → Int32) (p2_before : Nat → Int32) (p2_past : Nat → Int32) (p3 : Nat → Int64) (x1 : Int32) : Option ((Nat → Int32) × Int32 × (Nat → mm_MV) × Int32 × Int32 × Int32 × Int32 × (Nat → Int32) × (Nat → Int32) × (Nat → Int32) × (Nat → Int64)) := (f_L_removeLanding K p1_marsh_reeds_states p1_marsh_reeds_count p1_marsh_reeds_broken p1_marsh_fleet_numbers p1_marsh_fleet_cells p1_marsh_fleet_fares p1_marsh_fleet_count p1_marsh_fleet_nextNumber p1_marsh_fleet_total p1_marsh_fleet_removedFares p1_marsh_fleet_meetings p1_marsh_plans_moves p1_marsh_plans_lengths p1_marsh_landings_cells p1_marsh_landings_count p1_marsh_fogSide p1_history_slots p1_history_free p1_history_count p3 x1).bind fun q2521 => (f_X13_removeLanding K p2_changes p2_v p2_before p2_past x1).bind fun q2533 => (f_X13_thrown q2533.2.1).bind fun q2539 => if q2539 = q2521.1 then if q2521.1 = 0 then if (lg_cmp (q2521.2.2.2.2.2.2 0) q2533.1.toInt64) = 0 then some (q2521.2.1, q2521.2.2.1, q2521.2.2.2.1, q2521.2.2.2.2.1, q2521.2.2.2.2.2.1, q2533.2.1, q2533.2.2.1, q2533.2.2.2.1, q2533.2.2.2.2.1, q2533.2.2.2.2.2, q2521.2.2.2.2.2.2) else none else some (q2521.2.1, q2521.2.2.1, q2521.2.2.2.1, q2521.2.2.2.2.1, q2521.2.2.2.2.2.1, q2533.2.1, q2533.2.2.1, q2533.2.2.2.1, q2533.2.2.2.2.1, q2533.2.2.2.2.2, q2521.2.2.2.2.2.2) else none
set_option maxHeartbeats 4000000 in
set_option maxRecDepth 100000 in
theorem g_law38_c (hC : mm_C G A p s m c code 10 args "MirrorFerryLaw") (hsX : va_X b L xs s s.heap) (hbl : b < s.heap.size) (hbA : ¬ A b) (hd1 : b1 + 152 ≤ b2) (hd2 : b2 + 13 ≤ a3) (hd3 : a3 + 1 ≤ a4) (hrc : cells + 1000 ≤ room_1.cells) (hrs : slots + 10000 ≤ room_1.slots) (hfl : l.stackTraces = false) {K : Nat} {p1_marsh_reeds_states : Nat → Int32} {p1_marsh_reeds_count : Int32} {p1_marsh_reeds_broken : Int32} {p1_marsh_fleet_numbers : Nat → Int32} {p1_marsh_fleet_cells : Nat → Int32} {p1_marsh_fleet_fares : Nat → Int32} {p1_marsh_fleet_count : Int32} {p1_marsh_fleet_nextNumber : Int32} {p1_marsh_fleet_total : Int32} {p1_marsh_fleet_removedFares : Int32} {p1_marsh_fleet_meetings : Int32} {p1_marsh_plans_moves : Nat → Int32} {p1_marsh_plans_lengths : Nat → Int32} {p1_marsh_landings_cells : Nat → Int32} {p1_marsh_landings_count : Int32} {p1_marsh_fogSide : Int32} {p1_snapshot_reeds_states : Nat → Int32} {p1_snapshot_reeds_count : Int32} {p1_snapshot_reeds_broken : Int32} {p1_snapshot_fleet_numbers : Nat → Int32} {p1_snapshot_fleet_cells : Nat → Int32} {p1_snapshot_fleet_fares : Nat → Int32} {p1_snapshot_fleet_count : Int32} {p1_snapshot_fleet_nextNumber : Int32} {p1_snapshot_fleet_total : Int32} {p1_snapshot_fleet_removedFares : Int32} {p1_snapshot_fleet_meetings : Int32} {p1_snapshot_plans_moves : Nat → Int32} {p1_snapshot_plans_lengths : Nat → Int32} {p1_snapshot_landings_cells : Nat → Int32} {p1_snapshot_landings_count : Int32} {p1_snapshot_fogSide : Int32} {p1_history_slots : Nat → mm_MV} {p1_history_free : Int32} {p1_history_count : Int32} {p1_ways_tolls : Nat → Int32} {p1_ways_queue : Nat → Int32} {p1_ways_heap : Nat → Int32} {p1_ways_heapSize : Int32} {p1_ways_found : Nat → Int32} {p1_ways_improved : Nat → Int32} {p1_pairing_costs : Nat → Int32} {p1_pairing_best : Nat → Int32} {p1_reader_kinds : Nat → Int32} {p1_reader_starts : Nat → Int32} {p1_reader_count : Int32} {p1_commandText_signs : Nat → Int32} {p1_commandText_length : Int32} {p1_line_signs : Nat → Int32} {p1_line_length : Int32} {p1_spareMoves : Nat → Int32} {p1_snapshotTaken : Int32} {p1_lastErrorPosition : Int32} {p1_lastFailedCommand : Int32} {p2_thrown : Int32} {p2_changes : Int32} {p2_errorAt : Int32} {p2_failedAt : Int32} {p2_isSaved : Int32} {p2_v : Nat → Int32} {p2_before : Nat → Int32} {p2_saved : Nat → Int32} {p2_past : Nat → Int32} {p2_far : Nat → Int32} {p2_scratch : Nat → Int32} {p2_best : Nat → Int32} {p2_thenX : Int32} {p2_thenY : Int32} {p2_thenMet : Int32} {p2_text : Nat → Int32} {p2_line : Nat → Int32} {p2_isLeft : Nat → Int32} {p2_words : Nat → Int32} {p2_wordAt : Nat → Int32} {p2_textN : Int32} {p2_hereP : Int32} {p2_endP : Int32} {p2_lineN : Int32} {p2_isWrong : Int32} {p2_isDoing : Int32} {p3 : Nat → Int64} {p4 : Nat → UInt64} {x0 x1 x2 x3 x4 x5 : Int32} {X : (Nat → Int32) × Int32 × (Nat → mm_MV) × Int32 × Int32 × Int32 × Int32 × (Nat → Int32) × (Nat → Int32) × (Nat → Int32) × (Nat → Int64)} (hf : g_law38 K p1_marsh_reeds_states p1_marsh_reeds_count p1_marsh_reeds_broken p1_marsh_fleet_numbers p1_marsh_fleet_cells p1_marsh_fleet_fares p1_marsh_fleet_count p1_marsh_fleet_nextNumber p1_marsh_fleet_total p1_marsh_fleet_removedFares p1_marsh_fleet_meetings p1_marsh_plans_moves p1_marsh_plans_lengths p1_marsh_landings_cells p1_marsh_landings_count p1_marsh_fogSide p1_history_slots p1_history_free p1_history_count p2_changes p2_v p2_before p2_past p3 x1 = some X) (hp_p1 : At12 G w b1 p1_marsh_reeds_states p1_marsh_reeds_count p1_marsh_reeds_broken p1_marsh_fleet_numbers p1_marsh_fleet_cells p1_marsh_fleet_fares p1_marsh_fleet_count p1_marsh_fleet_nextNumber p1_marsh_fleet_total p1_marsh_fleet_removedFares p1_marsh_fleet_meetings p1_marsh_plans_moves p1_marsh_plans_lengths p1_marsh_landings_cells p1_marsh_landings_count p1_marsh_fogSide p1_snapshot_reeds_states p1_snapshot_reeds_count p1_snapshot_reeds_broken p1_snapshot_fleet_numbers p1_snapshot_fleet_cells p1_snapshot_fleet_fares p1_snapshot_fleet_count p1_snapshot_fleet_nextNumber p1_snapshot_fleet_total p1_snapshot_fleet_removedFares p1_snapshot_fleet_meetings p1_snapshot_plans_moves p1_snapshot_plans_lengths p1_snapshot_landings_cells p1_snapshot_landings_count p1_snapshot_fogSide p1_history_slots p1_history_free p1_history_count p1_ways_tolls p1_ways_queue p1_ways_heap p1_ways_heapSize p1_ways_found p1_ways_improved p1_pairing_costs p1_pairing_best p1_reader_kinds p1_reader_starts p1_reader_count p1_commandText_signs p1_commandText_length p1_line_signs p1_line_length p1_spareMoves p1_snapshotTaken p1_lastErrorPosition p1_lastFailedCommand) (hp_p2 : At13 G w b2 p2_thrown p2_changes p2_errorAt p2_failedAt p2_isSaved p2_v p2_before p2_saved p2_past p2_far p2_scratch p2_best p2_thenX p2_thenY p2_thenMet p2_text p2_line p2_isLeft p2_words p2_wordAt p2_textN p2_hereP p2_endP p2_lineN p2_isWrong p2_isDoing) (hp_p3 : (a3, (.inl (G.2 3, 1, .inr (.inl p3)) : va_E)) ∈ w) (hp_p4 : (a4, (.inl (G.2 4, 1, .inr (.inr (.inr (.inl p4)))) : va_E)) ∈ w)
    (hsc : ∀ k : Nat, k < 5 → vp_in (x5 + Int32.ofNat k) L ∧ xs (x5 + Int32.ofNat k).toNatClampNeg = mm_x5 x0 x1 x2 x3 x4 k) (hM : mm_S G A s.heap w H locs)
    (hk : ∀ (w : va_W) (H : Heap) (locs : List Loc), mm_S G A s.heap w H locs → At12 G w b1 p1_marsh_reeds_states p1_marsh_reeds_count p1_marsh_reeds_broken p1_marsh_fleet_numbers p1_marsh_fleet_cells p1_marsh_fleet_fares p1_marsh_fleet_count p1_marsh_fleet_nextNumber p1_marsh_fleet_total p1_marsh_fleet_removedFares p1_marsh_fleet_meetings p1_marsh_plans_moves p1_marsh_plans_lengths X.1 X.2.1 p1_marsh_fogSide p1_snapshot_reeds_states p1_snapshot_reeds_count p1_snapshot_reeds_broken p1_snapshot_fleet_numbers p1_snapshot_fleet_cells p1_snapshot_fleet_fares p1_snapshot_fleet_count p1_snapshot_fleet_nextNumber p1_snapshot_fleet_total p1_snapshot_fleet_removedFares p1_snapshot_fleet_meetings p1_snapshot_plans_moves p1_snapshot_plans_lengths p1_snapshot_landings_cells p1_snapshot_landings_count p1_snapshot_fogSide X.2.2.1 X.2.2.2.1 X.2.2.2.2.1 p1_ways_tolls p1_ways_queue p1_ways_heap p1_ways_heapSize p1_ways_found p1_ways_improved p1_pairing_costs p1_pairing_best p1_reader_kinds p1_reader_starts p1_reader_count p1_commandText_signs p1_commandText_length p1_line_signs p1_line_length p1_spareMoves p1_snapshotTaken p1_lastErrorPosition p1_lastFailedCommand → At13 G w b2 X.2.2.2.2.2.1 X.2.2.2.2.2.2.1 p2_errorAt p2_failedAt p2_isSaved X.2.2.2.2.2.2.2.1 X.2.2.2.2.2.2.2.2.1 p2_saved X.2.2.2.2.2.2.2.2.2.1 p2_far p2_scratch p2_best p2_thenX p2_thenY p2_thenMet p2_text p2_line p2_isLeft p2_words p2_wordAt p2_textN p2_hereP p2_endP p2_lineN p2_isWrong p2_isDoing → (a3, (.inl (G.2 3, 1, .inr (.inl X.2.2.2.2.2.2.2.2.2.2)) : va_E)) ∈ w → (a4, (.inl (G.2 4, 1, .inr (.inr (.inr (.inl p4)))) : va_E)) ∈ w → ∀ ls, lv_has ls 10 [(0, .ref b), (1, .ref b1), (2, .ref b2), (3, .ref a3), (4, .ref a4), (5, .int x5)] → W p l e room_1 s m args below meth c H locs (cells + 1000) (slots + 10000) Q (F0 m 3345 ls [])) (ls : Array Slot) (hl : lv_has ls 10 [(0, .ref b), (1, .ref b1), (2, .ref b2), (3, .ref a3), (4, .ref a4), (5, .int x5)]) : W p l e room_1 s m args below meth c H locs cells slots Q (F0 m 2513 ls []) := by
  have hx := hC.1.1
  have hb := hC.1.2.1
  rw [g_law38] at hf
  refine lv_aload_n hx hb dL_law_2513 rfl (lv_at hl 1 rfl) ?_
  refine lv_aload_n hx hb dL_law_2514 rfl (lv_at hl 0 rfl) ?_
  refine lv_iload hx hb dL_law_2515 (lv_at hl 5 rfl) ?_
  refine lv_iconst (v := 1) hx hb dL_law_2517 (by decide) ?_
  refine lv_iadd hx hb dL_law_2518 ?_
  refine mm_sld hC hM hsX hbl hbA (hsc 1 (by decide)).1 (hsc 1 (by decide)).2 dL_law_2519 ?_
  refine lv_aload_n hx hb dL_law_2520 rfl (lv_at hl 3 rfl) ?_
  obtain ⟨q2521, hq2521, hf⟩ := mm_bd hf
  refine mm_SiW (rest := []) hC hM (c_L_removeLanding l hfl hq2521 hp_p1 hp_p3 (by omega)) q5_192 q1_0 ykL_removeLanding q5_190 q5_191 ⟨rfl, rfl⟩ ⟨Nat.le_of_ble_eq_true rfl, Nat.le_of_ble_eq_true rfl⟩ rfl hl.1 rfl (Nat.le_of_ble_eq_true rfl) dL_law_2521 ⟨by omega, by omega⟩ (fun r w2521 H locs hM hw => ?_)
  obtain ⟨hr, hn_p0, hn_p2, hfr⟩ := hw
  rw [hr]
  have hp_p2 := hp_p2.keep2 hfr (by omega) (by omega)
  have hp_p4 := hfr.keep hp_p4 (by omega) (by omega)
  have hp_p1 := hn_p0
  have hp_p3 := hn_p2
  refine lv_istore (lv' := [(6, .int q2521.1), (0, .ref b), (1, .ref b1), (2, .ref b2), (3, .ref a3), (4, .ref a4), (5, .int x5)]) hx hb dL_law_2524 hl (by decide) rfl (fun ls hl => ?_)
  refine lv_aload_n hx hb dL_law_2526 rfl (lv_at hl 3 rfl) ?_
  refine lv_aload_n hx hb dL_law_2527 rfl (lv_at hl 1 rfl) ?_
  refine lv_iload hx hb dL_law_2528 (lv_at hl 6 rfl) ?_
  refine lv_iconst (v := 1) hx hb dL_law_2530 (by decide) ?_
  refine lv_iadd hx hb dL_law_2531 ?_
  refine mm_sld hC hM hsX hbl hbA (hsc 1 (by decide)).1 (hsc 1 (by decide)).2 dL_law_2532 ?_
  obtain ⟨q2533, hq2533, hf⟩ := mm_bd hf
  refine mm_Vi (rest := []) hC hM (c_X13_removeLanding l hq2533 hp_p2) q8_178 q1_12 ykX13_removeLanding q8_175 q8_176 q8_177 hp_p2.1 rfl ⟨rfl, rfl⟩ ⟨Nat.le_of_ble_eq_true rfl, Nat.le_of_ble_eq_true rfl⟩ rfl hl.1 rfl (Nat.le_of_ble_eq_true rfl) dL_law_2533 ⟨by omega, by omega⟩ (fun r w2533 H locs hM hw => ?_)
  obtain ⟨hr, hn_this, hfr⟩ := hw
  rw [hr]
  have hp_p1 := hp_p1.keep hfr (by omega)
  have hp_p3 := hfr.keep hp_p3 (by omega)
  have hp_p4 := hfr.keep hp_p4 (by omega)
  have hp_p2 := hn_this
  refine lv_istore (lv' := [(7, .int q2533.1), (6, .int q2521.1), (0, .ref b), (1, .ref b1), (2, .ref b2), (3, .ref a3), (4, .ref a4), (5, .int x5)]) hx hb dL_law_2536 hl (by decide) rfl (fun ls hl => ?_)
  refine lv_aload_n hx hb dL_law_2538 rfl (lv_at hl 4 rfl) ?_
  obtain ⟨q2539, hq2539, hf⟩ := mm_bd hf
  refine mm_Vi (rest := []) hC hM (c_X13_thrown l hq2539 hp_p2) q7_87 q1_12 ykX13_thrown q7_84 q7_85 q7_86 hp_p2.1 rfl ⟨rfl, rfl⟩ ⟨Nat.le_of_ble_eq_true rfl, Nat.le_of_ble_eq_true rfl⟩ rfl hl.1 rfl (Nat.le_of_ble_eq_true rfl) dL_law_2539 ⟨by omega, by omega⟩ (fun r w2539 H locs hM hw => ?_)
  obtain ⟨hr, hw⟩ := hw
  rw [hr]
  rw [hw] at hM
  refine lv_iload hx hb dL_law_2542 (lv_at hl 1 rfl) ?_
  refine lv_icmp_eq (tgt := 2549) hx hb dL_law_2544 (by decide) (fun hcd => ?_) (fun hcd => ?_)
  · rw [if_pos hcd] at hf
    refine lv_iload hx hb dL_law_2549 (lv_at hl 1 rfl) ?_
    refine lv_if_ne (tgt := 2566) hx hb dL_law_2551 (by decide) (fun hcd => ?_) (fun hcd => ?_)
    · rw [if_neg hcd] at hf
      refine lv_goto (tgt := 3345) hx hb dL_law_2566 (by decide) ?_
      cases hf
      exact W.widen (by omega) (by omega) (hk _ _ _ hM hp_p1 hp_p2 hp_p3 hp_p4 _ (lv_sub hl [2, 3, 4, 5, 6, 7] rfl))
    · rw [if_pos hcd] at hf
      refine lv_aload_n hx hb dL_law_2554 rfl (lv_at hl 5 rfl) ?_
      refine lv_iconst (v := 0) hx hb dL_law_2555 (by decide) ?_
      refine mm_lald0 hC hM hp_p3 dL_law_2556 ?_
      refine lv_iload hx hb dL_law_2557 (lv_at hl 0 rfl) ?_
      refine lv_i2l hx hb dL_law_2559 rfl ?_
      refine W.lcmp hx hb dL_law_2560 ?_
      refine lv_if_eq (tgt := 2566) hx hb dL_law_2561 (by decide) (fun hcd => ?_) (fun hcd => ?_)
      · rw [if_pos hcd] at hf
        refine lv_goto (tgt := 3345) hx hb dL_law_2566 (by decide) ?_
        cases hf
        exact W.widen (by omega) (by omega) (hk _ _ _ hM hp_p1 hp_p2 hp_p3 hp_p4 _ (lv_sub hl [2, 3, 4, 5, 6, 7] rfl))
      · rw [if_neg hcd] at hf
        refine lv_iconst (v := 0) hx hb dL_law_2564 (by decide) ?_
        cases hf
  · rw [if_neg hcd] at hf
    refine lv_iconst (v := 0) hx hb dL_law_2547 (by decide) ?_
    cases hf
def g_law39 (p1_marsh_landings_count : Int32) (p2_v : Nat → Int32) : Option (Int32) := (f_X12_landingCount p1_marsh_landings_count).bind fun q2570 => (f_X13_landingCount p2_v).bind fun q2574 => if q2570 = q2574.1 then some q2574.2 else none
set_option maxHeartbeats 4000000 in
set_option maxRecDepth 100000 in
theorem g_law39_c (hC : mm_C G A p s m c code 10 args "MirrorFerryLaw") (hsX : va_X b L xs s s.heap) (hbl : b < s.heap.size) (hbA : ¬ A b) (hd1 : b1 + 152 ≤ b2) (hd2 : b2 + 13 ≤ a3) (hd3 : a3 + 1 ≤ a4) (hrc : cells + 1000 ≤ room_1.cells) (hrs : slots + 10000 ≤ room_1.slots) (hfl : l.stackTraces = false) {p1_marsh_reeds_states : Nat → Int32} {p1_marsh_reeds_count : Int32} {p1_marsh_reeds_broken : Int32} {p1_marsh_fleet_numbers : Nat → Int32} {p1_marsh_fleet_cells : Nat → Int32} {p1_marsh_fleet_fares : Nat → Int32} {p1_marsh_fleet_count : Int32} {p1_marsh_fleet_nextNumber : Int32} {p1_marsh_fleet_total : Int32} {p1_marsh_fleet_removedFares : Int32} {p1_marsh_fleet_meetings : Int32} {p1_marsh_plans_moves : Nat → Int32} {p1_marsh_plans_lengths : Nat → Int32} {p1_marsh_landings_cells : Nat → Int32} {p1_marsh_landings_count : Int32} {p1_marsh_fogSide : Int32} {p1_snapshot_reeds_states : Nat → Int32} {p1_snapshot_reeds_count : Int32} {p1_snapshot_reeds_broken : Int32} {p1_snapshot_fleet_numbers : Nat → Int32} {p1_snapshot_fleet_cells : Nat → Int32} {p1_snapshot_fleet_fares : Nat → Int32} {p1_snapshot_fleet_count : Int32} {p1_snapshot_fleet_nextNumber : Int32} {p1_snapshot_fleet_total : Int32} {p1_snapshot_fleet_removedFares : Int32} {p1_snapshot_fleet_meetings : Int32} {p1_snapshot_plans_moves : Nat → Int32} {p1_snapshot_plans_lengths : Nat → Int32} {p1_snapshot_landings_cells : Nat → Int32} {p1_snapshot_landings_count : Int32} {p1_snapshot_fogSide : Int32} {p1_history_slots : Nat → mm_MV} {p1_history_free : Int32} {p1_history_count : Int32} {p1_ways_tolls : Nat → Int32} {p1_ways_queue : Nat → Int32} {p1_ways_heap : Nat → Int32} {p1_ways_heapSize : Int32} {p1_ways_found : Nat → Int32} {p1_ways_improved : Nat → Int32} {p1_pairing_costs : Nat → Int32} {p1_pairing_best : Nat → Int32} {p1_reader_kinds : Nat → Int32} {p1_reader_starts : Nat → Int32} {p1_reader_count : Int32} {p1_commandText_signs : Nat → Int32} {p1_commandText_length : Int32} {p1_line_signs : Nat → Int32} {p1_line_length : Int32} {p1_spareMoves : Nat → Int32} {p1_snapshotTaken : Int32} {p1_lastErrorPosition : Int32} {p1_lastFailedCommand : Int32} {p2_thrown : Int32} {p2_changes : Int32} {p2_errorAt : Int32} {p2_failedAt : Int32} {p2_isSaved : Int32} {p2_v : Nat → Int32} {p2_before : Nat → Int32} {p2_saved : Nat → Int32} {p2_past : Nat → Int32} {p2_far : Nat → Int32} {p2_scratch : Nat → Int32} {p2_best : Nat → Int32} {p2_thenX : Int32} {p2_thenY : Int32} {p2_thenMet : Int32} {p2_text : Nat → Int32} {p2_line : Nat → Int32} {p2_isLeft : Nat → Int32} {p2_words : Nat → Int32} {p2_wordAt : Nat → Int32} {p2_textN : Int32} {p2_hereP : Int32} {p2_endP : Int32} {p2_lineN : Int32} {p2_isWrong : Int32} {p2_isDoing : Int32} {p3 : Nat → Int64} {p4 : Nat → UInt64} {x0 x1 x2 x3 x4 x5 : Int32} {X : Int32} (hf : g_law39 p1_marsh_landings_count p2_v = some X) (hp_p1 : At12 G w b1 p1_marsh_reeds_states p1_marsh_reeds_count p1_marsh_reeds_broken p1_marsh_fleet_numbers p1_marsh_fleet_cells p1_marsh_fleet_fares p1_marsh_fleet_count p1_marsh_fleet_nextNumber p1_marsh_fleet_total p1_marsh_fleet_removedFares p1_marsh_fleet_meetings p1_marsh_plans_moves p1_marsh_plans_lengths p1_marsh_landings_cells p1_marsh_landings_count p1_marsh_fogSide p1_snapshot_reeds_states p1_snapshot_reeds_count p1_snapshot_reeds_broken p1_snapshot_fleet_numbers p1_snapshot_fleet_cells p1_snapshot_fleet_fares p1_snapshot_fleet_count p1_snapshot_fleet_nextNumber p1_snapshot_fleet_total p1_snapshot_fleet_removedFares p1_snapshot_fleet_meetings p1_snapshot_plans_moves p1_snapshot_plans_lengths p1_snapshot_landings_cells p1_snapshot_landings_count p1_snapshot_fogSide p1_history_slots p1_history_free p1_history_count p1_ways_tolls p1_ways_queue p1_ways_heap p1_ways_heapSize p1_ways_found p1_ways_improved p1_pairing_costs p1_pairing_best p1_reader_kinds p1_reader_starts p1_reader_count p1_commandText_signs p1_commandText_length p1_line_signs p1_line_length p1_spareMoves p1_snapshotTaken p1_lastErrorPosition p1_lastFailedCommand) (hp_p2 : At13 G w b2 p2_thrown p2_changes p2_errorAt p2_failedAt p2_isSaved p2_v p2_before p2_saved p2_past p2_far p2_scratch p2_best p2_thenX p2_thenY p2_thenMet p2_text p2_line p2_isLeft p2_words p2_wordAt p2_textN p2_hereP p2_endP p2_lineN p2_isWrong p2_isDoing) (hp_p3 : (a3, (.inl (G.2 3, 1, .inr (.inl p3)) : va_E)) ∈ w) (hp_p4 : (a4, (.inl (G.2 4, 1, .inr (.inr (.inr (.inl p4)))) : va_E)) ∈ w)
    (hsc : ∀ k : Nat, k < 5 → vp_in (x5 + Int32.ofNat k) L ∧ xs (x5 + Int32.ofNat k).toNatClampNeg = mm_x5 x0 x1 x2 x3 x4 k) (hM : mm_S G A s.heap w H locs)
    (hk : ∀ (w : va_W) (H : Heap) (locs : List Loc), mm_S G A s.heap w H locs → At12 G w b1 p1_marsh_reeds_states p1_marsh_reeds_count p1_marsh_reeds_broken p1_marsh_fleet_numbers p1_marsh_fleet_cells p1_marsh_fleet_fares p1_marsh_fleet_count p1_marsh_fleet_nextNumber p1_marsh_fleet_total p1_marsh_fleet_removedFares p1_marsh_fleet_meetings p1_marsh_plans_moves p1_marsh_plans_lengths p1_marsh_landings_cells p1_marsh_landings_count p1_marsh_fogSide p1_snapshot_reeds_states p1_snapshot_reeds_count p1_snapshot_reeds_broken p1_snapshot_fleet_numbers p1_snapshot_fleet_cells p1_snapshot_fleet_fares p1_snapshot_fleet_count p1_snapshot_fleet_nextNumber p1_snapshot_fleet_total p1_snapshot_fleet_removedFares p1_snapshot_fleet_meetings p1_snapshot_plans_moves p1_snapshot_plans_lengths p1_snapshot_landings_cells p1_snapshot_landings_count p1_snapshot_fogSide p1_history_slots p1_history_free p1_history_count p1_ways_tolls p1_ways_queue p1_ways_heap p1_ways_heapSize p1_ways_found p1_ways_improved p1_pairing_costs p1_pairing_best p1_reader_kinds p1_reader_starts p1_reader_count p1_commandText_signs p1_commandText_length p1_line_signs p1_line_length p1_spareMoves p1_snapshotTaken p1_lastErrorPosition p1_lastFailedCommand → At13 G w b2 X p2_changes p2_errorAt p2_failedAt p2_isSaved p2_v p2_before p2_saved p2_past p2_far p2_scratch p2_best p2_thenX p2_thenY p2_thenMet p2_text p2_line p2_isLeft p2_words p2_wordAt p2_textN p2_hereP p2_endP p2_lineN p2_isWrong p2_isDoing → (a3, (.inl (G.2 3, 1, .inr (.inl p3)) : va_E)) ∈ w → (a4, (.inl (G.2 4, 1, .inr (.inr (.inr (.inl p4)))) : va_E)) ∈ w → ∀ ls, lv_has ls 10 [(0, .ref b), (1, .ref b1), (2, .ref b2), (3, .ref a3), (4, .ref a4), (5, .int x5)] → W p l e room_1 s m args below meth c H locs (cells + 1000) (slots + 10000) Q (F0 m 3345 ls [])) (ls : Array Slot) (hl : lv_has ls 10 [(0, .ref b), (1, .ref b1), (2, .ref b2), (3, .ref a3), (4, .ref a4), (5, .int x5)]) : W p l e room_1 s m args below meth c H locs cells slots Q (F0 m 2569 ls []) := by
  have hx := hC.1.1
  have hb := hC.1.2.1
  rw [g_law39] at hf
  refine lv_aload_n hx hb dL_law_2569 rfl (lv_at hl 1 rfl) ?_
  obtain ⟨q2570, hq2570, hf⟩ := mm_bd hf
  refine mm_Vi (rest := []) hC hM (c_X12_landingCount l hq2570 hp_p1) q2_101 q1_1 ykX12_landingCount q2_98 q2_99 q2_100 hp_p1.1 rfl ⟨rfl, rfl⟩ ⟨Nat.le_of_ble_eq_true rfl, Nat.le_of_ble_eq_true rfl⟩ rfl hl.1 rfl (Nat.le_of_ble_eq_true rfl) dL_law_2570 ⟨by omega, by omega⟩ (fun r w2570 H locs hM hw => ?_)
  obtain ⟨hr, hw⟩ := hw
  rw [hr]
  rw [hw] at hM
  refine lv_aload_n hx hb dL_law_2573 rfl (lv_at hl 2 rfl) ?_
  obtain ⟨q2574, hq2574, hf⟩ := mm_bd hf
  refine mm_Vi (rest := [.int q2570]) hC hM (c_X13_landingCount l hq2574 hp_p2) q8_190 q1_12 ykX13_landingCount q8_187 q8_188 q8_189 hp_p2.1 rfl ⟨rfl, rfl⟩ ⟨Nat.le_of_ble_eq_true rfl, Nat.le_of_ble_eq_true rfl⟩ rfl hl.1 rfl (Nat.le_of_ble_eq_true rfl) dL_law_2574 ⟨by omega, by omega⟩ (fun r w2574 H locs hM hw => ?_)
  obtain ⟨hr, hn_this, hfr⟩ := hw
  rw [hr]
  have hp_p1 := hp_p1.keep hfr (by omega)
  have hp_p3 := hfr.keep hp_p3 (by omega)
  have hp_p4 := hfr.keep hp_p4 (by omega)
  have hp_p2 := hn_this
  refine lv_icmp_eq (tgt := 3345) hx hb dL_law_2577 (by decide) (fun hcd => ?_) (fun hcd => ?_)
  · rw [if_pos hcd] at hf
    cases hf
    exact W.widen (by omega) (by omega) (hk _ _ _ hM hp_p1 hp_p2 hp_p3 hp_p4 _ (lv_sub hl [0, 1, 2, 3, 4, 5] rfl))
  · rw [if_neg hcd] at hf
    refine lv_iconst (v := 0) hx hb dL_law_2580 (by decide) ?_
    cases hf
def g_law40 (K : Nat) (p1_marsh_landings_cells : Nat → Int32) (p1_marsh_landings_count : Int32) (p1_pairing_costs : Nat → Int32) (p1_pairing_best : Nat → Int32) (p2_v : Nat → Int32) (p2_best : Nat → Int32) (p3 : Nat → Int64) : Option ((Nat → Int32) × (Nat → Int32) × Int32 × (Nat → Int32) × (Nat → Int64)) := (f_L_pairingCost K p1_marsh_landings_cells p1_marsh_landings_count p1_pairing_costs p1_pairing_best p3).bind fun q2584 => (f_X13_pairingCost K p2_v p2_best).bind fun q2590 => (f_X13_thrown q2590.2.1).bind fun q2596 => if q2596 = q2584.1 then if q2584.1 = 0 then if (lg_cmp (q2584.2.2.2 0) q2590.1.toInt64) = 0 then some (q2584.2.1, q2584.2.2.1, q2590.2.1, q2590.2.2, q2584.2.2.2) else none else some (q2584.2.1, q2584.2.2.1, q2590.2.1, q2590.2.2, q2584.2.2.2) else none
set_option maxHeartbeats 4000000 in
set_option maxRecDepth 100000 in
theorem g_law40_c (hC : mm_C G A p s m c code 10 args "MirrorFerryLaw") (hsX : va_X b L xs s s.heap) (hbl : b < s.heap.size) (hbA : ¬ A b) (hd1 : b1 + 152 ≤ b2) (hd2 : b2 + 13 ≤ a3) (hd3 : a3 + 1 ≤ a4) (hrc : cells + 1000 ≤ room_1.cells) (hrs : slots + 10000 ≤ room_1.slots) (hfl : l.stackTraces = false) {K : Nat} {p1_marsh_reeds_states : Nat → Int32} {p1_marsh_reeds_count : Int32} {p1_marsh_reeds_broken : Int32} {p1_marsh_fleet_numbers : Nat → Int32} {p1_marsh_fleet_cells : Nat → Int32} {p1_marsh_fleet_fares : Nat → Int32} {p1_marsh_fleet_count : Int32} {p1_marsh_fleet_nextNumber : Int32} {p1_marsh_fleet_total : Int32} {p1_marsh_fleet_removedFares : Int32} {p1_marsh_fleet_meetings : Int32} {p1_marsh_plans_moves : Nat → Int32} {p1_marsh_plans_lengths : Nat → Int32} {p1_marsh_landings_cells : Nat → Int32} {p1_marsh_landings_count : Int32} {p1_marsh_fogSide : Int32} {p1_snapshot_reeds_states : Nat → Int32} {p1_snapshot_reeds_count : Int32} {p1_snapshot_reeds_broken : Int32} {p1_snapshot_fleet_numbers : Nat → Int32} {p1_snapshot_fleet_cells : Nat → Int32} {p1_snapshot_fleet_fares : Nat → Int32} {p1_snapshot_fleet_count : Int32} {p1_snapshot_fleet_nextNumber : Int32} {p1_snapshot_fleet_total : Int32} {p1_snapshot_fleet_removedFares : Int32} {p1_snapshot_fleet_meetings : Int32} {p1_snapshot_plans_moves : Nat → Int32} {p1_snapshot_plans_lengths : Nat → Int32} {p1_snapshot_landings_cells : Nat → Int32} {p1_snapshot_landings_count : Int32} {p1_snapshot_fogSide : Int32} {p1_history_slots : Nat → mm_MV} {p1_history_free : Int32} {p1_history_count : Int32} {p1_ways_tolls : Nat → Int32} {p1_ways_queue : Nat → Int32} {p1_ways_heap : Nat → Int32} {p1_ways_heapSize : Int32} {p1_ways_found : Nat → Int32} {p1_ways_improved : Nat → Int32} {p1_pairing_costs : Nat → Int32} {p1_pairing_best : Nat → Int32} {p1_reader_kinds : Nat → Int32} {p1_reader_starts : Nat → Int32} {p1_reader_count : Int32} {p1_commandText_signs : Nat → Int32} {p1_commandText_length : Int32} {p1_line_signs : Nat → Int32} {p1_line_length : Int32} {p1_spareMoves : Nat → Int32} {p1_snapshotTaken : Int32} {p1_lastErrorPosition : Int32} {p1_lastFailedCommand : Int32} {p2_thrown : Int32} {p2_changes : Int32} {p2_errorAt : Int32} {p2_failedAt : Int32} {p2_isSaved : Int32} {p2_v : Nat → Int32} {p2_before : Nat → Int32} {p2_saved : Nat → Int32} {p2_past : Nat → Int32} {p2_far : Nat → Int32} {p2_scratch : Nat → Int32} {p2_best : Nat → Int32} {p2_thenX : Int32} {p2_thenY : Int32} {p2_thenMet : Int32} {p2_text : Nat → Int32} {p2_line : Nat → Int32} {p2_isLeft : Nat → Int32} {p2_words : Nat → Int32} {p2_wordAt : Nat → Int32} {p2_textN : Int32} {p2_hereP : Int32} {p2_endP : Int32} {p2_lineN : Int32} {p2_isWrong : Int32} {p2_isDoing : Int32} {p3 : Nat → Int64} {p4 : Nat → UInt64} {x0 x1 x2 x3 x4 x5 : Int32} {X : (Nat → Int32) × (Nat → Int32) × Int32 × (Nat → Int32) × (Nat → Int64)} (hf : g_law40 K p1_marsh_landings_cells p1_marsh_landings_count p1_pairing_costs p1_pairing_best p2_v p2_best p3 = some X) (hp_p1 : At12 G w b1 p1_marsh_reeds_states p1_marsh_reeds_count p1_marsh_reeds_broken p1_marsh_fleet_numbers p1_marsh_fleet_cells p1_marsh_fleet_fares p1_marsh_fleet_count p1_marsh_fleet_nextNumber p1_marsh_fleet_total p1_marsh_fleet_removedFares p1_marsh_fleet_meetings p1_marsh_plans_moves p1_marsh_plans_lengths p1_marsh_landings_cells p1_marsh_landings_count p1_marsh_fogSide p1_snapshot_reeds_states p1_snapshot_reeds_count p1_snapshot_reeds_broken p1_snapshot_fleet_numbers p1_snapshot_fleet_cells p1_snapshot_fleet_fares p1_snapshot_fleet_count p1_snapshot_fleet_nextNumber p1_snapshot_fleet_total p1_snapshot_fleet_removedFares p1_snapshot_fleet_meetings p1_snapshot_plans_moves p1_snapshot_plans_lengths p1_snapshot_landings_cells p1_snapshot_landings_count p1_snapshot_fogSide p1_history_slots p1_history_free p1_history_count p1_ways_tolls p1_ways_queue p1_ways_heap p1_ways_heapSize p1_ways_found p1_ways_improved p1_pairing_costs p1_pairing_best p1_reader_kinds p1_reader_starts p1_reader_count p1_commandText_signs p1_commandText_length p1_line_signs p1_line_length p1_spareMoves p1_snapshotTaken p1_lastErrorPosition p1_lastFailedCommand) (hp_p2 : At13 G w b2 p2_thrown p2_changes p2_errorAt p2_failedAt p2_isSaved p2_v p2_before p2_saved p2_past p2_far p2_scratch p2_best p2_thenX p2_thenY p2_thenMet p2_text p2_line p2_isLeft p2_words p2_wordAt p2_textN p2_hereP p2_endP p2_lineN p2_isWrong p2_isDoing) (hp_p3 : (a3, (.inl (G.2 3, 1, .inr (.inl p3)) : va_E)) ∈ w) (hp_p4 : (a4, (.inl (G.2 4, 1, .inr (.inr (.inr (.inl p4)))) : va_E)) ∈ w)
    (hsc : ∀ k : Nat, k < 5 → vp_in (x5 + Int32.ofNat k) L ∧ xs (x5 + Int32.ofNat k).toNatClampNeg = mm_x5 x0 x1 x2 x3 x4 k) (hM : mm_S G A s.heap w H locs)
    (hk : ∀ (w : va_W) (H : Heap) (locs : List Loc), mm_S G A s.heap w H locs → At12 G w b1 p1_marsh_reeds_states p1_marsh_reeds_count p1_marsh_reeds_broken p1_marsh_fleet_numbers p1_marsh_fleet_cells p1_marsh_fleet_fares p1_marsh_fleet_count p1_marsh_fleet_nextNumber p1_marsh_fleet_total p1_marsh_fleet_removedFares p1_marsh_fleet_meetings p1_marsh_plans_moves p1_marsh_plans_lengths p1_marsh_landings_cells p1_marsh_landings_count p1_marsh_fogSide p1_snapshot_reeds_states p1_snapshot_reeds_count p1_snapshot_reeds_broken p1_snapshot_fleet_numbers p1_snapshot_fleet_cells p1_snapshot_fleet_fares p1_snapshot_fleet_count p1_snapshot_fleet_nextNumber p1_snapshot_fleet_total p1_snapshot_fleet_removedFares p1_snapshot_fleet_meetings p1_snapshot_plans_moves p1_snapshot_plans_lengths p1_snapshot_landings_cells p1_snapshot_landings_count p1_snapshot_fogSide p1_history_slots p1_history_free p1_history_count p1_ways_tolls p1_ways_queue p1_ways_heap p1_ways_heapSize p1_ways_found p1_ways_improved X.1 X.2.1 p1_reader_kinds p1_reader_starts p1_reader_count p1_commandText_signs p1_commandText_length p1_line_signs p1_line_length p1_spareMoves p1_snapshotTaken p1_lastErrorPosition p1_lastFailedCommand → At13 G w b2 X.2.2.1 p2_changes p2_errorAt p2_failedAt p2_isSaved p2_v p2_before p2_saved p2_past p2_far p2_scratch X.2.2.2.1 p2_thenX p2_thenY p2_thenMet p2_text p2_line p2_isLeft p2_words p2_wordAt p2_textN p2_hereP p2_endP p2_lineN p2_isWrong p2_isDoing → (a3, (.inl (G.2 3, 1, .inr (.inl X.2.2.2.2)) : va_E)) ∈ w → (a4, (.inl (G.2 4, 1, .inr (.inr (.inr (.inl p4)))) : va_E)) ∈ w → ∀ ls, lv_has ls 10 [(0, .ref b), (1, .ref b1), (2, .ref b2), (3, .ref a3), (4, .ref a4), (5, .int x5)] → W p l e room_1 s m args below meth c H locs (cells + 1000) (slots + 10000) Q (F0 m 3345 ls [])) (ls : Array Slot) (hl : lv_has ls 10 [(0, .ref b), (1, .ref b1), (2, .ref b2), (3, .ref a3), (4, .ref a4), (5, .int x5)]) : W p l e room_1 s m args below meth c H locs cells slots Q (F0 m 2582 ls []) := by
  have hx := hC.1.1
  have hb := hC.1.2.1
  rw [g_law40] at hf
  refine lv_aload_n hx hb dL_law_2582 rfl (lv_at hl 1 rfl) ?_
  refine lv_aload_n hx hb dL_law_2583 rfl (lv_at hl 3 rfl) ?_
  obtain ⟨q2584, hq2584, hf⟩ := mm_bd hf
  refine mm_SiW (rest := []) hC hM (c_L_pairingCost l hfl hq2584 hp_p1 hp_p3 (by omega)) q5_203 q1_0 ykL_pairingCost q5_201 q5_202 ⟨rfl, rfl⟩ ⟨Nat.le_of_ble_eq_true rfl, Nat.le_of_ble_eq_true rfl⟩ rfl hl.1 rfl (Nat.le_of_ble_eq_true rfl) dL_law_2584 ⟨by omega, by omega⟩ (fun r w2584 H locs hM hw => ?_)
  obtain ⟨hr, hn_p0, hn_p1, hfr⟩ := hw
  rw [hr]
  have hp_p2 := hp_p2.keep2 hfr (by omega) (by omega)
  have hp_p4 := hfr.keep hp_p4 (by omega) (by omega)
  have hp_p1 := hn_p0
  have hp_p3 := hn_p1
  refine lv_istore (lv' := [(6, .int q2584.1), (0, .ref b), (1, .ref b1), (2, .ref b2), (3, .ref a3), (4, .ref a4), (5, .int x5)]) hx hb dL_law_2587 hl (by decide) rfl (fun ls hl => ?_)
  refine lv_aload_n hx hb dL_law_2589 rfl (lv_at hl 3 rfl) ?_
  obtain ⟨q2590, hq2590, hf⟩ := mm_bd hf
  refine mm_Vi (rest := []) hC hM (c_X13_pairingCost l hq2590 hp_p2) q8_194 q1_12 ykX13_pairingCost q8_191 q8_192 q8_193 hp_p2.1 rfl ⟨rfl, rfl⟩ ⟨Nat.le_of_ble_eq_true rfl, Nat.le_of_ble_eq_true rfl⟩ rfl hl.1 rfl (Nat.le_of_ble_eq_true rfl) dL_law_2590 ⟨by omega, by omega⟩ (fun r w2590 H locs hM hw => ?_)
  obtain ⟨hr, hn_this, hfr⟩ := hw
  rw [hr]
  have hp_p1 := hp_p1.keep hfr (by omega)
  have hp_p3 := hfr.keep hp_p3 (by omega)
  have hp_p4 := hfr.keep hp_p4 (by omega)
  have hp_p2 := hn_this
  refine lv_istore (lv' := [(7, .int q2590.1), (6, .int q2584.1), (0, .ref b), (1, .ref b1), (2, .ref b2), (3, .ref a3), (4, .ref a4), (5, .int x5)]) hx hb dL_law_2593 hl (by decide) rfl (fun ls hl => ?_)
  refine lv_aload_n hx hb dL_law_2595 rfl (lv_at hl 4 rfl) ?_
  obtain ⟨q2596, hq2596, hf⟩ := mm_bd hf
  refine mm_Vi (rest := []) hC hM (c_X13_thrown l hq2596 hp_p2) q7_87 q1_12 ykX13_thrown q7_84 q7_85 q7_86 hp_p2.1 rfl ⟨rfl, rfl⟩ ⟨Nat.le_of_ble_eq_true rfl, Nat.le_of_ble_eq_true rfl⟩ rfl hl.1 rfl (Nat.le_of_ble_eq_true rfl) dL_law_2596 ⟨by omega, by omega⟩ (fun r w2596 H locs hM hw => ?_)
  obtain ⟨hr, hw⟩ := hw
  rw [hr]
  rw [hw] at hM
  refine lv_iload hx hb dL_law_2599 (lv_at hl 1 rfl) ?_
  refine lv_icmp_eq (tgt := 2606) hx hb dL_law_2601 (by decide) (fun hcd => ?_) (fun hcd => ?_)
  · rw [if_pos hcd] at hf
    refine lv_iload hx hb dL_law_2606 (lv_at hl 1 rfl) ?_
    refine lv_if_ne (tgt := 2623) hx hb dL_law_2608 (by decide) (fun hcd => ?_) (fun hcd => ?_)
    · rw [if_neg hcd] at hf
      refine lv_goto (tgt := 3345) hx hb dL_law_2623 (by decide) ?_
      cases hf
      exact W.widen (by omega) (by omega) (hk _ _ _ hM hp_p1 hp_p2 hp_p3 hp_p4 _ (lv_sub hl [2, 3, 4, 5, 6, 7] rfl))
    · rw [if_pos hcd] at hf
      refine lv_aload_n hx hb dL_law_2611 rfl (lv_at hl 5 rfl) ?_
      refine lv_iconst (v := 0) hx hb dL_law_2612 (by decide) ?_
      refine mm_lald0 hC hM hp_p3 dL_law_2613 ?_
      refine lv_iload hx hb dL_law_2614 (lv_at hl 0 rfl) ?_
      refine lv_i2l hx hb dL_law_2616 rfl ?_
      refine W.lcmp hx hb dL_law_2617 ?_
      refine lv_if_eq (tgt := 2623) hx hb dL_law_2618 (by decide) (fun hcd => ?_) (fun hcd => ?_)
      · rw [if_pos hcd] at hf
        refine lv_goto (tgt := 3345) hx hb dL_law_2623 (by decide) ?_
        cases hf
        exact W.widen (by omega) (by omega) (hk _ _ _ hM hp_p1 hp_p2 hp_p3 hp_p4 _ (lv_sub hl [2, 3, 4, 5, 6, 7] rfl))
      · rw [if_neg hcd] at hf
        refine lv_iconst (v := 0) hx hb dL_law_2621 (by decide) ?_
        cases hf
  · rw [if_neg hcd] at hf
    refine lv_iconst (v := 0) hx hb dL_law_2604 (by decide) ?_
    cases hf
def g_law41 (K : Nat) (p1_marsh_landings_cells : Nat → Int32) (p1_marsh_landings_count : Int32) (p1_pairing_costs : Nat → Int32) (p2_v : Nat → Int32) (p2_best : Nat → Int32) (p3 : Nat → Int64) : Option ((Nat → Int32) × Int32 × (Nat → Int32) × (Nat → Int64)) := (f_L_pairingCostBySearch K p1_marsh_landings_cells p1_marsh_landings_count p1_pairing_costs p3).bind fun q2628 => (f_X13_pairingCostBySearch K p2_v p2_best).bind fun q2634 => (f_X13_thrown q2634.2.1).bind fun q2640 => if q2640 = q2628.1 then if q2628.1 = 0 then if (lg_cmp (q2628.2.2 0) q2634.1.toInt64) = 0 then some (q2628.2.1, q2634.2.1, q2634.2.2, q2628.2.2) else none else some (q2628.2.1, q2634.2.1, q2634.2.2, q2628.2.2) else none
set_option maxHeartbeats 4000000 in
set_option maxRecDepth 100000 in
theorem g_law41_c (hC : mm_C G A p s m c code 10 args "MirrorFerryLaw") (hsX : va_X b L xs s s.heap) (hbl : b < s.heap.size) (hbA : ¬ A b) (hd1 : b1 + 152 ≤ b2) (hd2 : b2 + 13 ≤ a3) (hd3 : a3 + 1 ≤ a4) (hrc : cells + 1000 ≤ room_1.cells) (hrs : slots + 10000 ≤ room_1.slots) (hfl : l.stackTraces = false) {K : Nat} {p1_marsh_reeds_states : Nat → Int32} {p1_marsh_reeds_count : Int32} {p1_marsh_reeds_broken : Int32} {p1_marsh_fleet_numbers : Nat → Int32} {p1_marsh_fleet_cells : Nat → Int32} {p1_marsh_fleet_fares : Nat → Int32} {p1_marsh_fleet_count : Int32} {p1_marsh_fleet_nextNumber : Int32} {p1_marsh_fleet_total : Int32} {p1_marsh_fleet_removedFares : Int32} {p1_marsh_fleet_meetings : Int32} {p1_marsh_plans_moves : Nat → Int32} {p1_marsh_plans_lengths : Nat → Int32} {p1_marsh_landings_cells : Nat → Int32} {p1_marsh_landings_count : Int32} {p1_marsh_fogSide : Int32} {p1_snapshot_reeds_states : Nat → Int32} {p1_snapshot_reeds_count : Int32} {p1_snapshot_reeds_broken : Int32} {p1_snapshot_fleet_numbers : Nat → Int32} {p1_snapshot_fleet_cells : Nat → Int32} {p1_snapshot_fleet_fares : Nat → Int32} {p1_snapshot_fleet_count : Int32} {p1_snapshot_fleet_nextNumber : Int32} {p1_snapshot_fleet_total : Int32} {p1_snapshot_fleet_removedFares : Int32} {p1_snapshot_fleet_meetings : Int32} {p1_snapshot_plans_moves : Nat → Int32} {p1_snapshot_plans_lengths : Nat → Int32} {p1_snapshot_landings_cells : Nat → Int32} {p1_snapshot_landings_count : Int32} {p1_snapshot_fogSide : Int32} {p1_history_slots : Nat → mm_MV} {p1_history_free : Int32} {p1_history_count : Int32} {p1_ways_tolls : Nat → Int32} {p1_ways_queue : Nat → Int32} {p1_ways_heap : Nat → Int32} {p1_ways_heapSize : Int32} {p1_ways_found : Nat → Int32} {p1_ways_improved : Nat → Int32} {p1_pairing_costs : Nat → Int32} {p1_pairing_best : Nat → Int32} {p1_reader_kinds : Nat → Int32} {p1_reader_starts : Nat → Int32} {p1_reader_count : Int32} {p1_commandText_signs : Nat → Int32} {p1_commandText_length : Int32} {p1_line_signs : Nat → Int32} {p1_line_length : Int32} {p1_spareMoves : Nat → Int32} {p1_snapshotTaken : Int32} {p1_lastErrorPosition : Int32} {p1_lastFailedCommand : Int32} {p2_thrown : Int32} {p2_changes : Int32} {p2_errorAt : Int32} {p2_failedAt : Int32} {p2_isSaved : Int32} {p2_v : Nat → Int32} {p2_before : Nat → Int32} {p2_saved : Nat → Int32} {p2_past : Nat → Int32} {p2_far : Nat → Int32} {p2_scratch : Nat → Int32} {p2_best : Nat → Int32} {p2_thenX : Int32} {p2_thenY : Int32} {p2_thenMet : Int32} {p2_text : Nat → Int32} {p2_line : Nat → Int32} {p2_isLeft : Nat → Int32} {p2_words : Nat → Int32} {p2_wordAt : Nat → Int32} {p2_textN : Int32} {p2_hereP : Int32} {p2_endP : Int32} {p2_lineN : Int32} {p2_isWrong : Int32} {p2_isDoing : Int32} {p3 : Nat → Int64} {p4 : Nat → UInt64} {x0 x1 x2 x3 x4 x5 : Int32} {X : (Nat → Int32) × Int32 × (Nat → Int32) × (Nat → Int64)} (hf : g_law41 K p1_marsh_landings_cells p1_marsh_landings_count p1_pairing_costs p2_v p2_best p3 = some X) (hp_p1 : At12 G w b1 p1_marsh_reeds_states p1_marsh_reeds_count p1_marsh_reeds_broken p1_marsh_fleet_numbers p1_marsh_fleet_cells p1_marsh_fleet_fares p1_marsh_fleet_count p1_marsh_fleet_nextNumber p1_marsh_fleet_total p1_marsh_fleet_removedFares p1_marsh_fleet_meetings p1_marsh_plans_moves p1_marsh_plans_lengths p1_marsh_landings_cells p1_marsh_landings_count p1_marsh_fogSide p1_snapshot_reeds_states p1_snapshot_reeds_count p1_snapshot_reeds_broken p1_snapshot_fleet_numbers p1_snapshot_fleet_cells p1_snapshot_fleet_fares p1_snapshot_fleet_count p1_snapshot_fleet_nextNumber p1_snapshot_fleet_total p1_snapshot_fleet_removedFares p1_snapshot_fleet_meetings p1_snapshot_plans_moves p1_snapshot_plans_lengths p1_snapshot_landings_cells p1_snapshot_landings_count p1_snapshot_fogSide p1_history_slots p1_history_free p1_history_count p1_ways_tolls p1_ways_queue p1_ways_heap p1_ways_heapSize p1_ways_found p1_ways_improved p1_pairing_costs p1_pairing_best p1_reader_kinds p1_reader_starts p1_reader_count p1_commandText_signs p1_commandText_length p1_line_signs p1_line_length p1_spareMoves p1_snapshotTaken p1_lastErrorPosition p1_lastFailedCommand) (hp_p2 : At13 G w b2 p2_thrown p2_changes p2_errorAt p2_failedAt p2_isSaved p2_v p2_before p2_saved p2_past p2_far p2_scratch p2_best p2_thenX p2_thenY p2_thenMet p2_text p2_line p2_isLeft p2_words p2_wordAt p2_textN p2_hereP p2_endP p2_lineN p2_isWrong p2_isDoing) (hp_p3 : (a3, (.inl (G.2 3, 1, .inr (.inl p3)) : va_E)) ∈ w) (hp_p4 : (a4, (.inl (G.2 4, 1, .inr (.inr (.inr (.inl p4)))) : va_E)) ∈ w)
    (hsc : ∀ k : Nat, k < 5 → vp_in (x5 + Int32.ofNat k) L ∧ xs (x5 + Int32.ofNat k).toNatClampNeg = mm_x5 x0 x1 x2 x3 x4 k) (hM : mm_S G A s.heap w H locs)
    (hk : ∀ (w : va_W) (H : Heap) (locs : List Loc), mm_S G A s.heap w H locs → At12 G w b1 p1_marsh_reeds_states p1_marsh_reeds_count p1_marsh_reeds_broken p1_marsh_fleet_numbers p1_marsh_fleet_cells p1_marsh_fleet_fares p1_marsh_fleet_count p1_marsh_fleet_nextNumber p1_marsh_fleet_total p1_marsh_fleet_removedFares p1_marsh_fleet_meetings p1_marsh_plans_moves p1_marsh_plans_lengths p1_marsh_landings_cells p1_marsh_landings_count p1_marsh_fogSide p1_snapshot_reeds_states p1_snapshot_reeds_count p1_snapshot_reeds_broken p1_snapshot_fleet_numbers p1_snapshot_fleet_cells p1_snapshot_fleet_fares p1_snapshot_fleet_count p1_snapshot_fleet_nextNumber p1_snapshot_fleet_total p1_snapshot_fleet_removedFares p1_snapshot_fleet_meetings p1_snapshot_plans_moves p1_snapshot_plans_lengths p1_snapshot_landings_cells p1_snapshot_landings_count p1_snapshot_fogSide p1_history_slots p1_history_free p1_history_count p1_ways_tolls p1_ways_queue p1_ways_heap p1_ways_heapSize p1_ways_found p1_ways_improved X.1 p1_pairing_best p1_reader_kinds p1_reader_starts p1_reader_count p1_commandText_signs p1_commandText_length p1_line_signs p1_line_length p1_spareMoves p1_snapshotTaken p1_lastErrorPosition p1_lastFailedCommand → At13 G w b2 X.2.1 p2_changes p2_errorAt p2_failedAt p2_isSaved p2_v p2_before p2_saved p2_past p2_far p2_scratch X.2.2.1 p2_thenX p2_thenY p2_thenMet p2_text p2_line p2_isLeft p2_words p2_wordAt p2_textN p2_hereP p2_endP p2_lineN p2_isWrong p2_isDoing → (a3, (.inl (G.2 3, 1, .inr (.inl X.2.2.2)) : va_E)) ∈ w → (a4, (.inl (G.2 4, 1, .inr (.inr (.inr (.inl p4)))) : va_E)) ∈ w → ∀ ls, lv_has ls 10 [(0, .ref b), (1, .ref b1), (2, .ref b2), (3, .ref a3), (4, .ref a4), (5, .int x5)] → W p l e room_1 s m args below meth c H locs (cells + 1000) (slots + 10000) Q (F0 m 3345 ls [])) (ls : Array Slot) (hl : lv_has ls 10 [(0, .ref b), (1, .ref b1), (2, .ref b2), (3, .ref a3), (4, .ref a4), (5, .int x5)]) : W p l e room_1 s m args below meth c H locs cells slots Q (F0 m 2626 ls []) := by
  have hx := hC.1.1
  have hb := hC.1.2.1
  rw [g_law41] at hf
  refine lv_aload_n hx hb dL_law_2626 rfl (lv_at hl 1 rfl) ?_
  refine lv_aload_n hx hb dL_law_2627 rfl (lv_at hl 3 rfl) ?_
  obtain ⟨q2628, hq2628, hf⟩ := mm_bd hf
  refine mm_SiW (rest := []) hC hM (c_L_pairingCostBySearch l hfl hq2628 hp_p1 hp_p3 (by omega)) q5_214 q1_0 ykL_pairingCostBySearch q5_212 q5_213 ⟨rfl, rfl⟩ ⟨Nat.le_of_ble_eq_true rfl, Nat.le_of_ble_eq_true rfl⟩ rfl hl.1 rfl (Nat.le_of_ble_eq_true rfl) dL_law_2628 ⟨by omega, by omega⟩ (fun r w2628 H locs hM hw => ?_)
  obtain ⟨hr, hn_p0, hn_p1, hfr⟩ := hw
  rw [hr]
  have hp_p2 := hp_p2.keep2 hfr (by omega) (by omega)
  have hp_p4 := hfr.keep hp_p4 (by omega) (by omega)
  have hp_p1 := hn_p0
  have hp_p3 := hn_p1
  refine lv_istore (lv' := [(6, .int q2628.1), (0, .ref b), (1, .ref b1), (2, .ref b2), (3, .ref a3), (4, .ref a4), (5, .int x5)]) hx hb dL_law_2631 hl (by decide) rfl (fun ls hl => ?_)
  refine lv_aload_n hx hb dL_law_2633 rfl (lv_at hl 3 rfl) ?_
  obtain ⟨q2634, hq2634, hf⟩ := mm_bd hf
  refine mm_Vi (rest := []) hC hM (c_X13_pairingCostBySearch l hq2634 hp_p2) q8_212 q1_12 ykX13_pairingCostBySearch q8_209 q8_210 q8_211 hp_p2.1 rfl ⟨rfl, rfl⟩ ⟨Nat.le_of_ble_eq_true rfl, Nat.le_of_ble_eq_true rfl⟩ rfl hl.1 rfl (Nat.le_of_ble_eq_true rfl) dL_law_2634 ⟨by omega, by omega⟩ (fun r w2634 H locs hM hw => ?_)
  obtain ⟨hr, hn_this, hfr⟩ := hw
  rw [hr]
  have hp_p1 := hp_p1.keep hfr (by omega)
  have hp_p3 := hfr.keep hp_p3 (by omega)
  have hp_p4 := hfr.keep hp_p4 (by omega)
  have hp_p2 := hn_this
  refine lv_istore (lv' := [(7, .int q2634.1), (6, .int q2628.1), (0, .ref b), (1, .ref b1), (2, .ref b2), (3, .ref a3), (4, .ref a4), (5, .int x5)]) hx hb dL_law_2637 hl (by decide) rfl (fun ls hl => ?_)
  refine lv_aload_n hx hb dL_law_2639 rfl (lv_at hl 4 rfl) ?_
  obtain ⟨q2640, hq2640, hf⟩ := mm_bd hf
  refine mm_Vi (rest := []) hC hM (c_X13_thrown l hq2640 hp_p2) q7_87 q1_12 ykX13_thrown q7_84 q7_85 q7_86 hp_p2.1 rfl ⟨rfl, rfl⟩ ⟨Nat.le_of_ble_eq_true rfl, Nat.le_of_ble_eq_true rfl⟩ rfl hl.1 rfl (Nat.le_of_ble_eq_true rfl) dL_law_2640 ⟨by omega, by omega⟩ (fun r w2640 H locs hM hw => ?_)
  obtain ⟨hr, hw⟩ := hw
  rw [hr]
  rw [hw] at hM
  refine lv_iload hx hb dL_law_2643 (lv_at hl 1 rfl) ?_
  refine lv_icmp_eq (tgt := 2650) hx hb dL_law_2645 (by decide) (fun hcd => ?_) (fun hcd => ?_)
  · rw [if_pos hcd] at hf
    refine lv_iload hx hb dL_law_2650 (lv_at hl 1 rfl) ?_
    refine lv_if_ne (tgt := 2667) hx hb dL_law_2652 (by decide) (fun hcd => ?_) (fun hcd => ?_)
    · rw [if_neg hcd] at hf
      refine lv_goto (tgt := 3345) hx hb dL_law_2667 (by decide) ?_
      cases hf
      exact W.widen (by omega) (by omega) (hk _ _ _ hM hp_p1 hp_p2 hp_p3 hp_p4 _ (lv_sub hl [2, 3, 4, 5, 6, 7] rfl))
    · rw [if_pos hcd] at hf
      refine lv_aload_n hx hb dL_law_2655 rfl (lv_at hl 5 rfl) ?_
      refine lv_iconst (v := 0) hx hb dL_law_2656 (by decide) ?_
      refine mm_lald0 hC hM hp_p3 dL_law_2657 ?_
      refine lv_iload hx hb dL_law_2658 (lv_at hl 0 rfl) ?_
      refine lv_i2l hx hb dL_law_2660 rfl ?_
      refine W.lcmp hx hb dL_law_2661 ?_
      refine lv_if_eq (tgt := 2667) hx hb dL_law_2662 (by decide) (fun hcd => ?_) (fun hcd => ?_)
      · rw [if_pos hcd] at hf
        refine lv_goto (tgt := 3345) hx hb dL_law_2667 (by decide) ?_
        cases hf
        exact W.widen (by omega) (by omega) (hk _ _ _ hM hp_p1 hp_p2 hp_p3 hp_p4 _ (lv_sub hl [2, 3, 4, 5, 6, 7] rfl))
      · rw [if_neg hcd] at hf
        refine lv_iconst (v := 0) hx hb dL_law_2665 (by decide) ?_
        cases hf
  · rw [if_neg hcd] at hf
    refine lv_iconst (v := 0) hx hb dL_law_2648 (by decide) ?_
    cases hf
def g_law42 (K : Nat) (p1_marsh_landings_cells : Nat → Int32) (p1_marsh_landings_count : Int32) (p1_pairing_costs : Nat → Int32) (p1_pairing_best : Nat → Int32) (p2_v : Nat → Int32) (p2_best : Nat → Int32) (p3 : Nat → Int64) (x1 : Int32) : Option ((Nat → Int32) × (Nat → Int32) × Int32 × (Nat → Int32) × (Nat → Int64)) := (f_L_partnerOf K p1_marsh_landings_cells p1_marsh_landings_count p1_pairing_costs p1_pairing_best p3 x1).bind fun q2678 => (f_X13_partnerOf K p2_v p2_best x1).bind fun q2690 => (f_X13_thrown q2690.2.1).bind fun q2696 => if q2696 = q2678.1 then if q2678.1 = 0 then if (lg_cmp (q2678.2.2.2 0) q2690.1.toInt64) = 0 then some (q2678.2.1, q2678.2.2.1, q2690.2.1, q2690.2.2, q2678.2.2.2) else none else some (q2678.2.1, q2678.2.2.1, q2690.2.1, q2690.2.2, q2678.2.2.2) else none
set_option maxHeartbeats 4000000 in
set_option maxRecDepth 100000 in
theorem g_law42_c (hC : mm_C G A p s m c code 10 args "MirrorFerryLaw") (hsX : va_X b L xs s s.heap) (hbl : b < s.heap.size) (hbA : ¬ A b) (hd1 : b1 + 152 ≤ b2) (hd2 : b2 + 13 ≤ a3) (hd3 : a3 + 1 ≤ a4) (hrc : cells + 1000 ≤ room_1.cells) (hrs : slots + 10000 ≤ room_1.slots) (hfl : l.stackTraces = false) {K : Nat} {p1_marsh_reeds_states : Nat → Int32} {p1_marsh_reeds_count : Int32} {p1_marsh_reeds_broken : Int32} {p1_marsh_fleet_numbers : Nat → Int32} {p1_marsh_fleet_cells : Nat → Int32} {p1_marsh_fleet_fares : Nat → Int32} {p1_marsh_fleet_count : Int32} {p1_marsh_fleet_nextNumber : Int32} {p1_marsh_fleet_total : Int32} {p1_marsh_fleet_removedFares : Int32} {p1_marsh_fleet_meetings : Int32} {p1_marsh_plans_moves : Nat → Int32} {p1_marsh_plans_lengths : Nat → Int32} {p1_marsh_landings_cells : Nat → Int32} {p1_marsh_landings_count : Int32} {p1_marsh_fogSide : Int32} {p1_snapshot_reeds_states : Nat → Int32} {p1_snapshot_reeds_count : Int32} {p1_snapshot_reeds_broken : Int32} {p1_snapshot_fleet_numbers : Nat → Int32} {p1_snapshot_fleet_cells : Nat → Int32} {p1_snapshot_fleet_fares : Nat → Int32} {p1_snapshot_fleet_count : Int32} {p1_snapshot_fleet_nextNumber : Int32} {p1_snapshot_fleet_total : Int32} {p1_snapshot_fleet_removedFares : Int32} {p1_snapshot_fleet_meetings : Int32} {p1_snapshot_plans_moves : Nat → Int32} {p1_snapshot_plans_lengths : Nat → Int32} {p1_snapshot_landings_cells : Nat → Int32} {p1_snapshot_landings_count : Int32} {p1_snapshot_fogSide : Int32} {p1_history_slots : Nat → mm_MV} {p1_history_free : Int32} {p1_history_count : Int32} {p1_ways_tolls : Nat → Int32} {p1_ways_queue : Nat → Int32} {p1_ways_heap : Nat → Int32} {p1_ways_heapSize : Int32} {p1_ways_found : Nat → Int32} {p1_ways_improved : Nat → Int32} {p1_pairing_costs : Nat → Int32} {p1_pairing_best : Nat → Int32} {p1_reader_kinds : Nat → Int32} {p1_reader_starts : Nat → Int32} {p1_reader_count : Int32} {p1_commandText_signs : Nat → Int32} {p1_commandText_length : Int32} {p1_line_signs : Nat → Int32} {p1_line_length : Int32} {p1_spareMoves : Nat → Int32} {p1_snapshotTaken : Int32} {p1_lastErrorPosition : Int32} {p1_lastFailedCommand : Int32} {p2_thrown : Int32} {p2_changes : Int32} {p2_errorAt : Int32} {p2_failedAt : Int32} {p2_isSaved : Int32} {p2_v : Nat → Int32} {p2_before : Nat → Int32} {p2_saved : Nat → Int32} {p2_past : Nat → Int32} {p2_far : Nat → Int32} {p2_scratch : Nat → Int32} {p2_best : Nat → Int32} {p2_thenX : Int32} {p2_thenY : Int32} {p2_thenMet : Int32} {p2_text : Nat → Int32} {p2_line : Nat → Int32} {p2_isLeft : Nat → Int32} {p2_words : Nat → Int32} {p2_wordAt : Nat → Int32} {p2_textN : Int32} {p2_hereP : Int32} {p2_endP : Int32} {p2_lineN : Int32} {p2_isWrong : Int32} {p2_isDoing : Int32} {p3 : Nat → Int64} {p4 : Nat → UInt64} {x0 x1 x2 x3 x4 x5 : Int32} {X : (Nat → Int32) × (Nat → Int32) × Int32 × (Nat → Int32) × (Nat → Int64)} (hf : g_law42 K p1_marsh_landings_cells p1_marsh_landings_count p1_pairing_costs p1_pairing_best p2_v p2_best p3 x1 = some X) (hp_p1 : At12 G w b1 p1_marsh_reeds_states p1_marsh_reeds_count p1_marsh_reeds_broken p1_marsh_fleet_numbers p1_marsh_fleet_cells p1_marsh_fleet_fares p1_marsh_fleet_count p1_marsh_fleet_nextNumber p1_marsh_fleet_total p1_marsh_fleet_removedFares p1_marsh_fleet_meetings p1_marsh_plans_moves p1_marsh_plans_lengths p1_marsh_landings_cells p1_marsh_landings_count p1_marsh_fogSide p1_snapshot_reeds_states p1_snapshot_reeds_count p1_snapshot_reeds_broken p1_snapshot_fleet_numbers p1_snapshot_fleet_cells p1_snapshot_fleet_fares p1_snapshot_fleet_count p1_snapshot_fleet_nextNumber p1_snapshot_fleet_total p1_snapshot_fleet_removedFares p1_snapshot_fleet_meetings p1_snapshot_plans_moves p1_snapshot_plans_lengths p1_snapshot_landings_cells p1_snapshot_landings_count p1_snapshot_fogSide p1_history_slots p1_history_free p1_history_count p1_ways_tolls p1_ways_queue p1_ways_heap p1_ways_heapSize p1_ways_found p1_ways_improved p1_pairing_costs p1_pairing_best p1_reader_kinds p1_reader_starts p1_reader_count p1_commandText_signs p1_commandText_length p1_line_signs p1_line_length p1_spareMoves p1_snapshotTaken p1_lastErrorPosition p1_lastFailedCommand) (hp_p2 : At13 G w b2 p2_thrown p2_changes p2_errorAt p2_failedAt p2_isSaved p2_v p2_before p2_saved p2_past p2_far p2_scratch p2_best p2_thenX p2_thenY p2_thenMet p2_text p2_line p2_isLeft p2_words p2_wordAt p2_textN p2_hereP p2_endP p2_lineN p2_isWrong p2_isDoing) (hp_p3 : (a3, (.inl (G.2 3, 1, .inr (.inl p3)) : va_E)) ∈ w) (hp_p4 : (a4, (.inl (G.2 4, 1, .inr (.inr (.inr (.inl p4)))) : va_E)) ∈ w)
    (hsc : ∀ k : Nat, k < 5 → vp_in (x5 + Int32.ofNat k) L ∧ xs (x5 + Int32.ofNat k).toNatClampNeg = mm_x5 x0 x1 x2 x3 x4 k) (hM : mm_S G A s.heap w H locs)
    (hk : ∀ (w : va_W) (H : Heap) (locs : List Loc), mm_S G A s.heap w H locs → At12 G w b1 p1_marsh_reeds_states p1_marsh_reeds_count p1_marsh_reeds_broken p1_marsh_fleet_numbers p1_marsh_fleet_cells p1_marsh_fleet_fares p1_marsh_fleet_count p1_marsh_fleet_nextNumber p1_marsh_fleet_total p1_marsh_fleet_removedFares p1_marsh_fleet_meetings p1_marsh_plans_moves p1_marsh_plans_lengths p1_marsh_landings_cells p1_marsh_landings_count p1_marsh_fogSide p1_snapshot_reeds_states p1_snapshot_reeds_count p1_snapshot_reeds_broken p1_snapshot_fleet_numbers p1_snapshot_fleet_cells p1_snapshot_fleet_fares p1_snapshot_fleet_count p1_snapshot_fleet_nextNumber p1_snapshot_fleet_total p1_snapshot_fleet_removedFares p1_snapshot_fleet_meetings p1_snapshot_plans_moves p1_snapshot_plans_lengths p1_snapshot_landings_cells p1_snapshot_landings_count p1_snapshot_fogSide p1_history_slots p1_history_free p1_history_count p1_ways_tolls p1_ways_queue p1_ways_heap p1_ways_heapSize p1_ways_found p1_ways_improved X.1 X.2.1 p1_reader_kinds p1_reader_starts p1_reader_count p1_commandText_signs p1_commandText_length p1_line_signs p1_line_length p1_spareMoves p1_snapshotTaken p1_lastErrorPosition p1_lastFailedCommand → At13 G w b2 X.2.2.1 p2_changes p2_errorAt p2_failedAt p2_isSaved p2_v p2_before p2_saved p2_past p2_far p2_scratch X.2.2.2.1 p2_thenX p2_thenY p2_thenMet p2_text p2_line p2_isLeft p2_words p2_wordAt p2_textN p2_hereP p2_endP p2_lineN p2_isWrong p2_isDoing → (a3, (.inl (G.2 3, 1, .inr (.inl X.2.2.2.2)) : va_E)) ∈ w → (a4, (.inl (G.2 4, 1, .inr (.inr (.inr (.inl p4)))) : va_E)) ∈ w → ∀ ls, lv_has ls 10 [(0, .ref b), (1, .ref b1), (2, .ref b2), (3, .ref a3), (4, .ref a4), (5, .int x5)] → W p l e room_1 s m args below meth c H locs (cells + 1000) (slots + 10000) Q (F0 m 3345 ls [])) (ls : Array Slot) (hl : lv_has ls 10 [(0, .ref b), (1, .ref b1), (2, .ref b2), (3, .ref a3), (4, .ref a4), (5, .int x5)]) : W p l e room_1 s m args below meth c H locs cells slots Q (F0 m 2670 ls []) := by
  have hx := hC.1.1
  have hb := hC.1.2.1
  rw [g_law42] at hf
  refine lv_aload_n hx hb dL_law_2670 rfl (lv_at hl 1 rfl) ?_
  refine lv_aload_n hx hb dL_law_2671 rfl (lv_at hl 0 rfl) ?_
  refine lv_iload hx hb dL_law_2672 (lv_at hl 5 rfl) ?_
  refine lv_iconst (v := 1) hx hb dL_law_2674 (by decide) ?_
  refine lv_iadd hx hb dL_law_2675 ?_
  refine mm_sld hC hM hsX hbl hbA (hsc 1 (by decide)).1 (hsc 1 (by decide)).2 dL_law_2676 ?_
  refine lv_aload_n hx hb dL_law_2677 rfl (lv_at hl 3 rfl) ?_
  obtain ⟨q2678, hq2678, hf⟩ := mm_bd hf
  refine mm_SiW (rest := []) hC hM (c_L_partnerOf l hfl hq2678 hp_p1 hp_p3 (by omega)) q5_221 q1_0 ykL_partnerOf q5_219 q5_220 ⟨rfl, rfl⟩ ⟨Nat.le_of_ble_eq_true rfl, Nat.le_of_ble_eq_true rfl⟩ rfl hl.1 rfl (Nat.le_of_ble_eq_true rfl) dL_law_2678 ⟨by omega, by omega⟩ (fun r w2678 H locs hM hw => ?_)
  obtain ⟨hr, hn_p0, hn_p2, hfr⟩ := hw
  rw [hr]
  have hp_p2 := hp_p2.keep2 hfr (by omega) (by omega)
  have hp_p4 := hfr.keep hp_p4 (by omega) (by omega)
  have hp_p1 := hn_p0
  have hp_p3 := hn_p2
  refine lv_istore (lv' := [(6, .int q2678.1), (0, .ref b), (1, .ref b1), (2, .ref b2), (3, .ref a3), (4, .ref a4), (5, .int x5)]) hx hb dL_law_2681 hl (by decide) rfl (fun ls hl => ?_)
  refine lv_aload_n hx hb dL_law_2683 rfl (lv_at hl 3 rfl) ?_
  refine lv_aload_n hx hb dL_law_2684 rfl (lv_at hl 1 rfl) ?_
  refine lv_iload hx hb dL_law_2685 (lv_at hl 6 rfl) ?_
  refine lv_iconst (v := 1) hx hb dL_law_2687 (by decide) ?_
  refine lv_iadd hx hb dL_law_2688 ?_
  refine mm_sld hC hM hsX hbl hbA (hsc 1 (by decide)).1 (hsc 1 (by decide)).2 dL_law_2689 ?_
  obtain ⟨q2690, hq2690, hf⟩ := mm_bd hf
  refine mm_Vi (rest := []) hC hM (c_X13_partnerOf l hq2690 hp_p2) q8_217 q1_12 ykX13_partnerOf q8_214 q8_215 q8_216 hp_p2.1 rfl ⟨rfl, rfl⟩ ⟨Nat.le_of_ble_eq_true rfl, Nat.le_of_ble_eq_true rfl⟩ rfl hl.1 rfl (Nat.le_of_ble_eq_true rfl) dL_law_2690 ⟨by omega, by omega⟩ (fun r w2690 H locs hM hw => ?_)
  obtain ⟨hr, hn_this, hfr⟩ := hw
  rw [hr]
  have hp_p1 := hp_p1.keep hfr (by omega)
  have hp_p3 := hfr.keep hp_p3 (by omega)
  have hp_p4 := hfr.keep hp_p4 (by omega)
  have hp_p2 := hn_this
  refine lv_istore (lv' := [(7, .int q2690.1), (6, .int q2678.1), (0, .ref b), (1, .ref b1), (2, .ref b2), (3, .ref a3), (4, .ref a4), (5, .int x5)]) hx hb dL_law_2693 hl (by decide) rfl (fun ls hl => ?_)
  refine lv_aload_n hx hb dL_law_2695 rfl (lv_at hl 4 rfl) ?_
  obtain ⟨q2696, hq2696, hf⟩ := mm_bd hf
  refine mm_Vi (rest := []) hC hM (c_X13_thrown l hq2696 hp_p2) q7_87 q1_12 ykX13_thrown q7_84 q7_85 q7_86 hp_p2.1 rfl ⟨rfl, rfl⟩ ⟨Nat.le_of_ble_eq_true rfl, Nat.le_of_ble_eq_true rfl⟩ rfl hl.1 rfl (Nat.le_of_ble_eq_true rfl) dL_law_2696 ⟨by omega, by omega⟩ (fun r w2696 H locs hM hw => ?_)
  obtain ⟨hr, hw⟩ := hw
  rw [hr]
  rw [hw] at hM
  refine lv_iload hx hb dL_law_2699 (lv_at hl 1 rfl) ?_
  refine lv_icmp_eq (tgt := 2706) hx hb dL_law_2701 (by decide) (fun hcd => ?_) (fun hcd => ?_)
  · rw [if_pos hcd] at hf
    refine lv_iload hx hb dL_law_2706 (lv_at hl 1 rfl) ?_
    refine lv_if_ne (tgt := 2723) hx hb dL_law_2708 (by decide) (fun hcd => ?_) (fun hcd => ?_)
    · rw [if_neg hcd] at hf
      refine lv_goto (tgt := 3345) hx hb dL_law_2723 (by decide) ?_
      cases hf
      exact W.widen (by omega) (by omega) (hk _ _ _ hM hp_p1 hp_p2 hp_p3 hp_p4 _ (lv_sub hl [2, 3, 4, 5, 6, 7] rfl))
    · rw [if_pos hcd] at hf
      refine lv_aload_n hx hb dL_law_2711 rfl (lv_at hl 5 rfl) ?_
      refine lv_iconst (v := 0) hx hb dL_law_2712 (by decide) ?_
      refine mm_lald0 hC hM hp_p3 dL_law_2713 ?_
      refine lv_iload hx hb dL_law_2714 (lv_at hl 0 rfl) ?_
      refine lv_i2l hx hb dL_law_2716 rfl ?_
      refine W.lcmp hx hb dL_law_2717 ?_
      refine lv_if_eq (tgt := 2723) hx hb dL_law_2718 (by decide) (fun hcd => ?_) (fun hcd => ?_)
      · rw [if_pos hcd] at hf
        refine lv_goto (tgt := 3345) hx hb dL_law_2723 (by decide) ?_
        cases hf
        exact W.widen (by omega) (by omega) (hk _ _ _ hM hp_p1 hp_p2 hp_p3 hp_p4 _ (lv_sub hl [2, 3, 4, 5, 6, 7] rfl))
      · rw [if_neg hcd] at hf
        refine lv_iconst (v := 0) hx hb dL_law_2721 (by decide) ?_
        cases hf
  · rw [if_neg hcd] at hf
    refine lv_iconst (v := 0) hx hb dL_law_2704 (by decide) ?_
    cases hf
def g_law43 (K : Nat) (p1_marsh_fleet_total : Int32) (p2_v : Nat → Int32) : Option (Int32) := (f_X12_fareTotal p1_marsh_fleet_total).bind fun q2727 => (f_X13_fareTotal K p2_v).bind fun q2731 => if q2727 = q2731.1 then some q2731.2 else none
set_option maxHeartbeats 4000000 in
set_option maxRecDepth 100000 in
theorem g_law43_c (hC : mm_C G A p s m c code 10 args "MirrorFerryLaw") (hsX : va_X b L xs s s.heap) (hbl : b < s.heap.size) (hbA : ¬ A b) (hd1 : b1 + 152 ≤ b2) (hd2 : b2 + 13 ≤ a3) (hd3 : a3 + 1 ≤ a4) (hrc : cells + 1000 ≤ room_1.cells) (hrs : slots + 10000 ≤ room_1.slots) (hfl : l.stackTraces = false) {K : Nat} {p1_marsh_reeds_states : Nat → Int32} {p1_marsh_reeds_count : Int32} {p1_marsh_reeds_broken : Int32} {p1_marsh_fleet_numbers : Nat → Int32} {p1_marsh_fleet_cells : Nat → Int32} {p1_marsh_fleet_fares : Nat → Int32} {p1_marsh_fleet_count : Int32} {p1_marsh_fleet_nextNumber : Int32} {p1_marsh_fleet_total : Int32} {p1_marsh_fleet_removedFares : Int32} {p1_marsh_fleet_meetings : Int32} {p1_marsh_plans_moves : Nat → Int32} {p1_marsh_plans_lengths : Nat → Int32} {p1_marsh_landings_cells : Nat → Int32} {p1_marsh_landings_count : Int32} {p1_marsh_fogSide : Int32} {p1_snapshot_reeds_states : Nat → Int32} {p1_snapshot_reeds_count : Int32} {p1_snapshot_reeds_broken : Int32} {p1_snapshot_fleet_numbers : Nat → Int32} {p1_snapshot_fleet_cells : Nat → Int32} {p1_snapshot_fleet_fares : Nat → Int32} {p1_snapshot_fleet_count : Int32} {p1_snapshot_fleet_nextNumber : Int32} {p1_snapshot_fleet_total : Int32} {p1_snapshot_fleet_removedFares : Int32} {p1_snapshot_fleet_meetings : Int32} {p1_snapshot_plans_moves : Nat → Int32} {p1_snapshot_plans_lengths : Nat → Int32} {p1_snapshot_landings_cells : Nat → Int32} {p1_snapshot_landings_count : Int32} {p1_snapshot_fogSide : Int32} {p1_history_slots : Nat → mm_MV} {p1_history_free : Int32} {p1_history_count : Int32} {p1_ways_tolls : Nat → Int32} {p1_ways_queue : Nat → Int32} {p1_ways_heap : Nat → Int32} {p1_ways_heapSize : Int32} {p1_ways_found : Nat → Int32} {p1_ways_improved : Nat → Int32} {p1_pairing_costs : Nat → Int32} {p1_pairing_best : Nat → Int32} {p1_reader_kinds : Nat → Int32} {p1_reader_starts : Nat → Int32} {p1_reader_count : Int32} {p1_commandText_signs : Nat → Int32} {p1_commandText_length : Int32} {p1_line_signs : Nat → Int32} {p1_line_length : Int32} {p1_spareMoves : Nat → Int32} {p1_snapshotTaken : Int32} {p1_lastErrorPosition : Int32} {p1_lastFailedCommand : Int32} {p2_thrown : Int32} {p2_changes : Int32} {p2_errorAt : Int32} {p2_failedAt : Int32} {p2_isSaved : Int32} {p2_v : Nat → Int32} {p2_before : Nat → Int32} {p2_saved : Nat → Int32} {p2_past : Nat → Int32} {p2_far : Nat → Int32} {p2_scratch : Nat → Int32} {p2_best : Nat → Int32} {p2_thenX : Int32} {p2_thenY : Int32} {p2_thenMet : Int32} {p2_text : Nat → Int32} {p2_line : Nat → Int32} {p2_isLeft : Nat → Int32} {p2_words : Nat → Int32} {p2_wordAt : Nat → Int32} {p2_textN : Int32} {p2_hereP : Int32} {p2_endP : Int32} {p2_lineN : Int32} {p2_isWrong : Int32} {p2_isDoing : Int32} {p3 : Nat → Int64} {p4 : Nat → UInt64} {x0 x1 x2 x3 x4 x5 : Int32} {X : Int32} (hf : g_law43 K p1_marsh_fleet_total p2_v = some X) (hp_p1 : At12 G w b1 p1_marsh_reeds_states p1_marsh_reeds_count p1_marsh_reeds_broken p1_marsh_fleet_numbers p1_marsh_fleet_cells p1_marsh_fleet_fares p1_marsh_fleet_count p1_marsh_fleet_nextNumber p1_marsh_fleet_total p1_marsh_fleet_removedFares p1_marsh_fleet_meetings p1_marsh_plans_moves p1_marsh_plans_lengths p1_marsh_landings_cells p1_marsh_landings_count p1_marsh_fogSide p1_snapshot_reeds_states p1_snapshot_reeds_count p1_snapshot_reeds_broken p1_snapshot_fleet_numbers p1_snapshot_fleet_cells p1_snapshot_fleet_fares p1_snapshot_fleet_count p1_snapshot_fleet_nextNumber p1_snapshot_fleet_total p1_snapshot_fleet_removedFares p1_snapshot_fleet_meetings p1_snapshot_plans_moves p1_snapshot_plans_lengths p1_snapshot_landings_cells p1_snapshot_landings_count p1_snapshot_fogSide p1_history_slots p1_history_free p1_history_count p1_ways_tolls p1_ways_queue p1_ways_heap p1_ways_heapSize p1_ways_found p1_ways_improved p1_pairing_costs p1_pairing_best p1_reader_kinds p1_reader_starts p1_reader_count p1_commandText_signs p1_commandText_length p1_line_signs p1_line_length p1_spareMoves p1_snapshotTaken p1_lastErrorPosition p1_lastFailedCommand) (hp_p2 : At13 G w b2 p2_thrown p2_changes p2_errorAt p2_failedAt p2_isSaved p2_v p2_before p2_saved p2_past p2_far p2_scratch p2_best p2_thenX p2_thenY p2_thenMet p2_text p2_line p2_isLeft p2_words p2_wordAt p2_textN p2_hereP p2_endP p2_lineN p2_isWrong p2_isDoing) (hp_p3 : (a3, (.inl (G.2 3, 1, .inr (.inl p3)) : va_E)) ∈ w) (hp_p4 : (a4, (.inl (G.2 4, 1, .inr (.inr (.inr (.inl p4)))) : va_E)) ∈ w)
    (hsc : ∀ k : Nat, k < 5 → vp_in (x5 + Int32.ofNat k) L ∧ xs (x5 + Int32.ofNat k).toNatClampNeg = mm_x5 x0 x1 x2 x3 x4 k) (hM : mm_S G A s.heap w H locs)
    (hk : ∀ (w : va_W) (H : Heap) (locs : List Loc), mm_S G A s.heap w H locs → At12 G w b1 p1_marsh_reeds_states p1_marsh_reeds_count p1_marsh_reeds_broken p1_marsh_fleet_numbers p1_marsh_fleet_cells p1_marsh_fleet_fares p1_marsh_fleet_count p1_marsh_fleet_nextNumber p1_marsh_fleet_total p1_marsh_fleet_removedFares p1_marsh_fleet_meetings p1_marsh_plans_moves p1_marsh_plans_lengths p1_marsh_landings_cells p1_marsh_landings_count p1_marsh_fogSide p1_snapshot_reeds_states p1_snapshot_reeds_count p1_snapshot_reeds_broken p1_snapshot_fleet_numbers p1_snapshot_fleet_cells p1_snapshot_fleet_fares p1_snapshot_fleet_count p1_snapshot_fleet_nextNumber p1_snapshot_fleet_total p1_snapshot_fleet_removedFares p1_snapshot_fleet_meetings p1_snapshot_plans_moves p1_snapshot_plans_lengths p1_snapshot_landings_cells p1_snapshot_landings_count p1_snapshot_fogSide p1_history_slots p1_history_free p1_history_count p1_ways_tolls p1_ways_queue p1_ways_heap p1_ways_heapSize p1_ways_found p1_ways_improved p1_pairing_costs p1_pairing_best p1_reader_kinds p1_reader_starts p1_reader_count p1_commandText_signs p1_commandText_length p1_line_signs p1_line_length p1_spareMoves p1_snapshotTaken p1_lastErrorPosition p1_lastFailedCommand → At13 G w b2 X p2_changes p2_errorAt p2_failedAt p2_isSaved p2_v p2_before p2_saved p2_past p2_far p2_scratch p2_best p2_thenX p2_thenY p2_thenMet p2_text p2_line p2_isLeft p2_words p2_wordAt p2_textN p2_hereP p2_endP p2_lineN p2_isWrong p2_isDoing → (a3, (.inl (G.2 3, 1, .inr (.inl p3)) : va_E)) ∈ w → (a4, (.inl (G.2 4, 1, .inr (.inr (.inr (.inl p4)))) : va_E)) ∈ w → ∀ ls, lv_has ls 10 [(0, .ref b), (1, .ref b1), (2, .ref b2), (3, .ref a3), (4, .ref a4), (5, .int x5)] → W p l e room_1 s m args below meth c H locs (cells + 1000) (slots + 10000) Q (F0 m 3345 ls [])) (ls : Array Slot) (hl : lv_has ls 10 [(0, .ref b), (1, .ref b1), (2, .ref b2), (3, .ref a3), (4, .ref a4), (5, .int x5)]) : W p l e room_1 s m args below meth c H locs cells slots Q (F0 m 2726 ls []) := by
  have hx := hC.1.1
  have hb := hC.1.2.1
  rw [g_law43] at hf
  refine lv_aload_n hx hb dL_law_2726 rfl (lv_at hl 1 rfl) ?_
  obtain ⟨q2727, hq2727, hf⟩ := mm_bd hf
  refine mm_Vi (rest := []) hC hM (c_X12_fareTotal l hq2727 hp_p1) q2_105 q1_1 ykX12_fareTotal q2_102 q2_103 q2_104 hp_p1.1 rfl ⟨rfl, rfl⟩ ⟨Nat.le_of_ble_eq_true rfl, Nat.le_of_ble_eq_true rfl⟩ rfl hl.1 rfl (Nat.le_of_ble_eq_true rfl) dL_law_2727 ⟨by omega, by omega⟩ (fun r w2727 H locs hM hw => ?_)
  obtain ⟨hr, hw⟩ := hw
  rw [hr]
  rw [hw] at hM
  refine lv_aload_n hx hb dL_law_2730 rfl (lv_at hl 2 rfl) ?_
  obtain ⟨q2731, hq2731, hf⟩ := mm_bd hf
  refine mm_Vi (rest := [.int q2727]) hC hM (c_X13_fareTotal l hq2731 hp_p2) q8_221 q1_12 ykX13_fareTotal q8_218 q8_219 q8_220 hp_p2.1 rfl ⟨rfl, rfl⟩ ⟨Nat.le_of_ble_eq_true rfl, Nat.le_of_ble_eq_true rfl⟩ rfl hl.1 rfl (Nat.le_of_ble_eq_true rfl) dL_law_2731 ⟨by omega, by omega⟩ (fun r w2731 H locs hM hw => ?_)
  obtain ⟨hr, hn_this, hfr⟩ := hw
  rw [hr]
  have hp_p1 := hp_p1.keep hfr (by omega)
  have hp_p3 := hfr.keep hp_p3 (by omega)
  have hp_p4 := hfr.keep hp_p4 (by omega)
  have hp_p2 := hn_this
  refine lv_icmp_eq (tgt := 3345) hx hb dL_law_2734 (by decide) (fun hcd => ?_) (fun hcd => ?_)
  · rw [if_pos hcd] at hf
    cases hf
    exact W.widen (by omega) (by omega) (hk _ _ _ hM hp_p1 hp_p2 hp_p3 hp_p4 _ (lv_sub hl [0, 1, 2, 3, 4, 5] rfl))
  · rw [if_neg hcd] at hf
    refine lv_iconst (v := 0) hx hb dL_law_2737 (by decide) ?_
    cases hf
def g_law44 (K : Nat) (p1_marsh_fleet_fares : Nat → Int32) (p1_marsh_fleet_count : Int32) (p1_marsh_fleet_removedFares : Int32) (p2_v : Nat → Int32) : Option (Int32) := (f_X12_fareTotalByBoats K p1_marsh_fleet_fares p1_marsh_fleet_count p1_marsh_fleet_removedFares).bind fun q2740 => (f_X13_fareTotalByBoats K p2_v).bind fun q2744 => if q2740 = q2744.1 then some q2744.2 else none
set_option maxHeartbeats 4000000 in
set_option maxRecDepth 100000 in
theorem g_law44_c (hC : mm_C G A p s m c code 10 args "MirrorFerryLaw") (hsX : va_X b L xs s s.heap) (hbl : b < s.heap.size) (hbA : ¬ A b) (hd1 : b1 + 152 ≤ b2) (hd2 : b2 + 13 ≤ a3) (hd3 : a3 + 1 ≤ a4) (hrc : cells + 1000 ≤ room_1.cells) (hrs : slots + 10000 ≤ room_1.slots) (hfl : l.stackTraces = false) {K : Nat} {p1_marsh_reeds_states : Nat → Int32} {p1_marsh_reeds_count : Int32} {p1_marsh_reeds_broken : Int32} {p1_marsh_fleet_numbers : Nat → Int32} {p1_marsh_fleet_cells : Nat → Int32} {p1_marsh_fleet_fares : Nat → Int32} {p1_marsh_fleet_count : Int32} {p1_marsh_fleet_nextNumber : Int32} {p1_marsh_fleet_total : Int32} {p1_marsh_fleet_removedFares : Int32} {p1_marsh_fleet_meetings : Int32} {p1_marsh_plans_moves : Nat → Int32} {p1_marsh_plans_lengths : Nat → Int32} {p1_marsh_landings_cells : Nat → Int32} {p1_marsh_landings_count : Int32} {p1_marsh_fogSide : Int32} {p1_snapshot_reeds_states : Nat → Int32} {p1_snapshot_reeds_count : Int32} {p1_snapshot_reeds_broken : Int32} {p1_snapshot_fleet_numbers : Nat → Int32} {p1_snapshot_fleet_cells : Nat → Int32} {p1_snapshot_fleet_fares : Nat → Int32} {p1_snapshot_fleet_count : Int32} {p1_snapshot_fleet_nextNumber : Int32} {p1_snapshot_fleet_total : Int32} {p1_snapshot_fleet_removedFares : Int32} {p1_snapshot_fleet_meetings : Int32} {p1_snapshot_plans_moves : Nat → Int32} {p1_snapshot_plans_lengths : Nat → Int32} {p1_snapshot_landings_cells : Nat → Int32} {p1_snapshot_landings_count : Int32} {p1_snapshot_fogSide : Int32} {p1_history_slots : Nat → mm_MV} {p1_history_free : Int32} {p1_history_count : Int32} {p1_ways_tolls : Nat → Int32} {p1_ways_queue : Nat → Int32} {p1_ways_heap : Nat → Int32} {p1_ways_heapSize : Int32} {p1_ways_found : Nat → Int32} {p1_ways_improved : Nat → Int32} {p1_pairing_costs : Nat → Int32} {p1_pairing_best : Nat → Int32} {p1_reader_kinds : Nat → Int32} {p1_reader_starts : Nat → Int32} {p1_reader_count : Int32} {p1_commandText_signs : Nat → Int32} {p1_commandText_length : Int32} {p1_line_signs : Nat → Int32} {p1_line_length : Int32} {p1_spareMoves : Nat → Int32} {p1_snapshotTaken : Int32} {p1_lastErrorPosition : Int32} {p1_lastFailedCommand : Int32} {p2_thrown : Int32} {p2_changes : Int32} {p2_errorAt : Int32} {p2_failedAt : Int32} {p2_isSaved : Int32} {p2_v : Nat → Int32} {p2_before : Nat → Int32} {p2_saved : Nat → Int32} {p2_past : Nat → Int32} {p2_far : Nat → Int32} {p2_scratch : Nat → Int32} {p2_best : Nat → Int32} {p2_thenX : Int32} {p2_thenY : Int32} {p2_thenMet : Int32} {p2_text : Nat → Int32} {p2_line : Nat → Int32} {p2_isLeft : Nat → Int32} {p2_words : Nat → Int32} {p2_wordAt : Nat → Int32} {p2_textN : Int32} {p2_hereP : Int32} {p2_endP : Int32} {p2_lineN : Int32} {p2_isWrong : Int32} {p2_isDoing : Int32} {p3 : Nat → Int64} {p4 : Nat → UInt64} {x0 x1 x2 x3 x4 x5 : Int32} {X : Int32} (hf : g_law44 K p1_marsh_fleet_fares p1_marsh_fleet_count p1_marsh_fleet_removedFares p2_v = some X) (hp_p1 : At12 G w b1 p1_marsh_reeds_states p1_marsh_reeds_count p1_marsh_reeds_broken p1_marsh_fleet_numbers p1_marsh_fleet_cells p1_marsh_fleet_fares p1_marsh_fleet_count p1_marsh_fleet_nextNumber p1_marsh_fleet_total p1_marsh_fleet_removedFares p1_marsh_fleet_meetings p1_marsh_plans_moves p1_marsh_plans_lengths p1_marsh_landings_cells p1_marsh_landings_count p1_marsh_fogSide p1_snapshot_reeds_states p1_snapshot_reeds_count p1_snapshot_reeds_broken p1_snapshot_fleet_numbers p1_snapshot_fleet_cells p1_snapshot_fleet_fares p1_snapshot_fleet_count p1_snapshot_fleet_nextNumber p1_snapshot_fleet_total p1_snapshot_fleet_removedFares p1_snapshot_fleet_meetings p1_snapshot_plans_moves p1_snapshot_plans_lengths p1_snapshot_landings_cells p1_snapshot_landings_count p1_snapshot_fogSide p1_history_slots p1_history_free p1_history_count p1_ways_tolls p1_ways_queue p1_ways_heap p1_ways_heapSize p1_ways_found p1_ways_improved p1_pairing_costs p1_pairing_best p1_reader_kinds p1_reader_starts p1_reader_count p1_commandText_signs p1_commandText_length p1_line_signs p1_line_length p1_spareMoves p1_snapshotTaken p1_lastErrorPosition p1_lastFailedCommand) (hp_p2 : At13 G w b2 p2_thrown p2_changes p2_errorAt p2_failedAt p2_isSaved p2_v p2_before p2_saved p2_past p2_far p2_scratch p2_best p2_thenX p2_thenY p2_thenMet p2_text p2_line p2_isLeft p2_words p2_wordAt p2_textN p2_hereP p2_endP p2_lineN p2_isWrong p2_isDoing) (hp_p3 : (a3, (.inl (G.2 3, 1, .inr (.inl p3)) : va_E)) ∈ w) (hp_p4 : (a4, (.inl (G.2 4, 1, .inr (.inr (.inr (.inl p4)))) : va_E)) ∈ w)
    (hsc : ∀ k : Nat, k < 5 → vp_in (x5 + Int32.ofNat k) L ∧ xs (x5 + Int32.ofNat k).toNatClampNeg = mm_x5 x0 x1 x2 x3 x4 k) (hM : mm_S G A s.heap w H locs)
    (hk : ∀ (w : va_W) (H : Heap) (locs : List Loc), mm_S G A s.heap w H locs → At12 G w b1 p1_marsh_reeds_states p1_marsh_reeds_count p1_marsh_reeds_broken p1_marsh_fleet_numbers p1_marsh_fleet_cells p1_marsh_fleet_fares p1_marsh_fleet_count p1_marsh_fleet_nextNumber p1_marsh_fleet_total p1_marsh_fleet_removedFares p1_marsh_fleet_meetings p1_marsh_plans_moves p1_marsh_plans_lengths p1_marsh_landings_cells p1_marsh_landings_count p1_marsh_fogSide p1_snapshot_reeds_states p1_snapshot_reeds_count p1_snapshot_reeds_broken p1_snapshot_fleet_numbers p1_snapshot_fleet_cells p1_snapshot_fleet_fares p1_snapshot_fleet_count p1_snapshot_fleet_nextNumber p1_snapshot_fleet_total p1_snapshot_fleet_removedFares p1_snapshot_fleet_meetings p1_snapshot_plans_moves p1_snapshot_plans_lengths p1_snapshot_landings_cells p1_snapshot_landings_count p1_snapshot_fogSide p1_history_slots p1_history_free p1_history_count p1_ways_tolls p1_ways_queue p1_ways_heap p1_ways_heapSize p1_ways_found p1_ways_improved p1_pairing_costs p1_pairing_best p1_reader_kinds p1_reader_starts p1_reader_count p1_commandText_signs p1_commandText_length p1_line_signs p1_line_length p1_spareMoves p1_snapshotTaken p1_lastErrorPosition p1_lastFailedCommand → At13 G w b2 X p2_changes p2_errorAt p2_failedAt p2_isSaved p2_v p2_before p2_saved p2_past p2_far p2_scratch p2_best p2_thenX p2_thenY p2_thenMet p2_text p2_line p2_isLeft p2_words p2_wordAt p2_textN p2_hereP p2_endP p2_lineN p2_isWrong p2_isDoing → (a3, (.inl (G.2 3, 1, .inr (.inl p3)) : va_E)) ∈ w → (a4, (.inl (G.2 4, 1, .inr (.inr (.inr (.inl p4)))) : va_E)) ∈ w → ∀ ls, lv_has ls 10 [(0, .ref b), (1, .ref b1), (2, .ref b2), (3, .ref a3), (4, .ref a4), (5, .int x5)] → W p l e room_1 s m args below meth c H locs (cells + 1000) (slots + 10000) Q (F0 m 3345 ls [])) (ls : Array Slot) (hl : lv_has ls 10 [(0, .ref b), (1, .ref b1), (2, .ref b2), (3, .ref a3), (4, .ref a4), (5, .int x5)]) : W p l e room_1 s m args below meth c H locs cells slots Q (F0 m 2739 ls []) := by
  have hx := hC.1.1
  have hb := hC.1.2.1
  rw [g_law44] at hf
  refine lv_aload_n hx hb dL_law_2739 rfl (lv_at hl 1 rfl) ?_
  obtain ⟨q2740, hq2740, hf⟩ := mm_bd hf
  refine mm_Vi (rest := []) hC hM (c_X12_fareTotalByBoats l hq2740 hp_p1) q2_109 q1_1 ykX12_fareTotalByBoats q2_106 q2_107 q2_108 hp_p1.1 rfl ⟨rfl, rfl⟩ ⟨Nat.le_of_ble_eq_true rfl, Nat.le_of_ble_eq_true rfl⟩ rfl hl.1 rfl (Nat.le_of_ble_eq_true rfl) dL_law_2740 ⟨by omega, by omega⟩ (fun r w2740 H locs hM hw => ?_)
  obtain ⟨hr, hw⟩ := hw
  rw [hr]
  rw [hw] at hM
  refine lv_aload_n hx hb dL_law_2743 rfl (lv_at hl 2 rfl) ?_
  obtain ⟨q2744, hq2744, hf⟩ := mm_bd hf
  refine mm_Vi (rest := [.int q2740]) hC hM (c_X13_fareTotalByBoats l hq2744 hp_p2) q8_229 q1_12 ykX13_fareTotalByBoats q8_226 q8_227 q8_228 hp_p2.1 rfl ⟨rfl, rfl⟩ ⟨Nat.le_of_ble_eq_true rfl, Nat.le_of_ble_eq_true rfl⟩ rfl hl.1 rfl (Nat.le_of_ble_eq_true rfl) dL_law_2744 ⟨by omega, by omega⟩ (fun r w2744 H locs hM hw => ?_)
  obtain ⟨hr, hn_this, hfr⟩ := hw
  rw [hr]
  have hp_p1 := hp_p1.keep hfr (by omega)
  have hp_p3 := hfr.keep hp_p3 (by omega)
  have hp_p4 := hfr.keep hp_p4 (by omega)
  have hp_p2 := hn_this
  refine lv_icmp_eq (tgt := 3345) hx hb dL_law_2747 (by decide) (fun hcd => ?_) (fun hcd => ?_)
  · rw [if_pos hcd] at hf
    cases hf
    exact W.widen (by omega) (by omega) (hk _ _ _ hM hp_p1 hp_p2 hp_p3 hp_p4 _ (lv_sub hl [0, 1, 2, 3, 4, 5] rfl))
  · rw [if_neg hcd] at hf
    refine lv_iconst (v := 0) hx hb dL_law_2750 (by decide) ?_
    cases hf
def g_law45 (p1_marsh_fleet_meetings : Int32) (p2_v : Nat → Int32) : Option (Int32) := (f_X12_meetingCount p1_marsh_fleet_meetings).bind fun q2753 => (f_X13_meetingCount p2_v).bind fun q2757 => if q2753 = q2757.1 then some q2757.2 else none
set_option maxHeartbeats 4000000 in
set_option maxRecDepth 100000 in
theorem g_law45_c (hC : mm_C G A p s m c code 10 args "MirrorFerryLaw") (hsX : va_X b L xs s s.heap) (hbl : b < s.heap.size) (hbA : ¬ A b) (hd1 : b1 + 152 ≤ b2) (hd2 : b2 + 13 ≤ a3) (hd3 : a3 + 1 ≤ a4) (hrc : cells + 1000 ≤ room_1.cells) (hrs : slots + 10000 ≤ room_1.slots) (hfl : l.stackTraces = false) {p1_marsh_reeds_states : Nat → Int32} {p1_marsh_reeds_count : Int32} {p1_marsh_reeds_broken : Int32} {p1_marsh_fleet_numbers : Nat → Int32} {p1_marsh_fleet_cells : Nat → Int32} {p1_marsh_fleet_fares : Nat → Int32} {p1_marsh_fleet_count : Int32} {p1_marsh_fleet_nextNumber : Int32} {p1_marsh_fleet_total : Int32} {p1_marsh_fleet_removedFares : Int32} {p1_marsh_fleet_meetings : Int32} {p1_marsh_plans_moves : Nat → Int32} {p1_marsh_plans_lengths : Nat → Int32} {p1_marsh_landings_cells : Nat → Int32} {p1_marsh_landings_count : Int32} {p1_marsh_fogSide : Int32} {p1_snapshot_reeds_states : Nat → Int32} {p1_snapshot_reeds_count : Int32} {p1_snapshot_reeds_broken : Int32} {p1_snapshot_fleet_numbers : Nat → Int32} {p1_snapshot_fleet_cells : Nat → Int32} {p1_snapshot_fleet_fares : Nat → Int32} {p1_snapshot_fleet_count : Int32} {p1_snapshot_fleet_nextNumber : Int32} {p1_snapshot_fleet_total : Int32} {p1_snapshot_fleet_removedFares : Int32} {p1_snapshot_fleet_meetings : Int32} {p1_snapshot_plans_moves : Nat → Int32} {p1_snapshot_plans_lengths : Nat → Int32} {p1_snapshot_landings_cells : Nat → Int32} {p1_snapshot_landings_count : Int32} {p1_snapshot_fogSide : Int32} {p1_history_slots : Nat → mm_MV} {p1_history_free : Int32} {p1_history_count : Int32} {p1_ways_tolls : Nat → Int32} {p1_ways_queue : Nat → Int32} {p1_ways_heap : Nat → Int32} {p1_ways_heapSize : Int32} {p1_ways_found : Nat → Int32} {p1_ways_improved : Nat → Int32} {p1_pairing_costs : Nat → Int32} {p1_pairing_best : Nat → Int32} {p1_reader_kinds : Nat → Int32} {p1_reader_starts : Nat → Int32} {p1_reader_count : Int32} {p1_commandText_signs : Nat → Int32} {p1_commandText_length : Int32} {p1_line_signs : Nat → Int32} {p1_line_length : Int32} {p1_spareMoves : Nat → Int32} {p1_snapshotTaken : Int32} {p1_lastErrorPosition : Int32} {p1_lastFailedCommand : Int32} {p2_thrown : Int32} {p2_changes : Int32} {p2_errorAt : Int32} {p2_failedAt : Int32} {p2_isSaved : Int32} {p2_v : Nat → Int32} {p2_before : Nat → Int32} {p2_saved : Nat → Int32} {p2_past : Nat → Int32} {p2_far : Nat → Int32} {p2_scratch : Nat → Int32} {p2_best : Nat → Int32} {p2_thenX : Int32} {p2_thenY : Int32} {p2_thenMet : Int32} {p2_text : Nat → Int32} {p2_line : Nat → Int32} {p2_isLeft : Nat → Int32} {p2_words : Nat → Int32} {p2_wordAt : Nat → Int32} {p2_textN : Int32} {p2_hereP : Int32} {p2_endP : Int32} {p2_lineN : Int32} {p2_isWrong : Int32} {p2_isDoing : Int32} {p3 : Nat → Int64} {p4 : Nat → UInt64} {x0 x1 x2 x3 x4 x5 : Int32} {X : Int32} (hf : g_law45 p1_marsh_fleet_meetings p2_v = some X) (hp_p1 : At12 G w b1 p1_marsh_reeds_states p1_marsh_reeds_count p1_marsh_reeds_broken p1_marsh_fleet_numbers p1_marsh_fleet_cells p1_marsh_fleet_fares p1_marsh_fleet_count p1_marsh_fleet_nextNumber p1_marsh_fleet_total p1_marsh_fleet_removedFares p1_marsh_fleet_meetings p1_marsh_plans_moves p1_marsh_plans_lengths p1_marsh_landings_cells p1_marsh_landings_count p1_marsh_fogSide p1_snapshot_reeds_states p1_snapshot_reeds_count p1_snapshot_reeds_broken p1_snapshot_fleet_numbers p1_snapshot_fleet_cells p1_snapshot_fleet_fares p1_snapshot_fleet_count p1_snapshot_fleet_nextNumber p1_snapshot_fleet_total p1_snapshot_fleet_removedFares p1_snapshot_fleet_meetings p1_snapshot_plans_moves p1_snapshot_plans_lengths p1_snapshot_landings_cells p1_snapshot_landings_count p1_snapshot_fogSide p1_history_slots p1_history_free p1_history_count p1_ways_tolls p1_ways_queue p1_ways_heap p1_ways_heapSize p1_ways_found p1_ways_improved p1_pairing_costs p1_pairing_best p1_reader_kinds p1_reader_starts p1_reader_count p1_commandText_signs p1_commandText_length p1_line_signs p1_line_length p1_spareMoves p1_snapshotTaken p1_lastErrorPosition p1_lastFailedCommand) (hp_p2 : At13 G w b2 p2_thrown p2_changes p2_errorAt p2_failedAt p2_isSaved p2_v p2_before p2_saved p2_past p2_far p2_scratch p2_best p2_thenX p2_thenY p2_thenMet p2_text p2_line p2_isLeft p2_words p2_wordAt p2_textN p2_hereP p2_endP p2_lineN p2_isWrong p2_isDoing) (hp_p3 : (a3, (.inl (G.2 3, 1, .inr (.inl p3)) : va_E)) ∈ w) (hp_p4 : (a4, (.inl (G.2 4, 1, .inr (.inr (.inr (.inl p4)))) : va_E)) ∈ w)
    (hsc : ∀ k : Nat, k < 5 → vp_in (x5 + Int32.ofNat k) L ∧ xs (x5 + Int32.ofNat k).toNatClampNeg = mm_x5 x0 x1 x2 x3 x4 k) (hM : mm_S G A s.heap w H locs)
    (hk : ∀ (w : va_W) (H : Heap) (locs : List Loc), mm_S G A s.heap w H locs → At12 G w b1 p1_marsh_reeds_states p1_marsh_reeds_count p1_marsh_reeds_broken p1_marsh_fleet_numbers p1_marsh_fleet_cells p1_marsh_fleet_fares p1_marsh_fleet_count p1_marsh_fleet_nextNumber p1_marsh_fleet_total p1_marsh_fleet_removedFares p1_marsh_fleet_meetings p1_marsh_plans_moves p1_marsh_plans_lengths p1_marsh_landings_cells p1_marsh_landings_count p1_marsh_fogSide p1_snapshot_reeds_states p1_snapshot_reeds_count p1_snapshot_reeds_broken p1_snapshot_fleet_numbers p1_snapshot_fleet_cells p1_snapshot_fleet_fares p1_snapshot_fleet_count p1_snapshot_fleet_nextNumber p1_snapshot_fleet_total p1_snapshot_fleet_removedFares p1_snapshot_fleet_meetings p1_snapshot_plans_moves p1_snapshot_plans_lengths p1_snapshot_landings_cells p1_snapshot_landings_count p1_snapshot_fogSide p1_history_slots p1_history_free p1_history_count p1_ways_tolls p1_ways_queue p1_ways_heap p1_ways_heapSize p1_ways_found p1_ways_improved p1_pairing_costs p1_pairing_best p1_reader_kinds p1_reader_starts p1_reader_count p1_commandText_signs p1_commandText_length p1_line_signs p1_line_length p1_spareMoves p1_snapshotTaken p1_lastErrorPosition p1_lastFailedCommand → At13 G w b2 X p2_changes p2_errorAt p2_failedAt p2_isSaved p2_v p2_before p2_saved p2_past p2_far p2_scratch p2_best p2_thenX p2_thenY p2_thenMet p2_text p2_line p2_isLeft p2_words p2_wordAt p2_textN p2_hereP p2_endP p2_lineN p2_isWrong p2_isDoing → (a3, (.inl (G.2 3, 1, .inr (.inl p3)) : va_E)) ∈ w → (a4, (.inl (G.2 4, 1, .inr (.inr (.inr (.inl p4)))) : va_E)) ∈ w → ∀ ls, lv_has ls 10 [(0, .ref b), (1, .ref b1), (2, .ref b2), (3, .ref a3), (4, .ref a4), (5, .int x5)] → W p l e room_1 s m args below meth c H locs (cells + 1000) (slots + 10000) Q (F0 m 3345 ls [])) (ls : Array Slot) (hl : lv_has ls 10 [(0, .ref b), (1, .ref b1), (2, .ref b2), (3, .ref a3), (4, .ref a4), (5, .int x5)]) : W p l e room_1 s m args below meth c H locs cells slots Q (F0 m 2752 ls []) := by
  have hx := hC.1.1
  have hb := hC.1.2.1
  rw [g_law45] at hf
  refine lv_aload_n hx hb dL_law_2752 rfl (lv_at hl 1 rfl) ?_
  obtain ⟨q2753, hq2753, hf⟩ := mm_bd hf
  refine mm_Vi (rest := []) hC hM (c_X12_meetingCount l hq2753 hp_p1) q2_117 q1_1 ykX12_meetingCount q2_114 q2_115 q2_116 hp_p1.1 rfl ⟨rfl, rfl⟩ ⟨Nat.le_of_ble_eq_true rfl, Nat.le_of_ble_eq_true rfl⟩ rfl hl.1 rfl (Nat.le_of_ble_eq_true rfl) dL_law_2753 ⟨by omega, by omega⟩ (fun r w2753 H locs hM hw => ?_)
  obtain ⟨hr, hw⟩ := hw
  rw [hr]
  rw [hw] at hM
  refine lv_aload_n hx hb dL_law_2756 rfl (lv_at hl 2 rfl) ?_
  obtain ⟨q2757, hq2757, hf⟩ := mm_bd hf
  refine mm_Vi (rest := [.int q2753]) hC hM (c_X13_meetingCount l hq2757 hp_p2) q8_234 q1_12 ykX13_meetingCount q8_231 q8_232 q8_233 hp_p2.1 rfl ⟨rfl, rfl⟩ ⟨Nat.le_of_ble_eq_true rfl, Nat.le_of_ble_eq_true rfl⟩ rfl hl.1 rfl (Nat.le_of_ble_eq_true rfl) dL_law_2757 ⟨by omega, by omega⟩ (fun r w2757 H locs hM hw => ?_)
  obtain ⟨hr, hn_this, hfr⟩ := hw
  rw [hr]
  have hp_p1 := hp_p1.keep hfr (by omega)
  have hp_p3 := hfr.keep hp_p3 (by omega)
  have hp_p4 := hfr.keep hp_p4 (by omega)
  have hp_p2 := hn_this
  refine lv_icmp_eq (tgt := 3345) hx hb dL_law_2760 (by decide) (fun hcd => ?_) (fun hcd => ?_)
  · rw [if_pos hcd] at hf
    cases hf
    exact W.widen (by omega) (by omega) (hk _ _ _ hM hp_p1 hp_p2 hp_p3 hp_p4 _ (lv_sub hl [0, 1, 2, 3, 4, 5] rfl))
  · rw [if_neg hcd] at hf
    refine lv_iconst (v := 0) hx hb dL_law_2763 (by decide) ?_
    cases hf
def g_law46 (p1_commandText_signs : Nat → Int32) (p1_commandText_length : Int32) (p2_text : Nat → Int32) (p2_textN : Int32) (p3 : Nat → Int64) (x1 : Int32) : Option ((Nat → Int32) × Int32 × Int32 × (Nat → Int32) × Int32 × (Nat → Int64)) := (f_L_append p1_commandText_signs p1_commandText_length p3 ((x1.toUInt32 % 65536).toInt32)).bind fun q2774 => (f_X13_append p2_text p2_textN ((x1.toUInt32 % 65536).toInt32)).bind fun q2787 => (f_X13_thrown q2787.2.1).bind fun q2793 => if q2793 = q2774.1 then if q2774.1 = 0 then if (lg_cmp (q2774.2.2.2 0) q2787.1.toInt64) = 0 then some (q2774.2.1, q2774.2.2.1, q2787.2.1, q2787.2.2.1, q2787.2.2.2, q2774.2.2.2) else none else some (q2774.2.1, q2774.2.2.1, q2787.2.1, q2787.2.2.1, q2787.2.2.2, q2774.2.2.2) else none
set_option maxHeartbeats 4000000 in
set_option maxRecDepth 100000 in
theorem g_law46_c (hC : mm_C G A p s m c code 10 args "MirrorFerryLaw") (hsX : va_X b L xs s s.heap) (hbl : b < s.heap.size) (hbA : ¬ A b) (hd1 : b1 + 152 ≤ b2) (hd2 : b2 + 13 ≤ a3) (hd3 : a3 + 1 ≤ a4) (hrc : cells + 1000 ≤ room_1.cells) (hrs : slots + 10000 ≤ room_1.slots) (hfl : l.stackTraces = false) {p1_marsh_reeds_states : Nat → Int32} {p1_marsh_reeds_count : Int32} {p1_marsh_reeds_broken : Int32} {p1_marsh_fleet_numbers : Nat → Int32} {p1_marsh_fleet_cells : Nat → Int32} {p1_marsh_fleet_fares : Nat → Int32} {p1_marsh_fleet_count : Int32} {p1_marsh_fleet_nextNumber : Int32} {p1_marsh_fleet_total : Int32} {p1_marsh_fleet_removedFares : Int32} {p1_marsh_fleet_meetings : Int32} {p1_marsh_plans_moves : Nat → Int32} {p1_marsh_plans_lengths : Nat → Int32} {p1_marsh_landings_cells : Nat → Int32} {p1_marsh_landings_count : Int32} {p1_marsh_fogSide : Int32} {p1_snapshot_reeds_states : Nat → Int32} {p1_snapshot_reeds_count : Int32} {p1_snapshot_reeds_broken : Int32} {p1_snapshot_fleet_numbers : Nat → Int32} {p1_snapshot_fleet_cells : Nat → Int32} {p1_snapshot_fleet_fares : Nat → Int32} {p1_snapshot_fleet_count : Int32} {p1_snapshot_fleet_nextNumber : Int32} {p1_snapshot_fleet_total : Int32} {p1_snapshot_fleet_removedFares : Int32} {p1_snapshot_fleet_meetings : Int32} {p1_snapshot_plans_moves : Nat → Int32} {p1_snapshot_plans_lengths : Nat → Int32} {p1_snapshot_landings_cells : Nat → Int32} {p1_snapshot_landings_count : Int32} {p1_snapshot_fogSide : Int32} {p1_history_slots : Nat → mm_MV} {p1_history_free : Int32} {p1_history_count : Int32} {p1_ways_tolls : Nat → Int32} {p1_ways_queue : Nat → Int32} {p1_ways_heap : Nat → Int32} {p1_ways_heapSize : Int32} {p1_ways_found : Nat → Int32} {p1_ways_improved : Nat → Int32} {p1_pairing_costs : Nat → Int32} {p1_pairing_best : Nat → Int32} {p1_reader_kinds : Nat → Int32} {p1_reader_starts : Nat → Int32} {p1_reader_count : Int32} {p1_commandText_signs : Nat → Int32} {p1_commandText_length : Int32} {p1_line_signs : Nat → Int32} {p1_line_length : Int32} {p1_spareMoves : Nat → Int32} {p1_snapshotTaken : Int32} {p1_lastErrorPosition : Int32} {p1_lastFailedCommand : Int32} {p2_thrown : Int32} {p2_changes : Int32} {p2_errorAt : Int32} {p2_failedAt : Int32} {p2_isSaved : Int32} {p2_v : Nat → Int32} {p2_before : Nat → Int32} {p2_saved : Nat → Int32} {p2_past : Nat → Int32} {p2_far : Nat → Int32} {p2_scratch : Nat → Int32} {p2_best : Nat → Int32} {p2_thenX : Int32} {p2_thenY : Int32} {p2_thenMet : Int32} {p2_text : Nat → Int32} {p2_line : Nat → Int32} {p2_isLeft : Nat → Int32} {p2_words : Nat → Int32} {p2_wordAt : Nat → Int32} {p2_textN : Int32} {p2_hereP : Int32} {p2_endP : Int32} {p2_lineN : Int32} {p2_isWrong : Int32} {p2_isDoing : Int32} {p3 : Nat → Int64} {p4 : Nat → UInt64} {x0 x1 x2 x3 x4 x5 : Int32} {X : (Nat → Int32) × Int32 × Int32 × (Nat → Int32) × Int32 × (Nat → Int64)} (hf : g_law46 p1_commandText_signs p1_commandText_length p2_text p2_textN p3 x1 = some X) (hp_p1 : At12 G w b1 p1_marsh_reeds_states p1_marsh_reeds_count p1_marsh_reeds_broken p1_marsh_fleet_numbers p1_marsh_fleet_cells p1_marsh_fleet_fares p1_marsh_fleet_count p1_marsh_fleet_nextNumber p1_marsh_fleet_total p1_marsh_fleet_removedFares p1_marsh_fleet_meetings p1_marsh_plans_moves p1_marsh_plans_lengths p1_marsh_landings_cells p1_marsh_landings_count p1_marsh_fogSide p1_snapshot_reeds_states p1_snapshot_reeds_count p1_snapshot_reeds_broken p1_snapshot_fleet_numbers p1_snapshot_fleet_cells p1_snapshot_fleet_fares p1_snapshot_fleet_count p1_snapshot_fleet_nextNumber p1_snapshot_fleet_total p1_snapshot_fleet_removedFares p1_snapshot_fleet_meetings p1_snapshot_plans_moves p1_snapshot_plans_lengths p1_snapshot_landings_cells p1_snapshot_landings_count p1_snapshot_fogSide p1_history_slots p1_history_free p1_history_count p1_ways_tolls p1_ways_queue p1_ways_heap p1_ways_heapSize p1_ways_found p1_ways_improved p1_pairing_costs p1_pairing_best p1_reader_kinds p1_reader_starts p1_reader_count p1_commandText_signs p1_commandText_length p1_line_signs p1_line_length p1_spareMoves p1_snapshotTaken p1_lastErrorPosition p1_lastFailedCommand) (hp_p2 : At13 G w b2 p2_thrown p2_changes p2_errorAt p2_failedAt p2_isSaved p2_v p2_before p2_saved p2_past p2_far p2_scratch p2_best p2_thenX p2_thenY p2_thenMet p2_text p2_line p2_isLeft p2_words p2_wordAt p2_textN p2_hereP p2_endP p2_lineN p2_isWrong p2_isDoing) (hp_p3 : (a3, (.inl (G.2 3, 1, .inr (.inl p3)) : va_E)) ∈ w) (hp_p4 : (a4, (.inl (G.2 4, 1, .inr (.inr (.inr (.inl p4)))) : va_E)) ∈ w)
    (hsc : ∀ k : Nat, k < 5 → vp_in (x5 + Int32.ofNat k) L ∧ xs (x5 + Int32.ofNat k).toNatClampNeg = mm_x5 x0 x1 x2 x3 x4 k) (hM : mm_S G A s.heap w H locs)
    (hk : ∀ (w : va_W) (H : Heap) (locs : List Loc), mm_S G A s.heap w H locs → At12 G w b1 p1_marsh_reeds_states p1_marsh_reeds_count p1_marsh_reeds_broken p1_marsh_fleet_numbers p1_marsh_fleet_cells p1_marsh_fleet_fares p1_marsh_fleet_count p1_marsh_fleet_nextNumber p1_marsh_fleet_total p1_marsh_fleet_removedFares p1_marsh_fleet_meetings p1_marsh_plans_moves p1_marsh_plans_lengths p1_marsh_landings_cells p1_marsh_landings_count p1_marsh_fogSide p1_snapshot_reeds_states p1_snapshot_reeds_count p1_snapshot_reeds_broken p1_snapshot_fleet_numbers p1_snapshot_fleet_cells p1_snapshot_fleet_fares p1_snapshot_fleet_count p1_snapshot_fleet_nextNumber p1_snapshot_fleet_total p1_snapshot_fleet_removedFares p1_snapshot_fleet_meetings p1_snapshot_plans_moves p1_snapshot_plans_lengths p1_snapshot_landings_cells p1_snapshot_landings_count p1_snapshot_fogSide p1_history_slots p1_history_free p1_history_count p1_ways_tolls p1_ways_queue p1_ways_heap p1_ways_heapSize p1_ways_found p1_ways_improved p1_pairing_costs p1_pairing_best p1_reader_kinds p1_reader_starts p1_reader_count X.1 X.2.1 p1_line_signs p1_line_length p1_spareMoves p1_snapshotTaken p1_lastErrorPosition p1_lastFailedCommand → At13 G w b2 X.2.2.1 p2_changes p2_errorAt p2_failedAt p2_isSaved p2_v p2_before p2_saved p2_past p2_far p2_scratch p2_best p2_thenX p2_thenY p2_thenMet X.2.2.2.1 p2_line p2_isLeft p2_words p2_wordAt X.2.2.2.2.1 p2_hereP p2_endP p2_lineN p2_isWrong p2_isDoing → (a3, (.inl (G.2 3, 1, .inr (.inl X.2.2.2.2.2)) : va_E)) ∈ w → (a4, (.inl (G.2 4, 1, .inr (.inr (.inr (.inl p4)))) : va_E)) ∈ w → ∀ ls, lv_has ls 10 [(0, .ref b), (1, .ref b1), (2, .ref b2), (3, .ref a3), (4, .ref a4), (5, .int x5)] → W p l e room_1 s m args below meth c H locs (cells + 1000) (slots + 10000) Q (F0 m 3345 ls [])) (ls : Array Slot) (hl : lv_has ls 10 [(0, .ref b), (1, .ref b1), (2, .ref b2), (3, .ref a3), (4, .ref a4), (5, .int x5)]) : W p l e room_1 s m args below meth c H locs cells slots Q (F0 m 2765 ls []) := by
  have hx := hC.1.1
  have hb := hC.1.2.1
  rw [g_law46] at hf
  refine lv_aload_n hx hb dL_law_2765 rfl (lv_at hl 1 rfl) ?_
  refine lv_aload_n hx hb dL_law_2766 rfl (lv_at hl 0 rfl) ?_
  refine lv_iload hx hb dL_law_2767 (lv_at hl 5 rfl) ?_
  refine lv_iconst (v := 1) hx hb dL_law_2769 (by decide) ?_
  refine lv_iadd hx hb dL_law_2770 ?_
  refine mm_sld hC hM hsX hbl hbA (hsc 1 (by decide)).1 (hsc 1 (by decide)).2 dL_law_2771 ?_
  refine lv_i2c hx hb dL_law_2772 rfl ?_
  refine lv_aload_n hx hb dL_law_2773 rfl (lv_at hl 3 rfl) ?_
  obtain ⟨q2774, hq2774, hf⟩ := mm_bd hf
  refine mm_SiW (rest := []) hC hM (c_L_append l hfl hq2774 hp_p1 hp_p3 (by omega)) q5_236 q1_0 ykL_append q5_234 q5_235 ⟨rfl, rfl⟩ ⟨Nat.le_of_ble_eq_true rfl, Nat.le_of_ble_eq_true rfl⟩ rfl hl.1 rfl (Nat.le_of_ble_eq_true rfl) dL_law_2774 ⟨by omega, by omega⟩ (fun r w2774 H locs hM hw => ?_)
  obtain ⟨hr, hn_p0, hn_p2, hfr⟩ := hw
  rw [hr]
  have hp_p2 := hp_p2.keep2 hfr (by omega) (by omega)
  have hp_p4 := hfr.keep hp_p4 (by omega) (by omega)
  have hp_p1 := hn_p0
  have hp_p3 := hn_p2
  refine lv_istore (lv' := [(6, .int q2774.1), (0, .ref b), (1, .ref b1), (2, .ref b2), (3, .ref a3), (4, .ref a4), (5, .int x5)]) hx hb dL_law_2777 hl (by decide) rfl (fun ls hl => ?_)
  refine lv_aload_n hx hb dL_law_2779 rfl (lv_at hl 3 rfl) ?_
  refine lv_aload_n hx hb dL_law_2780 rfl (lv_at hl 1 rfl) ?_
  refine lv_iload hx hb dL_law_2781 (lv_at hl 6 rfl) ?_
  refine lv_iconst (v := 1) hx hb dL_law_2783 (by decide) ?_
  refine lv_iadd hx hb dL_law_2784 ?_
  refine mm_sld hC hM hsX hbl hbA (hsc 1 (by decide)).1 (hsc 1 (by decide)).2 dL_law_2785 ?_
  refine lv_i2c hx hb dL_law_2786 rfl ?_
  obtain ⟨q2787, hq2787, hf⟩ := mm_bd hf
  refine mm_Vi (rest := []) hC hM (c_X13_append l hq2787 hp_p2) q8_238 q1_12 ykX13_append q8_235 q8_236 q8_237 hp_p2.1 rfl ⟨rfl, rfl⟩ ⟨Nat.le_of_ble_eq_true rfl, Nat.le_of_ble_eq_true rfl⟩ rfl hl.1 rfl (Nat.le_of_ble_eq_true rfl) dL_law_2787 ⟨by omega, by omega⟩ (fun r w2787 H locs hM hw => ?_)
  obtain ⟨hr, hn_this, hfr⟩ := hw
  rw [hr]
  have hp_p1 := hp_p1.keep hfr (by omega)
  have hp_p3 := hfr.keep hp_p3 (by omega)
  have hp_p4 := hfr.keep hp_p4 (by omega)
  have hp_p2 := hn_this
  refine lv_istore (lv' := [(7, .int q2787.1), (6, .int q2774.1), (0, .ref b), (1, .ref b1), (2, .ref b2), (3, .ref a3), (4, .ref a4), (5, .int x5)]) hx hb dL_law_2790 hl (by decide) rfl (fun ls hl => ?_)
  refine lv_aload_n hx hb dL_law_2792 rfl (lv_at hl 4 rfl) ?_
  obtain ⟨q2793, hq2793, hf⟩ := mm_bd hf
  refine mm_Vi (rest := []) hC hM (c_X13_thrown l hq2793 hp_p2) q7_87 q1_12 ykX13_thrown q7_84 q7_85 q7_86 hp_p2.1 rfl ⟨rfl, rfl⟩ ⟨Nat.le_of_ble_eq_true rfl, Nat.le_of_ble_eq_true rfl⟩ rfl hl.1 rfl (Nat.le_of_ble_eq_true rfl) dL_law_2793 ⟨by omega, by omega⟩ (fun r w2793 H locs hM hw => ?_)
  obtain ⟨hr, hw⟩ := hw
  rw [hr]
  rw [hw] at hM
  refine lv_iload hx hb dL_law_2796 (lv_at hl 1 rfl) ?_
  refine lv_icmp_eq (tgt := 2803) hx hb dL_law_2798 (by decide) (fun hcd => ?_) (fun hcd => ?_)
  · rw [if_pos hcd] at hf
    refine lv_iload hx hb dL_law_2803 (lv_at hl 1 rfl) ?_
    refine lv_if_ne (tgt := 2820) hx hb dL_law_2805 (by decide) (fun hcd => ?_) (fun hcd => ?_)
    · rw [if_neg hcd] at hf
      refine lv_goto (tgt := 3345) hx hb dL_law_2820 (by decide) ?_
      cases hf
      exact W.widen (by omega) (by omega) (hk _ _ _ hM hp_p1 hp_p2 hp_p3 hp_p4 _ (lv_sub hl [2, 3, 4, 5, 6, 7] rfl))
    · rw [if_pos hcd] at hf
      refine lv_aload_n hx hb dL_law_2808 rfl (lv_at hl 5 rfl) ?_
      refine lv_iconst (v := 0) hx hb dL_law_2809 (by decide) ?_
      refine mm_lald0 hC hM hp_p3 dL_law_2810 ?_
      refine lv_iload hx hb dL_law_2811 (lv_at hl 0 rfl) ?_
      refine lv_i2l hx hb dL_law_2813 rfl ?_
      refine W.lcmp hx hb dL_law_2814 ?_
      refine lv_if_eq (tgt := 2820) hx hb dL_law_2815 (by decide) (fun hcd => ?_) (fun hcd => ?_)
      · rw [if_pos hcd] at hf
        refine lv_goto (tgt := 3345) hx hb dL_law_2820 (by decide) ?_
        cases hf
        exact W.widen (by omega) (by omega) (hk _ _ _ hM hp_p1 hp_p2 hp_p3 hp_p4 _ (lv_sub hl [2, 3, 4, 5, 6, 7] rfl))
      · rw [if_neg hcd] at hf
        refine lv_iconst (v := 0) hx hb dL_law_2818 (by decide) ?_
        cases hf
  · rw [if_neg hcd] at hf
    refine lv_iconst (v := 0) hx hb dL_law_2801 (by decide) ?_
    cases hf
def g_law47 (K : Nat) (p1_marsh_reeds_states : Nat → Int32) (p1_marsh_reeds_count : Int32) (p1_marsh_reeds_broken : Int32) (p1_marsh_fleet_numbers : Nat → Int32) (p1_marsh_fleet_cells : Nat → Int32) (p1_marsh_fleet_fares : Nat → Int32) (p1_marsh_fleet_count : Int32) (p1_marsh_fleet_nextNumber : Int32) (p1_marsh_fleet_total : Int32) (p1_marsh_fleet_removedFares : Int32) (p1_marsh_fleet_meetings : Int32) (p1_marsh_plans_moves : Nat → Int32) (p1_marsh_plans_lengths : Nat → Int32) (p1_marsh_landings_cells : Nat → Int32) (p1_marsh_landings_count : Int32) (p1_marsh_fogSide : Int32) (p1_history_slots : Nat → mm_MV) (p1_history_free : Int32) (p1_history_count : Int32) (p1_ways_tolls : Nat → Int32) (p1_ways_queue : Nat → Int32) (p1_ways_found : Nat → Int32) (p1_reader_kinds : Nat → Int32) (p1_reader_starts : Nat → Int32) (p1_commandText_signs : Nat → Int32) (p1_commandText_length : Int32) (p1_lastErrorPosition : Int32) (p1_lastFailedCommand : Int32) (p2_changes : Int32) (p2_errorAt : Int32) (p2_failedAt : Int32) (p2_v : Nat → Int32) (p2_before : Nat → Int32) (p2_past : Nat → Int32) (p2_far : Nat → Int32) (p2_scratch : Nat → Int32) (p2_thenX : Int32) (p2_thenY : Int32) (p2_thenMet : Int32) (p2_text : Nat → Int32) (p2_isLeft : Nat → Int32) (p2_words : Nat → Int32) (p2_wordAt : Nat → Int32) (p2_textN : Int32) (p3 : Nat → Int64) : Option ((Nat → Int32) × Int32 × Int32 × (Nat → Int32) × (Nat → Int32) × (Nat → Int32) × Int32 × Int32 × Int32 × Int32 × Int32 × (Nat → Int32) × (Nat → Int32) × (Nat → Int32) × Int32 × Int32 × (Nat → mm_MV) × Int32 × Int32 × (Nat → Int32) × (Nat → Int32) × (Nat → Int32) × (Nat → Int32) × (Nat → Int32) × Int32 × Int32 × Int32 × Int32 × Int32 × Int32 × Int32 × Int32 × (Nat → Int32) × (Nat → Int32) × (Nat → Int32) × (Nat → Int32) × (Nat → Int32) × Int32 × Int32 × Int32 × (Nat → Int32) × Int32 × Int32 × Int32 × Int32 × Int32 × (Nat → Int64)) := (f_L_run K p1_marsh_reeds_states p1_marsh_reeds_count p1_marsh_reeds_broken p1_marsh_fleet_numbers p1_marsh_fleet_cells p1_marsh_fleet_fares p1_marsh_fleet_count p1_marsh_fleet_nextNumber p1_marsh_fleet_total p1_marsh_fleet_removedFares p1_marsh_fleet_meetings p1_marsh_plans_moves p1_marsh_plans_lengths p1_marsh_landings_cells p1_marsh_landings_count p1_marsh_fogSide p1_history_slots p1_history_free p1_history_count p1_ways_tolls p1_ways_queue p1_ways_found p1_reader_kinds p1_reader_starts p1_commandText_signs p1_commandText_length p1_lastErrorPosition p1_lastFailedCommand p3).bind fun q2825 => (f_X13_run K p2_changes p2_errorAt p2_failedAt p2_v p2_before p2_past p2_far p2_scratch p2_thenX p2_thenY p2_thenMet p2_text p2_isLeft p2_words p2_wordAt p2_textN).bind fun q2831 => (f_X13_thrown q2831.2.1).bind fun q2837 => if q2837 = q2825.1 then if q2825.1 = 0 then if (lg_cmp (q2825.2.2.2.2.2.2.2.2.2.2.2.2.2.2.2.2.2.2.2.2.2.2.2.2.2.2.2.2.2 0) q2831.1.toInt64) = 0 then some (q2825.2.1, q2825.2.2.1, q2825.2.2.2.1, q2825.2.2.2.2.1, q2825.2.2.2.2.2.1, q2825.2.2.2.2.2.2.1, q2825.2.2.2.2.2.2.2.1, q2825.2.2.2.2.2.2.2.2.1, q2825.2.2.2.2.2.2.2.2.2.1, q2825.2.2.2.2.2.2.2.2.2.2.1, q2825.2.2.2.2.2.2.2.2.2.2.2.1, q2825.2.2.2.2.2.2.2.2.2.2.2.2.1, q2825.2.2.2.2.2.2.2.2.2.2.2.2.2.1, q2825.2.2.2.2.2.2.2.2.2.2.2.2.2.2.1, q2825.2.2.2.2.2.2.2.2.2.2.2.2.2.2.2.1, q2825.2.2.2.2.2.2.2.2.2.2.2.2.2.2.2.2.1, q2825.2.2.2.2.2.2.2.2.2.2.2.2.2.2.2.2.2.1, q2825.2.2.2.2.2.2.2.2.2.2.2.2.2.2.2.2.2.2.1, q2825.2.2.2.2.2.2.2.2.2.2.2.2.2.2.2.2.2.2.2.1, q2825.2.2.2.2.2.2.2.2.2.2.2.2.2.2.2.2.2.2.2.2.1, q2825.2.2.2.2.2.2.2.2.2.2.2.2.2.2.2.2.2.2.2.2.2.1, q2825.2.2.2.2.2.2.2.2.2.2.2.2.2.2.2.2.2.2.2.2.2.2.1, q2825.2.2.2.2.2.2.2.2.2.2.2.2.2.2.2.2.2.2.2.2.2.2.2.1, q2825.2.2.2.2.2.2.2.2.2.2.2.2.2.2.2.2.2.2.2.2.2.2.2.2.1, q2825.2.2.2.2.2.2.2.2.2.2.2.2.2.2.2.2.2.2.2.2.2.2.2.2.2.1, q2825.2.2.2.2.2.2.2.2.2.2.2.2.2.2.2.2.2.2.2.2.2.2.2.2.2.2.1, q2825.2.2.2.2.2.2.2.2.2.2.2.2.2.2.2.2.2.2.2.2.2.2.2.2.2.2.2.1, q2825.2.2.2.2.2.2.2.2.2.2.2.2.2.2.2.2.2.2.2.2.2.2.2.2.2.2.2.2.1, q2831.2.1, q2831.2.2.1, q2831.2.2.2.1, q2831.2.2.2.2.1, q2831.2.2.2.2.2.1, q2831.2.2.2.2.2.2.1, q2831.2.2.2.2.2.2.2.1, q2831.2.2.2.2.2.2.2.2.1, q2831.2.2.2.2.2.2.2.2.2.1, q2831.2.2.2.2.2.2.2.2.2.2.1, q2831.2.2.2.2.2.2.2.2.2.2.2.1, q2831.2.2.2.2.2.2.2.2.2.2.2.2.1, q2831.2.2.2.2.2.2.2.2.2.2.2.2.2.1, q2831.2.2.2.2.2.2.2.2.2.2.2.2.2.2.1, q2831.2.2.2.2.2.2.2.2.2.2.2.2.2.2.2.1, q2831.2.2.2.2.2.2.2.2.2.2.2.2.2.2.2.2.1, q2831.2.2.2.2.2.2.2.2.2.2.2.2.2.2.2.2.2.1, q2831.2.2.2.2.2.2.2.2.2.2.2.2.2.2.2.2.2.2, q2825.2.2.2.2.2.2.2.2.2.2.2.2.2.2.2.2.2.2.2.2.2.2.2.2.2.2.2.2.2) else none else some (q2825.2.1, q2825.2.2.1, q2825.2.2.2.1, q2825.2.2.2.2.1, q2825.2.2.2.2.2.1, q2825.2.2.2.2.2.2.1, q2825.2.2.2.2.2.2.2.1, q2825.2.2.2.2.2.2.2.2.1, q2825.2.2.2.2.2.2.2.2.2.1, q2825.2.2.2.2.2.2.2.2.2.2.1, q2825.2.2.2.2.2.2.2.2.2.2.2.1, q2825.2.2.2.2.2.2.2.2.2.2.2.2.1, q2825.2.2.2.2.2.2.2.2.2.2.2.2.2.1, q2825.2.2.2.2.2.2.2.2.2.2.2.2.2.2.1, q2825.2.2.2.2.2.2.2.2.2.2.2.2.2.2.2.1, q2825.2.2.2.2.2.2.2.2.2.2.2.2.2.2.2.2.1, q2825.2.2.2.2.2.2.2.2.2.2.2.2.2.2.2.2.2.1, q2825.2.2.2.2.2.2.2.2.2.2.2.2.2.2.2.2.2.2.1, q2825.2.2.2.2.2.2.2.2.2.2.2.2.2.2.2.2.2.2.2.1, q2825.2.2.2.2.2.2.2.2.2.2.2.2.2.2.2.2.2.2.2.2.1, q2825.2.2.2.2.2.2.2.2.2.2.2.2.2.2.2.2.2.2.2.2.2.1, q2825.2.2.2.2.2.2.2.2.2.2.2.2.2.2.2.2.2.2.2.2.2.2.1, q2825.2.2.2.2.2.2.2.2.2.2.2.2.2.2.2.2.2.2.2.2.2.2.2.1, q2825.2.2.2.2.2.2.2.2.2.2.2.2.2.2.2.2.2.2.2.2.2.2.2.2.1, q2825.2.2.2.2.2.2.2.2.2.2.2.2.2.2.2.2.2.2.2.2.2.2.2.2.2.1, q2825.2.2.2.2.2.2.2.2.2.2.2.2.2.2.2.2.2.2.2.2.2.2.2.2.2.2.1, q2825.2.2.2.2.2.2.2.2.2.2.2.2.2.2.2.2.2.2.2.2.2.2.2.2.2.2.2.1, q2825.2.2.2.2.2.2.2.2.2.2.2.2.2.2.2.2.2.2.2.2.2.2.2.2.2.2.2.2.1, q2831.2.1, q2831.2.2.1, q2831.2.2.2.1, q2831.2.2.2.2.1, q2831.2.2.2.2.2.1, q2831.2.2.2.2.2.2.1, q2831.2.2.2.2.2.2.2.1, q2831.2.2.2.2.2.2.2.2.1, q2831.2.2.2.2.2.2.2.2.2.1, q2831.2.2.2.2.2.2.2.2.2.2.1, q2831.2.2.2.2.2.2.2.2.2.2.2.1, q2831.2.2.2.2.2.2.2.2.2.2.2.2.1, q2831.2.2.2.2.2.2.2.2.2.2.2.2.2.1, q2831.2.2.2.2.2.2.2.2.2.2.2.2.2.2.1, q2831.2.2.2.2.2.2.2.2.2.2.2.2.2.2.2.1, q2831.2.2.2.2.2.2.2.2.2.2.2.2.2.2.2.2.1, q2831.2.2.2.2.2.2.2.2.2.2.2.2.2.2.2.2.2.1, q2831.2.2.2.2.2.2.2.2.2.2.2.2.2.2.2.2.2.2, q2825.2.2.2.2.2.2.2.2.2.2.2.2.2.2.2.2.2.2.2.2.2.2.2.2.2.2.2.2.2) else none
set_option maxHeartbeats 4000000 in
set_option maxRecDepth 100000 in
theorem g_law47_c (hC : mm_C G A p s m c code 10 args "MirrorFerryLaw") (hsX : va_X b L xs s s.heap) (hbl : b < s.heap.size) (hbA : ¬ A b) (hd1 : b1 + 152 ≤ b2) (hd2 : b2 + 13 ≤ a3) (hd3 : a3 + 1 ≤ a4) (hrc : cells + 1000 ≤ room_1.cells) (hrs : slots + 10000 ≤ room_1.slots) (hfl : l.stackTraces = false) {K : Nat} {p1_marsh_reeds_states : Nat → Int32} {p1_marsh_reeds_count : Int32} {p1_marsh_reeds_broken : Int32} {p1_marsh_fleet_numbers : Nat → Int32} {p1_marsh_fleet_cells : Nat → Int32} {p1_marsh_fleet_fares : Nat → Int32} {p1_marsh_fleet_count : Int32} {p1_marsh_fleet_nextNumber : Int32} {p1_marsh_fleet_total : Int32} {p1_marsh_fleet_removedFares : Int32} {p1_marsh_fleet_meetings : Int32} {p1_marsh_plans_moves : Nat → Int32} {p1_marsh_plans_lengths : Nat → Int32} {p1_marsh_landings_cells : Nat → Int32} {p1_marsh_landings_count : Int32} {p1_marsh_fogSide : Int32} {p1_snapshot_reeds_states : Nat → Int32} {p1_snapshot_reeds_count : Int32} {p1_snapshot_reeds_broken : Int32} {p1_snapshot_fleet_numbers : Nat → Int32} {p1_snapshot_fleet_cells : Nat → Int32} {p1_snapshot_fleet_fares : Nat → Int32} {p1_snapshot_fleet_count : Int32} {p1_snapshot_fleet_nextNumber : Int32} {p1_snapshot_fleet_total : Int32} {p1_snapshot_fleet_removedFares : Int32} {p1_snapshot_fleet_meetings : Int32} {p1_snapshot_plans_moves : Nat → Int32} {p1_snapshot_plans_lengths : Nat → Int32} {p1_snapshot_landings_cells : Nat → Int32} {p1_snapshot_landings_count : Int32} {p1_snapshot_fogSide : Int32} {p1_history_slots : Nat → mm_MV} {p1_history_free : Int32} {p1_history_count : Int32} {p1_ways_tolls : Nat → Int32} {p1_ways_queue : Nat → Int32} {p1_ways_heap : Nat → Int32} {p1_ways_heapSize : Int32} {p1_ways_found : Nat → Int32} {p1_ways_improved : Nat → Int32} {p1_pairing_costs : Nat → Int32} {p1_pairing_best : Nat → Int32} {p1_reader_kinds : Nat → Int32} {p1_reader_starts : Nat → Int32} {p1_reader_count : Int32} {p1_commandText_signs : Nat → Int32} {p1_commandText_length : Int32} {p1_line_signs : Nat → Int32} {p1_line_length : Int32} {p1_spareMoves : Nat → Int32} {p1_snapshotTaken : Int32} {p1_lastErrorPosition : Int32} {p1_lastFailedCommand : Int32} {p2_thrown : Int32} {p2_changes : Int32} {p2_errorAt : Int32} {p2_failedAt : Int32} {p2_isSaved : Int32} {p2_v : Nat → Int32} {p2_before : Nat → Int32} {p2_saved : Nat → Int32} {p2_past : Nat → Int32} {p2_far : Nat → Int32} {p2_scratch : Nat → Int32} {p2_best : Nat → Int32} {p2_thenX : Int32} {p2_thenY : Int32} {p2_thenMet : Int32} {p2_text : Nat → Int32} {p2_line : Nat → Int32} {p2_isLeft : Nat → Int32} {p2_words : Nat → Int32} {p2_wordAt : Nat → Int32} {p2_textN : Int32} {p2_hereP : Int32} {p2_endP : Int32} {p2_lineN : Int32} {p2_isWrong : Int32} {p2_isDoing : Int32} {p3 : Nat → Int64} {p4 : Nat → UInt64} {x0 x1 x2 x3 x4 x5 : Int32} {X : (Nat → Int32) × Int32 × Int32 × (Nat → Int32) × (Nat → Int32) × (Nat → Int32) × Int32 × Int32 × Int32 × Int32 × Int32 × (Nat → Int32) × (Nat → Int32) × (Nat → Int32) × Int32 × Int32 × (Nat → mm_MV) × Int32 × Int32 × (Nat → Int32) × (Nat → Int32) × (Nat → Int32) × (Nat → Int32) × (Nat → Int32) × Int32 × Int32 × Int32 × Int32 × Int32 × Int32 × Int32 × Int32 × (Nat → Int32) × (Nat → Int32) × (Nat → Int32) × (Nat → Int32) × (Nat → Int32) × Int32 × Int32 × Int32 × (Nat → Int32) × Int32 × Int32 × Int32 × Int32 × Int32 × (Nat → Int64)} (hf : g_law47 K p1_marsh_reeds_states p1_marsh_reeds_count p1_marsh_reeds_broken p1_marsh_fleet_numbers p1_marsh_fleet_cells p1_marsh_fleet_fares p1_marsh_fleet_count p1_marsh_fleet_nextNumber p1_marsh_fleet_total p1_marsh_fleet_removedFares p1_marsh_fleet_meetings p1_marsh_plans_moves p1_marsh_plans_lengths p1_marsh_landings_cells p1_marsh_landings_count p1_marsh_fogSide p1_history_slots p1_history_free p1_history_count p1_ways_tolls p1_ways_queue p1_ways_found p1_reader_kinds p1_reader_starts p1_commandText_signs p1_commandText_length p1_lastErrorPosition p1_lastFailedCommand p2_changes p2_errorAt p2_failedAt p2_v p2_before p2_past p2_far p2_scratch p2_thenX p2_thenY p2_thenMet p2_text p2_isLeft p2_words p2_wordAt p2_textN p3 = some X) (hp_p1 : At12 G w b1 p1_marsh_reeds_states p1_marsh_reeds_count p1_marsh_reeds_broken p1_marsh_fleet_numbers p1_marsh_fleet_cells p1_marsh_fleet_fares p1_marsh_fleet_count p1_marsh_fleet_nextNumber p1_marsh_fleet_total p1_marsh_fleet_removedFares p1_marsh_fleet_meetings p1_marsh_plans_moves p1_marsh_plans_lengths p1_marsh_landings_cells p1_marsh_landings_count p1_marsh_fogSide p1_snapshot_reeds_states p1_snapshot_reeds_count p1_snapshot_reeds_broken p1_snapshot_fleet_numbers p1_snapshot_fleet_cells p1_snapshot_fleet_fares p1_snapshot_fleet_count p1_snapshot_fleet_nextNumber p1_snapshot_fleet_total p1_snapshot_fleet_removedFares p1_snapshot_fleet_meetings p1_snapshot_plans_moves p1_snapshot_plans_lengths p1_snapshot_landings_cells p1_snapshot_landings_count p1_snapshot_fogSide p1_history_slots p1_history_free p1_history_count p1_ways_tolls p1_ways_queue p1_ways_heap p1_ways_heapSize p1_ways_found p1_ways_improved p1_pairing_costs p1_pairing_best p1_reader_kinds p1_reader_starts p1_reader_count p1_commandText_signs p1_commandText_length p1_line_signs p1_line_length p1_spareMoves p1_snapshotTaken p1_lastErrorPosition p1_lastFailedCommand) (hp_p2 : At13 G w b2 p2_thrown p2_changes p2_errorAt p2_failedAt p2_isSaved p2_v p2_before p2_saved p2_past p2_far p2_scratch p2_best p2_thenX p2_thenY p2_thenMet p2_text p2_line p2_isLeft p2_words p2_wordAt p2_textN p2_hereP p2_endP p2_lineN p2_isWrong p2_isDoing) (hp_p3 : (a3, (.inl (G.2 3, 1, .inr (.inl p3)) : va_E)) ∈ w) (hp_p4 : (a4, (.inl (G.2 4, 1, .inr (.inr (.inr (.inl p4)))) : va_E)) ∈ w)
    (hsc : ∀ k : Nat, k < 5 → vp_in (x5 + Int32.ofNat k) L ∧ xs (x5 + Int32.ofNat k).toNatClampNeg = mm_x5 x0 x1 x2 x3 x4 k) (hM : mm_S G A s.heap w H locs)
    (hk : ∀ (w : va_W) (H : Heap) (locs : List Loc), mm_S G A s.heap w H locs → At12 G w b1 X.1 X.2.1 X.2.2.1 X.2.2.2.1 X.2.2.2.2.1 X.2.2.2.2.2.1 X.2.2.2.2.2.2.1 X.2.2.2.2.2.2.2.1 X.2.2.2.2.2.2.2.2.1 X.2.2.2.2.2.2.2.2.2.1 X.2.2.2.2.2.2.2.2.2.2.1 X.2.2.2.2.2.2.2.2.2.2.2.1 X.2.2.2.2.2.2.2.2.2.2.2.2.1 X.2.2.2.2.2.2.2.2.2.2.2.2.2.1 X.2.2.2.2.2.2.2.2.2.2.2.2.2.2.1 X.2.2.2.2.2.2.2.2.2.2.2.2.2.2.2.1 p1_snapshot_reeds_states p1_snapshot_reeds_count p1_snapshot_reeds_broken p1_snapshot_fleet_numbers p1_snapshot_fleet_cells p1_snapshot_fleet_fares p1_snapshot_fleet_count p1_snapshot_fleet_nextNumber p1_snapshot_fleet_total p1_snapshot_fleet_removedFares p1_snapshot_fleet_meetings p1_snapshot_plans_moves p1_snapshot_plans_lengths p1_snapshot_landings_cells p1_snapshot_landings_count p1_snapshot_fogSide X.2.2.2.2.2.2.2.2.2.2.2.2.2.2.2.2.1 X.2.2.2.2.2.2.2.2.2.2.2.2.2.2.2.2.2.1 X.2.2.2.2.2.2.2.2.2.2.2.2.2.2.2.2.2.2.1 X.2.2.2.2.2.2.2.2.2.2.2.2.2.2.2.2.2.2.2.1 X.2.2.2.2.2.2.2.2.2.2.2.2.2.2.2.2.2.2.2.2.1 p1_ways_heap p1_ways_heapSize X.2.2.2.2.2.2.2.2.2.2.2.2.2.2.2.2.2.2.2.2.2.1 p1_ways_improved p1_pairing_costs p1_pairing_best X.2.2.2.2.2.2.2.2.2.2.2.2.2.2.2.2.2.2.2.2.2.2.1 X.2.2.2.2.2.2.2.2.2.2.2.2.2.2.2.2.2.2.2.2.2.2.2.1 X.2.2.2.2.2.2.2.2.2.2.2.2.2.2.2.2.2.2.2.2.2.2.2.2.1 p1_commandText_signs X.2.2.2.2.2.2.2.2.2.2.2.2.2.2.2.2.2.2.2.2.2.2.2.2.2.1 p1_line_signs p1_line_length p1_spareMoves p1_snapshotTaken X.2.2.2.2.2.2.2.2.2.2.2.2.2.2.2.2.2.2.2.2.2.2.2.2.2.2.1 X.2.2.2.2.2.2.2.2.2.2.2.2.2.2.2.2.2.2.2.2.2.2.2.2.2.2.2.1 → At13 G w b2 X.2.2.2.2.2.2.2.2.2.2.2.2.2.2.2.2.2.2.2.2.2.2.2.2.2.2.2.2.1 X.2.2.2.2.2.2.2.2.2.2.2.2.2.2.2.2.2.2.2.2.2.2.2.2.2.2.2.2.2.1 X.2.2.2.2.2.2.2.2.2.2.2.2.2.2.2.2.2.2.2.2.2.2.2.2.2.2.2.2.2.2.1 X.2.2.2.2.2.2.2.2.2.2.2.2.2.2.2.2.2.2.2.2.2.2.2.2.2.2.2.2.2.2.2.1 p2_isSaved X.2.2.2.2.2.2.2.2.2.2.2.2.2.2.2.2.2.2.2.2.2.2.2.2.2.2.2.2.2.2.2.2.1 X.2.2.2.2.2.2.2.2.2.2.2.2.2.2.2.2.2.2.2.2.2.2.2.2.2.2.2.2.2.2.2.2.2.1 p2_saved X.2.2.2.2.2.2.2.2.2.2.2.2.2.2.2.2.2.2.2.2.2.2.2.2.2.2.2.2.2.2.2.2.2.2.1 X.2.2.2.2.2.2.2.2.2.2.2.2.2.2.2.2.2.2.2.2.2.2.2.2.2.2.2.2.2.2.2.2.2.2.2.1 X.2.2.2.2.2.2.2.2.2.2.2.2.2.2.2.2.2.2.2.2.2.2.2.2.2.2.2.2.2.2.2.2.2.2.2.2.1 p2_best X.2.2.2.2.2.2.2.2.2.2.2.2.2.2.2.2.2.2.2.2.2.2.2.2.2.2.2.2.2.2.2.2.2.2.2.2.2.1 X.2.2.2.2.2.2.2.2.2.2.2.2.2.2.2.2.2.2.2.2.2.2.2.2.2.2.2.2.2.2.2.2.2.2.2.2.2.2.1 X.2.2.2.2.2.2.2.2.2.2.2.2.2.2.2.2.2.2.2.2.2.2.2.2.2.2.2.2.2.2.2.2.2.2.2.2.2.2.2.1 p2_text p2_line X.2.2.2.2.2.2.2.2.2.2.2.2.2.2.2.2.2.2.2.2.2.2.2.2.2.2.2.2.2.2.2.2.2.2.2.2.2.2.2.2.1 p2_words p2_wordAt X.2.2.2.2.2.2.2.2.2.2.2.2.2.2.2.2.2.2.2.2.2.2.2.2.2.2.2.2.2.2.2.2.2.2.2.2.2.2.2.2.2.1 X.2.2.2.2.2.2.2.2.2.2.2.2.2.2.2.2.2.2.2.2.2.2.2.2.2.2.2.2.2.2.2.2.2.2.2.2.2.2.2.2.2.2.1 X.2.2.2.2.2.2.2.2.2.2.2.2.2.2.2.2.2.2.2.2.2.2.2.2.2.2.2.2.2.2.2.2.2.2.2.2.2.2.2.2.2.2.2.1 p2_lineN X.2.2.2.2.2.2.2.2.2.2.2.2.2.2.2.2.2.2.2.2.2.2.2.2.2.2.2.2.2.2.2.2.2.2.2.2.2.2.2.2.2.2.2.2.1 X.2.2.2.2.2.2.2.2.2.2.2.2.2.2.2.2.2.2.2.2.2.2.2.2.2.2.2.2.2.2.2.2.2.2.2.2.2.2.2.2.2.2.2.2.2.1 → (a3, (.inl (G.2 3, 1, .inr (.inl X.2.2.2.2.2.2.2.2.2.2.2.2.2.2.2.2.2.2.2.2.2.2.2.2.2.2.2.2.2.2.2.2.2.2.2.2.2.2.2.2.2.2.2.2.2.2)) : va_E)) ∈ w → (a4, (.inl (G.2 4, 1, .inr (.inr (.inr (.inl p4)))) : va_E)) ∈ w → ∀ ls, lv_has ls 10 [(0, .ref b), (1, .ref b1), (2, .ref b2), (3, .ref a3), (4, .ref a4), (5, .int x5)] → W p l e room_1 s m args below meth c H locs (cells + 1000) (slots + 10000) Q (F0 m 3345 ls [])) (ls : Array Slot) (hl : lv_has ls 10 [(0, .ref b), (1, .ref b1), (2, .ref b2), (3, .ref a3), (4, .ref a4), (5, .int x5)]) : W p l e room_1 s m args below meth c H locs cells slots Q (F0 m 2823 ls []) := by
  have hx := hC.1.1
  have hb := hC.1.2.1
  rw [g_law47] at hf
  refine lv_aload_n hx hb dL_law_2823 rfl (lv_at hl 1 rfl) ?_
  refine lv_aload_n hx hb dL_law_2824 rfl (lv_at hl 3 rfl) ?_
  obtain ⟨q2825, hq2825, hf⟩ := mm_bd hf
  refine mm_SiW (rest := []) hC hM (c_L_run l hfl hq2825 hp_p1 hp_p3 (by omega)) q6_7 q1_0 ykL_run q6_5 q6_6 ⟨rfl, rfl⟩ ⟨Nat.le_of_ble_eq_true rfl, Nat.le_of_ble_eq_true rfl⟩ rfl hl.1 rfl (Nat.le_of_ble_eq_true rfl) dL_law_2825 ⟨by omega, by omega⟩ (fun r w2825 H locs hM hw => ?_)
  obtain ⟨hr, hn_p0, hn_p1, hfr⟩ := hw
  rw [hr]
  have hp_p2 := hp_p2.keep2 hfr (by omega) (by omega)
  have hp_p4 := hfr.keep hp_p4 (by omega) (by omega)
  have hp_p1 := hn_p0
  have hp_p3 := hn_p1
  refine lv_istore (lv' := [(6, .int q2825.1), (0, .ref b), (1, .ref b1), (2, .ref b2), (3, .ref a3), (4, .ref a4), (5, .int x5)]) hx hb dL_law_2828 hl (by decide) rfl (fun ls hl => ?_)
  refine lv_aload_n hx hb dL_law_2830 rfl (lv_at hl 3 rfl) ?_
  obtain ⟨q2831, hq2831, hf⟩ := mm_bd hf
  refine mm_Vi (rest := []) hC hM (c_X13_run l hq2831 hp_p2) q9_2 q1_12 ykX13_run q8_239 q9_0 q9_1 hp_p2.1 rfl ⟨rfl, rfl⟩ ⟨Nat.le_of_ble_eq_true rfl, Nat.le_of_ble_eq_true rfl⟩ rfl hl.1 rfl (Nat.le_of_ble_eq_true rfl) dL_law_2831 ⟨by omega, by omega⟩ (fun r w2831 H locs hM hw => ?_)
  obtain ⟨hr, hn_this, hfr⟩ := hw
  rw [hr]
  have hp_p1 := hp_p1.keep hfr (by omega)
  have hp_p3 := hfr.keep hp_p3 (by omega)
  have hp_p4 := hfr.keep hp_p4 (by omega)
  have hp_p2 := hn_this
  refine lv_istore (lv' := [(7, .int q2831.1), (6, .int q2825.1), (0, .ref b), (1, .ref b1), (2, .ref b2), (3, .ref a3), (4, .ref a4), (5, .int x5)]) hx hb dL_law_2834 hl (by decide) rfl (fun ls hl => ?_)
  refine lv_aload_n hx hb dL_law_2836 rfl (lv_at hl 4 rfl) ?_
  obtain ⟨q2837, hq2837, hf⟩ := mm_bd hf
  refine mm_Vi (rest := []) hC hM (c_X13_thrown l hq2837 hp_p2) q7_87 q1_12 ykX13_thrown q7_84 q7_85 q7_86 hp_p2.1 rfl ⟨rfl, rfl⟩ ⟨Nat.le_of_ble_eq_true rfl, Nat.le_of_ble_eq_true rfl⟩ rfl hl.1 rfl (Nat.le_of_ble_eq_true rfl) dL_law_2837 ⟨by omega, by omega⟩ (fun r w2837 H locs hM hw => ?_)
  obtain ⟨hr, hw⟩ := hw
  rw [hr]
  rw [hw] at hM
  refine lv_iload hx hb dL_law_2840 (lv_at hl 1 rfl) ?_
  refine lv_icmp_eq (tgt := 2847) hx hb dL_law_2842 (by decide) (fun hcd => ?_) (fun hcd => ?_)
  · rw [if_pos hcd] at hf
    refine lv_iload hx hb dL_law_2847 (lv_at hl 1 rfl) ?_
    refine lv_if_ne (tgt := 2864) hx hb dL_law_2849 (by decide) (fun hcd => ?_) (fun hcd => ?_)
    · rw [if_neg hcd] at hf
      refine lv_goto (tgt := 3345) hx hb dL_law_2864 (by decide) ?_
      cases hf
      exact W.widen (by omega) (by omega) (hk _ _ _ hM hp_p1 hp_p2 hp_p3 hp_p4 _ (lv_sub hl [2, 3, 4, 5, 6, 7] rfl))
    · rw [if_pos hcd] at hf
      refine lv_aload_n hx hb dL_law_2852 rfl (lv_at hl 5 rfl) ?_
      refine lv_iconst (v := 0) hx hb dL_law_2853 (by decide) ?_
      refine mm_lald0 hC hM hp_p3 dL_law_2854 ?_
      refine lv_iload hx hb dL_law_2855 (lv_at hl 0 rfl) ?_
      refine lv_i2l hx hb dL_law_2857 rfl ?_
      refine W.lcmp hx hb dL_law_2858 ?_
      refine lv_if_eq (tgt := 2864) hx hb dL_law_2859 (by decide) (fun hcd => ?_) (fun hcd => ?_)
      · rw [if_pos hcd] at hf
        refine lv_goto (tgt := 3345) hx hb dL_law_2864 (by decide) ?_
        cases hf
        exact W.widen (by omega) (by omega) (hk _ _ _ hM hp_p1 hp_p2 hp_p3 hp_p4 _ (lv_sub hl [2, 3, 4, 5, 6, 7] rfl))
      · rw [if_neg hcd] at hf
        refine lv_iconst (v := 0) hx hb dL_law_2862 (by decide) ?_
        cases hf
  · rw [if_neg hcd] at hf
    refine lv_iconst (v := 0) hx hb dL_law_2845 (by decide) ?_
    cases hf
def g_law48 (p1_lastErrorPosition : Int32) (p2_errorAt : Int32) (p3 : Nat → Int64) : Option (Int32 × (Nat → Int64)) := (f_L_errorPosition p1_lastErrorPosition p3).bind fun q2869 => (f_X13_errorPosition p2_errorAt).bind fun q2875 => (f_X13_thrown q2875.2).bind fun q2881 => if q2881 = q2869.1 then if q2869.1 = 0 then if (lg_cmp (q2869.2 0) q2875.1.toInt64) = 0 then some (q2875.2, q2869.2) else none else some (q2875.2, q2869.2) else none
set_option maxHeartbeats 4000000 in
set_option maxRecDepth 100000 in
theorem g_law48_c (hC : mm_C G A p s m c code 10 args "MirrorFerryLaw") (hsX : va_X b L xs s s.heap) (hbl : b < s.heap.size) (hbA : ¬ A b) (hd1 : b1 + 152 ≤ b2) (hd2 : b2 + 13 ≤ a3) (hd3 : a3 + 1 ≤ a4) (hrc : cells + 1000 ≤ room_1.cells) (hrs : slots + 10000 ≤ room_1.slots) (hfl : l.stackTraces = false) {p1_marsh_reeds_states : Nat → Int32} {p1_marsh_reeds_count : Int32} {p1_marsh_reeds_broken : Int32} {p1_marsh_fleet_numbers : Nat → Int32} {p1_marsh_fleet_cells : Nat → Int32} {p1_marsh_fleet_fares : Nat → Int32} {p1_marsh_fleet_count : Int32} {p1_marsh_fleet_nextNumber : Int32} {p1_marsh_fleet_total : Int32} {p1_marsh_fleet_removedFares : Int32} {p1_marsh_fleet_meetings : Int32} {p1_marsh_plans_moves : Nat → Int32} {p1_marsh_plans_lengths : Nat → Int32} {p1_marsh_landings_cells : Nat → Int32} {p1_marsh_landings_count : Int32} {p1_marsh_fogSide : Int32} {p1_snapshot_reeds_states : Nat → Int32} {p1_snapshot_reeds_count : Int32} {p1_snapshot_reeds_broken : Int32} {p1_snapshot_fleet_numbers : Nat → Int32} {p1_snapshot_fleet_cells : Nat → Int32} {p1_snapshot_fleet_fares : Nat → Int32} {p1_snapshot_fleet_count : Int32} {p1_snapshot_fleet_nextNumber : Int32} {p1_snapshot_fleet_total : Int32} {p1_snapshot_fleet_removedFares : Int32} {p1_snapshot_fleet_meetings : Int32} {p1_snapshot_plans_moves : Nat → Int32} {p1_snapshot_plans_lengths : Nat → Int32} {p1_snapshot_landings_cells : Nat → Int32} {p1_snapshot_landings_count : Int32} {p1_snapshot_fogSide : Int32} {p1_history_slots : Nat → mm_MV} {p1_history_free : Int32} {p1_history_count : Int32} {p1_ways_tolls : Nat → Int32} {p1_ways_queue : Nat → Int32} {p1_ways_heap : Nat → Int32} {p1_ways_heapSize : Int32} {p1_ways_found : Nat → Int32} {p1_ways_improved : Nat → Int32} {p1_pairing_costs : Nat → Int32} {p1_pairing_best : Nat → Int32} {p1_reader_kinds : Nat → Int32} {p1_reader_starts : Nat → Int32} {p1_reader_count : Int32} {p1_commandText_signs : Nat → Int32} {p1_commandText_length : Int32} {p1_line_signs : Nat → Int32} {p1_line_length : Int32} {p1_spareMoves : Nat → Int32} {p1_snapshotTaken : Int32} {p1_lastErrorPosition : Int32} {p1_lastFailedCommand : Int32} {p2_thrown : Int32} {p2_changes : Int32} {p2_errorAt : Int32} {p2_failedAt : Int32} {p2_isSaved : Int32} {p2_v : Nat → Int32} {p2_before : Nat → Int32} {p2_saved : Nat → Int32} {p2_past : Nat → Int32} {p2_far : Nat → Int32} {p2_scratch : Nat → Int32} {p2_best : Nat → Int32} {p2_thenX : Int32} {p2_thenY : Int32} {p2_thenMet : Int32} {p2_text : Nat → Int32} {p2_line : Nat → Int32} {p2_isLeft : Nat → Int32} {p2_words : Nat → Int32} {p2_wordAt : Nat → Int32} {p2_textN : Int32} {p2_hereP : Int32} {p2_endP : Int32} {p2_lineN : Int32} {p2_isWrong : Int32} {p2_isDoing : Int32} {p3 : Nat → Int64} {p4 : Nat → UInt64} {x0 x1 x2 x3 x4 x5 : Int32} {X : Int32 × (Nat → Int64)} (hf : g_law48 p1_lastErrorPosition p2_errorAt p3 = some X) (hp_p1 : At12 G w b1 p1_marsh_reeds_states p1_marsh_reeds_count p1_marsh_reeds_broken p1_marsh_fleet_numbers p1_marsh_fleet_cells p1_marsh_fleet_fares p1_marsh_fleet_count p1_marsh_fleet_nextNumber p1_marsh_fleet_total p1_marsh_fleet_removedFares p1_marsh_fleet_meetings p1_marsh_plans_moves p1_marsh_plans_lengths p1_marsh_landings_cells p1_marsh_landings_count p1_marsh_fogSide p1_snapshot_reeds_states p1_snapshot_reeds_count p1_snapshot_reeds_broken p1_snapshot_fleet_numbers p1_snapshot_fleet_cells p1_snapshot_fleet_fares p1_snapshot_fleet_count p1_snapshot_fleet_nextNumber p1_snapshot_fleet_total p1_snapshot_fleet_removedFares p1_snapshot_fleet_meetings p1_snapshot_plans_moves p1_snapshot_plans_lengths p1_snapshot_landings_cells p1_snapshot_landings_count p1_snapshot_fogSide p1_history_slots p1_history_free p1_history_count p1_ways_tolls p1_ways_queue p1_ways_heap p1_ways_heapSize p1_ways_found p1_ways_improved p1_pairing_costs p1_pairing_best p1_reader_kinds p1_reader_starts p1_reader_count p1_commandText_signs p1_commandText_length p1_line_signs p1_line_length p1_spareMoves p1_snapshotTaken p1_lastErrorPosition p1_lastFailedCommand) (hp_p2 : At13 G w b2 p2_thrown p2_changes p2_errorAt p2_failedAt p2_isSaved p2_v p2_before p2_saved p2_past p2_far p2_scratch p2_best p2_thenX p2_thenY p2_thenMet p2_text p2_line p2_isLeft p2_words p2_wordAt p2_textN p2_hereP p2_endP p2_lineN p2_isWrong p2_isDoing) (hp_p3 : (a3, (.inl (G.2 3, 1, .inr (.inl p3)) : va_E)) ∈ w) (hp_p4 : (a4, (.inl (G.2 4, 1, .inr (.inr (.inr (.inl p4)))) : va_E)) ∈ w)
    (hsc : ∀ k : Nat, k < 5 → vp_in (x5 + Int32.ofNat k) L ∧ xs (x5 + Int32.ofNat k).toNatClampNeg = mm_x5 x0 x1 x2 x3 x4 k) (hM : mm_S G A s.heap w H locs)
    (hk : ∀ (w : va_W) (H : Heap) (locs : List Loc), mm_S G A s.heap w H locs → At12 G w b1 p1_marsh_reeds_states p1_marsh_reeds_count p1_marsh_reeds_broken p1_marsh_fleet_numbers p1_marsh_fleet_cells p1_marsh_fleet_fares p1_marsh_fleet_count p1_marsh_fleet_nextNumber p1_marsh_fleet_total p1_marsh_fleet_removedFares p1_marsh_fleet_meetings p1_marsh_plans_moves p1_marsh_plans_lengths p1_marsh_landings_cells p1_marsh_landings_count p1_marsh_fogSide p1_snapshot_reeds_states p1_snapshot_reeds_count p1_snapshot_reeds_broken p1_snapshot_fleet_numbers p1_snapshot_fleet_cells p1_snapshot_fleet_fares p1_snapshot_fleet_count p1_snapshot_fleet_nextNumber p1_snapshot_fleet_total p1_snapshot_fleet_removedFares p1_snapshot_fleet_meetings p1_snapshot_plans_moves p1_snapshot_plans_lengths p1_snapshot_landings_cells p1_snapshot_landings_count p1_snapshot_fogSide p1_history_slots p1_history_free p1_history_count p1_ways_tolls p1_ways_queue p1_ways_heap p1_ways_heapSize p1_ways_found p1_ways_improved p1_pairing_costs p1_pairing_best p1_reader_kinds p1_reader_starts p1_reader_count p1_commandText_signs p1_commandText_length p1_line_signs p1_line_length p1_spareMoves p1_snapshotTaken p1_lastErrorPosition p1_lastFailedCommand → At13 G w b2 X.1 p2_changes p2_errorAt p2_failedAt p2_isSaved p2_v p2_before p2_saved p2_past p2_far p2_scratch p2_best p2_thenX p2_thenY p2_thenMet p2_text p2_line p2_isLeft p2_words p2_wordAt p2_textN p2_hereP p2_endP p2_lineN p2_isWrong p2_isDoing → (a3, (.inl (G.2 3, 1, .inr (.inl X.2)) : va_E)) ∈ w → (a4, (.inl (G.2 4, 1, .inr (.inr (.inr (.inl p4)))) : va_E)) ∈ w → ∀ ls, lv_has ls 10 [(0, .ref b), (1, .ref b1), (2, .ref b2), (3, .ref a3), (4, .ref a4), (5, .int x5)] → W p l e room_1 s m args below meth c H locs (cells + 1000) (slots + 10000) Q (F0 m 3345 ls [])) (ls : Array Slot) (hl : lv_has ls 10 [(0, .ref b), (1, .ref b1), (2, .ref b2), (3, .ref a3), (4, .ref a4), (5, .int x5)]) : W p l e room_1 s m args below meth c H locs cells slots Q (F0 m 2867 ls []) := by
  have hx := hC.1.1
  have hb := hC.1.2.1
  rw [g_law48] at hf
  refine lv_aload_n hx hb dL_law_2867 rfl (lv_at hl 1 rfl) ?_
  refine lv_aload_n hx hb dL_law_2868 rfl (lv_at hl 3 rfl) ?_
  obtain ⟨q2869, hq2869, hf⟩ := mm_bd hf
  refine mm_SiW (rest := []) hC hM (c_L_errorPosition l hfl hq2869 hp_p1 hp_p3 (by omega)) q6_138 q1_0 ykL_errorPosition q6_136 q6_137 ⟨rfl, rfl⟩ ⟨Nat.le_of_ble_eq_true rfl, Nat.le_of_ble_eq_true rfl⟩ rfl hl.1 rfl (Nat.le_of_ble_eq_true rfl) dL_law_2869 ⟨by omega, by omega⟩ (fun r w2869 H locs hM hw => ?_)
  obtain ⟨hr, hn_p1, hfr⟩ := hw
  rw [hr]
  have hp_p1 := hp_p1.keep hfr (by omega)
  have hp_p2 := hp_p2.keep hfr (by omega)
  have hp_p4 := hfr.keep hp_p4 (by omega)
  have hp_p3 := hn_p1
  refine lv_istore (lv' := [(6, .int q2869.1), (0, .ref b), (1, .ref b1), (2, .ref b2), (3, .ref a3), (4, .ref a4), (5, .int x5)]) hx hb dL_law_2872 hl (by decide) rfl (fun ls hl => ?_)
  refine lv_aload_n hx hb dL_law_2874 rfl (lv_at hl 3 rfl) ?_
  obtain ⟨q2875, hq2875, hf⟩ := mm_bd hf
  refine mm_Vi (rest := []) hC hM (c_X13_errorPosition l hq2875 hp_p2) q9_38 q1_12 ykX13_errorPosition q9_35 q9_36 q9_37 hp_p2.1 rfl ⟨rfl, rfl⟩ ⟨Nat.le_of_ble_eq_true rfl, Nat.le_of_ble_eq_true rfl⟩ rfl hl.1 rfl (Nat.le_of_ble_eq_true rfl) dL_law_2875 ⟨by omega, by omega⟩ (fun r w2875 H locs hM hw => ?_)
  obtain ⟨hr, hn_this, hfr⟩ := hw
  rw [hr]
  have hp_p1 := hp_p1.keep hfr (by omega)
  have hp_p3 := hfr.keep hp_p3 (by omega)
  have hp_p4 := hfr.keep hp_p4 (by omega)
  have hp_p2 := hn_this
  refine lv_istore (lv' := [(7, .int q2875.1), (6, .int q2869.1), (0, .ref b), (1, .ref b1), (2, .ref b2), (3, .ref a3), (4, .ref a4), (5, .int x5)]) hx hb dL_law_2878 hl (by decide) rfl (fun ls hl => ?_)
  refine lv_aload_n hx hb dL_law_2880 rfl (lv_at hl 4 rfl) ?_
  obtain ⟨q2881, hq2881, hf⟩ := mm_bd hf
  refine mm_Vi (rest := []) hC hM (c_X13_thrown l hq2881 hp_p2) q7_87 q1_12 ykX13_thrown q7_84 q7_85 q7_86 hp_p2.1 rfl ⟨rfl, rfl⟩ ⟨Nat.le_of_ble_eq_true rfl, Nat.le_of_ble_eq_true rfl⟩ rfl hl.1 rfl (Nat.le_of_ble_eq_true rfl) dL_law_2881 ⟨by omega, by omega⟩ (fun r w2881 H locs hM hw => ?_)
  obtain ⟨hr, hw⟩ := hw
  rw [hr]
  rw [hw] at hM
  refine lv_iload hx hb dL_law_2884 (lv_at hl 1 rfl) ?_
  refine lv_icmp_eq (tgt := 2891) hx hb dL_law_2886 (by decide) (fun hcd => ?_) (fun hcd => ?_)
  · rw [if_pos hcd] at hf
    refine lv_iload hx hb dL_law_2891 (lv_at hl 1 rfl) ?_
    refine lv_if_ne (tgt := 2908) hx hb dL_law_2893 (by decide) (fun hcd => ?_) (fun hcd => ?_)
    · rw [if_neg hcd] at hf
      refine lv_goto (tgt := 3345) hx hb dL_law_2908 (by decide) ?_
      cases hf
      exact W.widen (by omega) (by omega) (hk _ _ _ hM hp_p1 hp_p2 hp_p3 hp_p4 _ (lv_sub hl [2, 3, 4, 5, 6, 7] rfl))
    · rw [if_pos hcd] at hf
      refine lv_aload_n hx hb dL_law_2896 rfl (lv_at hl 5 rfl) ?_
      refine lv_iconst (v := 0) hx hb dL_law_2897 (by decide) ?_
      refine mm_lald0 hC hM hp_p3 dL_law_2898 ?_
      refine lv_iload hx hb dL_law_2899 (lv_at hl 0 rfl) ?_
      refine lv_i2l hx hb dL_law_2901 rfl ?_
      refine W.lcmp hx hb dL_law_2902 ?_
      refine lv_if_eq (tgt := 2908) hx hb dL_law_2903 (by decide) (fun hcd => ?_) (fun hcd => ?_)
      · rw [if_pos hcd] at hf
        refine lv_goto (tgt := 3345) hx hb dL_law_2908 (by decide) ?_
        cases hf
        exact W.widen (by omega) (by omega) (hk _ _ _ hM hp_p1 hp_p2 hp_p3 hp_p4 _ (lv_sub hl [2, 3, 4, 5, 6, 7] rfl))
      · rw [if_neg hcd] at hf
        refine lv_iconst (v := 0) hx hb dL_law_2906 (by decide) ?_
        cases hf
  · rw [if_neg hcd] at hf
    refine lv_iconst (v := 0) hx hb dL_law_2889 (by decide) ?_
    cases hf
def g_law49 (p1_lastFailedCommand : Int32) (p2_failedAt : Int32) (p3 : Nat → Int64) : Option (Int32 × (Nat → Int64)) := (f_L_failedCommand p1_lastFailedCommand p3).bind fun q2913 => (f_X13_failedCommand p2_failedAt).bind fun q2919 => (f_X13_thrown q2919.2).bind fun q2925 => if q2925 = q2913.1 then if q2913.1 = 0 then if (lg_cmp (q2913.2 0) q2919.1.toInt64) = 0 then some (q2919.2, q2913.2) else none else some (q2919.2, q2913.2) else none
set_option maxHeartbeats 4000000 in
set_option maxRecDepth 100000 in
theorem g_law49_c (hC : mm_C G A p s m c code 10 args "MirrorFerryLaw") (hsX : va_X b L xs s s.heap) (hbl : b < s.heap.size) (hbA : ¬ A b) (hd1 : b1 + 152 ≤ b2) (hd2 : b2 + 13 ≤ a3) (hd3 : a3 + 1 ≤ a4) (hrc : cells + 1000 ≤ room_1.cells) (hrs : slots + 10000 ≤ room_1.slots) (hfl : l.stackTraces = false) {p1_marsh_reeds_states : Nat → Int32} {p1_marsh_reeds_count : Int32} {p1_marsh_reeds_broken : Int32} {p1_marsh_fleet_numbers : Nat → Int32} {p1_marsh_fleet_cells : Nat → Int32} {p1_marsh_fleet_fares : Nat → Int32} {p1_marsh_fleet_count : Int32} {p1_marsh_fleet_nextNumber : Int32} {p1_marsh_fleet_total : Int32} {p1_marsh_fleet_removedFares : Int32} {p1_marsh_fleet_meetings : Int32} {p1_marsh_plans_moves : Nat → Int32} {p1_marsh_plans_lengths : Nat → Int32} {p1_marsh_landings_cells : Nat → Int32} {p1_marsh_landings_count : Int32} {p1_marsh_fogSide : Int32} {p1_snapshot_reeds_states : Nat → Int32} {p1_snapshot_reeds_count : Int32} {p1_snapshot_reeds_broken : Int32} {p1_snapshot_fleet_numbers : Nat → Int32} {p1_snapshot_fleet_cells : Nat → Int32} {p1_snapshot_fleet_fares : Nat → Int32} {p1_snapshot_fleet_count : Int32} {p1_snapshot_fleet_nextNumber : Int32} {p1_snapshot_fleet_total : Int32} {p1_snapshot_fleet_removedFares : Int32} {p1_snapshot_fleet_meetings : Int32} {p1_snapshot_plans_moves : Nat → Int32} {p1_snapshot_plans_lengths : Nat → Int32} {p1_snapshot_landings_cells : Nat → Int32} {p1_snapshot_landings_count : Int32} {p1_snapshot_fogSide : Int32} {p1_history_slots : Nat → mm_MV} {p1_history_free : Int32} {p1_history_count : Int32} {p1_ways_tolls : Nat → Int32} {p1_ways_queue : Nat → Int32} {p1_ways_heap : Nat → Int32} {p1_ways_heapSize : Int32} {p1_ways_found : Nat → Int32} {p1_ways_improved : Nat → Int32} {p1_pairing_costs : Nat → Int32} {p1_pairing_best : Nat → Int32} {p1_reader_kinds : Nat → Int32} {p1_reader_starts : Nat → Int32} {p1_reader_count : Int32} {p1_commandText_signs : Nat → Int32} {p1_commandText_length : Int32} {p1_line_signs : Nat → Int32} {p1_line_length : Int32} {p1_spareMoves : Nat → Int32} {p1_snapshotTaken : Int32} {p1_lastErrorPosition : Int32} {p1_lastFailedCommand : Int32} {p2_thrown : Int32} {p2_changes : Int32} {p2_errorAt : Int32} {p2_failedAt : Int32} {p2_isSaved : Int32} {p2_v : Nat → Int32} {p2_before : Nat → Int32} {p2_saved : Nat → Int32} {p2_past : Nat → Int32} {p2_far : Nat → Int32} {p2_scratch : Nat → Int32} {p2_best : Nat → Int32} {p2_thenX : Int32} {p2_thenY : Int32} {p2_thenMet : Int32} {p2_text : Nat → Int32} {p2_line : Nat → Int32} {p2_isLeft : Nat → Int32} {p2_words : Nat → Int32} {p2_wordAt : Nat → Int32} {p2_textN : Int32} {p2_hereP : Int32} {p2_endP : Int32} {p2_lineN : Int32} {p2_isWrong : Int32} {p2_isDoing : Int32} {p3 : Nat → Int64} {p4 : Nat → UInt64} {x0 x1 x2 x3 x4 x5 : Int32} {X : Int32 × (Nat → Int64)} (hf : g_law49 p1_lastFailedCommand p2_failedAt p3 = some X) (hp_p1 : At12 G w b1 p1_marsh_reeds_states p1_marsh_reeds_count p1_marsh_reeds_broken p1_marsh_fleet_numbers p1_marsh_fleet_cells p1_marsh_fleet_fares p1_marsh_fleet_count p1_marsh_fleet_nextNumber p1_marsh_fleet_total p1_marsh_fleet_removedFares p1_marsh_fleet_meetings p1_marsh_plans_moves p1_marsh_plans_lengths p1_marsh_landings_cells p1_marsh_landings_count p1_marsh_fogSide p1_snapshot_reeds_states p1_snapshot_reeds_count p1_snapshot_reeds_broken p1_snapshot_fleet_numbers p1_snapshot_fleet_cells p1_snapshot_fleet_fares p1_snapshot_fleet_count p1_snapshot_fleet_nextNumber p1_snapshot_fleet_total p1_snapshot_fleet_removedFares p1_snapshot_fleet_meetings p1_snapshot_plans_moves p1_snapshot_plans_lengths p1_snapshot_landings_cells p1_snapshot_landings_count p1_snapshot_fogSide p1_history_slots p1_history_free p1_history_count p1_ways_tolls p1_ways_queue p1_ways_heap p1_ways_heapSize p1_ways_found p1_ways_improved p1_pairing_costs p1_pairing_best p1_reader_kinds p1_reader_starts p1_reader_count p1_commandText_signs p1_commandText_length p1_line_signs p1_line_length p1_spareMoves p1_snapshotTaken p1_lastErrorPosition p1_lastFailedCommand) (hp_p2 : At13 G w b2 p2_thrown p2_changes p2_errorAt p2_failedAt p2_isSaved p2_v p2_before p2_saved p2_past p2_far p2_scratch p2_best p2_thenX p2_thenY p2_thenMet p2_text p2_line p2_isLeft p2_words p2_wordAt p2_textN p2_hereP p2_endP p2_lineN p2_isWrong p2_isDoing) (hp_p3 : (a3, (.inl (G.2 3, 1, .inr (.inl p3)) : va_E)) ∈ w) (hp_p4 : (a4, (.inl (G.2 4, 1, .inr (.inr (.inr (.inl p4)))) : va_E)) ∈ w)
    (hsc : ∀ k : Nat, k < 5 → vp_in (x5 + Int32.ofNat k) L ∧ xs (x5 + Int32.ofNat k).toNatClampNeg = mm_x5 x0 x1 x2 x3 x4 k) (hM : mm_S G A s.heap w H locs)
    (hk : ∀ (w : va_W) (H : Heap) (locs : List Loc), mm_S G A s.heap w H locs → At12 G w b1 p1_marsh_reeds_states p1_marsh_reeds_count p1_marsh_reeds_broken p1_marsh_fleet_numbers p1_marsh_fleet_cells p1_marsh_fleet_fares p1_marsh_fleet_count p1_marsh_fleet_nextNumber p1_marsh_fleet_total p1_marsh_fleet_removedFares p1_marsh_fleet_meetings p1_marsh_plans_moves p1_marsh_plans_lengths p1_marsh_landings_cells p1_marsh_landings_count p1_marsh_fogSide p1_snapshot_reeds_states p1_snapshot_reeds_count p1_snapshot_reeds_broken p1_snapshot_fleet_numbers p1_snapshot_fleet_cells p1_snapshot_fleet_fares p1_snapshot_fleet_count p1_snapshot_fleet_nextNumber p1_snapshot_fleet_total p1_snapshot_fleet_removedFares p1_snapshot_fleet_meetings p1_snapshot_plans_moves p1_snapshot_plans_lengths p1_snapshot_landings_cells p1_snapshot_landings_count p1_snapshot_fogSide p1_history_slots p1_history_free p1_history_count p1_ways_tolls p1_ways_queue p1_ways_heap p1_ways_heapSize p1_ways_found p1_ways_improved p1_pairing_costs p1_pairing_best p1_reader_kinds p1_reader_starts p1_reader_count p1_commandText_signs p1_commandText_length p1_line_signs p1_line_length p1_spareMoves p1_snapshotTaken p1_lastErrorPosition p1_lastFailedCommand → At13 G w b2 X.1 p2_changes p2_errorAt p2_failedAt p2_isSaved p2_v p2_before p2_saved p2_past p2_far p2_scratch p2_best p2_thenX p2_thenY p2_thenMet p2_text p2_line p2_isLeft p2_words p2_wordAt p2_textN p2_hereP p2_endP p2_lineN p2_isWrong p2_isDoing → (a3, (.inl (G.2 3, 1, .inr (.inl X.2)) : va_E)) ∈ w → (a4, (.inl (G.2 4, 1, .inr (.inr (.inr (.inl p4)))) : va_E)) ∈ w → ∀ ls, lv_has ls 10 [(0, .ref b), (1, .ref b1), (2, .ref b2), (3, .ref a3), (4, .ref a4), (5, .int x5)] → W p l e room_1 s m args below meth c H locs (cells + 1000) (slots + 10000) Q (F0 m 3345 ls [])) (ls : Array Slot) (hl : lv_has ls 10 [(0, .ref b), (1, .ref b1), (2, .ref b2), (3, .ref a3), (4, .ref a4), (5, .int x5)]) : W p l e room_1 s m args below meth c H locs cells slots Q (F0 m 2911 ls []) := by
  have hx := hC.1.1
  have hb := hC.1.2.1
  rw [g_law49] at hf
  refine lv_aload_n hx hb dL_law_2911 rfl (lv_at hl 1 rfl) ?_
  refine lv_aload_n hx hb dL_law_2912 rfl (lv_at hl 3 rfl) ?_
  obtain ⟨q2913, hq2913, hf⟩ := mm_bd hf
  refine mm_SiW (rest := []) hC hM (c_L_failedCommand l hfl hq2913 hp_p1 hp_p3 (by omega)) q6_145 q1_0 ykL_failedCommand q6_143 q6_144 ⟨rfl, rfl⟩ ⟨Nat.le_of_ble_eq_true rfl, Nat.le_of_ble_eq_true rfl⟩ rfl hl.1 rfl (Nat.le_of_ble_eq_true rfl) dL_law_2913 ⟨by omega, by omega⟩ (fun r w2913 H locs hM hw => ?_)
  obtain ⟨hr, hn_p1, hfr⟩ := hw
  rw [hr]
  have hp_p1 := hp_p1.keep hfr (by omega)
  have hp_p2 := hp_p2.keep hfr (by omega)
  have hp_p4 := hfr.keep hp_p4 (by omega)
  have hp_p3 := hn_p1
  refine lv_istore (lv' := [(6, .int q2913.1), (0, .ref b), (1, .ref b1), (2, .ref b2), (3, .ref a3), (4, .ref a4), (5, .int x5)]) hx hb dL_law_2916 hl (by decide) rfl (fun ls hl => ?_)
  refine lv_aload_n hx hb dL_law_2918 rfl (lv_at hl 3 rfl) ?_
  obtain ⟨q2919, hq2919, hf⟩ := mm_bd hf
  refine mm_Vi (rest := []) hC hM (c_X13_failedCommand l hq2919 hp_p2) q9_42 q1_12 ykX13_failedCommand q9_39 q9_40 q9_41 hp_p2.1 rfl ⟨rfl, rfl⟩ ⟨Nat.le_of_ble_eq_true rfl, Nat.le_of_ble_eq_true rfl⟩ rfl hl.1 rfl (Nat.le_of_ble_eq_true rfl) dL_law_2919 ⟨by omega, by omega⟩ (fun r w2919 H locs hM hw => ?_)
  obtain ⟨hr, hn_this, hfr⟩ := hw
  rw [hr]
  have hp_p1 := hp_p1.keep hfr (by omega)
  have hp_p3 := hfr.keep hp_p3 (by omega)
  have hp_p4 := hfr.keep hp_p4 (by omega)
  have hp_p2 := hn_this
  refine lv_istore (lv' := [(7, .int q2919.1), (6, .int q2913.1), (0, .ref b), (1, .ref b1), (2, .ref b2), (3, .ref a3), (4, .ref a4), (5, .int x5)]) hx hb dL_law_2922 hl (by decide) rfl (fun ls hl => ?_)
  refine lv_aload_n hx hb dL_law_2924 rfl (lv_at hl 4 rfl) ?_
  obtain ⟨q2925, hq2925, hf⟩ := mm_bd hf
  refine mm_Vi (rest := []) hC hM (c_X13_thrown l hq2925 hp_p2) q7_87 q1_12 ykX13_thrown q7_84 q7_85 q7_86 hp_p2.1 rfl ⟨rfl, rfl⟩ ⟨Nat.le_of_ble_eq_true rfl, Nat.le_of_ble_eq_true rfl⟩ rfl hl.1 rfl (Nat.le_of_ble_eq_true rfl) dL_law_2925 ⟨by omega, by omega⟩ (fun r w2925 H locs hM hw => ?_)
  obtain ⟨hr, hw⟩ := hw
  rw [hr]
  rw [hw] at hM
  refine lv_iload hx hb dL_law_2928 (lv_at hl 1 rfl) ?_
  refine lv_icmp_eq (tgt := 2935) hx hb dL_law_2930 (by decide) (fun hcd => ?_) (fun hcd => ?_)
  · rw [if_pos hcd] at hf
    refine lv_iload hx hb dL_law_2935 (lv_at hl 1 rfl) ?_
    refine lv_if_ne (tgt := 2952) hx hb dL_law_2937 (by decide) (fun hcd => ?_) (fun hcd => ?_)
    · rw [if_neg hcd] at hf
      refine lv_goto (tgt := 3345) hx hb dL_law_2952 (by decide) ?_
      cases hf
      exact W.widen (by omega) (by omega) (hk _ _ _ hM hp_p1 hp_p2 hp_p3 hp_p4 _ (lv_sub hl [2, 3, 4, 5, 6, 7] rfl))
    · rw [if_pos hcd] at hf
      refine lv_aload_n hx hb dL_law_2940 rfl (lv_at hl 5 rfl) ?_
      refine lv_iconst (v := 0) hx hb dL_law_2941 (by decide) ?_
      refine mm_lald0 hC hM hp_p3 dL_law_2942 ?_
      refine lv_iload hx hb dL_law_2943 (lv_at hl 0 rfl) ?_
      refine lv_i2l hx hb dL_law_2945 rfl ?_
      refine W.lcmp hx hb dL_law_2946 ?_
      refine lv_if_eq (tgt := 2952) hx hb dL_law_2947 (by decide) (fun hcd => ?_) (fun hcd => ?_)
      · rw [if_pos hcd] at hf
        refine lv_goto (tgt := 3345) hx hb dL_law_2952 (by decide) ?_
        cases hf
        exact W.widen (by omega) (by omega) (hk _ _ _ hM hp_p1 hp_p2 hp_p3 hp_p4 _ (lv_sub hl [2, 3, 4, 5, 6, 7] rfl))
      · rw [if_neg hcd] at hf
        refine lv_iconst (v := 0) hx hb dL_law_2950 (by decide) ?_
        cases hf
  · rw [if_neg hcd] at hf
    refine lv_iconst (v := 0) hx hb dL_law_2933 (by decide) ?_
    cases hf
def g_law50 (K : Nat) (p1_marsh_reeds_states : Nat → Int32) (p1_marsh_fleet_numbers : Nat → Int32) (p1_marsh_fleet_cells : Nat → Int32) (p1_marsh_fleet_count : Int32) (p1_line_signs : Nat → Int32) (p1_line_length : Int32) (p2_v : Nat → Int32) (p2_line : Nat → Int32) (p2_lineN : Int32) (p3 : Nat → Int64) (x1 : Int32) : Option ((Nat → Int32) × Int32 × Int32 × (Nat → Int32) × Int32 × (Nat → Int64)) := (f_L_describeRow K p1_marsh_reeds_states p1_marsh_fleet_numbers p1_marsh_fleet_cells p1_marsh_fleet_count p1_line_signs p1_line_length p3 x1).bind fun q2963 => (f_X13_describeRow K p2_v p2_line p2_lineN x1).bind fun q2975 => (f_X13_thrown q2975.2.1).bind fun q2981 => if q2981 = q2963.1 then if q2963.1 = 0 then if (lg_cmp (q2963.2.2.2 0) q2975.1.toInt64) = 0 then some (q2963.2.1, q2963.2.2.1, q2975.2.1, q2975.2.2.1, q2975.2.2.2, q2963.2.2.2) else none else some (q2963.2.1, q2963.2.2.1, q2975.2.1, q2975.2.2.1, q2975.2.2.2, q2963.2.2.2) else none
set_option maxHeartbeats 4000000 in
set_option maxRecDepth 100000 in
theorem g_law50_c (hC : mm_C G A p s m c code 10 args "MirrorFerryLaw") (hsX : va_X b L xs s s.heap) (hbl : b < s.heap.size) (hbA : ¬ A b) (hd1 : b1 + 152 ≤ b2) (hd2 : b2 + 13 ≤ a3) (hd3 : a3 + 1 ≤ a4) (hrc : cells + 1000 ≤ room_1.cells) (hrs : slots + 10000 ≤ room_1.slots) (hfl : l.stackTraces = false) {K : Nat} {p1_marsh_reeds_states : Nat → Int32} {p1_marsh_reeds_count : Int32} {p1_marsh_reeds_broken : Int32} {p1_marsh_fleet_numbers : Nat → Int32} {p1_marsh_fleet_cells : Nat → Int32} {p1_marsh_fleet_fares : Nat → Int32} {p1_marsh_fleet_count : Int32} {p1_marsh_fleet_nextNumber : Int32} {p1_marsh_fleet_total : Int32} {p1_marsh_fleet_removedFares : Int32} {p1_marsh_fleet_meetings : Int32} {p1_marsh_plans_moves : Nat → Int32} {p1_marsh_plans_lengths : Nat → Int32} {p1_marsh_landings_cells : Nat → Int32} {p1_marsh_landings_count : Int32} {p1_marsh_fogSide : Int32} {p1_snapshot_reeds_states : Nat → Int32} {p1_snapshot_reeds_count : Int32} {p1_snapshot_reeds_broken : Int32} {p1_snapshot_fleet_numbers : Nat → Int32} {p1_snapshot_fleet_cells : Nat → Int32} {p1_snapshot_fleet_fares : Nat → Int32} {p1_snapshot_fleet_count : Int32} {p1_snapshot_fleet_nextNumber : Int32} {p1_snapshot_fleet_total : Int32} {p1_snapshot_fleet_removedFares : Int32} {p1_snapshot_fleet_meetings : Int32} {p1_snapshot_plans_moves : Nat → Int32} {p1_snapshot_plans_lengths : Nat → Int32} {p1_snapshot_landings_cells : Nat → Int32} {p1_snapshot_landings_count : Int32} {p1_snapshot_fogSide : Int32} {p1_history_slots : Nat → mm_MV} {p1_history_free : Int32} {p1_history_count : Int32} {p1_ways_tolls : Nat → Int32} {p1_ways_queue : Nat → Int32} {p1_ways_heap : Nat → Int32} {p1_ways_heapSize : Int32} {p1_ways_found : Nat → Int32} {p1_ways_improved : Nat → Int32} {p1_pairing_costs : Nat → Int32} {p1_pairing_best : Nat → Int32} {p1_reader_kinds : Nat → Int32} {p1_reader_starts : Nat → Int32} {p1_reader_count : Int32} {p1_commandText_signs : Nat → Int32} {p1_commandText_length : Int32} {p1_line_signs : Nat → Int32} {p1_line_length : Int32} {p1_spareMoves : Nat → Int32} {p1_snapshotTaken : Int32} {p1_lastErrorPosition : Int32} {p1_lastFailedCommand : Int32} {p2_thrown : Int32} {p2_changes : Int32} {p2_errorAt : Int32} {p2_failedAt : Int32} {p2_isSaved : Int32} {p2_v : Nat → Int32} {p2_before : Nat → Int32} {p2_saved : Nat → Int32} {p2_past : Nat → Int32} {p2_far : Nat → Int32} {p2_scratch : Nat → Int32} {p2_best : Nat → Int32} {p2_thenX : Int32} {p2_thenY : Int32} {p2_thenMet : Int32} {p2_text : Nat → Int32} {p2_line : Nat → Int32} {p2_isLeft : Nat → Int32} {p2_words : Nat → Int32} {p2_wordAt : Nat → Int32} {p2_textN : Int32} {p2_hereP : Int32} {p2_endP : Int32} {p2_lineN : Int32} {p2_isWrong : Int32} {p2_isDoing : Int32} {p3 : Nat → Int64} {p4 : Nat → UInt64} {x0 x1 x2 x3 x4 x5 : Int32} {X : (Nat → Int32) × Int32 × Int32 × (Nat → Int32) × Int32 × (Nat → Int64)} (hf : g_law50 K p1_marsh_reeds_states p1_marsh_fleet_numbers p1_marsh_fleet_cells p1_marsh_fleet_count p1_line_signs p1_line_length p2_v p2_line p2_lineN p3 x1 = some X) (hp_p1 : At12 G w b1 p1_marsh_reeds_states p1_marsh_reeds_count p1_marsh_reeds_broken p1_marsh_fleet_numbers p1_marsh_fleet_cells p1_marsh_fleet_fares p1_marsh_fleet_count p1_marsh_fleet_nextNumber p1_marsh_fleet_total p1_marsh_fleet_removedFares p1_marsh_fleet_meetings p1_marsh_plans_moves p1_marsh_plans_lengths p1_marsh_landings_cells p1_marsh_landings_count p1_marsh_fogSide p1_snapshot_reeds_states p1_snapshot_reeds_count p1_snapshot_reeds_broken p1_snapshot_fleet_numbers p1_snapshot_fleet_cells p1_snapshot_fleet_fares p1_snapshot_fleet_count p1_snapshot_fleet_nextNumber p1_snapshot_fleet_total p1_snapshot_fleet_removedFares p1_snapshot_fleet_meetings p1_snapshot_plans_moves p1_snapshot_plans_lengths p1_snapshot_landings_cells p1_snapshot_landings_count p1_snapshot_fogSide p1_history_slots p1_history_free p1_history_count p1_ways_tolls p1_ways_queue p1_ways_heap p1_ways_heapSize p1_ways_found p1_ways_improved p1_pairing_costs p1_pairing_best p1_reader_kinds p1_reader_starts p1_reader_count p1_commandText_signs p1_commandText_length p1_line_signs p1_line_length p1_spareMoves p1_snapshotTaken p1_lastErrorPosition p1_lastFailedCommand) (hp_p2 : At13 G w b2 p2_thrown p2_changes p2_errorAt p2_failedAt p2_isSaved p2_v p2_before p2_saved p2_past p2_far p2_scratch p2_best p2_thenX p2_thenY p2_thenMet p2_text p2_line p2_isLeft p2_words p2_wordAt p2_textN p2_hereP p2_endP p2_lineN p2_isWrong p2_isDoing) (hp_p3 : (a3, (.inl (G.2 3, 1, .inr (.inl p3)) : va_E)) ∈ w) (hp_p4 : (a4, (.inl (G.2 4, 1, .inr (.inr (.inr (.inl p4)))) : va_E)) ∈ w)
    (hsc : ∀ k : Nat, k < 5 → vp_in (x5 + Int32.ofNat k) L ∧ xs (x5 + Int32.ofNat k).toNatClampNeg = mm_x5 x0 x1 x2 x3 x4 k) (hM : mm_S G A s.heap w H locs)
    (hk : ∀ (w : va_W) (H : Heap) (locs : List Loc), mm_S G A s.heap w H locs → At12 G w b1 p1_marsh_reeds_states p1_marsh_reeds_count p1_marsh_reeds_broken p1_marsh_fleet_numbers p1_marsh_fleet_cells p1_marsh_fleet_fares p1_marsh_fleet_count p1_marsh_fleet_nextNumber p1_marsh_fleet_total p1_marsh_fleet_removedFares p1_marsh_fleet_meetings p1_marsh_plans_moves p1_marsh_plans_lengths p1_marsh_landings_cells p1_marsh_landings_count p1_marsh_fogSide p1_snapshot_reeds_states p1_snapshot_reeds_count p1_snapshot_reeds_broken p1_snapshot_fleet_numbers p1_snapshot_fleet_cells p1_snapshot_fleet_fares p1_snapshot_fleet_count p1_snapshot_fleet_nextNumber p1_snapshot_fleet_total p1_snapshot_fleet_removedFares p1_snapshot_fleet_meetings p1_snapshot_plans_moves p1_snapshot_plans_lengths p1_snapshot_landings_cells p1_snapshot_landings_count p1_snapshot_fogSide p1_history_slots p1_history_free p1_history_count p1_ways_tolls p1_ways_queue p1_ways_heap p1_ways_heapSize p1_ways_found p1_ways_improved p1_pairing_costs p1_pairing_best p1_reader_kinds p1_reader_starts p1_reader_count p1_commandText_signs p1_commandText_length X.1 X.2.1 p1_spareMoves p1_snapshotTaken p1_lastErrorPosition p1_lastFailedCommand → At13 G w b2 X.2.2.1 p2_changes p2_errorAt p2_failedAt p2_isSaved p2_v p2_before p2_saved p2_past p2_far p2_scratch p2_best p2_thenX p2_thenY p2_thenMet p2_text X.2.2.2.1 p2_isLeft p2_words p2_wordAt p2_textN p2_hereP p2_endP X.2.2.2.2.1 p2_isWrong p2_isDoing → (a3, (.inl (G.2 3, 1, .inr (.inl X.2.2.2.2.2)) : va_E)) ∈ w → (a4, (.inl (G.2 4, 1, .inr (.inr (.inr (.inl p4)))) : va_E)) ∈ w → ∀ ls, lv_has ls 10 [(0, .ref b), (1, .ref b1), (2, .ref b2), (3, .ref a3), (4, .ref a4), (5, .int x5)] → W p l e room_1 s m args below meth c H locs (cells + 1000) (slots + 10000) Q (F0 m 3345 ls [])) (ls : Array Slot) (hl : lv_has ls 10 [(0, .ref b), (1, .ref b1), (2, .ref b2), (3, .ref a3), (4, .ref a4), (5, .int x5)]) : W p l e room_1 s m args below meth c H locs cells slots Q (F0 m 2955 ls []) := by
  have hx := hC.1.1
  have hb := hC.1.2.1
  rw [g_law50] at hf
  refine lv_aload_n hx hb dL_law_2955 rfl (lv_at hl 1 rfl) ?_
  refine lv_aload_n hx hb dL_law_2956 rfl (lv_at hl 0 rfl) ?_
  refine lv_iload hx hb dL_law_2957 (lv_at hl 5 rfl) ?_
  refine lv_iconst (v := 1) hx hb dL_law_2959 (by decide) ?_
  refine lv_iadd hx hb dL_law_2960 ?_
  refine mm_sld hC hM hsX hbl hbA (hsc 1 (by decide)).1 (hsc 1 (by decide)).2 dL_law_2961 ?_
  refine lv_aload_n hx hb dL_law_2962 rfl (lv_at hl 3 rfl) ?_
  obtain ⟨q2963, hq2963, hf⟩ := mm_bd hf
  refine mm_SiW (rest := []) hC hM (c_L_describeRow l hfl hq2963 hp_p1 hp_p3 (by omega)) q6_152 q1_0 ykL_describeRow q6_150 q6_151 ⟨rfl, rfl⟩ ⟨Nat.le_of_ble_eq_true rfl, Nat.le_of_ble_eq_true rfl⟩ rfl hl.1 rfl (Nat.le_of_ble_eq_true rfl) dL_law_2963 ⟨by omega, by omega⟩ (fun r w2963 H locs hM hw => ?_)
  obtain ⟨hr, hn_p0, hn_p2, hfr⟩ := hw
  rw [hr]
  have hp_p2 := hp_p2.keep2 hfr (by omega) (by omega)
  have hp_p4 := hfr.keep hp_p4 (by omega) (by omega)
  have hp_p1 := hn_p0
  have hp_p3 := hn_p2
  refine lv_istore (lv' := [(6, .int q2963.1), (0, .ref b), (1, .ref b1), (2, .ref b2), (3, .ref a3), (4, .ref a4), (5, .int x5)]) hx hb dL_law_2966 hl (by decide) rfl (fun ls hl => ?_)
  refine lv_aload_n hx hb dL_law_2968 rfl (lv_at hl 3 rfl) ?_
  refine lv_aload_n hx hb dL_law_2969 rfl (lv_at hl 1 rfl) ?_
  refine lv_iload hx hb dL_law_2970 (lv_at hl 6 rfl) ?_
  refine lv_iconst (v := 1) hx hb dL_law_2972 (by decide) ?_
  refine lv_iadd hx hb dL_law_2973 ?_
  refine mm_sld hC hM hsX hbl hbA (hsc 1 (by decide)).1 (hsc 1 (by decide)).2 dL_law_2974 ?_
  obtain ⟨q2975, hq2975, hf⟩ := mm_bd hf
  refine mm_Vi (rest := []) hC hM (c_X13_describeRow l hq2975 hp_p2) q9_46 q1_12 ykX13_describeRow q9_43 q9_44 q9_45 hp_p2.1 rfl ⟨rfl, rfl⟩ ⟨Nat.le_of_ble_eq_true rfl, Nat.le_of_ble_eq_true rfl⟩ rfl hl.1 rfl (Nat.le_of_ble_eq_true rfl) dL_law_2975 ⟨by omega, by omega⟩ (fun r w2975 H locs hM hw => ?_)
  obtain ⟨hr, hn_this, hfr⟩ := hw
  rw [hr]
  have hp_p1 := hp_p1.keep hfr (by omega)
  have hp_p3 := hfr.keep hp_p3 (by omega)
  have hp_p4 := hfr.keep hp_p4 (by omega)
  have hp_p2 := hn_this
  refine lv_istore (lv' := [(7, .int q2975.1), (6, .int q2963.1), (0, .ref b), (1, .ref b1), (2, .ref b2), (3, .ref a3), (4, .ref a4), (5, .int x5)]) hx hb dL_law_2978 hl (by decide) rfl (fun ls hl => ?_)
  refine lv_aload_n hx hb dL_law_2980 rfl (lv_at hl 4 rfl) ?_
  obtain ⟨q2981, hq2981, hf⟩ := mm_bd hf
  refine mm_Vi (rest := []) hC hM (c_X13_thrown l hq2981 hp_p2) q7_87 q1_12 ykX13_thrown q7_84 q7_85 q7_86 hp_p2.1 rfl ⟨rfl, rfl⟩ ⟨Nat.le_of_ble_eq_true rfl, Nat.le_of_ble_eq_true rfl⟩ rfl hl.1 rfl (Nat.le_of_ble_eq_true rfl) dL_law_2981 ⟨by omega, by omega⟩ (fun r w2981 H locs hM hw => ?_)
  obtain ⟨hr, hw⟩ := hw
  rw [hr]
  rw [hw] at hM
  refine lv_iload hx hb dL_law_2984 (lv_at hl 1 rfl) ?_
  refine lv_icmp_eq (tgt := 2991) hx hb dL_law_2986 (by decide) (fun hcd => ?_) (fun hcd => ?_)
  · rw [if_pos hcd] at hf
    refine lv_iload hx hb dL_law_2991 (lv_at hl 1 rfl) ?_
    refine lv_if_ne (tgt := 3008) hx hb dL_law_2993 (by decide) (fun hcd => ?_) (fun hcd => ?_)
    · rw [if_neg hcd] at hf
      refine lv_goto (tgt := 3345) hx hb dL_law_3008 (by decide) ?_
      cases hf
      exact W.widen (by omega) (by omega) (hk _ _ _ hM hp_p1 hp_p2 hp_p3 hp_p4 _ (lv_sub hl [2, 3, 4, 5, 6, 7] rfl))
    · rw [if_pos hcd] at hf
      refine lv_aload_n hx hb dL_law_2996 rfl (lv_at hl 5 rfl) ?_
      refine lv_iconst (v := 0) hx hb dL_law_2997 (by decide) ?_
      refine mm_lald0 hC hM hp_p3 dL_law_2998 ?_
      refine lv_iload hx hb dL_law_2999 (lv_at hl 0 rfl) ?_
      refine lv_i2l hx hb dL_law_3001 rfl ?_
      refine W.lcmp hx hb dL_law_3002 ?_
      refine lv_if_eq (tgt := 3008) hx hb dL_law_3003 (by decide) (fun hcd => ?_) (fun hcd => ?_)
      · rw [if_pos hcd] at hf
        refine lv_goto (tgt := 3345) hx hb dL_law_3008 (by decide) ?_
        cases hf
        exact W.widen (by omega) (by omega) (hk _ _ _ hM hp_p1 hp_p2 hp_p3 hp_p4 _ (lv_sub hl [2, 3, 4, 5, 6, 7] rfl))
      · rw [if_neg hcd] at hf
        refine lv_iconst (v := 0) hx hb dL_law_3006 (by decide) ?_
        cases hf
  · rw [if_neg hcd] at hf
    refine lv_iconst (v := 0) hx hb dL_law_2989 (by decide) ?_
    cases hf
def g_law51 (K : Nat) (p1_marsh_plans_moves : Nat → Int32) (p1_marsh_plans_lengths : Nat → Int32) (p1_line_signs : Nat → Int32) (p1_line_length : Int32) (p2_v : Nat → Int32) (p2_line : Nat → Int32) (p2_lineN : Int32) (p3 : Nat → Int64) (x1 : Int32) : Option ((Nat → Int32) × Int32 × Int32 × (Nat → Int32) × Int32 × (Nat → Int64)) := (f_L_describePlan K p1_marsh_plans_moves p1_marsh_plans_lengths p1_line_signs p1_line_length p3 x1).bind fun q3019 => (f_X13_describePlan K p2_v p2_line p2_lineN x1).bind fun q3031 => (f_X13_thrown q3031.2.1).bind fun q3037 => if q3037 = q3019.1 then if q3019.1 = 0 then if (lg_cmp (q3019.2.2.2 0) q3031.1.toInt64) = 0 then some (q3019.2.1, q3019.2.2.1, q3031.2.1, q3031.2.2.1, q3031.2.2.2, q3019.2.2.2) else none else some (q3019.2.1, q3019.2.2.1, q3031.2.1, q3031.2.2.1, q3031.2.2.2, q3019.2.2.2) else none
set_option maxHeartbeats 4000000 in
set_option maxRecDepth 100000 in
theorem g_law51_c (hC : mm_C G A p s m c code 10 args "MirrorFerryLaw") (hsX : va_X b L xs s s.heap) (hbl : b < s.heap.size) (hbA : ¬ A b) (hd1 : b1 + 152 ≤ b2) (hd2 : b2 + 13 ≤ a3) (hd3 : a3 + 1 ≤ a4) (hrc : cells + 1000 ≤ room_1.cells) (hrs : slots + 10000 ≤ room_1.slots) (hfl : l.stackTraces = false) {K : Nat} {p1_marsh_reeds_states : Nat → Int32} {p1_marsh_reeds_count : Int32} {p1_marsh_reeds_broken : Int32} {p1_marsh_fleet_numbers : Nat → Int32} {p1_marsh_fleet_cells : Nat → Int32} {p1_marsh_fleet_fares : Nat → Int32} {p1_marsh_fleet_count : Int32} {p1_marsh_fleet_nextNumber : Int32} {p1_marsh_fleet_total : Int32} {p1_marsh_fleet_removedFares : Int32} {p1_marsh_fleet_meetings : Int32} {p1_marsh_plans_moves : Nat → Int32} {p1_marsh_plans_lengths : Nat → Int32} {p1_marsh_landings_cells : Nat → Int32} {p1_marsh_landings_count : Int32} {p1_marsh_fogSide : Int32} {p1_snapshot_reeds_states : Nat → Int32} {p1_snapshot_reeds_count : Int32} {p1_snapshot_reeds_broken : Int32} {p1_snapshot_fleet_numbers : Nat → Int32} {p1_snapshot_fleet_cells : Nat → Int32} {p1_snapshot_fleet_fares : Nat → Int32} {p1_snapshot_fleet_count : Int32} {p1_snapshot_fleet_nextNumber : Int32} {p1_snapshot_fleet_total : Int32} {p1_snapshot_fleet_removedFares : Int32} {p1_snapshot_fleet_meetings : Int32} {p1_snapshot_plans_moves : Nat → Int32} {p1_snapshot_plans_lengths : Nat → Int32} {p1_snapshot_landings_cells : Nat → Int32} {p1_snapshot_landings_count : Int32} {p1_snapshot_fogSide : Int32} {p1_history_slots : Nat → mm_MV} {p1_history_free : Int32} {p1_history_count : Int32} {p1_ways_tolls : Nat → Int32} {p1_ways_queue : Nat → Int32} {p1_ways_heap : Nat → Int32} {p1_ways_heapSize : Int32} {p1_ways_found : Nat → Int32} {p1_ways_improved : Nat → Int32} {p1_pairing_costs : Nat → Int32} {p1_pairing_best : Nat → Int32} {p1_reader_kinds : Nat → Int32} {p1_reader_starts : Nat → Int32} {p1_reader_count : Int32} {p1_commandText_signs : Nat → Int32} {p1_commandText_length : Int32} {p1_line_signs : Nat → Int32} {p1_line_length : Int32} {p1_spareMoves : Nat → Int32} {p1_snapshotTaken : Int32} {p1_lastErrorPosition : Int32} {p1_lastFailedCommand : Int32} {p2_thrown : Int32} {p2_changes : Int32} {p2_errorAt : Int32} {p2_failedAt : Int32} {p2_isSaved : Int32} {p2_v : Nat → Int32} {p2_before : Nat → Int32} {p2_saved : Nat → Int32} {p2_past : Nat → Int32} {p2_far : Nat → Int32} {p2_scratch : Nat → Int32} {p2_best : Nat → Int32} {p2_thenX : Int32} {p2_thenY : Int32} {p2_thenMet : Int32} {p2_text : Nat → Int32} {p2_line : Nat → Int32} {p2_isLeft : Nat → Int32} {p2_words : Nat → Int32} {p2_wordAt : Nat → Int32} {p2_textN : Int32} {p2_hereP : Int32} {p2_endP : Int32} {p2_lineN : Int32} {p2_isWrong : Int32} {p2_isDoing : Int32} {p3 : Nat → Int64} {p4 : Nat → UInt64} {x0 x1 x2 x3 x4 x5 : Int32} {X : (Nat → Int32) × Int32 × Int32 × (Nat → Int32) × Int32 × (Nat → Int64)} (hf : g_law51 K p1_marsh_plans_moves p1_marsh_plans_lengths p1_line_signs p1_line_length p2_v p2_line p2_lineN p3 x1 = some X) (hp_p1 : At12 G w b1 p1_marsh_reeds_states p1_marsh_reeds_count p1_marsh_reeds_broken p1_marsh_fleet_numbers p1_marsh_fleet_cells p1_marsh_fleet_fares p1_marsh_fleet_count p1_marsh_fleet_nextNumber p1_marsh_fleet_total p1_marsh_fleet_removedFares p1_marsh_fleet_meetings p1_marsh_plans_moves p1_marsh_plans_lengths p1_marsh_landings_cells p1_marsh_landings_count p1_marsh_fogSide p1_snapshot_reeds_states p1_snapshot_reeds_count p1_snapshot_reeds_broken p1_snapshot_fleet_numbers p1_snapshot_fleet_cells p1_snapshot_fleet_fares p1_snapshot_fleet_count p1_snapshot_fleet_nextNumber p1_snapshot_fleet_total p1_snapshot_fleet_removedFares p1_snapshot_fleet_meetings p1_snapshot_plans_moves p1_snapshot_plans_lengths p1_snapshot_landings_cells p1_snapshot_landings_count p1_snapshot_fogSide p1_history_slots p1_history_free p1_history_count p1_ways_tolls p1_ways_queue p1_ways_heap p1_ways_heapSize p1_ways_found p1_ways_improved p1_pairing_costs p1_pairing_best p1_reader_kinds p1_reader_starts p1_reader_count p1_commandText_signs p1_commandText_length p1_line_signs p1_line_length p1_spareMoves p1_snapshotTaken p1_lastErrorPosition p1_lastFailedCommand) (hp_p2 : At13 G w b2 p2_thrown p2_changes p2_errorAt p2_failedAt p2_isSaved p2_v p2_before p2_saved p2_past p2_far p2_scratch p2_best p2_thenX p2_thenY p2_thenMet p2_text p2_line p2_isLeft p2_words p2_wordAt p2_textN p2_hereP p2_endP p2_lineN p2_isWrong p2_isDoing) (hp_p3 : (a3, (.inl (G.2 3, 1, .inr (.inl p3)) : va_E)) ∈ w) (hp_p4 : (a4, (.inl (G.2 4, 1, .inr (.inr (.inr (.inl p4)))) : va_E)) ∈ w)
    (hsc : ∀ k : Nat, k < 5 → vp_in (x5 + Int32.ofNat k) L ∧ xs (x5 + Int32.ofNat k).toNatClampNeg = mm_x5 x0 x1 x2 x3 x4 k) (hM : mm_S G A s.heap w H locs)
    (hk : ∀ (w : va_W) (H : Heap) (locs : List Loc), mm_S G A s.heap w H locs → At12 G w b1 p1_marsh_reeds_states p1_marsh_reeds_count p1_marsh_reeds_broken p1_marsh_fleet_numbers p1_marsh_fleet_cells p1_marsh_fleet_fares p1_marsh_fleet_count p1_marsh_fleet_nextNumber p1_marsh_fleet_total p1_marsh_fleet_removedFares p1_marsh_fleet_meetings p1_marsh_plans_moves p1_marsh_plans_lengths p1_marsh_landings_cells p1_marsh_landings_count p1_marsh_fogSide p1_snapshot_reeds_states p1_snapshot_reeds_count p1_snapshot_reeds_broken p1_snapshot_fleet_numbers p1_snapshot_fleet_cells p1_snapshot_fleet_fares p1_snapshot_fleet_count p1_snapshot_fleet_nextNumber p1_snapshot_fleet_total p1_snapshot_fleet_removedFares p1_snapshot_fleet_meetings p1_snapshot_plans_moves p1_snapshot_plans_lengths p1_snapshot_landings_cells p1_snapshot_landings_count p1_snapshot_fogSide p1_history_slots p1_history_free p1_history_count p1_ways_tolls p1_ways_queue p1_ways_heap p1_ways_heapSize p1_ways_found p1_ways_improved p1_pairing_costs p1_pairing_best p1_reader_kinds p1_reader_starts p1_reader_count p1_commandText_signs p1_commandText_length X.1 X.2.1 p1_spareMoves p1_snapshotTaken p1_lastErrorPosition p1_lastFailedCommand → At13 G w b2 X.2.2.1 p2_changes p2_errorAt p2_failedAt p2_isSaved p2_v p2_before p2_saved p2_past p2_far p2_scratch p2_best p2_thenX p2_thenY p2_thenMet p2_text X.2.2.2.1 p2_isLeft p2_words p2_wordAt p2_textN p2_hereP p2_endP X.2.2.2.2.1 p2_isWrong p2_isDoing → (a3, (.inl (G.2 3, 1, .inr (.inl X.2.2.2.2.2)) : va_E)) ∈ w → (a4, (.inl (G.2 4, 1, .inr (.inr (.inr (.inl p4)))) : va_E)) ∈ w → ∀ ls, lv_has ls 10 [(0, .ref b), (1, .ref b1), (2, .ref b2), (3, .ref a3), (4, .ref a4), (5, .int x5)] → W p l e room_1 s m args below meth c H locs (cells + 1000) (slots + 10000) Q (F0 m 3345 ls [])) (ls : Array Slot) (hl : lv_has ls 10 [(0, .ref b), (1, .ref b1), (2, .ref b2), (3, .ref a3), (4, .ref a4), (5, .int x5)]) : W p l e room_1 s m args below meth c H locs cells slots Q (F0 m 3011 ls []) := by
  have hx := hC.1.1
  have hb := hC.1.2.1
  rw [g_law51] at hf
  refine lv_aload_n hx hb dL_law_3011 rfl (lv_at hl 1 rfl) ?_
  refine lv_aload_n hx hb dL_law_3012 rfl (lv_at hl 0 rfl) ?_
  refine lv_iload hx hb dL_law_3013 (lv_at hl 5 rfl) ?_
  refine lv_iconst (v := 1) hx hb dL_law_3015 (by decide) ?_
  refine lv_iadd hx hb dL_law_3016 ?_
  refine mm_sld hC hM hsX hbl hbA (hsc 1 (by decide)).1 (hsc 1 (by decide)).2 dL_law_3017 ?_
  refine lv_aload_n hx hb dL_law_3018 rfl (lv_at hl 3 rfl) ?_
  obtain ⟨q3019, hq3019, hf⟩ := mm_bd hf
  refine mm_SiW (rest := []) hC hM (c_L_describePlan l hfl hq3019 hp_p1 hp_p3 (by omega)) q6_168 q1_0 ykL_describePlan q6_166 q6_167 ⟨rfl, rfl⟩ ⟨Nat.le_of_ble_eq_true rfl, Nat.le_of_ble_eq_true rfl⟩ rfl hl.1 rfl (Nat.le_of_ble_eq_true rfl) dL_law_3019 ⟨by omega, by omega⟩ (fun r w3019 H locs hM hw => ?_)
  obtain ⟨hr, hn_p0, hn_p2, hfr⟩ := hw
  rw [hr]
  have hp_p2 := hp_p2.keep2 hfr (by omega) (by omega)
  have hp_p4 := hfr.keep hp_p4 (by omega) (by omega)
  have hp_p1 := hn_p0
  have hp_p3 := hn_p2
  refine lv_istore (lv' := [(6, .int q3019.1), (0, .ref b), (1, .ref b1), (2, .ref b2), (3, .ref a3), (4, .ref a4), (5, .int x5)]) hx hb dL_law_3022 hl (by decide) rfl (fun ls hl => ?_)
  refine lv_aload_n hx hb dL_law_3024 rfl (lv_at hl 3 rfl) ?_
  refine lv_aload_n hx hb dL_law_3025 rfl (lv_at hl 1 rfl) ?_
  refine lv_iload hx hb dL_law_3026 (lv_at hl 6 rfl) ?_
  refine lv_iconst (v := 1) hx hb dL_law_3028 (by decide) ?_
  refine lv_iadd hx hb dL_law_3029 ?_
  refine mm_sld hC hM hsX hbl hbA (hsc 1 (by decide)).1 (hsc 1 (by decide)).2 dL_law_3030 ?_
  obtain ⟨q3031, hq3031, hf⟩ := mm_bd hf
  refine mm_Vi (rest := []) hC hM (c_X13_describePlan l hq3031 hp_p2) q9_58 q1_12 ykX13_describePlan q9_55 q9_56 q9_57 hp_p2.1 rfl ⟨rfl, rfl⟩ ⟨Nat.le_of_ble_eq_true rfl, Nat.le_of_ble_eq_true rfl⟩ rfl hl.1 rfl (Nat.le_of_ble_eq_true rfl) dL_law_3031 ⟨by omega, by omega⟩ (fun r w3031 H locs hM hw => ?_)
  obtain ⟨hr, hn_this, hfr⟩ := hw
  rw [hr]
  have hp_p1 := hp_p1.keep hfr (by omega)
  have hp_p3 := hfr.keep hp_p3 (by omega)
  have hp_p4 := hfr.keep hp_p4 (by omega)
  have hp_p2 := hn_this
  refine lv_istore (lv' := [(7, .int q3031.1), (6, .int q3019.1), (0, .ref b), (1, .ref b1), (2, .ref b2), (3, .ref a3), (4, .ref a4), (5, .int x5)]) hx hb dL_law_3034 hl (by decide) rfl (fun ls hl => ?_)
  refine lv_aload_n hx hb dL_law_3036 rfl (lv_at hl 4 rfl) ?_
  obtain ⟨q3037, hq3037, hf⟩ := mm_bd hf
  refine mm_Vi (rest := []) hC hM (c_X13_thrown l hq3037 hp_p2) q7_87 q1_12 ykX13_thrown q7_84 q7_85 q7_86 hp_p2.1 rfl ⟨rfl, rfl⟩ ⟨Nat.le_of_ble_eq_true rfl, Nat.le_of_ble_eq_true rfl⟩ rfl hl.1 rfl (Nat.le_of_ble_eq_true rfl) dL_law_3037 ⟨by omega, by omega⟩ (fun r w3037 H locs hM hw => ?_)
  obtain ⟨hr, hw⟩ := hw
  rw [hr]
  rw [hw] at hM
  refine lv_iload hx hb dL_law_3040 (lv_at hl 1 rfl) ?_
  refine lv_icmp_eq (tgt := 3047) hx hb dL_law_3042 (by decide) (fun hcd => ?_) (fun hcd => ?_)
  · rw [if_pos hcd] at hf
    refine lv_iload hx hb dL_law_3047 (lv_at hl 1 rfl) ?_
    refine lv_if_ne (tgt := 3064) hx hb dL_law_3049 (by decide) (fun hcd => ?_) (fun hcd => ?_)
    · rw [if_neg hcd] at hf
      refine lv_goto (tgt := 3345) hx hb dL_law_3064 (by decide) ?_
      cases hf
      exact W.widen (by omega) (by omega) (hk _ _ _ hM hp_p1 hp_p2 hp_p3 hp_p4 _ (lv_sub hl [2, 3, 4, 5, 6, 7] rfl))
    · rw [if_pos hcd] at hf
      refine lv_aload_n hx hb dL_law_3052 rfl (lv_at hl 5 rfl) ?_
      refine lv_iconst (v := 0) hx hb dL_law_3053 (by decide) ?_
      refine mm_lald0 hC hM hp_p3 dL_law_3054 ?_
      refine lv_iload hx hb dL_law_3055 (lv_at hl 0 rfl) ?_
      refine lv_i2l hx hb dL_law_3057 rfl ?_
      refine W.lcmp hx hb dL_law_3058 ?_
      refine lv_if_eq (tgt := 3064) hx hb dL_law_3059 (by decide) (fun hcd => ?_) (fun hcd => ?_)
      · rw [if_pos hcd] at hf
        refine lv_goto (tgt := 3345) hx hb dL_law_3064 (by decide) ?_
        cases hf
        exact W.widen (by omega) (by omega) (hk _ _ _ hM hp_p1 hp_p2 hp_p3 hp_p4 _ (lv_sub hl [2, 3, 4, 5, 6, 7] rfl))
      · rw [if_neg hcd] at hf
        refine lv_iconst (v := 0) hx hb dL_law_3062 (by decide) ?_
        cases hf
  · rw [if_neg hcd] at hf
    refine lv_iconst (v := 0) hx hb dL_law_3045 (by decide) ?_
    cases hf
def g_law52 (p1_line_signs : Nat → Int32) (p1_line_length : Int32) (p2_line : Nat → Int32) (p2_lineN : Int32) (p3 : Nat → Int64) (x1 : Int32) : Option (Int32 × (Nat → Int64)) := (f_L_lineAt p1_line_signs p1_line_length p3 x1).bind fun q3075 => (f_X13_lineAt p2_line p2_lineN x1).bind fun q3087 => (f_X13_thrown q3087.2).bind fun q3093 => if q3093 = q3075.1 then if q3075.1 = 0 then if (lg_cmp (q3075.2 0) q3087.1.toInt64) = 0 then some (q3087.2, q3075.2) else none else some (q3087.2, q3075.2) else none
set_option maxHeartbeats 4000000 in
set_option maxRecDepth 100000 in
theorem g_law52_c (hC : mm_C G A p s m c code 10 args "MirrorFerryLaw") (hsX : va_X b L xs s s.heap) (hbl : b < s.heap.size) (hbA : ¬ A b) (hd1 : b1 + 152 ≤ b2) (hd2 : b2 + 13 ≤ a3) (hd3 : a3 + 1 ≤ a4) (hrc : cells + 1000 ≤ room_1.cells) (hrs : slots + 10000 ≤ room_1.slots) (hfl : l.stackTraces = false) {p1_marsh_reeds_states : Nat → Int32} {p1_marsh_reeds_count : Int32} {p1_marsh_reeds_broken : Int32} {p1_marsh_fleet_numbers : Nat → Int32} {p1_marsh_fleet_cells : Nat → Int32} {p1_marsh_fleet_fares : Nat → Int32} {p1_marsh_fleet_count : Int32} {p1_marsh_fleet_nextNumber : Int32} {p1_marsh_fleet_total : Int32} {p1_marsh_fleet_removedFares : Int32} {p1_marsh_fleet_meetings : Int32} {p1_marsh_plans_moves : Nat → Int32} {p1_marsh_plans_lengths : Nat → Int32} {p1_marsh_landings_cells : Nat → Int32} {p1_marsh_landings_count : Int32} {p1_marsh_fogSide : Int32} {p1_snapshot_reeds_states : Nat → Int32} {p1_snapshot_reeds_count : Int32} {p1_snapshot_reeds_broken : Int32} {p1_snapshot_fleet_numbers : Nat → Int32} {p1_snapshot_fleet_cells : Nat → Int32} {p1_snapshot_fleet_fares : Nat → Int32} {p1_snapshot_fleet_count : Int32} {p1_snapshot_fleet_nextNumber : Int32} {p1_snapshot_fleet_total : Int32} {p1_snapshot_fleet_removedFares : Int32} {p1_snapshot_fleet_meetings : Int32} {p1_snapshot_plans_moves : Nat → Int32} {p1_snapshot_plans_lengths : Nat → Int32} {p1_snapshot_landings_cells : Nat → Int32} {p1_snapshot_landings_count : Int32} {p1_snapshot_fogSide : Int32} {p1_history_slots : Nat → mm_MV} {p1_history_free : Int32} {p1_history_count : Int32} {p1_ways_tolls : Nat → Int32} {p1_ways_queue : Nat → Int32} {p1_ways_heap : Nat → Int32} {p1_ways_heapSize : Int32} {p1_ways_found : Nat → Int32} {p1_ways_improved : Nat → Int32} {p1_pairing_costs : Nat → Int32} {p1_pairing_best : Nat → Int32} {p1_reader_kinds : Nat → Int32} {p1_reader_starts : Nat → Int32} {p1_reader_count : Int32} {p1_commandText_signs : Nat → Int32} {p1_commandText_length : Int32} {p1_line_signs : Nat → Int32} {p1_line_length : Int32} {p1_spareMoves : Nat → Int32} {p1_snapshotTaken : Int32} {p1_lastErrorPosition : Int32} {p1_lastFailedCommand : Int32} {p2_thrown : Int32} {p2_changes : Int32} {p2_errorAt : Int32} {p2_failedAt : Int32} {p2_isSaved : Int32} {p2_v : Nat → Int32} {p2_before : Nat → Int32} {p2_saved : Nat → Int32} {p2_past : Nat → Int32} {p2_far : Nat → Int32} {p2_scratch : Nat → Int32} {p2_best : Nat → Int32} {p2_thenX : Int32} {p2_thenY : Int32} {p2_thenMet : Int32} {p2_text : Nat → Int32} {p2_line : Nat → Int32} {p2_isLeft : Nat → Int32} {p2_words : Nat → Int32} {p2_wordAt : Nat → Int32} {p2_textN : Int32} {p2_hereP : Int32} {p2_endP : Int32} {p2_lineN : Int32} {p2_isWrong : Int32} {p2_isDoing : Int32} {p3 : Nat → Int64} {p4 : Nat → UInt64} {x0 x1 x2 x3 x4 x5 : Int32} {X : Int32 × (Nat → Int64)} (hf : g_law52 p1_line_signs p1_line_length p2_line p2_lineN p3 x1 = some X) (hp_p1 : At12 G w b1 p1_marsh_reeds_states p1_marsh_reeds_count p1_marsh_reeds_broken p1_marsh_fleet_numbers p1_marsh_fleet_cells p1_marsh_fleet_fares p1_marsh_fleet_count p1_marsh_fleet_nextNumber p1_marsh_fleet_total p1_marsh_fleet_removedFares p1_marsh_fleet_meetings p1_marsh_plans_moves p1_marsh_plans_lengths p1_marsh_landings_cells p1_marsh_landings_count p1_marsh_fogSide p1_snapshot_reeds_states p1_snapshot_reeds_count p1_snapshot_reeds_broken p1_snapshot_fleet_numbers p1_snapshot_fleet_cells p1_snapshot_fleet_fares p1_snapshot_fleet_count p1_snapshot_fleet_nextNumber p1_snapshot_fleet_total p1_snapshot_fleet_removedFares p1_snapshot_fleet_meetings p1_snapshot_plans_moves p1_snapshot_plans_lengths p1_snapshot_landings_cells p1_snapshot_landings_count p1_snapshot_fogSide p1_history_slots p1_history_free p1_history_count p1_ways_tolls p1_ways_queue p1_ways_heap p1_ways_heapSize p1_ways_found p1_ways_improved p1_pairing_costs p1_pairing_best p1_reader_kinds p1_reader_starts p1_reader_count p1_commandText_signs p1_commandText_length p1_line_signs p1_line_length p1_spareMoves p1_snapshotTaken p1_lastErrorPosition p1_lastFailedCommand) (hp_p2 : At13 G w b2 p2_thrown p2_changes p2_errorAt p2_failedAt p2_isSaved p2_v p2_before p2_saved p2_past p2_far p2_scratch p2_best p2_thenX p2_thenY p2_thenMet p2_text p2_line p2_isLeft p2_words p2_wordAt p2_textN p2_hereP p2_endP p2_lineN p2_isWrong p2_isDoing) (hp_p3 : (a3, (.inl (G.2 3, 1, .inr (.inl p3)) : va_E)) ∈ w) (hp_p4 : (a4, (.inl (G.2 4, 1, .inr (.inr (.inr (.inl p4)))) : va_E)) ∈ w)
    (hsc : ∀ k : Nat, k < 5 → vp_in (x5 + Int32.ofNat k) L ∧ xs (x5 + Int32.ofNat k).toNatClampNeg = mm_x5 x0 x1 x2 x3 x4 k) (hM : mm_S G A s.heap w H locs)
    (hk : ∀ (w : va_W) (H : Heap) (locs : List Loc), mm_S G A s.heap w H locs → At12 G w b1 p1_marsh_reeds_states p1_marsh_reeds_count p1_marsh_reeds_broken p1_marsh_fleet_numbers p1_marsh_fleet_cells p1_marsh_fleet_fares p1_marsh_fleet_count p1_marsh_fleet_nextNumber p1_marsh_fleet_total p1_marsh_fleet_removedFares p1_marsh_fleet_meetings p1_marsh_plans_moves p1_marsh_plans_lengths p1_marsh_landings_cells p1_marsh_landings_count p1_marsh_fogSide p1_snapshot_reeds_states p1_snapshot_reeds_count p1_snapshot_reeds_broken p1_snapshot_fleet_numbers p1_snapshot_fleet_cells p1_snapshot_fleet_fares p1_snapshot_fleet_count p1_snapshot_fleet_nextNumber p1_snapshot_fleet_total p1_snapshot_fleet_removedFares p1_snapshot_fleet_meetings p1_snapshot_plans_moves p1_snapshot_plans_lengths p1_snapshot_landings_cells p1_snapshot_landings_count p1_snapshot_fogSide p1_history_slots p1_history_free p1_history_count p1_ways_tolls p1_ways_queue p1_ways_heap p1_ways_heapSize p1_ways_found p1_ways_improved p1_pairing_costs p1_pairing_best p1_reader_kinds p1_reader_starts p1_reader_count p1_commandText_signs p1_commandText_length p1_line_signs p1_line_length p1_spareMoves p1_snapshotTaken p1_lastErrorPosition p1_lastFailedCommand → At13 G w b2 X.1 p2_changes p2_errorAt p2_failedAt p2_isSaved p2_v p2_before p2_saved p2_past p2_far p2_scratch p2_best p2_thenX p2_thenY p2_thenMet p2_text p2_line p2_isLeft p2_words p2_wordAt p2_textN p2_hereP p2_endP p2_lineN p2_isWrong p2_isDoing → (a3, (.inl (G.2 3, 1, .inr (.inl X.2)) : va_E)) ∈ w → (a4, (.inl (G.2 4, 1, .inr (.inr (.inr (.inl p4)))) : va_E)) ∈ w → ∀ ls, lv_has ls 10 [(0, .ref b), (1, .ref b1), (2, .ref b2), (3, .ref a3), (4, .ref a4), (5, .int x5)] → W p l e room_1 s m args below meth c H locs (cells + 1000) (slots + 10000) Q (F0 m 3345 ls [])) (ls : Array Slot) (hl : lv_has ls 10 [(0, .ref b), (1, .ref b1), (2, .ref b2), (3, .ref a3), (4, .ref a4), (5, .int x5)]) : W p l e room_1 s m args below meth c H locs cells slots Q (F0 m 3067 ls []) := by
  have hx := hC.1.1
  have hb := hC.1.2.1
  rw [g_law52] at hf
  refine lv_aload_n hx hb dL_law_3067 rfl (lv_at hl 1 rfl) ?_
  refine lv_aload_n hx hb dL_law_3068 rfl (lv_at hl 0 rfl) ?_
  refine lv_iload hx hb dL_law_3069 (lv_at hl 5 rfl) ?_
  refine lv_iconst (v := 1) hx hb dL_law_3071 (by decide) ?_
  refine lv_iadd hx hb dL_law_3072 ?_
  refine mm_sld hC hM hsX hbl hbA (hsc 1 (by decide)).1 (hsc 1 (by decide)).2 dL_law_3073 ?_
  refine lv_aload_n hx hb dL_law_3074 rfl (lv_at hl 3 rfl) ?_
  obtain ⟨q3075, hq3075, hf⟩ := mm_bd hf
  refine mm_SiW (rest := []) hC hM (c_L_lineAt l hfl hq3075 hp_p1 hp_p3 (by omega)) q6_186 q1_0 ykL_lineAt q6_184 q6_185 ⟨rfl, rfl⟩ ⟨Nat.le_of_ble_eq_true rfl, Nat.le_of_ble_eq_true rfl⟩ rfl hl.1 rfl (Nat.le_of_ble_eq_true rfl) dL_law_3075 ⟨by omega, by omega⟩ (fun r w3075 H locs hM hw => ?_)
  obtain ⟨hr, hn_p2, hfr⟩ := hw
  rw [hr]
  have hp_p1 := hp_p1.keep hfr (by omega)
  have hp_p2 := hp_p2.keep hfr (by omega)
  have hp_p4 := hfr.keep hp_p4 (by omega)
  have hp_p3 := hn_p2
  refine lv_istore (lv' := [(6, .int q3075.1), (0, .ref b), (1, .ref b1), (2, .ref b2), (3, .ref a3), (4, .ref a4), (5, .int x5)]) hx hb dL_law_3078 hl (by decide) rfl (fun ls hl => ?_)
  refine lv_aload_n hx hb dL_law_3080 rfl (lv_at hl 3 rfl) ?_
  refine lv_aload_n hx hb dL_law_3081 rfl (lv_at hl 1 rfl) ?_
  refine lv_iload hx hb dL_law_3082 (lv_at hl 6 rfl) ?_
  refine lv_iconst (v := 1) hx hb dL_law_3084 (by decide) ?_
  refine lv_iadd hx hb dL_law_3085 ?_
  refine mm_sld hC hM hsX hbl hbA (hsc 1 (by decide)).1 (hsc 1 (by decide)).2 dL_law_3086 ?_
  obtain ⟨q3087, hq3087, hf⟩ := mm_bd hf
  refine mm_Vi (rest := []) hC hM (c_X13_lineAt l hq3087 hp_p2) q9_62 q1_12 ykX13_lineAt q9_59 q9_60 q9_61 hp_p2.1 rfl ⟨rfl, rfl⟩ ⟨Nat.le_of_ble_eq_true rfl, Nat.le_of_ble_eq_true rfl⟩ rfl hl.1 rfl (Nat.le_of_ble_eq_true rfl) dL_law_3087 ⟨by omega, by omega⟩ (fun r w3087 H locs hM hw => ?_)
  obtain ⟨hr, hn_this, hfr⟩ := hw
  rw [hr]
  have hp_p1 := hp_p1.keep hfr (by omega)
  have hp_p3 := hfr.keep hp_p3 (by omega)
  have hp_p4 := hfr.keep hp_p4 (by omega)
  have hp_p2 := hn_this
  refine lv_istore (lv' := [(7, .int q3087.1), (6, .int q3075.1), (0, .ref b), (1, .ref b1), (2, .ref b2), (3, .ref a3), (4, .ref a4), (5, .int x5)]) hx hb dL_law_3090 hl (by decide) rfl (fun ls hl => ?_)
  refine lv_aload_n hx hb dL_law_3092 rfl (lv_at hl 4 rfl) ?_
  obtain ⟨q3093, hq3093, hf⟩ := mm_bd hf
  refine mm_Vi (rest := []) hC hM (c_X13_thrown l hq3093 hp_p2) q7_87 q1_12 ykX13_thrown q7_84 q7_85 q7_86 hp_p2.1 rfl ⟨rfl, rfl⟩ ⟨Nat.le_of_ble_eq_true rfl, Nat.le_of_ble_eq_true rfl⟩ rfl hl.1 rfl (Nat.le_of_ble_eq_true rfl) dL_law_3093 ⟨by omega, by omega⟩ (fun r w3093 H locs hM hw => ?_)
  obtain ⟨hr, hw⟩ := hw
  rw [hr]
  rw [hw] at hM
  refine lv_iload hx hb dL_law_3096 (lv_at hl 1 rfl) ?_
  refine lv_icmp_eq (tgt := 3103) hx hb dL_law_3098 (by decide) (fun hcd => ?_) (fun hcd => ?_)
  · rw [if_pos hcd] at hf
    refine lv_iload hx hb dL_law_3103 (lv_at hl 1 rfl) ?_
    refine lv_if_ne (tgt := 3120) hx hb dL_law_3105 (by decide) (fun hcd => ?_) (fun hcd => ?_)
    · rw [if_neg hcd] at hf
      refine lv_goto (tgt := 3345) hx hb dL_law_3120 (by decide) ?_
      cases hf
      exact W.widen (by omega) (by omega) (hk _ _ _ hM hp_p1 hp_p2 hp_p3 hp_p4 _ (lv_sub hl [2, 3, 4, 5, 6, 7] rfl))
    · rw [if_pos hcd] at hf
      refine lv_aload_n hx hb dL_law_3108 rfl (lv_at hl 5 rfl) ?_
      refine lv_iconst (v := 0) hx hb dL_law_3109 (by decide) ?_
      refine mm_lald0 hC hM hp_p3 dL_law_3110 ?_
      refine lv_iload hx hb dL_law_3111 (lv_at hl 0 rfl) ?_
      refine lv_i2l hx hb dL_law_3113 rfl ?_
      refine W.lcmp hx hb dL_law_3114 ?_
      refine lv_if_eq (tgt := 3120) hx hb dL_law_3115 (by decide) (fun hcd => ?_) (fun hcd => ?_)
      · rw [if_pos hcd] at hf
        refine lv_goto (tgt := 3345) hx hb dL_law_3120 (by decide) ?_
        cases hf
        exact W.widen (by omega) (by omega) (hk _ _ _ hM hp_p1 hp_p2 hp_p3 hp_p4 _ (lv_sub hl [2, 3, 4, 5, 6, 7] rfl))
      · rw [if_neg hcd] at hf
        refine lv_iconst (v := 0) hx hb dL_law_3118 (by decide) ?_
        cases hf
  · rw [if_neg hcd] at hf
    refine lv_iconst (v := 0) hx hb dL_law_3101 (by decide) ?_
    cases hf
def g_law53 (K : Nat) (p1_marsh_fleet_fares : Nat → Int32) (p1_marsh_fleet_count : Int32) (p2_v : Nat → Int32) (p4 : Nat → UInt64) : Option (Int32 × (Nat → UInt64)) := (f_L_meanFares K p1_marsh_fleet_fares p1_marsh_fleet_count p4).bind fun q3126 => (f_X13_meanFares K p2_v).bind fun q3132 => (f_X13_thrown q3132.2).bind fun q3138 => if q3138 = q3126.1 then if q3126.1 = 0 then if (Op.cmpValue (FP.dcmp (q3126.2 0) q3132.1) .l) = 0 then some (q3132.2, q3126.2) else if (Op.cmpValue (FP.dcmp (q3126.2 0) (q3126.2 0)) .l) = 0 then none else if (Op.cmpValue (FP.dcmp q3132.1 q3132.1) .l) = 0 then none else some (q3132.2, q3126.2) else some (q3132.2, q3126.2) else none
set_option maxHeartbeats 4000000 in
set_option maxRecDepth 100000 in
theorem g_law53_c (hC : mm_C G A p s m c code 10 args "MirrorFerryLaw") (hsX : va_X b L xs s s.heap) (hbl : b < s.heap.size) (hbA : ¬ A b) (hd1 : b1 + 152 ≤ b2) (hd2 : b2 + 13 ≤ a3) (hd3 : a3 + 1 ≤ a4) (hrc : cells + 1000 ≤ room_1.cells) (hrs : slots + 10000 ≤ room_1.slots) (hfl : l.stackTraces = false) {K : Nat} {p1_marsh_reeds_states : Nat → Int32} {p1_marsh_reeds_count : Int32} {p1_marsh_reeds_broken : Int32} {p1_marsh_fleet_numbers : Nat → Int32} {p1_marsh_fleet_cells : Nat → Int32} {p1_marsh_fleet_fares : Nat → Int32} {p1_marsh_fleet_count : Int32} {p1_marsh_fleet_nextNumber : Int32} {p1_marsh_fleet_total : Int32} {p1_marsh_fleet_removedFares : Int32} {p1_marsh_fleet_meetings : Int32} {p1_marsh_plans_moves : Nat → Int32} {p1_marsh_plans_lengths : Nat → Int32} {p1_marsh_landings_cells : Nat → Int32} {p1_marsh_landings_count : Int32} {p1_marsh_fogSide : Int32} {p1_snapshot_reeds_states : Nat → Int32} {p1_snapshot_reeds_count : Int32} {p1_snapshot_reeds_broken : Int32} {p1_snapshot_fleet_numbers : Nat → Int32} {p1_snapshot_fleet_cells : Nat → Int32} {p1_snapshot_fleet_fares : Nat → Int32} {p1_snapshot_fleet_count : Int32} {p1_snapshot_fleet_nextNumber : Int32} {p1_snapshot_fleet_total : Int32} {p1_snapshot_fleet_removedFares : Int32} {p1_snapshot_fleet_meetings : Int32} {p1_snapshot_plans_moves : Nat → Int32} {p1_snapshot_plans_lengths : Nat → Int32} {p1_snapshot_landings_cells : Nat → Int32} {p1_snapshot_landings_count : Int32} {p1_snapshot_fogSide : Int32} {p1_history_slots : Nat → mm_MV} {p1_history_free : Int32} {p1_history_count : Int32} {p1_ways_tolls : Nat → Int32} {p1_ways_queue : Nat → Int32} {p1_ways_heap : Nat → Int32} {p1_ways_heapSize : Int32} {p1_ways_found : Nat → Int32} {p1_ways_improved : Nat → Int32} {p1_pairing_costs : Nat → Int32} {p1_pairing_best : Nat → Int32} {p1_reader_kinds : Nat → Int32} {p1_reader_starts : Nat → Int32} {p1_reader_count : Int32} {p1_commandText_signs : Nat → Int32} {p1_commandText_length : Int32} {p1_line_signs : Nat → Int32} {p1_line_length : Int32} {p1_spareMoves : Nat → Int32} {p1_snapshotTaken : Int32} {p1_lastErrorPosition : Int32} {p1_lastFailedCommand : Int32} {p2_thrown : Int32} {p2_changes : Int32} {p2_errorAt : Int32} {p2_failedAt : Int32} {p2_isSaved : Int32} {p2_v : Nat → Int32} {p2_before : Nat → Int32} {p2_saved : Nat → Int32} {p2_past : Nat → Int32} {p2_far : Nat → Int32} {p2_scratch : Nat → Int32} {p2_best : Nat → Int32} {p2_thenX : Int32} {p2_thenY : Int32} {p2_thenMet : Int32} {p2_text : Nat → Int32} {p2_line : Nat → Int32} {p2_isLeft : Nat → Int32} {p2_words : Nat → Int32} {p2_wordAt : Nat → Int32} {p2_textN : Int32} {p2_hereP : Int32} {p2_endP : Int32} {p2_lineN : Int32} {p2_isWrong : Int32} {p2_isDoing : Int32} {p3 : Nat → Int64} {p4 : Nat → UInt64} {x0 x1 x2 x3 x4 x5 : Int32} {X : Int32 × (Nat → UInt64)} (hf : g_law53 K p1_marsh_fleet_fares p1_marsh_fleet_count p2_v p4 = some X) (hp_p1 : At12 G w b1 p1_marsh_reeds_states p1_marsh_reeds_count p1_marsh_reeds_broken p1_marsh_fleet_numbers p1_marsh_fleet_cells p1_marsh_fleet_fares p1_marsh_fleet_count p1_marsh_fleet_nextNumber p1_marsh_fleet_total p1_marsh_fleet_removedFares p1_marsh_fleet_meetings p1_marsh_plans_moves p1_marsh_plans_lengths p1_marsh_landings_cells p1_marsh_landings_count p1_marsh_fogSide p1_snapshot_reeds_states p1_snapshot_reeds_count p1_snapshot_reeds_broken p1_snapshot_fleet_numbers p1_snapshot_fleet_cells p1_snapshot_fleet_fares p1_snapshot_fleet_count p1_snapshot_fleet_nextNumber p1_snapshot_fleet_total p1_snapshot_fleet_removedFares p1_snapshot_fleet_meetings p1_snapshot_plans_moves p1_snapshot_plans_lengths p1_snapshot_landings_cells p1_snapshot_landings_count p1_snapshot_fogSide p1_history_slots p1_history_free p1_history_count p1_ways_tolls p1_ways_queue p1_ways_heap p1_ways_heapSize p1_ways_found p1_ways_improved p1_pairing_costs p1_pairing_best p1_reader_kinds p1_reader_starts p1_reader_count p1_commandText_signs p1_commandText_length p1_line_signs p1_line_length p1_spareMoves p1_snapshotTaken p1_lastErrorPosition p1_lastFailedCommand) (hp_p2 : At13 G w b2 p2_thrown p2_changes p2_errorAt p2_failedAt p2_isSaved p2_v p2_before p2_saved p2_past p2_far p2_scratch p2_best p2_thenX p2_thenY p2_thenMet p2_text p2_line p2_isLeft p2_words p2_wordAt p2_textN p2_hereP p2_endP p2_lineN p2_isWrong p2_isDoing) (hp_p3 : (a3, (.inl (G.2 3, 1, .inr (.inl p3)) : va_E)) ∈ w) (hp_p4 : (a4, (.inl (G.2 4, 1, .inr (.inr (.inr (.inl p4)))) : va_E)) ∈ w)
    (hsc : ∀ k : Nat, k < 5 → vp_in (x5 + Int32.ofNat k) L ∧ xs (x5 + Int32.ofNat k).toNatClampNeg = mm_x5 x0 x1 x2 x3 x4 k) (hM : mm_S G A s.heap w H locs)
    (hk : ∀ (w : va_W) (H : Heap) (locs : List Loc), mm_S G A s.heap w H locs → At12 G w b1 p1_marsh_reeds_states p1_marsh_reeds_count p1_marsh_reeds_broken p1_marsh_fleet_numbers p1_marsh_fleet_cells p1_marsh_fleet_fares p1_marsh_fleet_count p1_marsh_fleet_nextNumber p1_marsh_fleet_total p1_marsh_fleet_removedFares p1_marsh_fleet_meetings p1_marsh_plans_moves p1_marsh_plans_lengths p1_marsh_landings_cells p1_marsh_landings_count p1_marsh_fogSide p1_snapshot_reeds_states p1_snapshot_reeds_count p1_snapshot_reeds_broken p1_snapshot_fleet_numbers p1_snapshot_fleet_cells p1_snapshot_fleet_fares p1_snapshot_fleet_count p1_snapshot_fleet_nextNumber p1_snapshot_fleet_total p1_snapshot_fleet_removedFares p1_snapshot_fleet_meetings p1_snapshot_plans_moves p1_snapshot_plans_lengths p1_snapshot_landings_cells p1_snapshot_landings_count p1_snapshot_fogSide p1_history_slots p1_history_free p1_history_count p1_ways_tolls p1_ways_queue p1_ways_heap p1_ways_heapSize p1_ways_found p1_ways_improved p1_pairing_costs p1_pairing_best p1_reader_kinds p1_reader_starts p1_reader_count p1_commandText_signs p1_commandText_length p1_line_signs p1_line_length p1_spareMoves p1_snapshotTaken p1_lastErrorPosition p1_lastFailedCommand → At13 G w b2 X.1 p2_changes p2_errorAt p2_failedAt p2_isSaved p2_v p2_before p2_saved p2_past p2_far p2_scratch p2_best p2_thenX p2_thenY p2_thenMet p2_text p2_line p2_isLeft p2_words p2_wordAt p2_textN p2_hereP p2_endP p2_lineN p2_isWrong p2_isDoing → (a3, (.inl (G.2 3, 1, .inr (.inl p3)) : va_E)) ∈ w → (a4, (.inl (G.2 4, 1, .inr (.inr (.inr (.inl X.2)))) : va_E)) ∈ w → ∀ ls, lv_has ls 10 [(0, .ref b), (1, .ref b1), (2, .ref b2), (3, .ref a3), (4, .ref a4), (5, .int x5)] → W p l e room_1 s m args below meth c H locs (cells + 1000) (slots + 10000) Q (F0 m 3345 ls [])) (ls : Array Slot) (hl : lv_has ls 10 [(0, .ref b), (1, .ref b1), (2, .ref b2), (3, .ref a3), (4, .ref a4), (5, .int x5)]) : W p l e room_1 s m args below meth c H locs cells slots Q (F0 m 3123 ls []) := by
  have hx := hC.1.1
  have hb := hC.1.2.1
  rw [g_law53] at hf
  refine lv_aload_n hx hb dL_law_3123 rfl (lv_at hl 1 rfl) ?_
  refine lv_aload hx hb dL_law_3124 (lv_at hl 4 rfl) ?_
  obtain ⟨q3126, hq3126, hf⟩ := mm_bd hf
  refine mm_SiW (rest := []) hC hM (c_L_meanFares l hfl hq3126 hp_p1 hp_p4 (by omega)) q6_193 q1_0 ykL_meanFares q6_191 q6_192 ⟨rfl, rfl⟩ ⟨Nat.le_of_ble_eq_true rfl, Nat.le_of_ble_eq_true rfl⟩ rfl hl.1 rfl (Nat.le_of_ble_eq_true rfl) dL_law_3126 ⟨by omega, by omega⟩ (fun r w3126 H locs hM hw => ?_)
  obtain ⟨hr, hn_p1, hfr⟩ := hw
  rw [hr]
  have hp_p1 := hp_p1.keep hfr (by omega)
  have hp_p2 := hp_p2.keep hfr (by omega)
  have hp_p3 := hfr.keep hp_p3 (by omega)
  have hp_p4 := hn_p1
  refine lv_istore (lv' := [(6, .int q3126.1), (0, .ref b), (1, .ref b1), (2, .ref b2), (3, .ref a3), (4, .ref a4), (5, .int x5)]) hx hb dL_law_3129 hl (by decide) rfl (fun ls hl => ?_)
  refine lv_aload_n hx hb dL_law_3131 rfl (lv_at hl 3 rfl) ?_
  obtain ⟨q3132, hq3132, hf⟩ := mm_bd hf
  refine mm_Vd (rest := []) hC hM (c_X13_meanFares l hq3132 hp_p2) q9_66 q1_12 ykX13_meanFares q9_63 q9_64 q9_65 hp_p2.1 rfl ⟨rfl, rfl⟩ ⟨Nat.le_of_ble_eq_true rfl, Nat.le_of_ble_eq_true rfl⟩ rfl hl.1 rfl (Nat.le_of_ble_eq_true rfl) dL_law_3132 ⟨by omega, by omega⟩ (fun r w3132 H locs hM hw => ?_)
  obtain ⟨hr, hn_this, hfr⟩ := hw
  rw [hr]
  have hp_p1 := hp_p1.keep hfr (by omega)
  have hp_p3 := hfr.keep hp_p3 (by omega)
  have hp_p4 := hfr.keep hp_p4 (by omega)
  have hp_p2 := hn_this
  refine lv_dstore (lv' := [(7, .double q3132.1), (6, .int q3126.1), (0, .ref b), (1, .ref b1), (2, .ref b2), (3, .ref a3), (4, .ref a4), (5, .int x5)]) hx hb dL_law_3135 hl (by decide) rfl (fun ls hl => ?_)
  refine lv_aload_n hx hb dL_law_3137 rfl (lv_at hl 4 rfl) ?_
  obtain ⟨q3138, hq3138, hf⟩ := mm_bd hf
  refine mm_Vi (rest := []) hC hM (c_X13_thrown l hq3138 hp_p2) q7_87 q1_12 ykX13_thrown q7_84 q7_85 q7_86 hp_p2.1 rfl ⟨rfl, rfl⟩ ⟨Nat.le_of_ble_eq_true rfl, Nat.le_of_ble_eq_true rfl⟩ rfl hl.1 rfl (Nat.le_of_ble_eq_true rfl) dL_law_3138 ⟨by omega, by omega⟩ (fun r w3138 H locs hM hw => ?_)
  obtain ⟨hr, hw⟩ := hw
  rw [hr]
  rw [hw] at hM
  refine lv_iload hx hb dL_law_3141 (lv_at hl 1 rfl) ?_
  refine lv_icmp_eq (tgt := 3148) hx hb dL_law_3143 (by decide) (fun hcd => ?_) (fun hcd => ?_)
  · rw [if_pos hcd] at hf
    refine lv_iload hx hb dL_law_3148 (lv_at hl 1 rfl) ?_
    refine lv_if_ne (tgt := 3185) hx hb dL_law_3150 (by decide) (fun hcd => ?_) (fun hcd => ?_)
    · rw [if_neg hcd] at hf
      refine lv_goto (tgt := 3345) hx hb dL_law_3185 (by decide) ?_
      cases hf
      exact W.widen (by omega) (by omega) (hk _ _ _ hM hp_p1 hp_p2 hp_p3 hp_p4 _ (lv_sub hl [2, 3, 4, 5, 6, 7] rfl))
    · rw [if_pos hcd] at hf
      refine lv_aload hx hb dL_law_3153 (lv_at hl 6 rfl) ?_
      refine lv_iconst (v := 0) hx hb dL_law_3155 (by decide) ?_
      refine mm_dald0 hC hM hp_p4 dL_law_3156 ?_
      refine lv_dload hx hb dL_law_3157 (lv_at hl 0 rfl) ?_
      refine lv_dcmp hx hb dL_law_3159 ?_
      refine lv_if_eq (tgt := 3185) hx hb dL_law_3160 (by decide) (fun hcd => ?_) (fun hcd => ?_)
      · rw [if_pos hcd] at hf
        refine lv_goto (tgt := 3345) hx hb dL_law_3185 (by decide) ?_
        cases hf
        exact W.widen (by omega) (by omega) (hk _ _ _ hM hp_p1 hp_p2 hp_p3 hp_p4 _ (lv_sub hl [2, 3, 4, 5, 6, 7] rfl))
      · rw [if_neg hcd] at hf
        refine lv_aload hx hb dL_law_3163 (lv_at hl 6 rfl) ?_
        refine lv_iconst (v := 0) hx hb dL_law_3165 (by decide) ?_
        refine mm_dald0 hC hM hp_p4 dL_law_3166 ?_
        refine lv_aload hx hb dL_law_3167 (lv_at hl 6 rfl) ?_
        refine lv_iconst (v := 0) hx hb dL_law_3169 (by decide) ?_
        refine mm_dald0 hC hM hp_p4 dL_law_3170 ?_
        refine lv_dcmp hx hb dL_law_3171 ?_
        refine lv_if_eq (tgt := 3183) hx hb dL_law_3172 (by decide) (fun hcd => ?_) (fun hcd => ?_)
        · rw [if_pos hcd] at hf
          refine lv_iconst (v := 0) hx hb dL_law_3183 (by decide) ?_
          cases hf
        · rw [if_neg hcd] at hf
          refine lv_dload hx hb dL_law_3175 (lv_at hl 0 rfl) ?_
          refine lv_dload hx hb dL_law_3177 (lv_at hl 0 rfl) ?_
          refine lv_dcmp hx hb dL_law_3179 ?_
          refine lv_if_ne (tgt := 3185) hx hb dL_law_3180 (by decide) (fun hcd => ?_) (fun hcd => ?_)
          · rw [if_neg hcd] at hf
            refine lv_goto (tgt := 3345) hx hb dL_law_3185 (by decide) ?_
            cases hf
            exact W.widen (by omega) (by omega) (hk _ _ _ hM hp_p1 hp_p2 hp_p3 hp_p4 _ (lv_sub hl [2, 3, 4, 5, 6, 7] rfl))
          · rw [if_pos hcd] at hf
            refine lv_iconst (v := 0) hx hb dL_law_3183 (by decide) ?_
            cases hf
  · rw [if_neg hcd] at hf
    refine lv_iconst (v := 0) hx hb dL_law_3146 (by decide) ?_
    cases hf
def g_law54 (K : Nat) (p1_marsh_reeds_states : Nat → Int32) (p2_v : Nat → Int32) : Option (Int32) := (f_X12_passableShare K p1_marsh_reeds_states).bind fun q3189 => mm_g (decide ((FP.f2d q3189) &&& 0x7fffffffffffffff ≤ 0x7ff0000000000000)) ((f_X13_passableShare K p2_v).bind fun q3196 => mm_g (decide ((FP.f2d q3196.1) &&& 0x7fffffffffffffff ≤ 0x7ff0000000000000)) (if (Op.cmpValue (FP.dcmp (FP.f2d q3189) (FP.f2d q3196.1)) .l) = 0 then some q3196.2 else if (Op.cmpValue (FP.dcmp (FP.f2d q3189) (FP.f2d q3189)) .l) = 0 then none else if (Op.cmpValue (FP.dcmp (FP.f2d q3196.1) (FP.f2d q3196.1)) .l) = 0 then none else some q3196.2))
set_option maxHeartbeats 4000000 in
set_option maxRecDepth 100000 in
theorem g_law54_c (hC : mm_C G A p s m c code 10 args "MirrorFerryLaw") (hsX : va_X b L xs s s.heap) (hbl : b < s.heap.size) (hbA : ¬ A b) (hd1 : b1 + 152 ≤ b2) (hd2 : b2 + 13 ≤ a3) (hd3 : a3 + 1 ≤ a4) (hrc : cells + 1000 ≤ room_1.cells) (hrs : slots + 10000 ≤ room_1.slots) (hfl : l.stackTraces = false) {K : Nat} {p1_marsh_reeds_states : Nat → Int32} {p1_marsh_reeds_count : Int32} {p1_marsh_reeds_broken : Int32} {p1_marsh_fleet_numbers : Nat → Int32} {p1_marsh_fleet_cells : Nat → Int32} {p1_marsh_fleet_fares : Nat → Int32} {p1_marsh_fleet_count : Int32} {p1_marsh_fleet_nextNumber : Int32} {p1_marsh_fleet_total : Int32} {p1_marsh_fleet_removedFares : Int32} {p1_marsh_fleet_meetings : Int32} {p1_marsh_plans_moves : Nat → Int32} {p1_marsh_plans_lengths : Nat → Int32} {p1_marsh_landings_cells : Nat → Int32} {p1_marsh_landings_count : Int32} {p1_marsh_fogSide : Int32} {p1_snapshot_reeds_states : Nat → Int32} {p1_snapshot_reeds_count : Int32} {p1_snapshot_reeds_broken : Int32} {p1_snapshot_fleet_numbers : Nat → Int32} {p1_snapshot_fleet_cells : Nat → Int32} {p1_snapshot_fleet_fares : Nat → Int32} {p1_snapshot_fleet_count : Int32} {p1_snapshot_fleet_nextNumber : Int32} {p1_snapshot_fleet_total : Int32} {p1_snapshot_fleet_removedFares : Int32} {p1_snapshot_fleet_meetings : Int32} {p1_snapshot_plans_moves : Nat → Int32} {p1_snapshot_plans_lengths : Nat → Int32} {p1_snapshot_landings_cells : Nat → Int32} {p1_snapshot_landings_count : Int32} {p1_snapshot_fogSide : Int32} {p1_history_slots : Nat → mm_MV} {p1_history_free : Int32} {p1_history_count : Int32} {p1_ways_tolls : Nat → Int32} {p1_ways_queue : Nat → Int32} {p1_ways_heap : Nat → Int32} {p1_ways_heapSize : Int32} {p1_ways_found : Nat → Int32} {p1_ways_improved : Nat → Int32} {p1_pairing_costs : Nat → Int32} {p1_pairing_best : Nat → Int32} {p1_reader_kinds : Nat → Int32} {p1_reader_starts : Nat → Int32} {p1_reader_count : Int32} {p1_commandText_signs : Nat → Int32} {p1_commandText_length : Int32} {p1_line_signs : Nat → Int32} {p1_line_length : Int32} {p1_spareMoves : Nat → Int32} {p1_snapshotTaken : Int32} {p1_lastErrorPosition : Int32} {p1_lastFailedCommand : Int32} {p2_thrown : Int32} {p2_changes : Int32} {p2_errorAt : Int32} {p2_failedAt : Int32} {p2_isSaved : Int32} {p2_v : Nat → Int32} {p2_before : Nat → Int32} {p2_saved : Nat → Int32} {p2_past : Nat → Int32} {p2_far : Nat → Int32} {p2_scratch : Nat → Int32} {p2_best : Nat → Int32} {p2_thenX : Int32} {p2_thenY : Int32} {p2_thenMet : Int32} {p2_text : Nat → Int32} {p2_line : Nat → Int32} {p2_isLeft : Nat → Int32} {p2_words : Nat → Int32} {p2_wordAt : Nat → Int32} {p2_textN : Int32} {p2_hereP : Int32} {p2_endP : Int32} {p2_lineN : Int32} {p2_isWrong : Int32} {p2_isDoing : Int32} {p3 : Nat → Int64} {p4 : Nat → UInt64} {x0 x1 x2 x3 x4 x5 : Int32} {X : Int32} (hf : g_law54 K p1_marsh_reeds_states p2_v = some X) (hp_p1 : At12 G w b1 p1_marsh_reeds_states p1_marsh_reeds_count p1_marsh_reeds_broken p1_marsh_fleet_numbers p1_marsh_fleet_cells p1_marsh_fleet_fares p1_marsh_fleet_count p1_marsh_fleet_nextNumber p1_marsh_fleet_total p1_marsh_fleet_removedFares p1_marsh_fleet_meetings p1_marsh_plans_moves p1_marsh_plans_lengths p1_marsh_landings_cells p1_marsh_landings_count p1_marsh_fogSide p1_snapshot_reeds_states p1_snapshot_reeds_count p1_snapshot_reeds_broken p1_snapshot_fleet_numbers p1_snapshot_fleet_cells p1_snapshot_fleet_fares p1_snapshot_fleet_count p1_snapshot_fleet_nextNumber p1_snapshot_fleet_total p1_snapshot_fleet_removedFares p1_snapshot_fleet_meetings p1_snapshot_plans_moves p1_snapshot_plans_lengths p1_snapshot_landings_cells p1_snapshot_landings_count p1_snapshot_fogSide p1_history_slots p1_history_free p1_history_count p1_ways_tolls p1_ways_queue p1_ways_heap p1_ways_heapSize p1_ways_found p1_ways_improved p1_pairing_costs p1_pairing_best p1_reader_kinds p1_reader_starts p1_reader_count p1_commandText_signs p1_commandText_length p1_line_signs p1_line_length p1_spareMoves p1_snapshotTaken p1_lastErrorPosition p1_lastFailedCommand) (hp_p2 : At13 G w b2 p2_thrown p2_changes p2_errorAt p2_failedAt p2_isSaved p2_v p2_before p2_saved p2_past p2_far p2_scratch p2_best p2_thenX p2_thenY p2_thenMet p2_text p2_line p2_isLeft p2_words p2_wordAt p2_textN p2_hereP p2_endP p2_lineN p2_isWrong p2_isDoing) (hp_p3 : (a3, (.inl (G.2 3, 1, .inr (.inl p3)) : va_E)) ∈ w) (hp_p4 : (a4, (.inl (G.2 4, 1, .inr (.inr (.inr (.inl p4)))) : va_E)) ∈ w)
    (hsc : ∀ k : Nat, k < 5 → vp_in (x5 + Int32.ofNat k) L ∧ xs (x5 + Int32.ofNat k).toNatClampNeg = mm_x5 x0 x1 x2 x3 x4 k) (hM : mm_S G A s.heap w H locs)
    (hk : ∀ (w : va_W) (H : Heap) (locs : List Loc), mm_S G A s.heap w H locs → At12 G w b1 p1_marsh_reeds_states p1_marsh_reeds_count p1_marsh_reeds_broken p1_marsh_fleet_numbers p1_marsh_fleet_cells p1_marsh_fleet_fares p1_marsh_fleet_count p1_marsh_fleet_nextNumber p1_marsh_fleet_total p1_marsh_fleet_removedFares p1_marsh_fleet_meetings p1_marsh_plans_moves p1_marsh_plans_lengths p1_marsh_landings_cells p1_marsh_landings_count p1_marsh_fogSide p1_snapshot_reeds_states p1_snapshot_reeds_count p1_snapshot_reeds_broken p1_snapshot_fleet_numbers p1_snapshot_fleet_cells p1_snapshot_fleet_fares p1_snapshot_fleet_count p1_snapshot_fleet_nextNumber p1_snapshot_fleet_total p1_snapshot_fleet_removedFares p1_snapshot_fleet_meetings p1_snapshot_plans_moves p1_snapshot_plans_lengths p1_snapshot_landings_cells p1_snapshot_landings_count p1_snapshot_fogSide p1_history_slots p1_history_free p1_history_count p1_ways_tolls p1_ways_queue p1_ways_heap p1_ways_heapSize p1_ways_found p1_ways_improved p1_pairing_costs p1_pairing_best p1_reader_kinds p1_reader_starts p1_reader_count p1_commandText_signs p1_commandText_length p1_line_signs p1_line_length p1_spareMoves p1_snapshotTaken p1_lastErrorPosition p1_lastFailedCommand → At13 G w b2 X p2_changes p2_errorAt p2_failedAt p2_isSaved p2_v p2_before p2_saved p2_past p2_far p2_scratch p2_best p2_thenX p2_thenY p2_thenMet p2_text p2_line p2_isLeft p2_words p2_wordAt p2_textN p2_hereP p2_endP p2_lineN p2_isWrong p2_isDoing → (a3, (.inl (G.2 3, 1, .inr (.inl p3)) : va_E)) ∈ w → (a4, (.inl (G.2 4, 1, .inr (.inr (.inr (.inl p4)))) : va_E)) ∈ w → ∀ ls, lv_has ls 10 [(0, .ref b), (1, .ref b1), (2, .ref b2), (3, .ref a3), (4, .ref a4), (5, .int x5)] → W p l e room_1 s m args below meth c H locs (cells + 1000) (slots + 10000) Q (F0 m 3345 ls [])) (ls : Array Slot) (hl : lv_has ls 10 [(0, .ref b), (1, .ref b1), (2, .ref b2), (3, .ref a3), (4, .ref a4), (5, .int x5)]) : W p l e room_1 s m args below meth c H locs cells slots Q (F0 m 3188 ls []) := by
  have hx := hC.1.1
  have hb := hC.1.2.1
  rw [g_law54] at hf
  refine lv_aload_n hx hb dL_law_3188 rfl (lv_at hl 1 rfl) ?_
  obtain ⟨q3189, hq3189, hf⟩ := mm_bd hf
  refine mm_Vf (rest := []) hC hM (c_X12_passableShare l hq3189 hp_p1) q2_121 q1_1 ykX12_passableShare q2_118 q2_119 q2_120 hp_p1.1 rfl ⟨rfl, rfl⟩ ⟨Nat.le_of_ble_eq_true rfl, Nat.le_of_ble_eq_true rfl⟩ rfl hl.1 rfl (Nat.le_of_ble_eq_true rfl) dL_law_3189 ⟨by omega, by omega⟩ (fun r w3189 H locs hM hw => ?_)
  obtain ⟨hr, hw⟩ := hw
  rw [hr]
  rw [hw] at hM
  obtain ⟨hg3192, hf⟩ := mm_gb hf
  refine lv_f2d hx hb dL_law_3192 (mm_n64 hg3192) ?_
  refine lv_dstore (lv' := [(6, .double (FP.f2d q3189)), (0, .ref b), (1, .ref b1), (2, .ref b2), (3, .ref a3), (4, .ref a4), (5, .int x5)]) hx hb dL_law_3193 hl (by decide) rfl (fun ls hl => ?_)
  refine lv_aload_n hx hb dL_law_3195 rfl (lv_at hl 3 rfl) ?_
  obtain ⟨q3196, hq3196, hf⟩ := mm_bd hf
  refine mm_Vf (rest := []) hC hM (c_X13_passableShare l hq3196 hp_p2) q9_70 q1_12 ykX13_passableShare q9_67 q9_68 q9_69 hp_p2.1 rfl ⟨rfl, rfl⟩ ⟨Nat.le_of_ble_eq_true rfl, Nat.le_of_ble_eq_true rfl⟩ rfl hl.1 rfl (Nat.le_of_ble_eq_true rfl) dL_law_3196 ⟨by omega, by omega⟩ (fun r w3196 H locs hM hw => ?_)
  obtain ⟨hr, hn_this, hfr⟩ := hw
  rw [hr]
  have hp_p1 := hp_p1.keep hfr (by omega)
  have hp_p3 := hfr.keep hp_p3 (by omega)
  have hp_p4 := hfr.keep hp_p4 (by omega)
  have hp_p2 := hn_this
  obtain ⟨hg3199, hf⟩ := mm_gb hf
  refine lv_f2d hx hb dL_law_3199 (mm_n64 hg3199) ?_
  refine lv_dstore (lv' := [(8, .double (FP.f2d q3196.1)), (6, .double (FP.f2d q3189)), (0, .ref b), (1, .ref b1), (2, .ref b2), (3, .ref a3), (4, .ref a4), (5, .int x5)]) hx hb dL_law_3200 hl (by decide) rfl (fun ls hl => ?_)
  refine lv_dload hx hb dL_law_3202 (lv_at hl 1 rfl) ?_
  refine lv_dload hx hb dL_law_3204 (lv_at hl 0 rfl) ?_
  refine lv_dcmp hx hb dL_law_3206 ?_
  refine lv_if_eq (tgt := 3228) hx hb dL_law_3207 (by decide) (fun hcd => ?_) (fun hcd => ?_)
  · rw [if_pos hcd] at hf
    refine lv_goto (tgt := 3345) hx hb dL_law_3228 (by decide) ?_
    cases hf
    exact W.widen (by omega) (by omega) (hk _ _ _ hM hp_p1 hp_p2 hp_p3 hp_p4 _ (lv_sub hl [2, 3, 4, 5, 6, 7] rfl))
  · rw [if_neg hcd] at hf
    refine lv_dload hx hb dL_law_3210 (lv_at hl 1 rfl) ?_
    refine lv_dload hx hb dL_law_3212 (lv_at hl 1 rfl) ?_
    refine lv_dcmp hx hb dL_law_3214 ?_
    refine lv_if_eq (tgt := 3226) hx hb dL_law_3215 (by decide) (fun hcd => ?_) (fun hcd => ?_)
    · rw [if_pos hcd] at hf
      refine lv_iconst (v := 0) hx hb dL_law_3226 (by decide) ?_
      cases hf
    · rw [if_neg hcd] at hf
      refine lv_dload hx hb dL_law_3218 (lv_at hl 0 rfl) ?_
      refine lv_dload hx hb dL_law_3220 (lv_at hl 0 rfl) ?_
      refine lv_dcmp hx hb dL_law_3222 ?_
      refine lv_if_ne (tgt := 3228) hx hb dL_law_3223 (by decide) (fun hcd => ?_) (fun hcd => ?_)
      · rw [if_neg hcd] at hf
        refine lv_goto (tgt := 3345) hx hb dL_law_3228 (by decide) ?_
        cases hf
        exact W.widen (by omega) (by omega) (hk _ _ _ hM hp_p1 hp_p2 hp_p3 hp_p4 _ (lv_sub hl [2, 3, 4, 5, 6, 7] rfl))
      · rw [if_pos hcd] at hf
        refine lv_iconst (v := 0) hx hb dL_law_3226 (by decide) ?_
        cases hf
def g_law55 (K : Nat) (p1_marsh_reeds_states : Nat → Int32) (p1_marsh_fleet_cells : Nat → Int32) (p1_marsh_fleet_fares : Nat → Int32) (p1_marsh_fleet_count : Int32) (p1_marsh_fleet_total : Int32) (p1_marsh_fleet_removedFares : Int32) (p1_marsh_plans_moves : Nat → Int32) (p1_marsh_plans_lengths : Nat → Int32) (p1_marsh_landings_cells : Nat → Int32) (p1_marsh_landings_count : Int32) (p1_marsh_fogSide : Int32) (p1_ways_tolls : Nat → Int32) (p1_ways_queue : Nat → Int32) (p1_ways_heap : Nat → Int32) (p1_ways_heapSize : Int32) (p1_ways_found : Nat → Int32) (p1_ways_improved : Nat → Int32) (p1_pairing_costs : Nat → Int32) (p1_pairing_best : Nat → Int32) (p1_spareMoves : Nat → Int32) (p2_v : Nat → Int32) : Option ((Nat → Int32) × (Nat → Int32) × (Nat → Int32) × Int32 × (Nat → Int32) × (Nat → Int32) × (Nat → Int32) × (Nat → Int32) × (Nat → Int32) × Int32) := (f_X12_isConsistent K p1_marsh_reeds_states p1_marsh_fleet_cells p1_marsh_fleet_fares p1_marsh_fleet_count p1_marsh_fleet_total p1_marsh_fleet_removedFares p1_marsh_plans_moves p1_marsh_plans_lengths p1_marsh_landings_cells p1_marsh_landings_count p1_marsh_fogSide p1_ways_tolls p1_ways_queue p1_ways_heap p1_ways_heapSize p1_ways_found p1_ways_improved p1_pairing_costs p1_pairing_best p1_spareMoves).bind fun q3232 => (f_X13_isConsistent p2_v).bind fun q3236 => if q3232.1 = q3236.1 then some (q3232.2.1, q3232.2.2.1, q3232.2.2.2.1, q3232.2.2.2.2.1, q3232.2.2.2.2.2.1, q3232.2.2.2.2.2.2.1, q3232.2.2.2.2.2.2.2.1, q3232.2.2.2.2.2.2.2.2.1, q3232.2.2.2.2.2.2.2.2.2, q3236.2) else none
set_option maxHeartbeats 4000000 in
set_option maxRecDepth 100000 in
theorem g_law55_c (hC : mm_C G A p s m c code 10 args "MirrorFerryLaw") (hsX : va_X b L xs s s.heap) (hbl : b < s.heap.size) (hbA : ¬ A b) (hd1 : b1 + 152 ≤ b2) (hd2 : b2 + 13 ≤ a3) (hd3 : a3 + 1 ≤ a4) (hrc : cells + 1000 ≤ room_1.cells) (hrs : slots + 10000 ≤ room_1.slots) (hfl : l.stackTraces = false) {K : Nat} {p1_marsh_reeds_states : Nat → Int32} {p1_marsh_reeds_count : Int32} {p1_marsh_reeds_broken : Int32} {p1_marsh_fleet_numbers : Nat → Int32} {p1_marsh_fleet_cells : Nat → Int32} {p1_marsh_fleet_fares : Nat → Int32} {p1_marsh_fleet_count : Int32} {p1_marsh_fleet_nextNumber : Int32} {p1_marsh_fleet_total : Int32} {p1_marsh_fleet_removedFares : Int32} {p1_marsh_fleet_meetings : Int32} {p1_marsh_plans_moves : Nat → Int32} {p1_marsh_plans_lengths : Nat → Int32} {p1_marsh_landings_cells : Nat → Int32} {p1_marsh_landings_count : Int32} {p1_marsh_fogSide : Int32} {p1_snapshot_reeds_states : Nat → Int32} {p1_snapshot_reeds_count : Int32} {p1_snapshot_reeds_broken : Int32} {p1_snapshot_fleet_numbers : Nat → Int32} {p1_snapshot_fleet_cells : Nat → Int32} {p1_snapshot_fleet_fares : Nat → Int32} {p1_snapshot_fleet_count : Int32} {p1_snapshot_fleet_nextNumber : Int32} {p1_snapshot_fleet_total : Int32} {p1_snapshot_fleet_removedFares : Int32} {p1_snapshot_fleet_meetings : Int32} {p1_snapshot_plans_moves : Nat → Int32} {p1_snapshot_plans_lengths : Nat → Int32} {p1_snapshot_landings_cells : Nat → Int32} {p1_snapshot_landings_count : Int32} {p1_snapshot_fogSide : Int32} {p1_history_slots : Nat → mm_MV} {p1_history_free : Int32} {p1_history_count : Int32} {p1_ways_tolls : Nat → Int32} {p1_ways_queue : Nat → Int32} {p1_ways_heap : Nat → Int32} {p1_ways_heapSize : Int32} {p1_ways_found : Nat → Int32} {p1_ways_improved : Nat → Int32} {p1_pairing_costs : Nat → Int32} {p1_pairing_best : Nat → Int32} {p1_reader_kinds : Nat → Int32} {p1_reader_starts : Nat → Int32} {p1_reader_count : Int32} {p1_commandText_signs : Nat → Int32} {p1_commandText_length : Int32} {p1_line_signs : Nat → Int32} {p1_line_length : Int32} {p1_spareMoves : Nat → Int32} {p1_snapshotTaken : Int32} {p1_lastErrorPosition : Int32} {p1_lastFailedCommand : Int32} {p2_thrown : Int32} {p2_changes : Int32} {p2_errorAt : Int32} {p2_failedAt : Int32} {p2_isSaved : Int32} {p2_v : Nat → Int32} {p2_before : Nat → Int32} {p2_saved : Nat → Int32} {p2_past : Nat → Int32} {p2_far : Nat → Int32} {p2_scratch : Nat → Int32} {p2_best : Nat → Int32} {p2_thenX : Int32} {p2_thenY : Int32} {p2_thenMet : Int32} {p2_text : Nat → Int32} {p2_line : Nat → Int32} {p2_isLeft : Nat → Int32} {p2_words : Nat → Int32} {p2_wordAt : Nat → Int32} {p2_textN : Int32} {p2_hereP : Int32} {p2_endP : Int32} {p2_lineN : Int32} {p2_isWrong : Int32} {p2_isDoing : Int32} {p3 : Nat → Int64} {p4 : Nat → UInt64} {x0 x1 x2 x3 x4 x5 : Int32} {X : (Nat → Int32) × (Nat → Int32) × (Nat → Int32) × Int32 × (Nat → Int32) × (Nat → Int32) × (Nat → Int32) × (Nat → Int32) × (Nat → Int32) × Int32} (hf : g_law55 K p1_marsh_reeds_states p1_marsh_fleet_cells p1_marsh_fleet_fares p1_marsh_fleet_count p1_marsh_fleet_total p1_marsh_fleet_removedFares p1_marsh_plans_moves p1_marsh_plans_lengths p1_marsh_landings_cells p1_marsh_landings_count p1_marsh_fogSide p1_ways_tolls p1_ways_queue p1_ways_heap p1_ways_heapSize p1_ways_found p1_ways_improved p1_pairing_costs p1_pairing_best p1_spareMoves p2_v = some X) (hp_p1 : At12 G w b1 p1_marsh_reeds_states p1_marsh_reeds_count p1_marsh_reeds_broken p1_marsh_fleet_numbers p1_marsh_fleet_cells p1_marsh_fleet_fares p1_marsh_fleet_count p1_marsh_fleet_nextNumber p1_marsh_fleet_total p1_marsh_fleet_removedFares p1_marsh_fleet_meetings p1_marsh_plans_moves p1_marsh_plans_lengths p1_marsh_landings_cells p1_marsh_landings_count p1_marsh_fogSide p1_snapshot_reeds_states p1_snapshot_reeds_count p1_snapshot_reeds_broken p1_snapshot_fleet_numbers p1_snapshot_fleet_cells p1_snapshot_fleet_fares p1_snapshot_fleet_count p1_snapshot_fleet_nextNumber p1_snapshot_fleet_total p1_snapshot_fleet_removedFares p1_snapshot_fleet_meetings p1_snapshot_plans_moves p1_snapshot_plans_lengths p1_snapshot_landings_cells p1_snapshot_landings_count p1_snapshot_fogSide p1_history_slots p1_history_free p1_history_count p1_ways_tolls p1_ways_queue p1_ways_heap p1_ways_heapSize p1_ways_found p1_ways_improved p1_pairing_costs p1_pairing_best p1_reader_kinds p1_reader_starts p1_reader_count p1_commandText_signs p1_commandText_length p1_line_signs p1_line_length p1_spareMoves p1_snapshotTaken p1_lastErrorPosition p1_lastFailedCommand) (hp_p2 : At13 G w b2 p2_thrown p2_changes p2_errorAt p2_failedAt p2_isSaved p2_v p2_before p2_saved p2_past p2_far p2_scratch p2_best p2_thenX p2_thenY p2_thenMet p2_text p2_line p2_isLeft p2_words p2_wordAt p2_textN p2_hereP p2_endP p2_lineN p2_isWrong p2_isDoing) (hp_p3 : (a3, (.inl (G.2 3, 1, .inr (.inl p3)) : va_E)) ∈ w) (hp_p4 : (a4, (.inl (G.2 4, 1, .inr (.inr (.inr (.inl p4)))) : va_E)) ∈ w)
    (hsc : ∀ k : Nat, k < 5 → vp_in (x5 + Int32.ofNat k) L ∧ xs (x5 + Int32.ofNat k).toNatClampNeg = mm_x5 x0 x1 x2 x3 x4 k) (hM : mm_S G A s.heap w H locs)
    (hk : ∀ (w : va_W) (H : Heap) (locs : List Loc), mm_S G A s.heap w H locs → At12 G w b1 p1_marsh_reeds_states p1_marsh_reeds_count p1_marsh_reeds_broken p1_marsh_fleet_numbers p1_marsh_fleet_cells p1_marsh_fleet_fares p1_marsh_fleet_count p1_marsh_fleet_nextNumber p1_marsh_fleet_total p1_marsh_fleet_removedFares p1_marsh_fleet_meetings p1_marsh_plans_moves p1_marsh_plans_lengths p1_marsh_landings_cells p1_marsh_landings_count p1_marsh_fogSide p1_snapshot_reeds_states p1_snapshot_reeds_count p1_snapshot_reeds_broken p1_snapshot_fleet_numbers p1_snapshot_fleet_cells p1_snapshot_fleet_fares p1_snapshot_fleet_count p1_snapshot_fleet_nextNumber p1_snapshot_fleet_total p1_snapshot_fleet_removedFares p1_snapshot_fleet_meetings p1_snapshot_plans_moves p1_snapshot_plans_lengths p1_snapshot_landings_cells p1_snapshot_landings_count p1_snapshot_fogSide p1_history_slots p1_history_free p1_history_count X.1 X.2.1 X.2.2.1 X.2.2.2.1 X.2.2.2.2.1 X.2.2.2.2.2.1 X.2.2.2.2.2.2.1 X.2.2.2.2.2.2.2.1 p1_reader_kinds p1_reader_starts p1_reader_count p1_commandText_signs p1_commandText_length p1_line_signs p1_line_length X.2.2.2.2.2.2.2.2.1 p1_snapshotTaken p1_lastErrorPosition p1_lastFailedCommand → At13 G w b2 X.2.2.2.2.2.2.2.2.2 p2_changes p2_errorAt p2_failedAt p2_isSaved p2_v p2_before p2_saved p2_past p2_far p2_scratch p2_best p2_thenX p2_thenY p2_thenMet p2_text p2_line p2_isLeft p2_words p2_wordAt p2_textN p2_hereP p2_endP p2_lineN p2_isWrong p2_isDoing → (a3, (.inl (G.2 3, 1, .inr (.inl p3)) : va_E)) ∈ w → (a4, (.inl (G.2 4, 1, .inr (.inr (.inr (.inl p4)))) : va_E)) ∈ w → ∀ ls, lv_has ls 10 [(0, .ref b), (1, .ref b1), (2, .ref b2), (3, .ref a3), (4, .ref a4), (5, .int x5)] → W p l e room_1 s m args below meth c H locs (cells + 1000) (slots + 10000) Q (F0 m 3345 ls [])) (ls : Array Slot) (hl : lv_has ls 10 [(0, .ref b), (1, .ref b1), (2, .ref b2), (3, .ref a3), (4, .ref a4), (5, .int x5)]) : W p l e room_1 s m args below meth c H locs cells slots Q (F0 m 3231 ls []) := by
  have hx := hC.1.1
  have hb := hC.1.2.1
  rw [g_law55] at hf
  refine lv_aload_n hx hb dL_law_3231 rfl (lv_at hl 1 rfl) ?_
  obtain ⟨q3232, hq3232, hf⟩ := mm_bd hf
  refine mm_Vi (rest := []) hC hM (c_X12_isConsistent l hq3232 hp_p1) q2_134 q1_1 ykX12_isConsistent q2_131 q2_132 q2_133 hp_p1.1 rfl ⟨rfl, rfl⟩ ⟨Nat.le_of_ble_eq_true rfl, Nat.le_of_ble_eq_true rfl⟩ rfl hl.1 rfl (Nat.le_of_ble_eq_true rfl) dL_law_3232 ⟨by omega, by omega⟩ (fun r w3232 H locs hM hw => ?_)
  obtain ⟨hr, hn_this, hfr⟩ := hw
  rw [hr]
  have hp_p2 := hp_p2.keep hfr (by omega)
  have hp_p3 := hfr.keep hp_p3 (by omega)
  have hp_p4 := hfr.keep hp_p4 (by omega)
  have hp_p1 := hn_this
  refine lv_aload_n hx hb dL_law_3235 rfl (lv_at hl 2 rfl) ?_
  obtain ⟨q3236, hq3236, hf⟩ := mm_bd hf
  refine mm_Vi (rest := [.int q3232.1]) hC hM (c_X13_isConsistent l hq3236 hp_p2) q9_75 q1_12 ykX13_isConsistent q9_72 q9_73 q9_74 hp_p2.1 rfl ⟨rfl, rfl⟩ ⟨Nat.le_of_ble_eq_true rfl, Nat.le_of_ble_eq_true rfl⟩ rfl hl.1 rfl (Nat.le_of_ble_eq_true rfl) dL_law_3236 ⟨by omega, by omega⟩ (fun r w3236 H locs hM hw => ?_)
  obtain ⟨hr, hn_this, hfr⟩ := hw
  rw [hr]
  have hp_p1 := hp_p1.keep hfr (by omega)
  have hp_p3 := hfr.keep hp_p3 (by omega)
  have hp_p4 := hfr.keep hp_p4 (by omega)
  have hp_p2 := hn_this
  refine lv_icmp_eq (tgt := 3345) hx hb dL_law_3239 (by decide) (fun hcd => ?_) (fun hcd => ?_)
  · rw [if_pos hcd] at hf
    cases hf
    exact W.widen (by omega) (by omega) (hk _ _ _ hM hp_p1 hp_p2 hp_p3 hp_p4 _ (lv_sub hl [0, 1, 2, 3, 4, 5] rfl))
  · rw [if_neg hcd] at hf
    refine lv_iconst (v := 0) hx hb dL_law_3242 (by decide) ?_
    cases hf
def g_law56 (K : Nat) (p1_marsh_reeds_states : Nat → Int32) (p1_marsh_reeds_count : Int32) (p1_marsh_reeds_broken : Int32) (p1_marsh_fleet_numbers : Nat → Int32) (p1_marsh_fleet_cells : Nat → Int32) (p1_marsh_fleet_fares : Nat → Int32) (p1_marsh_fleet_count : Int32) (p1_marsh_fleet_nextNumber : Int32) (p1_marsh_fleet_total : Int32) (p1_marsh_fleet_removedFares : Int32) (p1_marsh_fleet_meetings : Int32) (p1_marsh_plans_moves : Nat → Int32) (p1_marsh_plans_lengths : Nat → Int32) (p1_marsh_landings_cells : Nat → Int32) (p1_marsh_landings_count : Int32) (p1_marsh_fogSide : Int32) (p1_history_slots : Nat → mm_MV) (p1_history_free : Int32) (p1_history_count : Int32) (p2_changes : Int32) (p2_v : Nat → Int32) (p2_past : Nat → Int32) (p3 : Nat → Int64) : Option ((Nat → Int32) × Int32 × Int32 × (Nat → Int32) × (Nat → Int32) × (Nat → Int32) × Int32 × Int32 × Int32 × Int32 × Int32 × (Nat → Int32) × (Nat → Int32) × (Nat → Int32) × Int32 × Int32 × Int32 × Int32 × Int32 × Int32 × (Nat → Int32) × (Nat → Int64)) := (f_L_undo p1_marsh_reeds_states p1_marsh_reeds_count p1_marsh_reeds_broken p1_marsh_fleet_numbers p1_marsh_fleet_cells p1_marsh_fleet_fares p1_marsh_fleet_count p1_marsh_fleet_nextNumber p1_marsh_fleet_total p1_marsh_fleet_removedFares p1_marsh_fleet_meetings p1_marsh_plans_moves p1_marsh_plans_lengths p1_marsh_landings_cells p1_marsh_landings_count p1_marsh_fogSide p1_history_slots p1_history_free p1_history_count p3).bind fun q3246 => (f_X13_undo K p2_changes p2_v p2_past).bind fun q3252 => (f_X13_thrown q3252.2.1).bind fun q3258 => if q3258 = q3246.1 then if q3246.1 = 0 then if (lg_cmp (q3246.2.2.2.2.2.2.2.2.2.2.2.2.2.2.2.2.2.2.2 0) q3252.1.toInt64) = 0 then some (q3246.2.1, q3246.2.2.1, q3246.2.2.2.1, q3246.2.2.2.2.1, q3246.2.2.2.2.2.1, q3246.2.2.2.2.2.2.1, q3246.2.2.2.2.2.2.2.1, q3246.2.2.2.2.2.2.2.2.1, q3246.2.2.2.2.2.2.2.2.2.1, q3246.2.2.2.2.2.2.2.2.2.2.1, q3246.2.2.2.2.2.2.2.2.2.2.2.1, q3246.2.2.2.2.2.2.2.2.2.2.2.2.1, q3246.2.2.2.2.2.2.2.2.2.2.2.2.2.1, q3246.2.2.2.2.2.2.2.2.2.2.2.2.2.2.1, q3246.2.2.2.2.2.2.2.2.2.2.2.2.2.2.2.1, q3246.2.2.2.2.2.2.2.2.2.2.2.2.2.2.2.2.1, q3246.2.2.2.2.2.2.2.2.2.2.2.2.2.2.2.2.2.1, q3246.2.2.2.2.2.2.2.2.2.2.2.2.2.2.2.2.2.2.1, q3252.2.1, q3252.2.2.1, q3252.2.2.2, q3246.2.2.2.2.2.2.2.2.2.2.2.2.2.2.2.2.2.2.2) else none else some (q3246.2.1, q3246.2.2.1, q3246.2.2.2.1, q3246.2.2.2.2.1, q3246.2.2.2.2.2.1, q3246.2.2.2.2.2.2.1, q3246.2.2.2.2.2.2.2.1, q3246.2.2.2.2.2.2.2.2.1, q3246.2.2.2.2.2.2.2.2.2.1, q3246.2.2.2.2.2.2.2.2.2.2.1, q3246.2.2.2.2.2.2.2.2.2.2.2.1, q3246.2.2.2.2.2.2.2.2.2.2.2.2.1, q3246.2.2.2.2.2.2.2.2.2.2.2.2.2.1, q3246.2.2.2.2.2.2.2.2.2.2.2.2.2.2.1, q3246.2.2.2.2.2.2.2.2.2.2.2.2.2.2.2.1, q3246.2.2.2.2.2.2.2.2.2.2.2.2.2.2.2.2.1, q3246.2.2.2.2.2.2.2.2.2.2.2.2.2.2.2.2.2.1, q3246.2.2.2.2.2.2.2.2.2.2.2.2.2.2.2.2.2.2.1, q3252.2.1, q3252.2.2.1, q3252.2.2.2, q3246.2.2.2.2.2.2.2.2.2.2.2.2.2.2.2.2.2.2.2) else none
set_option maxHeartbeats 4000000 in
set_option maxRecDepth 100000 in
theorem g_law56_c (hC : mm_C G A p s m c code 10 args "MirrorFerryLaw") (hsX : va_X b L xs s s.heap) (hbl : b < s.heap.size) (hbA : ¬ A b) (hd1 : b1 + 152 ≤ b2) (hd2 : b2 + 13 ≤ a3) (hd3 : a3 + 1 ≤ a4) (hrc : cells + 1000 ≤ room_1.cells) (hrs : slots + 10000 ≤ room_1.slots) (hfl : l.stackTraces = false) {K : Nat} {p1_marsh_reeds_states : Nat → Int32} {p1_marsh_reeds_count : Int32} {p1_marsh_reeds_broken : Int32} {p1_marsh_fleet_numbers : Nat → Int32} {p1_marsh_fleet_cells : Nat → Int32} {p1_marsh_fleet_fares : Nat → Int32} {p1_marsh_fleet_count : Int32} {p1_marsh_fleet_nextNumber : Int32} {p1_marsh_fleet_total : Int32} {p1_marsh_fleet_removedFares : Int32} {p1_marsh_fleet_meetings : Int32} {p1_marsh_plans_moves : Nat → Int32} {p1_marsh_plans_lengths : Nat → Int32} {p1_marsh_landings_cells : Nat → Int32} {p1_marsh_landings_count : Int32} {p1_marsh_fogSide : Int32} {p1_snapshot_reeds_states : Nat → Int32} {p1_snapshot_reeds_count : Int32} {p1_snapshot_reeds_broken : Int32} {p1_snapshot_fleet_numbers : Nat → Int32} {p1_snapshot_fleet_cells : Nat → Int32} {p1_snapshot_fleet_fares : Nat → Int32} {p1_snapshot_fleet_count : Int32} {p1_snapshot_fleet_nextNumber : Int32} {p1_snapshot_fleet_total : Int32} {p1_snapshot_fleet_removedFares : Int32} {p1_snapshot_fleet_meetings : Int32} {p1_snapshot_plans_moves : Nat → Int32} {p1_snapshot_plans_lengths : Nat → Int32} {p1_snapshot_landings_cells : Nat → Int32} {p1_snapshot_landings_count : Int32} {p1_snapshot_fogSide : Int32} {p1_history_slots : Nat → mm_MV} {p1_history_free : Int32} {p1_history_count : Int32} {p1_ways_tolls : Nat → Int32} {p1_ways_queue : Nat → Int32} {p1_ways_heap : Nat → Int32} {p1_ways_heapSize : Int32} {p1_ways_found : Nat → Int32} {p1_ways_improved : Nat → Int32} {p1_pairing_costs : Nat → Int32} {p1_pairing_best : Nat → Int32} {p1_reader_kinds : Nat → Int32} {p1_reader_starts : Nat → Int32} {p1_reader_count : Int32} {p1_commandText_signs : Nat → Int32} {p1_commandText_length : Int32} {p1_line_signs : Nat → Int32} {p1_line_length : Int32} {p1_spareMoves : Nat → Int32} {p1_snapshotTaken : Int32} {p1_lastErrorPosition : Int32} {p1_lastFailedCommand : Int32} {p2_thrown : Int32} {p2_changes : Int32} {p2_errorAt : Int32} {p2_failedAt : Int32} {p2_isSaved : Int32} {p2_v : Nat → Int32} {p2_before : Nat → Int32} {p2_saved : Nat → Int32} {p2_past : Nat → Int32} {p2_far : Nat → Int32} {p2_scratch : Nat → Int32} {p2_best : Nat → Int32} {p2_thenX : Int32} {p2_thenY : Int32} {p2_thenMet : Int32} {p2_text : Nat → Int32} {p2_line : Nat → Int32} {p2_isLeft : Nat → Int32} {p2_words : Nat → Int32} {p2_wordAt : Nat → Int32} {p2_textN : Int32} {p2_hereP : Int32} {p2_endP : Int32} {p2_lineN : Int32} {p2_isWrong : Int32} {p2_isDoing : Int32} {p3 : Nat → Int64} {p4 : Nat → UInt64} {x0 x1 x2 x3 x4 x5 : Int32} {X : (Nat → Int32) × Int32 × Int32 × (Nat → Int32) × (Nat → Int32) × (Nat → Int32) × Int32 × Int32 × Int32 × Int32 × Int32 × (Nat → Int32) × (Nat → Int32) × (Nat → Int32) × Int32 × Int32 × Int32 × Int32 × Int32 × Int32 × (Nat → Int32) × (Nat → Int64)} (hf : g_law56 K p1_marsh_reeds_states p1_marsh_reeds_count p1_marsh_reeds_broken p1_marsh_fleet_numbers p1_marsh_fleet_cells p1_marsh_fleet_fares p1_marsh_fleet_count p1_marsh_fleet_nextNumber p1_marsh_fleet_total p1_marsh_fleet_removedFares p1_marsh_fleet_meetings p1_marsh_plans_moves p1_marsh_plans_lengths p1_marsh_landings_cells p1_marsh_landings_count p1_marsh_fogSide p1_history_slots p1_history_free p1_history_count p2_changes p2_v p2_past p3 = some X) (hp_p1 : At12 G w b1 p1_marsh_reeds_states p1_marsh_reeds_count p1_marsh_reeds_broken p1_marsh_fleet_numbers p1_marsh_fleet_cells p1_marsh_fleet_fares p1_marsh_fleet_count p1_marsh_fleet_nextNumber p1_marsh_fleet_total p1_marsh_fleet_removedFares p1_marsh_fleet_meetings p1_marsh_plans_moves p1_marsh_plans_lengths p1_marsh_landings_cells p1_marsh_landings_count p1_marsh_fogSide p1_snapshot_reeds_states p1_snapshot_reeds_count p1_snapshot_reeds_broken p1_snapshot_fleet_numbers p1_snapshot_fleet_cells p1_snapshot_fleet_fares p1_snapshot_fleet_count p1_snapshot_fleet_nextNumber p1_snapshot_fleet_total p1_snapshot_fleet_removedFares p1_snapshot_fleet_meetings p1_snapshot_plans_moves p1_snapshot_plans_lengths p1_snapshot_landings_cells p1_snapshot_landings_count p1_snapshot_fogSide p1_history_slots p1_history_free p1_history_count p1_ways_tolls p1_ways_queue p1_ways_heap p1_ways_heapSize p1_ways_found p1_ways_improved p1_pairing_costs p1_pairing_best p1_reader_kinds p1_reader_starts p1_reader_count p1_commandText_signs p1_commandText_length p1_line_signs p1_line_length p1_spareMoves p1_snapshotTaken p1_lastErrorPosition p1_lastFailedCommand) (hp_p2 : At13 G w b2 p2_thrown p2_changes p2_errorAt p2_failedAt p2_isSaved p2_v p2_before p2_saved p2_past p2_far p2_scratch p2_best p2_thenX p2_thenY p2_thenMet p2_text p2_line p2_isLeft p2_words p2_wordAt p2_textN p2_hereP p2_endP p2_lineN p2_isWrong p2_isDoing) (hp_p3 : (a3, (.inl (G.2 3, 1, .inr (.inl p3)) : va_E)) ∈ w) (hp_p4 : (a4, (.inl (G.2 4, 1, .inr (.inr (.inr (.inl p4)))) : va_E)) ∈ w)
    (hsc : ∀ k : Nat, k < 5 → vp_in (x5 + Int32.ofNat k) L ∧ xs (x5 + Int32.ofNat k).toNatClampNeg = mm_x5 x0 x1 x2 x3 x4 k) (hM : mm_S G A s.heap w H locs)
    (hk : ∀ (w : va_W) (H : Heap) (locs : List Loc), mm_S G A s.heap w H locs → At12 G w b1 X.1 X.2.1 X.2.2.1 X.2.2.2.1 X.2.2.2.2.1 X.2.2.2.2.2.1 X.2.2.2.2.2.2.1 X.2.2.2.2.2.2.2.1 X.2.2.2.2.2.2.2.2.1 X.2.2.2.2.2.2.2.2.2.1 X.2.2.2.2.2.2.2.2.2.2.1 X.2.2.2.2.2.2.2.2.2.2.2.1 X.2.2.2.2.2.2.2.2.2.2.2.2.1 X.2.2.2.2.2.2.2.2.2.2.2.2.2.1 X.2.2.2.2.2.2.2.2.2.2.2.2.2.2.1 X.2.2.2.2.2.2.2.2.2.2.2.2.2.2.2.1 p1_snapshot_reeds_states p1_snapshot_reeds_count p1_snapshot_reeds_broken p1_snapshot_fleet_numbers p1_snapshot_fleet_cells p1_snapshot_fleet_fares p1_snapshot_fleet_count p1_snapshot_fleet_nextNumber p1_snapshot_fleet_total p1_snapshot_fleet_removedFares p1_snapshot_fleet_meetings p1_snapshot_plans_moves p1_snapshot_plans_lengths p1_snapshot_landings_cells p1_snapshot_landings_count p1_snapshot_fogSide p1_history_slots X.2.2.2.2.2.2.2.2.2.2.2.2.2.2.2.2.1 X.2.2.2.2.2.2.2.2.2.2.2.2.2.2.2.2.2.1 p1_ways_tolls p1_ways_queue p1_ways_heap p1_ways_heapSize p1_ways_found p1_ways_improved p1_pairing_costs p1_pairing_best p1_reader_kinds p1_reader_starts p1_reader_count p1_commandText_signs p1_commandText_length p1_line_signs p1_line_length p1_spareMoves p1_snapshotTaken p1_lastErrorPosition p1_lastFailedCommand → At13 G w b2 X.2.2.2.2.2.2.2.2.2.2.2.2.2.2.2.2.2.2.1 X.2.2.2.2.2.2.2.2.2.2.2.2.2.2.2.2.2.2.2.1 p2_errorAt p2_failedAt p2_isSaved X.2.2.2.2.2.2.2.2.2.2.2.2.2.2.2.2.2.2.2.2.1 p2_before p2_saved p2_past p2_far p2_scratch p2_best p2_thenX p2_thenY p2_thenMet p2_text p2_line p2_isLeft p2_words p2_wordAt p2_textN p2_hereP p2_endP p2_lineN p2_isWrong p2_isDoing → (a3, (.inl (G.2 3, 1, .inr (.inl X.2.2.2.2.2.2.2.2.2.2.2.2.2.2.2.2.2.2.2.2.2)) : va_E)) ∈ w → (a4, (.inl (G.2 4, 1, .inr (.inr (.inr (.inl p4)))) : va_E)) ∈ w → ∀ ls, lv_has ls 10 [(0, .ref b), (1, .ref b1), (2, .ref b2), (3, .ref a3), (4, .ref a4), (5, .int x5)] → W p l e room_1 s m args below meth c H locs (cells + 1000) (slots + 10000) Q (F0 m 3345 ls [])) (ls : Array Slot) (hl : lv_has ls 10 [(0, .ref b), (1, .ref b1), (2, .ref b2), (3, .ref a3), (4, .ref a4), (5, .int x5)]) : W p l e room_1 s m args below meth c H locs cells slots Q (F0 m 3244 ls []) := by
  have hx := hC.1.1
  have hb := hC.1.2.1
  rw [g_law56] at hf
  refine lv_aload_n hx hb dL_law_3244 rfl (lv_at hl 1 rfl) ?_
  refine lv_aload_n hx hb dL_law_3245 rfl (lv_at hl 3 rfl) ?_
  obtain ⟨q3246, hq3246, hf⟩ := mm_bd hf
  refine mm_SiW (rest := []) hC hM (c_L_undo l hfl hq3246 hp_p1 hp_p3 (by omega)) q6_219 q1_0 ykL_undo q6_217 q6_218 ⟨rfl, rfl⟩ ⟨Nat.le_of_ble_eq_true rfl, Nat.le_of_ble_eq_true rfl⟩ rfl hl.1 rfl (Nat.le_of_ble_eq_true rfl) dL_law_3246 ⟨by omega, by omega⟩ (fun r w3246 H locs hM hw => ?_)
  obtain ⟨hr, hn_p0, hn_p1, hfr⟩ := hw
  rw [hr]
  have hp_p2 := hp_p2.keep2 hfr (by omega) (by omega)
  have hp_p4 := hfr.keep hp_p4 (by omega) (by omega)
  have hp_p1 := hn_p0
  have hp_p3 := hn_p1
  refine lv_istore (lv' := [(6, .int q3246.1), (0, .ref b), (1, .ref b1), (2, .ref b2), (3, .ref a3), (4, .ref a4), (5, .int x5)]) hx hb dL_law_3249 hl (by decide) rfl (fun ls hl => ?_)
  refine lv_aload_n hx hb dL_law_3251 rfl (lv_at hl 3 rfl) ?_
  obtain ⟨q3252, hq3252, hf⟩ := mm_bd hf
  refine mm_Vi (rest := []) hC hM (c_X13_undo l hq3252 hp_p2) q9_79 q1_12 ykX13_undo q9_76 q9_77 q9_78 hp_p2.1 rfl ⟨rfl, rfl⟩ ⟨Nat.le_of_ble_eq_true rfl, Nat.le_of_ble_eq_true rfl⟩ rfl hl.1 rfl (Nat.le_of_ble_eq_true rfl) dL_law_3252 ⟨by omega, by omega⟩ (fun r w3252 H locs hM hw => ?_)
  obtain ⟨hr, hn_this, hfr⟩ := hw
  rw [hr]
  have hp_p1 := hp_p1.keep hfr (by omega)
  have hp_p3 := hfr.keep hp_p3 (by omega)
  have hp_p4 := hfr.keep hp_p4 (by omega)
  have hp_p2 := hn_this
  refine lv_istore (lv' := [(7, .int q3252.1), (6, .int q3246.1), (0, .ref b), (1, .ref b1), (2, .ref b2), (3, .ref a3), (4, .ref a4), (5, .int x5)]) hx hb dL_law_3255 hl (by decide) rfl (fun ls hl => ?_)
  refine lv_aload_n hx hb dL_law_3257 rfl (lv_at hl 4 rfl) ?_
  obtain ⟨q3258, hq3258, hf⟩ := mm_bd hf
  refine mm_Vi (rest := []) hC hM (c_X13_thrown l hq3258 hp_p2) q7_87 q1_12 ykX13_thrown q7_84 q7_85 q7_86 hp_p2.1 rfl ⟨rfl, rfl⟩ ⟨Nat.le_of_ble_eq_true rfl, Nat.le_of_ble_eq_true rfl⟩ rfl hl.1 rfl (Nat.le_of_ble_eq_true rfl) dL_law_3258 ⟨by omega, by omega⟩ (fun r w3258 H locs hM hw => ?_)
  obtain ⟨hr, hw⟩ := hw
  rw [hr]
  rw [hw] at hM
  refine lv_iload hx hb dL_law_3261 (lv_at hl 1 rfl) ?_
  refine lv_icmp_eq (tgt := 3268) hx hb dL_law_3263 (by decide) (fun hcd => ?_) (fun hcd => ?_)
  · rw [if_pos hcd] at hf
    refine lv_iload hx hb dL_law_3268 (lv_at hl 1 rfl) ?_
    refine lv_if_ne (tgt := 3285) hx hb dL_law_3270 (by decide) (fun hcd => ?_) (fun hcd => ?_)
    · rw [if_neg hcd] at hf
      refine lv_goto (tgt := 3345) hx hb dL_law_3285 (by decide) ?_
      cases hf
      exact W.widen (by omega) (by omega) (hk _ _ _ hM hp_p1 hp_p2 hp_p3 hp_p4 _ (lv_sub hl [2, 3, 4, 5, 6, 7] rfl))
    · rw [if_pos hcd] at hf
      refine lv_aload_n hx hb dL_law_3273 rfl (lv_at hl 5 rfl) ?_
      refine lv_iconst (v := 0) hx hb dL_law_3274 (by decide) ?_
      refine mm_lald0 hC hM hp_p3 dL_law_3275 ?_
      refine lv_iload hx hb dL_law_3276 (lv_at hl 0 rfl) ?_
      refine lv_i2l hx hb dL_law_3278 rfl ?_
      refine W.lcmp hx hb dL_law_3279 ?_
      refine lv_if_eq (tgt := 3285) hx hb dL_law_3280 (by decide) (fun hcd => ?_) (fun hcd => ?_)
      · rw [if_pos hcd] at hf
        refine lv_goto (tgt := 3345) hx hb dL_law_3285 (by decide) ?_
        cases hf
        exact W.widen (by omega) (by omega) (hk _ _ _ hM hp_p1 hp_p2 hp_p3 hp_p4 _ (lv_sub hl [2, 3, 4, 5, 6, 7] rfl))
      · rw [if_neg hcd] at hf
        refine lv_iconst (v := 0) hx hb dL_law_3283 (by decide) ?_
        cases hf
  · rw [if_neg hcd] at hf
    refine lv_iconst (v := 0) hx hb dL_law_3266 (by decide) ?_
    cases hf
def g_law57 (K : Nat) (p1_marsh_reeds_states : Nat → Int32) (p1_marsh_reeds_count : Int32) (p1_marsh_reeds_broken : Int32) (p1_marsh_fleet_numbers : Nat → Int32) (p1_marsh_fleet_cells : Nat → Int32) (p1_marsh_fleet_fares : Nat → Int32) (p1_marsh_fleet_count : Int32) (p1_marsh_fleet_nextNumber : Int32) (p1_marsh_fleet_total : Int32) (p1_marsh_fleet_removedFares : Int32) (p1_marsh_fleet_meetings : Int32) (p1_marsh_plans_moves : Nat → Int32) (p1_marsh_plans_lengths : Nat → Int32) (p1_marsh_landings_cells : Nat → Int32) (p1_marsh_landings_count : Int32) (p1_marsh_fogSide : Int32) (p1_snapshot_reeds_states : Nat → Int32) (p1_snapshot_fleet_numbers : Nat → Int32) (p1_snapshot_fleet_cells : Nat → Int32) (p1_snapshot_fleet_fares : Nat → Int32) (p1_snapshot_plans_moves : Nat → Int32) (p1_snapshot_plans_lengths : Nat → Int32) (p1_snapshot_landings_cells : Nat → Int32) (p2_v : Nat → Int32) (p2_saved : Nat → Int32) : Option ((Nat → Int32) × Int32 × Int32 × (Nat → Int32) × (Nat → Int32) × (Nat → Int32) × Int32 × Int32 × Int32 × Int32 × Int32 × (Nat → Int32) × (Nat → Int32) × (Nat → Int32) × Int32 × Int32 × Int32 × Int32 × Int32 × (Nat → Int32)) := (f_X12_save p1_marsh_reeds_states p1_marsh_reeds_count p1_marsh_reeds_broken p1_marsh_fleet_numbers p1_marsh_fleet_cells p1_marsh_fleet_fares p1_marsh_fleet_count p1_marsh_fleet_nextNumber p1_marsh_fleet_total p1_marsh_fleet_removedFares p1_marsh_fleet_meetings p1_marsh_plans_moves p1_marsh_plans_lengths p1_marsh_landings_cells p1_marsh_landings_count p1_marsh_fogSide p1_snapshot_reeds_states p1_snapshot_fleet_numbers p1_snapshot_fleet_cells p1_snapshot_fleet_fares p1_snapshot_plans_moves p1_snapshot_plans_lengths p1_snapshot_landings_cells).bind fun q3289 => (f_X13_save K p2_v p2_saved).bind fun q3293 => if q3289.1 = q3293.1 then some (q3289.2.1, q3289.2.2.1, q3289.2.2.2.1, q3289.2.2.2.2.1, q3289.2.2.2.2.2.1, q3289.2.2.2.2.2.2.1, q3289.2.2.2.2.2.2.2.1, q3289.2.2.2.2.2.2.2.2.1, q3289.2.2.2.2.2.2.2.2.2.1, q3289.2.2.2.2.2.2.2.2.2.2.1, q3289.2.2.2.2.2.2.2.2.2.2.2.1, q3289.2.2.2.2.2.2.2.2.2.2.2.2.1, q3289.2.2.2.2.2.2.2.2.2.2.2.2.2.1, q3289.2.2.2.2.2.2.2.2.2.2.2.2.2.2.1, q3289.2.2.2.2.2.2.2.2.2.2.2.2.2.2.2.1, q3289.2.2.2.2.2.2.2.2.2.2.2.2.2.2.2.2.1, q3289.2.2.2.2.2.2.2.2.2.2.2.2.2.2.2.2.2, q3293.2.1, q3293.2.2.1, q3293.2.2.2) else none
set_option maxHeartbeats 4000000 in
set_option maxRecDepth 100000 in
theorem g_law57_c (hC : mm_C G A p s m c code 10 args "MirrorFerryLaw") (hsX : va_X b L xs s s.heap) (hbl : b < s.heap.size) (hbA : ¬ A b) (hd1 : b1 + 152 ≤ b2) (hd2 : b2 + 13 ≤ a3) (hd3 : a3 + 1 ≤ a4) (hrc : cells + 1000 ≤ room_1.cells) (hrs : slots + 10000 ≤ room_1.slots) (hfl : l.stackTraces = false) {K : Nat} {p1_marsh_reeds_states : Nat → Int32} {p1_marsh_reeds_count : Int32} {p1_marsh_reeds_broken : Int32} {p1_marsh_fleet_numbers : Nat → Int32} {p1_marsh_fleet_cells : Nat → Int32} {p1_marsh_fleet_fares : Nat → Int32} {p1_marsh_fleet_count : Int32} {p1_marsh_fleet_nextNumber : Int32} {p1_marsh_fleet_total : Int32} {p1_marsh_fleet_removedFares : Int32} {p1_marsh_fleet_meetings : Int32} {p1_marsh_plans_moves : Nat → Int32} {p1_marsh_plans_lengths : Nat → Int32} {p1_marsh_landings_cells : Nat → Int32} {p1_marsh_landings_count : Int32} {p1_marsh_fogSide : Int32} {p1_snapshot_reeds_states : Nat → Int32} {p1_snapshot_reeds_count : Int32} {p1_snapshot_reeds_broken : Int32} {p1_snapshot_fleet_numbers : Nat → Int32} {p1_snapshot_fleet_cells : Nat → Int32} {p1_snapshot_fleet_fares : Nat → Int32} {p1_snapshot_fleet_count : Int32} {p1_snapshot_fleet_nextNumber : Int32} {p1_snapshot_fleet_total : Int32} {p1_snapshot_fleet_removedFares : Int32} {p1_snapshot_fleet_meetings : Int32} {p1_snapshot_plans_moves : Nat → Int32} {p1_snapshot_plans_lengths : Nat → Int32} {p1_snapshot_landings_cells : Nat → Int32} {p1_snapshot_landings_count : Int32} {p1_snapshot_fogSide : Int32} {p1_history_slots : Nat → mm_MV} {p1_history_free : Int32} {p1_history_count : Int32} {p1_ways_tolls : Nat → Int32} {p1_ways_queue : Nat → Int32} {p1_ways_heap : Nat → Int32} {p1_ways_heapSize : Int32} {p1_ways_found : Nat → Int32} {p1_ways_improved : Nat → Int32} {p1_pairing_costs : Nat → Int32} {p1_pairing_best : Nat → Int32} {p1_reader_kinds : Nat → Int32} {p1_reader_starts : Nat → Int32} {p1_reader_count : Int32} {p1_commandText_signs : Nat → Int32} {p1_commandText_length : Int32} {p1_line_signs : Nat → Int32} {p1_line_length : Int32} {p1_spareMoves : Nat → Int32} {p1_snapshotTaken : Int32} {p1_lastErrorPosition : Int32} {p1_lastFailedCommand : Int32} {p2_thrown : Int32} {p2_changes : Int32} {p2_errorAt : Int32} {p2_failedAt : Int32} {p2_isSaved : Int32} {p2_v : Nat → Int32} {p2_before : Nat → Int32} {p2_saved : Nat → Int32} {p2_past : Nat → Int32} {p2_far : Nat → Int32} {p2_scratch : Nat → Int32} {p2_best : Nat → Int32} {p2_thenX : Int32} {p2_thenY : Int32} {p2_thenMet : Int32} {p2_text : Nat → Int32} {p2_line : Nat → Int32} {p2_isLeft : Nat → Int32} {p2_words : Nat → Int32} {p2_wordAt : Nat → Int32} {p2_textN : Int32} {p2_hereP : Int32} {p2_endP : Int32} {p2_lineN : Int32} {p2_isWrong : Int32} {p2_isDoing : Int32} {p3 : Nat → Int64} {p4 : Nat → UInt64} {x0 x1 x2 x3 x4 x5 : Int32} {X : (Nat → Int32) × Int32 × Int32 × (Nat → Int32) × (Nat → Int32) × (Nat → Int32) × Int32 × Int32 × Int32 × Int32 × Int32 × (Nat → Int32) × (Nat → Int32) × (Nat → Int32) × Int32 × Int32 × Int32 × Int32 × Int32 × (Nat → Int32)} (hf : g_law57 K p1_marsh_reeds_states p1_marsh_reeds_count p1_marsh_reeds_broken p1_marsh_fleet_numbers p1_marsh_fleet_cells p1_marsh_fleet_fares p1_marsh_fleet_count p1_marsh_fleet_nextNumber p1_marsh_fleet_total p1_marsh_fleet_removedFares p1_marsh_fleet_meetings p1_marsh_plans_moves p1_marsh_plans_lengths p1_marsh_landings_cells p1_marsh_landings_count p1_marsh_fogSide p1_snapshot_reeds_states p1_snapshot_fleet_numbers p1_snapshot_fleet_cells p1_snapshot_fleet_fares p1_snapshot_plans_moves p1_snapshot_plans_lengths p1_snapshot_landings_cells p2_v p2_saved = some X) (hp_p1 : At12 G w b1 p1_marsh_reeds_states p1_marsh_reeds_count p1_marsh_reeds_broken p1_marsh_fleet_numbers p1_marsh_fleet_cells p1_marsh_fleet_fares p1_marsh_fleet_count p1_marsh_fleet_nextNumber p1_marsh_fleet_total p1_marsh_fleet_removedFares p1_marsh_fleet_meetings p1_marsh_plans_moves p1_marsh_plans_lengths p1_marsh_landings_cells p1_marsh_landings_count p1_marsh_fogSide p1_snapshot_reeds_states p1_snapshot_reeds_count p1_snapshot_reeds_broken p1_snapshot_fleet_numbers p1_snapshot_fleet_cells p1_snapshot_fleet_fares p1_snapshot_fleet_count p1_snapshot_fleet_nextNumber p1_snapshot_fleet_total p1_snapshot_fleet_removedFares p1_snapshot_fleet_meetings p1_snapshot_plans_moves p1_snapshot_plans_lengths p1_snapshot_landings_cells p1_snapshot_landings_count p1_snapshot_fogSide p1_history_slots p1_history_free p1_history_count p1_ways_tolls p1_ways_queue p1_ways_heap p1_ways_heapSize p1_ways_found p1_ways_improved p1_pairing_costs p1_pairing_best p1_reader_kinds p1_reader_starts p1_reader_count p1_commandText_signs p1_commandText_length p1_line_signs p1_line_length p1_spareMoves p1_snapshotTaken p1_lastErrorPosition p1_lastFailedCommand) (hp_p2 : At13 G w b2 p2_thrown p2_changes p2_errorAt p2_failedAt p2_isSaved p2_v p2_before p2_saved p2_past p2_far p2_scratch p2_best p2_thenX p2_thenY p2_thenMet p2_text p2_line p2_isLeft p2_words p2_wordAt p2_textN p2_hereP p2_endP p2_lineN p2_isWrong p2_isDoing) (hp_p3 : (a3, (.inl (G.2 3, 1, .inr (.inl p3)) : va_E)) ∈ w) (hp_p4 : (a4, (.inl (G.2 4, 1, .inr (.inr (.inr (.inl p4)))) : va_E)) ∈ w)
    (hsc : ∀ k : Nat, k < 5 → vp_in (x5 + Int32.ofNat k) L ∧ xs (x5 + Int32.ofNat k).toNatClampNeg = mm_x5 x0 x1 x2 x3 x4 k) (hM : mm_S G A s.heap w H locs)
    (hk : ∀ (w : va_W) (H : Heap) (locs : List Loc), mm_S G A s.heap w H locs → At12 G w b1 p1_marsh_reeds_states p1_marsh_reeds_count p1_marsh_reeds_broken p1_marsh_fleet_numbers p1_marsh_fleet_cells p1_marsh_fleet_fares p1_marsh_fleet_count p1_marsh_fleet_nextNumber p1_marsh_fleet_total p1_marsh_fleet_removedFares p1_marsh_fleet_meetings p1_marsh_plans_moves p1_marsh_plans_lengths p1_marsh_landings_cells p1_marsh_landings_count p1_marsh_fogSide X.1 X.2.1 X.2.2.1 X.2.2.2.1 X.2.2.2.2.1 X.2.2.2.2.2.1 X.2.2.2.2.2.2.1 X.2.2.2.2.2.2.2.1 X.2.2.2.2.2.2.2.2.1 X.2.2.2.2.2.2.2.2.2.1 X.2.2.2.2.2.2.2.2.2.2.1 X.2.2.2.2.2.2.2.2.2.2.2.1 X.2.2.2.2.2.2.2.2.2.2.2.2.1 X.2.2.2.2.2.2.2.2.2.2.2.2.2.1 X.2.2.2.2.2.2.2.2.2.2.2.2.2.2.1 X.2.2.2.2.2.2.2.2.2.2.2.2.2.2.2.1 p1_history_slots p1_history_free p1_history_count p1_ways_tolls p1_ways_queue p1_ways_heap p1_ways_heapSize p1_ways_found p1_ways_improved p1_pairing_costs p1_pairing_best p1_reader_kinds p1_reader_starts p1_reader_count p1_commandText_signs p1_commandText_length p1_line_signs p1_line_length p1_spareMoves X.2.2.2.2.2.2.2.2.2.2.2.2.2.2.2.2.1 p1_lastErrorPosition p1_lastFailedCommand → At13 G w b2 X.2.2.2.2.2.2.2.2.2.2.2.2.2.2.2.2.2.1 p2_changes p2_errorAt p2_failedAt X.2.2.2.2.2.2.2.2.2.2.2.2.2.2.2.2.2.2.1 p2_v p2_before X.2.2.2.2.2.2.2.2.2.2.2.2.2.2.2.2.2.2.2 p2_past p2_far p2_scratch p2_best p2_thenX p2_thenY p2_thenMet p2_text p2_line p2_isLeft p2_words p2_wordAt p2_textN p2_hereP p2_endP p2_lineN p2_isWrong p2_isDoing → (a3, (.inl (G.2 3, 1, .inr (.inl p3)) : va_E)) ∈ w → (a4, (.inl (G.2 4, 1, .inr (.inr (.inr (.inl p4)))) : va_E)) ∈ w → ∀ ls, lv_has ls 10 [(0, .ref b), (1, .ref b1), (2, .ref b2), (3, .ref a3), (4, .ref a4), (5, .int x5)] → W p l e room_1 s m args below meth c H locs (cells + 1000) (slots + 10000) Q (F0 m 3345 ls [])) (ls : Array Slot) (hl : lv_has ls 10 [(0, .ref b), (1, .ref b1), (2, .ref b2), (3, .ref a3), (4, .ref a4), (5, .int x5)]) : W p l e room_1 s m args below meth c H locs cells slots Q (F0 m 3288 ls []) := by
  have hx := hC.1.1
  have hb := hC.1.2.1
  rw [g_law57] at hf
  refine lv_aload_n hx hb dL_law_3288 rfl (lv_at hl 1 rfl) ?_
  obtain ⟨q3289, hq3289, hf⟩ := mm_bd hf
  refine mm_Vi (rest := []) hC hM (c_X12_save l hq3289 hp_p1) q3_63 q1_1 ykX12_save q3_60 q3_61 q3_62 hp_p1.1 rfl ⟨rfl, rfl⟩ ⟨Nat.le_of_ble_eq_true rfl, Nat.le_of_ble_eq_true rfl⟩ rfl hl.1 rfl (Nat.le_of_ble_eq_true rfl) dL_law_3289 ⟨by omega, by omega⟩ (fun r w3289 H locs hM hw => ?_)
  obtain ⟨hr, hn_this, hfr⟩ := hw
  rw [hr]
  have hp_p2 := hp_p2.keep hfr (by omega)
  have hp_p3 := hfr.keep hp_p3 (by omega)
  have hp_p4 := hfr.keep hp_p4 (by omega)
  have hp_p1 := hn_this
  refine lv_aload_n hx hb dL_law_3292 rfl (lv_at hl 2 rfl) ?_
  obtain ⟨q3293, hq3293, hf⟩ := mm_bd hf
  refine mm_Vi (rest := [.int q3289.1]) hC hM (c_X13_save l hq3293 hp_p2) q9_83 q1_12 ykX13_save q9_80 q9_81 q9_82 hp_p2.1 rfl ⟨rfl, rfl⟩ ⟨Nat.le_of_ble_eq_true rfl, Nat.le_of_ble_eq_true rfl⟩ rfl hl.1 rfl (Nat.le_of_ble_eq_true rfl) dL_law_3293 ⟨by omega, by omega⟩ (fun r w3293 H locs hM hw => ?_)
  obtain ⟨hr, hn_this, hfr⟩ := hw
  rw [hr]
  have hp_p1 := hp_p1.keep hfr (by omega)
  have hp_p3 := hfr.keep hp_p3 (by omega)
  have hp_p4 := hfr.keep hp_p4 (by omega)
  have hp_p2 := hn_this
  refine lv_icmp_eq (tgt := 3345) hx hb dL_law_3296 (by decide) (fun hcd => ?_) (fun hcd => ?_)
  · rw [if_pos hcd] at hf
    cases hf
    exact W.widen (by omega) (by omega) (hk _ _ _ hM hp_p1 hp_p2 hp_p3 hp_p4 _ (lv_sub hl [0, 1, 2, 3, 4, 5] rfl))
  · rw [if_neg hcd] at hf
    refine lv_iconst (v := 0) hx hb dL_law_3299 (by decide) ?_
    cases hf
def g_law58 (K : Nat) (p1_marsh_reeds_states : Nat → Int32) (p1_marsh_reeds_count : Int32) (p1_marsh_reeds_broken : Int32) (p1_marsh_fleet_numbers : Nat → Int32) (p1_marsh_fleet_cells : Nat → Int32) (p1_marsh_fleet_fares : Nat → Int32) (p1_marsh_fleet_count : Int32) (p1_marsh_fleet_nextNumber : Int32) (p1_marsh_fleet_total : Int32) (p1_marsh_fleet_removedFares : Int32) (p1_marsh_fleet_meetings : Int32) (p1_marsh_plans_moves : Nat → Int32) (p1_marsh_plans_lengths : Nat → Int32) (p1_marsh_landings_cells : Nat → Int32) (p1_marsh_landings_count : Int32) (p1_marsh_fogSide : Int32) (p1_snapshot_reeds_states : Nat → Int32) (p1_snapshot_reeds_count : Int32) (p1_snapshot_reeds_broken : Int32) (p1_snapshot_fleet_numbers : Nat → Int32) (p1_snapshot_fleet_cells : Nat → Int32) (p1_snapshot_fleet_fares : Nat → Int32) (p1_snapshot_fleet_count : Int32) (p1_snapshot_fleet_nextNumber : Int32) (p1_snapshot_fleet_total : Int32) (p1_snapshot_fleet_removedFares : Int32) (p1_snapshot_fleet_meetings : Int32) (p1_snapshot_plans_moves : Nat → Int32) (p1_snapshot_plans_lengths : Nat → Int32) (p1_snapshot_landings_cells : Nat → Int32) (p1_snapshot_landings_count : Int32) (p1_snapshot_fogSide : Int32) (p1_history_count : Int32) (p1_snapshotTaken : Int32) (p2_changes : Int32) (p2_isSaved : Int32) (p2_v : Nat → Int32) (p2_saved : Nat → Int32) (p3 : Nat → Int64) : Option ((Nat → Int32) × Int32 × Int32 × (Nat → Int32) × (Nat → Int32) × (Nat → Int32) × Int32 × Int32 × Int32 × Int32 × Int32 × (Nat → Int32) × (Nat → Int32) × (Nat → Int32) × Int32 × Int32 × Int32 × Int32 × Int32 × (Nat → Int32) × (Nat → Int64)) := (f_L_restore p1_marsh_reeds_states p1_marsh_reeds_count p1_marsh_reeds_broken p1_marsh_fleet_numbers p1_marsh_fleet_cells p1_marsh_fleet_fares p1_marsh_fleet_count p1_marsh_fleet_nextNumber p1_marsh_fleet_total p1_marsh_fleet_removedFares p1_marsh_fleet_meetings p1_marsh_plans_moves p1_marsh_plans_lengths p1_marsh_landings_cells p1_marsh_landings_count p1_marsh_fogSide p1_snapshot_reeds_states p1_snapshot_reeds_count p1_snapshot_reeds_broken p1_snapshot_fleet_numbers p1_snapshot_fleet_cells p1_snapshot_fleet_fares p1_snapshot_fleet_count p1_snapshot_fleet_nextNumber p1_snapshot_fleet_total p1_snapshot_fleet_removedFares p1_snapshot_fleet_meetings p1_snapshot_plans_moves p1_snapshot_plans_lengths p1_snapshot_landings_cells p1_snapshot_landings_count p1_snapshot_fogSide p1_history_count p1_snapshotTaken p3).bind fun q3303 => (f_X13_restore K p2_changes p2_isSaved p2_v p2_saved).bind fun q3309 => (f_X13_thrown q3309.2.1).bind fun q3315 => if q3315 = q3303.1 then if q3303.1 = 0 then if (lg_cmp (q3303.2.2.2.2.2.2.2.2.2.2.2.2.2.2.2.2.2.2 0) q3309.1.toInt64) = 0 then some (q3303.2.1, q3303.2.2.1, q3303.2.2.2.1, q3303.2.2.2.2.1, q3303.2.2.2.2.2.1, q3303.2.2.2.2.2.2.1, q3303.2.2.2.2.2.2.2.1, q3303.2.2.2.2.2.2.2.2.1, q3303.2.2.2.2.2.2.2.2.2.1, q3303.2.2.2.2.2.2.2.2.2.2.1, q3303.2.2.2.2.2.2.2.2.2.2.2.1, q3303.2.2.2.2.2.2.2.2.2.2.2.2.1, q3303.2.2.2.2.2.2.2.2.2.2.2.2.2.1, q3303.2.2.2.2.2.2.2.2.2.2.2.2.2.2.1, q3303.2.2.2.2.2.2.2.2.2.2.2.2.2.2.2.1, q3303.2.2.2.2.2.2.2.2.2.2.2.2.2.2.2.2.1, q3303.2.2.2.2.2.2.2.2.2.2.2.2.2.2.2.2.2.1, q3309.2.1, q3309.2.2.1, q3309.2.2.2, q3303.2.2.2.2.2.2.2.2.2.2.2.2.2.2.2.2.2.2) else none else some (q3303.2.1, q3303.2.2.1, q3303.2.2.2.1, q3303.2.2.2.2.1, q3303.2.2.2.2.2.1, q3303.2.2.2.2.2.2.1, q3303.2.2.2.2.2.2.2.1, q3303.2.2.2.2.2.2.2.2.1, q3303.2.2.2.2.2.2.2.2.2.1, q3303.2.2.2.2.2.2.2.2.2.2.1, q3303.2.2.2.2.2.2.2.2.2.2.2.1, q3303.2.2.2.2.2.2.2.2.2.2.2.2.1, q3303.2.2.2.2.2.2.2.2.2.2.2.2.2.1, q3303.2.2.2.2.2.2.2.2.2.2.2.2.2.2.1, q3303.2.2.2.2.2.2.2.2.2.2.2.2.2.2.2.1, q3303.2.2.2.2.2.2.2.2.2.2.2.2.2.2.2.2.1, q3303.2.2.2.2.2.2.2.2.2.2.2.2.2.2.2.2.2.1, q3309.2.1, q3309.2.2.1, q3309.2.2.2, q3303.2.2.2.2.2.2.2.2.2.2.2.2.2.2.2.2.2.2) else none
set_option maxHeartbeats 4000000 in
set_option maxRecDepth 100000 in
theorem g_law58_c (hC : mm_C G A p s m c code 10 args "MirrorFerryLaw") (hsX : va_X b L xs s s.heap) (hbl : b < s.heap.size) (hbA : ¬ A b) (hd1 : b1 + 152 ≤ b2) (hd2 : b2 + 13 ≤ a3) (hd3 : a3 + 1 ≤ a4) (hrc : cells + 1000 ≤ room_1.cells) (hrs : slots + 10000 ≤ room_1.slots) (hfl : l.stackTraces = false) {K : Nat} {p1_marsh_reeds_states : Nat → Int32} {p1_marsh_reeds_count : Int32} {p1_marsh_reeds_broken : Int32} {p1_marsh_fleet_numbers : Nat → Int32} {p1_marsh_fleet_cells : Nat → Int32} {p1_marsh_fleet_fares : Nat → Int32} {p1_marsh_fleet_count : Int32} {p1_marsh_fleet_nextNumber : Int32} {p1_marsh_fleet_total : Int32} {p1_marsh_fleet_removedFares : Int32} {p1_marsh_fleet_meetings : Int32} {p1_marsh_plans_moves : Nat → Int32} {p1_marsh_plans_lengths : Nat → Int32} {p1_marsh_landings_cells : Nat → Int32} {p1_marsh_landings_count : Int32} {p1_marsh_fogSide : Int32} {p1_snapshot_reeds_states : Nat → Int32} {p1_snapshot_reeds_count : Int32} {p1_snapshot_reeds_broken : Int32} {p1_snapshot_fleet_numbers : Nat → Int32} {p1_snapshot_fleet_cells : Nat → Int32} {p1_snapshot_fleet_fares : Nat → Int32} {p1_snapshot_fleet_count : Int32} {p1_snapshot_fleet_nextNumber : Int32} {p1_snapshot_fleet_total : Int32} {p1_snapshot_fleet_removedFares : Int32} {p1_snapshot_fleet_meetings : Int32} {p1_snapshot_plans_moves : Nat → Int32} {p1_snapshot_plans_lengths : Nat → Int32} {p1_snapshot_landings_cells : Nat → Int32} {p1_snapshot_landings_count : Int32} {p1_snapshot_fogSide : Int32} {p1_history_slots : Nat → mm_MV} {p1_history_free : Int32} {p1_history_count : Int32} {p1_ways_tolls : Nat → Int32} {p1_ways_queue : Nat → Int32} {p1_ways_heap : Nat → Int32} {p1_ways_heapSize : Int32} {p1_ways_found : Nat → Int32} {p1_ways_improved : Nat → Int32} {p1_pairing_costs : Nat → Int32} {p1_pairing_best : Nat → Int32} {p1_reader_kinds : Nat → Int32} {p1_reader_starts : Nat → Int32} {p1_reader_count : Int32} {p1_commandText_signs : Nat → Int32} {p1_commandText_length : Int32} {p1_line_signs : Nat → Int32} {p1_line_length : Int32} {p1_spareMoves : Nat → Int32} {p1_snapshotTaken : Int32} {p1_lastErrorPosition : Int32} {p1_lastFailedCommand : Int32} {p2_thrown : Int32} {p2_changes : Int32} {p2_errorAt : Int32} {p2_failedAt : Int32} {p2_isSaved : Int32} {p2_v : Nat → Int32} {p2_before : Nat → Int32} {p2_saved : Nat → Int32} {p2_past : Nat → Int32} {p2_far : Nat → Int32} {p2_scratch : Nat → Int32} {p2_best : Nat → Int32} {p2_thenX : Int32} {p2_thenY : Int32} {p2_thenMet : Int32} {p2_text : Nat → Int32} {p2_line : Nat → Int32} {p2_isLeft : Nat → Int32} {p2_words : Nat → Int32} {p2_wordAt : Nat → Int32} {p2_textN : Int32} {p2_hereP : Int32} {p2_endP : Int32} {p2_lineN : Int32} {p2_isWrong : Int32} {p2_isDoing : Int32} {p3 : Nat → Int64} {p4 : Nat → UInt64} {x0 x1 x2 x3 x4 x5 : Int32} {X : (Nat → Int32) × Int32 × Int32 × (Nat → Int32) × (Nat → Int32) × (Nat → Int32) × Int32 × Int32 × Int32 × Int32 × Int32 × (Nat → Int32) × (Nat → Int32) × (Nat → Int32) × Int32 × Int32 × Int32 × Int32 × Int32 × (Nat → Int32) × (Nat → Int64)} (hf : g_law58 K p1_marsh_reeds_states p1_marsh_reeds_count p1_marsh_reeds_broken p1_marsh_fleet_numbers p1_marsh_fleet_cells p1_marsh_fleet_fares p1_marsh_fleet_count p1_marsh_fleet_nextNumber p1_marsh_fleet_total p1_marsh_fleet_removedFares p1_marsh_fleet_meetings p1_marsh_plans_moves p1_marsh_plans_lengths p1_marsh_landings_cells p1_marsh_landings_count p1_marsh_fogSide p1_snapshot_reeds_states p1_snapshot_reeds_count p1_snapshot_reeds_broken p1_snapshot_fleet_numbers p1_snapshot_fleet_cells p1_snapshot_fleet_fares p1_snapshot_fleet_count p1_snapshot_fleet_nextNumber p1_snapshot_fleet_total p1_snapshot_fleet_removedFares p1_snapshot_fleet_meetings p1_snapshot_plans_moves p1_snapshot_plans_lengths p1_snapshot_landings_cells p1_snapshot_landings_count p1_snapshot_fogSide p1_history_count p1_snapshotTaken p2_changes p2_isSaved p2_v p2_saved p3 = some X) (hp_p1 : At12 G w b1 p1_marsh_reeds_states p1_marsh_reeds_count p1_marsh_reeds_broken p1_marsh_fleet_numbers p1_marsh_fleet_cells p1_marsh_fleet_fares p1_marsh_fleet_count p1_marsh_fleet_nextNumber p1_marsh_fleet_total p1_marsh_fleet_removedFares p1_marsh_fleet_meetings p1_marsh_plans_moves p1_marsh_plans_lengths p1_marsh_landings_cells p1_marsh_landings_count p1_marsh_fogSide p1_snapshot_reeds_states p1_snapshot_reeds_count p1_snapshot_reeds_broken p1_snapshot_fleet_numbers p1_snapshot_fleet_cells p1_snapshot_fleet_fares p1_snapshot_fleet_count p1_snapshot_fleet_nextNumber p1_snapshot_fleet_total p1_snapshot_fleet_removedFares p1_snapshot_fleet_meetings p1_snapshot_plans_moves p1_snapshot_plans_lengths p1_snapshot_landings_cells p1_snapshot_landings_count p1_snapshot_fogSide p1_history_slots p1_history_free p1_history_count p1_ways_tolls p1_ways_queue p1_ways_heap p1_ways_heapSize p1_ways_found p1_ways_improved p1_pairing_costs p1_pairing_best p1_reader_kinds p1_reader_starts p1_reader_count p1_commandText_signs p1_commandText_length p1_line_signs p1_line_length p1_spareMoves p1_snapshotTaken p1_lastErrorPosition p1_lastFailedCommand) (hp_p2 : At13 G w b2 p2_thrown p2_changes p2_errorAt p2_failedAt p2_isSaved p2_v p2_before p2_saved p2_past p2_far p2_scratch p2_best p2_thenX p2_thenY p2_thenMet p2_text p2_line p2_isLeft p2_words p2_wordAt p2_textN p2_hereP p2_endP p2_lineN p2_isWrong p2_isDoing) (hp_p3 : (a3, (.inl (G.2 3, 1, .inr (.inl p3)) : va_E)) ∈ w) (hp_p4 : (a4, (.inl (G.2 4, 1, .inr (.inr (.inr (.inl p4)))) : va_E)) ∈ w)
    (hsc : ∀ k : Nat, k < 5 → vp_in (x5 + Int32.ofNat k) L ∧ xs (x5 + Int32.ofNat k).toNatClampNeg = mm_x5 x0 x1 x2 x3 x4 k) (hM : mm_S G A s.heap w H locs)
    (hk : ∀ (w : va_W) (H : Heap) (locs : List Loc), mm_S G A s.heap w H locs → At12 G w b1 X.1 X.2.1 X.2.2.1 X.2.2.2.1 X.2.2.2.2.1 X.2.2.2.2.2.1 X.2.2.2.2.2.2.1 X.2.2.2.2.2.2.2.1 X.2.2.2.2.2.2.2.2.1 X.2.2.2.2.2.2.2.2.2.1 X.2.2.2.2.2.2.2.2.2.2.1 X.2.2.2.2.2.2.2.2.2.2.2.1 X.2.2.2.2.2.2.2.2.2.2.2.2.1 X.2.2.2.2.2.2.2.2.2.2.2.2.2.1 X.2.2.2.2.2.2.2.2.2.2.2.2.2.2.1 X.2.2.2.2.2.2.2.2.2.2.2.2.2.2.2.1 p1_snapshot_reeds_states p1_snapshot_reeds_count p1_snapshot_reeds_broken p1_snapshot_fleet_numbers p1_snapshot_fleet_cells p1_snapshot_fleet_fares p1_snapshot_fleet_count p1_snapshot_fleet_nextNumber p1_snapshot_fleet_total p1_snapshot_fleet_removedFares p1_snapshot_fleet_meetings p1_snapshot_plans_moves p1_snapshot_plans_lengths p1_snapshot_landings_cells p1_snapshot_landings_count p1_snapshot_fogSide p1_history_slots p1_history_free X.2.2.2.2.2.2.2.2.2.2.2.2.2.2.2.2.1 p1_ways_tolls p1_ways_queue p1_ways_heap p1_ways_heapSize p1_ways_found p1_ways_improved p1_pairing_costs p1_pairing_best p1_reader_kinds p1_reader_starts p1_reader_count p1_commandText_signs p1_commandText_length p1_line_signs p1_line_length p1_spareMoves p1_snapshotTaken p1_lastErrorPosition p1_lastFailedCommand → At13 G w b2 X.2.2.2.2.2.2.2.2.2.2.2.2.2.2.2.2.2.1 X.2.2.2.2.2.2.2.2.2.2.2.2.2.2.2.2.2.2.1 p2_errorAt p2_failedAt p2_isSaved X.2.2.2.2.2.2.2.2.2.2.2.2.2.2.2.2.2.2.2.1 p2_before p2_saved p2_past p2_far p2_scratch p2_best p2_thenX p2_thenY p2_thenMet p2_text p2_line p2_isLeft p2_words p2_wordAt p2_textN p2_hereP p2_endP p2_lineN p2_isWrong p2_isDoing → (a3, (.inl (G.2 3, 1, .inr (.inl X.2.2.2.2.2.2.2.2.2.2.2.2.2.2.2.2.2.2.2.2)) : va_E)) ∈ w → (a4, (.inl (G.2 4, 1, .inr (.inr (.inr (.inl p4)))) : va_E)) ∈ w → ∀ ls, lv_has ls 10 [(0, .ref b), (1, .ref b1), (2, .ref b2), (3, .ref a3), (4, .ref a4), (5, .int x5)] → W p l e room_1 s m args below meth c H locs (cells + 1000) (slots + 10000) Q (F0 m 3345 ls [])) (ls : Array Slot) (hl : lv_has ls 10 [(0, .ref b), (1, .ref b1), (2, .ref b2), (3, .ref a3), (4, .ref a4), (5, .int x5)]) : W p l e room_1 s m args below meth c H locs cells slots Q (F0 m 3301 ls []) := by
  have hx := hC.1.1
  have hb := hC.1.2.1
  rw [g_law58] at hf
  refine lv_aload_n hx hb dL_law_3301 rfl (lv_at hl 1 rfl) ?_
  refine lv_aload_n hx hb dL_law_3302 rfl (lv_at hl 3 rfl) ?_
  obtain ⟨q3303, hq3303, hf⟩ := mm_bd hf
  refine mm_SiW (rest := []) hC hM (c_L_restore l hfl hq3303 hp_p1 hp_p3 (by omega)) q6_230 q1_0 ykL_restore q6_228 q6_229 ⟨rfl, rfl⟩ ⟨Nat.le_of_ble_eq_true rfl, Nat.le_of_ble_eq_true rfl⟩ rfl hl.1 rfl (Nat.le_of_ble_eq_true rfl) dL_law_3303 ⟨by omega, by omega⟩ (fun r w3303 H locs hM hw => ?_)
  obtain ⟨hr, hn_p0, hn_p1, hfr⟩ := hw
  rw [hr]
  have hp_p2 := hp_p2.keep2 hfr (by omega) (by omega)
  have hp_p4 := hfr.keep hp_p4 (by omega) (by omega)
  have hp_p1 := hn_p0
  have hp_p3 := hn_p1
  refine lv_istore (lv' := [(6, .int q3303.1), (0, .ref b), (1, .ref b1), (2, .ref b2), (3, .ref a3), (4, .ref a4), (5, .int x5)]) hx hb dL_law_3306 hl (by decide) rfl (fun ls hl => ?_)
  refine lv_aload_n hx hb dL_law_3308 rfl (lv_at hl 3 rfl) ?_
  obtain ⟨q3309, hq3309, hf⟩ := mm_bd hf
  refine mm_Vi (rest := []) hC hM (c_X13_restore l hq3309 hp_p2) q9_87 q1_12 ykX13_restore q9_84 q9_85 q9_86 hp_p2.1 rfl ⟨rfl, rfl⟩ ⟨Nat.le_of_ble_eq_true rfl, Nat.le_of_ble_eq_true rfl⟩ rfl hl.1 rfl (Nat.le_of_ble_eq_true rfl) dL_law_3309 ⟨by omega, by omega⟩ (fun r w3309 H locs hM hw => ?_)
  obtain ⟨hr, hn_this, hfr⟩ := hw
  rw [hr]
  have hp_p1 := hp_p1.keep hfr (by omega)
  have hp_p3 := hfr.keep hp_p3 (by omega)
  have hp_p4 := hfr.keep hp_p4 (by omega)
  have hp_p2 := hn_this
  refine lv_istore (lv' := [(7, .int q3309.1), (6, .int q3303.1), (0, .ref b), (1, .ref b1), (2, .ref b2), (3, .ref a3), (4, .ref a4), (5, .int x5)]) hx hb dL_law_3312 hl (by decide) rfl (fun ls hl => ?_)
  refine lv_aload_n hx hb dL_law_3314 rfl (lv_at hl 4 rfl) ?_
  obtain ⟨q3315, hq3315, hf⟩ := mm_bd hf
  refine mm_Vi (rest := []) hC hM (c_X13_thrown l hq3315 hp_p2) q7_87 q1_12 ykX13_thrown q7_84 q7_85 q7_86 hp_p2.1 rfl ⟨rfl, rfl⟩ ⟨Nat.le_of_ble_eq_true rfl, Nat.le_of_ble_eq_true rfl⟩ rfl hl.1 rfl (Nat.le_of_ble_eq_true rfl) dL_law_3315 ⟨by omega, by omega⟩ (fun r w3315 H locs hM hw => ?_)
  obtain ⟨hr, hw⟩ := hw
  rw [hr]
  rw [hw] at hM
  refine lv_iload hx hb dL_law_3318 (lv_at hl 1 rfl) ?_
  refine lv_icmp_eq (tgt := 3325) hx hb dL_law_3320 (by decide) (fun hcd => ?_) (fun hcd => ?_)
  · rw [if_pos hcd] at hf
    refine lv_iload hx hb dL_law_3325 (lv_at hl 1 rfl) ?_
    refine lv_if_ne (tgt := 3342) hx hb dL_law_3327 (by decide) (fun hcd => ?_) (fun hcd => ?_)
    · rw [if_neg hcd] at hf
      refine lv_goto (tgt := 3345) hx hb dL_law_3342 (by decide) ?_
      cases hf
      exact W.widen (by omega) (by omega) (hk _ _ _ hM hp_p1 hp_p2 hp_p3 hp_p4 _ (lv_sub hl [2, 3, 4, 5, 6, 7] rfl))
    · rw [if_pos hcd] at hf
      refine lv_aload_n hx hb dL_law_3330 rfl (lv_at hl 5 rfl) ?_
      refine lv_iconst (v := 0) hx hb dL_law_3331 (by decide) ?_
      refine mm_lald0 hC hM hp_p3 dL_law_3332 ?_
      refine lv_iload hx hb dL_law_3333 (lv_at hl 0 rfl) ?_
      refine lv_i2l hx hb dL_law_3335 rfl ?_
      refine W.lcmp hx hb dL_law_3336 ?_
      refine lv_if_eq (tgt := 3342) hx hb dL_law_3337 (by decide) (fun hcd => ?_) (fun hcd => ?_)
      · rw [if_pos hcd] at hf
        refine lv_goto (tgt := 3345) hx hb dL_law_3342 (by decide) ?_
        cases hf
        exact W.widen (by omega) (by omega) (hk _ _ _ hM hp_p1 hp_p2 hp_p3 hp_p4 _ (lv_sub hl [2, 3, 4, 5, 6, 7] rfl))
      · rw [if_neg hcd] at hf
        refine lv_iconst (v := 0) hx hb dL_law_3340 (by decide) ?_
        cases hf
  · rw [if_neg hcd] at hf
    refine lv_iconst (v := 0) hx hb dL_law_3323 (by decide) ?_
    cases hf
end GLAW
