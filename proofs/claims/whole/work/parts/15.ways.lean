def f_X11_setPlainTolls_L2 (p1_reeds_states : Nat → Int32) : Nat → (Int32) → (Nat → Int32) → Option (Nat → Int32)
  | 0, _, _ => none
  | n + 1, x2, tolls => if 81 ≤ x2 then some tolls else (f_X9_isOpen p1_reeds_states x2).bind fun q18 => if q18 = 0 then mm_g (mm_ck x2 81) (f_X11_setPlainTolls_L2 p1_reeds_states n (x2 + 1) (upd tolls x2.toNatClampNeg (-1))) else mm_g (mm_ck x2 81) (f_X11_setPlainTolls_L2 p1_reeds_states n (x2 + 1) (upd tolls x2.toNatClampNeg 1))
def f_X11_setPlainTolls (K : Nat) (tolls : Nat → Int32) (p1_reeds_states : Nat → Int32) : Option (Nat → Int32) := (f_X11_setPlainTolls_L2 p1_reeds_states K 0 tolls).bind fun q2 => some q2
set_option maxHeartbeats 4000000 in
set_option maxRecDepth 100000 in
theorem c_X11_setPlainTolls (l : Launch) {G : mm_G} {K : Nat} {w : va_W} {sz : Nat} {b : Nat} {b1 : Nat} {tolls : Nat → Int32} {queue : Nat → Int32} {heap : Nat → Int32} {heapSize : Int32} {found : Nat → Int32} {improved : Nat → Int32} {p1_reeds_states : Nat → Int32} {p1_reeds_count : Int32} {p1_reeds_broken : Int32} {p1_fleet_numbers : Nat → Int32} {p1_fleet_cells : Nat → Int32} {p1_fleet_fares : Nat → Int32} {p1_fleet_count : Int32} {p1_fleet_nextNumber : Int32} {p1_fleet_total : Int32} {p1_fleet_removedFares : Int32} {p1_fleet_meetings : Int32} {p1_plans_moves : Nat → Int32} {p1_plans_lengths : Nat → Int32} {p1_landings_cells : Nat → Int32} {p1_landings_count : Int32} {p1_fogSide : Int32} {X : Nat → Int32} (hf : f_X11_setPlainTolls K tolls p1_reeds_states = some X) (hp_this : At11 G w b tolls queue heap heapSize found improved) (hp_p1 : At6 G w b1 p1_reeds_states p1_reeds_count p1_reeds_broken p1_fleet_numbers p1_fleet_cells p1_fleet_fares p1_fleet_count p1_fleet_nextNumber p1_fleet_total p1_fleet_removedFares p1_fleet_meetings p1_plans_moves p1_plans_lengths p1_landings_cells p1_landings_count p1_fogSide) (hd0 : b + 6 ≤ b1 ∨ b1 + 12 ≤ b) : Met l yX11_setPlainTolls (Cond.code yX11_setPlainTolls cX11_setPlainTolls 3 none :: gAll) ({ frames := 2, cells := 0, slots := 0, locals := 41 }) (va_Pc [.ref b, .ref b1] (mm_Pre G w sz)) (mm_Qv G w sz (fun w' => At11 G w' b X queue heap heapSize found improved ∧ mm_fr w w' b (b + 6))) 0 0 (va_A w sz) := by
  refine mm_headV [.ref b, .ref b1] (by decide +kernel) rfl (Nat.le_of_ble_eq_true rfl) ?_
  intro p e s m args below meth c A Q hsz hC hM hret hnm ls hl
  have hx := hC.1.1
  have hb := hC.1.2.1
  have hl : lv_has ls 3 [(0, .ref b), (1, .ref b1)] := hl
  have hF : mm_fr w w b (b + 6) := mm_fr.rf
  rw [f_X11_setPlainTolls] at hf
  refine lv_iconst (v := 0) hx hb dX11_setPlainTolls_0 (by decide) ?_
  refine lv_istore_n (lv' := [(2, .int 0), (0, .ref b), (1, .ref b1)]) hx hb dX11_setPlainTolls_1 rfl hl (by decide) rfl (fun ls hl => ?_)
  have L2 : ∀ (n : Nat) (L2_x2 : Int32) (L2_tolls : Nat → Int32) (X : Nat → Int32), f_X11_setPlainTolls_L2 p1_reeds_states n L2_x2 L2_tolls = some X → ∀ (L2_w : va_W) (H : Heap) (locs : List Loc), mm_S G A s.heap L2_w H locs → At11 G L2_w b L2_tolls queue heap heapSize found improved → At6 G L2_w b1 p1_reeds_states p1_reeds_count p1_reeds_broken p1_fleet_numbers p1_fleet_cells p1_fleet_fares p1_fleet_count p1_fleet_nextNumber p1_fleet_total p1_fleet_removedFares p1_fleet_meetings p1_plans_moves p1_plans_lengths p1_landings_cells p1_landings_count p1_fogSide → mm_fr w L2_w b (b + 6) → ∀ (ls : Array Slot), lv_has ls 3 [(0, .ref b), (1, .ref b1), (2, .int L2_x2)] → (∀ (w9 : va_W) (H : Heap) (locs : List Loc), mm_S G A s.heap w9 H locs → At11 G w9 b X queue heap heapSize found improved → At6 G w9 b1 p1_reeds_states p1_reeds_count p1_reeds_broken p1_fleet_numbers p1_fleet_cells p1_fleet_fares p1_fleet_count p1_fleet_nextNumber p1_fleet_total p1_fleet_removedFares p1_fleet_meetings p1_plans_moves p1_plans_lengths p1_landings_cells p1_landings_count p1_fogSide → mm_fr w w9 b (b + 6) → ∀ (ls : Array Slot), lv_has ls 3 [] → W p l e ({ frames := 2, cells := 0, slots := 0, locals := 41 } : Room) s m args below meth c H locs 0 0 Q (F0 m 36 ls [])) → W p l e ({ frames := 2, cells := 0, slots := 0, locals := 41 } : Room) s m args below meth c H locs 0 0 Q (F0 m 2 ls []) := by
    intro n
    induction n with
    | zero => intro L2_x2 L2_tolls X hf; cases hf
    | succ n ih =>
      intro L2_x2 L2_tolls X hf L2_w H locs hM hp_this hp_p1 hF ls hl hk
      rw [f_X11_setPlainTolls_L2] at hf
      refine lv_iload_n hx hb dX11_setPlainTolls_2 rfl (lv_at hl 2 rfl) ?_
      refine lv_bipush (v := 81) hx hb dX11_setPlainTolls_3 (by decide) ?_
      refine lv_icmp_ge (tgt := 36) hx hb dX11_setPlainTolls_5 (by decide) (fun hcd => ?_) (fun hcd => ?_)
      · rw [if_pos hcd] at hf
        cases hf
        exact hk _ _ _ hM hp_this hp_p1 hF _ (lv_sub hl [] rfl)
      · rw [if_neg hcd] at hf
        refine lv_aload_n hx hb dX11_setPlainTolls_8 rfl (lv_at hl 0 rfl) ?_
        refine mm_get hC hM (k := 0) hp_this.1 rfl inAX11 (by decide) q1_186 rfl dX11_setPlainTolls_9 ?_
        refine lv_iload_n hx hb dX11_setPlainTolls_12 rfl (lv_at hl 2 rfl) ?_
        refine lv_aload_n hx hb dX11_setPlainTolls_13 rfl (lv_at hl 1 rfl) ?_
        refine mm_get hC hM (k := 0) hp_p1.1 rfl inAX6 (by decide) q1_139 rfl dX11_setPlainTolls_14 ?_
        refine lv_iload_n hx hb dX11_setPlainTolls_17 rfl (lv_at hl 2 rfl) ?_
        obtain ⟨q18, hq18, hf⟩ := mm_bd hf
        refine mm_Vi (rest := [.int L2_x2, .ref (b + 1)]) hC hM (c_X9_isOpen l hq18 (hp_p1.2.1)) q2_129 q1_3 ykX9_isOpen q2_143 q2_127 q2_128 (hp_p1.2.1).1 rfl ⟨rfl, rfl⟩ ⟨Nat.le_of_ble_eq_true rfl, Nat.le_of_ble_eq_true rfl⟩ rfl hl.1 rfl (Nat.le_of_ble_eq_true rfl) dX11_setPlainTolls_18 ⟨Nat.le_of_ble_eq_true rfl, Nat.le_of_ble_eq_true rfl⟩ (fun r w18 H locs hM hw => ?_)
        obtain ⟨hr, hw⟩ := hw
        rw [hr]
        rw [hw] at hM
        refine lv_if_eq (tgt := 28) hx hb dX11_setPlainTolls_21 (by decide) (fun hcd => ?_) (fun hcd => ?_)
        · rw [if_pos hcd] at hf
          refine lv_iconst (v := (-1)) hx hb dX11_setPlainTolls_28 (by decide) ?_
          obtain ⟨hg29, hf⟩ := mm_gd hf
          refine mm_iast hC hM (hp_this.2.1) hg29 dX11_setPlainTolls_29 (fun w29 H locs hM hm => ?_)
          have hp_this : At11 G w29 b (upd L2_tolls L2_x2.toNatClampNeg (-1)) queue heap heapSize found improved := ⟨hm.keep (hp_this.1) (by omega), hm.1, hm.keep (hp_this.2.2.1) (by omega), hm.keep (hp_this.2.2.2.1) (by omega), hm.keep (hp_this.2.2.2.2.1) (by omega), hm.keep (hp_this.2.2.2.2.2) (by omega)⟩
          have hp_p1 := hp_p1.up hm (by omega)
          have hF := hF.tr (hm.fr (by omega) (by omega))
          refine lv_iinc (v := (L2_x2 + 1)) (lv' := [(2, .int (L2_x2 + 1)), (0, .ref b), (1, .ref b1)]) hx hb dX11_setPlainTolls_30 hl (k := 2) rfl rfl (by decide) rfl (fun ls hl => ?_)
          refine lv_goto (tgt := 2) hx hb dX11_setPlainTolls_33 (by decide) ?_
          exact ih _ _ _ hf _ _ _ hM hp_this hp_p1 hF _ (lv_sub hl [1, 2, 0] rfl) hk
        · rw [if_neg hcd] at hf
          refine lv_iconst (v := 1) hx hb dX11_setPlainTolls_24 (by decide) ?_
          refine lv_goto (tgt := 29) hx hb dX11_setPlainTolls_25 (by decide) ?_
          obtain ⟨hg29, hf⟩ := mm_gd hf
          refine mm_iast hC hM (hp_this.2.1) hg29 dX11_setPlainTolls_29 (fun w29 H locs hM hm => ?_)
          have hp_this : At11 G w29 b (upd L2_tolls L2_x2.toNatClampNeg 1) queue heap heapSize found improved := ⟨hm.keep (hp_this.1) (by omega), hm.1, hm.keep (hp_this.2.2.1) (by omega), hm.keep (hp_this.2.2.2.1) (by omega), hm.keep (hp_this.2.2.2.2.1) (by omega), hm.keep (hp_this.2.2.2.2.2) (by omega)⟩
          have hp_p1 := hp_p1.up hm (by omega)
          have hF := hF.tr (hm.fr (by omega) (by omega))
          refine lv_iinc (v := (L2_x2 + 1)) (lv' := [(2, .int (L2_x2 + 1)), (0, .ref b), (1, .ref b1)]) hx hb dX11_setPlainTolls_30 hl (k := 2) rfl rfl (by decide) rfl (fun ls hl => ?_)
          refine lv_goto (tgt := 2) hx hb dX11_setPlainTolls_33 (by decide) ?_
          exact ih _ _ _ hf _ _ _ hM hp_this hp_p1 hF _ (lv_sub hl [1, 2, 0] rfl) hk
  obtain ⟨q2, hq2, hf⟩ := mm_bd hf
  refine L2 K _ _ _ hq2 _ _ _ hM hp_this hp_p1 hF _ (lv_sub hl [1, 2, 0] rfl) (fun w2 H locs hM hp_this hp_p1 hF ls hl => ?_)
  cases hf
  exact hret hM dX11_setPlainTolls_36 ⟨hp_this, hF⟩
def f_X6_isFoggy (fogSide : Int32) (x1 : Int32) : Option (Int32) := if fogSide = 1 then (f_X12_column x1).bind fun q9 => if q9 < 4 then some 1 else if fogSide = 2 then (f_X12_column x1).bind fun q25 => if q25 ≤ 4 then some 0 else some 1 else some 0 else if fogSide = 2 then (f_X12_column x1).bind fun q25 => if q25 ≤ 4 then some 0 else some 1 else some 0
set_option maxHeartbeats 4000000 in
set_option maxRecDepth 100000 in
theorem c_X6_isFoggy (l : Launch) {G : mm_G} {w : va_W} {sz : Nat} {b : Nat} {reeds_states : Nat → Int32} {reeds_count : Int32} {reeds_broken : Int32} {fleet_numbers : Nat → Int32} {fleet_cells : Nat → Int32} {fleet_fares : Nat → Int32} {fleet_count : Int32} {fleet_nextNumber : Int32} {fleet_total : Int32} {fleet_removedFares : Int32} {fleet_meetings : Int32} {plans_moves : Nat → Int32} {plans_lengths : Nat → Int32} {landings_cells : Nat → Int32} {landings_count : Int32} {fogSide : Int32} {x1 : Int32} {X : Int32} (hf : f_X6_isFoggy fogSide x1 = some X) (hp_this : At6 G w b reeds_states reeds_count reeds_broken fleet_numbers fleet_cells fleet_fares fleet_count fleet_nextNumber fleet_total fleet_removedFares fleet_meetings plans_moves plans_lengths landings_cells landings_count fogSide) : Met l yX6_isFoggy (Cond.code yX6_isFoggy cX6_isFoggy 2 (some .boolean) :: gAll) ({ frames := 1, cells := 0, slots := 0, locals := 20 }) (va_Pc [.ref b, .int x1] (mm_Pre G w sz)) (mm_Qi G w sz (fun r w' => r = X ∧ w' = w)) 0 0 (va_A w sz) := by
  refine mm_headI [.ref b, .int x1] (by decide +kernel) rfl (Nat.le_of_ble_eq_true rfl) ?_
  intro p e s m args below meth c A Q hsz hC hM hret ls hl
  have hx := hC.1.1
  have hb := hC.1.2.1
  have hl : lv_has ls 2 [(0, .ref b), (1, .int x1)] := hl
  rw [f_X6_isFoggy] at hf
  refine lv_aload_n hx hb dX6_isFoggy_0 rfl (lv_at hl 0 rfl) ?_
  refine mm_get hC hM (k := 4) hp_this.1 rfl inAX6 (by decide) q1_147 rfl dX6_isFoggy_1 ?_
  refine lv_iconst (v := 1) hx hb dX6_isFoggy_4 (by decide) ?_
  refine lv_icmp_ne (tgt := 16) hx hb dX6_isFoggy_5 (by decide) (fun hcd => ?_) (fun hcd => ?_)
  · rw [if_neg hcd] at hf
    refine lv_aload_n hx hb dX6_isFoggy_16 rfl (lv_at hl 0 rfl) ?_
    refine mm_get hC hM (k := 4) hp_this.1 rfl inAX6 (by decide) q1_147 rfl dX6_isFoggy_17 ?_
    refine lv_iconst (v := 2) hx hb dX6_isFoggy_20 (by decide) ?_
    refine lv_icmp_ne (tgt := 36) hx hb dX6_isFoggy_21 (by decide) (fun hcd => ?_) (fun hcd => ?_)
    · rw [if_neg hcd] at hf
      refine lv_iconst (v := 0) hx hb dX6_isFoggy_36 (by decide) ?_
      cases hf
      exact hret hM dX6_isFoggy_37 rfl ⟨rfl, rfl⟩
    · rw [if_pos hcd] at hf
      refine lv_iload_n hx hb dX6_isFoggy_24 rfl (lv_at hl 1 rfl) ?_
      obtain ⟨q25, hq25, hf⟩ := mm_bd hf
      refine mm_SNi (rest := []) hC hM (c_X12_column l hq25) q2_189 q1_1 ykX12_column q2_187 q2_188 ⟨rfl, rfl⟩ ⟨Nat.le_of_ble_eq_true rfl, Nat.le_of_ble_eq_true rfl⟩ rfl hl.1 rfl (Nat.le_of_ble_eq_true rfl) dX6_isFoggy_25 ⟨Nat.le_of_ble_eq_true rfl, Nat.le_of_ble_eq_true rfl⟩ (fun r w25 H locs hM hw => ?_)
      obtain ⟨hr, hw⟩ := hw
      rw [hr]
      rw [hw] at hM
      refine lv_iconst (v := 4) hx hb dX6_isFoggy_28 (by decide) ?_
      refine lv_icmp_le (tgt := 36) hx hb dX6_isFoggy_29 (by decide) (fun hcd => ?_) (fun hcd => ?_)
      · rw [if_pos hcd] at hf
        refine lv_iconst (v := 0) hx hb dX6_isFoggy_36 (by decide) ?_
        cases hf
        exact hret hM dX6_isFoggy_37 rfl ⟨rfl, rfl⟩
      · rw [if_neg hcd] at hf
        refine lv_iconst (v := 1) hx hb dX6_isFoggy_32 (by decide) ?_
        refine lv_goto (tgt := 37) hx hb dX6_isFoggy_33 (by decide) ?_
        cases hf
        exact hret hM dX6_isFoggy_37 rfl ⟨rfl, rfl⟩
  · rw [if_pos hcd] at hf
    refine lv_iload_n hx hb dX6_isFoggy_8 rfl (lv_at hl 1 rfl) ?_
    obtain ⟨q9, hq9, hf⟩ := mm_bd hf
    refine mm_SNi (rest := []) hC hM (c_X12_column l hq9) q2_189 q1_1 ykX12_column q2_187 q2_188 ⟨rfl, rfl⟩ ⟨Nat.le_of_ble_eq_true rfl, Nat.le_of_ble_eq_true rfl⟩ rfl hl.1 rfl (Nat.le_of_ble_eq_true rfl) dX6_isFoggy_9 ⟨Nat.le_of_ble_eq_true rfl, Nat.le_of_ble_eq_true rfl⟩ (fun r w9 H locs hM hw => ?_)
    obtain ⟨hr, hw⟩ := hw
    rw [hr]
    rw [hw] at hM
    refine lv_iconst (v := 4) hx hb dX6_isFoggy_12 (by decide) ?_
    refine lv_icmp_lt (tgt := 32) hx hb dX6_isFoggy_13 (by decide) (fun hcd => ?_) (fun hcd => ?_)
    · rw [if_pos hcd] at hf
      refine lv_iconst (v := 1) hx hb dX6_isFoggy_32 (by decide) ?_
      refine lv_goto (tgt := 37) hx hb dX6_isFoggy_33 (by decide) ?_
      cases hf
      exact hret hM dX6_isFoggy_37 rfl ⟨rfl, rfl⟩
    · rw [if_neg hcd] at hf
      refine lv_aload_n hx hb dX6_isFoggy_16 rfl (lv_at hl 0 rfl) ?_
      refine mm_get hC hM (k := 4) hp_this.1 rfl inAX6 (by decide) q1_147 rfl dX6_isFoggy_17 ?_
      refine lv_iconst (v := 2) hx hb dX6_isFoggy_20 (by decide) ?_
      refine lv_icmp_ne (tgt := 36) hx hb dX6_isFoggy_21 (by decide) (fun hcd => ?_) (fun hcd => ?_)
      · rw [if_neg hcd] at hf
        refine lv_iconst (v := 0) hx hb dX6_isFoggy_36 (by decide) ?_
        cases hf
        exact hret hM dX6_isFoggy_37 rfl ⟨rfl, rfl⟩
      · rw [if_pos hcd] at hf
        refine lv_iload_n hx hb dX6_isFoggy_24 rfl (lv_at hl 1 rfl) ?_
        obtain ⟨q25, hq25, hf⟩ := mm_bd hf
        refine mm_SNi (rest := []) hC hM (c_X12_column l hq25) q2_189 q1_1 ykX12_column q2_187 q2_188 ⟨rfl, rfl⟩ ⟨Nat.le_of_ble_eq_true rfl, Nat.le_of_ble_eq_true rfl⟩ rfl hl.1 rfl (Nat.le_of_ble_eq_true rfl) dX6_isFoggy_25 ⟨Nat.le_of_ble_eq_true rfl, Nat.le_of_ble_eq_true rfl⟩ (fun r w25 H locs hM hw => ?_)
        obtain ⟨hr, hw⟩ := hw
        rw [hr]
        rw [hw] at hM
        refine lv_iconst (v := 4) hx hb dX6_isFoggy_28 (by decide) ?_
        refine lv_icmp_le (tgt := 36) hx hb dX6_isFoggy_29 (by decide) (fun hcd => ?_) (fun hcd => ?_)
        · rw [if_pos hcd] at hf
          refine lv_iconst (v := 0) hx hb dX6_isFoggy_36 (by decide) ?_
          cases hf
          exact hret hM dX6_isFoggy_37 rfl ⟨rfl, rfl⟩
        · rw [if_neg hcd] at hf
          refine lv_iconst (v := 1) hx hb dX6_isFoggy_32 (by decide) ?_
          refine lv_goto (tgt := 37) hx hb dX6_isFoggy_33 (by decide) ?_
          cases hf
          exact hret hM dX6_isFoggy_37 rfl ⟨rfl, rfl⟩
def f_X11_setFogTolls_L2 (p1_reeds_states : Nat → Int32) (p1_fogSide : Int32) : Nat → (Int32) → (Nat → Int32) → Option (Nat → Int32)
  | 0, _, _ => none
  | n + 1, x2, tolls => if 81 ≤ x2 then some tolls else (f_X6_isFoggy p1_fogSide x2).bind fun q10 => if q10 = 0 then (f_X9_isOpen p1_reeds_states x2).bind fun q32 => if q32 = 0 then mm_g (mm_ck x2 81) (f_X11_setFogTolls_L2 p1_reeds_states p1_fogSide n (x2 + 1) (upd tolls x2.toNatClampNeg (-1))) else mm_g (mm_ck x2 81) (f_X11_setFogTolls_L2 p1_reeds_states p1_fogSide n (x2 + 1) (upd tolls x2.toNatClampNeg 1)) else (f_X9_isOpen p1_reeds_states x2).bind fun q32 => if q32 = 0 then mm_g (mm_ck x2 81) (f_X11_setFogTolls_L2 p1_reeds_states p1_fogSide n (x2 + 1) (upd tolls x2.toNatClampNeg (-1))) else mm_g (mm_ck x2 81) (f_X11_setFogTolls_L2 p1_reeds_states p1_fogSide n (x2 + 1) (upd tolls x2.toNatClampNeg 2))
def f_X11_setFogTolls (K : Nat) (tolls : Nat → Int32) (p1_reeds_states : Nat → Int32) (p1_fogSide : Int32) : Option (Nat → Int32) := (f_X11_setFogTolls_L2 p1_reeds_states p1_fogSide K 0 tolls).bind fun q2 => some q2
set_option maxHeartbeats 4000000 in
set_option maxRecDepth 100000 in
theorem c_X11_setFogTolls (l : Launch) {G : mm_G} {K : Nat} {w : va_W} {sz : Nat} {b : Nat} {b1 : Nat} {tolls : Nat → Int32} {queue : Nat → Int32} {heap : Nat → Int32} {heapSize : Int32} {found : Nat → Int32} {improved : Nat → Int32} {p1_reeds_states : Nat → Int32} {p1_reeds_count : Int32} {p1_reeds_broken : Int32} {p1_fleet_numbers : Nat → Int32} {p1_fleet_cells : Nat → Int32} {p1_fleet_fares : Nat → Int32} {p1_fleet_count : Int32} {p1_fleet_nextNumber : Int32} {p1_fleet_total : Int32} {p1_fleet_removedFares : Int32} {p1_fleet_meetings : Int32} {p1_plans_moves : Nat → Int32} {p1_plans_lengths : Nat → Int32} {p1_landings_cells : Nat → Int32} {p1_landings_count : Int32} {p1_fogSide : Int32} {X : Nat → Int32} (hf : f_X11_setFogTolls K tolls p1_reeds_states p1_fogSide = some X) (hp_this : At11 G w b tolls queue heap heapSize found improved) (hp_p1 : At6 G w b1 p1_reeds_states p1_reeds_count p1_reeds_broken p1_fleet_numbers p1_fleet_cells p1_fleet_fares p1_fleet_count p1_fleet_nextNumber p1_fleet_total p1_fleet_removedFares p1_fleet_meetings p1_plans_moves p1_plans_lengths p1_landings_cells p1_landings_count p1_fogSide) (hd0 : b + 6 ≤ b1 ∨ b1 + 12 ≤ b) : Met l yX11_setFogTolls (Cond.code yX11_setFogTolls cX11_setFogTolls 4 none :: gAll) ({ frames := 2, cells := 0, slots := 0, locals := 41 }) (va_Pc [.ref b, .ref b1] (mm_Pre G w sz)) (mm_Qv G w sz (fun w' => At11 G w' b X queue heap heapSize found improved ∧ mm_fr w w' b (b + 6))) 0 0 (va_A w sz) := by
  refine mm_headV [.ref b, .ref b1] (by decide +kernel) rfl (Nat.le_of_ble_eq_true rfl) ?_
  intro p e s m args below meth c A Q hsz hC hM hret hnm ls hl
  have hx := hC.1.1
  have hb := hC.1.2.1
  have hl : lv_has ls 4 [(0, .ref b), (1, .ref b1)] := hl
  have hF : mm_fr w w b (b + 6) := mm_fr.rf
  rw [f_X11_setFogTolls] at hf
  refine lv_iconst (v := 0) hx hb dX11_setFogTolls_0 (by decide) ?_
  refine lv_istore_n (lv' := [(2, .int 0), (0, .ref b), (1, .ref b1)]) hx hb dX11_setFogTolls_1 rfl hl (by decide) rfl (fun ls hl => ?_)
  have L2 : ∀ (n : Nat) (L2_x2 : Int32) (L2_tolls : Nat → Int32) (X : Nat → Int32), f_X11_setFogTolls_L2 p1_reeds_states p1_fogSide n L2_x2 L2_tolls = some X → ∀ (L2_w : va_W) (H : Heap) (locs : List Loc), mm_S G A s.heap L2_w H locs → At11 G L2_w b L2_tolls queue heap heapSize found improved → At6 G L2_w b1 p1_reeds_states p1_reeds_count p1_reeds_broken p1_fleet_numbers p1_fleet_cells p1_fleet_fares p1_fleet_count p1_fleet_nextNumber p1_fleet_total p1_fleet_removedFares p1_fleet_meetings p1_plans_moves p1_plans_lengths p1_landings_cells p1_landings_count p1_fogSide → mm_fr w L2_w b (b + 6) → ∀ (ls : Array Slot), lv_has ls 4 [(0, .ref b), (1, .ref b1), (2, .int L2_x2)] → (∀ (w9 : va_W) (H : Heap) (locs : List Loc), mm_S G A s.heap w9 H locs → At11 G w9 b X queue heap heapSize found improved → At6 G w9 b1 p1_reeds_states p1_reeds_count p1_reeds_broken p1_fleet_numbers p1_fleet_cells p1_fleet_fares p1_fleet_count p1_fleet_nextNumber p1_fleet_total p1_fleet_removedFares p1_fleet_meetings p1_plans_moves p1_plans_lengths p1_landings_cells p1_landings_count p1_fogSide → mm_fr w w9 b (b + 6) → ∀ (ls : Array Slot), lv_has ls 4 [] → W p l e ({ frames := 2, cells := 0, slots := 0, locals := 41 } : Room) s m args below meth c H locs 0 0 Q (F0 m 50 ls [])) → W p l e ({ frames := 2, cells := 0, slots := 0, locals := 41 } : Room) s m args below meth c H locs 0 0 Q (F0 m 2 ls []) := by
    intro n
    induction n with
    | zero => intro L2_x2 L2_tolls X hf; cases hf
    | succ n ih =>
      intro L2_x2 L2_tolls X hf L2_w H locs hM hp_this hp_p1 hF ls hl hk
      rw [f_X11_setFogTolls_L2] at hf
      refine lv_iload_n hx hb dX11_setFogTolls_2 rfl (lv_at hl 2 rfl) ?_
      refine lv_bipush (v := 81) hx hb dX11_setFogTolls_3 (by decide) ?_
      refine lv_icmp_ge (tgt := 50) hx hb dX11_setFogTolls_5 (by decide) (fun hcd => ?_) (fun hcd => ?_)
      · rw [if_pos hcd] at hf
        cases hf
        exact hk _ _ _ hM hp_this hp_p1 hF _ (lv_sub hl [] rfl)
      · rw [if_neg hcd] at hf
        refine lv_aload_n hx hb dX11_setFogTolls_8 rfl (lv_at hl 1 rfl) ?_
        refine lv_iload_n hx hb dX11_setFogTolls_9 rfl (lv_at hl 2 rfl) ?_
        obtain ⟨q10, hq10, hf⟩ := mm_bd hf
        refine mm_Vi (rest := []) hC hM (c_X6_isFoggy l hq10 hp_p1) q2_186 q1_2 ykX6_isFoggy q2_183 q2_184 q2_185 hp_p1.1 rfl ⟨rfl, rfl⟩ ⟨Nat.le_of_ble_eq_true rfl, Nat.le_of_ble_eq_true rfl⟩ rfl hl.1 rfl (Nat.le_of_ble_eq_true rfl) dX11_setFogTolls_10 ⟨Nat.le_of_ble_eq_true rfl, Nat.le_of_ble_eq_true rfl⟩ (fun r w10 H locs hM hw => ?_)
        obtain ⟨hr, hw⟩ := hw
        rw [hr]
        rw [hw] at hM
        refine lv_if_eq (tgt := 20) hx hb dX11_setFogTolls_13 (by decide) (fun hcd => ?_) (fun hcd => ?_)
        · rw [if_pos hcd] at hf
          refine lv_iconst (v := 1) hx hb dX11_setFogTolls_20 (by decide) ?_
          refine lv_istore_n (lv' := [(3, .int 1), (0, .ref b), (1, .ref b1), (2, .int L2_x2)]) hx hb dX11_setFogTolls_21 rfl hl (by decide) rfl (fun ls hl => ?_)
          refine lv_aload_n hx hb dX11_setFogTolls_22 rfl (lv_at hl 1 rfl) ?_
          refine mm_get hC hM (k := 0) hp_this.1 rfl inAX11 (by decide) q1_186 rfl dX11_setFogTolls_23 ?_
          refine lv_iload_n hx hb dX11_setFogTolls_26 rfl (lv_at hl 3 rfl) ?_
          refine lv_aload_n hx hb dX11_setFogTolls_27 rfl (lv_at hl 2 rfl) ?_
          refine mm_get hC hM (k := 0) hp_p1.1 rfl inAX6 (by decide) q1_139 rfl dX11_setFogTolls_28 ?_
          refine lv_iload_n hx hb dX11_setFogTolls_31 rfl (lv_at hl 3 rfl) ?_
          obtain ⟨q32, hq32, hf⟩ := mm_bd hf
          refine mm_Vi (rest := [.int L2_x2, .ref (b + 1)]) hC hM (c_X9_isOpen l hq32 (hp_p1.2.1)) q2_129 q1_3 ykX9_isOpen q2_143 q2_127 q2_128 (hp_p1.2.1).1 rfl ⟨rfl, rfl⟩ ⟨Nat.le_of_ble_eq_true rfl, Nat.le_of_ble_eq_true rfl⟩ rfl hl.1 rfl (Nat.le_of_ble_eq_true rfl) dX11_setFogTolls_32 ⟨Nat.le_of_ble_eq_true rfl, Nat.le_of_ble_eq_true rfl⟩ (fun r w32 H locs hM hw => ?_)
          obtain ⟨hr, hw⟩ := hw
          rw [hr]
          rw [hw] at hM
          refine lv_if_eq (tgt := 42) hx hb dX11_setFogTolls_35 (by decide) (fun hcd => ?_) (fun hcd => ?_)
          · rw [if_pos hcd] at hf
            refine lv_iconst (v := (-1)) hx hb dX11_setFogTolls_42 (by decide) ?_
            obtain ⟨hg43, hf⟩ := mm_gd hf
            refine mm_iast hC hM (hp_this.2.1) hg43 dX11_setFogTolls_43 (fun w43 H locs hM hm => ?_)
            have hp_this : At11 G w43 b (upd L2_tolls L2_x2.toNatClampNeg (-1)) queue heap heapSize found improved := ⟨hm.keep (hp_this.1) (by omega), hm.1, hm.keep (hp_this.2.2.1) (by omega), hm.keep (hp_this.2.2.2.1) (by omega), hm.keep (hp_this.2.2.2.2.1) (by omega), hm.keep (hp_this.2.2.2.2.2) (by omega)⟩
            have hp_p1 := hp_p1.up hm (by omega)
            have hF := hF.tr (hm.fr (by omega) (by omega))
            refine lv_iinc (v := (L2_x2 + 1)) (lv' := [(2, .int (L2_x2 + 1)), (3, .int 1), (0, .ref b), (1, .ref b1)]) hx hb dX11_setFogTolls_44 hl (k := 3) rfl rfl (by decide) rfl (fun ls hl => ?_)
            refine lv_goto (tgt := 2) hx hb dX11_setFogTolls_47 (by decide) ?_
            exact ih _ _ _ hf _ _ _ hM hp_this hp_p1 hF _ (lv_sub hl [2, 3, 0] rfl) hk
          · rw [if_neg hcd] at hf
            refine lv_iload_n hx hb dX11_setFogTolls_38 rfl (lv_at hl 0 rfl) ?_
            refine lv_goto (tgt := 43) hx hb dX11_setFogTolls_39 (by decide) ?_
            obtain ⟨hg43, hf⟩ := mm_gd hf
            refine mm_iast hC hM (hp_this.2.1) hg43 dX11_setFogTolls_43 (fun w43 H locs hM hm => ?_)
            have hp_this : At11 G w43 b (upd L2_tolls L2_x2.toNatClampNeg 1) queue heap heapSize found improved := ⟨hm.keep (hp_this.1) (by omega), hm.1, hm.keep (hp_this.2.2.1) (by omega), hm.keep (hp_this.2.2.2.1) (by omega), hm.keep (hp_this.2.2.2.2.1) (by omega), hm.keep (hp_this.2.2.2.2.2) (by omega)⟩
            have hp_p1 := hp_p1.up hm (by omega)
            have hF := hF.tr (hm.fr (by omega) (by omega))
            refine lv_iinc (v := (L2_x2 + 1)) (lv' := [(2, .int (L2_x2 + 1)), (3, .int 1), (0, .ref b), (1, .ref b1)]) hx hb dX11_setFogTolls_44 hl (k := 3) rfl rfl (by decide) rfl (fun ls hl => ?_)
            refine lv_goto (tgt := 2) hx hb dX11_setFogTolls_47 (by decide) ?_
            exact ih _ _ _ hf _ _ _ hM hp_this hp_p1 hF _ (lv_sub hl [2, 3, 0] rfl) hk
        · rw [if_neg hcd] at hf
          refine lv_iconst (v := 2) hx hb dX11_setFogTolls_16 (by decide) ?_
          refine lv_goto (tgt := 21) hx hb dX11_setFogTolls_17 (by decide) ?_
          refine lv_istore_n (lv' := [(3, .int 2), (0, .ref b), (1, .ref b1), (2, .int L2_x2)]) hx hb dX11_setFogTolls_21 rfl hl (by decide) rfl (fun ls hl => ?_)
          refine lv_aload_n hx hb dX11_setFogTolls_22 rfl (lv_at hl 1 rfl) ?_
          refine mm_get hC hM (k := 0) hp_this.1 rfl inAX11 (by decide) q1_186 rfl dX11_setFogTolls_23 ?_
          refine lv_iload_n hx hb dX11_setFogTolls_26 rfl (lv_at hl 3 rfl) ?_
          refine lv_aload_n hx hb dX11_setFogTolls_27 rfl (lv_at hl 2 rfl) ?_
          refine mm_get hC hM (k := 0) hp_p1.1 rfl inAX6 (by decide) q1_139 rfl dX11_setFogTolls_28 ?_
          refine lv_iload_n hx hb dX11_setFogTolls_31 rfl (lv_at hl 3 rfl) ?_
          obtain ⟨q32, hq32, hf⟩ := mm_bd hf
          refine mm_Vi (rest := [.int L2_x2, .ref (b + 1)]) hC hM (c_X9_isOpen l hq32 (hp_p1.2.1)) q2_129 q1_3 ykX9_isOpen q2_143 q2_127 q2_128 (hp_p1.2.1).1 rfl ⟨rfl, rfl⟩ ⟨Nat.le_of_ble_eq_true rfl, Nat.le_of_ble_eq_true rfl⟩ rfl hl.1 rfl (Nat.le_of_ble_eq_true rfl) dX11_setFogTolls_32 ⟨Nat.le_of_ble_eq_true rfl, Nat.le_of_ble_eq_true rfl⟩ (fun r w32 H locs hM hw => ?_)
          obtain ⟨hr, hw⟩ := hw
          rw [hr]
          rw [hw] at hM
          refine lv_if_eq (tgt := 42) hx hb dX11_setFogTolls_35 (by decide) (fun hcd => ?_) (fun hcd => ?_)
          · rw [if_pos hcd] at hf
            refine lv_iconst (v := (-1)) hx hb dX11_setFogTolls_42 (by decide) ?_
            obtain ⟨hg43, hf⟩ := mm_gd hf
            refine mm_iast hC hM (hp_this.2.1) hg43 dX11_setFogTolls_43 (fun w43 H locs hM hm => ?_)
            have hp_this : At11 G w43 b (upd L2_tolls L2_x2.toNatClampNeg (-1)) queue heap heapSize found improved := ⟨hm.keep (hp_this.1) (by omega), hm.1, hm.keep (hp_this.2.2.1) (by omega), hm.keep (hp_this.2.2.2.1) (by omega), hm.keep (hp_this.2.2.2.2.1) (by omega), hm.keep (hp_this.2.2.2.2.2) (by omega)⟩
            have hp_p1 := hp_p1.up hm (by omega)
            have hF := hF.tr (hm.fr (by omega) (by omega))
            refine lv_iinc (v := (L2_x2 + 1)) (lv' := [(2, .int (L2_x2 + 1)), (3, .int 2), (0, .ref b), (1, .ref b1)]) hx hb dX11_setFogTolls_44 hl (k := 3) rfl rfl (by decide) rfl (fun ls hl => ?_)
            refine lv_goto (tgt := 2) hx hb dX11_setFogTolls_47 (by decide) ?_
            exact ih _ _ _ hf _ _ _ hM hp_this hp_p1 hF _ (lv_sub hl [2, 3, 0] rfl) hk
          · rw [if_neg hcd] at hf
            refine lv_iload_n hx hb dX11_setFogTolls_38 rfl (lv_at hl 0 rfl) ?_
            refine lv_goto (tgt := 43) hx hb dX11_setFogTolls_39 (by decide) ?_
            obtain ⟨hg43, hf⟩ := mm_gd hf
            refine mm_iast hC hM (hp_this.2.1) hg43 dX11_setFogTolls_43 (fun w43 H locs hM hm => ?_)
            have hp_this : At11 G w43 b (upd L2_tolls L2_x2.toNatClampNeg 2) queue heap heapSize found improved := ⟨hm.keep (hp_this.1) (by omega), hm.1, hm.keep (hp_this.2.2.1) (by omega), hm.keep (hp_this.2.2.2.1) (by omega), hm.keep (hp_this.2.2.2.2.1) (by omega), hm.keep (hp_this.2.2.2.2.2) (by omega)⟩
            have hp_p1 := hp_p1.up hm (by omega)
            have hF := hF.tr (hm.fr (by omega) (by omega))
            refine lv_iinc (v := (L2_x2 + 1)) (lv' := [(2, .int (L2_x2 + 1)), (3, .int 2), (0, .ref b), (1, .ref b1)]) hx hb dX11_setFogTolls_44 hl (k := 3) rfl rfl (by decide) rfl (fun ls hl => ?_)
            refine lv_goto (tgt := 2) hx hb dX11_setFogTolls_47 (by decide) ?_
            exact ih _ _ _ hf _ _ _ hM hp_this hp_p1 hF _ (lv_sub hl [2, 3, 0] rfl) hk
  obtain ⟨q2, hq2, hf⟩ := mm_bd hf
  refine L2 K _ _ _ hq2 _ _ _ hM hp_this hp_p1 hF _ (lv_sub hl [1, 2, 0] rfl) (fun w2 H locs hM hp_this hp_p1 hF ls hl => ?_)
  cases hf
  exact hret hM dX11_setFogTolls_50 ⟨hp_this, hF⟩
def f_X11_setReedTolls_L2 (p1_reeds_states : Nat → Int32) : Nat → (Int32) → (Nat → Int32) → Option (Nat → Int32)
  | 0, _, _ => none
  | n + 1, x2, tolls => if 81 ≤ x2 then some tolls else (f_X9_standingInPair p1_reeds_states x2).bind fun q18 => mm_g (mm_ck x2 81) (f_X11_setReedTolls_L2 p1_reeds_states n (x2 + 1) (upd tolls x2.toNatClampNeg q18))
def f_X11_setReedTolls (K : Nat) (tolls : Nat → Int32) (p1_reeds_states : Nat → Int32) : Option (Nat → Int32) := (f_X11_setReedTolls_L2 p1_reeds_states K 0 tolls).bind fun q2 => some q2
set_option maxHeartbeats 4000000 in
set_option maxRecDepth 100000 in
theorem c_X11_setReedTolls (l : Launch) {G : mm_G} {K : Nat} {w : va_W} {sz : Nat} {b : Nat} {b1 : Nat} {tolls : Nat → Int32} {queue : Nat → Int32} {heap : Nat → Int32} {heapSize : Int32} {found : Nat → Int32} {improved : Nat → Int32} {p1_reeds_states : Nat → Int32} {p1_reeds_count : Int32} {p1_reeds_broken : Int32} {p1_fleet_numbers : Nat → Int32} {p1_fleet_cells : Nat → Int32} {p1_fleet_fares : Nat → Int32} {p1_fleet_count : Int32} {p1_fleet_nextNumber : Int32} {p1_fleet_total : Int32} {p1_fleet_removedFares : Int32} {p1_fleet_meetings : Int32} {p1_plans_moves : Nat → Int32} {p1_plans_lengths : Nat → Int32} {p1_landings_cells : Nat → Int32} {p1_landings_count : Int32} {p1_fogSide : Int32} {X : Nat → Int32} (hf : f_X11_setReedTolls K tolls p1_reeds_states = some X) (hp_this : At11 G w b tolls queue heap heapSize found improved) (hp_p1 : At6 G w b1 p1_reeds_states p1_reeds_count p1_reeds_broken p1_fleet_numbers p1_fleet_cells p1_fleet_fares p1_fleet_count p1_fleet_nextNumber p1_fleet_total p1_fleet_removedFares p1_fleet_meetings p1_plans_moves p1_plans_lengths p1_landings_cells p1_landings_count p1_fogSide) (hd0 : b + 6 ≤ b1 ∨ b1 + 12 ≤ b) : Met l yX11_setReedTolls (Cond.code yX11_setReedTolls cX11_setReedTolls 3 none :: gAll) ({ frames := 2, cells := 0, slots := 0, locals := 43 }) (va_Pc [.ref b, .ref b1] (mm_Pre G w sz)) (mm_Qv G w sz (fun w' => At11 G w' b X queue heap heapSize found improved ∧ mm_fr w w' b (b + 6))) 0 0 (va_A w sz) := by
  refine mm_headV [.ref b, .ref b1] (by decide +kernel) rfl (Nat.le_of_ble_eq_true rfl) ?_
  intro p e s m args below meth c A Q hsz hC hM hret hnm ls hl
  have hx := hC.1.1
  have hb := hC.1.2.1
  have hl : lv_has ls 3 [(0, .ref b), (1, .ref b1)] := hl
  have hF : mm_fr w w b (b + 6) := mm_fr.rf
  rw [f_X11_setReedTolls] at hf
  refine lv_iconst (v := 0) hx hb dX11_setReedTolls_0 (by decide) ?_
  refine lv_istore_n (lv' := [(2, .int 0), (0, .ref b), (1, .ref b1)]) hx hb dX11_setReedTolls_1 rfl hl (by decide) rfl (fun ls hl => ?_)
  have L2 : ∀ (n : Nat) (L2_x2 : Int32) (L2_tolls : Nat → Int32) (X : Nat → Int32), f_X11_setReedTolls_L2 p1_reeds_states n L2_x2 L2_tolls = some X → ∀ (L2_w : va_W) (H : Heap) (locs : List Loc), mm_S G A s.heap L2_w H locs → At11 G L2_w b L2_tolls queue heap heapSize found improved → At6 G L2_w b1 p1_reeds_states p1_reeds_count p1_reeds_broken p1_fleet_numbers p1_fleet_cells p1_fleet_fares p1_fleet_count p1_fleet_nextNumber p1_fleet_total p1_fleet_removedFares p1_fleet_meetings p1_plans_moves p1_plans_lengths p1_landings_cells p1_landings_count p1_fogSide → mm_fr w L2_w b (b + 6) → ∀ (ls : Array Slot), lv_has ls 3 [(0, .ref b), (1, .ref b1), (2, .int L2_x2)] → (∀ (w9 : va_W) (H : Heap) (locs : List Loc), mm_S G A s.heap w9 H locs → At11 G w9 b X queue heap heapSize found improved → At6 G w9 b1 p1_reeds_states p1_reeds_count p1_reeds_broken p1_fleet_numbers p1_fleet_cells p1_fleet_fares p1_fleet_count p1_fleet_nextNumber p1_fleet_total p1_fleet_removedFares p1_fleet_meetings p1_plans_moves p1_plans_lengths p1_landings_cells p1_landings_count p1_fogSide → mm_fr w w9 b (b + 6) → ∀ (ls : Array Slot), lv_has ls 3 [] → W p l e ({ frames := 2, cells := 0, slots := 0, locals := 43 } : Room) s m args below meth c H locs 0 0 Q (F0 m 28 ls [])) → W p l e ({ frames := 2, cells := 0, slots := 0, locals := 43 } : Room) s m args below meth c H locs 0 0 Q (F0 m 2 ls []) := by
    intro n
    induction n with
    | zero => intro L2_x2 L2_tolls X hf; cases hf
    | succ n ih =>
      intro L2_x2 L2_tolls X hf L2_w H locs hM hp_this hp_p1 hF ls hl hk
      rw [f_X11_setReedTolls_L2] at hf
      refine lv_iload_n hx hb dX11_setReedTolls_2 rfl (lv_at hl 2 rfl) ?_
      refine lv_bipush (v := 81) hx hb dX11_setReedTolls_3 (by decide) ?_
      refine lv_icmp_ge (tgt := 28) hx hb dX11_setReedTolls_5 (by decide) (fun hcd => ?_) (fun hcd => ?_)
      · rw [if_pos hcd] at hf
        cases hf
        exact hk _ _ _ hM hp_this hp_p1 hF _ (lv_sub hl [] rfl)
      · rw [if_neg hcd] at hf
        refine lv_aload_n hx hb dX11_setReedTolls_8 rfl (lv_at hl 0 rfl) ?_
        refine mm_get hC hM (k := 0) hp_this.1 rfl inAX11 (by decide) q1_186 rfl dX11_setReedTolls_9 ?_
        refine lv_iload_n hx hb dX11_setReedTolls_12 rfl (lv_at hl 2 rfl) ?_
        refine lv_aload_n hx hb dX11_setReedTolls_13 rfl (lv_at hl 1 rfl) ?_
        refine mm_get hC hM (k := 0) hp_p1.1 rfl inAX6 (by decide) q1_139 rfl dX11_setReedTolls_14 ?_
        refine lv_iload_n hx hb dX11_setReedTolls_17 rfl (lv_at hl 2 rfl) ?_
        obtain ⟨q18, hq18, hf⟩ := mm_bd hf
        refine mm_Vi (rest := [.int L2_x2, .ref (b + 1)]) hC hM (c_X9_standingInPair l hq18 (hp_p1.2.1)) q5_152 q1_3 ykX9_standingInPair q5_149 q5_150 q5_151 (hp_p1.2.1).1 rfl ⟨rfl, rfl⟩ ⟨Nat.le_of_ble_eq_true rfl, Nat.le_of_ble_eq_true rfl⟩ rfl hl.1 rfl (Nat.le_of_ble_eq_true rfl) dX11_setReedTolls_18 ⟨Nat.le_of_ble_eq_true rfl, Nat.le_of_ble_eq_true rfl⟩ (fun r w18 H locs hM hw => ?_)
        obtain ⟨hr, hw⟩ := hw
        rw [hr]
        rw [hw] at hM
        obtain ⟨hg21, hf⟩ := mm_gd hf
        refine mm_iast hC hM (hp_this.2.1) hg21 dX11_setReedTolls_21 (fun w21 H locs hM hm => ?_)
        have hp_this : At11 G w21 b (upd L2_tolls L2_x2.toNatClampNeg q18) queue heap heapSize found improved := ⟨hm.keep (hp_this.1) (by omega), hm.1, hm.keep (hp_this.2.2.1) (by omega), hm.keep (hp_this.2.2.2.1) (by omega), hm.keep (hp_this.2.2.2.2.1) (by omega), hm.keep (hp_this.2.2.2.2.2) (by omega)⟩
        have hp_p1 := hp_p1.up hm (by omega)
        have hF := hF.tr (hm.fr (by omega) (by omega))
        refine lv_iinc (v := (L2_x2 + 1)) (lv' := [(2, .int (L2_x2 + 1)), (0, .ref b), (1, .ref b1)]) hx hb dX11_setReedTolls_22 hl (k := 2) rfl rfl (by decide) rfl (fun ls hl => ?_)
        refine lv_goto (tgt := 2) hx hb dX11_setReedTolls_25 (by decide) ?_
        exact ih _ _ _ hf _ _ _ hM hp_this hp_p1 hF _ (lv_sub hl [1, 2, 0] rfl) hk
  obtain ⟨q2, hq2, hf⟩ := mm_bd hf
  refine L2 K _ _ _ hq2 _ _ _ hM hp_this hp_p1 hF _ (lv_sub hl [1, 2, 0] rfl) (fun w2 H locs hM hp_this hp_p1 hF ls hl => ?_)
  cases hf
  exact hret hM dX11_setReedTolls_28 ⟨hp_this, hF⟩
def f_X11_begin_L2 : Nat → (Int32) → (Nat → Int32) → Option (Nat → Int32)
  | 0, _, _ => none
  | n + 1, x3, p1 => if 81 ≤ x3 then some p1 else mm_g (mm_ck x3 81) (f_X11_begin_L2 n (x3 + 1) (upd p1 x3.toNatClampNeg 1000000))
def f_X11_begin (K : Nat) (tolls : Nat → Int32) (p1 : Nat → Int32) (x2 : Int32) : Option (Nat → Int32) := (f_X11_begin_L2 K 0 p1).bind fun q2 => mm_g (mm_ck x2 81) (if (tolls x2.toNatClampNeg) = (-1) then some q2 else mm_g (mm_ck x2 81) (some (upd q2 x2.toNatClampNeg 0)))
set_option maxHeartbeats 4000000 in
set_option maxRecDepth 100000 in
theorem c_X11_begin (l : Launch) {G : mm_G} {K : Nat} {w : va_W} {sz : Nat} {b : Nat} {a1 : Nat} {tolls : Nat → Int32} {queue : Nat → Int32} {heap : Nat → Int32} {heapSize : Int32} {found : Nat → Int32} {improved : Nat → Int32} {p1 : Nat → Int32} {x2 : Int32} {X : Nat → Int32} (hf : f_X11_begin K tolls p1 x2 = some X) (hp_this : At11 G w b tolls queue heap heapSize found improved) (hp_p1 : (a1, (.inl (G.2 0, 81, .inl p1) : va_E)) ∈ w) (hd0 : b + 6 ≤ a1 ∨ a1 + 1 ≤ b) : Met l yX11_begin (Cond.code yX11_begin cX11_begin 4 none :: gAll) ({ frames := 0, cells := 0, slots := 0, locals := 0 }) (va_Pc [.ref b, .ref a1, .int x2] (mm_Pre G w sz)) (mm_Qv G w sz (fun w' => (a1, (.inl (G.2 0, 81, .inl X) : va_E)) ∈ w' ∧ mm_fr w w' a1 (a1 + 1))) 0 0 (va_A w sz) := by
  refine mm_headV [.ref b, .ref a1, .int x2] (by decide +kernel) rfl (Nat.le_of_ble_eq_true rfl) ?_
  intro p e s m args below meth c A Q hsz hC hM hret hnm ls hl
  have hx := hC.1.1
  have hb := hC.1.2.1
  have hl : lv_has ls 4 [(0, .ref b), (1, .ref a1), (2, .int x2)] := hl
  have hF : mm_fr w w a1 (a1 + 1) := mm_fr.rf
  rw [f_X11_begin] at hf
  refine lv_iconst (v := 0) hx hb dX11_begin_0 (by decide) ?_
  refine lv_istore_n (lv' := [(3, .int 0), (0, .ref b), (1, .ref a1), (2, .int x2)]) hx hb dX11_begin_1 rfl hl (by decide) rfl (fun ls hl => ?_)
  have L2 : ∀ (n : Nat) (L2_x3 : Int32) (L2_p1 : Nat → Int32) (X : Nat → Int32), f_X11_begin_L2 n L2_x3 L2_p1 = some X → ∀ (L2_w : va_W) (H : Heap) (locs : List Loc), mm_S G A s.heap L2_w H locs → At11 G L2_w b tolls queue heap heapSize found improved → (a1, (.inl (G.2 0, 81, .inl L2_p1) : va_E)) ∈ L2_w → mm_fr w L2_w a1 (a1 + 1) → ∀ (ls : Array Slot), lv_has ls 4 [(0, .ref b), (1, .ref a1), (2, .int x2), (3, .int L2_x3)] → (∀ (w9 : va_W) (H : Heap) (locs : List Loc), mm_S G A s.heap w9 H locs → At11 G w9 b tolls queue heap heapSize found improved → (a1, (.inl (G.2 0, 81, .inl X) : va_E)) ∈ w9 → mm_fr w w9 a1 (a1 + 1) → ∀ (ls : Array Slot), lv_has ls 4 [(0, .ref b), (1, .ref a1), (2, .int x2)] → W p l e ({ frames := 0, cells := 0, slots := 0, locals := 0 } : Room) s m args below meth c H locs 0 0 Q (F0 m 19 ls [])) → W p l e ({ frames := 0, cells := 0, slots := 0, locals := 0 } : Room) s m args below meth c H locs 0 0 Q (F0 m 2 ls []) := by
    intro n
    induction n with
    | zero => intro L2_x3 L2_p1 X hf; cases hf
    | succ n ih =>
      intro L2_x3 L2_p1 X hf L2_w H locs hM hp_this hp_p1 hF ls hl hk
      rw [f_X11_begin_L2] at hf
      refine lv_iload_n hx hb dX11_begin_2 rfl (lv_at hl 3 rfl) ?_
      refine lv_bipush (v := 81) hx hb dX11_begin_3 (by decide) ?_
      refine lv_icmp_ge (tgt := 19) hx hb dX11_begin_5 (by decide) (fun hcd => ?_) (fun hcd => ?_)
      · rw [if_pos hcd] at hf
        cases hf
        exact hk _ _ _ hM hp_this hp_p1 hF _ (lv_sub hl [0, 1, 2] rfl)
      · rw [if_neg hcd] at hf
        refine lv_aload_n hx hb dX11_begin_8 rfl (lv_at hl 1 rfl) ?_
        refine lv_iload_n hx hb dX11_begin_9 rfl (lv_at hl 3 rfl) ?_
        refine lv_ldc hx hb hC.1.2.2.2.1 (hC.1.2.2.2.2 _ q2_152) dX11_begin_10 ?_
        obtain ⟨hg12, hf⟩ := mm_gd hf
        refine mm_iast hC hM hp_p1 hg12 dX11_begin_12 (fun w12 H locs hM hm => ?_)
        have hp_this := hp_this.up hm (by omega)
        have hp_p1 := hm.1
        have hF := hF.tr (hm.fr (by omega) (by omega))
        refine lv_iinc (v := (L2_x3 + 1)) (lv' := [(3, .int (L2_x3 + 1)), (0, .ref b), (1, .ref a1), (2, .int x2)]) hx hb dX11_begin_13 hl (k := 3) rfl rfl (by decide) rfl (fun ls hl => ?_)
        refine lv_goto (tgt := 2) hx hb dX11_begin_16 (by decide) ?_
        exact ih _ _ _ hf _ _ _ hM hp_this hp_p1 hF _ (lv_sub hl [1, 2, 3, 0] rfl) hk
  obtain ⟨q2, hq2, hf⟩ := mm_bd hf
  refine L2 K _ _ _ hq2 _ _ _ hM hp_this hp_p1 hF _ (lv_sub hl [1, 2, 3, 0] rfl) (fun w2 H locs hM hp_this hp_p1 hF ls hl => ?_)
  refine lv_aload_n hx hb dX11_begin_19 rfl (lv_at hl 0 rfl) ?_
  refine mm_get hC hM (k := 0) hp_this.1 rfl inAX11 (by decide) q1_186 rfl dX11_begin_20 ?_
  refine lv_iload_n hx hb dX11_begin_23 rfl (lv_at hl 2 rfl) ?_
  obtain ⟨hg24, hf⟩ := mm_gd hf
  refine mm_iald hC hM (hp_this.2.1) hg24 dX11_begin_24 ?_
  refine lv_iconst (v := (-1)) hx hb dX11_begin_25 (by decide) ?_
  refine lv_icmp_eq (tgt := 33) hx hb dX11_begin_26 (by decide) (fun hcd => ?_) (fun hcd => ?_)
  · rw [if_pos hcd] at hf
    cases hf
    exact hret hM dX11_begin_33 ⟨hp_p1, hF⟩
  · rw [if_neg hcd] at hf
    refine lv_aload_n hx hb dX11_begin_29 rfl (lv_at hl 1 rfl) ?_
    refine lv_iload_n hx hb dX11_begin_30 rfl (lv_at hl 2 rfl) ?_
    refine lv_iconst (v := 0) hx hb dX11_begin_31 (by decide) ?_
    obtain ⟨hg32, hf⟩ := mm_gd hf
    refine mm_iast hC hM hp_p1 hg32 dX11_begin_32 (fun w32 H locs hM hm => ?_)
    have hp_this := hp_this.up hm (by omega)
    have hp_p1 := hm.1
    have hF := hF.tr (hm.fr (by omega) (by omega))
    cases hf
    exact hret hM dX11_begin_33 ⟨hp_p1, hF⟩
def f_X11_begin_this_found_L2 : Nat → (Int32) → (Nat → Int32) → Option (Nat → Int32)
  | 0, _, _ => none
  | n + 1, x3, found => if 81 ≤ x3 then some found else mm_g (mm_ck x3 81) (f_X11_begin_this_found_L2 n (x3 + 1) (upd found x3.toNatClampNeg 1000000))
def f_X11_begin_this_found (K : Nat) (tolls : Nat → Int32) (found : Nat → Int32) (x2 : Int32) : Option (Nat → Int32) := (f_X11_begin_this_found_L2 K 0 found).bind fun q2 => mm_g (mm_ck x2 81) (if (tolls x2.toNatClampNeg) = (-1) then some q2 else mm_g (mm_ck x2 81) (some (upd q2 x2.toNatClampNeg 0)))
set_option maxHeartbeats 4000000 in
set_option maxRecDepth 100000 in
theorem c_X11_begin_this_found (l : Launch) {G : mm_G} {K : Nat} {w : va_W} {sz : Nat} {b : Nat} {tolls : Nat → Int32} {queue : Nat → Int32} {heap : Nat → Int32} {heapSize : Int32} {found : Nat → Int32} {improved : Nat → Int32} {x2 : Int32} {X : Nat → Int32} (hf : f_X11_begin_this_found K tolls found x2 = some X) (hp_this : At11 G w b tolls queue heap heapSize found improved) : Met l yX11_begin (Cond.code yX11_begin cX11_begin 4 none :: gAll) ({ frames := 0, cells := 0, slots := 0, locals := 0 }) (va_Pc [.ref b, .ref (b + 4), .int x2] (mm_Pre G w sz)) (mm_Qv G w sz (fun w' => At11 G w' b tolls queue heap heapSize X improved ∧ mm_fr w w' b (b + 6))) 0 0 (va_A w sz) := by
  refine mm_headV [.ref b, .ref (b + 4), .int x2] (by decide +kernel) rfl (Nat.le_of_ble_eq_true rfl) ?_
  intro p e s m args below meth c A Q hsz hC hM hret hnm ls hl
  have hx := hC.1.1
  have hb := hC.1.2.1
  have hl : lv_has ls 4 [(0, .ref b), (1, .ref (b + 4)), (2, .int x2)] := hl
  have hF : mm_fr w w b (b + 6) := mm_fr.rf
  rw [f_X11_begin_this_found] at hf
  refine lv_iconst (v := 0) hx hb dX11_begin_0 (by decide) ?_
  refine lv_istore_n (lv' := [(3, .int 0), (0, .ref b), (1, .ref (b + 4)), (2, .int x2)]) hx hb dX11_begin_1 rfl hl (by decide) rfl (fun ls hl => ?_)
  have L2 : ∀ (n : Nat) (L2_x3 : Int32) (L2_found : Nat → Int32) (X : Nat → Int32), f_X11_begin_this_found_L2 n L2_x3 L2_found = some X → ∀ (L2_w : va_W) (H : Heap) (locs : List Loc), mm_S G A s.heap L2_w H locs → At11 G L2_w b tolls queue heap heapSize L2_found improved → mm_fr w L2_w b (b + 6) → ∀ (ls : Array Slot), lv_has ls 4 [(0, .ref b), (1, .ref (b + 4)), (2, .int x2), (3, .int L2_x3)] → (∀ (w9 : va_W) (H : Heap) (locs : List Loc), mm_S G A s.heap w9 H locs → At11 G w9 b tolls queue heap heapSize X improved → mm_fr w w9 b (b + 6) → ∀ (ls : Array Slot), lv_has ls 4 [(0, .ref b), (1, .ref (b + 4)), (2, .int x2)] → W p l e ({ frames := 0, cells := 0, slots := 0, locals := 0 } : Room) s m args below meth c H locs 0 0 Q (F0 m 19 ls [])) → W p l e ({ frames := 0, cells := 0, slots := 0, locals := 0 } : Room) s m args below meth c H locs 0 0 Q (F0 m 2 ls []) := by
    intro n
    induction n with
    | zero => intro L2_x3 L2_found X hf; cases hf
    | succ n ih =>
      intro L2_x3 L2_found X hf L2_w H locs hM hp_this hF ls hl hk
      rw [f_X11_begin_this_found_L2] at hf
      refine lv_iload_n hx hb dX11_begin_2 rfl (lv_at hl 3 rfl) ?_
      refine lv_bipush (v := 81) hx hb dX11_begin_3 (by decide) ?_
      refine lv_icmp_ge (tgt := 19) hx hb dX11_begin_5 (by decide) (fun hcd => ?_) (fun hcd => ?_)
      · rw [if_pos hcd] at hf
        cases hf
        exact hk _ _ _ hM hp_this hF _ (lv_sub hl [0, 1, 2] rfl)
      · rw [if_neg hcd] at hf
        refine lv_aload_n hx hb dX11_begin_8 rfl (lv_at hl 1 rfl) ?_
        refine lv_iload_n hx hb dX11_begin_9 rfl (lv_at hl 3 rfl) ?_
        refine lv_ldc hx hb hC.1.2.2.2.1 (hC.1.2.2.2.2 _ q2_152) dX11_begin_10 ?_
        obtain ⟨hg12, hf⟩ := mm_gd hf
        refine mm_iast hC hM (hp_this.2.2.2.2.1) hg12 dX11_begin_12 (fun w12 H locs hM hm => ?_)
        have hp_this : At11 G w12 b tolls queue heap heapSize (upd L2_found L2_x3.toNatClampNeg 1000000) improved := ⟨hm.keep (hp_this.1) (by omega), hm.keep (hp_this.2.1) (by omega), hm.keep (hp_this.2.2.1) (by omega), hm.keep (hp_this.2.2.2.1) (by omega), hm.1, hm.keep (hp_this.2.2.2.2.2) (by omega)⟩
        have hF := hF.tr (hm.fr (by omega) (by omega))
        refine lv_iinc (v := (L2_x3 + 1)) (lv' := [(3, .int (L2_x3 + 1)), (0, .ref b), (1, .ref (b + 4)), (2, .int x2)]) hx hb dX11_begin_13 hl (k := 3) rfl rfl (by decide) rfl (fun ls hl => ?_)
        refine lv_goto (tgt := 2) hx hb dX11_begin_16 (by decide) ?_
        exact ih _ _ _ hf _ _ _ hM hp_this hF _ (lv_sub hl [1, 2, 3, 0] rfl) hk
  obtain ⟨q2, hq2, hf⟩ := mm_bd hf
  refine L2 K _ _ _ hq2 _ _ _ hM hp_this hF _ (lv_sub hl [1, 2, 3, 0] rfl) (fun w2 H locs hM hp_this hF ls hl => ?_)
  refine lv_aload_n hx hb dX11_begin_19 rfl (lv_at hl 0 rfl) ?_
  refine mm_get hC hM (k := 0) hp_this.1 rfl inAX11 (by decide) q1_186 rfl dX11_begin_20 ?_
  refine lv_iload_n hx hb dX11_begin_23 rfl (lv_at hl 2 rfl) ?_
  obtain ⟨hg24, hf⟩ := mm_gd hf
  refine mm_iald hC hM (hp_this.2.1) hg24 dX11_begin_24 ?_
  refine lv_iconst (v := (-1)) hx hb dX11_begin_25 (by decide) ?_
  refine lv_icmp_eq (tgt := 33) hx hb dX11_begin_26 (by decide) (fun hcd => ?_) (fun hcd => ?_)
  · rw [if_pos hcd] at hf
    cases hf
    exact hret hM dX11_begin_33 ⟨hp_this, hF⟩
  · rw [if_neg hcd] at hf
    refine lv_aload_n hx hb dX11_begin_29 rfl (lv_at hl 1 rfl) ?_
    refine lv_iload_n hx hb dX11_begin_30 rfl (lv_at hl 2 rfl) ?_
    refine lv_iconst (v := 0) hx hb dX11_begin_31 (by decide) ?_
    obtain ⟨hg32, hf⟩ := mm_gd hf
    refine mm_iast hC hM (hp_this.2.2.2.2.1) hg32 dX11_begin_32 (fun w32 H locs hM hm => ?_)
    have hp_this : At11 G w32 b tolls queue heap heapSize (upd q2 x2.toNatClampNeg 0) improved := ⟨hm.keep (hp_this.1) (by omega), hm.keep (hp_this.2.1) (by omega), hm.keep (hp_this.2.2.1) (by omega), hm.keep (hp_this.2.2.2.1) (by omega), hm.1, hm.keep (hp_this.2.2.2.2.2) (by omega)⟩
    have hF := hF.tr (hm.fr (by omega) (by omega))
    cases hf
    exact hret hM dX11_begin_33 ⟨hp_this, hF⟩
def f_X11_spread_L5 (tolls : Nat → Int32) (x1 : Int32) : Nat → (Int32) → (Int32) → (Nat → Int32) → (Nat → Int32) → Option (Int32 × (Nat → Int32) × (Nat → Int32))
  | 0, _, _, _, _ => none
  | n + 1, x3, x4, queue, found => if 4 ≤ x4 then some (x3, queue, found) else (f_X12_neighbour x1 x4).bind fun q14 => if q14 = (-1) then f_X11_spread_L5 tolls x1 n x3 (x4 + 1) queue found else mm_g (mm_ck q14 81) (if (tolls q14.toNatClampNeg) = (-1) then f_X11_spread_L5 tolls x1 n x3 (x4 + 1) queue found else mm_g (mm_ck q14 81) (if (found q14.toNatClampNeg) = 1000000 then if 81 ≤ x3 then f_X11_spread_L5 tolls x1 n x3 (x4 + 1) queue found else mm_g (mm_ck x1 81) (mm_g (mm_ck q14 81) (mm_g (mm_ck x3 81) (f_X11_spread_L5 tolls x1 n (x3 + 1) (x4 + 1) (upd queue x3.toNatClampNeg q14) (upd found q14.toNatClampNeg ((found x1.toNatClampNeg) + 1))))) else f_X11_spread_L5 tolls x1 n x3 (x4 + 1) queue found))
def f_X11_spread (K : Nat) (tolls : Nat → Int32) (queue : Nat → Int32) (found : Nat → Int32) (x1 : Int32) (x2 : Int32) : Option (Int32 × (Nat → Int32) × (Nat → Int32)) := (f_X11_spread_L5 tolls x1 K x2 0 queue found).bind fun q5 => some (q5.1, q5.2.1, q5.2.2)
set_option maxHeartbeats 4000000 in
set_option maxRecDepth 100000 in
theorem c_X11_spread (l : Launch) {G : mm_G} {K : Nat} {w : va_W} {sz : Nat} {b : Nat} {tolls : Nat → Int32} {queue : Nat → Int32} {heap : Nat → Int32} {heapSize : Int32} {found : Nat → Int32} {improved : Nat → Int32} {x1 : Int32} {x2 : Int32} {X : Int32 × (Nat → Int32) × (Nat → Int32)} (hf : f_X11_spread K tolls queue found x1 x2 = some X) (hp_this : At11 G w b tolls queue heap heapSize found improved) : Met l yX11_spread (Cond.code yX11_spread cX11_spread 6 (some .int) :: gAll) ({ frames := 2, cells := 0, slots := 0, locals := 45 }) (va_Pc [.ref b, .int x1, .int x2] (mm_Pre G w sz)) (mm_Qi G w sz (fun r w' => r = X.1 ∧ At11 G w' b tolls X.2.1 heap heapSize X.2.2 improved ∧ mm_fr w w' b (b + 6))) 0 0 (va_A w sz) := by
  refine mm_headI [.ref b, .int x1, .int x2] (by decide +kernel) rfl (Nat.le_of_ble_eq_true rfl) ?_
  intro p e s m args below meth c A Q hsz hC hM hret ls hl
  have hx := hC.1.1
  have hb := hC.1.2.1
  have hl : lv_has ls 6 [(0, .ref b), (1, .int x1), (2, .int x2)] := hl
  have hF : mm_fr w w b (b + 6) := mm_fr.rf
  rw [f_X11_spread] at hf
  refine lv_iload_n hx hb dX11_spread_0 rfl (lv_at hl 2 rfl) ?_
  refine lv_istore_n (lv' := [(3, .int x2), (0, .ref b), (1, .int x1), (2, .int x2)]) hx hb dX11_spread_1 rfl hl (by decide) rfl (fun ls hl => ?_)
  refine lv_iconst (v := 0) hx hb dX11_spread_2 (by decide) ?_
  refine lv_istore (lv' := [(4, .int 0), (3, .int x2), (0, .ref b), (1, .int x1), (2, .int x2)]) hx hb dX11_spread_3 hl (by decide) rfl (fun ls hl => ?_)
  have L5 : ∀ (n : Nat) (L5_x3 : Int32) (L5_x4 : Int32) (L5_queue : Nat → Int32) (L5_found : Nat → Int32) (X : Int32 × (Nat → Int32) × (Nat → Int32)), f_X11_spread_L5 tolls x1 n L5_x3 L5_x4 L5_queue L5_found = some X → ∀ (L5_w : va_W) (H : Heap) (locs : List Loc), mm_S G A s.heap L5_w H locs → At11 G L5_w b tolls L5_queue heap heapSize L5_found improved → mm_fr w L5_w b (b + 6) → ∀ (ls : Array Slot), lv_has ls 6 [(0, .ref b), (1, .int x1), (3, .int L5_x3), (4, .int L5_x4)] → (∀ (w9 : va_W) (H : Heap) (locs : List Loc), mm_S G A s.heap w9 H locs → At11 G w9 b tolls X.2.1 heap heapSize X.2.2 improved → mm_fr w w9 b (b + 6) → ∀ (ls : Array Slot), lv_has ls 6 [(3, .int X.1)] → W p l e ({ frames := 2, cells := 0, slots := 0, locals := 45 } : Room) s m args below meth c H locs 0 0 Q (F0 m 86 ls [])) → W p l e ({ frames := 2, cells := 0, slots := 0, locals := 45 } : Room) s m args below meth c H locs 0 0 Q (F0 m 5 ls []) := by
    intro n
    induction n with
    | zero => intro L5_x3 L5_x4 L5_queue L5_found X hf; cases hf
    | succ n ih =>
      intro L5_x3 L5_x4 L5_queue L5_found X hf L5_w H locs hM hp_this hF ls hl hk
      rw [f_X11_spread_L5] at hf
      refine lv_iload hx hb dX11_spread_5 (lv_at hl 3 rfl) ?_
      refine lv_iconst (v := 4) hx hb dX11_spread_7 (by decide) ?_
      refine lv_icmp_ge (tgt := 86) hx hb dX11_spread_8 (by decide) (fun hcd => ?_) (fun hcd => ?_)
      · rw [if_pos hcd] at hf
        cases hf
        exact hk _ _ _ hM hp_this hF _ (lv_sub hl [2] rfl)
      · rw [if_neg hcd] at hf
        refine lv_iload_n hx hb dX11_spread_11 rfl (lv_at hl 1 rfl) ?_
        refine lv_iload hx hb dX11_spread_12 (lv_at hl 3 rfl) ?_
        obtain ⟨q14, hq14, hf⟩ := mm_bd hf
        refine mm_SNi (rest := []) hC hM (c_X12_neighbour l hq14) q2_159 q1_1 ykX12_neighbour q2_157 q2_158 ⟨rfl, rfl⟩ ⟨Nat.le_of_ble_eq_true rfl, Nat.le_of_ble_eq_true rfl⟩ rfl hl.1 rfl (Nat.le_of_ble_eq_true rfl) dX11_spread_14 ⟨Nat.le_of_ble_eq_true rfl, Nat.le_of_ble_eq_true rfl⟩ (fun r w14 H locs hM hw => ?_)
        obtain ⟨hr, hw⟩ := hw
        rw [hr]
        rw [hw] at hM
        refine lv_istore (lv' := [(5, .int q14), (0, .ref b), (1, .int x1), (3, .int L5_x3), (4, .int L5_x4)]) hx hb dX11_spread_17 hl (by decide) rfl (fun ls hl => ?_)
        refine lv_iload hx hb dX11_spread_19 (lv_at hl 0 rfl) ?_
        refine lv_iconst (v := (-1)) hx hb dX11_spread_21 (by decide) ?_
        refine lv_icmp_eq (tgt := 80) hx hb dX11_spread_22 (by decide) (fun hcd => ?_) (fun hcd => ?_)
        · rw [if_pos hcd] at hf
          refine lv_iinc (v := (L5_x4 + 1)) (lv' := [(4, .int (L5_x4 + 1)), (5, .int q14), (0, .ref b), (1, .int x1), (3, .int L5_x3)]) hx hb dX11_spread_80 hl (k := 4) rfl rfl (by decide) rfl (fun ls hl => ?_)
          refine lv_goto (tgt := 5) hx hb dX11_spread_83 (by decide) ?_
          exact ih _ _ _ _ _ hf _ _ _ hM hp_this hF _ (lv_sub hl [2, 3, 4, 0] rfl) hk
        · rw [if_neg hcd] at hf
          refine lv_aload_n hx hb dX11_spread_25 rfl (lv_at hl 1 rfl) ?_
          refine mm_get hC hM (k := 0) hp_this.1 rfl inAX11 (by decide) q1_186 rfl dX11_spread_26 ?_
          refine lv_iload hx hb dX11_spread_29 (lv_at hl 0 rfl) ?_
          obtain ⟨hg31, hf⟩ := mm_gd hf
          refine mm_iald hC hM (hp_this.2.1) hg31 dX11_spread_31 ?_
          refine lv_iconst (v := (-1)) hx hb dX11_spread_32 (by decide) ?_
          refine lv_icmp_eq (tgt := 80) hx hb dX11_spread_33 (by decide) (fun hcd => ?_) (fun hcd => ?_)
          · rw [if_pos hcd] at hf
            refine lv_iinc (v := (L5_x4 + 1)) (lv' := [(4, .int (L5_x4 + 1)), (5, .int q14), (0, .ref b), (1, .int x1), (3, .int L5_x3)]) hx hb dX11_spread_80 hl (k := 4) rfl rfl (by decide) rfl (fun ls hl => ?_)
            refine lv_goto (tgt := 5) hx hb dX11_spread_83 (by decide) ?_
            exact ih _ _ _ _ _ hf _ _ _ hM hp_this hF _ (lv_sub hl [2, 3, 4, 0] rfl) hk
          · rw [if_neg hcd] at hf
            refine lv_aload_n hx hb dX11_spread_36 rfl (lv_at hl 1 rfl) ?_
            refine mm_get hC hM (k := 4) hp_this.1 rfl inAX11 (by decide) q1_190 rfl dX11_spread_37 ?_
            refine lv_iload hx hb dX11_spread_40 (lv_at hl 0 rfl) ?_
            obtain ⟨hg42, hf⟩ := mm_gd hf
            refine mm_iald hC hM (hp_this.2.2.2.2.1) hg42 dX11_spread_42 ?_
            refine lv_ldc hx hb hC.1.2.2.2.1 (hC.1.2.2.2.2 _ q2_152) dX11_spread_43 ?_
            refine lv_icmp_ne (tgt := 80) hx hb dX11_spread_45 (by decide) (fun hcd => ?_) (fun hcd => ?_)
            · rw [if_neg hcd] at hf
              refine lv_iinc (v := (L5_x4 + 1)) (lv' := [(4, .int (L5_x4 + 1)), (5, .int q14), (0, .ref b), (1, .int x1), (3, .int L5_x3)]) hx hb dX11_spread_80 hl (k := 4) rfl rfl (by decide) rfl (fun ls hl => ?_)
              refine lv_goto (tgt := 5) hx hb dX11_spread_83 (by decide) ?_
              exact ih _ _ _ _ _ hf _ _ _ hM hp_this hF _ (lv_sub hl [2, 3, 4, 0] rfl) hk
            · rw [if_pos hcd] at hf
              refine lv_iload_n hx hb dX11_spread_48 rfl (lv_at hl 3 rfl) ?_
              refine lv_bipush (v := 81) hx hb dX11_spread_49 (by decide) ?_
              refine lv_icmp_ge (tgt := 80) hx hb dX11_spread_51 (by decide) (fun hcd => ?_) (fun hcd => ?_)
              · rw [if_pos hcd] at hf
                refine lv_iinc (v := (L5_x4 + 1)) (lv' := [(4, .int (L5_x4 + 1)), (5, .int q14), (0, .ref b), (1, .int x1), (3, .int L5_x3)]) hx hb dX11_spread_80 hl (k := 4) rfl rfl (by decide) rfl (fun ls hl => ?_)
                refine lv_goto (tgt := 5) hx hb dX11_spread_83 (by decide) ?_
                exact ih _ _ _ _ _ hf _ _ _ hM hp_this hF _ (lv_sub hl [2, 3, 4, 0] rfl) hk
              · rw [if_neg hcd] at hf
                refine lv_aload_n hx hb dX11_spread_54 rfl (lv_at hl 1 rfl) ?_
                refine mm_get hC hM (k := 4) hp_this.1 rfl inAX11 (by decide) q1_190 rfl dX11_spread_55 ?_
                refine lv_iload hx hb dX11_spread_58 (lv_at hl 0 rfl) ?_
                refine lv_aload_n hx hb dX11_spread_60 rfl (lv_at hl 1 rfl) ?_
                refine mm_get hC hM (k := 4) hp_this.1 rfl inAX11 (by decide) q1_190 rfl dX11_spread_61 ?_
                refine lv_iload_n hx hb dX11_spread_64 rfl (lv_at hl 2 rfl) ?_
                obtain ⟨hg65, hf⟩ := mm_gd hf
                refine mm_iald hC hM (hp_this.2.2.2.2.1) hg65 dX11_spread_65 ?_
                refine lv_iconst (v := 1) hx hb dX11_spread_66 (by decide) ?_
                refine lv_iadd hx hb dX11_spread_67 ?_
                obtain ⟨hg68, hf⟩ := mm_gd hf
                refine mm_iast hC hM (hp_this.2.2.2.2.1) hg68 dX11_spread_68 (fun w68 H locs hM hm => ?_)
                have hp_this : At11 G w68 b tolls L5_queue heap heapSize (upd L5_found q14.toNatClampNeg ((L5_found x1.toNatClampNeg) + 1)) improved := ⟨hm.keep (hp_this.1) (by omega), hm.keep (hp_this.2.1) (by omega), hm.keep (hp_this.2.2.1) (by omega), hm.keep (hp_this.2.2.2.1) (by omega), hm.1, hm.keep (hp_this.2.2.2.2.2) (by omega)⟩
                have hF := hF.tr (hm.fr (by omega) (by omega))
                refine lv_aload_n hx hb dX11_spread_69 rfl (lv_at hl 1 rfl) ?_
                refine mm_get hC hM (k := 1) hp_this.1 rfl inAX11 (by decide) q1_187 rfl dX11_spread_70 ?_
                refine lv_iload_n hx hb dX11_spread_73 rfl (lv_at hl 3 rfl) ?_
                refine lv_iload hx hb dX11_spread_74 (lv_at hl 0 rfl) ?_
                obtain ⟨hg76, hf⟩ := mm_gd hf
                refine mm_iast hC hM (hp_this.2.2.1) hg76 dX11_spread_76 (fun w76 H locs hM hm => ?_)
                have hp_this : At11 G w76 b tolls (upd L5_queue L5_x3.toNatClampNeg q14) heap heapSize (upd L5_found q14.toNatClampNeg ((L5_found x1.toNatClampNeg) + 1)) improved := ⟨hm.keep (hp_this.1) (by omega), hm.keep (hp_this.2.1) (by omega), hm.1, hm.keep (hp_this.2.2.2.1) (by omega), hm.keep (hp_this.2.2.2.2.1) (by omega), hm.keep (hp_this.2.2.2.2.2) (by omega)⟩
                have hF := hF.tr (hm.fr (by omega) (by omega))
                refine lv_iinc (v := (L5_x3 + 1)) (lv' := [(3, .int (L5_x3 + 1)), (5, .int q14), (0, .ref b), (1, .int x1), (4, .int L5_x4)]) hx hb dX11_spread_77 hl (k := 3) rfl rfl (by decide) rfl (fun ls hl => ?_)
                refine lv_iinc (v := (L5_x4 + 1)) (lv' := [(4, .int (L5_x4 + 1)), (3, .int (L5_x3 + 1)), (5, .int q14), (0, .ref b), (1, .int x1)]) hx hb dX11_spread_80 hl (k := 4) rfl rfl (by decide) rfl (fun ls hl => ?_)
                refine lv_goto (tgt := 5) hx hb dX11_spread_83 (by decide) ?_
                exact ih _ _ _ _ _ hf _ _ _ hM hp_this hF _ (lv_sub hl [3, 4, 1, 0] rfl) hk
  obtain ⟨q5, hq5, hf⟩ := mm_bd hf
  refine L5 K _ _ _ _ _ hq5 _ _ _ hM hp_this hF _ (lv_sub hl [2, 3, 1, 0] rfl) (fun w5 H locs hM hp_this hF ls hl => ?_)
  refine lv_iload_n hx hb dX11_spread_86 rfl (lv_at hl 0 rfl) ?_
  cases hf
  exact hret hM dX11_spread_87 rfl ⟨rfl, hp_this, hF⟩
def f_X11_searchByBreadth_L33 (K : Nat) (tolls : Nat → Int32) : Nat → (Int32) → (Int32) → (Nat → Int32) → (Nat → Int32) → Option ((Nat → Int32) × (Nat → Int32))
  | 0, _, _, _, _ => none
  | n + 1, x2, x3, queue, found => if 81 ≤ x3 then some (queue, found) else if x2 ≤ x3 then some (queue, found) else mm_g (mm_ck x3 81) ((f_X11_spread K tolls queue found (queue x3.toNatClampNeg) x2).bind fun q52 => f_X11_searchByBreadth_L33 K tolls n q52.1 (x3 + 1) q52.2.1 q52.2.2)
def f_X11_searchByBreadth (K : Nat) (tolls : Nat → Int32) (queue : Nat → Int32) (found : Nat → Int32) (x1 : Int32) : Option ((Nat → Int32) × (Nat → Int32)) := (f_X11_begin_this_found K tolls found x1).bind fun q6 => mm_g (mm_ck x1 81) (if (q6 x1.toNatClampNeg) = 0 then (f_X11_searchByBreadth_L33 K tolls K 1 0 (upd queue 0 x1) q6).bind fun q33 => some (q33.1, q33.2) else (f_X11_searchByBreadth_L33 K tolls K 0 0 (upd queue 0 x1) q6).bind fun q33 => some (q33.1, q33.2))
set_option maxHeartbeats 4000000 in
set_option maxRecDepth 100000 in
theorem c_X11_searchByBreadth (l : Launch) {G : mm_G} {K : Nat} {w : va_W} {sz : Nat} {b : Nat} {tolls : Nat → Int32} {queue : Nat → Int32} {heap : Nat → Int32} {heapSize : Int32} {found : Nat → Int32} {improved : Nat → Int32} {x1 : Int32} {X : (Nat → Int32) × (Nat → Int32)} (hf : f_X11_searchByBreadth K tolls queue found x1 = some X) (hp_this : At11 G w b tolls queue heap heapSize found improved) : Met l yX11_searchByBreadth (Cond.code yX11_searchByBreadth cX11_searchByBreadth 4 none :: gAll) ({ frames := 3, cells := 0, slots := 0, locals := 70 }) (va_Pc [.ref b, .int x1] (mm_Pre G w sz)) (mm_Qv G w sz (fun w' => At11 G w' b tolls X.1 heap heapSize X.2 improved ∧ mm_fr w w' b (b + 6))) 0 0 (va_A w sz) := by
  refine mm_headV [.ref b, .int x1] (by decide +kernel) rfl (Nat.le_of_ble_eq_true rfl) ?_
  intro p e s m args below meth c A Q hsz hC hM hret hnm ls hl
  have hx := hC.1.1
  have hb := hC.1.2.1
  have hl : lv_has ls 4 [(0, .ref b), (1, .int x1)] := hl
  have hF : mm_fr w w b (b + 6) := mm_fr.rf
  rw [f_X11_searchByBreadth] at hf
  refine lv_aload_n hx hb dX11_searchByBreadth_0 rfl (lv_at hl 0 rfl) ?_
  refine lv_aload_n hx hb dX11_searchByBreadth_1 rfl (lv_at hl 0 rfl) ?_
  refine mm_get hC hM (k := 4) hp_this.1 rfl inAX11 (by decide) q1_190 rfl dX11_searchByBreadth_2 ?_
  refine lv_iload_n hx hb dX11_searchByBreadth_5 rfl (lv_at hl 1 rfl) ?_
  obtain ⟨q6, hq6, hf⟩ := mm_bd hf
  refine mm_Vv (rest := []) hC hM (c_X11_begin_this_found l hq6 hp_this) q2_151 q1_8 ykX11_begin q2_148 q2_150 qp_6017c26e hp_this.1 rfl ⟨rfl, rfl⟩ ⟨Nat.le_of_ble_eq_true rfl, Nat.le_of_ble_eq_true rfl⟩ rfl hl.1 rfl (Nat.le_of_ble_eq_true rfl) dX11_searchByBreadth_6 ⟨Nat.le_of_ble_eq_true rfl, Nat.le_of_ble_eq_true rfl⟩ (fun w6 H locs hM hw => ?_)
  obtain ⟨hn_this, hfr⟩ := hw
  have hp_this := hn_this
  have hF := hF.tr (hfr.wide (by omega) (by omega))
  refine lv_aload_n hx hb dX11_searchByBreadth_9 rfl (lv_at hl 0 rfl) ?_
  refine mm_get hC hM (k := 1) hp_this.1 rfl inAX11 (by decide) q1_187 rfl dX11_searchByBreadth_10 ?_
  refine lv_iconst (v := 0) hx hb dX11_searchByBreadth_13 (by decide) ?_
  refine lv_iload_n hx hb dX11_searchByBreadth_14 rfl (lv_at hl 1 rfl) ?_
  refine mm_iastN (N := 0) hC hM (hp_this.2.2.1) (by decide) (by unfold vp_in; decide) dX11_searchByBreadth_15 (fun w15 H locs hM hm => ?_)
  have hp_this : At11 G w15 b tolls (upd queue 0 x1) heap heapSize q6 improved := ⟨hm.keep (hp_this.1) (by omega), hm.keep (hp_this.2.1) (by omega), hm.1, hm.keep (hp_this.2.2.2.1) (by omega), hm.keep (hp_this.2.2.2.2.1) (by omega), hm.keep (hp_this.2.2.2.2.2) (by omega)⟩
  have hF := hF.tr (hm.fr (by omega) (by omega))
  refine lv_aload_n hx hb dX11_searchByBreadth_16 rfl (lv_at hl 0 rfl) ?_
  refine mm_get hC hM (k := 4) hp_this.1 rfl inAX11 (by decide) q1_190 rfl dX11_searchByBreadth_17 ?_
  refine lv_iload_n hx hb dX11_searchByBreadth_20 rfl (lv_at hl 1 rfl) ?_
  obtain ⟨hg21, hf⟩ := mm_gd hf
  refine mm_iald hC hM (hp_this.2.2.2.2.1) hg21 dX11_searchByBreadth_21 ?_
  refine lv_if_ne (tgt := 29) hx hb dX11_searchByBreadth_22 (by decide) (fun hcd => ?_) (fun hcd => ?_)
  · rw [if_neg hcd] at hf
    refine lv_iconst (v := 0) hx hb dX11_searchByBreadth_29 (by decide) ?_
    refine lv_istore_n (lv' := [(2, .int 0), (0, .ref b), (1, .int x1)]) hx hb dX11_searchByBreadth_30 rfl hl (by decide) rfl (fun ls hl => ?_)
    refine lv_iconst (v := 0) hx hb dX11_searchByBreadth_31 (by decide) ?_
    refine lv_istore_n (lv' := [(3, .int 0), (2, .int 0), (0, .ref b), (1, .int x1)]) hx hb dX11_searchByBreadth_32 rfl hl (by decide) rfl (fun ls hl => ?_)
    have L33 : ∀ (n : Nat) (L33_x2 : Int32) (L33_x3 : Int32) (L33_queue : Nat → Int32) (L33_found : Nat → Int32) (X : (Nat → Int32) × (Nat → Int32)), f_X11_searchByBreadth_L33 K tolls n L33_x2 L33_x3 L33_queue L33_found = some X → ∀ (L33_w : va_W) (H : Heap) (locs : List Loc), mm_S G A s.heap L33_w H locs → At11 G L33_w b tolls L33_queue heap heapSize L33_found improved → mm_fr w L33_w b (b + 6) → ∀ (ls : Array Slot), lv_has ls 4 [(0, .ref b), (2, .int L33_x2), (3, .int L33_x3)] → (∀ (w9 : va_W) (H : Heap) (locs : List Loc), mm_S G A s.heap w9 H locs → At11 G w9 b tolls X.1 heap heapSize X.2 improved → mm_fr w w9 b (b + 6) → ∀ (ls : Array Slot), lv_has ls 4 [] → W p l e ({ frames := 3, cells := 0, slots := 0, locals := 70 } : Room) s m args below meth c H locs 0 0 Q (F0 m 62 ls [])) → W p l e ({ frames := 3, cells := 0, slots := 0, locals := 70 } : Room) s m args below meth c H locs 0 0 Q (F0 m 33 ls []) := by
      intro n
      induction n with
      | zero => intro L33_x2 L33_x3 L33_queue L33_found X hf; cases hf
      | succ n ih =>
        intro L33_x2 L33_x3 L33_queue L33_found X hf L33_w H locs hM hp_this hF ls hl hk
        rw [f_X11_searchByBreadth_L33] at hf
        refine lv_iload_n hx hb dX11_searchByBreadth_33 rfl (lv_at hl 2 rfl) ?_
        refine lv_bipush (v := 81) hx hb dX11_searchByBreadth_34 (by decide) ?_
        refine lv_icmp_ge (tgt := 62) hx hb dX11_searchByBreadth_36 (by decide) (fun hcd => ?_) (fun hcd => ?_)
        · rw [if_pos hcd] at hf
          cases hf
          exact hk _ _ _ hM hp_this hF _ (lv_sub hl [] rfl)
        · rw [if_neg hcd] at hf
          refine lv_iload_n hx hb dX11_searchByBreadth_39 rfl (lv_at hl 2 rfl) ?_
          refine lv_iload_n hx hb dX11_searchByBreadth_40 rfl (lv_at hl 1 rfl) ?_
          refine lv_icmp_ge (tgt := 62) hx hb dX11_searchByBreadth_41 (by decide) (fun hcd => ?_) (fun hcd => ?_)
          · rw [if_pos hcd] at hf
            cases hf
            exact hk _ _ _ hM hp_this hF _ (lv_sub hl [] rfl)
          · rw [if_neg hcd] at hf
            refine lv_aload_n hx hb dX11_searchByBreadth_44 rfl (lv_at hl 0 rfl) ?_
            refine lv_aload_n hx hb dX11_searchByBreadth_45 rfl (lv_at hl 0 rfl) ?_
            refine mm_get hC hM (k := 1) hp_this.1 rfl inAX11 (by decide) q1_187 rfl dX11_searchByBreadth_46 ?_
            refine lv_iload_n hx hb dX11_searchByBreadth_49 rfl (lv_at hl 2 rfl) ?_
            obtain ⟨hg50, hf⟩ := mm_gd hf
            refine mm_iald hC hM (hp_this.2.2.1) hg50 dX11_searchByBreadth_50 ?_
            refine lv_iload_n hx hb dX11_searchByBreadth_51 rfl (lv_at hl 1 rfl) ?_
            obtain ⟨q52, hq52, hf⟩ := mm_bd hf
            refine mm_Vi (rest := []) hC hM (c_X11_spread l hq52 hp_this) q2_156 q1_8 ykX11_spread q2_153 q2_155 qp_b4783639 hp_this.1 rfl ⟨rfl, rfl⟩ ⟨Nat.le_of_ble_eq_true rfl, Nat.le_of_ble_eq_true rfl⟩ rfl hl.1 rfl (Nat.le_of_ble_eq_true rfl) dX11_searchByBreadth_52 ⟨Nat.le_of_ble_eq_true rfl, Nat.le_of_ble_eq_true rfl⟩ (fun r w52 H locs hM hw => ?_)
            obtain ⟨hr, hn_this, hfr⟩ := hw
            rw [hr]
            have hp_this := hn_this
            have hF := hF.tr (hfr.wide (by omega) (by omega))
            refine lv_istore_n (lv' := [(2, .int q52.1), (0, .ref b), (3, .int L33_x3)]) hx hb dX11_searchByBreadth_55 rfl hl (by decide) rfl (fun ls hl => ?_)
            refine lv_iinc (v := (L33_x3 + 1)) (lv' := [(3, .int (L33_x3 + 1)), (2, .int q52.1), (0, .ref b)]) hx hb dX11_searchByBreadth_56 hl (k := 2) rfl rfl (by decide) rfl (fun ls hl => ?_)
            refine lv_goto (tgt := 33) hx hb dX11_searchByBreadth_59 (by decide) ?_
            exact ih _ _ _ _ _ hf _ _ _ hM hp_this hF _ (lv_sub hl [2, 1, 0] rfl) hk
    obtain ⟨q33, hq33, hf⟩ := mm_bd hf
    refine L33 K _ _ _ _ _ hq33 _ _ _ hM hp_this hF _ (lv_sub hl [2, 1, 0] rfl) (fun w33 H locs hM hp_this hF ls hl => ?_)
    cases hf
    exact hret hM dX11_searchByBreadth_62 ⟨hp_this, hF⟩
  · rw [if_pos hcd] at hf
    refine lv_iconst (v := 1) hx hb dX11_searchByBreadth_25 (by decide) ?_
    refine lv_goto (tgt := 30) hx hb dX11_searchByBreadth_26 (by decide) ?_
    refine lv_istore_n (lv' := [(2, .int 1), (0, .ref b), (1, .int x1)]) hx hb dX11_searchByBreadth_30 rfl hl (by decide) rfl (fun ls hl => ?_)
    refine lv_iconst (v := 0) hx hb dX11_searchByBreadth_31 (by decide) ?_
    refine lv_istore_n (lv' := [(3, .int 0), (2, .int 1), (0, .ref b), (1, .int x1)]) hx hb dX11_searchByBreadth_32 rfl hl (by decide) rfl (fun ls hl => ?_)
    have L33 : ∀ (n : Nat) (L33_x2 : Int32) (L33_x3 : Int32) (L33_queue : Nat → Int32) (L33_found : Nat → Int32) (X : (Nat → Int32) × (Nat → Int32)), f_X11_searchByBreadth_L33 K tolls n L33_x2 L33_x3 L33_queue L33_found = some X → ∀ (L33_w : va_W) (H : Heap) (locs : List Loc), mm_S G A s.heap L33_w H locs → At11 G L33_w b tolls L33_queue heap heapSize L33_found improved → mm_fr w L33_w b (b + 6) → ∀ (ls : Array Slot), lv_has ls 4 [(0, .ref b), (2, .int L33_x2), (3, .int L33_x3)] → (∀ (w9 : va_W) (H : Heap) (locs : List Loc), mm_S G A s.heap w9 H locs → At11 G w9 b tolls X.1 heap heapSize X.2 improved → mm_fr w w9 b (b + 6) → ∀ (ls : Array Slot), lv_has ls 4 [] → W p l e ({ frames := 3, cells := 0, slots := 0, locals := 70 } : Room) s m args below meth c H locs 0 0 Q (F0 m 62 ls [])) → W p l e ({ frames := 3, cells := 0, slots := 0, locals := 70 } : Room) s m args below meth c H locs 0 0 Q (F0 m 33 ls []) := by
      intro n
      induction n with
      | zero => intro L33_x2 L33_x3 L33_queue L33_found X hf; cases hf
      | succ n ih =>
        intro L33_x2 L33_x3 L33_queue L33_found X hf L33_w H locs hM hp_this hF ls hl hk
        rw [f_X11_searchByBreadth_L33] at hf
        refine lv_iload_n hx hb dX11_searchByBreadth_33 rfl (lv_at hl 2 rfl) ?_
        refine lv_bipush (v := 81) hx hb dX11_searchByBreadth_34 (by decide) ?_
        refine lv_icmp_ge (tgt := 62) hx hb dX11_searchByBreadth_36 (by decide) (fun hcd => ?_) (fun hcd => ?_)
        · rw [if_pos hcd] at hf
          cases hf
          exact hk _ _ _ hM hp_this hF _ (lv_sub hl [] rfl)
        · rw [if_neg hcd] at hf
          refine lv_iload_n hx hb dX11_searchByBreadth_39 rfl (lv_at hl 2 rfl) ?_
          refine lv_iload_n hx hb dX11_searchByBreadth_40 rfl (lv_at hl 1 rfl) ?_
          refine lv_icmp_ge (tgt := 62) hx hb dX11_searchByBreadth_41 (by decide) (fun hcd => ?_) (fun hcd => ?_)
          · rw [if_pos hcd] at hf
            cases hf
            exact hk _ _ _ hM hp_this hF _ (lv_sub hl [] rfl)
          · rw [if_neg hcd] at hf
            refine lv_aload_n hx hb dX11_searchByBreadth_44 rfl (lv_at hl 0 rfl) ?_
            refine lv_aload_n hx hb dX11_searchByBreadth_45 rfl (lv_at hl 0 rfl) ?_
            refine mm_get hC hM (k := 1) hp_this.1 rfl inAX11 (by decide) q1_187 rfl dX11_searchByBreadth_46 ?_
            refine lv_iload_n hx hb dX11_searchByBreadth_49 rfl (lv_at hl 2 rfl) ?_
            obtain ⟨hg50, hf⟩ := mm_gd hf
            refine mm_iald hC hM (hp_this.2.2.1) hg50 dX11_searchByBreadth_50 ?_
            refine lv_iload_n hx hb dX11_searchByBreadth_51 rfl (lv_at hl 1 rfl) ?_
            obtain ⟨q52, hq52, hf⟩ := mm_bd hf
            refine mm_Vi (rest := []) hC hM (c_X11_spread l hq52 hp_this) q2_156 q1_8 ykX11_spread q2_153 q2_155 qp_b4783639 hp_this.1 rfl ⟨rfl, rfl⟩ ⟨Nat.le_of_ble_eq_true rfl, Nat.le_of_ble_eq_true rfl⟩ rfl hl.1 rfl (Nat.le_of_ble_eq_true rfl) dX11_searchByBreadth_52 ⟨Nat.le_of_ble_eq_true rfl, Nat.le_of_ble_eq_true rfl⟩ (fun r w52 H locs hM hw => ?_)
            obtain ⟨hr, hn_this, hfr⟩ := hw
            rw [hr]
            have hp_this := hn_this
            have hF := hF.tr (hfr.wide (by omega) (by omega))
            refine lv_istore_n (lv' := [(2, .int q52.1), (0, .ref b), (3, .int L33_x3)]) hx hb dX11_searchByBreadth_55 rfl hl (by decide) rfl (fun ls hl => ?_)
            refine lv_iinc (v := (L33_x3 + 1)) (lv' := [(3, .int (L33_x3 + 1)), (2, .int q52.1), (0, .ref b)]) hx hb dX11_searchByBreadth_56 hl (k := 2) rfl rfl (by decide) rfl (fun ls hl => ?_)
            refine lv_goto (tgt := 33) hx hb dX11_searchByBreadth_59 (by decide) ?_
            exact ih _ _ _ _ _ hf _ _ _ hM hp_this hF _ (lv_sub hl [2, 1, 0] rfl) hk
    obtain ⟨q33, hq33, hf⟩ := mm_bd hf
    refine L33 K _ _ _ _ _ hq33 _ _ _ hM hp_this hF _ (lv_sub hl [2, 1, 0] rfl) (fun w33 H locs hM hp_this hF ls hl => ?_)
    cases hf
    exact hret hM dX11_searchByBreadth_62 ⟨hp_this, hF⟩
def f_X11_lesserChild (heap : Nat → Int32) (heapSize : Int32) (x1 : Int32) : Option (Int32) := if heapSize ≤ (((2 * x1) + 1) + 1) then some ((2 * x1) + 1) else mm_g (mm_ck (((2 * x1) + 1) + 1) 325) (mm_g (mm_ck ((2 * x1) + 1) 325) (if (heap ((2 * x1) + 1).toNatClampNeg) ≤ (heap (((2 * x1) + 1) + 1).toNatClampNeg) then some ((2 * x1) + 1) else some (((2 * x1) + 1) + 1)))
set_option maxHeartbeats 4000000 in
set_option maxRecDepth 100000 in
theorem c_X11_lesserChild (l : Launch) {G : mm_G} {w : va_W} {sz : Nat} {b : Nat} {tolls : Nat → Int32} {queue : Nat → Int32} {heap : Nat → Int32} {heapSize : Int32} {found : Nat → Int32} {improved : Nat → Int32} {x1 : Int32} {X : Int32} (hf : f_X11_lesserChild heap heapSize x1 = some X) (hp_this : At11 G w b tolls queue heap heapSize found improved) : Met l yX11_lesserChild (Cond.code yX11_lesserChild cX11_lesserChild 3 (some .int) :: gAll) ({ frames := 0, cells := 0, slots := 0, locals := 0 }) (va_Pc [.ref b, .int x1] (mm_Pre G w sz)) (mm_Qi G w sz (fun r w' => r = X ∧ w' = w)) 0 0 (va_A w sz) := by
  refine mm_headI [.ref b, .int x1] (by decide +kernel) rfl (Nat.le_of_ble_eq_true rfl) ?_
  intro p e s m args below meth c A Q hsz hC hM hret ls hl
  have hx := hC.1.1
  have hb := hC.1.2.1
  have hl : lv_has ls 3 [(0, .ref b), (1, .int x1)] := hl
  rw [f_X11_lesserChild] at hf
  refine lv_iconst (v := 2) hx hb dX11_lesserChild_0 (by decide) ?_
  refine lv_iload_n hx hb dX11_lesserChild_1 rfl (lv_at hl 1 rfl) ?_
  refine lv_imul hx hb dX11_lesserChild_2 ?_
  refine lv_iconst (v := 1) hx hb dX11_lesserChild_3 (by decide) ?_
  refine lv_iadd hx hb dX11_lesserChild_4 ?_
  refine lv_istore_n (lv' := [(2, .int ((2 * x1) + 1)), (0, .ref b), (1, .int x1)]) hx hb dX11_lesserChild_5 rfl hl (by decide) rfl (fun ls hl => ?_)
  refine lv_iload_n hx hb dX11_lesserChild_6 rfl (lv_at hl 0 rfl) ?_
  refine lv_iconst (v := 1) hx hb dX11_lesserChild_7 (by decide) ?_
  refine lv_iadd hx hb dX11_lesserChild_8 ?_
  refine lv_aload_n hx hb dX11_lesserChild_9 rfl (lv_at hl 1 rfl) ?_
  refine mm_get hC hM (k := 3) hp_this.1 rfl inAX11 (by decide) q1_189 rfl dX11_lesserChild_10 ?_
  refine lv_icmp_ge (tgt := 39) hx hb dX11_lesserChild_13 (by decide) (fun hcd => ?_) (fun hcd => ?_)
  · rw [if_pos hcd] at hf
    refine lv_iload_n hx hb dX11_lesserChild_39 rfl (lv_at hl 0 rfl) ?_
    cases hf
    exact hret hM dX11_lesserChild_40 rfl ⟨rfl, rfl⟩
  · rw [if_neg hcd] at hf
    refine lv_aload_n hx hb dX11_lesserChild_16 rfl (lv_at hl 1 rfl) ?_
    refine mm_get hC hM (k := 2) hp_this.1 rfl inAX11 (by decide) q1_188 rfl dX11_lesserChild_17 ?_
    refine lv_iload_n hx hb dX11_lesserChild_20 rfl (lv_at hl 0 rfl) ?_
    refine lv_iconst (v := 1) hx hb dX11_lesserChild_21 (by decide) ?_
    refine lv_iadd hx hb dX11_lesserChild_22 ?_
    obtain ⟨hg23, hf⟩ := mm_gd hf
    refine mm_iald hC hM (hp_this.2.2.2.1) hg23 dX11_lesserChild_23 ?_
    refine lv_aload_n hx hb dX11_lesserChild_24 rfl (lv_at hl 1 rfl) ?_
    refine mm_get hC hM (k := 2) hp_this.1 rfl inAX11 (by decide) q1_188 rfl dX11_lesserChild_25 ?_
    refine lv_iload_n hx hb dX11_lesserChild_28 rfl (lv_at hl 0 rfl) ?_
    obtain ⟨hg29, hf⟩ := mm_gd hf
    refine mm_iald hC hM (hp_this.2.2.2.1) hg29 dX11_lesserChild_29 ?_
    refine lv_icmp_ge (tgt := 39) hx hb dX11_lesserChild_30 (by decide) (fun hcd => ?_) (fun hcd => ?_)
    · rw [if_pos hcd] at hf
      refine lv_iload_n hx hb dX11_lesserChild_39 rfl (lv_at hl 0 rfl) ?_
      cases hf
      exact hret hM dX11_lesserChild_40 rfl ⟨rfl, rfl⟩
    · rw [if_neg hcd] at hf
      refine lv_iload_n hx hb dX11_lesserChild_33 rfl (lv_at hl 0 rfl) ?_
      refine lv_iconst (v := 1) hx hb dX11_lesserChild_34 (by decide) ?_
      refine lv_iadd hx hb dX11_lesserChild_35 ?_
      refine lv_goto (tgt := 40) hx hb dX11_lesserChild_36 (by decide) ?_
      cases hf
      exact hret hM dX11_lesserChild_40 rfl ⟨rfl, rfl⟩
def f_X11_popEntry_L36 (heapSize : Int32) (x2 : Int32) : Nat → (Int32) → (Int32) → (Nat → Int32) → Option (Int32 × (Nat → Int32))
  | 0, _, _, _ => none
  | n + 1, x3, x4, heap => if heapSize ≤ x4 then some (x3, heap) else mm_g (mm_ck x4 325) (if x2 ≤ (heap x4.toNatClampNeg) then some (x3, heap) else mm_g (mm_ck x4 325) (mm_g (mm_ck x3 325) ((f_X11_lesserChild (upd heap x3.toNatClampNeg (heap x4.toNatClampNeg)) heapSize x4).bind fun q74 => f_X11_popEntry_L36 heapSize x2 n x4 q74 (upd heap x3.toNatClampNeg (heap x4.toNatClampNeg)))))
def f_X11_popEntry (K : Nat) (heap : Nat → Int32) (heapSize : Int32) : Option (Int32 × (Nat → Int32) × Int32) := mm_g (mm_ck (heapSize - 1) 325) ((f_X11_lesserChild heap (heapSize - 1) 0).bind fun q31 => (f_X11_popEntry_L36 (heapSize - 1) (heap (heapSize - 1).toNatClampNeg) K 0 q31 heap).bind fun q36 => mm_g (mm_ck q36.1 325) (some ((heap 0), (upd q36.2 q36.1.toNatClampNeg (heap (heapSize - 1).toNatClampNeg)), (heapSize - 1))))
set_option maxHeartbeats 4000000 in
set_option maxRecDepth 100000 in
theorem c_X11_popEntry (l : Launch) {G : mm_G} {K : Nat} {w : va_W} {sz : Nat} {b : Nat} {tolls : Nat → Int32} {queue : Nat → Int32} {heap : Nat → Int32} {heapSize : Int32} {found : Nat → Int32} {improved : Nat → Int32} {X : Int32 × (Nat → Int32) × Int32} (hf : f_X11_popEntry K heap heapSize = some X) (hp_this : At11 G w b tolls queue heap heapSize found improved) : Met l yX11_popEntry (Cond.code yX11_popEntry cX11_popEntry 5 (some .int) :: gAll) ({ frames := 1, cells := 0, slots := 0, locals := 22 }) (va_Pc [.ref b] (mm_Pre G w sz)) (mm_Qi G w sz (fun r w' => r = X.1 ∧ At11 G w' b tolls queue X.2.1 X.2.2 found improved ∧ mm_fr w w' b (b + 6))) 0 0 (va_A w sz) := by
  refine mm_headI [.ref b] (by decide +kernel) rfl (Nat.le_of_ble_eq_true rfl) ?_
  intro p e s m args below meth c A Q hsz hC hM hret ls hl
  have hx := hC.1.1
  have hb := hC.1.2.1
  have hl : lv_has ls 5 [(0, .ref b)] := hl
  have hF : mm_fr w w b (b + 6) := mm_fr.rf
  rw [f_X11_popEntry] at hf
  refine lv_aload_n hx hb dX11_popEntry_0 rfl (lv_at hl 0 rfl) ?_
  refine mm_get hC hM (k := 2) hp_this.1 rfl inAX11 (by decide) q1_188 rfl dX11_popEntry_1 ?_
  refine lv_iconst (v := 0) hx hb dX11_popEntry_4 (by decide) ?_
  refine mm_ialdN (N := 0) hC hM (hp_this.2.2.2.1) (by decide) (by unfold vp_in; decide) dX11_popEntry_5 ?_
  refine lv_istore_n (lv' := [(1, .int (heap 0)), (0, .ref b)]) hx hb dX11_popEntry_6 rfl hl (by decide) rfl (fun ls hl => ?_)
  refine lv_aload_n hx hb dX11_popEntry_7 rfl (lv_at hl 1 rfl) ?_
  refine lv_dup hx hb dX11_popEntry_8 rfl ?_
  refine mm_get hC hM (k := 3) hp_this.1 rfl inAX11 (by decide) q1_189 rfl dX11_popEntry_9 ?_
  refine lv_iconst (v := 1) hx hb dX11_popEntry_12 (by decide) ?_
  refine lv_isub hx hb dX11_popEntry_13 ?_
  refine mm_put hC hM (k := 3) tyX11 hp_this.1 rfl inAX11 tyX11_ok nmX11 (by decide) q1_189 rfl rfl rfl rfl (Nat.le_of_ble_eq_true rfl) dX11_popEntry_14 (fun w14 H locs hM hm => ?_)
  have hp_this : At11 G w14 b tolls queue heap (heapSize - 1) found improved := ⟨hm.1, hm.keep (hp_this.2.1) (by omega), hm.keep (hp_this.2.2.1) (by omega), hm.keep (hp_this.2.2.2.1) (by omega), hm.keep (hp_this.2.2.2.2.1) (by omega), hm.keep (hp_this.2.2.2.2.2) (by omega)⟩
  have hF := hF.tr (hm.fr (by omega) (by omega))
  refine lv_aload_n hx hb dX11_popEntry_17 rfl (lv_at hl 1 rfl) ?_
  refine mm_get hC hM (k := 2) hp_this.1 rfl inAX11 (by decide) q1_188 rfl dX11_popEntry_18 ?_
  refine lv_aload_n hx hb dX11_popEntry_21 rfl (lv_at hl 1 rfl) ?_
  refine mm_get hC hM (k := 3) hp_this.1 rfl inAX11 (by decide) q1_189 rfl dX11_popEntry_22 ?_
  obtain ⟨hg25, hf⟩ := mm_gd hf
  refine mm_iald hC hM (hp_this.2.2.2.1) hg25 dX11_popEntry_25 ?_
  refine lv_istore_n (lv' := [(2, .int (heap (heapSize - 1).toNatClampNeg)), (1, .int (heap 0)), (0, .ref b)]) hx hb dX11_popEntry_26 rfl hl (by decide) rfl (fun ls hl => ?_)
  refine lv_iconst (v := 0) hx hb dX11_popEntry_27 (by decide) ?_
  refine lv_istore_n (lv' := [(3, .int 0), (2, .int (heap (heapSize - 1).toNatClampNeg)), (1, .int (heap 0)), (0, .ref b)]) hx hb dX11_popEntry_28 rfl hl (by decide) rfl (fun ls hl => ?_)
  refine lv_aload_n hx hb dX11_popEntry_29 rfl (lv_at hl 3 rfl) ?_
  refine lv_iload_n hx hb dX11_popEntry_30 rfl (lv_at hl 0 rfl) ?_
  obtain ⟨q31, hq31, hf⟩ := mm_bd hf
  refine mm_Vi (rest := []) hC hM (c_X11_lesserChild l hq31 hp_this) q2_205 q1_8 ykX11_lesserChild q2_202 q2_204 qp_b85a8b05 hp_this.1 rfl ⟨rfl, rfl⟩ ⟨Nat.le_of_ble_eq_true rfl, Nat.le_of_ble_eq_true rfl⟩ rfl hl.1 rfl (Nat.le_of_ble_eq_true rfl) dX11_popEntry_31 ⟨Nat.le_of_ble_eq_true rfl, Nat.le_of_ble_eq_true rfl⟩ (fun r w31 H locs hM hw => ?_)
  obtain ⟨hr, hw⟩ := hw
  rw [hr]
  rw [hw] at hM
  refine lv_istore (lv' := [(4, .int q31), (3, .int 0), (2, .int (heap (heapSize - 1).toNatClampNeg)), (1, .int (heap 0)), (0, .ref b)]) hx hb dX11_popEntry_34 hl (by decide) rfl (fun ls hl => ?_)
  have L36 : ∀ (n : Nat) (L36_x3 : Int32) (L36_x4 : Int32) (L36_heap : Nat → Int32) (X : Int32 × (Nat → Int32)), f_X11_popEntry_L36 (heapSize - 1) (heap (heapSize - 1).toNatClampNeg) n L36_x3 L36_x4 L36_heap = some X → ∀ (L36_w : va_W) (H : Heap) (locs : List Loc), mm_S G A s.heap L36_w H locs → At11 G L36_w b tolls queue L36_heap (heapSize - 1) found improved → mm_fr w L36_w b (b + 6) → ∀ (ls : Array Slot), lv_has ls 5 [(0, .ref b), (1, .int (heap 0)), (2, .int (heap (heapSize - 1).toNatClampNeg)), (3, .int L36_x3), (4, .int L36_x4)] → (∀ (w9 : va_W) (H : Heap) (locs : List Loc), mm_S G A s.heap w9 H locs → At11 G w9 b tolls queue X.2 (heapSize - 1) found improved → mm_fr w w9 b (b + 6) → ∀ (ls : Array Slot), lv_has ls 5 [(0, .ref b), (1, .int (heap 0)), (2, .int (heap (heapSize - 1).toNatClampNeg)), (3, .int X.1)] → W p l e ({ frames := 1, cells := 0, slots := 0, locals := 22 } : Room) s m args below meth c H locs 0 0 Q (F0 m 82 ls [])) → W p l e ({ frames := 1, cells := 0, slots := 0, locals := 22 } : Room) s m args below meth c H locs 0 0 Q (F0 m 36 ls []) := by
    intro n
    induction n with
    | zero => intro L36_x3 L36_x4 L36_heap X hf; cases hf
    | succ n ih =>
      intro L36_x3 L36_x4 L36_heap X hf L36_w H locs hM hp_this hF ls hl hk
      rw [f_X11_popEntry_L36] at hf
      refine lv_iload hx hb dX11_popEntry_36 (lv_at hl 4 rfl) ?_
      refine lv_aload_n hx hb dX11_popEntry_38 rfl (lv_at hl 0 rfl) ?_
      refine mm_get hC hM (k := 3) hp_this.1 rfl inAX11 (by decide) q1_189 rfl dX11_popEntry_39 ?_
      refine lv_icmp_ge (tgt := 82) hx hb dX11_popEntry_42 (by decide) (fun hcd => ?_) (fun hcd => ?_)
      · rw [if_pos hcd] at hf
        cases hf
        exact hk _ _ _ hM hp_this hF _ (lv_sub hl [0, 1, 2, 3] rfl)
      · rw [if_neg hcd] at hf
        refine lv_aload_n hx hb dX11_popEntry_45 rfl (lv_at hl 0 rfl) ?_
        refine mm_get hC hM (k := 2) hp_this.1 rfl inAX11 (by decide) q1_188 rfl dX11_popEntry_46 ?_
        refine lv_iload hx hb dX11_popEntry_49 (lv_at hl 4 rfl) ?_
        obtain ⟨hg51, hf⟩ := mm_gd hf
        refine mm_iald hC hM (hp_this.2.2.2.1) hg51 dX11_popEntry_51 ?_
        refine lv_iload_n hx hb dX11_popEntry_52 rfl (lv_at hl 2 rfl) ?_
        refine lv_icmp_ge (tgt := 82) hx hb dX11_popEntry_53 (by decide) (fun hcd => ?_) (fun hcd => ?_)
        · rw [if_pos hcd] at hf
          cases hf
          exact hk _ _ _ hM hp_this hF _ (lv_sub hl [0, 1, 2, 3] rfl)
        · rw [if_neg hcd] at hf
          refine lv_aload_n hx hb dX11_popEntry_56 rfl (lv_at hl 0 rfl) ?_
          refine mm_get hC hM (k := 2) hp_this.1 rfl inAX11 (by decide) q1_188 rfl dX11_popEntry_57 ?_
          refine lv_iload_n hx hb dX11_popEntry_60 rfl (lv_at hl 3 rfl) ?_
          refine lv_aload_n hx hb dX11_popEntry_61 rfl (lv_at hl 0 rfl) ?_
          refine mm_get hC hM (k := 2) hp_this.1 rfl inAX11 (by decide) q1_188 rfl dX11_popEntry_62 ?_
          refine lv_iload hx hb dX11_popEntry_65 (lv_at hl 4 rfl) ?_
          obtain ⟨hg67, hf⟩ := mm_gd hf
          refine mm_iald hC hM (hp_this.2.2.2.1) hg67 dX11_popEntry_67 ?_
          obtain ⟨hg68, hf⟩ := mm_gd hf
          refine mm_iast hC hM (hp_this.2.2.2.1) hg68 dX11_popEntry_68 (fun w68 H locs hM hm => ?_)
          have hp_this : At11 G w68 b tolls queue (upd L36_heap L36_x3.toNatClampNeg (L36_heap L36_x4.toNatClampNeg)) (heapSize - 1) found improved := ⟨hm.keep (hp_this.1) (by omega), hm.keep (hp_this.2.1) (by omega), hm.keep (hp_this.2.2.1) (by omega), hm.1, hm.keep (hp_this.2.2.2.2.1) (by omega), hm.keep (hp_this.2.2.2.2.2) (by omega)⟩
          have hF := hF.tr (hm.fr (by omega) (by omega))
          refine lv_iload hx hb dX11_popEntry_69 (lv_at hl 4 rfl) ?_
          refine lv_istore_n (lv' := [(3, .int L36_x4), (0, .ref b), (1, .int (heap 0)), (2, .int (heap (heapSize - 1).toNatClampNeg)), (4, .int L36_x4)]) hx hb dX11_popEntry_71 rfl hl (by decide) rfl (fun ls hl => ?_)
          refine lv_aload_n hx hb dX11_popEntry_72 rfl (lv_at hl 1 rfl) ?_
          refine lv_iload_n hx hb dX11_popEntry_73 rfl (lv_at hl 0 rfl) ?_
          obtain ⟨q74, hq74, hf⟩ := mm_bd hf
          refine mm_Vi (rest := []) hC hM (c_X11_lesserChild l hq74 hp_this) q2_205 q1_8 ykX11_lesserChild q2_202 q2_204 qp_b85a8b05 hp_this.1 rfl ⟨rfl, rfl⟩ ⟨Nat.le_of_ble_eq_true rfl, Nat.le_of_ble_eq_true rfl⟩ rfl hl.1 rfl (Nat.le_of_ble_eq_true rfl) dX11_popEntry_74 ⟨Nat.le_of_ble_eq_true rfl, Nat.le_of_ble_eq_true rfl⟩ (fun r w74 H locs hM hw => ?_)
          obtain ⟨hr, hw⟩ := hw
          rw [hr]
          rw [hw] at hM
          refine lv_istore (lv' := [(4, .int q74), (3, .int L36_x4), (0, .ref b), (1, .int (heap 0)), (2, .int (heap (heapSize - 1).toNatClampNeg))]) hx hb dX11_popEntry_77 hl (by decide) rfl (fun ls hl => ?_)
          refine lv_goto (tgt := 36) hx hb dX11_popEntry_79 (by decide) ?_
          exact ih _ _ _ _ hf _ _ _ hM hp_this hF _ (lv_sub hl [2, 3, 4, 1, 0] rfl) hk
  obtain ⟨q36, hq36, hf⟩ := mm_bd hf
  refine L36 K _ _ _ _ hq36 _ _ _ hM hp_this hF _ (lv_sub hl [4, 3, 2, 1, 0] rfl) (fun w36 H locs hM hp_this hF ls hl => ?_)
  refine lv_aload_n hx hb dX11_popEntry_82 rfl (lv_at hl 0 rfl) ?_
  refine mm_get hC hM (k := 2) hp_this.1 rfl inAX11 (by decide) q1_188 rfl dX11_popEntry_83 ?_
  refine lv_iload_n hx hb dX11_popEntry_86 rfl (lv_at hl 3 rfl) ?_
  refine lv_iload_n hx hb dX11_popEntry_87 rfl (lv_at hl 2 rfl) ?_
  obtain ⟨hg88, hf⟩ := mm_gd hf
  refine mm_iast hC hM (hp_this.2.2.2.1) hg88 dX11_popEntry_88 (fun w88 H locs hM hm => ?_)
  have hp_this : At11 G w88 b tolls queue (upd q36.2 q36.1.toNatClampNeg (heap (heapSize - 1).toNatClampNeg)) (heapSize - 1) found improved := ⟨hm.keep (hp_this.1) (by omega), hm.keep (hp_this.2.1) (by omega), hm.keep (hp_this.2.2.1) (by omega), hm.1, hm.keep (hp_this.2.2.2.2.1) (by omega), hm.keep (hp_this.2.2.2.2.2) (by omega)⟩
  have hF := hF.tr (hm.fr (by omega) (by omega))
  refine lv_iload_n hx hb dX11_popEntry_89 rfl (lv_at hl 1 rfl) ?_
  cases hf
  exact hret hM dX11_popEntry_90 rfl ⟨rfl, hp_this, hF⟩
def f_X11_pushEntry_L26 (x1 : Int32) : Nat → (Int32) → (Nat → Int32) → Option (Int32 × (Nat → Int32))
  | 0, _, _ => none
  | n + 1, x2, heap => if x2 ≤ 0 then some (x2, heap) else mm_g (mm_ck ((x2 - 1) / 2) 325) (if (heap ((x2 - 1) / 2).toNatClampNeg) ≤ x1 then some (x2, heap) else mm_g (mm_ck ((x2 - 1) / 2) 325) (mm_g (mm_ck x2 325) (f_X11_pushEntry_L26 x1 n ((x2 - 1) / 2) (upd heap x2.toNatClampNeg (heap ((x2 - 1) / 2).toNatClampNeg)))))
def f_X11_pushEntry (K : Nat) (heap : Nat → Int32) (heapSize : Int32) (x1 : Int32) : Option ((Nat → Int32) × Int32) := if heapSize < 325 then (f_X11_pushEntry_L26 x1 K heapSize heap).bind fun q26 => mm_g (mm_ck q26.1 325) (some ((upd q26.2 q26.1.toNatClampNeg x1), (heapSize + 1))) else some (heap, heapSize)
set_option maxHeartbeats 4000000 in
set_option maxRecDepth 100000 in
theorem c_X11_pushEntry (l : Launch) {G : mm_G} {K : Nat} {w : va_W} {sz : Nat} {b : Nat} {tolls : Nat → Int32} {queue : Nat → Int32} {heap : Nat → Int32} {heapSize : Int32} {found : Nat → Int32} {improved : Nat → Int32} {x1 : Int32} {X : (Nat → Int32) × Int32} (hf : f_X11_pushEntry K heap heapSize x1 = some X) (hp_this : At11 G w b tolls queue heap heapSize found improved) : Met l yX11_pushEntry (Cond.code yX11_pushEntry cX11_pushEntry 3 none :: gAll) ({ frames := 0, cells := 0, slots := 0, locals := 0 }) (va_Pc [.ref b, .int x1] (mm_Pre G w sz)) (mm_Qv G w sz (fun w' => At11 G w' b tolls queue X.1 X.2 found improved ∧ mm_fr w w' b (b + 6))) 0 0 (va_A w sz) := by
  refine mm_headV [.ref b, .int x1] (by decide +kernel) rfl (Nat.le_of_ble_eq_true rfl) ?_
  intro p e s m args below meth c A Q hsz hC hM hret hnm ls hl
  have hx := hC.1.1
  have hb := hC.1.2.1
  have hl : lv_has ls 3 [(0, .ref b), (1, .int x1)] := hl
  have hF : mm_fr w w b (b + 6) := mm_fr.rf
  rw [f_X11_pushEntry] at hf
  refine lv_aload_n hx hb dX11_pushEntry_0 rfl (lv_at hl 0 rfl) ?_
  refine mm_get hC hM (k := 3) hp_this.1 rfl inAX11 (by decide) q1_189 rfl dX11_pushEntry_1 ?_
  refine lv_sipush (v := 325) hx hb dX11_pushEntry_4 (by decide) ?_
  refine lv_icmp_lt (tgt := 11) hx hb dX11_pushEntry_7 (by decide) (fun hcd => ?_) (fun hcd => ?_)
  · rw [if_pos hcd] at hf
    refine lv_aload_n hx hb dX11_pushEntry_11 rfl (lv_at hl 0 rfl) ?_
    refine mm_get hC hM (k := 3) hp_this.1 rfl inAX11 (by decide) q1_189 rfl dX11_pushEntry_12 ?_
    refine lv_istore_n (lv' := [(2, .int heapSize), (0, .ref b), (1, .int x1)]) hx hb dX11_pushEntry_15 rfl hl (by decide) rfl (fun ls hl => ?_)
    refine lv_aload_n hx hb dX11_pushEntry_16 rfl (lv_at hl 1 rfl) ?_
    refine lv_dup hx hb dX11_pushEntry_17 rfl ?_
    refine mm_get hC hM (k := 3) hp_this.1 rfl inAX11 (by decide) q1_189 rfl dX11_pushEntry_18 ?_
    refine lv_iconst (v := 1) hx hb dX11_pushEntry_21 (by decide) ?_
    refine lv_iadd hx hb dX11_pushEntry_22 ?_
    refine mm_put hC hM (k := 3) tyX11 hp_this.1 rfl inAX11 tyX11_ok nmX11 (by decide) q1_189 rfl rfl rfl rfl (Nat.le_of_ble_eq_true rfl) dX11_pushEntry_23 (fun w23 H locs hM hm => ?_)
    have hp_this : At11 G w23 b tolls queue heap (heapSize + 1) found improved := ⟨hm.1, hm.keep (hp_this.2.1) (by omega), hm.keep (hp_this.2.2.1) (by omega), hm.keep (hp_this.2.2.2.1) (by omega), hm.keep (hp_this.2.2.2.2.1) (by omega), hm.keep (hp_this.2.2.2.2.2) (by omega)⟩
    have hF := hF.tr (hm.fr (by omega) (by omega))
    have L26 : ∀ (n : Nat) (L26_x2 : Int32) (L26_heap : Nat → Int32) (X : Int32 × (Nat → Int32)), f_X11_pushEntry_L26 x1 n L26_x2 L26_heap = some X → ∀ (L26_w : va_W) (H : Heap) (locs : List Loc), mm_S G A s.heap L26_w H locs → At11 G L26_w b tolls queue L26_heap (heapSize + 1) found improved → mm_fr w L26_w b (b + 6) → ∀ (ls : Array Slot), lv_has ls 3 [(0, .ref b), (1, .int x1), (2, .int L26_x2)] → (∀ (w9 : va_W) (H : Heap) (locs : List Loc), mm_S G A s.heap w9 H locs → At11 G w9 b tolls queue X.2 (heapSize + 1) found improved → mm_fr w w9 b (b + 6) → ∀ (ls : Array Slot), lv_has ls 3 [(0, .ref b), (1, .int x1), (2, .int X.1)] → W p l e ({ frames := 0, cells := 0, slots := 0, locals := 0 } : Room) s m args below meth c H locs 0 0 Q (F0 m 69 ls [])) → W p l e ({ frames := 0, cells := 0, slots := 0, locals := 0 } : Room) s m args below meth c H locs 0 0 Q (F0 m 26 ls []) := by
      intro n
      induction n with
      | zero => intro L26_x2 L26_heap X hf; cases hf
      | succ n ih =>
        intro L26_x2 L26_heap X hf L26_w H locs hM hp_this hF ls hl hk
        rw [f_X11_pushEntry_L26] at hf
        refine lv_iload_n hx hb dX11_pushEntry_26 rfl (lv_at hl 2 rfl) ?_
        refine lv_if_le (tgt := 69) hx hb dX11_pushEntry_27 (by decide) (fun hcd => ?_) (fun hcd => ?_)
        · rw [if_pos hcd] at hf
          cases hf
          exact hk _ _ _ hM hp_this hF _ (lv_sub hl [0, 1, 2] rfl)
        · rw [if_neg hcd] at hf
          refine lv_aload_n hx hb dX11_pushEntry_30 rfl (lv_at hl 0 rfl) ?_
          refine mm_get hC hM (k := 2) hp_this.1 rfl inAX11 (by decide) q1_188 rfl dX11_pushEntry_31 ?_
          refine lv_iload_n hx hb dX11_pushEntry_34 rfl (lv_at hl 2 rfl) ?_
          refine lv_iconst (v := 1) hx hb dX11_pushEntry_35 (by decide) ?_
          refine lv_isub hx hb dX11_pushEntry_36 ?_
          refine lv_iconst (v := 2) hx hb dX11_pushEntry_37 (by decide) ?_
          refine lv_idiv hx hb dX11_pushEntry_38 (by decide) ?_
          obtain ⟨hg39, hf⟩ := mm_gd hf
          refine mm_iald hC hM (hp_this.2.2.2.1) hg39 dX11_pushEntry_39 ?_
          refine lv_iload_n hx hb dX11_pushEntry_40 rfl (lv_at hl 1 rfl) ?_
          refine lv_icmp_le (tgt := 69) hx hb dX11_pushEntry_41 (by decide) (fun hcd => ?_) (fun hcd => ?_)
          · rw [if_pos hcd] at hf
            cases hf
            exact hk _ _ _ hM hp_this hF _ (lv_sub hl [0, 1, 2] rfl)
          · rw [if_neg hcd] at hf
            refine lv_aload_n hx hb dX11_pushEntry_44 rfl (lv_at hl 0 rfl) ?_
            refine mm_get hC hM (k := 2) hp_this.1 rfl inAX11 (by decide) q1_188 rfl dX11_pushEntry_45 ?_
            refine lv_iload_n hx hb dX11_pushEntry_48 rfl (lv_at hl 2 rfl) ?_
            refine lv_aload_n hx hb dX11_pushEntry_49 rfl (lv_at hl 0 rfl) ?_
            refine mm_get hC hM (k := 2) hp_this.1 rfl inAX11 (by decide) q1_188 rfl dX11_pushEntry_50 ?_
            refine lv_iload_n hx hb dX11_pushEntry_53 rfl (lv_at hl 2 rfl) ?_
            refine lv_iconst (v := 1) hx hb dX11_pushEntry_54 (by decide) ?_
            refine lv_isub hx hb dX11_pushEntry_55 ?_
            refine lv_iconst (v := 2) hx hb dX11_pushEntry_56 (by decide) ?_
            refine lv_idiv hx hb dX11_pushEntry_57 (by decide) ?_
            obtain ⟨hg58, hf⟩ := mm_gd hf
            refine mm_iald hC hM (hp_this.2.2.2.1) hg58 dX11_pushEntry_58 ?_
            obtain ⟨hg59, hf⟩ := mm_gd hf
            refine mm_iast hC hM (hp_this.2.2.2.1) hg59 dX11_pushEntry_59 (fun w59 H locs hM hm => ?_)
            have hp_this : At11 G w59 b tolls queue (upd L26_heap L26_x2.toNatClampNeg (L26_heap ((L26_x2 - 1) / 2).toNatClampNeg)) (heapSize + 1) found improved := ⟨hm.keep (hp_this.1) (by omega), hm.keep (hp_this.2.1) (by omega), hm.keep (hp_this.2.2.1) (by omega), hm.1, hm.keep (hp_this.2.2.2.2.1) (by omega), hm.keep (hp_this.2.2.2.2.2) (by omega)⟩
            have hF := hF.tr (hm.fr (by omega) (by omega))
            refine lv_iload_n hx hb dX11_pushEntry_60 rfl (lv_at hl 2 rfl) ?_
            refine lv_iconst (v := 1) hx hb dX11_pushEntry_61 (by decide) ?_
            refine lv_isub hx hb dX11_pushEntry_62 ?_
            refine lv_iconst (v := 2) hx hb dX11_pushEntry_63 (by decide) ?_
            refine lv_idiv hx hb dX11_pushEntry_64 (by decide) ?_
            refine lv_istore_n (lv' := [(2, .int ((L26_x2 - 1) / 2)), (0, .ref b), (1, .int x1)]) hx hb dX11_pushEntry_65 rfl hl (by decide) rfl (fun ls hl => ?_)
            refine lv_goto (tgt := 26) hx hb dX11_pushEntry_66 (by decide) ?_
            exact ih _ _ _ hf _ _ _ hM hp_this hF _ (lv_sub hl [1, 2, 0] rfl) hk
    obtain ⟨q26, hq26, hf⟩ := mm_bd hf
    refine L26 K _ _ _ hq26 _ _ _ hM hp_this hF _ (lv_sub hl [1, 2, 0] rfl) (fun w26 H locs hM hp_this hF ls hl => ?_)
    refine lv_aload_n hx hb dX11_pushEntry_69 rfl (lv_at hl 0 rfl) ?_
    refine mm_get hC hM (k := 2) hp_this.1 rfl inAX11 (by decide) q1_188 rfl dX11_pushEntry_70 ?_
    refine lv_iload_n hx hb dX11_pushEntry_73 rfl (lv_at hl 2 rfl) ?_
    refine lv_iload_n hx hb dX11_pushEntry_74 rfl (lv_at hl 1 rfl) ?_
    obtain ⟨hg75, hf⟩ := mm_gd hf
    refine mm_iast hC hM (hp_this.2.2.2.1) hg75 dX11_pushEntry_75 (fun w75 H locs hM hm => ?_)
    have hp_this : At11 G w75 b tolls queue (upd q26.2 q26.1.toNatClampNeg x1) (heapSize + 1) found improved := ⟨hm.keep (hp_this.1) (by omega), hm.keep (hp_this.2.1) (by omega), hm.keep (hp_this.2.2.1) (by omega), hm.1, hm.keep (hp_this.2.2.2.2.1) (by omega), hm.keep (hp_this.2.2.2.2.2) (by omega)⟩
    have hF := hF.tr (hm.fr (by omega) (by omega))
    cases hf
    exact hret hM dX11_pushEntry_76 ⟨hp_this, hF⟩
  · rw [if_neg hcd] at hf
    cases hf
    exact hret hM dX11_pushEntry_10 ⟨hp_this, hF⟩
def f_X11_relax_L2 (K : Nat) (tolls : Nat → Int32) (x1 : Int32) : Nat → (Int32) → (Nat → Int32) → (Int32) → (Nat → Int32) → Option ((Nat → Int32) × Int32 × (Nat → Int32))
  | 0, _, _, _, _ => none
  | n + 1, x2, heap, heapSize, found => if 4 ≤ x2 then some (heap, heapSize, found) else (f_X12_neighbour x1 x2).bind fun q9 => if q9 = (-1) then f_X11_relax_L2 K tolls x1 n (x2 + 1) heap heapSize found else mm_g (mm_ck q9 81) (if (tolls q9.toNatClampNeg) = (-1) then f_X11_relax_L2 K tolls x1 n (x2 + 1) heap heapSize found else mm_g (mm_ck x1 81) (mm_g (mm_ck q9 81) (mm_g (mm_ck q9 81) (if (found q9.toNatClampNeg) ≤ ((found x1.toNatClampNeg) + (tolls q9.toNatClampNeg)) then f_X11_relax_L2 K tolls x1 n (x2 + 1) heap heapSize found else mm_g (mm_ck x1 81) (mm_g (mm_ck q9 81) (mm_g (mm_ck q9 81) (mm_g (mm_ck q9 81) ((f_X11_pushEntry K heap heapSize ((((upd found q9.toNatClampNeg ((found x1.toNatClampNeg) + (tolls q9.toNatClampNeg))) q9.toNatClampNeg) * 81) + q9)).bind fun q81 => f_X11_relax_L2 K tolls x1 n (x2 + 1) q81.1 q81.2 (upd found q9.toNatClampNeg ((found x1.toNatClampNeg) + (tolls q9.toNatClampNeg)))))))))))
def f_X11_relax (K : Nat) (tolls : Nat → Int32) (heap : Nat → Int32) (heapSize : Int32) (found : Nat → Int32) (x1 : Int32) : Option ((Nat → Int32) × Int32 × (Nat → Int32)) := (f_X11_relax_L2 K tolls x1 K 0 heap heapSize found).bind fun q2 => some (q2.1, q2.2.1, q2.2.2)
set_option maxHeartbeats 4000000 in
set_option maxRecDepth 100000 in
theorem c_X11_relax (l : Launch) {G : mm_G} {K : Nat} {w : va_W} {sz : Nat} {b : Nat} {tolls : Nat → Int32} {queue : Nat → Int32} {heap : Nat → Int32} {heapSize : Int32} {found : Nat → Int32} {improved : Nat → Int32} {x1 : Int32} {X : (Nat → Int32) × Int32 × (Nat → Int32)} (hf : f_X11_relax K tolls heap heapSize found x1 = some X) (hp_this : At11 G w b tolls queue heap heapSize found improved) : Met l yX11_relax (Cond.code yX11_relax cX11_relax 4 none :: gAll) ({ frames := 2, cells := 0, slots := 0, locals := 45 }) (va_Pc [.ref b, .int x1] (mm_Pre G w sz)) (mm_Qv G w sz (fun w' => At11 G w' b tolls queue X.1 X.2.1 X.2.2 improved ∧ mm_fr w w' b (b + 6))) 0 0 (va_A w sz) := by
  refine mm_headV [.ref b, .int x1] (by decide +kernel) rfl (Nat.le_of_ble_eq_true rfl) ?_
  intro p e s m args below meth c A Q hsz hC hM hret hnm ls hl
  have hx := hC.1.1
  have hb := hC.1.2.1
  have hl : lv_has ls 4 [(0, .ref b), (1, .int x1)] := hl
  have hF : mm_fr w w b (b + 6) := mm_fr.rf
  rw [f_X11_relax] at hf
  refine lv_iconst (v := 0) hx hb dX11_relax_0 (by decide) ?_
  refine lv_istore_n (lv' := [(2, .int 0), (0, .ref b), (1, .int x1)]) hx hb dX11_relax_1 rfl hl (by decide) rfl (fun ls hl => ?_)
  have L2 : ∀ (n : Nat) (L2_x2 : Int32) (L2_heap : Nat → Int32) (L2_heapSize : Int32) (L2_found : Nat → Int32) (X : (Nat → Int32) × Int32 × (Nat → Int32)), f_X11_relax_L2 K tolls x1 n L2_x2 L2_heap L2_heapSize L2_found = some X → ∀ (L2_w : va_W) (H : Heap) (locs : List Loc), mm_S G A s.heap L2_w H locs → At11 G L2_w b tolls queue L2_heap L2_heapSize L2_found improved → mm_fr w L2_w b (b + 6) → ∀ (ls : Array Slot), lv_has ls 4 [(0, .ref b), (1, .int x1), (2, .int L2_x2)] → (∀ (w9 : va_W) (H : Heap) (locs : List Loc), mm_S G A s.heap w9 H locs → At11 G w9 b tolls queue X.1 X.2.1 X.2.2 improved → mm_fr w w9 b (b + 6) → ∀ (ls : Array Slot), lv_has ls 4 [] → W p l e ({ frames := 2, cells := 0, slots := 0, locals := 45 } : Room) s m args below meth c H locs 0 0 Q (F0 m 90 ls [])) → W p l e ({ frames := 2, cells := 0, slots := 0, locals := 45 } : Room) s m args below meth c H locs 0 0 Q (F0 m 2 ls []) := by
    intro n
    induction n with
    | zero => intro L2_x2 L2_heap L2_heapSize L2_found X hf; cases hf
    | succ n ih =>
      intro L2_x2 L2_heap L2_heapSize L2_found X hf L2_w H locs hM hp_this hF ls hl hk
      rw [f_X11_relax_L2] at hf
      refine lv_iload_n hx hb dX11_relax_2 rfl (lv_at hl 2 rfl) ?_
      refine lv_iconst (v := 4) hx hb dX11_relax_3 (by decide) ?_
      refine lv_icmp_ge (tgt := 90) hx hb dX11_relax_4 (by decide) (fun hcd => ?_) (fun hcd => ?_)
      · rw [if_pos hcd] at hf
        cases hf
        exact hk _ _ _ hM hp_this hF _ (lv_sub hl [] rfl)
      · rw [if_neg hcd] at hf
        refine lv_iload_n hx hb dX11_relax_7 rfl (lv_at hl 1 rfl) ?_
        refine lv_iload_n hx hb dX11_relax_8 rfl (lv_at hl 2 rfl) ?_
        obtain ⟨q9, hq9, hf⟩ := mm_bd hf
        refine mm_SNi (rest := []) hC hM (c_X12_neighbour l hq9) q2_159 q1_1 ykX12_neighbour q2_157 q2_158 ⟨rfl, rfl⟩ ⟨Nat.le_of_ble_eq_true rfl, Nat.le_of_ble_eq_true rfl⟩ rfl hl.1 rfl (Nat.le_of_ble_eq_true rfl) dX11_relax_9 ⟨Nat.le_of_ble_eq_true rfl, Nat.le_of_ble_eq_true rfl⟩ (fun r w9 H locs hM hw => ?_)
        obtain ⟨hr, hw⟩ := hw
        rw [hr]
        rw [hw] at hM
        refine lv_istore_n (lv' := [(3, .int q9), (0, .ref b), (1, .int x1), (2, .int L2_x2)]) hx hb dX11_relax_12 rfl hl (by decide) rfl (fun ls hl => ?_)
        refine lv_iload_n hx hb dX11_relax_13 rfl (lv_at hl 0 rfl) ?_
        refine lv_iconst (v := (-1)) hx hb dX11_relax_14 (by decide) ?_
        refine lv_icmp_eq (tgt := 84) hx hb dX11_relax_15 (by decide) (fun hcd => ?_) (fun hcd => ?_)
        · rw [if_pos hcd] at hf
          refine lv_iinc (v := (L2_x2 + 1)) (lv' := [(2, .int (L2_x2 + 1)), (3, .int q9), (0, .ref b), (1, .int x1)]) hx hb dX11_relax_84 hl (k := 3) rfl rfl (by decide) rfl (fun ls hl => ?_)
          refine lv_goto (tgt := 2) hx hb dX11_relax_87 (by decide) ?_
          exact ih _ _ _ _ _ hf _ _ _ hM hp_this hF _ (lv_sub hl [2, 3, 0] rfl) hk
        · rw [if_neg hcd] at hf
          refine lv_aload_n hx hb dX11_relax_18 rfl (lv_at hl 1 rfl) ?_
          refine mm_get hC hM (k := 0) hp_this.1 rfl inAX11 (by decide) q1_186 rfl dX11_relax_19 ?_
          refine lv_iload_n hx hb dX11_relax_22 rfl (lv_at hl 0 rfl) ?_
          obtain ⟨hg23, hf⟩ := mm_gd hf
          refine mm_iald hC hM (hp_this.2.1) hg23 dX11_relax_23 ?_
          refine lv_iconst (v := (-1)) hx hb dX11_relax_24 (by decide) ?_
          refine lv_icmp_eq (tgt := 84) hx hb dX11_relax_25 (by decide) (fun hcd => ?_) (fun hcd => ?_)
          · rw [if_pos hcd] at hf
            refine lv_iinc (v := (L2_x2 + 1)) (lv' := [(2, .int (L2_x2 + 1)), (3, .int q9), (0, .ref b), (1, .int x1)]) hx hb dX11_relax_84 hl (k := 3) rfl rfl (by decide) rfl (fun ls hl => ?_)
            refine lv_goto (tgt := 2) hx hb dX11_relax_87 (by decide) ?_
            exact ih _ _ _ _ _ hf _ _ _ hM hp_this hF _ (lv_sub hl [2, 3, 0] rfl) hk
          · rw [if_neg hcd] at hf
            refine lv_aload_n hx hb dX11_relax_28 rfl (lv_at hl 1 rfl) ?_
            refine mm_get hC hM (k := 4) hp_this.1 rfl inAX11 (by decide) q1_190 rfl dX11_relax_29 ?_
            refine lv_iload_n hx hb dX11_relax_32 rfl (lv_at hl 2 rfl) ?_
            obtain ⟨hg33, hf⟩ := mm_gd hf
            refine mm_iald hC hM (hp_this.2.2.2.2.1) hg33 dX11_relax_33 ?_
            refine lv_aload_n hx hb dX11_relax_34 rfl (lv_at hl 1 rfl) ?_
            refine mm_get hC hM (k := 0) hp_this.1 rfl inAX11 (by decide) q1_186 rfl dX11_relax_35 ?_
            refine lv_iload_n hx hb dX11_relax_38 rfl (lv_at hl 0 rfl) ?_
            obtain ⟨hg39, hf⟩ := mm_gd hf
            refine mm_iald hC hM (hp_this.2.1) hg39 dX11_relax_39 ?_
            refine lv_iadd hx hb dX11_relax_40 ?_
            refine lv_aload_n hx hb dX11_relax_41 rfl (lv_at hl 1 rfl) ?_
            refine mm_get hC hM (k := 4) hp_this.1 rfl inAX11 (by decide) q1_190 rfl dX11_relax_42 ?_
            refine lv_iload_n hx hb dX11_relax_45 rfl (lv_at hl 0 rfl) ?_
            obtain ⟨hg46, hf⟩ := mm_gd hf
            refine mm_iald hC hM (hp_this.2.2.2.2.1) hg46 dX11_relax_46 ?_
            refine lv_icmp_ge (tgt := 84) hx hb dX11_relax_47 (by decide) (fun hcd => ?_) (fun hcd => ?_)
            · rw [if_pos hcd] at hf
              refine lv_iinc (v := (L2_x2 + 1)) (lv' := [(2, .int (L2_x2 + 1)), (3, .int q9), (0, .ref b), (1, .int x1)]) hx hb dX11_relax_84 hl (k := 3) rfl rfl (by decide) rfl (fun ls hl => ?_)
              refine lv_goto (tgt := 2) hx hb dX11_relax_87 (by decide) ?_
              exact ih _ _ _ _ _ hf _ _ _ hM hp_this hF _ (lv_sub hl [2, 3, 0] rfl) hk
            · rw [if_neg hcd] at hf
              refine lv_aload_n hx hb dX11_relax_50 rfl (lv_at hl 1 rfl) ?_
              refine mm_get hC hM (k := 4) hp_this.1 rfl inAX11 (by decide) q1_190 rfl dX11_relax_51 ?_
              refine lv_iload_n hx hb dX11_relax_54 rfl (lv_at hl 0 rfl) ?_
              refine lv_aload_n hx hb dX11_relax_55 rfl (lv_at hl 1 rfl) ?_
              refine mm_get hC hM (k := 4) hp_this.1 rfl inAX11 (by decide) q1_190 rfl dX11_relax_56 ?_
              refine lv_iload_n hx hb dX11_relax_59 rfl (lv_at hl 2 rfl) ?_
              obtain ⟨hg60, hf⟩ := mm_gd hf
              refine mm_iald hC hM (hp_this.2.2.2.2.1) hg60 dX11_relax_60 ?_
              refine lv_aload_n hx hb dX11_relax_61 rfl (lv_at hl 1 rfl) ?_
              refine mm_get hC hM (k := 0) hp_this.1 rfl inAX11 (by decide) q1_186 rfl dX11_relax_62 ?_
              refine lv_iload_n hx hb dX11_relax_65 rfl (lv_at hl 0 rfl) ?_
              obtain ⟨hg66, hf⟩ := mm_gd hf
              refine mm_iald hC hM (hp_this.2.1) hg66 dX11_relax_66 ?_
              refine lv_iadd hx hb dX11_relax_67 ?_
              obtain ⟨hg68, hf⟩ := mm_gd hf
              refine mm_iast hC hM (hp_this.2.2.2.2.1) hg68 dX11_relax_68 (fun w68 H locs hM hm => ?_)
              have hp_this : At11 G w68 b tolls queue L2_heap L2_heapSize (upd L2_found q9.toNatClampNeg ((L2_found x1.toNatClampNeg) + (tolls q9.toNatClampNeg))) improved := ⟨hm.keep (hp_this.1) (by omega), hm.keep (hp_this.2.1) (by omega), hm.keep (hp_this.2.2.1) (by omega), hm.keep (hp_this.2.2.2.1) (by omega), hm.1, hm.keep (hp_this.2.2.2.2.2) (by omega)⟩
              have hF := hF.tr (hm.fr (by omega) (by omega))
              refine lv_aload_n hx hb dX11_relax_69 rfl (lv_at hl 1 rfl) ?_
              refine lv_aload_n hx hb dX11_relax_70 rfl (lv_at hl 1 rfl) ?_
              refine mm_get hC hM (k := 4) hp_this.1 rfl inAX11 (by decide) q1_190 rfl dX11_relax_71 ?_
              refine lv_iload_n hx hb dX11_relax_74 rfl (lv_at hl 0 rfl) ?_
              obtain ⟨hg75, hf⟩ := mm_gd hf
              refine mm_iald hC hM (hp_this.2.2.2.2.1) hg75 dX11_relax_75 ?_
              refine lv_bipush (v := 81) hx hb dX11_relax_76 (by decide) ?_
              refine lv_imul hx hb dX11_relax_78 ?_
              refine lv_iload_n hx hb dX11_relax_79 rfl (lv_at hl 0 rfl) ?_
              refine lv_iadd hx hb dX11_relax_80 ?_
              obtain ⟨q81, hq81, hf⟩ := mm_bd hf
              refine mm_Vv (rest := []) hC hM (c_X11_pushEntry l hq81 hp_this) q2_197 q1_8 ykX11_pushEntry q2_194 q2_196 qp_86a8b9f9 hp_this.1 rfl ⟨rfl, rfl⟩ ⟨Nat.le_of_ble_eq_true rfl, Nat.le_of_ble_eq_true rfl⟩ rfl hl.1 rfl (Nat.le_of_ble_eq_true rfl) dX11_relax_81 ⟨Nat.le_of_ble_eq_true rfl, Nat.le_of_ble_eq_true rfl⟩ (fun w81 H locs hM hw => ?_)
              obtain ⟨hn_this, hfr⟩ := hw
              have hp_this := hn_this
              have hF := hF.tr (hfr.wide (by omega) (by omega))
              refine lv_iinc (v := (L2_x2 + 1)) (lv' := [(2, .int (L2_x2 + 1)), (3, .int q9), (0, .ref b), (1, .int x1)]) hx hb dX11_relax_84 hl (k := 3) rfl rfl (by decide) rfl (fun ls hl => ?_)
              refine lv_goto (tgt := 2) hx hb dX11_relax_87 (by decide) ?_
              exact ih _ _ _ _ _ hf _ _ _ hM hp_this hF _ (lv_sub hl [2, 3, 0] rfl) hk
  obtain ⟨q2, hq2, hf⟩ := mm_bd hf
  refine L2 K _ _ _ _ _ hq2 _ _ _ hM hp_this hF _ (lv_sub hl [1, 2, 0] rfl) (fun w2 H locs hM hp_this hF ls hl => ?_)
  cases hf
  exact hret hM dX11_relax_90 ⟨hp_this, hF⟩
def f_X11_searchByHeap_L30 (K : Nat) (tolls : Nat → Int32) : Nat → (Int32) → (Nat → Int32) → (Int32) → (Nat → Int32) → Option ((Nat → Int32) × Int32 × (Nat → Int32))
  | 0, _, _, _, _ => none
  | n + 1, x2, heap, heapSize, found => if 325 ≤ x2 then some (heap, heapSize, found) else if heapSize ≤ 0 then some (heap, heapSize, found) else (f_X11_popEntry K heap heapSize).bind fun q45 => mm_g (mm_ck (q45.1 - q45.1 / 81 * 81) 81) (if (q45.1 / 81) = (found (q45.1 - q45.1 / 81 * 81).toNatClampNeg) then (f_X11_relax K tolls q45.2.1 q45.2.2 found (q45.1 - q45.1 / 81 * 81)).bind fun q72 => f_X11_searchByHeap_L30 K tolls n (x2 + 1) q72.1 q72.2.1 q72.2.2 else f_X11_searchByHeap_L30 K tolls n (x2 + 1) q45.2.1 q45.2.2 found)
def f_X11_searchByHeap (K : Nat) (tolls : Nat → Int32) (heap : Nat → Int32) (found : Nat → Int32) (x1 : Int32) : Option ((Nat → Int32) × Int32 × (Nat → Int32)) := (f_X11_begin_this_found K tolls found x1).bind fun q6 => mm_g (mm_ck x1 81) (if (q6 x1.toNatClampNeg) = 0 then (f_X11_pushEntry K heap 0 x1).bind fun q25 => (f_X11_searchByHeap_L30 K tolls K 0 q25.1 q25.2 q6).bind fun q30 => some (q30.1, q30.2.1, q30.2.2) else (f_X11_searchByHeap_L30 K tolls K 0 heap 0 q6).bind fun q30 => some (q30.1, q30.2.1, q30.2.2))
set_option maxHeartbeats 4000000 in
set_option maxRecDepth 100000 in
theorem c_X11_searchByHeap (l : Launch) {G : mm_G} {K : Nat} {w : va_W} {sz : Nat} {b : Nat} {tolls : Nat → Int32} {queue : Nat → Int32} {heap : Nat → Int32} {heapSize : Int32} {found : Nat → Int32} {improved : Nat → Int32} {x1 : Int32} {X : (Nat → Int32) × Int32 × (Nat → Int32)} (hf : f_X11_searchByHeap K tolls heap found x1 = some X) (hp_this : At11 G w b tolls queue heap heapSize found improved) : Met l yX11_searchByHeap (Cond.code yX11_searchByHeap cX11_searchByHeap 5 none :: gAll) ({ frames := 3, cells := 0, slots := 0, locals := 68 }) (va_Pc [.ref b, .int x1] (mm_Pre G w sz)) (mm_Qv G w sz (fun w' => At11 G w' b tolls queue X.1 X.2.1 X.2.2 improved ∧ mm_fr w w' b (b + 6))) 0 0 (va_A w sz) := by
  refine mm_headV [.ref b, .int x1] (by decide +kernel) rfl (Nat.le_of_ble_eq_true rfl) ?_
  intro p e s m args below meth c A Q hsz hC hM hret hnm ls hl
  have hx := hC.1.1
  have hb := hC.1.2.1
  have hl : lv_has ls 5 [(0, .ref b), (1, .int x1)] := hl
  have hF : mm_fr w w b (b + 6) := mm_fr.rf
  rw [f_X11_searchByHeap] at hf
  refine lv_aload_n hx hb dX11_searchByHeap_0 rfl (lv_at hl 0 rfl) ?_
  refine lv_aload_n hx hb dX11_searchByHeap_1 rfl (lv_at hl 0 rfl) ?_
  refine mm_get hC hM (k := 4) hp_this.1 rfl inAX11 (by decide) q1_190 rfl dX11_searchByHeap_2 ?_
  refine lv_iload_n hx hb dX11_searchByHeap_5 rfl (lv_at hl 1 rfl) ?_
  obtain ⟨q6, hq6, hf⟩ := mm_bd hf
  refine mm_Vv (rest := []) hC hM (c_X11_begin_this_found l hq6 hp_this) q2_151 q1_8 ykX11_begin q2_148 q2_150 qp_6017c26e hp_this.1 rfl ⟨rfl, rfl⟩ ⟨Nat.le_of_ble_eq_true rfl, Nat.le_of_ble_eq_true rfl⟩ rfl hl.1 rfl (Nat.le_of_ble_eq_true rfl) dX11_searchByHeap_6 ⟨Nat.le_of_ble_eq_true rfl, Nat.le_of_ble_eq_true rfl⟩ (fun w6 H locs hM hw => ?_)
  obtain ⟨hn_this, hfr⟩ := hw
  have hp_this := hn_this
  have hF := hF.tr (hfr.wide (by omega) (by omega))
  refine lv_aload_n hx hb dX11_searchByHeap_9 rfl (lv_at hl 0 rfl) ?_
  refine lv_iconst (v := 0) hx hb dX11_searchByHeap_10 (by decide) ?_
  refine mm_put hC hM (k := 3) tyX11 hp_this.1 rfl inAX11 tyX11_ok nmX11 (by decide) q1_189 rfl rfl rfl rfl (Nat.le_of_ble_eq_true rfl) dX11_searchByHeap_11 (fun w11 H locs hM hm => ?_)
  have hp_this : At11 G w11 b tolls queue heap 0 q6 improved := ⟨hm.1, hm.keep (hp_this.2.1) (by omega), hm.keep (hp_this.2.2.1) (by omega), hm.keep (hp_this.2.2.2.1) (by omega), hm.keep (hp_this.2.2.2.2.1) (by omega), hm.keep (hp_this.2.2.2.2.2) (by omega)⟩
  have hF := hF.tr (hm.fr (by omega) (by omega))
  refine lv_aload_n hx hb dX11_searchByHeap_14 rfl (lv_at hl 0 rfl) ?_
  refine mm_get hC hM (k := 4) hp_this.1 rfl inAX11 (by decide) q1_190 rfl dX11_searchByHeap_15 ?_
  refine lv_iload_n hx hb dX11_searchByHeap_18 rfl (lv_at hl 1 rfl) ?_
  obtain ⟨hg19, hf⟩ := mm_gd hf
  refine mm_iald hC hM (hp_this.2.2.2.2.1) hg19 dX11_searchByHeap_19 ?_
  refine lv_if_ne (tgt := 28) hx hb dX11_searchByHeap_20 (by decide) (fun hcd => ?_) (fun hcd => ?_)
  · rw [if_neg hcd] at hf
    refine lv_iconst (v := 0) hx hb dX11_searchByHeap_28 (by decide) ?_
    refine lv_istore_n (lv' := [(2, .int 0), (0, .ref b), (1, .int x1)]) hx hb dX11_searchByHeap_29 rfl hl (by decide) rfl (fun ls hl => ?_)
    have L30 : ∀ (n : Nat) (L30_x2 : Int32) (L30_heap : Nat → Int32) (L30_heapSize : Int32) (L30_found : Nat → Int32) (X : (Nat → Int32) × Int32 × (Nat → Int32)), f_X11_searchByHeap_L30 K tolls n L30_x2 L30_heap L30_heapSize L30_found = some X → ∀ (L30_w : va_W) (H : Heap) (locs : List Loc), mm_S G A s.heap L30_w H locs → At11 G L30_w b tolls queue L30_heap L30_heapSize L30_found improved → mm_fr w L30_w b (b + 6) → ∀ (ls : Array Slot), lv_has ls 5 [(0, .ref b), (2, .int L30_x2)] → (∀ (w9 : va_W) (H : Heap) (locs : List Loc), mm_S G A s.heap w9 H locs → At11 G w9 b tolls queue X.1 X.2.1 X.2.2 improved → mm_fr w w9 b (b + 6) → ∀ (ls : Array Slot), lv_has ls 5 [] → W p l e ({ frames := 3, cells := 0, slots := 0, locals := 68 } : Room) s m args below meth c H locs 0 0 Q (F0 m 81 ls [])) → W p l e ({ frames := 3, cells := 0, slots := 0, locals := 68 } : Room) s m args below meth c H locs 0 0 Q (F0 m 30 ls []) := by
      intro n
      induction n with
      | zero => intro L30_x2 L30_heap L30_heapSize L30_found X hf; cases hf
      | succ n ih =>
        intro L30_x2 L30_heap L30_heapSize L30_found X hf L30_w H locs hM hp_this hF ls hl hk
        rw [f_X11_searchByHeap_L30] at hf
        refine lv_iload_n hx hb dX11_searchByHeap_30 rfl (lv_at hl 1 rfl) ?_
        refine lv_sipush (v := 325) hx hb dX11_searchByHeap_31 (by decide) ?_
        refine lv_icmp_ge (tgt := 81) hx hb dX11_searchByHeap_34 (by decide) (fun hcd => ?_) (fun hcd => ?_)
        · rw [if_pos hcd] at hf
          cases hf
          exact hk _ _ _ hM hp_this hF _ (lv_sub hl [] rfl)
        · rw [if_neg hcd] at hf
          refine lv_aload_n hx hb dX11_searchByHeap_37 rfl (lv_at hl 0 rfl) ?_
          refine mm_get hC hM (k := 3) hp_this.1 rfl inAX11 (by decide) q1_189 rfl dX11_searchByHeap_38 ?_
          refine lv_if_le (tgt := 81) hx hb dX11_searchByHeap_41 (by decide) (fun hcd => ?_) (fun hcd => ?_)
          · rw [if_pos hcd] at hf
            cases hf
            exact hk _ _ _ hM hp_this hF _ (lv_sub hl [] rfl)
          · rw [if_neg hcd] at hf
            refine lv_aload_n hx hb dX11_searchByHeap_44 rfl (lv_at hl 0 rfl) ?_
            obtain ⟨q45, hq45, hf⟩ := mm_bd hf
            refine mm_Vi (rest := []) hC hM (c_X11_popEntry l hq45 hp_this) q2_201 q1_8 ykX11_popEntry q2_198 q2_200 qp_cba23a77 hp_this.1 rfl ⟨rfl, rfl⟩ ⟨Nat.le_of_ble_eq_true rfl, Nat.le_of_ble_eq_true rfl⟩ rfl hl.1 rfl (Nat.le_of_ble_eq_true rfl) dX11_searchByHeap_45 ⟨Nat.le_of_ble_eq_true rfl, Nat.le_of_ble_eq_true rfl⟩ (fun r w45 H locs hM hw => ?_)
            obtain ⟨hr, hn_this, hfr⟩ := hw
            rw [hr]
            have hp_this := hn_this
            have hF := hF.tr (hfr.wide (by omega) (by omega))
            refine lv_istore_n (lv' := [(3, .int q45.1), (0, .ref b), (2, .int L30_x2)]) hx hb dX11_searchByHeap_48 rfl hl (by decide) rfl (fun ls hl => ?_)
            refine lv_iload_n hx hb dX11_searchByHeap_49 rfl (lv_at hl 0 rfl) ?_
            refine lv_bipush (v := 81) hx hb dX11_searchByHeap_50 (by decide) ?_
            refine lv_irem hx hb dX11_searchByHeap_52 (by decide) ?_
            refine lv_istore (lv' := [(4, .int (q45.1 - q45.1 / 81 * 81)), (3, .int q45.1), (0, .ref b), (2, .int L30_x2)]) hx hb dX11_searchByHeap_53 hl (by decide) rfl (fun ls hl => ?_)
            refine lv_iload_n hx hb dX11_searchByHeap_55 rfl (lv_at hl 1 rfl) ?_
            refine lv_bipush (v := 81) hx hb dX11_searchByHeap_56 (by decide) ?_
            refine lv_idiv hx hb dX11_searchByHeap_58 (by decide) ?_
            refine lv_aload_n hx hb dX11_searchByHeap_59 rfl (lv_at hl 2 rfl) ?_
            refine mm_get hC hM (k := 4) hp_this.1 rfl inAX11 (by decide) q1_190 rfl dX11_searchByHeap_60 ?_
            refine lv_iload hx hb dX11_searchByHeap_63 (lv_at hl 0 rfl) ?_
            obtain ⟨hg65, hf⟩ := mm_gd hf
            refine mm_iald hC hM (hp_this.2.2.2.2.1) hg65 dX11_searchByHeap_65 ?_
            refine lv_icmp_ne (tgt := 75) hx hb dX11_searchByHeap_66 (by decide) (fun hcd => ?_) (fun hcd => ?_)
            · rw [if_neg hcd] at hf
              refine lv_iinc (v := (L30_x2 + 1)) (lv' := [(2, .int (L30_x2 + 1)), (4, .int (q45.1 - q45.1 / 81 * 81)), (3, .int q45.1), (0, .ref b)]) hx hb dX11_searchByHeap_75 hl (k := 3) rfl rfl (by decide) rfl (fun ls hl => ?_)
              refine lv_goto (tgt := 30) hx hb dX11_searchByHeap_78 (by decide) ?_
              exact ih _ _ _ _ _ hf _ _ _ hM hp_this hF _ (lv_sub hl [3, 0] rfl) hk
            · rw [if_pos hcd] at hf
              refine lv_aload_n hx hb dX11_searchByHeap_69 rfl (lv_at hl 2 rfl) ?_
              refine lv_iload hx hb dX11_searchByHeap_70 (lv_at hl 0 rfl) ?_
              obtain ⟨q72, hq72, hf⟩ := mm_bd hf
              refine mm_Vv (rest := []) hC hM (c_X11_relax l hq72 hp_this) q2_209 q1_8 ykX11_relax q2_206 q2_208 qp_9b1ef6ed hp_this.1 rfl ⟨rfl, rfl⟩ ⟨Nat.le_of_ble_eq_true rfl, Nat.le_of_ble_eq_true rfl⟩ rfl hl.1 rfl (Nat.le_of_ble_eq_true rfl) dX11_searchByHeap_72 ⟨Nat.le_of_ble_eq_true rfl, Nat.le_of_ble_eq_true rfl⟩ (fun w72 H locs hM hw => ?_)
              obtain ⟨hn_this, hfr⟩ := hw
              have hp_this := hn_this
              have hF := hF.tr (hfr.wide (by omega) (by omega))
              refine lv_iinc (v := (L30_x2 + 1)) (lv' := [(2, .int (L30_x2 + 1)), (4, .int (q45.1 - q45.1 / 81 * 81)), (3, .int q45.1), (0, .ref b)]) hx hb dX11_searchByHeap_75 hl (k := 3) rfl rfl (by decide) rfl (fun ls hl => ?_)
              refine lv_goto (tgt := 30) hx hb dX11_searchByHeap_78 (by decide) ?_
              exact ih _ _ _ _ _ hf _ _ _ hM hp_this hF _ (lv_sub hl [3, 0] rfl) hk
    obtain ⟨q30, hq30, hf⟩ := mm_bd hf
    refine L30 K _ _ _ _ _ hq30 _ _ _ hM hp_this hF _ (lv_sub hl [1, 0] rfl) (fun w30 H locs hM hp_this hF ls hl => ?_)
    cases hf
    exact hret hM dX11_searchByHeap_81 ⟨hp_this, hF⟩
  · rw [if_pos hcd] at hf
    refine lv_aload_n hx hb dX11_searchByHeap_23 rfl (lv_at hl 0 rfl) ?_
    refine lv_iload_n hx hb dX11_searchByHeap_24 rfl (lv_at hl 1 rfl) ?_
    obtain ⟨q25, hq25, hf⟩ := mm_bd hf
    refine mm_Vv (rest := []) hC hM (c_X11_pushEntry l hq25 hp_this) q2_197 q1_8 ykX11_pushEntry q2_194 q2_196 qp_86a8b9f9 hp_this.1 rfl ⟨rfl, rfl⟩ ⟨Nat.le_of_ble_eq_true rfl, Nat.le_of_ble_eq_true rfl⟩ rfl hl.1 rfl (Nat.le_of_ble_eq_true rfl) dX11_searchByHeap_25 ⟨Nat.le_of_ble_eq_true rfl, Nat.le_of_ble_eq_true rfl⟩ (fun w25 H locs hM hw => ?_)
    obtain ⟨hn_this, hfr⟩ := hw
    have hp_this := hn_this
    have hF := hF.tr (hfr.wide (by omega) (by omega))
    refine lv_iconst (v := 0) hx hb dX11_searchByHeap_28 (by decide) ?_
    refine lv_istore_n (lv' := [(2, .int 0), (0, .ref b), (1, .int x1)]) hx hb dX11_searchByHeap_29 rfl hl (by decide) rfl (fun ls hl => ?_)
    have L30 : ∀ (n : Nat) (L30_x2 : Int32) (L30_heap : Nat → Int32) (L30_heapSize : Int32) (L30_found : Nat → Int32) (X : (Nat → Int32) × Int32 × (Nat → Int32)), f_X11_searchByHeap_L30 K tolls n L30_x2 L30_heap L30_heapSize L30_found = some X → ∀ (L30_w : va_W) (H : Heap) (locs : List Loc), mm_S G A s.heap L30_w H locs → At11 G L30_w b tolls queue L30_heap L30_heapSize L30_found improved → mm_fr w L30_w b (b + 6) → ∀ (ls : Array Slot), lv_has ls 5 [(0, .ref b), (2, .int L30_x2)] → (∀ (w9 : va_W) (H : Heap) (locs : List Loc), mm_S G A s.heap w9 H locs → At11 G w9 b tolls queue X.1 X.2.1 X.2.2 improved → mm_fr w w9 b (b + 6) → ∀ (ls : Array Slot), lv_has ls 5 [] → W p l e ({ frames := 3, cells := 0, slots := 0, locals := 68 } : Room) s m args below meth c H locs 0 0 Q (F0 m 81 ls [])) → W p l e ({ frames := 3, cells := 0, slots := 0, locals := 68 } : Room) s m args below meth c H locs 0 0 Q (F0 m 30 ls []) := by
      intro n
      induction n with
      | zero => intro L30_x2 L30_heap L30_heapSize L30_found X hf; cases hf
      | succ n ih =>
        intro L30_x2 L30_heap L30_heapSize L30_found X hf L30_w H locs hM hp_this hF ls hl hk
        rw [f_X11_searchByHeap_L30] at hf
        refine lv_iload_n hx hb dX11_searchByHeap_30 rfl (lv_at hl 1 rfl) ?_
        refine lv_sipush (v := 325) hx hb dX11_searchByHeap_31 (by decide) ?_
        refine lv_icmp_ge (tgt := 81) hx hb dX11_searchByHeap_34 (by decide) (fun hcd => ?_) (fun hcd => ?_)
        · rw [if_pos hcd] at hf
          cases hf
          exact hk _ _ _ hM hp_this hF _ (lv_sub hl [] rfl)
        · rw [if_neg hcd] at hf
          refine lv_aload_n hx hb dX11_searchByHeap_37 rfl (lv_at hl 0 rfl) ?_
          refine mm_get hC hM (k := 3) hp_this.1 rfl inAX11 (by decide) q1_189 rfl dX11_searchByHeap_38 ?_
          refine lv_if_le (tgt := 81) hx hb dX11_searchByHeap_41 (by decide) (fun hcd => ?_) (fun hcd => ?_)
          · rw [if_pos hcd] at hf
            cases hf
            exact hk _ _ _ hM hp_this hF _ (lv_sub hl [] rfl)
          · rw [if_neg hcd] at hf
            refine lv_aload_n hx hb dX11_searchByHeap_44 rfl (lv_at hl 0 rfl) ?_
            obtain ⟨q45, hq45, hf⟩ := mm_bd hf
            refine mm_Vi (rest := []) hC hM (c_X11_popEntry l hq45 hp_this) q2_201 q1_8 ykX11_popEntry q2_198 q2_200 qp_cba23a77 hp_this.1 rfl ⟨rfl, rfl⟩ ⟨Nat.le_of_ble_eq_true rfl, Nat.le_of_ble_eq_true rfl⟩ rfl hl.1 rfl (Nat.le_of_ble_eq_true rfl) dX11_searchByHeap_45 ⟨Nat.le_of_ble_eq_true rfl, Nat.le_of_ble_eq_true rfl⟩ (fun r w45 H locs hM hw => ?_)
            obtain ⟨hr, hn_this, hfr⟩ := hw
            rw [hr]
            have hp_this := hn_this
            have hF := hF.tr (hfr.wide (by omega) (by omega))
            refine lv_istore_n (lv' := [(3, .int q45.1), (0, .ref b), (2, .int L30_x2)]) hx hb dX11_searchByHeap_48 rfl hl (by decide) rfl (fun ls hl => ?_)
            refine lv_iload_n hx hb dX11_searchByHeap_49 rfl (lv_at hl 0 rfl) ?_
            refine lv_bipush (v := 81) hx hb dX11_searchByHeap_50 (by decide) ?_
            refine lv_irem hx hb dX11_searchByHeap_52 (by decide) ?_
            refine lv_istore (lv' := [(4, .int (q45.1 - q45.1 / 81 * 81)), (3, .int q45.1), (0, .ref b), (2, .int L30_x2)]) hx hb dX11_searchByHeap_53 hl (by decide) rfl (fun ls hl => ?_)
            refine lv_iload_n hx hb dX11_searchByHeap_55 rfl (lv_at hl 1 rfl) ?_
            refine lv_bipush (v := 81) hx hb dX11_searchByHeap_56 (by decide) ?_
            refine lv_idiv hx hb dX11_searchByHeap_58 (by decide) ?_
            refine lv_aload_n hx hb dX11_searchByHeap_59 rfl (lv_at hl 2 rfl) ?_
            refine mm_get hC hM (k := 4) hp_this.1 rfl inAX11 (by decide) q1_190 rfl dX11_searchByHeap_60 ?_
            refine lv_iload hx hb dX11_searchByHeap_63 (lv_at hl 0 rfl) ?_
            obtain ⟨hg65, hf⟩ := mm_gd hf
            refine mm_iald hC hM (hp_this.2.2.2.2.1) hg65 dX11_searchByHeap_65 ?_
            refine lv_icmp_ne (tgt := 75) hx hb dX11_searchByHeap_66 (by decide) (fun hcd => ?_) (fun hcd => ?_)
            · rw [if_neg hcd] at hf
              refine lv_iinc (v := (L30_x2 + 1)) (lv' := [(2, .int (L30_x2 + 1)), (4, .int (q45.1 - q45.1 / 81 * 81)), (3, .int q45.1), (0, .ref b)]) hx hb dX11_searchByHeap_75 hl (k := 3) rfl rfl (by decide) rfl (fun ls hl => ?_)
              refine lv_goto (tgt := 30) hx hb dX11_searchByHeap_78 (by decide) ?_
              exact ih _ _ _ _ _ hf _ _ _ hM hp_this hF _ (lv_sub hl [3, 0] rfl) hk
            · rw [if_pos hcd] at hf
              refine lv_aload_n hx hb dX11_searchByHeap_69 rfl (lv_at hl 2 rfl) ?_
              refine lv_iload hx hb dX11_searchByHeap_70 (lv_at hl 0 rfl) ?_
              obtain ⟨q72, hq72, hf⟩ := mm_bd hf
              refine mm_Vv (rest := []) hC hM (c_X11_relax l hq72 hp_this) q2_209 q1_8 ykX11_relax q2_206 q2_208 qp_9b1ef6ed hp_this.1 rfl ⟨rfl, rfl⟩ ⟨Nat.le_of_ble_eq_true rfl, Nat.le_of_ble_eq_true rfl⟩ rfl hl.1 rfl (Nat.le_of_ble_eq_true rfl) dX11_searchByHeap_72 ⟨Nat.le_of_ble_eq_true rfl, Nat.le_of_ble_eq_true rfl⟩ (fun w72 H locs hM hw => ?_)
              obtain ⟨hn_this, hfr⟩ := hw
              have hp_this := hn_this
              have hF := hF.tr (hfr.wide (by omega) (by omega))
              refine lv_iinc (v := (L30_x2 + 1)) (lv' := [(2, .int (L30_x2 + 1)), (4, .int (q45.1 - q45.1 / 81 * 81)), (3, .int q45.1), (0, .ref b)]) hx hb dX11_searchByHeap_75 hl (k := 3) rfl rfl (by decide) rfl (fun ls hl => ?_)
              refine lv_goto (tgt := 30) hx hb dX11_searchByHeap_78 (by decide) ?_
              exact ih _ _ _ _ _ hf _ _ _ hM hp_this hF _ (lv_sub hl [3, 0] rfl) hk
    obtain ⟨q30, hq30, hf⟩ := mm_bd hf
    refine L30 K _ _ _ _ _ hq30 _ _ _ hM hp_this hF _ (lv_sub hl [1, 0] rfl) (fun w30 H locs hM hp_this hF ls hl => ?_)
    cases hf
    exact hret hM dX11_searchByHeap_81 ⟨hp_this, hF⟩
def f_X11_begin_this_improved_L2 : Nat → (Int32) → (Nat → Int32) → Option (Nat → Int32)
  | 0, _, _ => none
  | n + 1, x3, improved => if 81 ≤ x3 then some improved else mm_g (mm_ck x3 81) (f_X11_begin_this_improved_L2 n (x3 + 1) (upd improved x3.toNatClampNeg 1000000))
def f_X11_begin_this_improved (K : Nat) (tolls : Nat → Int32) (improved : Nat → Int32) (x2 : Int32) : Option (Nat → Int32) := (f_X11_begin_this_improved_L2 K 0 improved).bind fun q2 => mm_g (mm_ck x2 81) (if (tolls x2.toNatClampNeg) = (-1) then some q2 else mm_g (mm_ck x2 81) (some (upd q2 x2.toNatClampNeg 0)))
set_option maxHeartbeats 4000000 in
set_option maxRecDepth 100000 in
theorem c_X11_begin_this_improved (l : Launch) {G : mm_G} {K : Nat} {w : va_W} {sz : Nat} {b : Nat} {tolls : Nat → Int32} {queue : Nat → Int32} {heap : Nat → Int32} {heapSize : Int32} {found : Nat → Int32} {improved : Nat → Int32} {x2 : Int32} {X : Nat → Int32} (hf : f_X11_begin_this_improved K tolls improved x2 = some X) (hp_this : At11 G w b tolls queue heap heapSize found improved) : Met l yX11_begin (Cond.code yX11_begin cX11_begin 4 none :: gAll) ({ frames := 0, cells := 0, slots := 0, locals := 0 }) (va_Pc [.ref b, .ref (b + 5), .int x2] (mm_Pre G w sz)) (mm_Qv G w sz (fun w' => At11 G w' b tolls queue heap heapSize found X ∧ mm_fr w w' b (b + 6))) 0 0 (va_A w sz) := by
  refine mm_headV [.ref b, .ref (b + 5), .int x2] (by decide +kernel) rfl (Nat.le_of_ble_eq_true rfl) ?_
  intro p e s m args below meth c A Q hsz hC hM hret hnm ls hl
  have hx := hC.1.1
  have hb := hC.1.2.1
  have hl : lv_has ls 4 [(0, .ref b), (1, .ref (b + 5)), (2, .int x2)] := hl
  have hF : mm_fr w w b (b + 6) := mm_fr.rf
  rw [f_X11_begin_this_improved] at hf
  refine lv_iconst (v := 0) hx hb dX11_begin_0 (by decide) ?_
  refine lv_istore_n (lv' := [(3, .int 0), (0, .ref b), (1, .ref (b + 5)), (2, .int x2)]) hx hb dX11_begin_1 rfl hl (by decide) rfl (fun ls hl => ?_)
  have L2 : ∀ (n : Nat) (L2_x3 : Int32) (L2_improved : Nat → Int32) (X : Nat → Int32), f_X11_begin_this_improved_L2 n L2_x3 L2_improved = some X → ∀ (L2_w : va_W) (H : Heap) (locs : List Loc), mm_S G A s.heap L2_w H locs → At11 G L2_w b tolls queue heap heapSize found L2_improved → mm_fr w L2_w b (b + 6) → ∀ (ls : Array Slot), lv_has ls 4 [(0, .ref b), (1, .ref (b + 5)), (2, .int x2), (3, .int L2_x3)] → (∀ (w9 : va_W) (H : Heap) (locs : List Loc), mm_S G A s.heap w9 H locs → At11 G w9 b tolls queue heap heapSize found X → mm_fr w w9 b (b + 6) → ∀ (ls : Array Slot), lv_has ls 4 [(0, .ref b), (1, .ref (b + 5)), (2, .int x2)] → W p l e ({ frames := 0, cells := 0, slots := 0, locals := 0 } : Room) s m args below meth c H locs 0 0 Q (F0 m 19 ls [])) → W p l e ({ frames := 0, cells := 0, slots := 0, locals := 0 } : Room) s m args below meth c H locs 0 0 Q (F0 m 2 ls []) := by
    intro n
    induction n with
    | zero => intro L2_x3 L2_improved X hf; cases hf
    | succ n ih =>
      intro L2_x3 L2_improved X hf L2_w H locs hM hp_this hF ls hl hk
      rw [f_X11_begin_this_improved_L2] at hf
      refine lv_iload_n hx hb dX11_begin_2 rfl (lv_at hl 3 rfl) ?_
      refine lv_bipush (v := 81) hx hb dX11_begin_3 (by decide) ?_
      refine lv_icmp_ge (tgt := 19) hx hb dX11_begin_5 (by decide) (fun hcd => ?_) (fun hcd => ?_)
      · rw [if_pos hcd] at hf
        cases hf
        exact hk _ _ _ hM hp_this hF _ (lv_sub hl [0, 1, 2] rfl)
      · rw [if_neg hcd] at hf
        refine lv_aload_n hx hb dX11_begin_8 rfl (lv_at hl 1 rfl) ?_
        refine lv_iload_n hx hb dX11_begin_9 rfl (lv_at hl 3 rfl) ?_
        refine lv_ldc hx hb hC.1.2.2.2.1 (hC.1.2.2.2.2 _ q2_152) dX11_begin_10 ?_
        obtain ⟨hg12, hf⟩ := mm_gd hf
        refine mm_iast hC hM (hp_this.2.2.2.2.2) hg12 dX11_begin_12 (fun w12 H locs hM hm => ?_)
        have hp_this : At11 G w12 b tolls queue heap heapSize found (upd L2_improved L2_x3.toNatClampNeg 1000000) := ⟨hm.keep (hp_this.1) (by omega), hm.keep (hp_this.2.1) (by omega), hm.keep (hp_this.2.2.1) (by omega), hm.keep (hp_this.2.2.2.1) (by omega), hm.keep (hp_this.2.2.2.2.1) (by omega), hm.1⟩
        have hF := hF.tr (hm.fr (by omega) (by omega))
        refine lv_iinc (v := (L2_x3 + 1)) (lv' := [(3, .int (L2_x3 + 1)), (0, .ref b), (1, .ref (b + 5)), (2, .int x2)]) hx hb dX11_begin_13 hl (k := 3) rfl rfl (by decide) rfl (fun ls hl => ?_)
        refine lv_goto (tgt := 2) hx hb dX11_begin_16 (by decide) ?_
        exact ih _ _ _ hf _ _ _ hM hp_this hF _ (lv_sub hl [1, 2, 3, 0] rfl) hk
  obtain ⟨q2, hq2, hf⟩ := mm_bd hf
  refine L2 K _ _ _ hq2 _ _ _ hM hp_this hF _ (lv_sub hl [1, 2, 3, 0] rfl) (fun w2 H locs hM hp_this hF ls hl => ?_)
  refine lv_aload_n hx hb dX11_begin_19 rfl (lv_at hl 0 rfl) ?_
  refine mm_get hC hM (k := 0) hp_this.1 rfl inAX11 (by decide) q1_186 rfl dX11_begin_20 ?_
  refine lv_iload_n hx hb dX11_begin_23 rfl (lv_at hl 2 rfl) ?_
  obtain ⟨hg24, hf⟩ := mm_gd hf
  refine mm_iald hC hM (hp_this.2.1) hg24 dX11_begin_24 ?_
  refine lv_iconst (v := (-1)) hx hb dX11_begin_25 (by decide) ?_
  refine lv_icmp_eq (tgt := 33) hx hb dX11_begin_26 (by decide) (fun hcd => ?_) (fun hcd => ?_)
  · rw [if_pos hcd] at hf
    cases hf
    exact hret hM dX11_begin_33 ⟨hp_this, hF⟩
  · rw [if_neg hcd] at hf
    refine lv_aload_n hx hb dX11_begin_29 rfl (lv_at hl 1 rfl) ?_
    refine lv_iload_n hx hb dX11_begin_30 rfl (lv_at hl 2 rfl) ?_
    refine lv_iconst (v := 0) hx hb dX11_begin_31 (by decide) ?_
    obtain ⟨hg32, hf⟩ := mm_gd hf
    refine mm_iast hC hM (hp_this.2.2.2.2.2) hg32 dX11_begin_32 (fun w32 H locs hM hm => ?_)
    have hp_this : At11 G w32 b tolls queue heap heapSize found (upd q2 x2.toNatClampNeg 0) := ⟨hm.keep (hp_this.1) (by omega), hm.keep (hp_this.2.1) (by omega), hm.keep (hp_this.2.2.1) (by omega), hm.keep (hp_this.2.2.2.1) (by omega), hm.keep (hp_this.2.2.2.2.1) (by omega), hm.1⟩
    have hF := hF.tr (hm.fr (by omega) (by omega))
    cases hf
    exact hret hM dX11_begin_33 ⟨hp_this, hF⟩
def f_X11_improveFromNeighbours_L16 (tolls : Nat → Int32) (x1 : Int32) : Nat → (Int32) → (Int32) → (Nat → Int32) → Option (Int32 × (Nat → Int32))
  | 0, _, _, _ => none
  | n + 1, x2, x3, improved => if 4 ≤ x3 then some (x2, improved) else (f_X12_neighbour x1 x3).bind fun q23 => if q23 = (-1) then f_X11_improveFromNeighbours_L16 tolls x1 n x2 (x3 + 1) improved else mm_g (mm_ck q23 81) (mm_g (mm_ck x1 81) (mm_g (mm_ck x1 81) (if (improved x1.toNatClampNeg) ≤ ((improved q23.toNatClampNeg) + (tolls x1.toNatClampNeg)) then f_X11_improveFromNeighbours_L16 tolls x1 n x2 (x3 + 1) improved else mm_g (mm_ck q23 81) (mm_g (mm_ck x1 81) (mm_g (mm_ck x1 81) (f_X11_improveFromNeighbours_L16 tolls x1 n 1 (x3 + 1) (upd improved x1.toNatClampNeg ((improved q23.toNatClampNeg) + (tolls x1.toNatClampNeg)))))))))
def f_X11_improveFromNeighbours (K : Nat) (tolls : Nat → Int32) (improved : Nat → Int32) (x1 : Int32) : Option (Int32 × (Nat → Int32)) := mm_g (mm_ck x1 81) (if (tolls x1.toNatClampNeg) = (-1) then some (0, improved) else (f_X11_improveFromNeighbours_L16 tolls x1 K 0 0 improved).bind fun q16 => mm_g (decide (q16.1 = 0 ∨ q16.1 = 1)) (some (q16.1, q16.2)))
set_option maxHeartbeats 4000000 in
set_option maxRecDepth 100000 in
theorem c_X11_improveFromNeighbours (l : Launch) {G : mm_G} {K : Nat} {w : va_W} {sz : Nat} {b : Nat} {tolls : Nat → Int32} {queue : Nat → Int32} {heap : Nat → Int32} {heapSize : Int32} {found : Nat → Int32} {improved : Nat → Int32} {x1 : Int32} {X : Int32 × (Nat → Int32)} (hf : f_X11_improveFromNeighbours K tolls improved x1 = some X) (hp_this : At11 G w b tolls queue heap heapSize found improved) : Met l yX11_improveFromNeighbours (Cond.code yX11_improveFromNeighbours cX11_improveFromNeighbours 5 (some .boolean) :: gAll) ({ frames := 2, cells := 0, slots := 0, locals := 45 }) (va_Pc [.ref b, .int x1] (mm_Pre G w sz)) (mm_Qi G w sz (fun r w' => r = X.1 ∧ At11 G w' b tolls queue heap heapSize found X.2 ∧ mm_fr w w' b (b + 6))) 0 0 (va_A w sz) := by
  refine mm_headI [.ref b, .int x1] (by decide +kernel) rfl (Nat.le_of_ble_eq_true rfl) ?_
  intro p e s m args below meth c A Q hsz hC hM hret ls hl
  have hx := hC.1.1
  have hb := hC.1.2.1
  have hl : lv_has ls 5 [(0, .ref b), (1, .int x1)] := hl
  have hF : mm_fr w w b (b + 6) := mm_fr.rf
  rw [f_X11_improveFromNeighbours] at hf
  refine lv_aload_n hx hb dX11_improveFromNeighbours_0 rfl (lv_at hl 0 rfl) ?_
  refine mm_get hC hM (k := 0) hp_this.1 rfl inAX11 (by decide) q1_186 rfl dX11_improveFromNeighbours_1 ?_
  refine lv_iload_n hx hb dX11_improveFromNeighbours_4 rfl (lv_at hl 1 rfl) ?_
  obtain ⟨hg5, hf⟩ := mm_gd hf
  refine mm_iald hC hM (hp_this.2.1) hg5 dX11_improveFromNeighbours_5 ?_
  refine lv_iconst (v := (-1)) hx hb dX11_improveFromNeighbours_6 (by decide) ?_
  refine lv_icmp_ne (tgt := 12) hx hb dX11_improveFromNeighbours_7 (by decide) (fun hcd => ?_) (fun hcd => ?_)
  · rw [if_neg hcd] at hf
    refine lv_iconst (v := 0) hx hb dX11_improveFromNeighbours_12 (by decide) ?_
    refine lv_istore_n (lv' := [(2, .int 0), (0, .ref b), (1, .int x1)]) hx hb dX11_improveFromNeighbours_13 rfl hl (by decide) rfl (fun ls hl => ?_)
    refine lv_iconst (v := 0) hx hb dX11_improveFromNeighbours_14 (by decide) ?_
    refine lv_istore_n (lv' := [(3, .int 0), (2, .int 0), (0, .ref b), (1, .int x1)]) hx hb dX11_improveFromNeighbours_15 rfl hl (by decide) rfl (fun ls hl => ?_)
    have L16 : ∀ (n : Nat) (L16_x2 : Int32) (L16_x3 : Int32) (L16_improved : Nat → Int32) (X : Int32 × (Nat → Int32)), f_X11_improveFromNeighbours_L16 tolls x1 n L16_x2 L16_x3 L16_improved = some X → ∀ (L16_w : va_W) (H : Heap) (locs : List Loc), mm_S G A s.heap L16_w H locs → At11 G L16_w b tolls queue heap heapSize found L16_improved → mm_fr w L16_w b (b + 6) → ∀ (ls : Array Slot), lv_has ls 5 [(0, .ref b), (1, .int x1), (2, .int L16_x2), (3, .int L16_x3)] → (∀ (w9 : va_W) (H : Heap) (locs : List Loc), mm_S G A s.heap w9 H locs → At11 G w9 b tolls queue heap heapSize found X.2 → mm_fr w w9 b (b + 6) → ∀ (ls : Array Slot), lv_has ls 5 [(2, .int X.1)] → W p l e ({ frames := 2, cells := 0, slots := 0, locals := 45 } : Room) s m args below meth c H locs 0 0 Q (F0 m 85 ls [])) → W p l e ({ frames := 2, cells := 0, slots := 0, locals := 45 } : Room) s m args below meth c H locs 0 0 Q (F0 m 16 ls []) := by
      intro n
      induction n with
      | zero => intro L16_x2 L16_x3 L16_improved X hf; cases hf
      | succ n ih =>
        intro L16_x2 L16_x3 L16_improved X hf L16_w H locs hM hp_this hF ls hl hk
        rw [f_X11_improveFromNeighbours_L16] at hf
        refine lv_iload_n hx hb dX11_improveFromNeighbours_16 rfl (lv_at hl 3 rfl) ?_
        refine lv_iconst (v := 4) hx hb dX11_improveFromNeighbours_17 (by decide) ?_
        refine lv_icmp_ge (tgt := 85) hx hb dX11_improveFromNeighbours_18 (by decide) (fun hcd => ?_) (fun hcd => ?_)
        · rw [if_pos hcd] at hf
          cases hf
          exact hk _ _ _ hM hp_this hF _ (lv_sub hl [2] rfl)
        · rw [if_neg hcd] at hf
          refine lv_iload_n hx hb dX11_improveFromNeighbours_21 rfl (lv_at hl 1 rfl) ?_
          refine lv_iload_n hx hb dX11_improveFromNeighbours_22 rfl (lv_at hl 3 rfl) ?_
          obtain ⟨q23, hq23, hf⟩ := mm_bd hf
          refine mm_SNi (rest := []) hC hM (c_X12_neighbour l hq23) q2_159 q1_1 ykX12_neighbour q2_157 q2_158 ⟨rfl, rfl⟩ ⟨Nat.le_of_ble_eq_true rfl, Nat.le_of_ble_eq_true rfl⟩ rfl hl.1 rfl (Nat.le_of_ble_eq_true rfl) dX11_improveFromNeighbours_23 ⟨Nat.le_of_ble_eq_true rfl, Nat.le_of_ble_eq_true rfl⟩ (fun r w23 H locs hM hw => ?_)
          obtain ⟨hr, hw⟩ := hw
          rw [hr]
          rw [hw] at hM
          refine lv_istore (lv' := [(4, .int q23), (0, .ref b), (1, .int x1), (2, .int L16_x2), (3, .int L16_x3)]) hx hb dX11_improveFromNeighbours_26 hl (by decide) rfl (fun ls hl => ?_)
          refine lv_iload hx hb dX11_improveFromNeighbours_28 (lv_at hl 0 rfl) ?_
          refine lv_iconst (v := (-1)) hx hb dX11_improveFromNeighbours_30 (by decide) ?_
          refine lv_icmp_eq (tgt := 79) hx hb dX11_improveFromNeighbours_31 (by decide) (fun hcd => ?_) (fun hcd => ?_)
          · rw [if_pos hcd] at hf
            refine lv_iinc (v := (L16_x3 + 1)) (lv' := [(3, .int (L16_x3 + 1)), (4, .int q23), (0, .ref b), (1, .int x1), (2, .int L16_x2)]) hx hb dX11_improveFromNeighbours_79 hl (k := 4) rfl rfl (by decide) rfl (fun ls hl => ?_)
            refine lv_goto (tgt := 16) hx hb dX11_improveFromNeighbours_82 (by decide) ?_
            exact ih _ _ _ _ hf _ _ _ hM hp_this hF _ (lv_sub hl [2, 3, 4, 0] rfl) hk
          · rw [if_neg hcd] at hf
            refine lv_aload_n hx hb dX11_improveFromNeighbours_34 rfl (lv_at hl 1 rfl) ?_
            refine mm_get hC hM (k := 5) hp_this.1 rfl inAX11 (by decide) q1_193 rfl dX11_improveFromNeighbours_35 ?_
            refine lv_iload hx hb dX11_improveFromNeighbours_38 (lv_at hl 0 rfl) ?_
            obtain ⟨hg40, hf⟩ := mm_gd hf
            refine mm_iald hC hM (hp_this.2.2.2.2.2) hg40 dX11_improveFromNeighbours_40 ?_
            refine lv_aload_n hx hb dX11_improveFromNeighbours_41 rfl (lv_at hl 1 rfl) ?_
            refine mm_get hC hM (k := 0) hp_this.1 rfl inAX11 (by decide) q1_186 rfl dX11_improveFromNeighbours_42 ?_
            refine lv_iload_n hx hb dX11_improveFromNeighbours_45 rfl (lv_at hl 2 rfl) ?_
            obtain ⟨hg46, hf⟩ := mm_gd hf
            refine mm_iald hC hM (hp_this.2.1) hg46 dX11_improveFromNeighbours_46 ?_
            refine lv_iadd hx hb dX11_improveFromNeighbours_47 ?_
            refine lv_aload_n hx hb dX11_improveFromNeighbours_48 rfl (lv_at hl 1 rfl) ?_
            refine mm_get hC hM (k := 5) hp_this.1 rfl inAX11 (by decide) q1_193 rfl dX11_improveFromNeighbours_49 ?_
            refine lv_iload_n hx hb dX11_improveFromNeighbours_52 rfl (lv_at hl 2 rfl) ?_
            obtain ⟨hg53, hf⟩ := mm_gd hf
            refine mm_iald hC hM (hp_this.2.2.2.2.2) hg53 dX11_improveFromNeighbours_53 ?_
            refine lv_icmp_ge (tgt := 79) hx hb dX11_improveFromNeighbours_54 (by decide) (fun hcd => ?_) (fun hcd => ?_)
            · rw [if_pos hcd] at hf
              refine lv_iinc (v := (L16_x3 + 1)) (lv' := [(3, .int (L16_x3 + 1)), (4, .int q23), (0, .ref b), (1, .int x1), (2, .int L16_x2)]) hx hb dX11_improveFromNeighbours_79 hl (k := 4) rfl rfl (by decide) rfl (fun ls hl => ?_)
              refine lv_goto (tgt := 16) hx hb dX11_improveFromNeighbours_82 (by decide) ?_
              exact ih _ _ _ _ hf _ _ _ hM hp_this hF _ (lv_sub hl [2, 3, 4, 0] rfl) hk
            · rw [if_neg hcd] at hf
              refine lv_aload_n hx hb dX11_improveFromNeighbours_57 rfl (lv_at hl 1 rfl) ?_
              refine mm_get hC hM (k := 5) hp_this.1 rfl inAX11 (by decide) q1_193 rfl dX11_improveFromNeighbours_58 ?_
              refine lv_iload_n hx hb dX11_improveFromNeighbours_61 rfl (lv_at hl 2 rfl) ?_
              refine lv_aload_n hx hb dX11_improveFromNeighbours_62 rfl (lv_at hl 1 rfl) ?_
              refine mm_get hC hM (k := 5) hp_this.1 rfl inAX11 (by decide) q1_193 rfl dX11_improveFromNeighbours_63 ?_
              refine lv_iload hx hb dX11_improveFromNeighbours_66 (lv_at hl 0 rfl) ?_
              obtain ⟨hg68, hf⟩ := mm_gd hf
              refine mm_iald hC hM (hp_this.2.2.2.2.2) hg68 dX11_improveFromNeighbours_68 ?_
              refine lv_aload_n hx hb dX11_improveFromNeighbours_69 rfl (lv_at hl 1 rfl) ?_
              refine mm_get hC hM (k := 0) hp_this.1 rfl inAX11 (by decide) q1_186 rfl dX11_improveFromNeighbours_70 ?_
              refine lv_iload_n hx hb dX11_improveFromNeighbours_73 rfl (lv_at hl 2 rfl) ?_
              obtain ⟨hg74, hf⟩ := mm_gd hf
              refine mm_iald hC hM (hp_this.2.1) hg74 dX11_improveFromNeighbours_74 ?_
              refine lv_iadd hx hb dX11_improveFromNeighbours_75 ?_
              obtain ⟨hg76, hf⟩ := mm_gd hf
              refine mm_iast hC hM (hp_this.2.2.2.2.2) hg76 dX11_improveFromNeighbours_76 (fun w76 H locs hM hm => ?_)
              have hp_this : At11 G w76 b tolls queue heap heapSize found (upd L16_improved x1.toNatClampNeg ((L16_improved q23.toNatClampNeg) + (tolls x1.toNatClampNeg))) := ⟨hm.keep (hp_this.1) (by omega), hm.keep (hp_this.2.1) (by omega), hm.keep (hp_this.2.2.1) (by omega), hm.keep (hp_this.2.2.2.1) (by omega), hm.keep (hp_this.2.2.2.2.1) (by omega), hm.1⟩
              have hF := hF.tr (hm.fr (by omega) (by omega))
              refine lv_iconst (v := 1) hx hb dX11_improveFromNeighbours_77 (by decide) ?_
              refine lv_istore_n (lv' := [(2, .int 1), (4, .int q23), (0, .ref b), (1, .int x1), (3, .int L16_x3)]) hx hb dX11_improveFromNeighbours_78 rfl hl (by decide) rfl (fun ls hl => ?_)
              refine lv_iinc (v := (L16_x3 + 1)) (lv' := [(3, .int (L16_x3 + 1)), (2, .int 1), (4, .int q23), (0, .ref b), (1, .int x1)]) hx hb dX11_improveFromNeighbours_79 hl (k := 4) rfl rfl (by decide) rfl (fun ls hl => ?_)
              refine lv_goto (tgt := 16) hx hb dX11_improveFromNeighbours_82 (by decide) ?_
              exact ih _ _ _ _ hf _ _ _ hM hp_this hF _ (lv_sub hl [3, 4, 1, 0] rfl) hk
    obtain ⟨q16, hq16, hf⟩ := mm_bd hf
    refine L16 K _ _ _ _ hq16 _ _ _ hM hp_this hF _ (lv_sub hl [2, 3, 1, 0] rfl) (fun w16 H locs hM hp_this hF ls hl => ?_)
    refine lv_iload_n hx hb dX11_improveFromNeighbours_85 rfl (lv_at hl 0 rfl) ?_
    obtain ⟨hgr, hf⟩ := mm_gb hf
    cases hf
    exact hret hM dX11_improveFromNeighbours_86 (mm_narZ (of_decide_eq_true hgr)) ⟨rfl, hp_this, hF⟩
  · rw [if_pos hcd] at hf
    refine lv_iconst (v := 0) hx hb dX11_improveFromNeighbours_10 (by decide) ?_
    cases hf
    exact hret hM dX11_improveFromNeighbours_11 rfl ⟨rfl, hp_this, hF⟩
def f_X11_searchByRounds_L28 (K : Nat) (tolls : Nat → Int32) : Nat → (Int32) → (Int32) → (Nat → Int32) → Option (Int32 × (Nat → Int32))
  | 0, _, _, _ => none
  | n + 1, x2, x4, improved => if 81 ≤ x4 then some (x2, improved) else (f_X11_improveFromNeighbours K tolls improved x4).bind fun q38 => if q38.1 = 0 then if x2 = 0 then f_X11_searchByRounds_L28 K tolls n 0 (x4 + 1) q38.2 else f_X11_searchByRounds_L28 K tolls n 1 (x4 + 1) q38.2 else f_X11_searchByRounds_L28 K tolls n 1 (x4 + 1) q38.2
def f_X11_searchByRounds_L13 (K : Nat) (tolls : Nat → Int32) : Nat → (Int32) → (Int32) → (Nat → Int32) → Option (Nat → Int32)
  | 0, _, _, _ => none
  | n + 1, x2, x3, improved => if 81 ≤ x3 then some improved else if x2 = 0 then some improved else (f_X11_searchByRounds_L28 K tolls K 0 0 improved).bind fun q28 => f_X11_searchByRounds_L13 K tolls n q28.1 (x3 + 1) q28.2
def f_X11_searchByRounds (K : Nat) (tolls : Nat → Int32) (improved : Nat → Int32) (x1 : Int32) : Option (Nat → Int32) := (f_X11_begin_this_improved K tolls improved x1).bind fun q6 => (f_X11_searchByRounds_L13 K tolls K 1 0 q6).bind fun q13 => some q13
set_option maxHeartbeats 4000000 in
set_option maxRecDepth 100000 in
theorem c_X11_searchByRounds (l : Launch) {G : mm_G} {K : Nat} {w : va_W} {sz : Nat} {b : Nat} {tolls : Nat → Int32} {queue : Nat → Int32} {heap : Nat → Int32} {heapSize : Int32} {found : Nat → Int32} {improved : Nat → Int32} {x1 : Int32} {X : Nat → Int32} (hf : f_X11_searchByRounds K tolls improved x1 = some X) (hp_this : At11 G w b tolls queue heap heapSize found improved) : Met l yX11_searchByRounds (Cond.code yX11_searchByRounds cX11_searchByRounds 5 none :: gAll) ({ frames := 3, cells := 0, slots := 0, locals := 69 }) (va_Pc [.ref b, .int x1] (mm_Pre G w sz)) (mm_Qv G w sz (fun w' => At11 G w' b tolls queue heap heapSize found X ∧ mm_fr w w' b (b + 6))) 0 0 (va_A w sz) := by
  refine mm_headV [.ref b, .int x1] (by decide +kernel) rfl (Nat.le_of_ble_eq_true rfl) ?_
  intro p e s m args below meth c A Q hsz hC hM hret hnm ls hl
  have hx := hC.1.1
  have hb := hC.1.2.1
  have hl : lv_has ls 5 [(0, .ref b), (1, .int x1)] := hl
  have hF : mm_fr w w b (b + 6) := mm_fr.rf
  rw [f_X11_searchByRounds] at hf
  refine lv_aload_n hx hb dX11_searchByRounds_0 rfl (lv_at hl 0 rfl) ?_
  refine lv_aload_n hx hb dX11_searchByRounds_1 rfl (lv_at hl 0 rfl) ?_
  refine mm_get hC hM (k := 5) hp_this.1 rfl inAX11 (by decide) q1_193 rfl dX11_searchByRounds_2 ?_
  refine lv_iload_n hx hb dX11_searchByRounds_5 rfl (lv_at hl 1 rfl) ?_
  obtain ⟨q6, hq6, hf⟩ := mm_bd hf
  refine mm_Vv (rest := []) hC hM (c_X11_begin_this_improved l hq6 hp_this) q2_151 q1_8 ykX11_begin q2_148 q2_150 qp_6017c26e hp_this.1 rfl ⟨rfl, rfl⟩ ⟨Nat.le_of_ble_eq_true rfl, Nat.le_of_ble_eq_true rfl⟩ rfl hl.1 rfl (Nat.le_of_ble_eq_true rfl) dX11_searchByRounds_6 ⟨Nat.le_of_ble_eq_true rfl, Nat.le_of_ble_eq_true rfl⟩ (fun w6 H locs hM hw => ?_)
  obtain ⟨hn_this, hfr⟩ := hw
  have hp_this := hn_this
  have hF := hF.tr (hfr.wide (by omega) (by omega))
  refine lv_iconst (v := 1) hx hb dX11_searchByRounds_9 (by decide) ?_
  refine lv_istore_n (lv' := [(2, .int 1), (0, .ref b), (1, .int x1)]) hx hb dX11_searchByRounds_10 rfl hl (by decide) rfl (fun ls hl => ?_)
  refine lv_iconst (v := 0) hx hb dX11_searchByRounds_11 (by decide) ?_
  refine lv_istore_n (lv' := [(3, .int 0), (2, .int 1), (0, .ref b), (1, .int x1)]) hx hb dX11_searchByRounds_12 rfl hl (by decide) rfl (fun ls hl => ?_)
  have L13 : ∀ (n : Nat) (L13_x2 : Int32) (L13_x3 : Int32) (L13_improved : Nat → Int32) (X : Nat → Int32), f_X11_searchByRounds_L13 K tolls n L13_x2 L13_x3 L13_improved = some X → ∀ (L13_w : va_W) (H : Heap) (locs : List Loc), mm_S G A s.heap L13_w H locs → At11 G L13_w b tolls queue heap heapSize found L13_improved → mm_fr w L13_w b (b + 6) → ∀ (ls : Array Slot), lv_has ls 5 [(0, .ref b), (2, .int L13_x2), (3, .int L13_x3)] → (∀ (w9 : va_W) (H : Heap) (locs : List Loc), mm_S G A s.heap w9 H locs → At11 G w9 b tolls queue heap heapSize found X → mm_fr w w9 b (b + 6) → ∀ (ls : Array Slot), lv_has ls 5 [] → W p l e ({ frames := 3, cells := 0, slots := 0, locals := 69 } : Room) s m args below meth c H locs 0 0 Q (F0 m 66 ls [])) → W p l e ({ frames := 3, cells := 0, slots := 0, locals := 69 } : Room) s m args below meth c H locs 0 0 Q (F0 m 13 ls []) := by
    intro n
    induction n with
    | zero => intro L13_x2 L13_x3 L13_improved X hf; cases hf
    | succ n ih =>
      intro L13_x2 L13_x3 L13_improved X hf L13_w H locs hM hp_this hF ls hl hk
      rw [f_X11_searchByRounds_L13] at hf
      refine lv_iload_n hx hb dX11_searchByRounds_13 rfl (lv_at hl 2 rfl) ?_
      refine lv_bipush (v := 81) hx hb dX11_searchByRounds_14 (by decide) ?_
      refine lv_icmp_ge (tgt := 66) hx hb dX11_searchByRounds_16 (by decide) (fun hcd => ?_) (fun hcd => ?_)
      · rw [if_pos hcd] at hf
        cases hf
        exact hk _ _ _ hM hp_this hF _ (lv_sub hl [] rfl)
      · rw [if_neg hcd] at hf
        refine lv_iload_n hx hb dX11_searchByRounds_19 rfl (lv_at hl 1 rfl) ?_
        refine lv_if_eq (tgt := 66) hx hb dX11_searchByRounds_20 (by decide) (fun hcd => ?_) (fun hcd => ?_)
        · rw [if_pos hcd] at hf
          cases hf
          exact hk _ _ _ hM hp_this hF _ (lv_sub hl [] rfl)
        · rw [if_neg hcd] at hf
          refine lv_iconst (v := 0) hx hb dX11_searchByRounds_23 (by decide) ?_
          refine lv_istore_n (lv' := [(2, .int 0), (0, .ref b), (3, .int L13_x3)]) hx hb dX11_searchByRounds_24 rfl hl (by decide) rfl (fun ls hl => ?_)
          refine lv_iconst (v := 0) hx hb dX11_searchByRounds_25 (by decide) ?_
          refine lv_istore (lv' := [(4, .int 0), (2, .int 0), (0, .ref b), (3, .int L13_x3)]) hx hb dX11_searchByRounds_26 hl (by decide) rfl (fun ls hl => ?_)
          have L28 : ∀ (n : Nat) (L28_x2 : Int32) (L28_x4 : Int32) (L28_improved : Nat → Int32) (X : Int32 × (Nat → Int32)), f_X11_searchByRounds_L28 K tolls n L28_x2 L28_x4 L28_improved = some X → ∀ (L28_w : va_W) (H : Heap) (locs : List Loc), mm_S G A s.heap L28_w H locs → At11 G L28_w b tolls queue heap heapSize found L28_improved → mm_fr w L28_w b (b + 6) → ∀ (ls : Array Slot), lv_has ls 5 [(0, .ref b), (2, .int L28_x2), (3, .int L13_x3), (4, .int L28_x4)] → (∀ (w9 : va_W) (H : Heap) (locs : List Loc), mm_S G A s.heap w9 H locs → At11 G w9 b tolls queue heap heapSize found X.2 → mm_fr w w9 b (b + 6) → ∀ (ls : Array Slot), lv_has ls 5 [(0, .ref b), (2, .int X.1), (3, .int L13_x3)] → W p l e ({ frames := 3, cells := 0, slots := 0, locals := 69 } : Room) s m args below meth c H locs 0 0 Q (F0 m 60 ls [])) → W p l e ({ frames := 3, cells := 0, slots := 0, locals := 69 } : Room) s m args below meth c H locs 0 0 Q (F0 m 28 ls []) := by
            intro n
            induction n with
            | zero => intro L28_x2 L28_x4 L28_improved X hf; cases hf
            | succ n ih =>
              intro L28_x2 L28_x4 L28_improved X hf L28_w H locs hM hp_this hF ls hl hk
              rw [f_X11_searchByRounds_L28] at hf
              refine lv_iload hx hb dX11_searchByRounds_28 (lv_at hl 3 rfl) ?_
              refine lv_bipush (v := 81) hx hb dX11_searchByRounds_30 (by decide) ?_
              refine lv_icmp_ge (tgt := 60) hx hb dX11_searchByRounds_32 (by decide) (fun hcd => ?_) (fun hcd => ?_)
              · rw [if_pos hcd] at hf
                cases hf
                exact hk _ _ _ hM hp_this hF _ (lv_sub hl [0, 1, 2] rfl)
              · rw [if_neg hcd] at hf
                refine lv_aload_n hx hb dX11_searchByRounds_35 rfl (lv_at hl 0 rfl) ?_
                refine lv_iload hx hb dX11_searchByRounds_36 (lv_at hl 3 rfl) ?_
                obtain ⟨q38, hq38, hf⟩ := mm_bd hf
                refine mm_Vi (rest := []) hC hM (c_X11_improveFromNeighbours l hq38 hp_this) q2_174 q1_8 ykX11_improveFromNeighbours q2_171 q2_173 qp_81f9836c hp_this.1 rfl ⟨rfl, rfl⟩ ⟨Nat.le_of_ble_eq_true rfl, Nat.le_of_ble_eq_true rfl⟩ rfl hl.1 rfl (Nat.le_of_ble_eq_true rfl) dX11_searchByRounds_38 ⟨Nat.le_of_ble_eq_true rfl, Nat.le_of_ble_eq_true rfl⟩ (fun r w38 H locs hM hw => ?_)
                obtain ⟨hr, hn_this, hfr⟩ := hw
                rw [hr]
                have hp_this := hn_this
                have hF := hF.tr (hfr.wide (by omega) (by omega))
                refine lv_if_ne (tgt := 48) hx hb dX11_searchByRounds_41 (by decide) (fun hcd => ?_) (fun hcd => ?_)
                · rw [if_neg hcd] at hf
                  refine lv_iconst (v := 1) hx hb dX11_searchByRounds_48 (by decide) ?_
                  refine lv_goto (tgt := 53) hx hb dX11_searchByRounds_49 (by decide) ?_
                  refine lv_istore_n (lv' := [(2, .int 1), (0, .ref b), (3, .int L13_x3), (4, .int L28_x4)]) hx hb dX11_searchByRounds_53 rfl hl (by decide) rfl (fun ls hl => ?_)
                  refine lv_iinc (v := (L28_x4 + 1)) (lv' := [(4, .int (L28_x4 + 1)), (2, .int 1), (0, .ref b), (3, .int L13_x3)]) hx hb dX11_searchByRounds_54 hl (k := 3) rfl rfl (by decide) rfl (fun ls hl => ?_)
                  refine lv_goto (tgt := 28) hx hb dX11_searchByRounds_57 (by decide) ?_
                  exact ih _ _ _ _ hf _ _ _ hM hp_this hF _ (lv_sub hl [2, 1, 3, 0] rfl) hk
                · rw [if_pos hcd] at hf
                  refine lv_iload_n hx hb dX11_searchByRounds_44 rfl (lv_at hl 1 rfl) ?_
                  refine lv_if_eq (tgt := 52) hx hb dX11_searchByRounds_45 (by decide) (fun hcd => ?_) (fun hcd => ?_)
                  · rw [if_pos hcd] at hf
                    refine lv_iconst (v := 0) hx hb dX11_searchByRounds_52 (by decide) ?_
                    refine lv_istore_n (lv' := [(2, .int 0), (0, .ref b), (3, .int L13_x3), (4, .int L28_x4)]) hx hb dX11_searchByRounds_53 rfl hl (by decide) rfl (fun ls hl => ?_)
                    refine lv_iinc (v := (L28_x4 + 1)) (lv' := [(4, .int (L28_x4 + 1)), (2, .int 0), (0, .ref b), (3, .int L13_x3)]) hx hb dX11_searchByRounds_54 hl (k := 3) rfl rfl (by decide) rfl (fun ls hl => ?_)
                    refine lv_goto (tgt := 28) hx hb dX11_searchByRounds_57 (by decide) ?_
                    exact ih _ _ _ _ hf _ _ _ hM hp_this hF _ (lv_sub hl [2, 1, 3, 0] rfl) hk
                  · rw [if_neg hcd] at hf
                    refine lv_iconst (v := 1) hx hb dX11_searchByRounds_48 (by decide) ?_
                    refine lv_goto (tgt := 53) hx hb dX11_searchByRounds_49 (by decide) ?_
                    refine lv_istore_n (lv' := [(2, .int 1), (0, .ref b), (3, .int L13_x3), (4, .int L28_x4)]) hx hb dX11_searchByRounds_53 rfl hl (by decide) rfl (fun ls hl => ?_)
                    refine lv_iinc (v := (L28_x4 + 1)) (lv' := [(4, .int (L28_x4 + 1)), (2, .int 1), (0, .ref b), (3, .int L13_x3)]) hx hb dX11_searchByRounds_54 hl (k := 3) rfl rfl (by decide) rfl (fun ls hl => ?_)
                    refine lv_goto (tgt := 28) hx hb dX11_searchByRounds_57 (by decide) ?_
                    exact ih _ _ _ _ hf _ _ _ hM hp_this hF _ (lv_sub hl [2, 1, 3, 0] rfl) hk
          obtain ⟨q28, hq28, hf⟩ := mm_bd hf
          refine L28 K _ _ _ _ hq28 _ _ _ hM hp_this hF _ (lv_sub hl [2, 1, 3, 0] rfl) (fun w28 H locs hM hp_this hF ls hl => ?_)
          refine lv_iinc (v := (L13_x3 + 1)) (lv' := [(3, .int (L13_x3 + 1)), (0, .ref b), (2, .int q28.1)]) hx hb dX11_searchByRounds_60 hl (k := 2) rfl rfl (by decide) rfl (fun ls hl => ?_)
          refine lv_goto (tgt := 13) hx hb dX11_searchByRounds_63 (by decide) ?_
          exact ih _ _ _ _ hf _ _ _ hM hp_this hF _ (lv_sub hl [1, 2, 0] rfl) hk
  obtain ⟨q13, hq13, hf⟩ := mm_bd hf
  refine L13 K _ _ _ _ hq13 _ _ _ hM hp_this hF _ (lv_sub hl [2, 1, 0] rfl) (fun w13 H locs hM hp_this hF ls hl => ?_)
  cases hf
  exact hret hM dX11_searchByRounds_66 ⟨hp_this, hF⟩
def f_X11_resultsAgree_L2 (found : Nat → Int32) (improved : Nat → Int32) : Nat → (Int32) → Option (Int32)
  | 0, _ => none
  | n + 1, x1 => if 81 ≤ x1 then some 1 else mm_g (mm_ck x1 81) (mm_g (mm_ck x1 81) (if (found x1.toNatClampNeg) = (improved x1.toNatClampNeg) then f_X11_resultsAgree_L2 found improved n (x1 + 1) else some 0))
def f_X11_resultsAgree (K : Nat) (found : Nat → Int32) (improved : Nat → Int32) : Option (Int32) := f_X11_resultsAgree_L2 found improved K 0
set_option maxHeartbeats 4000000 in
set_option maxRecDepth 100000 in
theorem c_X11_resultsAgree (l : Launch) {G : mm_G} {K : Nat} {w : va_W} {sz : Nat} {b : Nat} {tolls : Nat → Int32} {queue : Nat → Int32} {heap : Nat → Int32} {heapSize : Int32} {found : Nat → Int32} {improved : Nat → Int32} {X : Int32} (hf : f_X11_resultsAgree K found improved = some X) (hp_this : At11 G w b tolls queue heap heapSize found improved) : Met l yX11_resultsAgree (Cond.code yX11_resultsAgree cX11_resultsAgree 2 (some .boolean) :: gAll) ({ frames := 0, cells := 0, slots := 0, locals := 0 }) (va_Pc [.ref b] (mm_Pre G w sz)) (mm_Qi G w sz (fun r w' => r = X ∧ w' = w)) 0 0 (va_A w sz) := by
  refine mm_headI [.ref b] (by decide +kernel) rfl (Nat.le_of_ble_eq_true rfl) ?_
  intro p e s m args below meth c A Q hsz hC hM hret ls hl
  have hx := hC.1.1
  have hb := hC.1.2.1
  have hl : lv_has ls 2 [(0, .ref b)] := hl
  rw [f_X11_resultsAgree] at hf
  refine lv_iconst (v := 0) hx hb dX11_resultsAgree_0 (by decide) ?_
  refine lv_istore_n (lv' := [(1, .int 0), (0, .ref b)]) hx hb dX11_resultsAgree_1 rfl hl (by decide) rfl (fun ls hl => ?_)
  have L2 : ∀ (n : Nat) (L2_x1 : Int32), f_X11_resultsAgree_L2 found improved n L2_x1 = some X → ∀ (H : Heap) (locs : List Loc), mm_S G A s.heap w H locs → ∀ (ls : Array Slot), lv_has ls 2 [(0, .ref b), (1, .int L2_x1)] → W p l e ({ frames := 0, cells := 0, slots := 0, locals := 0 } : Room) s m args below meth c H locs 0 0 Q (F0 m 2 ls []) := by
    intro n
    induction n with
    | zero => intro L2_x1 hf; cases hf
    | succ n ih =>
      intro L2_x1 hf H locs hM ls hl
      rw [f_X11_resultsAgree_L2] at hf
      refine lv_iload_n hx hb dX11_resultsAgree_2 rfl (lv_at hl 1 rfl) ?_
      refine lv_bipush (v := 81) hx hb dX11_resultsAgree_3 (by decide) ?_
      refine lv_icmp_ge (tgt := 31) hx hb dX11_resultsAgree_5 (by decide) (fun hcd => ?_) (fun hcd => ?_)
      · rw [if_pos hcd] at hf
        refine lv_iconst (v := 1) hx hb dX11_resultsAgree_31 (by decide) ?_
        cases hf
        exact hret hM dX11_resultsAgree_32 rfl ⟨rfl, rfl⟩
      · rw [if_neg hcd] at hf
        refine lv_aload_n hx hb dX11_resultsAgree_8 rfl (lv_at hl 0 rfl) ?_
        refine mm_get hC hM (k := 4) hp_this.1 rfl inAX11 (by decide) q1_190 rfl dX11_resultsAgree_9 ?_
        refine lv_iload_n hx hb dX11_resultsAgree_12 rfl (lv_at hl 1 rfl) ?_
        obtain ⟨hg13, hf⟩ := mm_gd hf
        refine mm_iald hC hM (hp_this.2.2.2.2.1) hg13 dX11_resultsAgree_13 ?_
        refine lv_aload_n hx hb dX11_resultsAgree_14 rfl (lv_at hl 0 rfl) ?_
        refine mm_get hC hM (k := 5) hp_this.1 rfl inAX11 (by decide) q1_193 rfl dX11_resultsAgree_15 ?_
        refine lv_iload_n hx hb dX11_resultsAgree_18 rfl (lv_at hl 1 rfl) ?_
        obtain ⟨hg19, hf⟩ := mm_gd hf
        refine mm_iald hC hM (hp_this.2.2.2.2.2) hg19 dX11_resultsAgree_19 ?_
        refine lv_icmp_eq (tgt := 25) hx hb dX11_resultsAgree_20 (by decide) (fun hcd => ?_) (fun hcd => ?_)
        · rw [if_pos hcd] at hf
          refine lv_iinc (v := (L2_x1 + 1)) (lv' := [(1, .int (L2_x1 + 1)), (0, .ref b)]) hx hb dX11_resultsAgree_25 hl (k := 1) rfl rfl (by decide) rfl (fun ls hl => ?_)
          refine lv_goto (tgt := 2) hx hb dX11_resultsAgree_28 (by decide) ?_
          exact ih _ hf _ _ hM _ (lv_sub hl [1, 0] rfl)
        · rw [if_neg hcd] at hf
          refine lv_iconst (v := 0) hx hb dX11_resultsAgree_23 (by decide) ?_
          cases hf
          exact hret hM dX11_resultsAgree_24 rfl ⟨rfl, rfl⟩
  exact L2 K _ hf _ _ hM _ (lv_sub hl [1, 0] rfl)
def f_X11_firstMoveTo_L2 (found : Nat → Int32) (x1 : Int32) (x2 : Int32) : Nat → (Int32) → Option (Int32)
  | 0, _ => none
  | n + 1, x3 => if 4 ≤ x3 then some 0 else (f_X12_neighbour x1 x3).bind fun q9 => if q9 = (-1) then f_X11_firstMoveTo_L2 found x1 x2 n (x3 + 1) else mm_g (mm_ck q9 81) (if (found q9.toNatClampNeg) = x2 then some x3 else f_X11_firstMoveTo_L2 found x1 x2 n (x3 + 1))
def f_X11_firstMoveTo (K : Nat) (found : Nat → Int32) (x1 : Int32) (x2 : Int32) : Option (Int32) := f_X11_firstMoveTo_L2 found x1 x2 K 0
set_option maxHeartbeats 4000000 in
set_option maxRecDepth 100000 in
theorem c_X11_firstMoveTo (l : Launch) {G : mm_G} {K : Nat} {w : va_W} {sz : Nat} {b : Nat} {tolls : Nat → Int32} {queue : Nat → Int32} {heap : Nat → Int32} {heapSize : Int32} {found : Nat → Int32} {improved : Nat → Int32} {x1 : Int32} {x2 : Int32} {X : Int32} (hf : f_X11_firstMoveTo K found x1 x2 = some X) (hp_this : At11 G w b tolls queue heap heapSize found improved) : Met l yX11_firstMoveTo (Cond.code yX11_firstMoveTo cX11_firstMoveTo 5 (some .int) :: gAll) ({ frames := 2, cells := 0, slots := 0, locals := 45 }) (va_Pc [.ref b, .int x1, .int x2] (mm_Pre G w sz)) (mm_Qi G w sz (fun r w' => r = X ∧ w' = w)) 0 0 (va_A w sz) := by
  refine mm_headI [.ref b, .int x1, .int x2] (by decide +kernel) rfl (Nat.le_of_ble_eq_true rfl) ?_
  intro p e s m args below meth c A Q hsz hC hM hret ls hl
  have hx := hC.1.1
  have hb := hC.1.2.1
  have hl : lv_has ls 5 [(0, .ref b), (1, .int x1), (2, .int x2)] := hl
  rw [f_X11_firstMoveTo] at hf
  refine lv_iconst (v := 0) hx hb dX11_firstMoveTo_0 (by decide) ?_
  refine lv_istore_n (lv' := [(3, .int 0), (0, .ref b), (1, .int x1), (2, .int x2)]) hx hb dX11_firstMoveTo_1 rfl hl (by decide) rfl (fun ls hl => ?_)
  have L2 : ∀ (n : Nat) (L2_x3 : Int32), f_X11_firstMoveTo_L2 found x1 x2 n L2_x3 = some X → ∀ (H : Heap) (locs : List Loc), mm_S G A s.heap w H locs → ∀ (ls : Array Slot), lv_has ls 5 [(0, .ref b), (1, .int x1), (2, .int x2), (3, .int L2_x3)] → W p l e ({ frames := 2, cells := 0, slots := 0, locals := 45 } : Room) s m args below meth c H locs 0 0 Q (F0 m 2 ls []) := by
    intro n
    induction n with
    | zero => intro L2_x3 hf; cases hf
    | succ n ih =>
      intro L2_x3 hf H locs hM ls hl
      rw [f_X11_firstMoveTo_L2] at hf
      refine lv_iload_n hx hb dX11_firstMoveTo_2 rfl (lv_at hl 3 rfl) ?_
      refine lv_iconst (v := 4) hx hb dX11_firstMoveTo_3 (by decide) ?_
      refine lv_icmp_ge (tgt := 39) hx hb dX11_firstMoveTo_4 (by decide) (fun hcd => ?_) (fun hcd => ?_)
      · rw [if_pos hcd] at hf
        refine lv_iconst (v := 0) hx hb dX11_firstMoveTo_39 (by decide) ?_
        cases hf
        exact hret hM dX11_firstMoveTo_40 rfl ⟨rfl, rfl⟩
      · rw [if_neg hcd] at hf
        refine lv_iload_n hx hb dX11_firstMoveTo_7 rfl (lv_at hl 1 rfl) ?_
        refine lv_iload_n hx hb dX11_firstMoveTo_8 rfl (lv_at hl 3 rfl) ?_
        obtain ⟨q9, hq9, hf⟩ := mm_bd hf
        refine mm_SNi (rest := []) hC hM (c_X12_neighbour l hq9) q2_159 q1_1 ykX12_neighbour q2_157 q2_158 ⟨rfl, rfl⟩ ⟨Nat.le_of_ble_eq_true rfl, Nat.le_of_ble_eq_true rfl⟩ rfl hl.1 rfl (Nat.le_of_ble_eq_true rfl) dX11_firstMoveTo_9 ⟨Nat.le_of_ble_eq_true rfl, Nat.le_of_ble_eq_true rfl⟩ (fun r w9 H locs hM hw => ?_)
        obtain ⟨hr, hw⟩ := hw
        rw [hr]
        rw [hw] at hM
        refine lv_istore (lv' := [(4, .int q9), (0, .ref b), (1, .int x1), (2, .int x2), (3, .int L2_x3)]) hx hb dX11_firstMoveTo_12 hl (by decide) rfl (fun ls hl => ?_)
        refine lv_iload hx hb dX11_firstMoveTo_14 (lv_at hl 0 rfl) ?_
        refine lv_iconst (v := (-1)) hx hb dX11_firstMoveTo_16 (by decide) ?_
        refine lv_icmp_eq (tgt := 33) hx hb dX11_firstMoveTo_17 (by decide) (fun hcd => ?_) (fun hcd => ?_)
        · rw [if_pos hcd] at hf
          refine lv_iinc (v := (L2_x3 + 1)) (lv' := [(3, .int (L2_x3 + 1)), (4, .int q9), (0, .ref b), (1, .int x1), (2, .int x2)]) hx hb dX11_firstMoveTo_33 hl (k := 4) rfl rfl (by decide) rfl (fun ls hl => ?_)
          refine lv_goto (tgt := 2) hx hb dX11_firstMoveTo_36 (by decide) ?_
          exact ih _ hf _ _ hM _ (lv_sub hl [2, 3, 4, 0] rfl)
        · rw [if_neg hcd] at hf
          refine lv_aload_n hx hb dX11_firstMoveTo_20 rfl (lv_at hl 1 rfl) ?_
          refine mm_get hC hM (k := 4) hp_this.1 rfl inAX11 (by decide) q1_190 rfl dX11_firstMoveTo_21 ?_
          refine lv_iload hx hb dX11_firstMoveTo_24 (lv_at hl 0 rfl) ?_
          obtain ⟨hg26, hf⟩ := mm_gd hf
          refine mm_iald hC hM (hp_this.2.2.2.2.1) hg26 dX11_firstMoveTo_26 ?_
          refine lv_iload_n hx hb dX11_firstMoveTo_27 rfl (lv_at hl 3 rfl) ?_
          refine lv_icmp_ne (tgt := 33) hx hb dX11_firstMoveTo_28 (by decide) (fun hcd => ?_) (fun hcd => ?_)
          · rw [if_neg hcd] at hf
            refine lv_iinc (v := (L2_x3 + 1)) (lv' := [(3, .int (L2_x3 + 1)), (4, .int q9), (0, .ref b), (1, .int x1), (2, .int x2)]) hx hb dX11_firstMoveTo_33 hl (k := 4) rfl rfl (by decide) rfl (fun ls hl => ?_)
            refine lv_goto (tgt := 2) hx hb dX11_firstMoveTo_36 (by decide) ?_
            exact ih _ hf _ _ hM _ (lv_sub hl [2, 3, 4, 0] rfl)
          · rw [if_pos hcd] at hf
            refine lv_iload_n hx hb dX11_firstMoveTo_31 rfl (lv_at hl 4 rfl) ?_
            cases hf
            exact hret hM dX11_firstMoveTo_32 rfl ⟨rfl, rfl⟩
  exact L2 K _ hf _ _ hM _ (lv_sub hl [1, 2, 3, 0] rfl)
