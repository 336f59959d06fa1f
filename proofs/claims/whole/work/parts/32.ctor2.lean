theorem mm_arrq {a n : Nat} {cA : ClassId} {w : va_W} {f g : Nat → Option Nat} (h : (a, (.inl (cA, n, .inr (.inr (.inr (.inr f)))) : va_E)) ∈ w) (e : f = g) : (a, (.inl (cA, n, .inr (.inr (.inr (.inr g)))) : va_E)) ∈ w := e ▸ h
def mm_MV0 : mm_MV := ((fun _ => 0), 0, 0, (fun _ => 0), (fun _ => 0), (fun _ => 0), 0, 0, 0, 0, 0, (fun _ => 0), (fun _ => 0), (fun _ => 0), 0, 0)
set_option maxHeartbeats 8000000 in
set_option maxRecDepth 100000 in
theorem c_X4_init (l : Launch) {G : mm_G} {w : va_W} {sz b : Nat} (hb0 : sz = b + 1) (hp : (b, (.inr (4, [.null, .int 0, .int 0]) : va_E)) ∈ w) : Met l yX4_init (Cond.code yX4_init cX4_init 2 none :: gAll) ({ frames := 3, cells := 109, slots := 2232, locals := 80 }) (va_Pc [.ref b] (mm_Pre G w sz)) (mm_QN G w sz (b + 110) (fun w' => At4 G w' b (fun _ => mm_MV0) 0 0 ∧ mm_fr w w' b (b + 110))) 109 2232 (va_A w sz) := by
  refine mm_headN [.ref b] (by decide +kernel) rfl (Nat.le_of_ble_eq_true rfl) ?_
  intro p e s m args below meth c A Q hsz hC hM hret hnm ls hl
  have hx := hC.1.1
  have hb := hC.1.2.1
  have hl : lv_has ls 2 [(0, .ref b)] := hl
  have hF : mm_fr w w b (b + 110) := mm_fr.rf
  have hz : s.heap.size = b + 1 := hsz.trans hb0
  refine lv_aload_n hx hb dX4_init_0 rfl (lv_at hl 0 rfl) ?_
  refine mm_obj hC hl.1 q1_165 q1_39 q1_40 dX4_init_1 (Nat.le_of_ble_eq_true rfl) (Nat.le_of_ble_eq_true rfl) ?_
  refine lv_aload_n hx hb dX4_init_4 rfl (lv_at hl 0 rfl) ?_
  refine lv_bipush (v := 9) hx hb dX4_init_5 (by decide) ?_
  refine mm_newq (a := b + 1) (N := 9) hC hM (by omega) q1_166 (by decide) (by decide) (by decide) (Nat.le_of_ble_eq_true rfl) (Nat.le_of_ble_eq_true rfl) dX4_init_7 (fun w1 H hM hm hz => ?_)
  have hp := hm.keep hp (by omega)
  have hs := hm.1
  have hF := hF.tr (hm.fr (by omega) (by omega))
  refine mm_putFN hC hM (k := 0) tyX4 hp rfl inAX4 tyX4_ok nmX4 (by decide) q1_169 rfl hnm rfl rfl rfl rfl (Nat.le_of_ble_eq_true rfl) dX4_init_10 (fun w2 H locs hM hm hzz => ?_)
  have hz := hzz.trans hz
  have hp := hm.1
  have hs := hm.keep hs (by omega)
  have hF := hF.tr (hm.fr (by omega) (by omega))
  refine lv_iconst (v := 0) hx hb dX4_init_13 (by decide) ?_
  refine lv_istore_n (lv' := [(1, .int 0), (0, .ref b)]) hx hb dX4_init_14 rfl hl (by decide) rfl (fun ls hl => ?_)
  refine lv_iload_n hx hb dX4_init_15 rfl (lv_at hl 0 rfl) ?_
  refine lv_bipush (v := 9) hx hb dX4_init_16 (by decide) ?_
  refine lv_icmp_ge (tgt := 40) hx hb dX4_init_18 (by decide) (fun hcd => absurd hcd (by decide)) (fun _ => ?_)
  refine lv_aload_n hx hb dX4_init_21 rfl (lv_at hl 1 rfl) ?_
  refine mm_get hC hM (k := 0) hp rfl inAX4 (by decide) q1_169 rfl dX4_init_22 ?_
  refine lv_iload_n hx hb dX4_init_25 rfl (lv_at hl 0 rfl) ?_
  refine mm_new (a := b + 2 + 12 * 0) (fs := [.null, .null, .null, .null, .int 0]) (C := RX6) (T := TX6) (N := 5) (ci := 6) tyX6 hC hM (by omega) rfl inAX6 tyX6_ok q1_166 q1_42 q1_2 (fun j hj => by rcases (show j = 0 ∨ j = 1 ∨ j = 2 ∨ j = 3 ∨ j = 4 by omega) with rfl | rfl | rfl | rfl | rfl <;> rfl) (Nat.le_of_ble_eq_true rfl) (Nat.le_of_ble_eq_true rfl) dX4_init_26 (fun w3 H hM hm hz => ?_)
  have hnew := hm.1
  have hp := hm.keep hp (by omega)
  have hs := hm.keep hs (by omega)
  have hF := hF.tr (hm.fr (by omega) (by omega))
  refine lv_dup hx hb dX4_init_29 rfl ?_
  refine mm_INcN (rest := [.ref (b + 2 + 12 * 0), .int 0, .ref (b + 1)]) hC hM (c_X6_init l (b := b + 2 + 12 * 0) hz hnew) q1_45 q1_2 ykX6_init q1_168 q1_44 rfl ⟨rfl, rfl⟩ ⟨Nat.le_of_ble_eq_true rfl, Nat.le_of_ble_eq_true rfl⟩ rfl hl.1 rfl (Nat.le_of_ble_eq_true rfl) dX4_init_30 ⟨Nat.le_of_ble_eq_true rfl, Nat.le_of_ble_eq_true rfl⟩ (fun w4 H locs hM hz hw => ?_)
  obtain ⟨hm0, hfr⟩ := hw
  have hp := hfr.keep hp (by omega)
  have hs := hfr.keep hs (by omega)
  have hF := hF.tr (hfr.wide (by omega) (by omega))
  refine mm_aastS (N := 0) hC hM hs hm0.1 (by decide) (by unfold vp_in; decide) dX4_init_33 (fun w5 H1 locs hM hm hzz => ?_)
  have hz := hzz.trans hz
  have hs := hm.1
  have hp := hm.keep hp (by omega)
  have hm0 := hm0.up hm (by omega)
  have hF := hF.tr (hm.fr (by omega) (by omega))
  refine lv_iinc (v := 1) (lv' := [(1, .int 1), (0, .ref b)]) hx hb dX4_init_34 hl (k := 0) rfl (by decide) (by decide) rfl (fun ls hl => ?_)
  refine lv_goto (tgt := 15) hx hb dX4_init_37 (by decide) ?_
  refine lv_iload_n hx hb dX4_init_15 rfl (lv_at hl 0 rfl) ?_
  refine lv_bipush (v := 9) hx hb dX4_init_16 (by decide) ?_
  refine lv_icmp_ge (tgt := 40) hx hb dX4_init_18 (by decide) (fun hcd => absurd hcd (by decide)) (fun _ => ?_)
  refine lv_aload_n hx hb dX4_init_21 rfl (lv_at hl 1 rfl) ?_
  refine mm_get hC hM (k := 0) hp rfl inAX4 (by decide) q1_169 rfl dX4_init_22 ?_
  refine lv_iload_n hx hb dX4_init_25 rfl (lv_at hl 0 rfl) ?_
  refine mm_new (a := b + 2 + 12 * 1) (fs := [.null, .null, .null, .null, .int 0]) (C := RX6) (T := TX6) (N := 5) (ci := 6) tyX6 hC hM (by omega) rfl inAX6 tyX6_ok q1_166 q1_42 q1_2 (fun j hj => by rcases (show j = 0 ∨ j = 1 ∨ j = 2 ∨ j = 3 ∨ j = 4 by omega) with rfl | rfl | rfl | rfl | rfl <;> rfl) (Nat.le_of_ble_eq_true rfl) (Nat.le_of_ble_eq_true rfl) dX4_init_26 (fun w6 H hM hm hz => ?_)
  have hnew := hm.1
  have hp := hm.keep hp (by omega)
  have hs := hm.keep hs (by omega)
  have hm0 := hm0.up hm (by omega)
  have hF := hF.tr (hm.fr (by omega) (by omega))
  refine lv_dup hx hb dX4_init_29 rfl ?_
  refine mm_INcN (rest := [.ref (b + 2 + 12 * 1), .int 1, .ref (b + 1)]) hC hM (c_X6_init l (b := b + 2 + 12 * 1) hz hnew) q1_45 q1_2 ykX6_init q1_168 q1_44 rfl ⟨rfl, rfl⟩ ⟨Nat.le_of_ble_eq_true rfl, Nat.le_of_ble_eq_true rfl⟩ rfl hl.1 rfl (Nat.le_of_ble_eq_true rfl) dX4_init_30 ⟨Nat.le_of_ble_eq_true rfl, Nat.le_of_ble_eq_true rfl⟩ (fun w7 H locs hM hz hw => ?_)
  obtain ⟨hm1, hfr⟩ := hw
  have hp := hfr.keep hp (by omega)
  have hs := hfr.keep hs (by omega)
  have hm0 := hm0.keep hfr (by omega)
  have hF := hF.tr (hfr.wide (by omega) (by omega))
  refine mm_aastS (N := 1) hC hM hs hm1.1 (by decide) (by unfold vp_in; decide) dX4_init_33 (fun w8 H1 locs hM hm hzz => ?_)
  have hz := hzz.trans hz
  have hs := hm.1
  have hp := hm.keep hp (by omega)
  have hm0 := hm0.up hm (by omega)
  have hm1 := hm1.up hm (by omega)
  have hF := hF.tr (hm.fr (by omega) (by omega))
  refine lv_iinc (v := 2) (lv' := [(1, .int 2), (0, .ref b)]) hx hb dX4_init_34 hl (k := 0) rfl (by decide) (by decide) rfl (fun ls hl => ?_)
  refine lv_goto (tgt := 15) hx hb dX4_init_37 (by decide) ?_
  refine lv_iload_n hx hb dX4_init_15 rfl (lv_at hl 0 rfl) ?_
  refine lv_bipush (v := 9) hx hb dX4_init_16 (by decide) ?_
  refine lv_icmp_ge (tgt := 40) hx hb dX4_init_18 (by decide) (fun hcd => absurd hcd (by decide)) (fun _ => ?_)
  refine lv_aload_n hx hb dX4_init_21 rfl (lv_at hl 1 rfl) ?_
  refine mm_get hC hM (k := 0) hp rfl inAX4 (by decide) q1_169 rfl dX4_init_22 ?_
  refine lv_iload_n hx hb dX4_init_25 rfl (lv_at hl 0 rfl) ?_
  refine mm_new (a := b + 2 + 12 * 2) (fs := [.null, .null, .null, .null, .int 0]) (C := RX6) (T := TX6) (N := 5) (ci := 6) tyX6 hC hM (by omega) rfl inAX6 tyX6_ok q1_166 q1_42 q1_2 (fun j hj => by rcases (show j = 0 ∨ j = 1 ∨ j = 2 ∨ j = 3 ∨ j = 4 by omega) with rfl | rfl | rfl | rfl | rfl <;> rfl) (Nat.le_of_ble_eq_true rfl) (Nat.le_of_ble_eq_true rfl) dX4_init_26 (fun w9 H hM hm hz => ?_)
  have hnew := hm.1
  have hp := hm.keep hp (by omega)
  have hs := hm.keep hs (by omega)
  have hm0 := hm0.up hm (by omega)
  have hm1 := hm1.up hm (by omega)
  have hF := hF.tr (hm.fr (by omega) (by omega))
  refine lv_dup hx hb dX4_init_29 rfl ?_
  refine mm_INcN (rest := [.ref (b + 2 + 12 * 2), .int 2, .ref (b + 1)]) hC hM (c_X6_init l (b := b + 2 + 12 * 2) hz hnew) q1_45 q1_2 ykX6_init q1_168 q1_44 rfl ⟨rfl, rfl⟩ ⟨Nat.le_of_ble_eq_true rfl, Nat.le_of_ble_eq_true rfl⟩ rfl hl.1 rfl (Nat.le_of_ble_eq_true rfl) dX4_init_30 ⟨Nat.le_of_ble_eq_true rfl, Nat.le_of_ble_eq_true rfl⟩ (fun w10 H locs hM hz hw => ?_)
  obtain ⟨hm2, hfr⟩ := hw
  have hp := hfr.keep hp (by omega)
  have hs := hfr.keep hs (by omega)
  have hm0 := hm0.keep hfr (by omega)
  have hm1 := hm1.keep hfr (by omega)
  have hF := hF.tr (hfr.wide (by omega) (by omega))
  refine mm_aastS (N := 2) hC hM hs hm2.1 (by decide) (by unfold vp_in; decide) dX4_init_33 (fun w11 H1 locs hM hm hzz => ?_)
  have hz := hzz.trans hz
  have hs := hm.1
  have hp := hm.keep hp (by omega)
  have hm0 := hm0.up hm (by omega)
  have hm1 := hm1.up hm (by omega)
  have hm2 := hm2.up hm (by omega)
  have hF := hF.tr (hm.fr (by omega) (by omega))
  refine lv_iinc (v := 3) (lv' := [(1, .int 3), (0, .ref b)]) hx hb dX4_init_34 hl (k := 0) rfl (by decide) (by decide) rfl (fun ls hl => ?_)
  refine lv_goto (tgt := 15) hx hb dX4_init_37 (by decide) ?_
  refine lv_iload_n hx hb dX4_init_15 rfl (lv_at hl 0 rfl) ?_
  refine lv_bipush (v := 9) hx hb dX4_init_16 (by decide) ?_
  refine lv_icmp_ge (tgt := 40) hx hb dX4_init_18 (by decide) (fun hcd => absurd hcd (by decide)) (fun _ => ?_)
  refine lv_aload_n hx hb dX4_init_21 rfl (lv_at hl 1 rfl) ?_
  refine mm_get hC hM (k := 0) hp rfl inAX4 (by decide) q1_169 rfl dX4_init_22 ?_
  refine lv_iload_n hx hb dX4_init_25 rfl (lv_at hl 0 rfl) ?_
  refine mm_new (a := b + 2 + 12 * 3) (fs := [.null, .null, .null, .null, .int 0]) (C := RX6) (T := TX6) (N := 5) (ci := 6) tyX6 hC hM (by omega) rfl inAX6 tyX6_ok q1_166 q1_42 q1_2 (fun j hj => by rcases (show j = 0 ∨ j = 1 ∨ j = 2 ∨ j = 3 ∨ j = 4 by omega) with rfl | rfl | rfl | rfl | rfl <;> rfl) (Nat.le_of_ble_eq_true rfl) (Nat.le_of_ble_eq_true rfl) dX4_init_26 (fun w12 H hM hm hz => ?_)
  have hnew := hm.1
  have hp := hm.keep hp (by omega)
  have hs := hm.keep hs (by omega)
  have hm0 := hm0.up hm (by omega)
  have hm1 := hm1.up hm (by omega)
  have hm2 := hm2.up hm (by omega)
  have hF := hF.tr (hm.fr (by omega) (by omega))
  refine lv_dup hx hb dX4_init_29 rfl ?_
  refine mm_INcN (rest := [.ref (b + 2 + 12 * 3), .int 3, .ref (b + 1)]) hC hM (c_X6_init l (b := b + 2 + 12 * 3) hz hnew) q1_45 q1_2 ykX6_init q1_168 q1_44 rfl ⟨rfl, rfl⟩ ⟨Nat.le_of_ble_eq_true rfl, Nat.le_of_ble_eq_true rfl⟩ rfl hl.1 rfl (Nat.le_of_ble_eq_true rfl) dX4_init_30 ⟨Nat.le_of_ble_eq_true rfl, Nat.le_of_ble_eq_true rfl⟩ (fun w13 H locs hM hz hw => ?_)
  obtain ⟨hm3, hfr⟩ := hw
  have hp := hfr.keep hp (by omega)
  have hs := hfr.keep hs (by omega)
  have hm0 := hm0.keep hfr (by omega)
  have hm1 := hm1.keep hfr (by omega)
  have hm2 := hm2.keep hfr (by omega)
  have hF := hF.tr (hfr.wide (by omega) (by omega))
  refine mm_aastS (N := 3) hC hM hs hm3.1 (by decide) (by unfold vp_in; decide) dX4_init_33 (fun w14 H1 locs hM hm hzz => ?_)
  have hz := hzz.trans hz
  have hs := hm.1
  have hp := hm.keep hp (by omega)
  have hm0 := hm0.up hm (by omega)
  have hm1 := hm1.up hm (by omega)
  have hm2 := hm2.up hm (by omega)
  have hm3 := hm3.up hm (by omega)
  have hF := hF.tr (hm.fr (by omega) (by omega))
  refine lv_iinc (v := 4) (lv' := [(1, .int 4), (0, .ref b)]) hx hb dX4_init_34 hl (k := 0) rfl (by decide) (by decide) rfl (fun ls hl => ?_)
  refine lv_goto (tgt := 15) hx hb dX4_init_37 (by decide) ?_
  refine lv_iload_n hx hb dX4_init_15 rfl (lv_at hl 0 rfl) ?_
  refine lv_bipush (v := 9) hx hb dX4_init_16 (by decide) ?_
  refine lv_icmp_ge (tgt := 40) hx hb dX4_init_18 (by decide) (fun hcd => absurd hcd (by decide)) (fun _ => ?_)
  refine lv_aload_n hx hb dX4_init_21 rfl (lv_at hl 1 rfl) ?_
  refine mm_get hC hM (k := 0) hp rfl inAX4 (by decide) q1_169 rfl dX4_init_22 ?_
  refine lv_iload_n hx hb dX4_init_25 rfl (lv_at hl 0 rfl) ?_
  refine mm_new (a := b + 2 + 12 * 4) (fs := [.null, .null, .null, .null, .int 0]) (C := RX6) (T := TX6) (N := 5) (ci := 6) tyX6 hC hM (by omega) rfl inAX6 tyX6_ok q1_166 q1_42 q1_2 (fun j hj => by rcases (show j = 0 ∨ j = 1 ∨ j = 2 ∨ j = 3 ∨ j = 4 by omega) with rfl | rfl | rfl | rfl | rfl <;> rfl) (Nat.le_of_ble_eq_true rfl) (Nat.le_of_ble_eq_true rfl) dX4_init_26 (fun w15 H hM hm hz => ?_)
  have hnew := hm.1
  have hp := hm.keep hp (by omega)
  have hs := hm.keep hs (by omega)
  have hm0 := hm0.up hm (by omega)
  have hm1 := hm1.up hm (by omega)
  have hm2 := hm2.up hm (by omega)
  have hm3 := hm3.up hm (by omega)
  have hF := hF.tr (hm.fr (by omega) (by omega))
  refine lv_dup hx hb dX4_init_29 rfl ?_
  refine mm_INcN (rest := [.ref (b + 2 + 12 * 4), .int 4, .ref (b + 1)]) hC hM (c_X6_init l (b := b + 2 + 12 * 4) hz hnew) q1_45 q1_2 ykX6_init q1_168 q1_44 rfl ⟨rfl, rfl⟩ ⟨Nat.le_of_ble_eq_true rfl, Nat.le_of_ble_eq_true rfl⟩ rfl hl.1 rfl (Nat.le_of_ble_eq_true rfl) dX4_init_30 ⟨Nat.le_of_ble_eq_true rfl, Nat.le_of_ble_eq_true rfl⟩ (fun w16 H locs hM hz hw => ?_)
  obtain ⟨hm4, hfr⟩ := hw
  have hp := hfr.keep hp (by omega)
  have hs := hfr.keep hs (by omega)
  have hm0 := hm0.keep hfr (by omega)
  have hm1 := hm1.keep hfr (by omega)
  have hm2 := hm2.keep hfr (by omega)
  have hm3 := hm3.keep hfr (by omega)
  have hF := hF.tr (hfr.wide (by omega) (by omega))
  refine mm_aastS (N := 4) hC hM hs hm4.1 (by decide) (by unfold vp_in; decide) dX4_init_33 (fun w17 H1 locs hM hm hzz => ?_)
  have hz := hzz.trans hz
  have hs := hm.1
  have hp := hm.keep hp (by omega)
  have hm0 := hm0.up hm (by omega)
  have hm1 := hm1.up hm (by omega)
  have hm2 := hm2.up hm (by omega)
  have hm3 := hm3.up hm (by omega)
  have hm4 := hm4.up hm (by omega)
  have hF := hF.tr (hm.fr (by omega) (by omega))
  refine lv_iinc (v := 5) (lv' := [(1, .int 5), (0, .ref b)]) hx hb dX4_init_34 hl (k := 0) rfl (by decide) (by decide) rfl (fun ls hl => ?_)
  refine lv_goto (tgt := 15) hx hb dX4_init_37 (by decide) ?_
  refine lv_iload_n hx hb dX4_init_15 rfl (lv_at hl 0 rfl) ?_
  refine lv_bipush (v := 9) hx hb dX4_init_16 (by decide) ?_
  refine lv_icmp_ge (tgt := 40) hx hb dX4_init_18 (by decide) (fun hcd => absurd hcd (by decide)) (fun _ => ?_)
  refine lv_aload_n hx hb dX4_init_21 rfl (lv_at hl 1 rfl) ?_
  refine mm_get hC hM (k := 0) hp rfl inAX4 (by decide) q1_169 rfl dX4_init_22 ?_
  refine lv_iload_n hx hb dX4_init_25 rfl (lv_at hl 0 rfl) ?_
  refine mm_new (a := b + 2 + 12 * 5) (fs := [.null, .null, .null, .null, .int 0]) (C := RX6) (T := TX6) (N := 5) (ci := 6) tyX6 hC hM (by omega) rfl inAX6 tyX6_ok q1_166 q1_42 q1_2 (fun j hj => by rcases (show j = 0 ∨ j = 1 ∨ j = 2 ∨ j = 3 ∨ j = 4 by omega) with rfl | rfl | rfl | rfl | rfl <;> rfl) (Nat.le_of_ble_eq_true rfl) (Nat.le_of_ble_eq_true rfl) dX4_init_26 (fun w18 H hM hm hz => ?_)
  have hnew := hm.1
  have hp := hm.keep hp (by omega)
  have hs := hm.keep hs (by omega)
  have hm0 := hm0.up hm (by omega)
  have hm1 := hm1.up hm (by omega)
  have hm2 := hm2.up hm (by omega)
  have hm3 := hm3.up hm (by omega)
  have hm4 := hm4.up hm (by omega)
  have hF := hF.tr (hm.fr (by omega) (by omega))
  refine lv_dup hx hb dX4_init_29 rfl ?_
  refine mm_INcN (rest := [.ref (b + 2 + 12 * 5), .int 5, .ref (b + 1)]) hC hM (c_X6_init l (b := b + 2 + 12 * 5) hz hnew) q1_45 q1_2 ykX6_init q1_168 q1_44 rfl ⟨rfl, rfl⟩ ⟨Nat.le_of_ble_eq_true rfl, Nat.le_of_ble_eq_true rfl⟩ rfl hl.1 rfl (Nat.le_of_ble_eq_true rfl) dX4_init_30 ⟨Nat.le_of_ble_eq_true rfl, Nat.le_of_ble_eq_true rfl⟩ (fun w19 H locs hM hz hw => ?_)
  obtain ⟨hm5, hfr⟩ := hw
  have hp := hfr.keep hp (by omega)
  have hs := hfr.keep hs (by omega)
  have hm0 := hm0.keep hfr (by omega)
  have hm1 := hm1.keep hfr (by omega)
  have hm2 := hm2.keep hfr (by omega)
  have hm3 := hm3.keep hfr (by omega)
  have hm4 := hm4.keep hfr (by omega)
  have hF := hF.tr (hfr.wide (by omega) (by omega))
  refine mm_aastS (N := 5) hC hM hs hm5.1 (by decide) (by unfold vp_in; decide) dX4_init_33 (fun w20 H1 locs hM hm hzz => ?_)
  have hz := hzz.trans hz
  have hs := hm.1
  have hp := hm.keep hp (by omega)
  have hm0 := hm0.up hm (by omega)
  have hm1 := hm1.up hm (by omega)
  have hm2 := hm2.up hm (by omega)
  have hm3 := hm3.up hm (by omega)
  have hm4 := hm4.up hm (by omega)
  have hm5 := hm5.up hm (by omega)
  have hF := hF.tr (hm.fr (by omega) (by omega))
  refine lv_iinc (v := 6) (lv' := [(1, .int 6), (0, .ref b)]) hx hb dX4_init_34 hl (k := 0) rfl (by decide) (by decide) rfl (fun ls hl => ?_)
  refine lv_goto (tgt := 15) hx hb dX4_init_37 (by decide) ?_
  refine lv_iload_n hx hb dX4_init_15 rfl (lv_at hl 0 rfl) ?_
  refine lv_bipush (v := 9) hx hb dX4_init_16 (by decide) ?_
  refine lv_icmp_ge (tgt := 40) hx hb dX4_init_18 (by decide) (fun hcd => absurd hcd (by decide)) (fun _ => ?_)
  refine lv_aload_n hx hb dX4_init_21 rfl (lv_at hl 1 rfl) ?_
  refine mm_get hC hM (k := 0) hp rfl inAX4 (by decide) q1_169 rfl dX4_init_22 ?_
  refine lv_iload_n hx hb dX4_init_25 rfl (lv_at hl 0 rfl) ?_
  refine mm_new (a := b + 2 + 12 * 6) (fs := [.null, .null, .null, .null, .int 0]) (C := RX6) (T := TX6) (N := 5) (ci := 6) tyX6 hC hM (by omega) rfl inAX6 tyX6_ok q1_166 q1_42 q1_2 (fun j hj => by rcases (show j = 0 ∨ j = 1 ∨ j = 2 ∨ j = 3 ∨ j = 4 by omega) with rfl | rfl | rfl | rfl | rfl <;> rfl) (Nat.le_of_ble_eq_true rfl) (Nat.le_of_ble_eq_true rfl) dX4_init_26 (fun w21 H hM hm hz => ?_)
  have hnew := hm.1
  have hp := hm.keep hp (by omega)
  have hs := hm.keep hs (by omega)
  have hm0 := hm0.up hm (by omega)
  have hm1 := hm1.up hm (by omega)
  have hm2 := hm2.up hm (by omega)
  have hm3 := hm3.up hm (by omega)
  have hm4 := hm4.up hm (by omega)
  have hm5 := hm5.up hm (by omega)
  have hF := hF.tr (hm.fr (by omega) (by omega))
  refine lv_dup hx hb dX4_init_29 rfl ?_
  refine mm_INcN (rest := [.ref (b + 2 + 12 * 6), .int 6, .ref (b + 1)]) hC hM (c_X6_init l (b := b + 2 + 12 * 6) hz hnew) q1_45 q1_2 ykX6_init q1_168 q1_44 rfl ⟨rfl, rfl⟩ ⟨Nat.le_of_ble_eq_true rfl, Nat.le_of_ble_eq_true rfl⟩ rfl hl.1 rfl (Nat.le_of_ble_eq_true rfl) dX4_init_30 ⟨Nat.le_of_ble_eq_true rfl, Nat.le_of_ble_eq_true rfl⟩ (fun w22 H locs hM hz hw => ?_)
  obtain ⟨hm6, hfr⟩ := hw
  have hp := hfr.keep hp (by omega)
  have hs := hfr.keep hs (by omega)
  have hm0 := hm0.keep hfr (by omega)
  have hm1 := hm1.keep hfr (by omega)
  have hm2 := hm2.keep hfr (by omega)
  have hm3 := hm3.keep hfr (by omega)
  have hm4 := hm4.keep hfr (by omega)
  have hm5 := hm5.keep hfr (by omega)
  have hF := hF.tr (hfr.wide (by omega) (by omega))
  refine mm_aastS (N := 6) hC hM hs hm6.1 (by decide) (by unfold vp_in; decide) dX4_init_33 (fun w23 H1 locs hM hm hzz => ?_)
  have hz := hzz.trans hz
  have hs := hm.1
  have hp := hm.keep hp (by omega)
  have hm0 := hm0.up hm (by omega)
  have hm1 := hm1.up hm (by omega)
  have hm2 := hm2.up hm (by omega)
  have hm3 := hm3.up hm (by omega)
  have hm4 := hm4.up hm (by omega)
  have hm5 := hm5.up hm (by omega)
  have hm6 := hm6.up hm (by omega)
  have hF := hF.tr (hm.fr (by omega) (by omega))
  refine lv_iinc (v := 7) (lv' := [(1, .int 7), (0, .ref b)]) hx hb dX4_init_34 hl (k := 0) rfl (by decide) (by decide) rfl (fun ls hl => ?_)
  refine lv_goto (tgt := 15) hx hb dX4_init_37 (by decide) ?_
  refine lv_iload_n hx hb dX4_init_15 rfl (lv_at hl 0 rfl) ?_
  refine lv_bipush (v := 9) hx hb dX4_init_16 (by decide) ?_
  refine lv_icmp_ge (tgt := 40) hx hb dX4_init_18 (by decide) (fun hcd => absurd hcd (by decide)) (fun _ => ?_)
  refine lv_aload_n hx hb dX4_init_21 rfl (lv_at hl 1 rfl) ?_
  refine mm_get hC hM (k := 0) hp rfl inAX4 (by decide) q1_169 rfl dX4_init_22 ?_
  refine lv_iload_n hx hb dX4_init_25 rfl (lv_at hl 0 rfl) ?_
  refine mm_new (a := b + 2 + 12 * 7) (fs := [.null, .null, .null, .null, .int 0]) (C := RX6) (T := TX6) (N := 5) (ci := 6) tyX6 hC hM (by omega) rfl inAX6 tyX6_ok q1_166 q1_42 q1_2 (fun j hj => by rcases (show j = 0 ∨ j = 1 ∨ j = 2 ∨ j = 3 ∨ j = 4 by omega) with rfl | rfl | rfl | rfl | rfl <;> rfl) (Nat.le_of_ble_eq_true rfl) (Nat.le_of_ble_eq_true rfl) dX4_init_26 (fun w24 H hM hm hz => ?_)
  have hnew := hm.1
  have hp := hm.keep hp (by omega)
  have hs := hm.keep hs (by omega)
  have hm0 := hm0.up hm (by omega)
  have hm1 := hm1.up hm (by omega)
  have hm2 := hm2.up hm (by omega)
  have hm3 := hm3.up hm (by omega)
  have hm4 := hm4.up hm (by omega)
  have hm5 := hm5.up hm (by omega)
  have hm6 := hm6.up hm (by omega)
  have hF := hF.tr (hm.fr (by omega) (by omega))
  refine lv_dup hx hb dX4_init_29 rfl ?_
  refine mm_INcN (rest := [.ref (b + 2 + 12 * 7), .int 7, .ref (b + 1)]) hC hM (c_X6_init l (b := b + 2 + 12 * 7) hz hnew) q1_45 q1_2 ykX6_init q1_168 q1_44 rfl ⟨rfl, rfl⟩ ⟨Nat.le_of_ble_eq_true rfl, Nat.le_of_ble_eq_true rfl⟩ rfl hl.1 rfl (Nat.le_of_ble_eq_true rfl) dX4_init_30 ⟨Nat.le_of_ble_eq_true rfl, Nat.le_of_ble_eq_true rfl⟩ (fun w25 H locs hM hz hw => ?_)
  obtain ⟨hm7, hfr⟩ := hw
  have hp := hfr.keep hp (by omega)
  have hs := hfr.keep hs (by omega)
  have hm0 := hm0.keep hfr (by omega)
  have hm1 := hm1.keep hfr (by omega)
  have hm2 := hm2.keep hfr (by omega)
  have hm3 := hm3.keep hfr (by omega)
  have hm4 := hm4.keep hfr (by omega)
  have hm5 := hm5.keep hfr (by omega)
  have hm6 := hm6.keep hfr (by omega)
  have hF := hF.tr (hfr.wide (by omega) (by omega))
  refine mm_aastS (N := 7) hC hM hs hm7.1 (by decide) (by unfold vp_in; decide) dX4_init_33 (fun w26 H1 locs hM hm hzz => ?_)
  have hz := hzz.trans hz
  have hs := hm.1
  have hp := hm.keep hp (by omega)
  have hm0 := hm0.up hm (by omega)
  have hm1 := hm1.up hm (by omega)
  have hm2 := hm2.up hm (by omega)
  have hm3 := hm3.up hm (by omega)
  have hm4 := hm4.up hm (by omega)
  have hm5 := hm5.up hm (by omega)
  have hm6 := hm6.up hm (by omega)
  have hm7 := hm7.up hm (by omega)
  have hF := hF.tr (hm.fr (by omega) (by omega))
  refine lv_iinc (v := 8) (lv' := [(1, .int 8), (0, .ref b)]) hx hb dX4_init_34 hl (k := 0) rfl (by decide) (by decide) rfl (fun ls hl => ?_)
  refine lv_goto (tgt := 15) hx hb dX4_init_37 (by decide) ?_
  refine lv_iload_n hx hb dX4_init_15 rfl (lv_at hl 0 rfl) ?_
  refine lv_bipush (v := 9) hx hb dX4_init_16 (by decide) ?_
  refine lv_icmp_ge (tgt := 40) hx hb dX4_init_18 (by decide) (fun hcd => absurd hcd (by decide)) (fun _ => ?_)
  refine lv_aload_n hx hb dX4_init_21 rfl (lv_at hl 1 rfl) ?_
  refine mm_get hC hM (k := 0) hp rfl inAX4 (by decide) q1_169 rfl dX4_init_22 ?_
  refine lv_iload_n hx hb dX4_init_25 rfl (lv_at hl 0 rfl) ?_
  refine mm_new (a := b + 2 + 12 * 8) (fs := [.null, .null, .null, .null, .int 0]) (C := RX6) (T := TX6) (N := 5) (ci := 6) tyX6 hC hM (by omega) rfl inAX6 tyX6_ok q1_166 q1_42 q1_2 (fun j hj => by rcases (show j = 0 ∨ j = 1 ∨ j = 2 ∨ j = 3 ∨ j = 4 by omega) with rfl | rfl | rfl | rfl | rfl <;> rfl) (Nat.le_of_ble_eq_true rfl) (Nat.le_of_ble_eq_true rfl) dX4_init_26 (fun w27 H hM hm hz => ?_)
  have hnew := hm.1
  have hp := hm.keep hp (by omega)
  have hs := hm.keep hs (by omega)
  have hm0 := hm0.up hm (by omega)
  have hm1 := hm1.up hm (by omega)
  have hm2 := hm2.up hm (by omega)
  have hm3 := hm3.up hm (by omega)
  have hm4 := hm4.up hm (by omega)
  have hm5 := hm5.up hm (by omega)
  have hm6 := hm6.up hm (by omega)
  have hm7 := hm7.up hm (by omega)
  have hF := hF.tr (hm.fr (by omega) (by omega))
  refine lv_dup hx hb dX4_init_29 rfl ?_
  refine mm_INcN (rest := [.ref (b + 2 + 12 * 8), .int 8, .ref (b + 1)]) hC hM (c_X6_init l (b := b + 2 + 12 * 8) hz hnew) q1_45 q1_2 ykX6_init q1_168 q1_44 rfl ⟨rfl, rfl⟩ ⟨Nat.le_of_ble_eq_true rfl, Nat.le_of_ble_eq_true rfl⟩ rfl hl.1 rfl (Nat.le_of_ble_eq_true rfl) dX4_init_30 ⟨Nat.le_of_ble_eq_true rfl, Nat.le_of_ble_eq_true rfl⟩ (fun w28 H locs hM hz hw => ?_)
  obtain ⟨hm8, hfr⟩ := hw
  have hp := hfr.keep hp (by omega)
  have hs := hfr.keep hs (by omega)
  have hm0 := hm0.keep hfr (by omega)
  have hm1 := hm1.keep hfr (by omega)
  have hm2 := hm2.keep hfr (by omega)
  have hm3 := hm3.keep hfr (by omega)
  have hm4 := hm4.keep hfr (by omega)
  have hm5 := hm5.keep hfr (by omega)
  have hm6 := hm6.keep hfr (by omega)
  have hm7 := hm7.keep hfr (by omega)
  have hF := hF.tr (hfr.wide (by omega) (by omega))
  refine mm_aastS (N := 8) hC hM hs hm8.1 (by decide) (by unfold vp_in; decide) dX4_init_33 (fun w29 H1 locs hM hm hzz => ?_)
  have hz := hzz.trans hz
  have hs := hm.1
  have hp := hm.keep hp (by omega)
  have hm0 := hm0.up hm (by omega)
  have hm1 := hm1.up hm (by omega)
  have hm2 := hm2.up hm (by omega)
  have hm3 := hm3.up hm (by omega)
  have hm4 := hm4.up hm (by omega)
  have hm5 := hm5.up hm (by omega)
  have hm6 := hm6.up hm (by omega)
  have hm7 := hm7.up hm (by omega)
  have hm8 := hm8.up hm (by omega)
  have hF := hF.tr (hm.fr (by omega) (by omega))
  refine lv_iinc (v := 9) (lv' := [(1, .int 9), (0, .ref b)]) hx hb dX4_init_34 hl (k := 0) rfl (by decide) (by decide) rfl (fun ls hl => ?_)
  refine lv_goto (tgt := 15) hx hb dX4_init_37 (by decide) ?_
  refine lv_iload_n hx hb dX4_init_15 rfl (lv_at hl 0 rfl) ?_
  refine lv_bipush (v := 9) hx hb dX4_init_16 (by decide) ?_
  refine lv_icmp_ge (tgt := 40) hx hb dX4_init_18 (by decide) (fun _ => ?_) (fun hcd => absurd (by decide) hcd)
  have hs2 : (b + 1, (.inl (G.2 2, 9, .inr (.inr (.inr (.inr (fun j => if j < 9 then some (b + 2 + 12 * j) else none))))) : va_E)) ∈ w29 := by
    exact mm_arrq hs (mm_slotsq b)
  exact hret hM dX4_init_40 (by omega) ⟨⟨hp, hs2, fun j hj => by rcases (show j = 0 ∨ j = 1 ∨ j = 2 ∨ j = 3 ∨ j = 4 ∨ j = 5 ∨ j = 6 ∨ j = 7 ∨ j = 8 by omega) with rfl | rfl | rfl | rfl | rfl | rfl | rfl | rfl | rfl; exact hm0; exact hm1; exact hm2; exact hm3; exact hm4; exact hm5; exact hm6; exact hm7; exact hm8⟩, hF⟩
set_option maxHeartbeats 8000000 in
set_option maxRecDepth 100000 in
theorem c_X12_init (l : Launch) {G : mm_G} {w : va_W} {sz b : Nat} (hb0 : sz = b + 1) (hp : (b, (.inr (12, [.null, .null, .null, .null, .null, .null, .null, .null, .null, .int 0, .int 0, .int 0]) : va_E)) ∈ w) : Met l yX12_init (Cond.code yX12_init cX12_init 1 none :: gAll) ({ frames := 4, cells := 151, slots := 3973, locals := 101 }) (va_Pc [.ref b] (mm_Pre G w sz)) (mm_QN G w sz (b + 152) (fun w' => At12 G w' b (fun _ => 0) 0 0 (fun _ => 0) (fun _ => 0) (fun _ => 0) 0 0 0 0 0 (fun _ => 0) (fun _ => 0) (fun _ => 0) 0 0 (fun _ => 0) 0 0 (fun _ => 0) (fun _ => 0) (fun _ => 0) 0 0 0 0 0 (fun _ => 0) (fun _ => 0) (fun _ => 0) 0 0 (fun _ => mm_MV0) 0 0 (fun _ => 0) (fun _ => 0) (fun _ => 0) 0 (fun _ => 0) (fun _ => 0) (fun _ => 0) (fun _ => 0) (fun _ => 0) (fun _ => 0) 0 (fun _ => 0) 0 (fun _ => 0) 0 (fun _ => 0) 0 (-1) (-1) ∧ mm_fr w w' b (b + 152))) 151 3973 (va_A w sz) := by
  refine mm_headN [.ref b] (by decide +kernel) rfl (Nat.le_of_ble_eq_true rfl) ?_
  intro p e s m args below meth c A Q hsz hC hM hret hnm ls hl
  have hx := hC.1.1
  have hb := hC.1.2.1
  have hl : lv_has ls 1 [(0, .ref b)] := hl
  have hF : mm_fr w w b (b + 152) := mm_fr.rf
  have hz : s.heap.size = b + 1 := hsz.trans hb0
  refine lv_aload_n hx hb dX12_init_0 rfl (lv_at hl 0 rfl) ?_
  refine mm_obj hC hl.1 q1_38 q1_39 q1_40 dX12_init_1 (Nat.le_of_ble_eq_true rfl) (Nat.le_of_ble_eq_true rfl) ?_
  refine lv_aload_n hx hb dX12_init_4 rfl (lv_at hl 0 rfl) ?_
  refine mm_new (a := b + 1) (fs := [.null, .null, .null, .null, .int 0]) (C := RX6) (T := TX6) (N := 5) (ci := 6) tyX6 hC hM (by omega) rfl inAX6 tyX6_ok q1_41 q1_42 q1_2 (fun j hj => by rcases (show j = 0 ∨ j = 1 ∨ j = 2 ∨ j = 3 ∨ j = 4 by omega) with rfl | rfl | rfl | rfl | rfl <;> rfl) (Nat.le_of_ble_eq_true rfl) (Nat.le_of_ble_eq_true rfl) dX12_init_5 (fun w1 H hM hm hz => ?_)
  have hp := hm.keep hp (by omega)
  have hF := hF.tr (hm.fr (by omega) (by omega))
  have hnew := hm.1
  refine lv_dup hx hb dX12_init_8 rfl ?_
  refine mm_INcN (rest := [.ref (b + 1), .ref b]) hC hM (c_X6_init l (b := b + 1) hz hnew) q1_45 q1_2 ykX6_init q1_43 q1_44 rfl ⟨rfl, rfl⟩ ⟨Nat.le_of_ble_eq_true rfl, Nat.le_of_ble_eq_true rfl⟩ rfl hl.1 rfl (Nat.le_of_ble_eq_true rfl) dX12_init_9 ⟨Nat.le_of_ble_eq_true rfl, Nat.le_of_ble_eq_true rfl⟩ (fun w2 H locs hM hz hw => ?_)
  obtain ⟨ha1, hfr⟩ := hw
  have hp := hfr.keep hp (by omega)
  have hF := hF.tr (hfr.wide (by omega) (by omega))
  refine mm_putFN hC hM (k := 0) tyX12 hp rfl inAX12 tyX12_ok nmX12 (by decide) q2_16 rfl hnm rfl rfl rfl rfl (Nat.le_of_ble_eq_true rfl) dX12_init_12 (fun w3 H1 locs hM hm hzz => ?_)
  have hz := hzz.trans hz
  have hp := hm.1
  have ha1 := ha1.up hm (by omega)
  have hF := hF.tr (hm.fr (by omega) (by omega))
  refine lv_aload_n hx hb dX12_init_15 rfl (lv_at hl 0 rfl) ?_
  refine mm_new (a := b + 13) (fs := [.null, .null, .null, .null, .int 0]) (C := RX6) (T := TX6) (N := 5) (ci := 6) tyX6 hC hM (by omega) rfl inAX6 tyX6_ok q1_41 q1_42 q1_2 (fun j hj => by rcases (show j = 0 ∨ j = 1 ∨ j = 2 ∨ j = 3 ∨ j = 4 by omega) with rfl | rfl | rfl | rfl | rfl <;> rfl) (Nat.le_of_ble_eq_true rfl) (Nat.le_of_ble_eq_true rfl) dX12_init_16 (fun w4 H hM hm hz => ?_)
  have hp := hm.keep hp (by omega)
  have ha1 := ha1.up hm (by omega)
  have hF := hF.tr (hm.fr (by omega) (by omega))
  have hnew := hm.1
  refine lv_dup hx hb dX12_init_19 rfl ?_
  refine mm_INcN (rest := [.ref (b + 13), .ref b]) hC hM (c_X6_init l (b := b + 13) hz hnew) q1_45 q1_2 ykX6_init q1_43 q1_44 rfl ⟨rfl, rfl⟩ ⟨Nat.le_of_ble_eq_true rfl, Nat.le_of_ble_eq_true rfl⟩ rfl hl.1 rfl (Nat.le_of_ble_eq_true rfl) dX12_init_20 ⟨Nat.le_of_ble_eq_true rfl, Nat.le_of_ble_eq_true rfl⟩ (fun w5 H locs hM hz hw => ?_)
  obtain ⟨ha13, hfr⟩ := hw
  have hp := hfr.keep hp (by omega)
  have ha1 := ha1.keep hfr (by omega)
  have hF := hF.tr (hfr.wide (by omega) (by omega))
  refine mm_putFN hC hM (k := 1) tyX12 hp rfl inAX12 tyX12_ok nmX12 (by decide) q2_17 rfl hnm rfl rfl rfl rfl (Nat.le_of_ble_eq_true rfl) dX12_init_23 (fun w6 H1 locs hM hm hzz => ?_)
  have hz := hzz.trans hz
  have hp := hm.1
  have ha1 := ha1.up hm (by omega)
  have ha13 := ha13.up hm (by omega)
  have hF := hF.tr (hm.fr (by omega) (by omega))
  refine lv_aload_n hx hb dX12_init_26 rfl (lv_at hl 0 rfl) ?_
  refine mm_new (a := b + 25) (fs := [.null, .int 0, .int 0]) (C := RX4) (T := TX4) (N := 3) (ci := 4) tyX4 hC hM (by omega) rfl inAX4 tyX4_ok q1_160 q1_161 q1_7 (fun j hj => by rcases (show j = 0 ∨ j = 1 ∨ j = 2 by omega) with rfl | rfl | rfl <;> rfl) (Nat.le_of_ble_eq_true rfl) (Nat.le_of_ble_eq_true rfl) dX12_init_27 (fun w7 H hM hm hz => ?_)
  have hp := hm.keep hp (by omega)
  have ha1 := ha1.up hm (by omega)
  have ha13 := ha13.up hm (by omega)
  have hF := hF.tr (hm.fr (by omega) (by omega))
  have hnew := hm.1
  refine lv_dup hx hb dX12_init_30 rfl ?_
  refine mm_IcN (rest := [.ref (b + 25), .ref b]) hC hM (c_X4_init l (b := b + 25) hz hnew) q1_164 q1_7 ykX4_init q1_162 q1_163 rfl ⟨rfl, rfl⟩ ⟨Nat.le_of_ble_eq_true rfl, Nat.le_of_ble_eq_true rfl⟩ rfl hl.1 rfl (Nat.le_of_ble_eq_true rfl) dX12_init_31 ⟨Nat.le_of_ble_eq_true rfl, Nat.le_of_ble_eq_true rfl⟩ (fun w8 H locs hM hz hw => ?_)
  obtain ⟨ha25, hfr⟩ := hw
  have hp := hfr.keep hp (by omega)
  have ha1 := ha1.keep hfr (by omega)
  have ha13 := ha13.keep hfr (by omega)
  have hF := hF.tr (hfr.wide (by omega) (by omega))
  refine mm_putFN hC hM (k := 2) tyX12 hp rfl inAX12 tyX12_ok nmX12 (by decide) q2_18 rfl hnm rfl rfl rfl rfl (Nat.le_of_ble_eq_true rfl) dX12_init_34 (fun w9 H1 locs hM hm hzz => ?_)
  have hz := hzz.trans hz
  have hp := hm.1
  have ha1 := ha1.up hm (by omega)
  have ha13 := ha13.up hm (by omega)
  have ha25 := ha25.up hm (by omega)
  have hF := hF.tr (hm.fr (by omega) (by omega))
  refine lv_aload_n hx hb dX12_init_37 rfl (lv_at hl 0 rfl) ?_
  refine mm_new (a := b + 135) (fs := [.null, .null, .null, .int 0, .null, .null]) (C := RX11) (T := TX11) (N := 6) (ci := 11) tyX11 hC hM (by omega) rfl inAX11 tyX11_ok q1_180 q1_181 q1_8 (fun j hj => by rcases (show j = 0 ∨ j = 1 ∨ j = 2 ∨ j = 3 ∨ j = 4 ∨ j = 5 by omega) with rfl | rfl | rfl | rfl | rfl | rfl <;> rfl) (Nat.le_of_ble_eq_true rfl) (Nat.le_of_ble_eq_true rfl) dX12_init_38 (fun w10 H hM hm hz => ?_)
  have hp := hm.keep hp (by omega)
  have ha1 := ha1.up hm (by omega)
  have ha13 := ha13.up hm (by omega)
  have ha25 := ha25.up hm (by omega)
  have hF := hF.tr (hm.fr (by omega) (by omega))
  have hnew := hm.1
  refine lv_dup hx hb dX12_init_41 rfl ?_
  refine mm_INcN (rest := [.ref (b + 135), .ref b]) hC hM (c_X11_init l (b := b + 135) hz hnew) q1_184 q1_8 ykX11_init q1_182 q1_183 rfl ⟨rfl, rfl⟩ ⟨Nat.le_of_ble_eq_true rfl, Nat.le_of_ble_eq_true rfl⟩ rfl hl.1 rfl (Nat.le_of_ble_eq_true rfl) dX12_init_42 ⟨Nat.le_of_ble_eq_true rfl, Nat.le_of_ble_eq_true rfl⟩ (fun w11 H locs hM hz hw => ?_)
  obtain ⟨ha135, hfr⟩ := hw
  have hp := hfr.keep hp (by omega)
  have ha1 := ha1.keep hfr (by omega)
  have ha13 := ha13.keep hfr (by omega)
  have ha25 := ha25.keep hfr (by omega)
  have hF := hF.tr (hfr.wide (by omega) (by omega))
  refine mm_putFN hC hM (k := 3) tyX12 hp rfl inAX12 tyX12_ok nmX12 (by decide) q2_19 rfl hnm rfl rfl rfl rfl (Nat.le_of_ble_eq_true rfl) dX12_init_45 (fun w12 H1 locs hM hm hzz => ?_)
  have hz := hzz.trans hz
  have hp := hm.1
  have ha1 := ha1.up hm (by omega)
  have ha13 := ha13.up hm (by omega)
  have ha25 := ha25.up hm (by omega)
  have ha135 := ha135.up hm (by omega)
  have hF := hF.tr (hm.fr (by omega) (by omega))
  refine lv_aload_n hx hb dX12_init_48 rfl (lv_at hl 0 rfl) ?_
  refine mm_new (a := b + 141) (fs := [.null, .null]) (C := RX7) (T := TX7) (N := 2) (ci := 7) tyX7 hC hM (by omega) rfl inAX7 tyX7_ok q1_208 q1_209 q1_9 (fun j hj => by rcases (show j = 0 ∨ j = 1 by omega) with rfl | rfl <;> rfl) (Nat.le_of_ble_eq_true rfl) (Nat.le_of_ble_eq_true rfl) dX12_init_49 (fun w13 H hM hm hz => ?_)
  have hp := hm.keep hp (by omega)
  have ha1 := ha1.up hm (by omega)
  have ha13 := ha13.up hm (by omega)
  have ha25 := ha25.up hm (by omega)
  have ha135 := ha135.up hm (by omega)
  have hF := hF.tr (hm.fr (by omega) (by omega))
  have hnew := hm.1
  refine lv_dup hx hb dX12_init_52 rfl ?_
  refine mm_INcN (rest := [.ref (b + 141), .ref b]) hC hM (c_X7_init l (b := b + 141) hz hnew) q1_212 q1_9 ykX7_init q1_210 q1_211 rfl ⟨rfl, rfl⟩ ⟨Nat.le_of_ble_eq_true rfl, Nat.le_of_ble_eq_true rfl⟩ rfl hl.1 rfl (Nat.le_of_ble_eq_true rfl) dX12_init_53 ⟨Nat.le_of_ble_eq_true rfl, Nat.le_of_ble_eq_true rfl⟩ (fun w14 H locs hM hz hw => ?_)
  obtain ⟨ha141, hfr⟩ := hw
  have hp := hfr.keep hp (by omega)
  have ha1 := ha1.keep hfr (by omega)
  have ha13 := ha13.keep hfr (by omega)
  have ha25 := ha25.keep hfr (by omega)
  have ha135 := ha135.keep hfr (by omega)
  have hF := hF.tr (hfr.wide (by omega) (by omega))
  refine mm_putFN hC hM (k := 4) tyX12 hp rfl inAX12 tyX12_ok nmX12 (by decide) q2_20 rfl hnm rfl rfl rfl rfl (Nat.le_of_ble_eq_true rfl) dX12_init_56 (fun w15 H1 locs hM hm hzz => ?_)
  have hz := hzz.trans hz
  have hp := hm.1
  have ha1 := ha1.up hm (by omega)
  have ha13 := ha13.up hm (by omega)
  have ha25 := ha25.up hm (by omega)
  have ha135 := ha135.up hm (by omega)
  have ha141 := ha141.up hm (by omega)
  have hF := hF.tr (hm.fr (by omega) (by omega))
  refine lv_aload_n hx hb dX12_init_59 rfl (lv_at hl 0 rfl) ?_
  refine mm_new (a := b + 144) (fs := [.null, .null, .int 0]) (C := RX2) (T := TX2) (N := 3) (ci := 2) tyX2 hC hM (by omega) rfl inAX2 tyX2_ok q1_221 q1_222 q1_10 (fun j hj => by rcases (show j = 0 ∨ j = 1 ∨ j = 2 by omega) with rfl | rfl | rfl <;> rfl) (Nat.le_of_ble_eq_true rfl) (Nat.le_of_ble_eq_true rfl) dX12_init_60 (fun w16 H hM hm hz => ?_)
  have hp := hm.keep hp (by omega)
  have ha1 := ha1.up hm (by omega)
  have ha13 := ha13.up hm (by omega)
  have ha25 := ha25.up hm (by omega)
  have ha135 := ha135.up hm (by omega)
  have ha141 := ha141.up hm (by omega)
  have hF := hF.tr (hm.fr (by omega) (by omega))
  have hnew := hm.1
  refine lv_dup hx hb dX12_init_63 rfl ?_
  refine mm_INcN (rest := [.ref (b + 144), .ref b]) hC hM (c_X2_init l (b := b + 144) hz hnew) q1_225 q1_10 ykX2_init q1_223 q1_224 rfl ⟨rfl, rfl⟩ ⟨Nat.le_of_ble_eq_true rfl, Nat.le_of_ble_eq_true rfl⟩ rfl hl.1 rfl (Nat.le_of_ble_eq_true rfl) dX12_init_64 ⟨Nat.le_of_ble_eq_true rfl, Nat.le_of_ble_eq_true rfl⟩ (fun w17 H locs hM hz hw => ?_)
  obtain ⟨ha144, hfr⟩ := hw
  have hp := hfr.keep hp (by omega)
  have ha1 := ha1.keep hfr (by omega)
  have ha13 := ha13.keep hfr (by omega)
  have ha25 := ha25.keep hfr (by omega)
  have ha135 := ha135.keep hfr (by omega)
  have ha141 := ha141.keep hfr (by omega)
  have hF := hF.tr (hfr.wide (by omega) (by omega))
  refine mm_putFN hC hM (k := 5) tyX12 hp rfl inAX12 tyX12_ok nmX12 (by decide) q2_21 rfl hnm rfl rfl rfl rfl (Nat.le_of_ble_eq_true rfl) dX12_init_67 (fun w18 H1 locs hM hm hzz => ?_)
  have hz := hzz.trans hz
  have hp := hm.1
  have ha1 := ha1.up hm (by omega)
  have ha13 := ha13.up hm (by omega)
  have ha25 := ha25.up hm (by omega)
  have ha135 := ha135.up hm (by omega)
  have ha141 := ha141.up hm (by omega)
  have ha144 := ha144.up hm (by omega)
  have hF := hF.tr (hm.fr (by omega) (by omega))
  refine lv_aload_n hx hb dX12_init_70 rfl (lv_at hl 0 rfl) ?_
  refine mm_new (a := b + 147) (fs := [.null, .int 0]) (C := RX10) (T := TX10) (N := 2) (ci := 10) tyX10 hC hM (by omega) rfl inAX10 tyX10_ok q2_0 q2_1 q1_11 (fun j hj => by rcases (show j = 0 ∨ j = 1 by omega) with rfl | rfl <;> rfl) (Nat.le_of_ble_eq_true rfl) (Nat.le_of_ble_eq_true rfl) dX12_init_71 (fun w19 H hM hm hz => ?_)
  have hp := hm.keep hp (by omega)
  have ha1 := ha1.up hm (by omega)
  have ha13 := ha13.up hm (by omega)
  have ha25 := ha25.up hm (by omega)
  have ha135 := ha135.up hm (by omega)
  have ha141 := ha141.up hm (by omega)
  have ha144 := ha144.up hm (by omega)
  have hF := hF.tr (hm.fr (by omega) (by omega))
  have hnew := hm.1
  refine lv_dup hx hb dX12_init_74 rfl ?_
  refine mm_INcN (rest := [.ref (b + 147), .ref b]) hC hM (c_X10_init l (b := b + 147) hz hnew) q2_4 q1_11 ykX10_init q2_2 q2_3 rfl ⟨rfl, rfl⟩ ⟨Nat.le_of_ble_eq_true rfl, Nat.le_of_ble_eq_true rfl⟩ rfl hl.1 rfl (Nat.le_of_ble_eq_true rfl) dX12_init_75 ⟨Nat.le_of_ble_eq_true rfl, Nat.le_of_ble_eq_true rfl⟩ (fun w20 H locs hM hz hw => ?_)
  obtain ⟨ha147, hfr⟩ := hw
  have hp := hfr.keep hp (by omega)
  have ha1 := ha1.keep hfr (by omega)
  have ha13 := ha13.keep hfr (by omega)
  have ha25 := ha25.keep hfr (by omega)
  have ha135 := ha135.keep hfr (by omega)
  have ha141 := ha141.keep hfr (by omega)
  have ha144 := ha144.keep hfr (by omega)
  have hF := hF.tr (hfr.wide (by omega) (by omega))
  refine mm_putFN hC hM (k := 6) tyX12 hp rfl inAX12 tyX12_ok nmX12 (by decide) q2_22 rfl hnm rfl rfl rfl rfl (Nat.le_of_ble_eq_true rfl) dX12_init_78 (fun w21 H1 locs hM hm hzz => ?_)
  have hz := hzz.trans hz
  have hp := hm.1
  have ha1 := ha1.up hm (by omega)
  have ha13 := ha13.up hm (by omega)
  have ha25 := ha25.up hm (by omega)
  have ha135 := ha135.up hm (by omega)
  have ha141 := ha141.up hm (by omega)
  have ha144 := ha144.up hm (by omega)
  have ha147 := ha147.up hm (by omega)
  have hF := hF.tr (hm.fr (by omega) (by omega))
  refine lv_aload_n hx hb dX12_init_81 rfl (lv_at hl 0 rfl) ?_
  refine mm_new (a := b + 149) (fs := [.null, .int 0]) (C := RX10) (T := TX10) (N := 2) (ci := 10) tyX10 hC hM (by omega) rfl inAX10 tyX10_ok q2_0 q2_1 q1_11 (fun j hj => by rcases (show j = 0 ∨ j = 1 by omega) with rfl | rfl <;> rfl) (Nat.le_of_ble_eq_true rfl) (Nat.le_of_ble_eq_true rfl) dX12_init_82 (fun w22 H hM hm hz => ?_)
  have hp := hm.keep hp (by omega)
  have ha1 := ha1.up hm (by omega)
  have ha13 := ha13.up hm (by omega)
  have ha25 := ha25.up hm (by omega)
  have ha135 := ha135.up hm (by omega)
  have ha141 := ha141.up hm (by omega)
  have ha144 := ha144.up hm (by omega)
  have ha147 := ha147.up hm (by omega)
  have hF := hF.tr (hm.fr (by omega) (by omega))
  have hnew := hm.1
  refine lv_dup hx hb dX12_init_85 rfl ?_
  refine mm_INcN (rest := [.ref (b + 149), .ref b]) hC hM (c_X10_init l (b := b + 149) hz hnew) q2_4 q1_11 ykX10_init q2_2 q2_3 rfl ⟨rfl, rfl⟩ ⟨Nat.le_of_ble_eq_true rfl, Nat.le_of_ble_eq_true rfl⟩ rfl hl.1 rfl (Nat.le_of_ble_eq_true rfl) dX12_init_86 ⟨Nat.le_of_ble_eq_true rfl, Nat.le_of_ble_eq_true rfl⟩ (fun w23 H locs hM hz hw => ?_)
  obtain ⟨ha149, hfr⟩ := hw
  have hp := hfr.keep hp (by omega)
  have ha1 := ha1.keep hfr (by omega)
  have ha13 := ha13.keep hfr (by omega)
  have ha25 := ha25.keep hfr (by omega)
  have ha135 := ha135.keep hfr (by omega)
  have ha141 := ha141.keep hfr (by omega)
  have ha144 := ha144.keep hfr (by omega)
  have ha147 := ha147.keep hfr (by omega)
  have hF := hF.tr (hfr.wide (by omega) (by omega))
  refine mm_putFN hC hM (k := 7) tyX12 hp rfl inAX12 tyX12_ok nmX12 (by decide) q2_23 rfl hnm rfl rfl rfl rfl (Nat.le_of_ble_eq_true rfl) dX12_init_89 (fun w24 H1 locs hM hm hzz => ?_)
  have hz := hzz.trans hz
  have hp := hm.1
  have ha1 := ha1.up hm (by omega)
  have ha13 := ha13.up hm (by omega)
  have ha25 := ha25.up hm (by omega)
  have ha135 := ha135.up hm (by omega)
  have ha141 := ha141.up hm (by omega)
  have ha144 := ha144.up hm (by omega)
  have ha147 := ha147.up hm (by omega)
  have ha149 := ha149.up hm (by omega)
  have hF := hF.tr (hm.fr (by omega) (by omega))
  refine lv_aload_n hx hb dX12_init_92 rfl (lv_at hl 0 rfl) ?_
  refine lv_bipush (v := 20) hx hb dX12_init_93 (by decide) ?_
  refine mm_newi (a := b + 151) (N := 20) hC hM (by omega) q1_66 (by decide) (by decide) (by decide) (Nat.le_of_ble_eq_true rfl) (Nat.le_of_ble_eq_true rfl) dX12_init_95 (fun w25 H hM hm hz => ?_)
  have hp := hm.keep hp (by omega)
  have ha1 := ha1.up hm (by omega)
  have ha13 := ha13.up hm (by omega)
  have ha25 := ha25.up hm (by omega)
  have ha135 := ha135.up hm (by omega)
  have ha141 := ha141.up hm (by omega)
  have ha144 := ha144.up hm (by omega)
  have ha147 := ha147.up hm (by omega)
  have ha149 := ha149.up hm (by omega)
  have hF := hF.tr (hm.fr (by omega) (by omega))
  have ha151 := hm.1
  refine mm_putFN hC hM (k := 8) tyX12 hp rfl inAX12 tyX12_ok nmX12 (by decide) q2_24 rfl hnm rfl rfl rfl rfl (Nat.le_of_ble_eq_true rfl) dX12_init_97 (fun w26 H1 locs hM hm hzz => ?_)
  have hz := hzz.trans hz
  have hp := hm.1
  have ha1 := ha1.up hm (by omega)
  have ha13 := ha13.up hm (by omega)
  have ha25 := ha25.up hm (by omega)
  have ha135 := ha135.up hm (by omega)
  have ha141 := ha141.up hm (by omega)
  have ha144 := ha144.up hm (by omega)
  have ha147 := ha147.up hm (by omega)
  have ha149 := ha149.up hm (by omega)
  have ha151 := hm.keep ha151 (by omega)
  have hF := hF.tr (hm.fr (by omega) (by omega))
  refine lv_aload_n hx hb dX12_init_100 rfl (lv_at hl 0 rfl) ?_
  refine lv_iconst (v := 0) hx hb dX12_init_101 (by decide) ?_
  refine mm_putN hC hM (k := 9) tyX12 hp rfl inAX12 tyX12_ok nmX12 (by decide) q2_25 rfl rfl rfl rfl (Nat.le_of_ble_eq_true rfl) dX12_init_102 (fun w27 H1 locs hM hm hzz => ?_)
  have hz := hzz.trans hz
  have hp := hm.1
  have ha1 := ha1.up hm (by omega)
  have ha13 := ha13.up hm (by omega)
  have ha25 := ha25.up hm (by omega)
  have ha135 := ha135.up hm (by omega)
  have ha141 := ha141.up hm (by omega)
  have ha144 := ha144.up hm (by omega)
  have ha147 := ha147.up hm (by omega)
  have ha149 := ha149.up hm (by omega)
  have ha151 := hm.keep ha151 (by omega)
  have hF := hF.tr (hm.fr (by omega) (by omega))
  refine lv_aload_n hx hb dX12_init_105 rfl (lv_at hl 0 rfl) ?_
  refine lv_iconst (v := (-1)) hx hb dX12_init_106 (by decide) ?_
  refine mm_putN hC hM (k := 10) tyX12 hp rfl inAX12 tyX12_ok nmX12 (by decide) q2_26 rfl rfl rfl rfl (Nat.le_of_ble_eq_true rfl) dX12_init_107 (fun w28 H1 locs hM hm hzz => ?_)
  have hz := hzz.trans hz
  have hp := hm.1
  have ha1 := ha1.up hm (by omega)
  have ha13 := ha13.up hm (by omega)
  have ha25 := ha25.up hm (by omega)
  have ha135 := ha135.up hm (by omega)
  have ha141 := ha141.up hm (by omega)
  have ha144 := ha144.up hm (by omega)
  have ha147 := ha147.up hm (by omega)
  have ha149 := ha149.up hm (by omega)
  have ha151 := hm.keep ha151 (by omega)
  have hF := hF.tr (hm.fr (by omega) (by omega))
  refine lv_aload_n hx hb dX12_init_110 rfl (lv_at hl 0 rfl) ?_
  refine lv_iconst (v := (-1)) hx hb dX12_init_111 (by decide) ?_
  refine mm_putN hC hM (k := 11) tyX12 hp rfl inAX12 tyX12_ok nmX12 (by decide) q2_27 rfl rfl rfl rfl (Nat.le_of_ble_eq_true rfl) dX12_init_112 (fun w29 H1 locs hM hm hzz => ?_)
  have hz := hzz.trans hz
  have hp := hm.1
  have ha1 := ha1.up hm (by omega)
  have ha13 := ha13.up hm (by omega)
  have ha25 := ha25.up hm (by omega)
  have ha135 := ha135.up hm (by omega)
  have ha141 := ha141.up hm (by omega)
  have ha144 := ha144.up hm (by omega)
  have ha147 := ha147.up hm (by omega)
  have ha149 := ha149.up hm (by omega)
  have ha151 := hm.keep ha151 (by omega)
  have hF := hF.tr (hm.fr (by omega) (by omega))
  exact hret hM dX12_init_115 (by omega) ⟨⟨hp, ha1, ha13, ha25, ha135, ha141, ha144, ha147, ha149, ha151⟩, hF⟩
set_option maxRecDepth 20000 in
def mm_arr_X13_words : Nat → Int32 := (upd (upd (upd (upd (upd (upd (upd (upd (upd (upd (upd (upd (upd (upd (upd (upd (upd (upd (upd (upd (upd (upd (upd (upd (upd (upd (upd (upd (upd (upd (upd (upd (upd (upd (upd (upd (upd (upd (upd (upd (upd (upd (upd (upd (upd (upd (upd (upd (upd (upd (upd (upd (upd (upd (upd (upd (upd (upd (upd (upd (upd (fun _ => 0) 0 114) 1 101) 2 101) 3 100) 4 32) 5 98) 6 114) 7 101) 8 97) 9 107) 10 32) 11 98) 12 111) 13 97) 14 116) 15 32) 16 112) 17 108) 18 97) 19 110) 20 32) 21 109) 22 105) 23 114) 24 114) 25 111) 26 114) 27 32) 28 98) 29 97) 30 99) 31 107) 32 32) 33 114) 34 101) 35 100) 36 117) 37 99) 38 101) 39 32) 40 115) 41 97) 42 105) 43 108) 44 32) 45 119) 46 97) 47 121) 48 32) 49 108) 50 97) 51 110) 52 100) 53 105) 54 110) 55 103) 56 32) 57 102) 58 111) 59 103) 60 32)
set_option maxRecDepth 20000 in
def mm_arr_X13_wordAt : Nat → Int32 := (upd (upd (upd (upd (upd (upd (upd (upd (upd (upd (upd (upd (fun _ => 0) 0 0) 1 5) 2 11) 3 16) 4 21) 5 28) 6 33) 7 40) 8 45) 9 49) 10 57) 11 61)
set_option maxHeartbeats 8000000 in
set_option maxRecDepth 100000 in
theorem c_X13_init (l : Launch) {G : mm_G} {w : va_W} {sz b : Nat} (hb0 : sz = b + 1) (hp : (b, (.inr (13, [.int 0, .int 0, .int 0, .int 0, .int 0, .null, .null, .null, .null, .null, .null, .null, .int 0, .int 0, .int 0, .null, .null, .null, .null, .null, .int 0, .int 0, .int 0, .int 0, .int 0, .int 0]) : va_E)) ∈ w) : Met l yX13_init (Cond.code yX13_init cX13_init 1 none :: gAll) ({ frames := 1, cells := 12, slots := 3209, locals := 40 }) (va_Pc [.ref b] (mm_Pre G w sz)) (mm_QN G w sz (b + 13) (fun w' => At13 G w' b 0 0 (-1) (-1) 0 (fun _ => 0) (fun _ => 0) (fun _ => 0) (fun _ => 0) (fun _ => 0) (fun _ => 0) (fun _ => 0) 0 0 0 (fun _ => 0) (fun _ => 0) (fun _ => 0) mm_arr_X13_words mm_arr_X13_wordAt 0 0 0 0 0 0 ∧ mm_fr w w' b (b + 13))) 12 3209 (va_A w sz) := by
  refine mm_headN [.ref b] (by decide +kernel) rfl (Nat.le_of_ble_eq_true rfl) ?_
  intro p e s m args below meth c A Q hsz hC hM hret hnm ls hl
  have hx := hC.1.1
  have hb := hC.1.2.1
  have hl : lv_has ls 1 [(0, .ref b)] := hl
  have hF : mm_fr w w b (b + 13) := mm_fr.rf
  have hz : s.heap.size = b + 1 := hsz.trans hb0
  refine lv_aload_n hx hb dX13_init_0 rfl (lv_at hl 0 rfl) ?_
  refine mm_obj hC hl.1 q7_4 q1_39 q1_40 dX13_init_1 (Nat.le_of_ble_eq_true rfl) (Nat.le_of_ble_eq_true rfl) ?_
  refine lv_aload_n hx hb dX13_init_4 rfl (lv_at hl 0 rfl) ?_
  refine lv_iconst (v := (-1)) hx hb dX13_init_5 (by decide) ?_
  refine mm_putN hC hM (k := 2) tyX13 hp rfl inAX13 tyX13_ok nmX13 (by decide) q7_7 rfl rfl rfl rfl (Nat.le_of_ble_eq_true rfl) dX13_init_6 (fun w1 H1 locs hM hm hzz => ?_)
  have hz := hzz.trans hz
  have hp := hm.1
  have hF := hF.tr (hm.fr (by omega) (by omega))
  refine lv_aload_n hx hb dX13_init_9 rfl (lv_at hl 0 rfl) ?_
  refine lv_iconst (v := (-1)) hx hb dX13_init_10 (by decide) ?_
  refine mm_putN hC hM (k := 3) tyX13 hp rfl inAX13 tyX13_ok nmX13 (by decide) q7_8 rfl rfl rfl rfl (Nat.le_of_ble_eq_true rfl) dX13_init_11 (fun w2 H1 locs hM hm hzz => ?_)
  have hz := hzz.trans hz
  have hp := hm.1
  have hF := hF.tr (hm.fr (by omega) (by omega))
  refine lv_aload_n hx hb dX13_init_14 rfl (lv_at hl 0 rfl) ?_
  refine lv_sipush (v := 238) hx hb dX13_init_15 (by decide) ?_
  refine mm_newi (a := b + 1) (N := 238) hC hM (by omega) q1_66 (by decide) (by decide) (by decide) (Nat.le_of_ble_eq_true rfl) (Nat.le_of_ble_eq_true rfl) dX13_init_18 (fun w3 H hM hm hz => ?_)
  have hp := hm.keep hp (by omega)
  have hF := hF.tr (hm.fr (by omega) (by omega))
  have ha1 := hm.1
  refine mm_putFN hC hM (k := 5) tyX13 hp rfl inAX13 tyX13_ok nmX13 (by decide) q7_10 rfl hnm rfl rfl rfl rfl (Nat.le_of_ble_eq_true rfl) dX13_init_20 (fun w4 H1 locs hM hm hzz => ?_)
  have hz := hzz.trans hz
  have hp := hm.1
  have ha1 := hm.keep ha1 (by omega)
  have hF := hF.tr (hm.fr (by omega) (by omega))
  refine lv_aload_n hx hb dX13_init_23 rfl (lv_at hl 0 rfl) ?_
  refine lv_sipush (v := 238) hx hb dX13_init_24 (by decide) ?_
  refine mm_newi (a := b + 2) (N := 238) hC hM (by omega) q1_66 (by decide) (by decide) (by decide) (Nat.le_of_ble_eq_true rfl) (Nat.le_of_ble_eq_true rfl) dX13_init_27 (fun w5 H hM hm hz => ?_)
  have hp := hm.keep hp (by omega)
  have ha1 := hm.keep ha1 (by omega)
  have hF := hF.tr (hm.fr (by omega) (by omega))
  have ha2 := hm.1
  refine mm_putFN hC hM (k := 6) tyX13 hp rfl inAX13 tyX13_ok nmX13 (by decide) q7_11 rfl hnm rfl rfl rfl rfl (Nat.le_of_ble_eq_true rfl) dX13_init_29 (fun w6 H1 locs hM hm hzz => ?_)
  have hz := hzz.trans hz
  have hp := hm.1
  have ha1 := hm.keep ha1 (by omega)
  have ha2 := hm.keep ha2 (by omega)
  have hF := hF.tr (hm.fr (by omega) (by omega))
  refine lv_aload_n hx hb dX13_init_32 rfl (lv_at hl 0 rfl) ?_
  refine lv_sipush (v := 238) hx hb dX13_init_33 (by decide) ?_
  refine mm_newi (a := b + 3) (N := 238) hC hM (by omega) q1_66 (by decide) (by decide) (by decide) (Nat.le_of_ble_eq_true rfl) (Nat.le_of_ble_eq_true rfl) dX13_init_36 (fun w7 H hM hm hz => ?_)
  have hp := hm.keep hp (by omega)
  have ha1 := hm.keep ha1 (by omega)
  have ha2 := hm.keep ha2 (by omega)
  have hF := hF.tr (hm.fr (by omega) (by omega))
  have ha3 := hm.1
  refine mm_putFN hC hM (k := 7) tyX13 hp rfl inAX13 tyX13_ok nmX13 (by decide) q7_12 rfl hnm rfl rfl rfl rfl (Nat.le_of_ble_eq_true rfl) dX13_init_38 (fun w8 H1 locs hM hm hzz => ?_)
  have hz := hzz.trans hz
  have hp := hm.1
  have ha1 := hm.keep ha1 (by omega)
  have ha2 := hm.keep ha2 (by omega)
  have ha3 := hm.keep ha3 (by omega)
  have hF := hF.tr (hm.fr (by omega) (by omega))
  refine lv_aload_n hx hb dX13_init_41 rfl (lv_at hl 0 rfl) ?_
  refine lv_sipush (v := 1904) hx hb dX13_init_42 (by decide) ?_
  refine mm_newi (a := b + 4) (N := 1904) hC hM (by omega) q1_66 (by decide) (by decide) (by decide) (Nat.le_of_ble_eq_true rfl) (Nat.le_of_ble_eq_true rfl) dX13_init_45 (fun w9 H hM hm hz => ?_)
  have hp := hm.keep hp (by omega)
  have ha1 := hm.keep ha1 (by omega)
  have ha2 := hm.keep ha2 (by omega)
  have ha3 := hm.keep ha3 (by omega)
  have hF := hF.tr (hm.fr (by omega) (by omega))
  have ha4 := hm.1
  refine mm_putFN hC hM (k := 8) tyX13 hp rfl inAX13 tyX13_ok nmX13 (by decide) q7_13 rfl hnm rfl rfl rfl rfl (Nat.le_of_ble_eq_true rfl) dX13_init_47 (fun w10 H1 locs hM hm hzz => ?_)
  have hz := hzz.trans hz
  have hp := hm.1
  have ha1 := hm.keep ha1 (by omega)
  have ha2 := hm.keep ha2 (by omega)
  have ha3 := hm.keep ha3 (by omega)
  have ha4 := hm.keep ha4 (by omega)
  have hF := hF.tr (hm.fr (by omega) (by omega))
  refine lv_aload_n hx hb dX13_init_50 rfl (lv_at hl 0 rfl) ?_
  refine lv_bipush (v := 81) hx hb dX13_init_51 (by decide) ?_
  refine mm_newi (a := b + 5) (N := 81) hC hM (by omega) q1_66 (by decide) (by decide) (by decide) (Nat.le_of_ble_eq_true rfl) (Nat.le_of_ble_eq_true rfl) dX13_init_53 (fun w11 H hM hm hz => ?_)
  have hp := hm.keep hp (by omega)
  have ha1 := hm.keep ha1 (by omega)
  have ha2 := hm.keep ha2 (by omega)
  have ha3 := hm.keep ha3 (by omega)
  have ha4 := hm.keep ha4 (by omega)
  have hF := hF.tr (hm.fr (by omega) (by omega))
  have ha5 := hm.1
  refine mm_putFN hC hM (k := 9) tyX13 hp rfl inAX13 tyX13_ok nmX13 (by decide) q7_14 rfl hnm rfl rfl rfl rfl (Nat.le_of_ble_eq_true rfl) dX13_init_55 (fun w12 H1 locs hM hm hzz => ?_)
  have hz := hzz.trans hz
  have hp := hm.1
  have ha1 := hm.keep ha1 (by omega)
  have ha2 := hm.keep ha2 (by omega)
  have ha3 := hm.keep ha3 (by omega)
  have ha4 := hm.keep ha4 (by omega)
  have ha5 := hm.keep ha5 (by omega)
  have hF := hF.tr (hm.fr (by omega) (by omega))
  refine lv_aload_n hx hb dX13_init_58 rfl (lv_at hl 0 rfl) ?_
  refine lv_bipush (v := 60) hx hb dX13_init_59 (by decide) ?_
  refine mm_newi (a := b + 6) (N := 60) hC hM (by omega) q1_66 (by decide) (by decide) (by decide) (Nat.le_of_ble_eq_true rfl) (Nat.le_of_ble_eq_true rfl) dX13_init_61 (fun w13 H hM hm hz => ?_)
  have hp := hm.keep hp (by omega)
  have ha1 := hm.keep ha1 (by omega)
  have ha2 := hm.keep ha2 (by omega)
  have ha3 := hm.keep ha3 (by omega)
  have ha4 := hm.keep ha4 (by omega)
  have ha5 := hm.keep ha5 (by omega)
  have hF := hF.tr (hm.fr (by omega) (by omega))
  have ha6 := hm.1
  refine mm_putFN hC hM (k := 10) tyX13 hp rfl inAX13 tyX13_ok nmX13 (by decide) q7_15 rfl hnm rfl rfl rfl rfl (Nat.le_of_ble_eq_true rfl) dX13_init_63 (fun w14 H1 locs hM hm hzz => ?_)
  have hz := hzz.trans hz
  have hp := hm.1
  have ha1 := hm.keep ha1 (by omega)
  have ha2 := hm.keep ha2 (by omega)
  have ha3 := hm.keep ha3 (by omega)
  have ha4 := hm.keep ha4 (by omega)
  have ha5 := hm.keep ha5 (by omega)
  have ha6 := hm.keep ha6 (by omega)
  have hF := hF.tr (hm.fr (by omega) (by omega))
  refine lv_aload_n hx hb dX13_init_66 rfl (lv_at hl 0 rfl) ?_
  refine lv_sipush (v := 256) hx hb dX13_init_67 (by decide) ?_
  refine mm_newi (a := b + 7) (N := 256) hC hM (by omega) q1_66 (by decide) (by decide) (by decide) (Nat.le_of_ble_eq_true rfl) (Nat.le_of_ble_eq_true rfl) dX13_init_70 (fun w15 H hM hm hz => ?_)
  have hp := hm.keep hp (by omega)
  have ha1 := hm.keep ha1 (by omega)
  have ha2 := hm.keep ha2 (by omega)
  have ha3 := hm.keep ha3 (by omega)
  have ha4 := hm.keep ha4 (by omega)
  have ha5 := hm.keep ha5 (by omega)
  have ha6 := hm.keep ha6 (by omega)
  have hF := hF.tr (hm.fr (by omega) (by omega))
  have ha7 := hm.1
  refine mm_putFN hC hM (k := 11) tyX13 hp rfl inAX13 tyX13_ok nmX13 (by decide) q7_16 rfl hnm rfl rfl rfl rfl (Nat.le_of_ble_eq_true rfl) dX13_init_72 (fun w16 H1 locs hM hm hzz => ?_)
  have hz := hzz.trans hz
  have hp := hm.1
  have ha1 := hm.keep ha1 (by omega)
  have ha2 := hm.keep ha2 (by omega)
  have ha3 := hm.keep ha3 (by omega)
  have ha4 := hm.keep ha4 (by omega)
  have ha5 := hm.keep ha5 (by omega)
  have ha6 := hm.keep ha6 (by omega)
  have ha7 := hm.keep ha7 (by omega)
  have hF := hF.tr (hm.fr (by omega) (by omega))
  refine lv_aload_n hx hb dX13_init_75 rfl (lv_at hl 0 rfl) ?_
  refine lv_bipush (v := 60) hx hb dX13_init_76 (by decide) ?_
  refine mm_newi (a := b + 8) (N := 60) hC hM (by omega) q1_66 (by decide) (by decide) (by decide) (Nat.le_of_ble_eq_true rfl) (Nat.le_of_ble_eq_true rfl) dX13_init_78 (fun w17 H hM hm hz => ?_)
  have hp := hm.keep hp (by omega)
  have ha1 := hm.keep ha1 (by omega)
  have ha2 := hm.keep ha2 (by omega)
  have ha3 := hm.keep ha3 (by omega)
  have ha4 := hm.keep ha4 (by omega)
  have ha5 := hm.keep ha5 (by omega)
  have ha6 := hm.keep ha6 (by omega)
  have ha7 := hm.keep ha7 (by omega)
  have hF := hF.tr (hm.fr (by omega) (by omega))
  have ha8 := hm.1
  refine mm_putFN hC hM (k := 15) tyX13 hp rfl inAX13 tyX13_ok nmX13 (by decide) q7_20 rfl hnm rfl rfl rfl rfl (Nat.le_of_ble_eq_true rfl) dX13_init_80 (fun w18 H1 locs hM hm hzz => ?_)
  have hz := hzz.trans hz
  have hp := hm.1
  have ha1 := hm.keep ha1 (by omega)
  have ha2 := hm.keep ha2 (by omega)
  have ha3 := hm.keep ha3 (by omega)
  have ha4 := hm.keep ha4 (by omega)
  have ha5 := hm.keep ha5 (by omega)
  have ha6 := hm.keep ha6 (by omega)
  have ha7 := hm.keep ha7 (by omega)
  have ha8 := hm.keep ha8 (by omega)
  have hF := hF.tr (hm.fr (by omega) (by omega))
  refine lv_aload_n hx hb dX13_init_83 rfl (lv_at hl 0 rfl) ?_
  refine lv_bipush (v := 50) hx hb dX13_init_84 (by decide) ?_
  refine mm_newi (a := b + 9) (N := 50) hC hM (by omega) q1_66 (by decide) (by decide) (by decide) (Nat.le_of_ble_eq_true rfl) (Nat.le_of_ble_eq_true rfl) dX13_init_86 (fun w19 H hM hm hz => ?_)
  have hp := hm.keep hp (by omega)
  have ha1 := hm.keep ha1 (by omega)
  have ha2 := hm.keep ha2 (by omega)
  have ha3 := hm.keep ha3 (by omega)
  have ha4 := hm.keep ha4 (by omega)
  have ha5 := hm.keep ha5 (by omega)
  have ha6 := hm.keep ha6 (by omega)
  have ha7 := hm.keep ha7 (by omega)
  have ha8 := hm.keep ha8 (by omega)
  have hF := hF.tr (hm.fr (by omega) (by omega))
  have ha9 := hm.1
  refine mm_putFN hC hM (k := 16) tyX13 hp rfl inAX13 tyX13_ok nmX13 (by decide) q7_21 rfl hnm rfl rfl rfl rfl (Nat.le_of_ble_eq_true rfl) dX13_init_88 (fun w20 H1 locs hM hm hzz => ?_)
  have hz := hzz.trans hz
  have hp := hm.1
  have ha1 := hm.keep ha1 (by omega)
  have ha2 := hm.keep ha2 (by omega)
  have ha3 := hm.keep ha3 (by omega)
  have ha4 := hm.keep ha4 (by omega)
  have ha5 := hm.keep ha5 (by omega)
  have ha6 := hm.keep ha6 (by omega)
  have ha7 := hm.keep ha7 (by omega)
  have ha8 := hm.keep ha8 (by omega)
  have ha9 := hm.keep ha9 (by omega)
  have hF := hF.tr (hm.fr (by omega) (by omega))
  refine lv_aload_n hx hb dX13_init_91 rfl (lv_at hl 0 rfl) ?_
  refine lv_bipush (v := 11) hx hb dX13_init_92 (by decide) ?_
  refine mm_newi (a := b + 10) (N := 11) hC hM (by omega) q1_66 (by decide) (by decide) (by decide) (Nat.le_of_ble_eq_true rfl) (Nat.le_of_ble_eq_true rfl) dX13_init_94 (fun w21 H hM hm hz => ?_)
  have hp := hm.keep hp (by omega)
  have ha1 := hm.keep ha1 (by omega)
  have ha2 := hm.keep ha2 (by omega)
  have ha3 := hm.keep ha3 (by omega)
  have ha4 := hm.keep ha4 (by omega)
  have ha5 := hm.keep ha5 (by omega)
  have ha6 := hm.keep ha6 (by omega)
  have ha7 := hm.keep ha7 (by omega)
  have ha8 := hm.keep ha8 (by omega)
  have ha9 := hm.keep ha9 (by omega)
  have hF := hF.tr (hm.fr (by omega) (by omega))
  have ha10 := hm.1
  refine mm_putFN hC hM (k := 17) tyX13 hp rfl inAX13 tyX13_ok nmX13 (by decide) q7_22 rfl hnm rfl rfl rfl rfl (Nat.le_of_ble_eq_true rfl) dX13_init_96 (fun w22 H1 locs hM hm hzz => ?_)
  have hz := hzz.trans hz
  have hp := hm.1
  have ha1 := hm.keep ha1 (by omega)
  have ha2 := hm.keep ha2 (by omega)
  have ha3 := hm.keep ha3 (by omega)
  have ha4 := hm.keep ha4 (by omega)
  have ha5 := hm.keep ha5 (by omega)
  have ha6 := hm.keep ha6 (by omega)
  have ha7 := hm.keep ha7 (by omega)
  have ha8 := hm.keep ha8 (by omega)
  have ha9 := hm.keep ha9 (by omega)
  have ha10 := hm.keep ha10 (by omega)
  have hF := hF.tr (hm.fr (by omega) (by omega))
  refine lv_aload_n hx hb dX13_init_99 rfl (lv_at hl 0 rfl) ?_
  refine lv_bipush (v := 61) hx hb dX13_init_100 (by decide) ?_
  refine mm_newi (a := b + 11) (N := 61) hC hM (by omega) q1_66 (by decide) (by decide) (by decide) (Nat.le_of_ble_eq_true rfl) (Nat.le_of_ble_eq_true rfl) dX13_init_102 (fun w23 H hM hm hz => ?_)
  have hp := hm.keep hp (by omega)
  have ha1 := hm.keep ha1 (by omega)
  have ha2 := hm.keep ha2 (by omega)
  have ha3 := hm.keep ha3 (by omega)
  have ha4 := hm.keep ha4 (by omega)
  have ha5 := hm.keep ha5 (by omega)
  have ha6 := hm.keep ha6 (by omega)
  have ha7 := hm.keep ha7 (by omega)
  have ha8 := hm.keep ha8 (by omega)
  have ha9 := hm.keep ha9 (by omega)
  have ha10 := hm.keep ha10 (by omega)
  have hF := hF.tr (hm.fr (by omega) (by omega))
  have ha11 := hm.1
  refine lv_dup hx hb dX13_init_104 rfl ?_
  refine lv_iconst (v := 0) hx hb dX13_init_105 (by decide) ?_
  refine lv_bipush (v := 114) hx hb dX13_init_106 (by decide) ?_
  refine mm_iastS (N := 0) hC hM ha11 (by decide) (by unfold vp_in; decide) dX13_init_108 (fun w24 H1 locs hM hm hzz => ?_)
  have hz := hzz.trans hz
  have hp := hm.keep hp (by omega)
  have ha1 := hm.keep ha1 (by omega)
  have ha2 := hm.keep ha2 (by omega)
  have ha3 := hm.keep ha3 (by omega)
  have ha4 := hm.keep ha4 (by omega)
  have ha5 := hm.keep ha5 (by omega)
  have ha6 := hm.keep ha6 (by omega)
  have ha7 := hm.keep ha7 (by omega)
  have ha8 := hm.keep ha8 (by omega)
  have ha9 := hm.keep ha9 (by omega)
  have ha10 := hm.keep ha10 (by omega)
  have ha11 := hm.1
  have hF := hF.tr (hm.fr (by omega) (by omega))
  refine lv_dup hx hb dX13_init_109 rfl ?_
  refine lv_iconst (v := 1) hx hb dX13_init_110 (by decide) ?_
  refine lv_bipush (v := 101) hx hb dX13_init_111 (by decide) ?_
  refine mm_iastS (N := 1) hC hM ha11 (by decide) (by unfold vp_in; decide) dX13_init_113 (fun w25 H1 locs hM hm hzz => ?_)
  have hz := hzz.trans hz
  have hp := hm.keep hp (by omega)
  have ha1 := hm.keep ha1 (by omega)
  have ha2 := hm.keep ha2 (by omega)
  have ha3 := hm.keep ha3 (by omega)
  have ha4 := hm.keep ha4 (by omega)
  have ha5 := hm.keep ha5 (by omega)
  have ha6 := hm.keep ha6 (by omega)
  have ha7 := hm.keep ha7 (by omega)
  have ha8 := hm.keep ha8 (by omega)
  have ha9 := hm.keep ha9 (by omega)
  have ha10 := hm.keep ha10 (by omega)
  have ha11 := hm.1
  have hF := hF.tr (hm.fr (by omega) (by omega))
  refine lv_dup hx hb dX13_init_114 rfl ?_
  refine lv_iconst (v := 2) hx hb dX13_init_115 (by decide) ?_
  refine lv_bipush (v := 101) hx hb dX13_init_116 (by decide) ?_
  refine mm_iastS (N := 2) hC hM ha11 (by decide) (by unfold vp_in; decide) dX13_init_118 (fun w26 H1 locs hM hm hzz => ?_)
  have hz := hzz.trans hz
  have hp := hm.keep hp (by omega)
  have ha1 := hm.keep ha1 (by omega)
  have ha2 := hm.keep ha2 (by omega)
  have ha3 := hm.keep ha3 (by omega)
  have ha4 := hm.keep ha4 (by omega)
  have ha5 := hm.keep ha5 (by omega)
  have ha6 := hm.keep ha6 (by omega)
  have ha7 := hm.keep ha7 (by omega)
  have ha8 := hm.keep ha8 (by omega)
  have ha9 := hm.keep ha9 (by omega)
  have ha10 := hm.keep ha10 (by omega)
  have ha11 := hm.1
  have hF := hF.tr (hm.fr (by omega) (by omega))
  refine lv_dup hx hb dX13_init_119 rfl ?_
  refine lv_iconst (v := 3) hx hb dX13_init_120 (by decide) ?_
  refine lv_bipush (v := 100) hx hb dX13_init_121 (by decide) ?_
  refine mm_iastS (N := 3) hC hM ha11 (by decide) (by unfold vp_in; decide) dX13_init_123 (fun w27 H1 locs hM hm hzz => ?_)
  have hz := hzz.trans hz
  have hp := hm.keep hp (by omega)
  have ha1 := hm.keep ha1 (by omega)
  have ha2 := hm.keep ha2 (by omega)
  have ha3 := hm.keep ha3 (by omega)
  have ha4 := hm.keep ha4 (by omega)
  have ha5 := hm.keep ha5 (by omega)
  have ha6 := hm.keep ha6 (by omega)
  have ha7 := hm.keep ha7 (by omega)
  have ha8 := hm.keep ha8 (by omega)
  have ha9 := hm.keep ha9 (by omega)
  have ha10 := hm.keep ha10 (by omega)
  have ha11 := hm.1
  have hF := hF.tr (hm.fr (by omega) (by omega))
  refine lv_dup hx hb dX13_init_124 rfl ?_
  refine lv_iconst (v := 4) hx hb dX13_init_125 (by decide) ?_
  refine lv_bipush (v := 32) hx hb dX13_init_126 (by decide) ?_
  refine mm_iastS (N := 4) hC hM ha11 (by decide) (by unfold vp_in; decide) dX13_init_128 (fun w28 H1 locs hM hm hzz => ?_)
  have hz := hzz.trans hz
  have hp := hm.keep hp (by omega)
  have ha1 := hm.keep ha1 (by omega)
  have ha2 := hm.keep ha2 (by omega)
  have ha3 := hm.keep ha3 (by omega)
  have ha4 := hm.keep ha4 (by omega)
  have ha5 := hm.keep ha5 (by omega)
  have ha6 := hm.keep ha6 (by omega)
  have ha7 := hm.keep ha7 (by omega)
  have ha8 := hm.keep ha8 (by omega)
  have ha9 := hm.keep ha9 (by omega)
  have ha10 := hm.keep ha10 (by omega)
  have ha11 := hm.1
  have hF := hF.tr (hm.fr (by omega) (by omega))
  refine lv_dup hx hb dX13_init_129 rfl ?_
  refine lv_iconst (v := 5) hx hb dX13_init_130 (by decide) ?_
  refine lv_bipush (v := 98) hx hb dX13_init_131 (by decide) ?_
  refine mm_iastS (N := 5) hC hM ha11 (by decide) (by unfold vp_in; decide) dX13_init_133 (fun w29 H1 locs hM hm hzz => ?_)
  have hz := hzz.trans hz
  have hp := hm.keep hp (by omega)
  have ha1 := hm.keep ha1 (by omega)
  have ha2 := hm.keep ha2 (by omega)
  have ha3 := hm.keep ha3 (by omega)
  have ha4 := hm.keep ha4 (by omega)
  have ha5 := hm.keep ha5 (by omega)
  have ha6 := hm.keep ha6 (by omega)
  have ha7 := hm.keep ha7 (by omega)
  have ha8 := hm.keep ha8 (by omega)
  have ha9 := hm.keep ha9 (by omega)
  have ha10 := hm.keep ha10 (by omega)
  have ha11 := hm.1
  have hF := hF.tr (hm.fr (by omega) (by omega))
  refine lv_dup hx hb dX13_init_134 rfl ?_
  refine lv_bipush (v := 6) hx hb dX13_init_135 (by decide) ?_
  refine lv_bipush (v := 114) hx hb dX13_init_137 (by decide) ?_
  refine mm_iastS (N := 6) hC hM ha11 (by decide) (by unfold vp_in; decide) dX13_init_139 (fun w30 H1 locs hM hm hzz => ?_)
  have hz := hzz.trans hz
  have hp := hm.keep hp (by omega)
  have ha1 := hm.keep ha1 (by omega)
  have ha2 := hm.keep ha2 (by omega)
  have ha3 := hm.keep ha3 (by omega)
  have ha4 := hm.keep ha4 (by omega)
  have ha5 := hm.keep ha5 (by omega)
  have ha6 := hm.keep ha6 (by omega)
  have ha7 := hm.keep ha7 (by omega)
  have ha8 := hm.keep ha8 (by omega)
  have ha9 := hm.keep ha9 (by omega)
  have ha10 := hm.keep ha10 (by omega)
  have ha11 := hm.1
  have hF := hF.tr (hm.fr (by omega) (by omega))
  refine lv_dup hx hb dX13_init_140 rfl ?_
  refine lv_bipush (v := 7) hx hb dX13_init_141 (by decide) ?_
  refine lv_bipush (v := 101) hx hb dX13_init_143 (by decide) ?_
  refine mm_iastS (N := 7) hC hM ha11 (by decide) (by unfold vp_in; decide) dX13_init_145 (fun w31 H1 locs hM hm hzz => ?_)
  have hz := hzz.trans hz
  have hp := hm.keep hp (by omega)
  have ha1 := hm.keep ha1 (by omega)
  have ha2 := hm.keep ha2 (by omega)
  have ha3 := hm.keep ha3 (by omega)
  have ha4 := hm.keep ha4 (by omega)
  have ha5 := hm.keep ha5 (by omega)
  have ha6 := hm.keep ha6 (by omega)
  have ha7 := hm.keep ha7 (by omega)
  have ha8 := hm.keep ha8 (by omega)
  have ha9 := hm.keep ha9 (by omega)
  have ha10 := hm.keep ha10 (by omega)
  have ha11 := hm.1
  have hF := hF.tr (hm.fr (by omega) (by omega))
  refine lv_dup hx hb dX13_init_146 rfl ?_
  refine lv_bipush (v := 8) hx hb dX13_init_147 (by decide) ?_
  refine lv_bipush (v := 97) hx hb dX13_init_149 (by decide) ?_
  refine mm_iastS (N := 8) hC hM ha11 (by decide) (by unfold vp_in; decide) dX13_init_151 (fun w32 H1 locs hM hm hzz => ?_)
  have hz := hzz.trans hz
  have hp := hm.keep hp (by omega)
  have ha1 := hm.keep ha1 (by omega)
  have ha2 := hm.keep ha2 (by omega)
  have ha3 := hm.keep ha3 (by omega)
  have ha4 := hm.keep ha4 (by omega)
  have ha5 := hm.keep ha5 (by omega)
  have ha6 := hm.keep ha6 (by omega)
  have ha7 := hm.keep ha7 (by omega)
  have ha8 := hm.keep ha8 (by omega)
  have ha9 := hm.keep ha9 (by omega)
  have ha10 := hm.keep ha10 (by omega)
  have ha11 := hm.1
  have hF := hF.tr (hm.fr (by omega) (by omega))
  refine lv_dup hx hb dX13_init_152 rfl ?_
  refine lv_bipush (v := 9) hx hb dX13_init_153 (by decide) ?_
  refine lv_bipush (v := 107) hx hb dX13_init_155 (by decide) ?_
  refine mm_iastS (N := 9) hC hM ha11 (by decide) (by unfold vp_in; decide) dX13_init_157 (fun w33 H1 locs hM hm hzz => ?_)
  have hz := hzz.trans hz
  have hp := hm.keep hp (by omega)
  have ha1 := hm.keep ha1 (by omega)
  have ha2 := hm.keep ha2 (by omega)
  have ha3 := hm.keep ha3 (by omega)
  have ha4 := hm.keep ha4 (by omega)
  have ha5 := hm.keep ha5 (by omega)
  have ha6 := hm.keep ha6 (by omega)
  have ha7 := hm.keep ha7 (by omega)
  have ha8 := hm.keep ha8 (by omega)
  have ha9 := hm.keep ha9 (by omega)
  have ha10 := hm.keep ha10 (by omega)
  have ha11 := hm.1
  have hF := hF.tr (hm.fr (by omega) (by omega))
  refine lv_dup hx hb dX13_init_158 rfl ?_
  refine lv_bipush (v := 10) hx hb dX13_init_159 (by decide) ?_
  refine lv_bipush (v := 32) hx hb dX13_init_161 (by decide) ?_
  refine mm_iastS (N := 10) hC hM ha11 (by decide) (by unfold vp_in; decide) dX13_init_163 (fun w34 H1 locs hM hm hzz => ?_)
  have hz := hzz.trans hz
  have hp := hm.keep hp (by omega)
  have ha1 := hm.keep ha1 (by omega)
  have ha2 := hm.keep ha2 (by omega)
  have ha3 := hm.keep ha3 (by omega)
  have ha4 := hm.keep ha4 (by omega)
  have ha5 := hm.keep ha5 (by omega)
  have ha6 := hm.keep ha6 (by omega)
  have ha7 := hm.keep ha7 (by omega)
  have ha8 := hm.keep ha8 (by omega)
  have ha9 := hm.keep ha9 (by omega)
  have ha10 := hm.keep ha10 (by omega)
  have ha11 := hm.1
  have hF := hF.tr (hm.fr (by omega) (by omega))
  refine lv_dup hx hb dX13_init_164 rfl ?_
  refine lv_bipush (v := 11) hx hb dX13_init_165 (by decide) ?_
  refine lv_bipush (v := 98) hx hb dX13_init_167 (by decide) ?_
  refine mm_iastS (N := 11) hC hM ha11 (by decide) (by unfold vp_in; decide) dX13_init_169 (fun w35 H1 locs hM hm hzz => ?_)
  have hz := hzz.trans hz
  have hp := hm.keep hp (by omega)
  have ha1 := hm.keep ha1 (by omega)
  have ha2 := hm.keep ha2 (by omega)
  have ha3 := hm.keep ha3 (by omega)
  have ha4 := hm.keep ha4 (by omega)
  have ha5 := hm.keep ha5 (by omega)
  have ha6 := hm.keep ha6 (by omega)
  have ha7 := hm.keep ha7 (by omega)
  have ha8 := hm.keep ha8 (by omega)
  have ha9 := hm.keep ha9 (by omega)
  have ha10 := hm.keep ha10 (by omega)
  have ha11 := hm.1
  have hF := hF.tr (hm.fr (by omega) (by omega))
  refine lv_dup hx hb dX13_init_170 rfl ?_
  refine lv_bipush (v := 12) hx hb dX13_init_171 (by decide) ?_
  refine lv_bipush (v := 111) hx hb dX13_init_173 (by decide) ?_
  refine mm_iastS (N := 12) hC hM ha11 (by decide) (by unfold vp_in; decide) dX13_init_175 (fun w36 H1 locs hM hm hzz => ?_)
  have hz := hzz.trans hz
  have hp := hm.keep hp (by omega)
  have ha1 := hm.keep ha1 (by omega)
  have ha2 := hm.keep ha2 (by omega)
  have ha3 := hm.keep ha3 (by omega)
  have ha4 := hm.keep ha4 (by omega)
  have ha5 := hm.keep ha5 (by omega)
  have ha6 := hm.keep ha6 (by omega)
  have ha7 := hm.keep ha7 (by omega)
  have ha8 := hm.keep ha8 (by omega)
  have ha9 := hm.keep ha9 (by omega)
  have ha10 := hm.keep ha10 (by omega)
  have ha11 := hm.1
  have hF := hF.tr (hm.fr (by omega) (by omega))
  refine lv_dup hx hb dX13_init_176 rfl ?_
  refine lv_bipush (v := 13) hx hb dX13_init_177 (by decide) ?_
  refine lv_bipush (v := 97) hx hb dX13_init_179 (by decide) ?_
  refine mm_iastS (N := 13) hC hM ha11 (by decide) (by unfold vp_in; decide) dX13_init_181 (fun w37 H1 locs hM hm hzz => ?_)
  have hz := hzz.trans hz
  have hp := hm.keep hp (by omega)
  have ha1 := hm.keep ha1 (by omega)
  have ha2 := hm.keep ha2 (by omega)
  have ha3 := hm.keep ha3 (by omega)
  have ha4 := hm.keep ha4 (by omega)
  have ha5 := hm.keep ha5 (by omega)
  have ha6 := hm.keep ha6 (by omega)
  have ha7 := hm.keep ha7 (by omega)
  have ha8 := hm.keep ha8 (by omega)
  have ha9 := hm.keep ha9 (by omega)
  have ha10 := hm.keep ha10 (by omega)
  have ha11 := hm.1
  have hF := hF.tr (hm.fr (by omega) (by omega))
  refine lv_dup hx hb dX13_init_182 rfl ?_
  refine lv_bipush (v := 14) hx hb dX13_init_183 (by decide) ?_
  refine lv_bipush (v := 116) hx hb dX13_init_185 (by decide) ?_
  refine mm_iastS (N := 14) hC hM ha11 (by decide) (by unfold vp_in; decide) dX13_init_187 (fun w38 H1 locs hM hm hzz => ?_)
  have hz := hzz.trans hz
  have hp := hm.keep hp (by omega)
  have ha1 := hm.keep ha1 (by omega)
  have ha2 := hm.keep ha2 (by omega)
  have ha3 := hm.keep ha3 (by omega)
  have ha4 := hm.keep ha4 (by omega)
  have ha5 := hm.keep ha5 (by omega)
  have ha6 := hm.keep ha6 (by omega)
  have ha7 := hm.keep ha7 (by omega)
  have ha8 := hm.keep ha8 (by omega)
  have ha9 := hm.keep ha9 (by omega)
  have ha10 := hm.keep ha10 (by omega)
  have ha11 := hm.1
  have hF := hF.tr (hm.fr (by omega) (by omega))
  refine lv_dup hx hb dX13_init_188 rfl ?_
  refine lv_bipush (v := 15) hx hb dX13_init_189 (by decide) ?_
  refine lv_bipush (v := 32) hx hb dX13_init_191 (by decide) ?_
  refine mm_iastS (N := 15) hC hM ha11 (by decide) (by unfold vp_in; decide) dX13_init_193 (fun w39 H1 locs hM hm hzz => ?_)
  have hz := hzz.trans hz
  have hp := hm.keep hp (by omega)
  have ha1 := hm.keep ha1 (by omega)
  have ha2 := hm.keep ha2 (by omega)
  have ha3 := hm.keep ha3 (by omega)
  have ha4 := hm.keep ha4 (by omega)
  have ha5 := hm.keep ha5 (by omega)
  have ha6 := hm.keep ha6 (by omega)
  have ha7 := hm.keep ha7 (by omega)
  have ha8 := hm.keep ha8 (by omega)
  have ha9 := hm.keep ha9 (by omega)
  have ha10 := hm.keep ha10 (by omega)
  have ha11 := hm.1
  have hF := hF.tr (hm.fr (by omega) (by omega))
  refine lv_dup hx hb dX13_init_194 rfl ?_
  refine lv_bipush (v := 16) hx hb dX13_init_195 (by decide) ?_
  refine lv_bipush (v := 112) hx hb dX13_init_197 (by decide) ?_
  refine mm_iastS (N := 16) hC hM ha11 (by decide) (by unfold vp_in; decide) dX13_init_199 (fun w40 H1 locs hM hm hzz => ?_)
  have hz := hzz.trans hz
  have hp := hm.keep hp (by omega)
  have ha1 := hm.keep ha1 (by omega)
  have ha2 := hm.keep ha2 (by omega)
  have ha3 := hm.keep ha3 (by omega)
  have ha4 := hm.keep ha4 (by omega)
  have ha5 := hm.keep ha5 (by omega)
  have ha6 := hm.keep ha6 (by omega)
  have ha7 := hm.keep ha7 (by omega)
  have ha8 := hm.keep ha8 (by omega)
  have ha9 := hm.keep ha9 (by omega)
  have ha10 := hm.keep ha10 (by omega)
  have ha11 := hm.1
  have hF := hF.tr (hm.fr (by omega) (by omega))
  refine lv_dup hx hb dX13_init_200 rfl ?_
  refine lv_bipush (v := 17) hx hb dX13_init_201 (by decide) ?_
  refine lv_bipush (v := 108) hx hb dX13_init_203 (by decide) ?_
  refine mm_iastS (N := 17) hC hM ha11 (by decide) (by unfold vp_in; decide) dX13_init_205 (fun w41 H1 locs hM hm hzz => ?_)
  have hz := hzz.trans hz
  have hp := hm.keep hp (by omega)
  have ha1 := hm.keep ha1 (by omega)
  have ha2 := hm.keep ha2 (by omega)
  have ha3 := hm.keep ha3 (by omega)
  have ha4 := hm.keep ha4 (by omega)
  have ha5 := hm.keep ha5 (by omega)
  have ha6 := hm.keep ha6 (by omega)
  have ha7 := hm.keep ha7 (by omega)
  have ha8 := hm.keep ha8 (by omega)
  have ha9 := hm.keep ha9 (by omega)
  have ha10 := hm.keep ha10 (by omega)
  have ha11 := hm.1
  have hF := hF.tr (hm.fr (by omega) (by omega))
  refine lv_dup hx hb dX13_init_206 rfl ?_
  refine lv_bipush (v := 18) hx hb dX13_init_207 (by decide) ?_
  refine lv_bipush (v := 97) hx hb dX13_init_209 (by decide) ?_
  refine mm_iastS (N := 18) hC hM ha11 (by decide) (by unfold vp_in; decide) dX13_init_211 (fun w42 H1 locs hM hm hzz => ?_)
  have hz := hzz.trans hz
  have hp := hm.keep hp (by omega)
  have ha1 := hm.keep ha1 (by omega)
  have ha2 := hm.keep ha2 (by omega)
  have ha3 := hm.keep ha3 (by omega)
  have ha4 := hm.keep ha4 (by omega)
  have ha5 := hm.keep ha5 (by omega)
  have ha6 := hm.keep ha6 (by omega)
  have ha7 := hm.keep ha7 (by omega)
  have ha8 := hm.keep ha8 (by omega)
  have ha9 := hm.keep ha9 (by omega)
  have ha10 := hm.keep ha10 (by omega)
  have ha11 := hm.1
  have hF := hF.tr (hm.fr (by omega) (by omega))
  refine lv_dup hx hb dX13_init_212 rfl ?_
  refine lv_bipush (v := 19) hx hb dX13_init_213 (by decide) ?_
  refine lv_bipush (v := 110) hx hb dX13_init_215 (by decide) ?_
  refine mm_iastS (N := 19) hC hM ha11 (by decide) (by unfold vp_in; decide) dX13_init_217 (fun w43 H1 locs hM hm hzz => ?_)
  have hz := hzz.trans hz
  have hp := hm.keep hp (by omega)
  have ha1 := hm.keep ha1 (by omega)
  have ha2 := hm.keep ha2 (by omega)
  have ha3 := hm.keep ha3 (by omega)
  have ha4 := hm.keep ha4 (by omega)
  have ha5 := hm.keep ha5 (by omega)
  have ha6 := hm.keep ha6 (by omega)
  have ha7 := hm.keep ha7 (by omega)
  have ha8 := hm.keep ha8 (by omega)
  have ha9 := hm.keep ha9 (by omega)
  have ha10 := hm.keep ha10 (by omega)
  have ha11 := hm.1
  have hF := hF.tr (hm.fr (by omega) (by omega))
  refine lv_dup hx hb dX13_init_218 rfl ?_
  refine lv_bipush (v := 20) hx hb dX13_init_219 (by decide) ?_
  refine lv_bipush (v := 32) hx hb dX13_init_221 (by decide) ?_
  refine mm_iastS (N := 20) hC hM ha11 (by decide) (by unfold vp_in; decide) dX13_init_223 (fun w44 H1 locs hM hm hzz => ?_)
  have hz := hzz.trans hz
  have hp := hm.keep hp (by omega)
  have ha1 := hm.keep ha1 (by omega)
  have ha2 := hm.keep ha2 (by omega)
  have ha3 := hm.keep ha3 (by omega)
  have ha4 := hm.keep ha4 (by omega)
  have ha5 := hm.keep ha5 (by omega)
  have ha6 := hm.keep ha6 (by omega)
  have ha7 := hm.keep ha7 (by omega)
  have ha8 := hm.keep ha8 (by omega)
  have ha9 := hm.keep ha9 (by omega)
  have ha10 := hm.keep ha10 (by omega)
  have ha11 := hm.1
  have hF := hF.tr (hm.fr (by omega) (by omega))
  refine lv_dup hx hb dX13_init_224 rfl ?_
  refine lv_bipush (v := 21) hx hb dX13_init_225 (by decide) ?_
  refine lv_bipush (v := 109) hx hb dX13_init_227 (by decide) ?_
  refine mm_iastS (N := 21) hC hM ha11 (by decide) (by unfold vp_in; decide) dX13_init_229 (fun w45 H1 locs hM hm hzz => ?_)
  have hz := hzz.trans hz
  have hp := hm.keep hp (by omega)
  have ha1 := hm.keep ha1 (by omega)
  have ha2 := hm.keep ha2 (by omega)
  have ha3 := hm.keep ha3 (by omega)
  have ha4 := hm.keep ha4 (by omega)
  have ha5 := hm.keep ha5 (by omega)
  have ha6 := hm.keep ha6 (by omega)
  have ha7 := hm.keep ha7 (by omega)
  have ha8 := hm.keep ha8 (by omega)
  have ha9 := hm.keep ha9 (by omega)
  have ha10 := hm.keep ha10 (by omega)
  have ha11 := hm.1
  have hF := hF.tr (hm.fr (by omega) (by omega))
  refine lv_dup hx hb dX13_init_230 rfl ?_
  refine lv_bipush (v := 22) hx hb dX13_init_231 (by decide) ?_
  refine lv_bipush (v := 105) hx hb dX13_init_233 (by decide) ?_
  refine mm_iastS (N := 22) hC hM ha11 (by decide) (by unfold vp_in; decide) dX13_init_235 (fun w46 H1 locs hM hm hzz => ?_)
  have hz := hzz.trans hz
  have hp := hm.keep hp (by omega)
  have ha1 := hm.keep ha1 (by omega)
  have ha2 := hm.keep ha2 (by omega)
  have ha3 := hm.keep ha3 (by omega)
  have ha4 := hm.keep ha4 (by omega)
  have ha5 := hm.keep ha5 (by omega)
  have ha6 := hm.keep ha6 (by omega)
  have ha7 := hm.keep ha7 (by omega)
  have ha8 := hm.keep ha8 (by omega)
  have ha9 := hm.keep ha9 (by omega)
  have ha10 := hm.keep ha10 (by omega)
  have ha11 := hm.1
  have hF := hF.tr (hm.fr (by omega) (by omega))
  refine lv_dup hx hb dX13_init_236 rfl ?_
  refine lv_bipush (v := 23) hx hb dX13_init_237 (by decide) ?_
  refine lv_bipush (v := 114) hx hb dX13_init_239 (by decide) ?_
  refine mm_iastS (N := 23) hC hM ha11 (by decide) (by unfold vp_in; decide) dX13_init_241 (fun w47 H1 locs hM hm hzz => ?_)
  have hz := hzz.trans hz
  have hp := hm.keep hp (by omega)
  have ha1 := hm.keep ha1 (by omega)
  have ha2 := hm.keep ha2 (by omega)
  have ha3 := hm.keep ha3 (by omega)
  have ha4 := hm.keep ha4 (by omega)
  have ha5 := hm.keep ha5 (by omega)
  have ha6 := hm.keep ha6 (by omega)
  have ha7 := hm.keep ha7 (by omega)
  have ha8 := hm.keep ha8 (by omega)
  have ha9 := hm.keep ha9 (by omega)
  have ha10 := hm.keep ha10 (by omega)
  have ha11 := hm.1
  have hF := hF.tr (hm.fr (by omega) (by omega))
  refine lv_dup hx hb dX13_init_242 rfl ?_
  refine lv_bipush (v := 24) hx hb dX13_init_243 (by decide) ?_
  refine lv_bipush (v := 114) hx hb dX13_init_245 (by decide) ?_
  refine mm_iastS (N := 24) hC hM ha11 (by decide) (by unfold vp_in; decide) dX13_init_247 (fun w48 H1 locs hM hm hzz => ?_)
  have hz := hzz.trans hz
  have hp := hm.keep hp (by omega)
  have ha1 := hm.keep ha1 (by omega)
  have ha2 := hm.keep ha2 (by omega)
  have ha3 := hm.keep ha3 (by omega)
  have ha4 := hm.keep ha4 (by omega)
  have ha5 := hm.keep ha5 (by omega)
  have ha6 := hm.keep ha6 (by omega)
  have ha7 := hm.keep ha7 (by omega)
  have ha8 := hm.keep ha8 (by omega)
  have ha9 := hm.keep ha9 (by omega)
  have ha10 := hm.keep ha10 (by omega)
  have ha11 := hm.1
  have hF := hF.tr (hm.fr (by omega) (by omega))
  refine lv_dup hx hb dX13_init_248 rfl ?_
  refine lv_bipush (v := 25) hx hb dX13_init_249 (by decide) ?_
  refine lv_bipush (v := 111) hx hb dX13_init_251 (by decide) ?_
  refine mm_iastS (N := 25) hC hM ha11 (by decide) (by unfold vp_in; decide) dX13_init_253 (fun w49 H1 locs hM hm hzz => ?_)
  have hz := hzz.trans hz
  have hp := hm.keep hp (by omega)
  have ha1 := hm.keep ha1 (by omega)
  have ha2 := hm.keep ha2 (by omega)
  have ha3 := hm.keep ha3 (by omega)
  have ha4 := hm.keep ha4 (by omega)
  have ha5 := hm.keep ha5 (by omega)
  have ha6 := hm.keep ha6 (by omega)
  have ha7 := hm.keep ha7 (by omega)
  have ha8 := hm.keep ha8 (by omega)
  have ha9 := hm.keep ha9 (by omega)
  have ha10 := hm.keep ha10 (by omega)
  have ha11 := hm.1
  have hF := hF.tr (hm.fr (by omega) (by omega))
  refine lv_dup hx hb dX13_init_254 rfl ?_
  refine lv_bipush (v := 26) hx hb dX13_init_255 (by decide) ?_
  refine lv_bipush (v := 114) hx hb dX13_init_257 (by decide) ?_
  refine mm_iastS (N := 26) hC hM ha11 (by decide) (by unfold vp_in; decide) dX13_init_259 (fun w50 H1 locs hM hm hzz => ?_)
  have hz := hzz.trans hz
  have hp := hm.keep hp (by omega)
  have ha1 := hm.keep ha1 (by omega)
  have ha2 := hm.keep ha2 (by omega)
  have ha3 := hm.keep ha3 (by omega)
  have ha4 := hm.keep ha4 (by omega)
  have ha5 := hm.keep ha5 (by omega)
  have ha6 := hm.keep ha6 (by omega)
  have ha7 := hm.keep ha7 (by omega)
  have ha8 := hm.keep ha8 (by omega)
  have ha9 := hm.keep ha9 (by omega)
  have ha10 := hm.keep ha10 (by omega)
  have ha11 := hm.1
  have hF := hF.tr (hm.fr (by omega) (by omega))
  refine lv_dup hx hb dX13_init_260 rfl ?_
  refine lv_bipush (v := 27) hx hb dX13_init_261 (by decide) ?_
  refine lv_bipush (v := 32) hx hb dX13_init_263 (by decide) ?_
  refine mm_iastS (N := 27) hC hM ha11 (by decide) (by unfold vp_in; decide) dX13_init_265 (fun w51 H1 locs hM hm hzz => ?_)
  have hz := hzz.trans hz
  have hp := hm.keep hp (by omega)
  have ha1 := hm.keep ha1 (by omega)
  have ha2 := hm.keep ha2 (by omega)
  have ha3 := hm.keep ha3 (by omega)
  have ha4 := hm.keep ha4 (by omega)
  have ha5 := hm.keep ha5 (by omega)
  have ha6 := hm.keep ha6 (by omega)
  have ha7 := hm.keep ha7 (by omega)
  have ha8 := hm.keep ha8 (by omega)
  have ha9 := hm.keep ha9 (by omega)
  have ha10 := hm.keep ha10 (by omega)
  have ha11 := hm.1
  have hF := hF.tr (hm.fr (by omega) (by omega))
  refine lv_dup hx hb dX13_init_266 rfl ?_
  refine lv_bipush (v := 28) hx hb dX13_init_267 (by decide) ?_
  refine lv_bipush (v := 98) hx hb dX13_init_269 (by decide) ?_
  refine mm_iastS (N := 28) hC hM ha11 (by decide) (by unfold vp_in; decide) dX13_init_271 (fun w52 H1 locs hM hm hzz => ?_)
  have hz := hzz.trans hz
  have hp := hm.keep hp (by omega)
  have ha1 := hm.keep ha1 (by omega)
  have ha2 := hm.keep ha2 (by omega)
  have ha3 := hm.keep ha3 (by omega)
  have ha4 := hm.keep ha4 (by omega)
  have ha5 := hm.keep ha5 (by omega)
  have ha6 := hm.keep ha6 (by omega)
  have ha7 := hm.keep ha7 (by omega)
  have ha8 := hm.keep ha8 (by omega)
  have ha9 := hm.keep ha9 (by omega)
  have ha10 := hm.keep ha10 (by omega)
  have ha11 := hm.1
  have hF := hF.tr (hm.fr (by omega) (by omega))
  refine lv_dup hx hb dX13_init_272 rfl ?_
  refine lv_bipush (v := 29) hx hb dX13_init_273 (by decide) ?_
  refine lv_bipush (v := 97) hx hb dX13_init_275 (by decide) ?_
  refine mm_iastS (N := 29) hC hM ha11 (by decide) (by unfold vp_in; decide) dX13_init_277 (fun w53 H1 locs hM hm hzz => ?_)
  have hz := hzz.trans hz
  have hp := hm.keep hp (by omega)
  have ha1 := hm.keep ha1 (by omega)
  have ha2 := hm.keep ha2 (by omega)
  have ha3 := hm.keep ha3 (by omega)
  have ha4 := hm.keep ha4 (by omega)
  have ha5 := hm.keep ha5 (by omega)
  have ha6 := hm.keep ha6 (by omega)
  have ha7 := hm.keep ha7 (by omega)
  have ha8 := hm.keep ha8 (by omega)
  have ha9 := hm.keep ha9 (by omega)
  have ha10 := hm.keep ha10 (by omega)
  have ha11 := hm.1
  have hF := hF.tr (hm.fr (by omega) (by omega))
  refine lv_dup hx hb dX13_init_278 rfl ?_
  refine lv_bipush (v := 30) hx hb dX13_init_279 (by decide) ?_
  refine lv_bipush (v := 99) hx hb dX13_init_281 (by decide) ?_
  refine mm_iastS (N := 30) hC hM ha11 (by decide) (by unfold vp_in; decide) dX13_init_283 (fun w54 H1 locs hM hm hzz => ?_)
  have hz := hzz.trans hz
  have hp := hm.keep hp (by omega)
  have ha1 := hm.keep ha1 (by omega)
  have ha2 := hm.keep ha2 (by omega)
  have ha3 := hm.keep ha3 (by omega)
  have ha4 := hm.keep ha4 (by omega)
  have ha5 := hm.keep ha5 (by omega)
  have ha6 := hm.keep ha6 (by omega)
  have ha7 := hm.keep ha7 (by omega)
  have ha8 := hm.keep ha8 (by omega)
  have ha9 := hm.keep ha9 (by omega)
  have ha10 := hm.keep ha10 (by omega)
  have ha11 := hm.1
  have hF := hF.tr (hm.fr (by omega) (by omega))
  refine lv_dup hx hb dX13_init_284 rfl ?_
  refine lv_bipush (v := 31) hx hb dX13_init_285 (by decide) ?_
  refine lv_bipush (v := 107) hx hb dX13_init_287 (by decide) ?_
  refine mm_iastS (N := 31) hC hM ha11 (by decide) (by unfold vp_in; decide) dX13_init_289 (fun w55 H1 locs hM hm hzz => ?_)
  have hz := hzz.trans hz
  have hp := hm.keep hp (by omega)
  have ha1 := hm.keep ha1 (by omega)
  have ha2 := hm.keep ha2 (by omega)
  have ha3 := hm.keep ha3 (by omega)
  have ha4 := hm.keep ha4 (by omega)
  have ha5 := hm.keep ha5 (by omega)
  have ha6 := hm.keep ha6 (by omega)
  have ha7 := hm.keep ha7 (by omega)
  have ha8 := hm.keep ha8 (by omega)
  have ha9 := hm.keep ha9 (by omega)
  have ha10 := hm.keep ha10 (by omega)
  have ha11 := hm.1
  have hF := hF.tr (hm.fr (by omega) (by omega))
  refine lv_dup hx hb dX13_init_290 rfl ?_
  refine lv_bipush (v := 32) hx hb dX13_init_291 (by decide) ?_
  refine lv_bipush (v := 32) hx hb dX13_init_293 (by decide) ?_
  refine mm_iastS (N := 32) hC hM ha11 (by decide) (by unfold vp_in; decide) dX13_init_295 (fun w56 H1 locs hM hm hzz => ?_)
  have hz := hzz.trans hz
  have hp := hm.keep hp (by omega)
  have ha1 := hm.keep ha1 (by omega)
  have ha2 := hm.keep ha2 (by omega)
  have ha3 := hm.keep ha3 (by omega)
  have ha4 := hm.keep ha4 (by omega)
  have ha5 := hm.keep ha5 (by omega)
  have ha6 := hm.keep ha6 (by omega)
  have ha7 := hm.keep ha7 (by omega)
  have ha8 := hm.keep ha8 (by omega)
  have ha9 := hm.keep ha9 (by omega)
  have ha10 := hm.keep ha10 (by omega)
  have ha11 := hm.1
  have hF := hF.tr (hm.fr (by omega) (by omega))
  refine lv_dup hx hb dX13_init_296 rfl ?_
  refine lv_bipush (v := 33) hx hb dX13_init_297 (by decide) ?_
  refine lv_bipush (v := 114) hx hb dX13_init_299 (by decide) ?_
  refine mm_iastS (N := 33) hC hM ha11 (by decide) (by unfold vp_in; decide) dX13_init_301 (fun w57 H1 locs hM hm hzz => ?_)
  have hz := hzz.trans hz
  have hp := hm.keep hp (by omega)
  have ha1 := hm.keep ha1 (by omega)
  have ha2 := hm.keep ha2 (by omega)
  have ha3 := hm.keep ha3 (by omega)
  have ha4 := hm.keep ha4 (by omega)
  have ha5 := hm.keep ha5 (by omega)
  have ha6 := hm.keep ha6 (by omega)
  have ha7 := hm.keep ha7 (by omega)
  have ha8 := hm.keep ha8 (by omega)
  have ha9 := hm.keep ha9 (by omega)
  have ha10 := hm.keep ha10 (by omega)
  have ha11 := hm.1
  have hF := hF.tr (hm.fr (by omega) (by omega))
  refine lv_dup hx hb dX13_init_302 rfl ?_
  refine lv_bipush (v := 34) hx hb dX13_init_303 (by decide) ?_
  refine lv_bipush (v := 101) hx hb dX13_init_305 (by decide) ?_
  refine mm_iastS (N := 34) hC hM ha11 (by decide) (by unfold vp_in; decide) dX13_init_307 (fun w58 H1 locs hM hm hzz => ?_)
  have hz := hzz.trans hz
  have hp := hm.keep hp (by omega)
  have ha1 := hm.keep ha1 (by omega)
  have ha2 := hm.keep ha2 (by omega)
  have ha3 := hm.keep ha3 (by omega)
  have ha4 := hm.keep ha4 (by omega)
  have ha5 := hm.keep ha5 (by omega)
  have ha6 := hm.keep ha6 (by omega)
  have ha7 := hm.keep ha7 (by omega)
  have ha8 := hm.keep ha8 (by omega)
  have ha9 := hm.keep ha9 (by omega)
  have ha10 := hm.keep ha10 (by omega)
  have ha11 := hm.1
  have hF := hF.tr (hm.fr (by omega) (by omega))
  refine lv_dup hx hb dX13_init_308 rfl ?_
  refine lv_bipush (v := 35) hx hb dX13_init_309 (by decide) ?_
  refine lv_bipush (v := 100) hx hb dX13_init_311 (by decide) ?_
  refine mm_iastS (N := 35) hC hM ha11 (by decide) (by unfold vp_in; decide) dX13_init_313 (fun w59 H1 locs hM hm hzz => ?_)
  have hz := hzz.trans hz
  have hp := hm.keep hp (by omega)
  have ha1 := hm.keep ha1 (by omega)
  have ha2 := hm.keep ha2 (by omega)
  have ha3 := hm.keep ha3 (by omega)
  have ha4 := hm.keep ha4 (by omega)
  have ha5 := hm.keep ha5 (by omega)
  have ha6 := hm.keep ha6 (by omega)
  have ha7 := hm.keep ha7 (by omega)
  have ha8 := hm.keep ha8 (by omega)
  have ha9 := hm.keep ha9 (by omega)
  have ha10 := hm.keep ha10 (by omega)
  have ha11 := hm.1
  have hF := hF.tr (hm.fr (by omega) (by omega))
  refine lv_dup hx hb dX13_init_314 rfl ?_
  refine lv_bipush (v := 36) hx hb dX13_init_315 (by decide) ?_
  refine lv_bipush (v := 117) hx hb dX13_init_317 (by decide) ?_
  refine mm_iastS (N := 36) hC hM ha11 (by decide) (by unfold vp_in; decide) dX13_init_319 (fun w60 H1 locs hM hm hzz => ?_)
  have hz := hzz.trans hz
  have hp := hm.keep hp (by omega)
  have ha1 := hm.keep ha1 (by omega)
  have ha2 := hm.keep ha2 (by omega)
  have ha3 := hm.keep ha3 (by omega)
  have ha4 := hm.keep ha4 (by omega)
  have ha5 := hm.keep ha5 (by omega)
  have ha6 := hm.keep ha6 (by omega)
  have ha7 := hm.keep ha7 (by omega)
  have ha8 := hm.keep ha8 (by omega)
  have ha9 := hm.keep ha9 (by omega)
  have ha10 := hm.keep ha10 (by omega)
  have ha11 := hm.1
  have hF := hF.tr (hm.fr (by omega) (by omega))
  refine lv_dup hx hb dX13_init_320 rfl ?_
  refine lv_bipush (v := 37) hx hb dX13_init_321 (by decide) ?_
  refine lv_bipush (v := 99) hx hb dX13_init_323 (by decide) ?_
  refine mm_iastS (N := 37) hC hM ha11 (by decide) (by unfold vp_in; decide) dX13_init_325 (fun w61 H1 locs hM hm hzz => ?_)
  have hz := hzz.trans hz
  have hp := hm.keep hp (by omega)
  have ha1 := hm.keep ha1 (by omega)
  have ha2 := hm.keep ha2 (by omega)
  have ha3 := hm.keep ha3 (by omega)
  have ha4 := hm.keep ha4 (by omega)
  have ha5 := hm.keep ha5 (by omega)
  have ha6 := hm.keep ha6 (by omega)
  have ha7 := hm.keep ha7 (by omega)
  have ha8 := hm.keep ha8 (by omega)
  have ha9 := hm.keep ha9 (by omega)
  have ha10 := hm.keep ha10 (by omega)
  have ha11 := hm.1
  have hF := hF.tr (hm.fr (by omega) (by omega))
  refine lv_dup hx hb dX13_init_326 rfl ?_
  refine lv_bipush (v := 38) hx hb dX13_init_327 (by decide) ?_
  refine lv_bipush (v := 101) hx hb dX13_init_329 (by decide) ?_
  refine mm_iastS (N := 38) hC hM ha11 (by decide) (by unfold vp_in; decide) dX13_init_331 (fun w62 H1 locs hM hm hzz => ?_)
  have hz := hzz.trans hz
  have hp := hm.keep hp (by omega)
  have ha1 := hm.keep ha1 (by omega)
  have ha2 := hm.keep ha2 (by omega)
  have ha3 := hm.keep ha3 (by omega)
  have ha4 := hm.keep ha4 (by omega)
  have ha5 := hm.keep ha5 (by omega)
  have ha6 := hm.keep ha6 (by omega)
  have ha7 := hm.keep ha7 (by omega)
  have ha8 := hm.keep ha8 (by omega)
  have ha9 := hm.keep ha9 (by omega)
  have ha10 := hm.keep ha10 (by omega)
  have ha11 := hm.1
  have hF := hF.tr (hm.fr (by omega) (by omega))
  refine lv_dup hx hb dX13_init_332 rfl ?_
  refine lv_bipush (v := 39) hx hb dX13_init_333 (by decide) ?_
  refine lv_bipush (v := 32) hx hb dX13_init_335 (by decide) ?_
  refine mm_iastS (N := 39) hC hM ha11 (by decide) (by unfold vp_in; decide) dX13_init_337 (fun w63 H1 locs hM hm hzz => ?_)
  have hz := hzz.trans hz
  have hp := hm.keep hp (by omega)
  have ha1 := hm.keep ha1 (by omega)
  have ha2 := hm.keep ha2 (by omega)
  have ha3 := hm.keep ha3 (by omega)
  have ha4 := hm.keep ha4 (by omega)
  have ha5 := hm.keep ha5 (by omega)
  have ha6 := hm.keep ha6 (by omega)
  have ha7 := hm.keep ha7 (by omega)
  have ha8 := hm.keep ha8 (by omega)
  have ha9 := hm.keep ha9 (by omega)
  have ha10 := hm.keep ha10 (by omega)
  have ha11 := hm.1
  have hF := hF.tr (hm.fr (by omega) (by omega))
  refine lv_dup hx hb dX13_init_338 rfl ?_
  refine lv_bipush (v := 40) hx hb dX13_init_339 (by decide) ?_
  refine lv_bipush (v := 115) hx hb dX13_init_341 (by decide) ?_
  refine mm_iastS (N := 40) hC hM ha11 (by decide) (by unfold vp_in; decide) dX13_init_343 (fun w64 H1 locs hM hm hzz => ?_)
  have hz := hzz.trans hz
  have hp := hm.keep hp (by omega)
  have ha1 := hm.keep ha1 (by omega)
  have ha2 := hm.keep ha2 (by omega)
  have ha3 := hm.keep ha3 (by omega)
  have ha4 := hm.keep ha4 (by omega)
  have ha5 := hm.keep ha5 (by omega)
  have ha6 := hm.keep ha6 (by omega)
  have ha7 := hm.keep ha7 (by omega)
  have ha8 := hm.keep ha8 (by omega)
  have ha9 := hm.keep ha9 (by omega)
  have ha10 := hm.keep ha10 (by omega)
  have ha11 := hm.1
  have hF := hF.tr (hm.fr (by omega) (by omega))
  refine lv_dup hx hb dX13_init_344 rfl ?_
  refine lv_bipush (v := 41) hx hb dX13_init_345 (by decide) ?_
  refine lv_bipush (v := 97) hx hb dX13_init_347 (by decide) ?_
  refine mm_iastS (N := 41) hC hM ha11 (by decide) (by unfold vp_in; decide) dX13_init_349 (fun w65 H1 locs hM hm hzz => ?_)
  have hz := hzz.trans hz
  have hp := hm.keep hp (by omega)
  have ha1 := hm.keep ha1 (by omega)
  have ha2 := hm.keep ha2 (by omega)
  have ha3 := hm.keep ha3 (by omega)
  have ha4 := hm.keep ha4 (by omega)
  have ha5 := hm.keep ha5 (by omega)
  have ha6 := hm.keep ha6 (by omega)
  have ha7 := hm.keep ha7 (by omega)
  have ha8 := hm.keep ha8 (by omega)
  have ha9 := hm.keep ha9 (by omega)
  have ha10 := hm.keep ha10 (by omega)
  have ha11 := hm.1
  have hF := hF.tr (hm.fr (by omega) (by omega))
  refine lv_dup hx hb dX13_init_350 rfl ?_
  refine lv_bipush (v := 42) hx hb dX13_init_351 (by decide) ?_
  refine lv_bipush (v := 105) hx hb dX13_init_353 (by decide) ?_
  refine mm_iastS (N := 42) hC hM ha11 (by decide) (by unfold vp_in; decide) dX13_init_355 (fun w66 H1 locs hM hm hzz => ?_)
  have hz := hzz.trans hz
  have hp := hm.keep hp (by omega)
  have ha1 := hm.keep ha1 (by omega)
  have ha2 := hm.keep ha2 (by omega)
  have ha3 := hm.keep ha3 (by omega)
  have ha4 := hm.keep ha4 (by omega)
  have ha5 := hm.keep ha5 (by omega)
  have ha6 := hm.keep ha6 (by omega)
  have ha7 := hm.keep ha7 (by omega)
  have ha8 := hm.keep ha8 (by omega)
  have ha9 := hm.keep ha9 (by omega)
  have ha10 := hm.keep ha10 (by omega)
  have ha11 := hm.1
  have hF := hF.tr (hm.fr (by omega) (by omega))
  refine lv_dup hx hb dX13_init_356 rfl ?_
  refine lv_bipush (v := 43) hx hb dX13_init_357 (by decide) ?_
  refine lv_bipush (v := 108) hx hb dX13_init_359 (by decide) ?_
  refine mm_iastS (N := 43) hC hM ha11 (by decide) (by unfold vp_in; decide) dX13_init_361 (fun w67 H1 locs hM hm hzz => ?_)
  have hz := hzz.trans hz
  have hp := hm.keep hp (by omega)
  have ha1 := hm.keep ha1 (by omega)
  have ha2 := hm.keep ha2 (by omega)
  have ha3 := hm.keep ha3 (by omega)
  have ha4 := hm.keep ha4 (by omega)
  have ha5 := hm.keep ha5 (by omega)
  have ha6 := hm.keep ha6 (by omega)
  have ha7 := hm.keep ha7 (by omega)
  have ha8 := hm.keep ha8 (by omega)
  have ha9 := hm.keep ha9 (by omega)
  have ha10 := hm.keep ha10 (by omega)
  have ha11 := hm.1
  have hF := hF.tr (hm.fr (by omega) (by omega))
  refine lv_dup hx hb dX13_init_362 rfl ?_
  refine lv_bipush (v := 44) hx hb dX13_init_363 (by decide) ?_
  refine lv_bipush (v := 32) hx hb dX13_init_365 (by decide) ?_
  refine mm_iastS (N := 44) hC hM ha11 (by decide) (by unfold vp_in; decide) dX13_init_367 (fun w68 H1 locs hM hm hzz => ?_)
  have hz := hzz.trans hz
  have hp := hm.keep hp (by omega)
  have ha1 := hm.keep ha1 (by omega)
  have ha2 := hm.keep ha2 (by omega)
  have ha3 := hm.keep ha3 (by omega)
  have ha4 := hm.keep ha4 (by omega)
  have ha5 := hm.keep ha5 (by omega)
  have ha6 := hm.keep ha6 (by omega)
  have ha7 := hm.keep ha7 (by omega)
  have ha8 := hm.keep ha8 (by omega)
  have ha9 := hm.keep ha9 (by omega)
  have ha10 := hm.keep ha10 (by omega)
  have ha11 := hm.1
  have hF := hF.tr (hm.fr (by omega) (by omega))
  refine lv_dup hx hb dX13_init_368 rfl ?_
  refine lv_bipush (v := 45) hx hb dX13_init_369 (by decide) ?_
  refine lv_bipush (v := 119) hx hb dX13_init_371 (by decide) ?_
  refine mm_iastS (N := 45) hC hM ha11 (by decide) (by unfold vp_in; decide) dX13_init_373 (fun w69 H1 locs hM hm hzz => ?_)
  have hz := hzz.trans hz
  have hp := hm.keep hp (by omega)
  have ha1 := hm.keep ha1 (by omega)
  have ha2 := hm.keep ha2 (by omega)
  have ha3 := hm.keep ha3 (by omega)
  have ha4 := hm.keep ha4 (by omega)
  have ha5 := hm.keep ha5 (by omega)
  have ha6 := hm.keep ha6 (by omega)
  have ha7 := hm.keep ha7 (by omega)
  have ha8 := hm.keep ha8 (by omega)
  have ha9 := hm.keep ha9 (by omega)
  have ha10 := hm.keep ha10 (by omega)
  have ha11 := hm.1
  have hF := hF.tr (hm.fr (by omega) (by omega))
  refine lv_dup hx hb dX13_init_374 rfl ?_
  refine lv_bipush (v := 46) hx hb dX13_init_375 (by decide) ?_
  refine lv_bipush (v := 97) hx hb dX13_init_377 (by decide) ?_
  refine mm_iastS (N := 46) hC hM ha11 (by decide) (by unfold vp_in; decide) dX13_init_379 (fun w70 H1 locs hM hm hzz => ?_)
  have hz := hzz.trans hz
  have hp := hm.keep hp (by omega)
  have ha1 := hm.keep ha1 (by omega)
  have ha2 := hm.keep ha2 (by omega)
  have ha3 := hm.keep ha3 (by omega)
  have ha4 := hm.keep ha4 (by omega)
  have ha5 := hm.keep ha5 (by omega)
  have ha6 := hm.keep ha6 (by omega)
  have ha7 := hm.keep ha7 (by omega)
  have ha8 := hm.keep ha8 (by omega)
  have ha9 := hm.keep ha9 (by omega)
  have ha10 := hm.keep ha10 (by omega)
  have ha11 := hm.1
  have hF := hF.tr (hm.fr (by omega) (by omega))
  refine lv_dup hx hb dX13_init_380 rfl ?_
  refine lv_bipush (v := 47) hx hb dX13_init_381 (by decide) ?_
  refine lv_bipush (v := 121) hx hb dX13_init_383 (by decide) ?_
  refine mm_iastS (N := 47) hC hM ha11 (by decide) (by unfold vp_in; decide) dX13_init_385 (fun w71 H1 locs hM hm hzz => ?_)
  have hz := hzz.trans hz
  have hp := hm.keep hp (by omega)
  have ha1 := hm.keep ha1 (by omega)
  have ha2 := hm.keep ha2 (by omega)
  have ha3 := hm.keep ha3 (by omega)
  have ha4 := hm.keep ha4 (by omega)
  have ha5 := hm.keep ha5 (by omega)
  have ha6 := hm.keep ha6 (by omega)
  have ha7 := hm.keep ha7 (by omega)
  have ha8 := hm.keep ha8 (by omega)
  have ha9 := hm.keep ha9 (by omega)
  have ha10 := hm.keep ha10 (by omega)
  have ha11 := hm.1
  have hF := hF.tr (hm.fr (by omega) (by omega))
  refine lv_dup hx hb dX13_init_386 rfl ?_
  refine lv_bipush (v := 48) hx hb dX13_init_387 (by decide) ?_
  refine lv_bipush (v := 32) hx hb dX13_init_389 (by decide) ?_
  refine mm_iastS (N := 48) hC hM ha11 (by decide) (by unfold vp_in; decide) dX13_init_391 (fun w72 H1 locs hM hm hzz => ?_)
  have hz := hzz.trans hz
  have hp := hm.keep hp (by omega)
  have ha1 := hm.keep ha1 (by omega)
  have ha2 := hm.keep ha2 (by omega)
  have ha3 := hm.keep ha3 (by omega)
  have ha4 := hm.keep ha4 (by omega)
  have ha5 := hm.keep ha5 (by omega)
  have ha6 := hm.keep ha6 (by omega)
  have ha7 := hm.keep ha7 (by omega)
  have ha8 := hm.keep ha8 (by omega)
  have ha9 := hm.keep ha9 (by omega)
  have ha10 := hm.keep ha10 (by omega)
  have ha11 := hm.1
  have hF := hF.tr (hm.fr (by omega) (by omega))
  refine lv_dup hx hb dX13_init_392 rfl ?_
  refine lv_bipush (v := 49) hx hb dX13_init_393 (by decide) ?_
  refine lv_bipush (v := 108) hx hb dX13_init_395 (by decide) ?_
  refine mm_iastS (N := 49) hC hM ha11 (by decide) (by unfold vp_in; decide) dX13_init_397 (fun w73 H1 locs hM hm hzz => ?_)
  have hz := hzz.trans hz
  have hp := hm.keep hp (by omega)
  have ha1 := hm.keep ha1 (by omega)
  have ha2 := hm.keep ha2 (by omega)
  have ha3 := hm.keep ha3 (by omega)
  have ha4 := hm.keep ha4 (by omega)
  have ha5 := hm.keep ha5 (by omega)
  have ha6 := hm.keep ha6 (by omega)
  have ha7 := hm.keep ha7 (by omega)
  have ha8 := hm.keep ha8 (by omega)
  have ha9 := hm.keep ha9 (by omega)
  have ha10 := hm.keep ha10 (by omega)
  have ha11 := hm.1
  have hF := hF.tr (hm.fr (by omega) (by omega))
  refine lv_dup hx hb dX13_init_398 rfl ?_
  refine lv_bipush (v := 50) hx hb dX13_init_399 (by decide) ?_
  refine lv_bipush (v := 97) hx hb dX13_init_401 (by decide) ?_
  refine mm_iastS (N := 50) hC hM ha11 (by decide) (by unfold vp_in; decide) dX13_init_403 (fun w74 H1 locs hM hm hzz => ?_)
  have hz := hzz.trans hz
  have hp := hm.keep hp (by omega)
  have ha1 := hm.keep ha1 (by omega)
  have ha2 := hm.keep ha2 (by omega)
  have ha3 := hm.keep ha3 (by omega)
  have ha4 := hm.keep ha4 (by omega)
  have ha5 := hm.keep ha5 (by omega)
  have ha6 := hm.keep ha6 (by omega)
  have ha7 := hm.keep ha7 (by omega)
  have ha8 := hm.keep ha8 (by omega)
  have ha9 := hm.keep ha9 (by omega)
  have ha10 := hm.keep ha10 (by omega)
  have ha11 := hm.1
  have hF := hF.tr (hm.fr (by omega) (by omega))
  refine lv_dup hx hb dX13_init_404 rfl ?_
  refine lv_bipush (v := 51) hx hb dX13_init_405 (by decide) ?_
  refine lv_bipush (v := 110) hx hb dX13_init_407 (by decide) ?_
  refine mm_iastS (N := 51) hC hM ha11 (by decide) (by unfold vp_in; decide) dX13_init_409 (fun w75 H1 locs hM hm hzz => ?_)
  have hz := hzz.trans hz
  have hp := hm.keep hp (by omega)
  have ha1 := hm.keep ha1 (by omega)
  have ha2 := hm.keep ha2 (by omega)
  have ha3 := hm.keep ha3 (by omega)
  have ha4 := hm.keep ha4 (by omega)
  have ha5 := hm.keep ha5 (by omega)
  have ha6 := hm.keep ha6 (by omega)
  have ha7 := hm.keep ha7 (by omega)
  have ha8 := hm.keep ha8 (by omega)
  have ha9 := hm.keep ha9 (by omega)
  have ha10 := hm.keep ha10 (by omega)
  have ha11 := hm.1
  have hF := hF.tr (hm.fr (by omega) (by omega))
  refine lv_dup hx hb dX13_init_410 rfl ?_
  refine lv_bipush (v := 52) hx hb dX13_init_411 (by decide) ?_
  refine lv_bipush (v := 100) hx hb dX13_init_413 (by decide) ?_
  refine mm_iastS (N := 52) hC hM ha11 (by decide) (by unfold vp_in; decide) dX13_init_415 (fun w76 H1 locs hM hm hzz => ?_)
  have hz := hzz.trans hz
  have hp := hm.keep hp (by omega)
  have ha1 := hm.keep ha1 (by omega)
  have ha2 := hm.keep ha2 (by omega)
  have ha3 := hm.keep ha3 (by omega)
  have ha4 := hm.keep ha4 (by omega)
  have ha5 := hm.keep ha5 (by omega)
  have ha6 := hm.keep ha6 (by omega)
  have ha7 := hm.keep ha7 (by omega)
  have ha8 := hm.keep ha8 (by omega)
  have ha9 := hm.keep ha9 (by omega)
  have ha10 := hm.keep ha10 (by omega)
  have ha11 := hm.1
  have hF := hF.tr (hm.fr (by omega) (by omega))
  refine lv_dup hx hb dX13_init_416 rfl ?_
  refine lv_bipush (v := 53) hx hb dX13_init_417 (by decide) ?_
  refine lv_bipush (v := 105) hx hb dX13_init_419 (by decide) ?_
  refine mm_iastS (N := 53) hC hM ha11 (by decide) (by unfold vp_in; decide) dX13_init_421 (fun w77 H1 locs hM hm hzz => ?_)
  have hz := hzz.trans hz
  have hp := hm.keep hp (by omega)
  have ha1 := hm.keep ha1 (by omega)
  have ha2 := hm.keep ha2 (by omega)
  have ha3 := hm.keep ha3 (by omega)
  have ha4 := hm.keep ha4 (by omega)
  have ha5 := hm.keep ha5 (by omega)
  have ha6 := hm.keep ha6 (by omega)
  have ha7 := hm.keep ha7 (by omega)
  have ha8 := hm.keep ha8 (by omega)
  have ha9 := hm.keep ha9 (by omega)
  have ha10 := hm.keep ha10 (by omega)
  have ha11 := hm.1
  have hF := hF.tr (hm.fr (by omega) (by omega))
  refine lv_dup hx hb dX13_init_422 rfl ?_
  refine lv_bipush (v := 54) hx hb dX13_init_423 (by decide) ?_
  refine lv_bipush (v := 110) hx hb dX13_init_425 (by decide) ?_
  refine mm_iastS (N := 54) hC hM ha11 (by decide) (by unfold vp_in; decide) dX13_init_427 (fun w78 H1 locs hM hm hzz => ?_)
  have hz := hzz.trans hz
  have hp := hm.keep hp (by omega)
  have ha1 := hm.keep ha1 (by omega)
  have ha2 := hm.keep ha2 (by omega)
  have ha3 := hm.keep ha3 (by omega)
  have ha4 := hm.keep ha4 (by omega)
  have ha5 := hm.keep ha5 (by omega)
  have ha6 := hm.keep ha6 (by omega)
  have ha7 := hm.keep ha7 (by omega)
  have ha8 := hm.keep ha8 (by omega)
  have ha9 := hm.keep ha9 (by omega)
  have ha10 := hm.keep ha10 (by omega)
  have ha11 := hm.1
  have hF := hF.tr (hm.fr (by omega) (by omega))
  refine lv_dup hx hb dX13_init_428 rfl ?_
  refine lv_bipush (v := 55) hx hb dX13_init_429 (by decide) ?_
  refine lv_bipush (v := 103) hx hb dX13_init_431 (by decide) ?_
  refine mm_iastS (N := 55) hC hM ha11 (by decide) (by unfold vp_in; decide) dX13_init_433 (fun w79 H1 locs hM hm hzz => ?_)
  have hz := hzz.trans hz
  have hp := hm.keep hp (by omega)
  have ha1 := hm.keep ha1 (by omega)
  have ha2 := hm.keep ha2 (by omega)
  have ha3 := hm.keep ha3 (by omega)
  have ha4 := hm.keep ha4 (by omega)
  have ha5 := hm.keep ha5 (by omega)
  have ha6 := hm.keep ha6 (by omega)
  have ha7 := hm.keep ha7 (by omega)
  have ha8 := hm.keep ha8 (by omega)
  have ha9 := hm.keep ha9 (by omega)
  have ha10 := hm.keep ha10 (by omega)
  have ha11 := hm.1
  have hF := hF.tr (hm.fr (by omega) (by omega))
  refine lv_dup hx hb dX13_init_434 rfl ?_
  refine lv_bipush (v := 56) hx hb dX13_init_435 (by decide) ?_
  refine lv_bipush (v := 32) hx hb dX13_init_437 (by decide) ?_
  refine mm_iastS (N := 56) hC hM ha11 (by decide) (by unfold vp_in; decide) dX13_init_439 (fun w80 H1 locs hM hm hzz => ?_)
  have hz := hzz.trans hz
  have hp := hm.keep hp (by omega)
  have ha1 := hm.keep ha1 (by omega)
  have ha2 := hm.keep ha2 (by omega)
  have ha3 := hm.keep ha3 (by omega)
  have ha4 := hm.keep ha4 (by omega)
  have ha5 := hm.keep ha5 (by omega)
  have ha6 := hm.keep ha6 (by omega)
  have ha7 := hm.keep ha7 (by omega)
  have ha8 := hm.keep ha8 (by omega)
  have ha9 := hm.keep ha9 (by omega)
  have ha10 := hm.keep ha10 (by omega)
  have ha11 := hm.1
  have hF := hF.tr (hm.fr (by omega) (by omega))
  refine lv_dup hx hb dX13_init_440 rfl ?_
  refine lv_bipush (v := 57) hx hb dX13_init_441 (by decide) ?_
  refine lv_bipush (v := 102) hx hb dX13_init_443 (by decide) ?_
  refine mm_iastS (N := 57) hC hM ha11 (by decide) (by unfold vp_in; decide) dX13_init_445 (fun w81 H1 locs hM hm hzz => ?_)
  have hz := hzz.trans hz
  have hp := hm.keep hp (by omega)
  have ha1 := hm.keep ha1 (by omega)
  have ha2 := hm.keep ha2 (by omega)
  have ha3 := hm.keep ha3 (by omega)
  have ha4 := hm.keep ha4 (by omega)
  have ha5 := hm.keep ha5 (by omega)
  have ha6 := hm.keep ha6 (by omega)
  have ha7 := hm.keep ha7 (by omega)
  have ha8 := hm.keep ha8 (by omega)
  have ha9 := hm.keep ha9 (by omega)
  have ha10 := hm.keep ha10 (by omega)
  have ha11 := hm.1
  have hF := hF.tr (hm.fr (by omega) (by omega))
  refine lv_dup hx hb dX13_init_446 rfl ?_
  refine lv_bipush (v := 58) hx hb dX13_init_447 (by decide) ?_
  refine lv_bipush (v := 111) hx hb dX13_init_449 (by decide) ?_
  refine mm_iastS (N := 58) hC hM ha11 (by decide) (by unfold vp_in; decide) dX13_init_451 (fun w82 H1 locs hM hm hzz => ?_)
  have hz := hzz.trans hz
  have hp := hm.keep hp (by omega)
  have ha1 := hm.keep ha1 (by omega)
  have ha2 := hm.keep ha2 (by omega)
  have ha3 := hm.keep ha3 (by omega)
  have ha4 := hm.keep ha4 (by omega)
  have ha5 := hm.keep ha5 (by omega)
  have ha6 := hm.keep ha6 (by omega)
  have ha7 := hm.keep ha7 (by omega)
  have ha8 := hm.keep ha8 (by omega)
  have ha9 := hm.keep ha9 (by omega)
  have ha10 := hm.keep ha10 (by omega)
  have ha11 := hm.1
  have hF := hF.tr (hm.fr (by omega) (by omega))
  refine lv_dup hx hb dX13_init_452 rfl ?_
  refine lv_bipush (v := 59) hx hb dX13_init_453 (by decide) ?_
  refine lv_bipush (v := 103) hx hb dX13_init_455 (by decide) ?_
  refine mm_iastS (N := 59) hC hM ha11 (by decide) (by unfold vp_in; decide) dX13_init_457 (fun w83 H1 locs hM hm hzz => ?_)
  have hz := hzz.trans hz
  have hp := hm.keep hp (by omega)
  have ha1 := hm.keep ha1 (by omega)
  have ha2 := hm.keep ha2 (by omega)
  have ha3 := hm.keep ha3 (by omega)
  have ha4 := hm.keep ha4 (by omega)
  have ha5 := hm.keep ha5 (by omega)
  have ha6 := hm.keep ha6 (by omega)
  have ha7 := hm.keep ha7 (by omega)
  have ha8 := hm.keep ha8 (by omega)
  have ha9 := hm.keep ha9 (by omega)
  have ha10 := hm.keep ha10 (by omega)
  have ha11 := hm.1
  have hF := hF.tr (hm.fr (by omega) (by omega))
  refine lv_dup hx hb dX13_init_458 rfl ?_
  refine lv_bipush (v := 60) hx hb dX13_init_459 (by decide) ?_
  refine lv_bipush (v := 32) hx hb dX13_init_461 (by decide) ?_
  refine mm_iastS (N := 60) hC hM ha11 (by decide) (by unfold vp_in; decide) dX13_init_463 (fun w84 H1 locs hM hm hzz => ?_)
  have hz := hzz.trans hz
  have hp := hm.keep hp (by omega)
  have ha1 := hm.keep ha1 (by omega)
  have ha2 := hm.keep ha2 (by omega)
  have ha3 := hm.keep ha3 (by omega)
  have ha4 := hm.keep ha4 (by omega)
  have ha5 := hm.keep ha5 (by omega)
  have ha6 := hm.keep ha6 (by omega)
  have ha7 := hm.keep ha7 (by omega)
  have ha8 := hm.keep ha8 (by omega)
  have ha9 := hm.keep ha9 (by omega)
  have ha10 := hm.keep ha10 (by omega)
  have ha11 := hm.1
  have hF := hF.tr (hm.fr (by omega) (by omega))
  refine mm_putFN hC hM (k := 18) tyX13 hp rfl inAX13 tyX13_ok nmX13 (by decide) q7_23 rfl hnm rfl rfl rfl rfl (Nat.le_of_ble_eq_true rfl) dX13_init_464 (fun w85 H1 locs hM hm hzz => ?_)
  have hz := hzz.trans hz
  have hp := hm.1
  have ha1 := hm.keep ha1 (by omega)
  have ha2 := hm.keep ha2 (by omega)
  have ha3 := hm.keep ha3 (by omega)
  have ha4 := hm.keep ha4 (by omega)
  have ha5 := hm.keep ha5 (by omega)
  have ha6 := hm.keep ha6 (by omega)
  have ha7 := hm.keep ha7 (by omega)
  have ha8 := hm.keep ha8 (by omega)
  have ha9 := hm.keep ha9 (by omega)
  have ha10 := hm.keep ha10 (by omega)
  have ha11 := hm.keep ha11 (by omega)
  have hF := hF.tr (hm.fr (by omega) (by omega))
  refine lv_aload_n hx hb dX13_init_467 rfl (lv_at hl 0 rfl) ?_
  refine lv_bipush (v := 12) hx hb dX13_init_468 (by decide) ?_
  refine mm_newi (a := b + 12) (N := 12) hC hM (by omega) q1_66 (by decide) (by decide) (by decide) (Nat.le_of_ble_eq_true rfl) (Nat.le_of_ble_eq_true rfl) dX13_init_470 (fun w86 H hM hm hz => ?_)
  have hp := hm.keep hp (by omega)
  have ha1 := hm.keep ha1 (by omega)
  have ha2 := hm.keep ha2 (by omega)
  have ha3 := hm.keep ha3 (by omega)
  have ha4 := hm.keep ha4 (by omega)
  have ha5 := hm.keep ha5 (by omega)
  have ha6 := hm.keep ha6 (by omega)
  have ha7 := hm.keep ha7 (by omega)
  have ha8 := hm.keep ha8 (by omega)
  have ha9 := hm.keep ha9 (by omega)
  have ha10 := hm.keep ha10 (by omega)
  have ha11 := hm.keep ha11 (by omega)
  have hF := hF.tr (hm.fr (by omega) (by omega))
  have ha12 := hm.1
  refine lv_dup hx hb dX13_init_472 rfl ?_
  refine lv_iconst (v := 0) hx hb dX13_init_473 (by decide) ?_
  refine lv_iconst (v := 0) hx hb dX13_init_474 (by decide) ?_
  refine mm_iastS (N := 0) hC hM ha12 (by decide) (by unfold vp_in; decide) dX13_init_475 (fun w87 H1 locs hM hm hzz => ?_)
  have hz := hzz.trans hz
  have hp := hm.keep hp (by omega)
  have ha1 := hm.keep ha1 (by omega)
  have ha2 := hm.keep ha2 (by omega)
  have ha3 := hm.keep ha3 (by omega)
  have ha4 := hm.keep ha4 (by omega)
  have ha5 := hm.keep ha5 (by omega)
  have ha6 := hm.keep ha6 (by omega)
  have ha7 := hm.keep ha7 (by omega)
  have ha8 := hm.keep ha8 (by omega)
  have ha9 := hm.keep ha9 (by omega)
  have ha10 := hm.keep ha10 (by omega)
  have ha11 := hm.keep ha11 (by omega)
  have ha12 := hm.1
  have hF := hF.tr (hm.fr (by omega) (by omega))
  refine lv_dup hx hb dX13_init_476 rfl ?_
  refine lv_iconst (v := 1) hx hb dX13_init_477 (by decide) ?_
  refine lv_iconst (v := 5) hx hb dX13_init_478 (by decide) ?_
  refine mm_iastS (N := 1) hC hM ha12 (by decide) (by unfold vp_in; decide) dX13_init_479 (fun w88 H1 locs hM hm hzz => ?_)
  have hz := hzz.trans hz
  have hp := hm.keep hp (by omega)
  have ha1 := hm.keep ha1 (by omega)
  have ha2 := hm.keep ha2 (by omega)
  have ha3 := hm.keep ha3 (by omega)
  have ha4 := hm.keep ha4 (by omega)
  have ha5 := hm.keep ha5 (by omega)
  have ha6 := hm.keep ha6 (by omega)
  have ha7 := hm.keep ha7 (by omega)
  have ha8 := hm.keep ha8 (by omega)
  have ha9 := hm.keep ha9 (by omega)
  have ha10 := hm.keep ha10 (by omega)
  have ha11 := hm.keep ha11 (by omega)
  have ha12 := hm.1
  have hF := hF.tr (hm.fr (by omega) (by omega))
  refine lv_dup hx hb dX13_init_480 rfl ?_
  refine lv_iconst (v := 2) hx hb dX13_init_481 (by decide) ?_
  refine lv_bipush (v := 11) hx hb dX13_init_482 (by decide) ?_
  refine mm_iastS (N := 2) hC hM ha12 (by decide) (by unfold vp_in; decide) dX13_init_484 (fun w89 H1 locs hM hm hzz => ?_)
  have hz := hzz.trans hz
  have hp := hm.keep hp (by omega)
  have ha1 := hm.keep ha1 (by omega)
  have ha2 := hm.keep ha2 (by omega)
  have ha3 := hm.keep ha3 (by omega)
  have ha4 := hm.keep ha4 (by omega)
  have ha5 := hm.keep ha5 (by omega)
  have ha6 := hm.keep ha6 (by omega)
  have ha7 := hm.keep ha7 (by omega)
  have ha8 := hm.keep ha8 (by omega)
  have ha9 := hm.keep ha9 (by omega)
  have ha10 := hm.keep ha10 (by omega)
  have ha11 := hm.keep ha11 (by omega)
  have ha12 := hm.1
  have hF := hF.tr (hm.fr (by omega) (by omega))
  refine lv_dup hx hb dX13_init_485 rfl ?_
  refine lv_iconst (v := 3) hx hb dX13_init_486 (by decide) ?_
  refine lv_bipush (v := 16) hx hb dX13_init_487 (by decide) ?_
  refine mm_iastS (N := 3) hC hM ha12 (by decide) (by unfold vp_in; decide) dX13_init_489 (fun w90 H1 locs hM hm hzz => ?_)
  have hz := hzz.trans hz
  have hp := hm.keep hp (by omega)
  have ha1 := hm.keep ha1 (by omega)
  have ha2 := hm.keep ha2 (by omega)
  have ha3 := hm.keep ha3 (by omega)
  have ha4 := hm.keep ha4 (by omega)
  have ha5 := hm.keep ha5 (by omega)
  have ha6 := hm.keep ha6 (by omega)
  have ha7 := hm.keep ha7 (by omega)
  have ha8 := hm.keep ha8 (by omega)
  have ha9 := hm.keep ha9 (by omega)
  have ha10 := hm.keep ha10 (by omega)
  have ha11 := hm.keep ha11 (by omega)
  have ha12 := hm.1
  have hF := hF.tr (hm.fr (by omega) (by omega))
  refine lv_dup hx hb dX13_init_490 rfl ?_
  refine lv_iconst (v := 4) hx hb dX13_init_491 (by decide) ?_
  refine lv_bipush (v := 21) hx hb dX13_init_492 (by decide) ?_
  refine mm_iastS (N := 4) hC hM ha12 (by decide) (by unfold vp_in; decide) dX13_init_494 (fun w91 H1 locs hM hm hzz => ?_)
  have hz := hzz.trans hz
  have hp := hm.keep hp (by omega)
  have ha1 := hm.keep ha1 (by omega)
  have ha2 := hm.keep ha2 (by omega)
  have ha3 := hm.keep ha3 (by omega)
  have ha4 := hm.keep ha4 (by omega)
  have ha5 := hm.keep ha5 (by omega)
  have ha6 := hm.keep ha6 (by omega)
  have ha7 := hm.keep ha7 (by omega)
  have ha8 := hm.keep ha8 (by omega)
  have ha9 := hm.keep ha9 (by omega)
  have ha10 := hm.keep ha10 (by omega)
  have ha11 := hm.keep ha11 (by omega)
  have ha12 := hm.1
  have hF := hF.tr (hm.fr (by omega) (by omega))
  refine lv_dup hx hb dX13_init_495 rfl ?_
  refine lv_iconst (v := 5) hx hb dX13_init_496 (by decide) ?_
  refine lv_bipush (v := 28) hx hb dX13_init_497 (by decide) ?_
  refine mm_iastS (N := 5) hC hM ha12 (by decide) (by unfold vp_in; decide) dX13_init_499 (fun w92 H1 locs hM hm hzz => ?_)
  have hz := hzz.trans hz
  have hp := hm.keep hp (by omega)
  have ha1 := hm.keep ha1 (by omega)
  have ha2 := hm.keep ha2 (by omega)
  have ha3 := hm.keep ha3 (by omega)
  have ha4 := hm.keep ha4 (by omega)
  have ha5 := hm.keep ha5 (by omega)
  have ha6 := hm.keep ha6 (by omega)
  have ha7 := hm.keep ha7 (by omega)
  have ha8 := hm.keep ha8 (by omega)
  have ha9 := hm.keep ha9 (by omega)
  have ha10 := hm.keep ha10 (by omega)
  have ha11 := hm.keep ha11 (by omega)
  have ha12 := hm.1
  have hF := hF.tr (hm.fr (by omega) (by omega))
  refine lv_dup hx hb dX13_init_500 rfl ?_
  refine lv_bipush (v := 6) hx hb dX13_init_501 (by decide) ?_
  refine lv_bipush (v := 33) hx hb dX13_init_503 (by decide) ?_
  refine mm_iastS (N := 6) hC hM ha12 (by decide) (by unfold vp_in; decide) dX13_init_505 (fun w93 H1 locs hM hm hzz => ?_)
  have hz := hzz.trans hz
  have hp := hm.keep hp (by omega)
  have ha1 := hm.keep ha1 (by omega)
  have ha2 := hm.keep ha2 (by omega)
  have ha3 := hm.keep ha3 (by omega)
  have ha4 := hm.keep ha4 (by omega)
  have ha5 := hm.keep ha5 (by omega)
  have ha6 := hm.keep ha6 (by omega)
  have ha7 := hm.keep ha7 (by omega)
  have ha8 := hm.keep ha8 (by omega)
  have ha9 := hm.keep ha9 (by omega)
  have ha10 := hm.keep ha10 (by omega)
  have ha11 := hm.keep ha11 (by omega)
  have ha12 := hm.1
  have hF := hF.tr (hm.fr (by omega) (by omega))
  refine lv_dup hx hb dX13_init_506 rfl ?_
  refine lv_bipush (v := 7) hx hb dX13_init_507 (by decide) ?_
  refine lv_bipush (v := 40) hx hb dX13_init_509 (by decide) ?_
  refine mm_iastS (N := 7) hC hM ha12 (by decide) (by unfold vp_in; decide) dX13_init_511 (fun w94 H1 locs hM hm hzz => ?_)
  have hz := hzz.trans hz
  have hp := hm.keep hp (by omega)
  have ha1 := hm.keep ha1 (by omega)
  have ha2 := hm.keep ha2 (by omega)
  have ha3 := hm.keep ha3 (by omega)
  have ha4 := hm.keep ha4 (by omega)
  have ha5 := hm.keep ha5 (by omega)
  have ha6 := hm.keep ha6 (by omega)
  have ha7 := hm.keep ha7 (by omega)
  have ha8 := hm.keep ha8 (by omega)
  have ha9 := hm.keep ha9 (by omega)
  have ha10 := hm.keep ha10 (by omega)
  have ha11 := hm.keep ha11 (by omega)
  have ha12 := hm.1
  have hF := hF.tr (hm.fr (by omega) (by omega))
  refine lv_dup hx hb dX13_init_512 rfl ?_
  refine lv_bipush (v := 8) hx hb dX13_init_513 (by decide) ?_
  refine lv_bipush (v := 45) hx hb dX13_init_515 (by decide) ?_
  refine mm_iastS (N := 8) hC hM ha12 (by decide) (by unfold vp_in; decide) dX13_init_517 (fun w95 H1 locs hM hm hzz => ?_)
  have hz := hzz.trans hz
  have hp := hm.keep hp (by omega)
  have ha1 := hm.keep ha1 (by omega)
  have ha2 := hm.keep ha2 (by omega)
  have ha3 := hm.keep ha3 (by omega)
  have ha4 := hm.keep ha4 (by omega)
  have ha5 := hm.keep ha5 (by omega)
  have ha6 := hm.keep ha6 (by omega)
  have ha7 := hm.keep ha7 (by omega)
  have ha8 := hm.keep ha8 (by omega)
  have ha9 := hm.keep ha9 (by omega)
  have ha10 := hm.keep ha10 (by omega)
  have ha11 := hm.keep ha11 (by omega)
  have ha12 := hm.1
  have hF := hF.tr (hm.fr (by omega) (by omega))
  refine lv_dup hx hb dX13_init_518 rfl ?_
  refine lv_bipush (v := 9) hx hb dX13_init_519 (by decide) ?_
  refine lv_bipush (v := 49) hx hb dX13_init_521 (by decide) ?_
  refine mm_iastS (N := 9) hC hM ha12 (by decide) (by unfold vp_in; decide) dX13_init_523 (fun w96 H1 locs hM hm hzz => ?_)
  have hz := hzz.trans hz
  have hp := hm.keep hp (by omega)
  have ha1 := hm.keep ha1 (by omega)
  have ha2 := hm.keep ha2 (by omega)
  have ha3 := hm.keep ha3 (by omega)
  have ha4 := hm.keep ha4 (by omega)
  have ha5 := hm.keep ha5 (by omega)
  have ha6 := hm.keep ha6 (by omega)
  have ha7 := hm.keep ha7 (by omega)
  have ha8 := hm.keep ha8 (by omega)
  have ha9 := hm.keep ha9 (by omega)
  have ha10 := hm.keep ha10 (by omega)
  have ha11 := hm.keep ha11 (by omega)
  have ha12 := hm.1
  have hF := hF.tr (hm.fr (by omega) (by omega))
  refine lv_dup hx hb dX13_init_524 rfl ?_
  refine lv_bipush (v := 10) hx hb dX13_init_525 (by decide) ?_
  refine lv_bipush (v := 57) hx hb dX13_init_527 (by decide) ?_
  refine mm_iastS (N := 10) hC hM ha12 (by decide) (by unfold vp_in; decide) dX13_init_529 (fun w97 H1 locs hM hm hzz => ?_)
  have hz := hzz.trans hz
  have hp := hm.keep hp (by omega)
  have ha1 := hm.keep ha1 (by omega)
  have ha2 := hm.keep ha2 (by omega)
  have ha3 := hm.keep ha3 (by omega)
  have ha4 := hm.keep ha4 (by omega)
  have ha5 := hm.keep ha5 (by omega)
  have ha6 := hm.keep ha6 (by omega)
  have ha7 := hm.keep ha7 (by omega)
  have ha8 := hm.keep ha8 (by omega)
  have ha9 := hm.keep ha9 (by omega)
  have ha10 := hm.keep ha10 (by omega)
  have ha11 := hm.keep ha11 (by omega)
  have ha12 := hm.1
  have hF := hF.tr (hm.fr (by omega) (by omega))
  refine lv_dup hx hb dX13_init_530 rfl ?_
  refine lv_bipush (v := 11) hx hb dX13_init_531 (by decide) ?_
  refine lv_bipush (v := 61) hx hb dX13_init_533 (by decide) ?_
  refine mm_iastS (N := 11) hC hM ha12 (by decide) (by unfold vp_in; decide) dX13_init_535 (fun w98 H1 locs hM hm hzz => ?_)
  have hz := hzz.trans hz
  have hp := hm.keep hp (by omega)
  have ha1 := hm.keep ha1 (by omega)
  have ha2 := hm.keep ha2 (by omega)
  have ha3 := hm.keep ha3 (by omega)
  have ha4 := hm.keep ha4 (by omega)
  have ha5 := hm.keep ha5 (by omega)
  have ha6 := hm.keep ha6 (by omega)
  have ha7 := hm.keep ha7 (by omega)
  have ha8 := hm.keep ha8 (by omega)
  have ha9 := hm.keep ha9 (by omega)
  have ha10 := hm.keep ha10 (by omega)
  have ha11 := hm.keep ha11 (by omega)
  have ha12 := hm.1
  have hF := hF.tr (hm.fr (by omega) (by omega))
  refine mm_putFN hC hM (k := 19) tyX13 hp rfl inAX13 tyX13_ok nmX13 (by decide) q7_24 rfl hnm rfl rfl rfl rfl (Nat.le_of_ble_eq_true rfl) dX13_init_536 (fun w99 H1 locs hM hm hzz => ?_)
  have hz := hzz.trans hz
  have hp := hm.1
  have ha1 := hm.keep ha1 (by omega)
  have ha2 := hm.keep ha2 (by omega)
  have ha3 := hm.keep ha3 (by omega)
  have ha4 := hm.keep ha4 (by omega)
  have ha5 := hm.keep ha5 (by omega)
  have ha6 := hm.keep ha6 (by omega)
  have ha7 := hm.keep ha7 (by omega)
  have ha8 := hm.keep ha8 (by omega)
  have ha9 := hm.keep ha9 (by omega)
  have ha10 := hm.keep ha10 (by omega)
  have ha11 := hm.keep ha11 (by omega)
  have ha12 := hm.keep ha12 (by omega)
  have hF := hF.tr (hm.fr (by omega) (by omega))
  exact hret hM dX13_init_539 (by omega) ⟨⟨hp, ha1, ha2, ha3, ha4, ha5, ha6, ha7, ha8, ha9, ha10, ha11, ha12⟩, hF⟩
