theorem inLJ0 : ∀ w ∈ u_ws RJ0 TJ0 2, w ∈ lw_tbl := by
  intro w hw
  obtain ⟨k, hk, rfl⟩ := List.mem_map.mp hw
  have hk := List.mem_range.mp hk
  rcases (show k = 0 ∨ k = 1 by omega) with rfl | rfl
  · exact (List.mem_append_right _ (gT_3 (List.mem_of_getElem? (i := 166) (by decide +kernel))))
  · exact (List.mem_append_right _ (gT_3 (List.mem_of_getElem? (i := 168) (by decide +kernel))))
theorem inLJx00060 : ∀ w ∈ u_ws RJx00060 TJx00060 6, w ∈ lw_tbl := by
  intro w hw
  obtain ⟨k, hk, rfl⟩ := List.mem_map.mp hw
  have hk := List.mem_range.mp hk
  rcases (show k = 0 ∨ k = 1 ∨ k = 2 ∨ k = 3 ∨ k = 4 ∨ k = 5 by omega) with rfl | rfl | rfl | rfl | rfl | rfl
  · exact (List.mem_append_right _ (gT_3 (List.mem_of_getElem? (i := 132) (by decide +kernel))))
  · exact (List.mem_append_right _ (gT_3 (List.mem_of_getElem? (i := 134) (by decide +kernel))))
  · exact (List.mem_append_right _ (gT_3 (List.mem_of_getElem? (i := 136) (by decide +kernel))))
  · exact (List.mem_append_right _ (gT_3 (List.mem_of_getElem? (i := 138) (by decide +kernel))))
  · exact (List.mem_append_right _ (gT_3 (List.mem_of_getElem? (i := 140) (by decide +kernel))))
  · exact (List.mem_append_right _ (gT_3 (List.mem_of_getElem? (i := 142) (by decide +kernel))))
set_option maxHeartbeats 1000000 in
theorem st_X {args : Array Value} {s : State} {A : Nat → Prop} (hts : ∀ w ∈ lw_tbl, w.before args s = true) (hgv : (Cond.and given_1 narrow_1).before args s = true) (hA : ∀ a : Nat, a < s.heap.size → ¬ A a) : ∃ G : mm_G, va_K G.1 vwCl (mm_T G) s ∧ mm_X G A s s.heap := by
  have hs : ∀ w ∈ mm_NF, w.before args s = true := flat_of_before _ hgv
  have hg : ∀ w ∈ gAll, w.before args s = true := fun w hw => hts w (List.mem_filter.mp hw).1
  obtain ⟨c0, i0, k0⟩ := u_known (C := RJ0) (T := TJ0) (N := 2) (n := 4) hts inLJ0 (hg _ q3_164)
  obtain ⟨c1, i1, k1⟩ := u_known (C := RJx00060) (T := TJx00060) (N := 6) (n := 6) hts inLJx00060 (hg _ q3_91)
  obtain ⟨c2, i2, k2⟩ := u_known (C := RX2) (T := TX2) (N := 3) (n := 3) hg inAX2 (hg _ q1_222)
  obtain ⟨c3, i3, k3⟩ := u_known (C := RX3) (T := TX3) (N := 8) (n := 8) hg inAX3 (hg _ q1_68)
  obtain ⟨c4, i4, k4⟩ := u_known (C := RX4) (T := TX4) (N := 3) (n := 3) hg inAX4 (hg _ q1_161)
  obtain ⟨c5, i5, k5⟩ := u_known (C := RX5) (T := TX5) (N := 2) (n := 2) hg inAX5 (hg _ q1_124)
  obtain ⟨c6, i6, k6⟩ := u_known (C := RX6) (T := TX6) (N := 5) (n := 5) hg inAX6 (hg _ q1_42)
  obtain ⟨c7, i7, k7⟩ := u_known (C := RX7) (T := TX7) (N := 2) (n := 2) hg inAX7 (hg _ q1_209)
  obtain ⟨c8, i8, k8⟩ := u_known (C := RX8) (T := TX8) (N := 2) (n := 2) hg inAX8 (hg _ q1_109)
  obtain ⟨c9, i9, k9⟩ := u_known (C := RX9) (T := TX9) (N := 3) (n := 3) hg inAX9 (hg _ q1_48)
  obtain ⟨c10, i10, k10⟩ := u_known (C := RX10) (T := TX10) (N := 2) (n := 2) hg inAX10 (hg _ q2_1)
  obtain ⟨c11, i11, k11⟩ := u_known (C := RX11) (T := TX11) (N := 6) (n := 6) hg inAX11 (hg _ q1_181)
  obtain ⟨c12, i12, k12⟩ := u_known (C := RX12) (T := TX12) (N := 12) (n := 12) hg inAX12 (hg _ q1_34)
  obtain ⟨c13, i13, k13⟩ := u_known (C := RX13) (T := TX13) (N := 26) (n := 26) hg inAX13 (hg _ q7_0)
  obtain ⟨dC, dI, hKc⟩ : ∃ (dC : Nat → ClassId) (dI : Nat → Nat → Nat), ∀ (k : Nat) (q : vw_C), vwCl[k]? = some q → u_Kn s q.1 q.2.1 q.2.2 (dC k) (dI k) := by
    refine ⟨fun k => [c0, c1, c2, c3, c4, c5, c6, c7, c8, c9, c10, c11, c12, c13].getD k 0, fun k => [i0, i1, i2, i3, i4, i5, i6, i7, i8, i9, i10, i11, i12, i13].getD k (fun _ => 0), ?_⟩
    intro k q hq
    match k, hq with
    | 0, hq => cases hq; exact k0
    | 1, hq => cases hq; exact k1
    | 2, hq => cases hq; exact k2
    | 3, hq => cases hq; exact k3
    | 4, hq => cases hq; exact k4
    | 5, hq => cases hq; exact k5
    | 6, hq => cases hq; exact k6
    | 7, hq => cases hq; exact k7
    | 8, hq => cases hq; exact k8
    | 9, hq => cases hq; exact k9
    | 10, hq => cases hq; exact k10
    | 11, hq => cases hq; exact k11
    | 12, hq => cases hq; exact k12
    | 13, hq => cases hq; exact k13
    | k + 14, hq => simp [vwCl] at hq
  obtain ⟨r0, a0, b0⟩ := st_arr (hts _ lw_ar0)
  obtain ⟨r1, a1, b1⟩ := st_arr (hts _ lw_ar1)
  obtain ⟨r2, a2, b2⟩ := st_arrO (hts _ lw_ao)
  obtain ⟨r3, a3, b3⟩ := st_arr (hts _ lw_ar2)
  obtain ⟨r4, a4, b4⟩ := st_arr (hts _ lw_ar3)
  obtain ⟨t0, z0, y0⟩ := st_T hs hA (by decide) nf_sx1 nf_sx2 nf_sx3 (hts _ lw_ls1) (hts _ lw_in0)
  obtain ⟨t1, z1, y1⟩ := st_T hs hA (by decide) nf_sy1 nf_sy2 nf_sy3 (hts _ lw_ls2) (hts _ lw_in0)
  obtain ⟨t2, z2, y2⟩ := st_T hs hA (by decide) nf_le1 nf_le2 nf_le3 (hts _ lw_ls3) (hts _ lw_in0)
  obtain ⟨t4, z4, y4⟩ := st_T hs hA (by decide) nf_sw1 nf_sw2 nf_sw3 (hts _ lw_ls5) (hts _ lw_in1)
  obtain ⟨ad, hEn, hev⟩ := va_Enof2 (args := args) (s := s) (E := "MirrorFerry$Command") (d := "LMirrorFerry$Command;") (nm := mm_cmdN) (F := [("java/lang/Enum", "ordinal", "I", [0, 1, 2, 3, 4, 5, 6, 7, 8, 9, 10])]) (A := A)
    (fun i hi => by
      rcases (show i = 0 ∨ i = 1 ∨ i = 2 ∨ i = 3 ∨ i = 4 ∨ i = 5 ∨ i = 6 ∨ i = 7 ∨ i = 8 ∨ i = 9 ∨ i = 10 by have h : i < 11 := hi; omega) with rfl | rfl | rfl | rfl | rfl | rfl | rfl | rfl | rfl | rfl | rfl
      · exact hts _ lw_cm0
      · exact hts _ lw_cm1
      · exact hts _ lw_cm2
      · exact hts _ lw_cm3
      · exact hts _ lw_cm4
      · exact hts _ lw_cm5
      · exact hts _ lw_cm6
      · exact hts _ lw_cm7
      · exact hts _ lw_cm8
      · exact hts _ lw_cm9
      · exact hts _ lw_cm10)
    (hts _ lw_in5) (fun i hi => hs _ (nf_en1 i hi)) (fun q hq i hi => by cases List.mem_singleton.mp hq; exact hs _ (nf_en2 i hi)) (fun i j hi hj hij => (nn_en i hi j hj hij).imp (hs _) (hs _)) hA
  obtain ⟨adK, adV, hS, hevS⟩ := vk_Sof (args := args) (s := s) (N := 11) (tm := mm_tm) (len := mm_len) (byt := mm_byt) (A := A) (by decide +kernel) (fun i hi => hs _ (nf_s1 i hi)) (fun i hi => hs _ (nf_s2 i hi)) (fun i hi => hs _ (nf_s3 i hi)) (fun i hi => hs _ (nf_s4 i hi)) (fun i hi j hj => hs _ (nf_s5 i hi j hj)) (fun i j hi hj hij => (nn_s i hi j hj hij).imp (hs _) (hs _)) hA
  have hEf := va_Efof (args := args) (s := s) (N := 11) (E := "MirrorFerry$Command") (d0 := "LMirrorFerry$Command;") (o := "MirrorFerry$Command") (n := "pattern") (d := "Ljava/lang/String;") (nm := mm_cmdN) (v := fun i => .ref (adK i)) (tm := mm_tm) (ad := ad) (A := A) (fun i hi => hev i hi) (fun i hi => hs _ (nf_ef i hi)) (fun i hi => hevS i hi) hA
  obtain ⟨t3, e3, y3⟩ := va_Tof (args := args) (s := s) (tm := Term.static "MirrorFerry" "COMMANDS" "[LMirrorFerry$Command;") (ty := .object "MirrorFerry$Command") (N := 11) (f := fun k => .ref (ad k)) (A := A) (by decide) (hs _ nf_co1) (va_eqv (hs _ nf_co2) rfl) (fun j hj => va_eqv (hs _ (nf_co3 j hj)) (hev j hj)) hA
  have z3 := va_Zof (A := A) (hts _ lw_ls4) (hts _ lw_in0) e3 hA
  obtain ⟨g, g0, g1, g2, g3, g4, g10, g11, g12, g13, g14, g20, g40, g60⟩ : ∃ g : Nat → Nat, g 0 = r0 ∧ g 1 = r1 ∧ g 2 = r2 ∧ g 3 = r3 ∧ g 4 = r4 ∧ g 10 = t0 ∧ g 11 = t1 ∧ g 12 = t2 ∧ g 13 = t3 ∧ g 14 = t4 ∧ (∀ i, i < 11 → g (20 + i) = ad i) ∧ (∀ i, i < 11 → g (40 + i) = adK i) ∧ (∀ i, i < 11 → g (60 + i) = adV i) := by
    refine ⟨fun k => if k < 10 then [r0, r1, r2, r3, r4].getD k 0 else if k < 20 then [t0, t1, t2, t3, t4].getD (k - 10) 0 else if k < 40 then ad (k - 20) else if k < 60 then adK (k - 40) else adV (k - 60), rfl, rfl, rfl, rfl, rfl, rfl, rfl, rfl, rfl, rfl, fun i hi => ?_, fun i hi => ?_, fun i hi => ?_⟩
    · simp only []
      rw [if_neg (by omega), if_neg (by omega), if_pos (by omega)]
      congr 1; omega
    · simp only []
      rw [if_neg (by omega), if_neg (by omega), if_neg (by omega), if_pos (by omega)]
      congr 1; omega
    · simp only []
      rw [if_neg (by omega), if_neg (by omega), if_neg (by omega), if_neg (by omega)]
      congr 1; omega
  refine ⟨((dC, dI), g), ⟨hKc, ?_⟩, ⟨fun w hw => ?_, va_AO.of (hts _ lw_ao), fun i j h1 h2 h3 h4 h5 => va_Nc.of (hs _ (nf_nc i j h1 h2 h3 h4 h5))⟩, ⟨?_, ?_⟩, ⟨?_, ?_⟩, ⟨?_, ?_⟩, ⟨?_, ?_⟩, ⟨?_, ?_⟩, ?_, ?_, ?_, va_Zof (hts _ lw_ls6) (hts _ lw_in2) (va_eqv (hs _ nf_cs) rfl) hA, va_Zqof (hts _ lw_ls7) (hts _ lw_in3) (hs _ nf_si) hA, vx_Zqof (hts _ lw_ls8) (hts _ lw_in4) (hs _ nf_un) hA, vx_Zqof (hts _ lw_ls9) (hts _ lw_in4) (hs _ nf_su) hA⟩
  · intro k q hk
    match k, hk with
    | 0, hk => cases hk; show ArrOfT s (g 0) _ ∧ va_RA s (g 0) _; rw [g0]; exact ⟨a0, b0⟩
    | 1, hk => cases hk; show ArrOfT s (g 1) _ ∧ va_RA s (g 1) _; rw [g1]; exact ⟨a1, b1⟩
    | 2, hk => cases hk; show ArrOfT s (g 2) _ ∧ va_RA s (g 2) _; rw [g2]; exact ⟨a2, b2⟩
    | 3, hk => cases hk; show ArrOfT s (g 3) _ ∧ va_RA s (g 3) _; rw [g3]; exact ⟨a3, b3⟩
    | 4, hk => cases hk; show ArrOfT s (g 4) _ ∧ va_RA s (g 4) _; rw [g4]; exact ⟨a4, b4⟩
    | k + 5, hk => simp [mm_T] at hk
  · have h5 := List.mem_filter.mp hw
    exact va_Nw.of (mm_non hw) (hts w (List.mem_append_right _ h5.1))
  · show va_Z _ _ _ (.ref (g 10)) _ _ _; rw [g10]; exact z0
  · show va_T _ (g 10) _ _ _ _ _; rw [g10]; exact y0
  · show va_Z _ _ _ (.ref (g 11)) _ _ _; rw [g11]; exact z1
  · show va_T _ (g 11) _ _ _ _ _; rw [g11]; exact y1
  · show va_Z _ _ _ (.ref (g 12)) _ _ _; rw [g12]; exact z2
  · show va_T _ (g 12) _ _ _ _ _; rw [g12]; exact y2
  · show va_Z _ _ _ (.ref (g 13)) _ _ _; rw [g13]; exact z3
  · show va_T _ (g 13) _ (fun k => .ref (g (20 + k))) _ _ _
    rw [g13]
    obtain ⟨cell, h1, h2, h3, h4, h5, h6, h7⟩ := y3
    exact ⟨cell, h1, h2, h3, h4, h5, fun j hj => by show cell.slots[j]? = some (Value.ref (g (20 + j))); rw [g20 j hj]; exact h6 j hj, h7⟩
  · show va_Z _ _ _ (.ref (g 14)) _ _ _; rw [g14]; exact z4
  · show va_T _ (g 14) _ _ _ _ _; rw [g14]; exact y4
  · show va_En _ _ _ _ (fun i => g (20 + i)) _ _ _
    refine ⟨fun i hi => ?_, fun i j hi hj h => hEn.2 i j hi hj ?_⟩
    · show va_Z _ _ _ (.ref (g (20 + i))) _ _ _ ∧ va_O _ (g (20 + i)) _ _ _ ∧ ∀ q ∈ _, va_OF _ _ _ _ (g (20 + i)) _ _ _
      rw [g20 i hi]
      exact hEn.1 i hi
    · have h : g (20 + i) = g (20 + j) := h
      rw [g20 i hi, g20 j hj] at h
      exact h
  · intro i hi
    show va_OF _ _ _ (.ref (g (40 + i))) (g (20 + i)) _ _ _
    rw [g20 i hi, g40 i hi]
    exact hEf i hi
  · refine ⟨fun i hi => ?_, fun i j hi hj h => hS.2 i j hi hj ?_⟩
    · show va_O _ (g (40 + i)) _ _ _ ∧ va_OF _ _ _ _ (g (40 + i)) _ _ _ ∧ va_OF _ _ _ (.ref (g (60 + i))) (g (40 + i)) _ _ _ ∧ va_T _ (g (60 + i)) _ _ _ _ _
      rw [g40 i hi, g60 i hi]
      exact hS.1 i hi
    · have h : g (40 + i) = g (40 + j) := h
      rw [g40 i hi, g40 j hj] at h
      exact h

