section GSTART
variable {p : Program} {l : Launch} {e : Env} {R : Room} {s : State} {m : MethodId} {args : Array Value} {below : List Frame} {meth : Method} {c : Code} {H : Heap} {locs : List Loc} {cells slots : Nat} {Q : State → Prop}
variable {G : mm_G} {A : Nat → Prop} {cc : ByteArray} {nL : Nat} {own : String} {w : va_W} {pc a b : Nat} {ls : Array Slot} {rest st0 : List Value}
theorem mm_newJ (hC : mm_C G A p s m c cc nL args own) (hM : mm_S G A s.heap w H locs) (hz : H.size = a) {n : Int32} {N : Nat} (harr : Cond.arrayClass .long ∈ gAll) (hn : ¬ n < 0) (hN : n.toNatClampNeg = N) (hbytes : N * 8 ≤ 536870912) (hcells : cells + 1 ≤ R.cells) (hslots : slots + N ≤ R.slots) (hdg : decode cc pc = .ok (.newarray .long, 2))
    (kk : ∀ (w' : va_W) (H1 : Heap), mm_S G A s.heap w' H1 locs → mm_up w w' a (.inl (G.2 3, N, .inr (.inl (fun _ => 0)))) → H1.size = a + 1 → W p l e R s m args below meth c H1 locs (cells + 1) (slots + N) Q (F0 m (pc + 2) ls (.ref a :: rest))) : W p l e R s m args below meth c H locs cells slots Q (F0 m pc ls (.int n :: rest)) := by
  have hts := hC.1.2.2.2.2
  have hS := hM.2.2
  have hA := hC.2.2.2
  refine va_newaK (atype := .long) hC.1.1 hC.1.2.1 (hts _ harr) rfl hdg rfl hn hN hbytes hcells hslots hz fun H1 cA e1 z1 o1 hAr hNm => ?_
  subst hz
  have hcA : cA = G.2 3 := by
    have h2 := (hC.2.1.2 3 _ rfl).2
    exact Option.some.inj (hNm.symm.trans h2)
  subst hcA
  exact kk _ H1 ⟨mm_pushP hM.1 o1 (by show H1[H.size]? = some (vp_cell _ _); rw [e1]; rfl), hM.2.1.push hM.1 rfl (hA _ hS.1), ⟨Nat.le_trans hS.1 (by omega), fun x h1 h2 => (o1 x (Nat.lt_of_lt_of_le h1 hS.1)).trans (hS.2.1 x h1 h2), hS.2.2⟩⟩ (mm_push w _ _) z1
theorem mm_newD (hC : mm_C G A p s m c cc nL args own) (hM : mm_S G A s.heap w H locs) (hz : H.size = a) {n : Int32} {N : Nat} (harr : Cond.arrayClass .double ∈ gAll) (hn : ¬ n < 0) (hN : n.toNatClampNeg = N) (hbytes : N * 8 ≤ 536870912) (hcells : cells + 1 ≤ R.cells) (hslots : slots + N ≤ R.slots) (hdg : decode cc pc = .ok (.newarray .double, 2))
    (kk : ∀ (w' : va_W) (H1 : Heap), mm_S G A s.heap w' H1 locs → mm_up w w' a (.inl (G.2 4, N, .inr (.inr (.inr (.inl (fun _ => 0)))))) → H1.size = a + 1 → W p l e R s m args below meth c H1 locs (cells + 1) (slots + N) Q (F0 m (pc + 2) ls (.ref a :: rest))) : W p l e R s m args below meth c H locs cells slots Q (F0 m pc ls (.int n :: rest)) := by
  have hts := hC.1.2.2.2.2
  have hS := hM.2.2
  have hA := hC.2.2.2
  refine va_newaK (atype := .double) hC.1.1 hC.1.2.1 (hts _ harr) rfl hdg rfl hn hN hbytes hcells hslots hz fun H1 cA e1 z1 o1 hAr hNm => ?_
  subst hz
  have hcA : cA = G.2 4 := by
    have h2 := (hC.2.1.2 4 _ rfl).2
    exact Option.some.inj (hNm.symm.trans h2)
  subst hcA
  exact kk _ H1 ⟨mm_pushP hM.1 o1 (by show H1[H.size]? = some (vp_cell _ _); rw [e1]; rfl), hM.2.1.push hM.1 rfl (hA _ hS.1), ⟨Nat.le_trans hS.1 (by omega), fun x h1 h2 => (o1 x (Nat.lt_of_lt_of_le h1 hS.1)).trans (hS.2.1 x h1 h2), hS.2.2⟩⟩ (mm_push w _ _) z1
set_option maxHeartbeats 4000000 in
set_option maxRecDepth 100000 in
theorem g_start (R : g_RelT) (h0 : g_ok0 R) (h1 : g_ok1 R) (h2 : g_ok2 R) (h3 : g_ok3 R) (h4 : g_ok4 R) (h5 : g_ok5 R) (h6 : g_ok6 R) (h7 : g_ok7 R) (h8 : g_ok8 R) (h9 : g_ok9 R) (h10 : g_ok10 R) (h11 : g_ok11 R) (h12 : g_ok12 R) (h13 : g_ok13 R) (h14 : g_ok14 R) (h15 : g_ok15 R) (h16 : g_ok16 R) (h17 : g_ok17 R) (h18 : g_ok18 R) (h19 : g_ok19 R) (h20 : g_ok20 R) (h21 : g_ok21 R) (h22 : g_ok22 R) (h23 : g_ok23 R) (h24 : g_ok24 R) (h25 : g_ok25 R) (h26 : g_ok26 R) (h27 : g_ok27 R) (h28 : g_ok28 R) (h29 : g_ok29 R) (h30 : g_ok30 R) (h31 : g_ok31 R) (h32 : g_ok32 R) (h33 : g_ok33 R) (h34 : g_ok34 R) (h35 : g_ok35 R) (h36 : g_ok36 R) (h37 : g_ok37 R) (h38 : g_ok38 R) (h39 : g_ok39 R) (h40 : g_ok40 R) (h41 : g_ok41 R) (h42 : g_ok42 R) (h43 : g_ok43 R) (h44 : g_ok44 R) (h45 : g_ok45 R) (h46 : g_ok46 R) (h47 : g_ok47 R) (h48 : g_ok48 R) (h49 : g_ok49 R) (h50 : g_ok50 R) (h51 : g_ok51 R) (h52 : g_ok52 R) (h53 : g_ok53 R) (h54 : g_ok54 R) (h55 : g_ok55 R) (h56 : g_ok56 R) (h57 : g_ok57 R) (h58 : g_ok58 R) (hR0 : R (fun _ => 0) 0 0 (fun _ => 0) (fun _ => 0) (fun _ => 0) 0 0 0 0 0 (fun _ => 0) (fun _ => 0) (fun _ => 0) 0 0 (fun _ => 0) 0 0 (fun _ => 0) (fun _ => 0) (fun _ => 0) 0 0 0 0 0 (fun _ => 0) (fun _ => 0) (fun _ => 0) 0 0 (fun _ => mm_MV0) 0 0 (fun _ => 0) (fun _ => 0) (fun _ => 0) 0 (fun _ => 0) (fun _ => 0) (fun _ => 0) (fun _ => 0) (fun _ => 0) (fun _ => 0) 0 (fun _ => 0) 0 (fun _ => 0) 0 (fun _ => 0) 0 (-1) (-1) 0 0 (-1) (-1) 0 (fun _ => 0) (fun _ => 0) (fun _ => 0) (fun _ => 0) (fun _ => 0) (fun _ => 0) (fun _ => 0) 0 0 0 (fun _ => 0) (fun _ => 0) (fun _ => 0) mm_arr_X13_words mm_arr_X13_wordAt 0 0 0 0 0 0) {p : Program} {e : Env} {s : State} {m : MethodId} {below : List Frame} {meth : Method} {c : Code} (l : Launch) (hflags : l.flags = flags0) {b L : Nat} {xs : Nat → Int32} (hL : L ≤ 2560) (C0 : lw_At p s m meth c b L xs) : W p l e room_1 s m #[Value.ref b] below meth c s.heap [] 0 0 (lw_Z below #[Value.ref b] s) (entryFrame m ([Value.ref b] : List Value).toArray 10) := by
  obtain ⟨hx, hb, hr, hml, hown, hts, hX, hbl, hlocks, hgv⟩ := id C0
  have hfl : l.stackTraces = false := by
    unfold Launch.stackTraces
    rw [hflags]
    decide +kernel
  have hbA : ¬ (fun q : Nat => s.heap.size ≤ q) b := Nat.not_le.mpr hbl
  obtain ⟨G, hK, hXX⟩ := st_X (A := fun q : Nat => s.heap.size ≤ q) hts hgv (fun a h => Nat.not_le.mpr h)
  have hC : mm_C G (fun q : Nat => s.heap.size ≤ q) p s m c code 10 #[Value.ref b] "MirrorFerryLaw" := ⟨⟨hx, hb, hml, hown, fun w hw => hts w (List.mem_filter.mp hw).1⟩, hK, hXX, fun _ h => h⟩
  have hM : mm_S G (fun q : Nat => s.heap.size ≤ q) s.heap [] s.heap [] := ⟨fun k q h => by simp at h, ⟨fun i j p q h => by simp at h, fun k q h => by simp at h⟩, va_S.rf⟩
  have hl := lv_entry ([.ref b]) (n := 10) (Nat.le_of_ble_eq_true rfl)
  rw [lg_entry_eq]
  generalize (lg_sl ([.ref b]) ++ List.replicate (10 - (lg_sl ([.ref b])).length) Slot.unset).toArray = ls at hl ⊢
  have hl : lv_has ls 10 [(0, .ref b)] := hl
  refine mm_new (a := s.heap.size) (fs := [.null, .null, .null, .null, .null, .null, .null, .null, .null, .int 0, .int 0, .int 0]) (C := RX12) (T := TX12) (N := 12) (ci := 12) tyX12 hC hM rfl rfl inAX12 tyX12_ok q1_33 q1_34 q1_1 (fun j hj => by rcases (show j = 0 ∨ j = 1 ∨ j = 2 ∨ j = 3 ∨ j = 4 ∨ j = 5 ∨ j = 6 ∨ j = 7 ∨ j = 8 ∨ j = 9 ∨ j = 10 ∨ j = 11 by omega) with rfl | rfl | rfl | rfl | rfl | rfl | rfl | rfl | rfl | rfl | rfl | rfl <;> rfl) (Nat.le_of_ble_eq_true rfl) (Nat.le_of_ble_eq_true rfl) dL_law_0 (fun w1 H hM hm hz => ?_)
  refine lv_dup hx hb dL_law_3 rfl ?_
  refine mm_IcN (rest := [.ref s.heap.size]) hC hM (c_X12_init l (b := s.heap.size) hz hm.1) q1_37 q1_1 ykX12_init q1_35 q1_36 rfl ⟨rfl, rfl⟩ ⟨Nat.le_of_ble_eq_true rfl, Nat.le_of_ble_eq_true rfl⟩ rfl hl.1 rfl (Nat.le_of_ble_eq_true rfl) dL_law_4 ⟨Nat.le_of_ble_eq_true rfl, Nat.le_of_ble_eq_true rfl⟩ (fun w2 H locs hM hz hw => ?_)
  obtain ⟨hp1, -⟩ := hw
  refine lv_astore_n (lv' := [(1, .ref s.heap.size), (0, .ref b)]) hx hb dL_law_7 rfl hl (by decide) rfl (fun ls hl => ?_)
  refine mm_new (a := s.heap.size + 152) (fs := [.int 0, .int 0, .int 0, .int 0, .int 0, .null, .null, .null, .null, .null, .null, .null, .int 0, .int 0, .int 0, .null, .null, .null, .null, .null, .int 0, .int 0, .int 0, .int 0, .int 0, .int 0]) (C := RX13) (T := TX13) (N := 26) (ci := 13) tyX13 hC hM hz rfl inAX13 tyX13_ok q6_239 q7_0 q1_12 (fun j hj => by rcases (show j = 0 ∨ j = 1 ∨ j = 2 ∨ j = 3 ∨ j = 4 ∨ j = 5 ∨ j = 6 ∨ j = 7 ∨ j = 8 ∨ j = 9 ∨ j = 10 ∨ j = 11 ∨ j = 12 ∨ j = 13 ∨ j = 14 ∨ j = 15 ∨ j = 16 ∨ j = 17 ∨ j = 18 ∨ j = 19 ∨ j = 20 ∨ j = 21 ∨ j = 22 ∨ j = 23 ∨ j = 24 ∨ j = 25 by omega) with rfl | rfl | rfl | rfl | rfl | rfl | rfl | rfl | rfl | rfl | rfl | rfl | rfl | rfl | rfl | rfl | rfl | rfl | rfl | rfl | rfl | rfl | rfl | rfl | rfl | rfl <;> rfl) (Nat.le_of_ble_eq_true rfl) (Nat.le_of_ble_eq_true rfl) dL_law_8 (fun w3 H hM hm hz => ?_)
  have hp1 := hp1.up hm (by omega)
  refine lv_dup hx hb dL_law_11 rfl ?_
  refine mm_IcN (rest := [.ref (s.heap.size + 152)]) hC hM (c_X13_init l (b := s.heap.size + 152) hz hm.1) q7_3 q1_12 ykX13_init q7_1 q7_2 rfl ⟨rfl, rfl⟩ ⟨Nat.le_of_ble_eq_true rfl, Nat.le_of_ble_eq_true rfl⟩ rfl hl.1 rfl (Nat.le_of_ble_eq_true rfl) dL_law_12 ⟨Nat.le_of_ble_eq_true rfl, Nat.le_of_ble_eq_true rfl⟩ (fun w4 H locs hM hz hw => ?_)
  obtain ⟨hp2, hfr⟩ := hw
  have hp1 := hp1.keep hfr (by omega)
  refine lv_astore_n (lv' := [(2, .ref (s.heap.size + 152)), (1, .ref s.heap.size), (0, .ref b)]) hx hb dL_law_15 rfl hl (by decide) rfl (fun ls hl => ?_)
  refine lv_iconst (v := 1) hx hb dL_law_16 (by decide) ?_
  refine mm_newJ (a := s.heap.size + 152 + 13) (N := 1) hC hM hz q9_88 (by decide) rfl (Nat.le_of_ble_eq_true rfl) (Nat.le_of_ble_eq_true rfl) (Nat.le_of_ble_eq_true rfl) dL_law_17 (fun w5 H hM hm hz => ?_)
  have hp1 := hp1.up hm (by omega)
  have hp2 := hp2.up hm (by omega)
  have hp3 := hm.1
  refine lv_astore_n (lv' := [(3, .ref (s.heap.size + 152 + 13)), (2, .ref (s.heap.size + 152)), (1, .ref s.heap.size), (0, .ref b)]) hx hb dL_law_19 rfl hl (by decide) rfl (fun ls hl => ?_)
  refine lv_iconst (v := 1) hx hb dL_law_20 (by decide) ?_
  refine mm_newD (a := s.heap.size + 152 + 13 + 1) (N := 1) hC hM hz q9_89 (by decide) rfl (Nat.le_of_ble_eq_true rfl) (Nat.le_of_ble_eq_true rfl) (Nat.le_of_ble_eq_true rfl) dL_law_21 (fun w6 H hM hm hz => ?_)
  have hp1 := hp1.up hm (by omega)
  have hp2 := hp2.up hm (by omega)
  have hp3 := hm.keep hp3 (by omega)
  have hp4 := hm.1
  refine lv_astore (lv' := [(4, .ref (s.heap.size + 152 + 13 + 1)), (3, .ref (s.heap.size + 152 + 13)), (2, .ref (s.heap.size + 152)), (1, .ref s.heap.size), (0, .ref b)]) hx hb dL_law_23 hl (by decide) rfl (fun ls hl => ?_)
  refine lv_iconst (v := 0) hx hb dL_law_25 (by decide) ?_
  refine lv_istore (lv' := [(5, .int (Int32.ofNat (5 * 0))), (4, .ref (s.heap.size + 152 + 13 + 1)), (3, .ref (s.heap.size + 152 + 13)), (2, .ref (s.heap.size + 152)), (1, .ref s.heap.size), (0, .ref b)]) hx hb dL_law_26 hl (by decide) rfl (fun ls hl => ?_)
  refine g_loop R h0 h1 h2 h3 h4 h5 h6 h7 h8 h9 h10 h11 h12 h13 h14 h15 h16 h17 h18 h19 h20 h21 h22 h23 h24 h25 h26 h27 h28 h29 h30 h31 h32 h33 h34 h35 h36 h37 h38 h39 h40 h41 h42 h43 h44 h45 h46 h47 h48 h49 h50 h51 h52 h53 h54 h55 h56 h57 h58 hC hX hbl hbA (by omega) (by omega) (by omega) hfl hL ?_ 513 0 (by omega) (by omega) w6 H locs _ _ hM ⟨_, _, _, _, _, _, _, _, _, _, _, _, _, _, _, _, _, _, _, _, _, _, _, _, _, _, _, _, _, _, _, _, _, _, _, _, _, _, _, _, _, _, _, _, _, _, _, _, _, _, _, _, _, _, _, _, _, _, _, _, _, _, _, _, _, _, _, _, _, _, _, _, _, _, _, _, _, _, _, _, _, _, hR0, hp1, hp2, hp3, hp4⟩ (by omega) (by omega) ls (lv_sub hl [5, 4, 3, 2, 1, 0] rfl)
  intro H locs w ls cells slots hM h1 h2
  refine va_forget (fun q hq => hM.2.2.2.2 q hq) ?_
  refine lv_iconst (v := 1) hx hb dL_law_3351 (by decide) ?_
  exact W.widen h1 h2 (lw_ret (d0 := s.drawn) (Drawn.sameBut.refl s.drawn lw_cs) hx hb hr hlocks dL_law_3352)
end GSTART
