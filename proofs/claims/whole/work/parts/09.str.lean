/-- texts and the commands' patterns -/
def mm_pl (k : Nat) : Int32 := Int32.ofNat (mm_len.getD k 0)
def mm_pb (k j : Nat) : Int32 := (mm_byt.getD k []).getD j 0
def mm_pc (k j : Nat) : Int32 := ((mm_pb k j &&& 255).toUInt32 % 65536).toInt32
section MM9
variable {p : Program} {l : Launch} {e : Env} {R : Room} {s : State} {m : MethodId} {args : Array Value} {below : List Frame} {meth : Method} {c : Code} {H : Heap} {locs : List Loc} {cells slots : Nat} {Q : State → Prop}
variable {G : mm_G} {A : Nat → Prop} {cc : ByteArray} {nL : Nat} {own : String} {w : va_W} {pc a b : Nat} {ls : Array Slot} {rest st0 : List Value}
theorem mm_taald {t N : Nat} {C : String} {f : Nat → Value} (hexec : p.tables.exec = Jvm.exec) (hb : c.code = cc) (hT : va_T (.object C) t N f A s s.heap) (hS : va_S A s.heap H locs) {i : Int32} (hin : vp_in i N) {v : Value} (hv : f i.toNatClampNeg = v) (hdg : decode cc pc = .ok (.aaload, 1))
    (kk : W p l e R s m args below meth c H locs cells slots Q (F0 m (pc + 1) ls (v :: rest))) : W p l e R s m args below meth c H locs cells slots Q (F0 m pc ls (.int i :: .ref t :: rest)) := by
  obtain ⟨cell, h1, h2, h3, h4, h5, h6, h7⟩ := hT
  have hlt : i.toNatClampNeg < N := Nat.not_le.mp fun q => hin (Or.inr q)
  have hin' : ¬ (i < 0 ∨ cell.slots.size ≤ i.toNatClampNeg) := by
    intro q
    rcases q with q | q
    · exact hin (Or.inl q)
    · omega
  exact W.aald (v := v) (ty := .object C) hexec hb (by rw [hS.2.1 t (Array.getElem?_eq_some_iff.mp h1).1 h7]; exact h1) h2 rfl h3 hin' (by rw [h6 _ hlt, hv]) rfl rfl hdg kk
section MM9K
variable {y : MethodName} {bytes : ByteArray} {maxL mc ms n index : Nat} {ret : Option FieldType} {rm : Room} {As : List Value} {C : String}
/-- a call on an object outside the world -/
theorem mm_Ri {post : Int32 → va_W → Prop} (hC : mm_C G A p s m c cc nL args own) (hM : mm_S G A s.heap w H locs) (hMet : Met l y (Cond.code y bytes maxL ret :: gAll) rm (va_Pc (.ref b :: As) (mm_Pre G w H.size)) (mm_Qi G w H.size post) mc ms (va_A w H.size)) (hcode : Cond.code y bytes maxL ret ∈ gAll) (hini : Cond.initialized y.cls ∈ gAll) (hd : mm_yk y n) (hlink : Cond.methodLink own index y ∈ gAll) (hinst : Cond.instanceMethod y ∈ gAll) (hsel : Cond.selects C y y ∈ gAll) (hrecv : ∃ cellB : Cell, H[b]? = some cellB ∧ cellB.vm.isStatics = false ∧ s.vm.findClass C = some cellB.cls) (hrm : rm.cells = mc ∧ rm.slots = ms) (hR : rm.frames + 1 ≤ R.frames ∧ 8 + (maxL + 11) + rm.locals ≤ R.locals) (hn : As.length = n) (hsize : ls.size = nL) (hst : st0 = As.reverse ++ .ref b :: rest) (hW : (rest.map fun v => v.category).sum ≤ 8) (hdg : decode cc pc = .ok (.invokevirtual index, 3)) (hf : cells + mc ≤ R.cells ∧ slots + ms ≤ R.slots)
    (kk : ∀ (r : Int32) (w' : va_W) (H1 : Heap) (locs1 : List Loc), mm_S G A s.heap w' H1 locs1 → post r w' → W p l e R s m args below meth c H1 locs1 (cells + mc) (slots + ms) Q (F0 m (pc + 3) ls (.int r :: rest))) : W p l e R s m args below meth c H locs cells slots Q (F0 m pc ls st0) :=
  mm_ci (va_runV hC.1 hMet ⟨mm_cb hC hcode hini hd hlink hrm hR, hC.1.2.2.2.2 _ hinst, hC.1.2.2.2.2 _ hsel⟩ ⟨mm_blind, hrecv, fun U hU hW => ⟨rfl, mm_pre hC hM hU hW⟩⟩ rfl hn hsize hst (lv_room hW) hdg hf) hC hM kk
/-- an inherited method, on an object outside the world -/
theorem mm_RUi {post : Int32 → va_W → Prop} {x : MethodName} {owner : String} (hC : mm_C G A p s m c cc nL args own) (hM : mm_S G A s.heap w H locs) (hMet : Met l y (Cond.code y bytes maxL ret :: gAll) rm (va_Pc (.ref b :: As) (mm_Pre G w H.size)) (mm_Qi G w H.size post) mc ms (va_A w H.size)) (hcode : Cond.code y bytes maxL ret ∈ gAll) (hini : Cond.initialized y.cls ∈ gAll) (hd : mm_yk y n) (hyx : y = ⟨owner, x.name, x.desc⟩) (hlink : Cond.methodLink own index x ∈ gAll) (hsame : Cond.sameMethod x.cls owner x.name x.desc ∈ gAll) (hinst : Cond.instanceMethod y ∈ gAll) (hsel : Cond.selects C x y ∈ gAll) (hrecv : ∃ cellB : Cell, H[b]? = some cellB ∧ cellB.vm.isStatics = false ∧ s.vm.findClass C = some cellB.cls) (hrm : rm.cells = mc ∧ rm.slots = ms) (hR : rm.frames + 1 ≤ R.frames ∧ 8 + (maxL + 11) + rm.locals ≤ R.locals) (hn : As.length = n) (hsize : ls.size = nL) (hst : st0 = As.reverse ++ .ref b :: rest) (hW : (rest.map fun v => v.category).sum ≤ 8) (hdg : decode cc pc = .ok (.invokevirtual index, 3)) (hf : cells + mc ≤ R.cells ∧ slots + ms ≤ R.slots)
    (kk : ∀ (r : Int32) (w' : va_W) (H1 : Heap) (locs1 : List Loc), mm_S G A s.heap w' H1 locs1 → post r w' → W p l e R s m args below meth c H1 locs1 (cells + mc) (slots + ms) Q (F0 m (pc + 3) ls (.int r :: rest))) : W p l e R s m args below meth c H locs cells slots Q (F0 m pc ls st0) := by
  have hgi : GoodIn gAll (va_wsU own index C owner x y (Cond.code y bytes maxL ret :: gAll)) := by
    intro w0 hw0
    have hin : w0 ∈ gAll := by
      simp only [va_wsU, List.cons_append, List.nil_append, List.mem_cons] at hw0
      rcases hw0 with rfl | rfl | rfl | rfl | rfl | rfl | h
      · exact hlink
      · exact hsame
      · exact hsel
      · exact hinst
      · exact hini
      · exact hcode
      · exact h
    exact ⟨hin, good_of_word (gA_good hin)⟩
  refine mm_ci (va_runU hC.1 hMet (va_cwU n hC.1.2.2.2.2 hgi rfl hrm.1 hrm.2 hyx ?_ hR) ⟨mm_blind, hrecv, fun U hU hW => ⟨rfl, mm_pre hC hM hU hW⟩⟩ rfl hn hsize hst (lv_room hW) hdg hf) hC hM kk
  have hd1 := hd
  rw [hyx] at hd1
  exact hd1
end MM9K
end MM9
set_option maxHeartbeats 4000000 in
theorem c_J3_checkIndex_n (l : Launch) {G : mm_G} {w : va_W} {sz : Nat} {x0 x1 : Int32} (h0 : ¬ x0 < 0) (h1 : x0 < x1) : Met l yJ3_checkIndex_8e157 (Cond.code yJ3_checkIndex_8e157 cJ3_checkIndex_8e157 3 (some .int) :: gAll) ({ frames := 0, cells := 0, slots := 0, locals := 0 }) (va_Pc [.int x0, .int x1, .null] (mm_Pre G w sz)) (mm_Qi G w sz (fun r w' => r = x0 ∧ w' = w)) 0 0 (va_A w sz) := by
  refine mm_headI [.int x0, .int x1, .null] (by decide +kernel) rfl (Nat.le_of_ble_eq_true rfl) ?_
  intro p e s m args below meth c A Q hsz hC hM hret ls hl
  have hx := hC.1.1
  have hb := hC.1.2.1
  have hl : lv_has ls 3 [(0, .int x0), (1, .int x1), (2, .null)] := hl
  refine lv_iload_n hx hb dJ3_checkIndex_8e157_0 rfl (lv_at hl 0 rfl) ?_
  refine lv_if_lt (tgt := 9) hx hb dJ3_checkIndex_8e157_1 (by decide) (fun hcd => absurd hcd h0) (fun _ => ?_)
  refine lv_iload_n hx hb dJ3_checkIndex_8e157_4 rfl (lv_at hl 0 rfl) ?_
  refine lv_iload_n hx hb dJ3_checkIndex_8e157_5 rfl (lv_at hl 1 rfl) ?_
  refine lv_icmp_lt (tgt := 16) hx hb dJ3_checkIndex_8e157_6 (by decide) (fun _ => ?_) (fun hcd => absurd h1 hcd)
  refine lv_iload_n hx hb dJ3_checkIndex_8e157_16 rfl (lv_at hl 0 rfl) ?_
  exact hret hM dJ3_checkIndex_8e157_17 rfl ⟨rfl, rfl⟩
set_option maxHeartbeats 4000000 in
theorem c_J3_checkIndex_r (l : Launch) {G : mm_G} {w : va_W} {sz : Nat} {t : Nat} {x0 x1 : Int32} (h0 : ¬ x0 < 0) (h1 : x0 < x1) : Met l yJ3_checkIndex_8e157 (Cond.code yJ3_checkIndex_8e157 cJ3_checkIndex_8e157 3 (some .int) :: gAll) ({ frames := 0, cells := 0, slots := 0, locals := 0 }) (va_Pc [.int x0, .int x1, .ref t] (mm_Pre G w sz)) (mm_Qi G w sz (fun r w' => r = x0 ∧ w' = w)) 0 0 (va_A w sz) := by
  refine mm_headI [.int x0, .int x1, .ref t] (by decide +kernel) rfl (Nat.le_of_ble_eq_true rfl) ?_
  intro p e s m args below meth c A Q hsz hC hM hret ls hl
  have hx := hC.1.1
  have hb := hC.1.2.1
  have hl : lv_has ls 3 [(0, .int x0), (1, .int x1), (2, .ref t)] := hl
  refine lv_iload_n hx hb dJ3_checkIndex_8e157_0 rfl (lv_at hl 0 rfl) ?_
  refine lv_if_lt (tgt := 9) hx hb dJ3_checkIndex_8e157_1 (by decide) (fun hcd => absurd hcd h0) (fun _ => ?_)
  refine lv_iload_n hx hb dJ3_checkIndex_8e157_4 rfl (lv_at hl 0 rfl) ?_
  refine lv_iload_n hx hb dJ3_checkIndex_8e157_5 rfl (lv_at hl 1 rfl) ?_
  refine lv_icmp_lt (tgt := 16) hx hb dJ3_checkIndex_8e157_6 (by decide) (fun _ => ?_) (fun hcd => absurd h1 hcd)
  refine lv_iload_n hx hb dJ3_checkIndex_8e157_16 rfl (lv_at hl 0 rfl) ?_
  exact hret hM dJ3_checkIndex_8e157_17 rfl ⟨rfl, rfl⟩
set_option maxHeartbeats 4000000 in
theorem c_J0_checkIndex_df160 (l : Launch) {G : mm_G} {w : va_W} {sz : Nat} {x0 x1 : Int32} (h0 : ¬ x0 < 0) (h1 : x0 < x1) : Met l yJ0_checkIndex_df160 (Cond.code yJ0_checkIndex_df160 cJ0_checkIndex_df160 2 none :: gAll) ({ frames := 1, cells := 0, slots := 0, locals := 40 }) (va_Pc [.int x0, .int x1] (mm_Pre G w sz)) (mm_Qv G w sz (fun w' => w' = w)) 0 0 (va_A w sz) := by
  refine mm_headV [.int x0, .int x1] (by decide +kernel) rfl (Nat.le_of_ble_eq_true rfl) ?_
  intro p e s m args below meth c A Q hsz hC hM hret hnm ls hl
  have hx := hC.1.1
  have hb := hC.1.2.1
  have hl : lv_has ls 2 [(0, .int x0), (1, .int x1)] := hl
  refine lv_iload_n hx hb dJ0_checkIndex_df160_0 rfl (lv_at hl 0 rfl) ?_
  refine lv_iload_n hx hb dJ0_checkIndex_df160_1 rfl (lv_at hl 1 rfl) ?_
  rcases hC.2.2.1.2.2.2.2.2.2.2.2.2.2.1 with hz | ⟨t, hz⟩
  · refine va_gets hx hb hz hM.2.2 hC.1.2.2.2.1 (hC.1.2.2.2.2 _ q6_49) (fun _ h => h) dJ0_checkIndex_df160_2 ?_
    refine mm_Si (rest := []) hC hM (c_J3_checkIndex_n l h0 h1) q6_53 q1_27 ykJ3_checkIndex_8e157 q6_51 q6_52 ⟨rfl, rfl⟩ ⟨Nat.le_of_ble_eq_true rfl, Nat.le_of_ble_eq_true rfl⟩ rfl hl.1 rfl (Nat.le_of_ble_eq_true rfl) dJ0_checkIndex_df160_5 ⟨Nat.le_of_ble_eq_true rfl, Nat.le_of_ble_eq_true rfl⟩ (fun r w5 H locs hM hw => ?_)
    obtain ⟨hr, hw⟩ := hw
    rw [hw] at hM
    refine lv_pop hx hb dJ0_checkIndex_df160_8 rfl ?_
    exact hret hM dJ0_checkIndex_df160_9 rfl
  · refine va_gets hx hb hz hM.2.2 hC.1.2.2.2.1 (hC.1.2.2.2.2 _ q6_49) (fun _ h => h) dJ0_checkIndex_df160_2 ?_
    refine mm_Si (rest := []) hC hM (c_J3_checkIndex_r l h0 h1) q6_53 q1_27 ykJ3_checkIndex_8e157 q6_51 q6_52 ⟨rfl, rfl⟩ ⟨Nat.le_of_ble_eq_true rfl, Nat.le_of_ble_eq_true rfl⟩ rfl hl.1 rfl (Nat.le_of_ble_eq_true rfl) dJ0_checkIndex_df160_5 ⟨Nat.le_of_ble_eq_true rfl, Nat.le_of_ble_eq_true rfl⟩ (fun r w5 H locs hM hw => ?_)
    obtain ⟨hr, hw⟩ := hw
    rw [hw] at hM
    refine lv_pop hx hb dJ0_checkIndex_df160_8 rfl ?_
    exact hret hM dJ0_checkIndex_df160_9 rfl
set_option maxHeartbeats 4000000 in
theorem c_J0_coder_7d493 (l : Launch) {G : mm_G} {w : va_W} {sz : Nat} {kc : Nat} (hk : kc < 11) : Met l yJ0_coder_7d493 (Cond.code yJ0_coder_7d493 cJ0_coder_7d493 1 (some .byte) :: gAll) ({ frames := 0, cells := 0, slots := 0, locals := 0 }) (va_Pc [.ref (G.2 (40 + kc))] (mm_Pre G w sz)) (mm_Qi G w sz (fun r w' => r = 0 ∧ w' = w)) 0 0 (va_A w sz) := by
  refine mm_headI [.ref (G.2 (40 + kc))] (by decide +kernel) rfl (Nat.le_of_ble_eq_true rfl) ?_
  intro p e s m args below meth c A Q hsz hC hM hret ls hl
  have hx := hC.1.1
  have hb := hC.1.2.1
  have hl : lv_has ls 1 [(0, .ref (G.2 (40 + kc)))] := hl
  refine va_gets hx hb hC.2.2.1.2.2.2.2.2.2.2.2.2.1 hM.2.2 hC.1.2.2.2.1 (hC.1.2.2.2.2 _ q6_33) (fun _ h => h) dJ0_coder_7d493_0 ?_
  refine lv_if_eq (tgt := 13) hx hb dJ0_coder_7d493_3 (by decide) (fun hcd => absurd hcd (by decide)) (fun _ => ?_)
  refine lv_aload_n hx hb dJ0_coder_7d493_6 rfl (lv_at hl 0 rfl) ?_
  refine vk_getf hx hb (hC.2.2.1.2.2.2.2.2.2.2.2.1.1 kc hk).2.1 hM.2.2 hC.1.2.2.2.1 (hC.1.2.2.2.2 _ q9_116) (fun _ h => h) dJ0_coder_7d493_7 ?_
  refine lv_goto (tgt := 14) hx hb dJ0_coder_7d493_10 (by decide) ?_
  exact hret hM dJ0_coder_7d493_14 rfl ⟨rfl, rfl⟩
set_option maxHeartbeats 4000000 in
theorem c_J0_isLatin1_aae02 (l : Launch) {G : mm_G} {w : va_W} {sz : Nat} {kc : Nat} (hk : kc < 11) : Met l yJ0_isLatin1_aae02 (Cond.code yJ0_isLatin1_aae02 cJ0_isLatin1_aae02 1 (some .boolean) :: gAll) ({ frames := 0, cells := 0, slots := 0, locals := 0 }) (va_Pc [.ref (G.2 (40 + kc))] (mm_Pre G w sz)) (mm_Qi G w sz (fun r w' => r = 1 ∧ w' = w)) 0 0 (va_A w sz) := by
  refine mm_headI [.ref (G.2 (40 + kc))] (by decide +kernel) rfl (Nat.le_of_ble_eq_true rfl) ?_
  intro p e s m args below meth c A Q hsz hC hM hret ls hl
  have hx := hC.1.1
  have hb := hC.1.2.1
  have hl : lv_has ls 1 [(0, .ref (G.2 (40 + kc)))] := hl
  refine va_gets hx hb hC.2.2.1.2.2.2.2.2.2.2.2.2.1 hM.2.2 hC.1.2.2.2.1 (hC.1.2.2.2.2 _ q6_33) (fun _ h => h) dJ0_isLatin1_aae02_0 ?_
  refine lv_if_eq (tgt := 17) hx hb dJ0_isLatin1_aae02_3 (by decide) (fun hcd => absurd hcd (by decide)) (fun _ => ?_)
  refine lv_aload_n hx hb dJ0_isLatin1_aae02_6 rfl (lv_at hl 0 rfl) ?_
  refine vk_getf hx hb (hC.2.2.1.2.2.2.2.2.2.2.2.1.1 kc hk).2.1 hM.2.2 hC.1.2.2.2.1 (hC.1.2.2.2.2 _ q9_116) (fun _ h => h) dJ0_isLatin1_aae02_7 ?_
  refine lv_if_ne (tgt := 17) hx hb dJ0_isLatin1_aae02_10 (by decide) (fun hcd => absurd rfl hcd) (fun _ => ?_)
  refine lv_iconst (v := 1) hx hb dJ0_isLatin1_aae02_13 (by decide) ?_
  refine lv_goto (tgt := 18) hx hb dJ0_isLatin1_aae02_14 (by decide) ?_
  exact hret hM dJ0_isLatin1_aae02_18 rfl ⟨rfl, rfl⟩
theorem mm_shr0 {kc : Nat} (hk : kc < 11) : (Int32.ofNat (mm_len.getD kc 0)) >>> ((0 : Int32) &&& 31) = mm_pl kc := by
  rcases (show kc = 0 ∨ kc = 1 ∨ kc = 2 ∨ kc = 3 ∨ kc = 4 ∨ kc = 5 ∨ kc = 6 ∨ kc = 7 ∨ kc = 8 ∨ kc = 9 ∨ kc = 10 by omega) with rfl | rfl | rfl | rfl | rfl | rfl | rfl | rfl | rfl | rfl | rfl <;> decide +kernel
set_option maxHeartbeats 4000000 in
theorem c_J0_length_8abf5 (l : Launch) {G : mm_G} {w : va_W} {sz : Nat} {kc : Nat} (hk : kc < 11) : Met l yJ0_length_8abf5 (Cond.code yJ0_length_8abf5 cJ0_length_8abf5 1 (some .int) :: gAll) ({ frames := 1, cells := 0, slots := 0, locals := 30 }) (va_Pc [.ref (G.2 (40 + kc))] (mm_Pre G w sz)) (mm_Qi G w sz (fun r w' => r = mm_pl kc ∧ w' = w)) 0 0 (va_A w sz) := by
  refine mm_headI [.ref (G.2 (40 + kc))] (by decide +kernel) rfl (Nat.le_of_ble_eq_true rfl) ?_
  intro p e s m args below meth c A Q hsz hC hM hret ls hl
  have hx := hC.1.1
  have hb := hC.1.2.1
  have hl : lv_has ls 1 [(0, .ref (G.2 (40 + kc)))] := hl
  refine lv_aload_n hx hb dJ0_length_8abf5_0 rfl (lv_at hl 0 rfl) ?_
  refine vk_getf hx hb (hC.2.2.1.2.2.2.2.2.2.2.2.1.1 kc hk).2.2.1 hM.2.2 hC.1.2.2.2.1 (hC.1.2.2.2.2 _ q9_115) (fun _ h => h) dJ0_length_8abf5_1 ?_
  refine va_tlen hx hb (hC.2.2.1.2.2.2.2.2.2.2.2.1.1 kc hk).2.2.2 hM.2.2 rfl dJ0_length_8abf5_4 ?_
  refine lv_aload_n hx hb dJ0_length_8abf5_5 rfl (lv_at hl 0 rfl) ?_
  refine mm_Ri (rest := [.int (Int32.ofNat (mm_len.getD kc 0))]) hC hM (c_J0_coder_7d493 l hk) q6_32 q1_18 ykJ0_coder_7d493 q6_29 q6_30 q6_31 (vk_recv (i := kc) hC.2.2.1.2.2.2.2.2.2.2.2.1 hk hM.2.2) ⟨rfl, rfl⟩ ⟨Nat.le_of_ble_eq_true rfl, Nat.le_of_ble_eq_true rfl⟩ rfl hl.1 rfl (Nat.le_of_ble_eq_true rfl) dJ0_length_8abf5_6 ⟨Nat.le_of_ble_eq_true rfl, Nat.le_of_ble_eq_true rfl⟩ (fun r w6 H locs hM hw => ?_)
  obtain ⟨hr, hw⟩ := hw
  rw [hw] at hM
  rw [hr]
  refine lv_ishr hx hb dJ0_length_8abf5_9 ?_
  exact hret hM dJ0_length_8abf5_10 rfl ⟨mm_shr0 hk, rfl⟩
theorem mm_ltlen {kc : Nat} (hk : kc < 11) {x1 : Int32} (hi : vp_in x1 (mm_len.getD kc 0)) : x1 < Int32.ofNat (mm_len.getD kc 0) := by
  have hle : mm_len.getD kc 0 < 2 ^ 31 := by
    rcases (show kc = 0 ∨ kc = 1 ∨ kc = 2 ∨ kc = 3 ∨ kc = 4 ∨ kc = 5 ∨ kc = 6 ∨ kc = 7 ∨ kc = 8 ∨ kc = 9 ∨ kc = 10 by omega) with rfl | rfl | rfl | rfl | rfl | rfl | rfl | rfl | rfl | rfl | rfl <;> decide +kernel
  obtain ⟨j, hj, rfl⟩ := vp_in_of hi hle
  exact nI_lt hj hle
set_option maxHeartbeats 4000000 in
theorem c_J1_charAt_3b067 (l : Launch) {G : mm_G} {w : va_W} {sz : Nat} {kc : Nat} (hk : kc < 11) {x1 : Int32} (hi : vp_in x1 (mm_len.getD kc 0)) : Met l yJ1_charAt_3b067 (Cond.code yJ1_charAt_3b067 cJ1_charAt_3b067 2 (some .char) :: gAll) ({ frames := 2, cells := 0, slots := 0, locals := 70 }) (va_Pc [.ref (G.2 (60 + kc)), .int x1] (mm_Pre G w sz)) (mm_Qi G w sz (fun r w' => r = mm_pc kc x1.toNatClampNeg ∧ w' = w)) 0 0 (va_A w sz) := by
  refine mm_headI [.ref (G.2 (60 + kc)), .int x1] (by decide +kernel) rfl (Nat.le_of_ble_eq_true rfl) ?_
  intro p e s m args below meth c A Q hsz hC hM hret ls hl
  have hx := hC.1.1
  have hb := hC.1.2.1
  have hl : lv_has ls 2 [(0, .ref (G.2 (60 + kc))), (1, .int x1)] := hl
  have h0 : ¬ x1 < 0 := fun z => hi (Or.inl z)
  refine lv_iload_n hx hb dJ1_charAt_3b067_0 rfl (lv_at hl 1 rfl) ?_
  refine lv_aload_n hx hb dJ1_charAt_3b067_1 rfl (lv_at hl 0 rfl) ?_
  refine va_tlen hx hb (hC.2.2.1.2.2.2.2.2.2.2.2.1.1 kc hk).2.2.2 hM.2.2 rfl dJ1_charAt_3b067_2 ?_
  refine mm_Sv (rest := []) hC hM (c_J0_checkIndex_df160 l h0 (mm_ltlen hk hi)) q6_48 q1_18 ykJ0_checkIndex_df160 q6_46 q6_47 ⟨rfl, rfl⟩ ⟨Nat.le_of_ble_eq_true rfl, Nat.le_of_ble_eq_true rfl⟩ rfl hl.1 rfl (Nat.le_of_ble_eq_true rfl) dJ1_charAt_3b067_3 ⟨Nat.le_of_ble_eq_true rfl, Nat.le_of_ble_eq_true rfl⟩ (fun w3 H locs hM hw => ?_)
  rw [hw] at hM
  refine lv_aload_n hx hb dJ1_charAt_3b067_6 rfl (lv_at hl 0 rfl) ?_
  refine lv_iload_n hx hb dJ1_charAt_3b067_7 rfl (lv_at hl 1 rfl) ?_
  refine va_tb hx hb (hC.2.2.1.2.2.2.2.2.2.2.2.1.1 kc hk).2.2.2 hM.2.2 hi rfl dJ1_charAt_3b067_8 ?_
  refine lv_sipush (v := 255) hx hb dJ1_charAt_3b067_9 (by decide) ?_
  refine lv_iand hx hb dJ1_charAt_3b067_12 ?_
  refine lv_i2c hx hb dJ1_charAt_3b067_13 rfl ?_
  exact hret hM dJ1_charAt_3b067_14 (mm_narC2 _) ⟨rfl, rfl⟩
set_option maxHeartbeats 4000000 in
theorem c_J0_charAt_5068e (l : Launch) {G : mm_G} {w : va_W} {sz : Nat} {kc : Nat} (hk : kc < 11) {x1 : Int32} (hi : vp_in x1 (mm_len.getD kc 0)) : Met l yJ0_charAt_5068e (Cond.code yJ0_charAt_5068e cJ0_charAt_5068e 2 (some .char) :: gAll) ({ frames := 3, cells := 0, slots := 0, locals := 100 }) (va_Pc [.ref (G.2 (40 + kc)), .int x1] (mm_Pre G w sz)) (mm_Qi G w sz (fun r w' => r = mm_pc kc x1.toNatClampNeg ∧ w' = w)) 0 0 (va_A w sz) := by
  refine mm_headI [.ref (G.2 (40 + kc)), .int x1] (by decide +kernel) rfl (Nat.le_of_ble_eq_true rfl) ?_
  intro p e s m args below meth c A Q hsz hC hM hret ls hl
  have hx := hC.1.1
  have hb := hC.1.2.1
  have hl : lv_has ls 2 [(0, .ref (G.2 (40 + kc))), (1, .int x1)] := hl
  refine lv_aload_n hx hb dJ0_charAt_5068e_0 rfl (lv_at hl 0 rfl) ?_
  refine mm_Ri (rest := []) hC hM (c_J0_isLatin1_aae02 l hk) q6_42 q1_18 ykJ0_isLatin1_aae02 q6_39 q6_40 q6_41 (vk_recv (i := kc) hC.2.2.1.2.2.2.2.2.2.2.2.1 hk hM.2.2) ⟨rfl, rfl⟩ ⟨Nat.le_of_ble_eq_true rfl, Nat.le_of_ble_eq_true rfl⟩ rfl hl.1 rfl (Nat.le_of_ble_eq_true rfl) dJ0_charAt_5068e_1 ⟨Nat.le_of_ble_eq_true rfl, Nat.le_of_ble_eq_true rfl⟩ (fun r w1 H locs hM hw => ?_)
  obtain ⟨hr, hw⟩ := hw
  rw [hw] at hM
  rw [hr]
  refine lv_if_eq (tgt := 16) hx hb dJ0_charAt_5068e_4 (by decide) (fun hcd => absurd hcd (by decide)) (fun _ => ?_)
  refine lv_aload_n hx hb dJ0_charAt_5068e_7 rfl (lv_at hl 0 rfl) ?_
  refine vk_getf hx hb (hC.2.2.1.2.2.2.2.2.2.2.2.1.1 kc hk).2.2.1 hM.2.2 hC.1.2.2.2.1 (hC.1.2.2.2.2 _ q9_115) (fun _ h => h) dJ0_charAt_5068e_8 ?_
  refine lv_iload_n hx hb dJ0_charAt_5068e_11 rfl (lv_at hl 1 rfl) ?_
  refine mm_Si (rest := []) hC hM (c_J1_charAt_3b067 l hk hi) q6_45 q1_26 ykJ1_charAt_3b067 q6_43 q6_44 ⟨rfl, rfl⟩ ⟨Nat.le_of_ble_eq_true rfl, Nat.le_of_ble_eq_true rfl⟩ rfl hl.1 rfl (Nat.le_of_ble_eq_true rfl) dJ0_charAt_5068e_12 ⟨Nat.le_of_ble_eq_true rfl, Nat.le_of_ble_eq_true rfl⟩ (fun r w12 H locs hM hw => ?_)
  obtain ⟨hr, hw⟩ := hw
  rw [hw] at hM
  rw [hr]
  exact hret hM dJ0_charAt_5068e_15 (mm_narC2 _) ⟨rfl, rfl⟩
theorem mm_ord {kc : Nat} (hk : kc < 11) : ([0, 1, 2, 3, 4, 5, 6, 7, 8, 9, 10] : List Int32).getD kc 0 = nI kc := by
  rcases (show kc = 0 ∨ kc = 1 ∨ kc = 2 ∨ kc = 3 ∨ kc = 4 ∨ kc = 5 ∨ kc = 6 ∨ kc = 7 ∨ kc = 8 ∨ kc = 9 ∨ kc = 10 by omega) with rfl | rfl | rfl | rfl | rfl | rfl | rfl | rfl | rfl | rfl | rfl <;> decide +kernel
set_option maxHeartbeats 4000000 in
theorem c_Jx29ce0_ordinal_8abf5 (l : Launch) {G : mm_G} {w : va_W} {sz : Nat} {kc : Nat} (hk : kc < 11) : Met l yJx29ce0_ordinal_8abf5 (Cond.code yJx29ce0_ordinal_8abf5 cJx29ce0_ordinal_8abf5 1 (some .int) :: gAll) ({ frames := 0, cells := 0, slots := 0, locals := 0 }) (va_Pc [.ref (G.2 (20 + kc))] (mm_Pre G w sz)) (mm_Qi G w sz (fun r w' => r = nI kc ∧ w' = w)) 0 0 (va_A w sz) := by
  refine mm_headI [.ref (G.2 (20 + kc))] (by decide +kernel) rfl (Nat.le_of_ble_eq_true rfl) ?_
  intro p e s m args below meth c A Q hsz hC hM hret ls hl
  have hx := hC.1.1
  have hb := hC.1.2.1
  have hl : lv_has ls 1 [(0, .ref (G.2 (20 + kc)))] := hl
  refine lv_aload_n hx hb dJx29ce0_ordinal_8abf5_0 rfl (lv_at hl 0 rfl) ?_
  refine vk_getf hx hb ((hC.2.2.1.2.2.2.2.2.2.1.1 kc hk).2.2 _ List.mem_cons_self) hM.2.2 hC.1.2.2.2.1 (hC.1.2.2.2.2 _ q9_118) (fun _ h => h) dJx29ce0_ordinal_8abf5_1 ?_
  exact hret hM dJx29ce0_ordinal_8abf5_4 rfl ⟨mm_ord hk, rfl⟩
theorem mm_klt {i : Int32} {n : Nat} (h : vp_in i n) : i.toNatClampNeg < n := Nat.not_le.mp (fun z => h (Or.inr z))
