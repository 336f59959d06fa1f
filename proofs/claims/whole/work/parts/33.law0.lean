/-! what the law's own methods want: long and double rows, bodies with handlers -/
theorem nw_castable_1 : (Jvm.Cond.castable "java/lang/IndexOutOfBoundsException" "java/lang/IndexOutOfBoundsException") ∈ mm_nw := List.mem_filter.mpr ⟨gT_3 (List.mem_of_getElem? (i := 204) (by decide +kernel)), rfl⟩
theorem nw_castable_2 : (Jvm.Cond.castable "java/util/NoSuchElementException" "java/util/NoSuchElementException") ∈ mm_nw := List.mem_filter.mpr ⟨gT_3 (List.mem_of_getElem? (i := 225) (by decide +kernel)), rfl⟩
theorem nw_castable_3 : (Jvm.Cond.castable "java/lang/IllegalStateException" "java/lang/IllegalStateException") ∈ mm_nw := List.mem_filter.mpr ⟨gT_4 (List.mem_of_getElem? (i := 0) (by decide +kernel)), rfl⟩
theorem nw_castable_4 : (Jvm.Cond.castable "java/lang/IllegalArgumentException" "java/lang/IllegalArgumentException") ∈ mm_nw := List.mem_filter.mpr ⟨gT_4 (List.mem_of_getElem? (i := 15) (by decide +kernel)), rfl⟩
theorem nw_castable_5 : (Jvm.Cond.castable "java/lang/UnsupportedOperationException" "java/lang/UnsupportedOperationException") ∈ mm_nw := List.mem_filter.mpr ⟨gT_4 (List.mem_of_getElem? (i := 30) (by decide +kernel)), rfl⟩
theorem nw_castable_6 : (Jvm.Cond.castable "java/lang/ArithmeticException" "java/lang/ArithmeticException") ∈ mm_nw := List.mem_filter.mpr ⟨gT_6 (List.mem_of_getElem? (i := 206) (by decide +kernel)), rfl⟩
section MMW
variable {p : Program} {l : Launch} {e : Env} {R : Room} {s : State} {m : MethodId} {args : Array Value} {below : List Frame} {meth : Method} {c : Code} {H : Heap} {locs : List Loc} {cells slots : Nat} {Q : State → Prop}
variable {G : mm_G} {A : Nat → Prop} {cc : ByteArray} {nL : Nat} {own : String} {w : va_W} {pc a b : Nat} {ls : Array Slot} {rest st0 : List Value}
variable {mc ms : Nat} {aa : Array Value}
theorem mm_in0 : vp_in 0 1 := by
  show ¬ ((0 : Int32) < 0 ∨ 1 ≤ (0 : Int32).toNatClampNeg)
  decide
theorem mm_last0 (hC : mm_C G A p s m c cc nL args own) (hM : mm_S G A s.heap w H locs) {f : Nat → Int64} (he : (a, .inl (G.2 3, 1, .inr (.inl f))) ∈ w) {x : Int64} (hdg : decode cc pc = .ok (.lastore, 1))
    (kk : ∀ (w' : va_W) (H1 : Heap) (locs1 : List Loc), mm_S G A s.heap w' H1 locs1 → mm_up w w' a (.inl (G.2 3, 1, .inr (.inl (vp_updL f 0 x)))) → W p l e R s m args below meth c H1 locs1 cells slots Q (F0 m (pc + 1) ls rest)) : W p l e R s m args below meth c H locs cells slots Q (F0 m pc ls (.long x :: .int 0 :: .ref a :: rest)) := by
  obtain ⟨q, hq⟩ := List.mem_iff_getElem?.mp he
  exact va_last hC.1.1 hC.1.2.1 hC.2.1 hM.1 hM.2.1 hM.2.2 q 3 hq rfl mm_in0 hdg (fun H1 locs1 h1 h2 h3 => kk _ H1 locs1 ⟨h1, h2, h3⟩ (mm_set hq _))
theorem mm_dast0 (hC : mm_C G A p s m c cc nL args own) (hM : mm_S G A s.heap w H locs) {f : Nat → UInt64} (he : (a, .inl (G.2 4, 1, .inr (.inr (.inr (.inl f))))) ∈ w) {x : UInt64} (hdg : decode cc pc = .ok (.dastore, 1))
    (kk : ∀ (w' : va_W) (H1 : Heap) (locs1 : List Loc), mm_S G A s.heap w' H1 locs1 → mm_up w w' a (.inl (G.2 4, 1, .inr (.inr (.inr (.inl (vf_upd f 0 x)))))) → W p l e R s m args below meth c H1 locs1 cells slots Q (F0 m (pc + 1) ls rest)) : W p l e R s m args below meth c H locs cells slots Q (F0 m pc ls (.double x :: .int 0 :: .ref a :: rest)) := by
  obtain ⟨q, hq⟩ := List.mem_iff_getElem?.mp he
  exact va_dast hC.1.1 hC.1.2.1 hC.2.1 hM.1 hM.2.1 hM.2.2 q 4 hq rfl mm_in0 hdg (fun H1 locs1 h1 h2 h3 => kk _ H1 locs1 ⟨h1, h2, h3⟩ (mm_set hq _))
/-- a body with handlers, by the words of its table -/
theorem mm_ofWH {y : MethodName} {ws ws' : List Cond} {rm : Room} {Pc : Array Value → State → Prop} {Qc : Array Value → State → Outcome → State → Prop} {free : Addr → Prop} {maxL : Nat} {ret : Option FieldType} {hh : List (Nat × Nat × Nat × Nat)}
    (hy : plainName y.cls = true) (hw : ws = Cond.codeWith y cc maxL ret hh :: ws')
    (body : ∀ p e s m args below meth c s₁, BodyLoose p l y (headSpec ws rm) cc maxL ret e s m args below meth c s₁ → c.maxLocals = maxL → Pc args s →
      W p l e (headSpec ws rm).room s m args below meth c s.heap [] 0 0 (MQ below Qc args s mc ms free) (entryFrame m args maxL)) : Met l y ws rm Pc Qc mc ms free := by
  refine MetFree.of_bodyS (code := cc) (maxLocals := maxL) (ret := ret) hy ?_ ?_
  · intro args s m h hn
    obtain ⟨m9, meth, c, hn9, h1, h2, h3, h4, -, h5, h6, -⟩ := Cond.codeWith_spec (atoms_spec (ws := ws) h _ (by rw [hw]; exact List.mem_cons_self))
    cases hn.symm.trans hn9
    exact ⟨meth, c, h1, h2, h3, h4, h5, h6⟩
  · intro p e s m args below meth c s₁ B hml hP _
    have hh0 : s₁.heap = s.heap := by rw [B.state]; rfl
    obtain ⟨t, a1, o, b1, b2, b3⟩ := body p e s m args below meth c s₁ B hml hP s₁ hh0 (Stand.of_body B)
    exact ⟨t, o, a1, b1, b2, b3⟩
theorem mm_hhead {y : MethodName} {rm : Room} {maxL sz : Nat} {ty : FieldType} {hh : List (Nat × Nat × Nat × Nat)} {post : Int32 → va_W → Prop} (_ : l.stackTraces = false) (vs : List Value) (hy : plainName y.cls = true) (hyc : y.cls = own) (hlen : (lg_sl vs).length ≤ maxL)
    (body : ∀ (p : Program) (e : Env) (s : State) (m : MethodId) (args : Array Value) (below : List Frame) (meth : Method) (c : Code) (A : Nat → Prop) (Q : State → Prop), s.heap.size = sz → mm_C G A p s m c cc maxL args own → mm_S G A s.heap w s.heap [] →
      (∀ {pc : Nat} {H : Heap} {locs : List Loc} {w' : va_W} {v : Int32} {ls : Array Slot} {cells slots : Nat}, mm_S G A s.heap w' H locs → decode cc pc = .ok (.ireturn, 1) → narrow ty (.int v) = .int v → post v w' → cells ≤ mc → slots ≤ ms → W p l e rm s m args below meth c H locs cells slots Q (F0 m pc ls [.int v])) →
      c.exceptionTable.toList = tableOf hh →
      ∀ ls : Array Slot, lv_has ls maxL (lv_args 0 vs) → W p l e rm s m args below meth c s.heap [] 0 0 Q (F0 m 0 ls [])) : Met l y (Cond.codeWith y cc maxL (some ty) hh :: gAll) rm (va_Pc vs (mm_Pre G w sz)) (mm_Qi G w sz post) mc ms (va_A w sz) := by
  refine mm_ofWH (cc := cc) (maxL := maxL) (ret := (some ty)) hy rfl ?_
  intro p e s m args below meth c s₁ B hml hv
  obtain ⟨rfl, hsz, hP, hK, hD0, hX⟩ := hv
  have hall := atoms_spec (ws := Cond.codeWith y cc maxL (some ty) hh :: gAll) B.pre
  have hts : ∀ w ∈ gAll, w.before _ s = true := fun w hw => hall w (List.mem_cons_of_mem _ hw)
  have hxt := vx_table (x := y) B (hall _ List.mem_cons_self)
  have hown : s.vm.findClass own = some m.cls := hyc ▸ findClass_of_methodNamed B.named
  have hA : ∀ q, s.heap.size ≤ q → va_A w sz q := fun q h => Or.inr (hsz ▸ h)
  have hC : mm_C G (va_A w sz) p s m c cc maxL vs.toArray own := ⟨⟨B.exec, B.bytes, hml, hown, hts⟩, hK, hX, hA⟩
  have hl := lv_entry vs (n := maxL) hlen
  rw [lg_entry_eq]
  refine body p e s m _ below meth c _ _ hsz hC ⟨hP, hD0.self, va_S.rf⟩ ?_ hxt _ hl
  intros
  rename_i _ _ _ _ _ _ _ _ hM hd hn hp h1 h2
  exact W.widen h1 h2 (mm_iret hC hM B.returns B.notSynchronized hd hn hp)
theorem mm_lald0 (hC : mm_C G A p s m c cc nL args own) (hM : mm_S G A s.heap w H locs) {f : Nat → Int64} (he : (a, .inl (G.2 3, 1, .inr (.inl f))) ∈ w) (hdg : decode cc pc = .ok (.laload, 1))
    (kk : W p l e R s m args below meth c H locs cells slots Q (F0 m (pc + 1) ls (.long (f 0) :: rest))) : W p l e R s m args below meth c H locs cells slots Q (F0 m pc ls (.int 0 :: .ref a :: rest)) := by
  obtain ⟨q, hq⟩ := List.mem_iff_getElem?.mp he
  exact va_lald hC.1.1 hC.1.2.1 hC.2.1 hM.1 q 3 hq rfl mm_in0 hdg kk
theorem mm_dald0 (hC : mm_C G A p s m c cc nL args own) (hM : mm_S G A s.heap w H locs) {f : Nat → UInt64} (he : (a, .inl (G.2 4, 1, .inr (.inr (.inr (.inl f))))) ∈ w) (hdg : decode cc pc = .ok (.daload, 1))
    (kk : W p l e R s m args below meth c H locs cells slots Q (F0 m (pc + 1) ls (.double (f 0) :: rest))) : W p l e R s m args below meth c H locs cells slots Q (F0 m pc ls (.int 0 :: .ref a :: rest)) := by
  obtain ⟨q, hq⟩ := List.mem_iff_getElem?.mp he
  exact va_dald hC.1.1 hC.1.2.1 hC.2.1 hM.1 q 4 hq rfl mm_in0 hdg kk
/-- the five ints of a call -/
def mm_x5 (x0 x1 x2 x3 x4 : Int32) : Nat → Int32
  | 0 => x0
  | 1 => x1
  | 2 => x2
  | 3 => x3
  | _ => x4
theorem mm_sld (hC : mm_C G A p s m c cc nL args own) (hM : mm_S G A s.heap w H locs) {L : Nat} {xs : Nat → Int32} (hX : va_X b L xs s s.heap) (hbl : b < s.heap.size) (hbA : ¬ A b) {i x : Int32} (hin : vp_in i L) (hv : xs i.toNatClampNeg = x) (hdg : decode cc pc = .ok (.iaload, 1))
    (kk : W p l e R s m args below meth c H locs cells slots Q (F0 m (pc + 1) ls (.int x :: rest))) : W p l e R s m args below meth c H locs cells slots Q (F0 m pc ls (.int i :: .ref b :: rest)) := by
  subst hv
  exact va_sld hC.1.1 hC.1.2.1 hX hbl hbA hM.2.2 hin hdg kk
theorem mm_pay {y : MethodName} {bytes : ByteArray} {maxL : Nat} {ret : Option FieldType} {hh : List (Nat × Nat × Nat × Nat)} (h : Cond.codeWith y bytes maxL ret hh ∈ gAll) : GoodIn gAll (Cond.codeWith y bytes maxL ret hh :: gAll) := by
  intro w hw
  have h1 : w ∈ gAll := (List.mem_cons.mp hw).elim (fun e => by rw [e]; exact h) id
  exact ⟨h1, good_of_word (gA_good h1)⟩
theorem mm_SiW {y : MethodName} {bytes : ByteArray} {maxL n index : Nat} {ret : Option FieldType} {hh : List (Nat × Nat × Nat × Nat)} {rm : Room} {As : List Value} {post : Int32 → va_W → Prop} (hC : mm_C G A p s m c cc nL args own) (hM : mm_S G A s.heap w H locs) (hMet : Met l y (Cond.codeWith y bytes maxL ret hh :: gAll) rm (va_Pc As (mm_Pre G w H.size)) (mm_Qi G w H.size post) mc ms (va_A w H.size)) (hcode : Cond.codeWith y bytes maxL ret hh ∈ gAll) (hini : Cond.initialized y.cls ∈ gAll) (hd : mm_yk y n) (hlink : Cond.methodLink own index y ∈ gAll) (hstat : Cond.static y ∈ gAll) (hrm : rm.cells = mc ∧ rm.slots = ms) (hR : rm.frames + 1 ≤ R.frames ∧ 8 + (maxL + 11) + rm.locals ≤ R.locals) (hn : As.length = n) (hsize : ls.size = nL) (hst : st0 = As.reverse ++ rest) (hW : (rest.map fun v => v.category).sum ≤ 8) (hdg : decode cc pc = .ok (.invokestatic index, 3)) (hf : cells + mc ≤ R.cells ∧ slots + ms ≤ R.slots)
    (kk : ∀ (r : Int32) (w' : va_W) (H1 : Heap) (locs1 : List Loc), mm_S G A s.heap w' H1 locs1 → post r w' → W p l e R s m args below meth c H1 locs1 (cells + mc) (slots + ms) Q (F0 m (pc + 3) ls (.int r :: rest))) : W p l e R s m args below meth c H locs cells slots Q (F0 m pc ls st0) :=
  mm_ci (vx_runSW hC.1 hMet ⟨⟨hrm.1, hrm.2, hR.1, hR.2, pay_in hC.1.2.2.2.2 (mm_pay hcode), List.mem_cons_self⟩, hC.1.2.2.2.2 _ hcode, hC.1.2.2.2.2 _ hini, ⟨hd.1, hd.2.1⟩, fun sig h => by
    have h2 := hd.2.2
    rw [h] at h2
    exact (Option.some.inj h2).symm, hC.1.2.2.2.2 _ hlink, hC.1.2.2.2.2 _ hstat⟩ (mm_es hC hM) rfl hn hsize hst (lv_room hW) hdg hf) hC hM kk
end MMW
