/-! constructors: what comes lies at the heap's end -/
def mm_QN (G : mm_G) (w : va_W) (sz N : Nat) (post : va_W → Prop) : Array Value → State → Outcome → State → Prop := va_Qv post (fun w' t => mm_B G w sz w' t ∧ t.heap.size = N) (va_A w sz)
section MMC
variable {p : Program} {l : Launch} {e : Env} {R : Room} {s : State} {m : MethodId} {args : Array Value} {below : List Frame} {meth : Method} {c : Code} {H : Heap} {locs : List Loc} {cells slots : Nat} {Q : State → Prop}
variable {G : mm_G} {A : Nat → Prop} {cc : ByteArray} {nL : Nat} {own : String} {w : va_W} {pc a b : Nat} {ls : Array Slot} {rest st0 : List Value}
theorem mm_pushP {w : va_W} {a : Nat} {e : va_E} {D : va_G} {cl : List vw_C} {H H1 : Heap} (hP : va_P D cl w H) (o1 : ∀ q, q < H.size → H1[q]? = H[q]?) (he : va_at D cl (a, e) H1) : va_P D cl (w ++ [(a, e)]) H1 := by
  refine (hP.kept (fun k x hx => o1 x.1 ((hP k x hx).lt))).app (fun k x hx => ?_)
  have hz : k < 1 := (List.getElem?_eq_some_iff.mp hx).1
  rw [show k = 0 by omega] at hx
  cases hx
  exact he
theorem mm_new {own C : String} {T : u_T} {N ci index : Nat} (ty : Nat → FieldType) {fs : List Value} (hC : mm_C G A p s m c cc nL args own) (hM : mm_S G A s.heap w H locs) (hz : H.size = a) (hc : vwCl[ci]? = some (C, T, N)) (hin : ∀ w ∈ u_ws C T N, w ∈ gAll) (hty : ∀ k, k < N → parseFieldDescriptor (T k).2.2.1 = some (ty k)) (hcl : Cond.classLink own index C ∈ gAll) (hinst : Cond.instantiable C N ∈ gAll) (hini : Cond.initialized C ∈ gAll) (hfs : ∀ j, j < N → defaultValue (ty j) = vp_V fs j) (hcells : cells + 1 ≤ R.cells) (hslots : slots + N ≤ R.slots) (hdg : decode cc pc = .ok (.new index, 3))
    (kk : ∀ (w' : va_W) (H1 : Heap), mm_S G A s.heap w' H1 locs → mm_up w w' a (.inr (ci, fs)) → H1.size = a + 1 → W p l e R s m args below meth c H1 locs (cells + 1) (slots + N) Q (F0 m (pc + 3) ls (.ref a :: rest))) : W p l e R s m args below meth c H locs cells slots Q (F0 m pc ls rest) := by
  subst hz
  have hts := hC.1.2.2.2.2
  have hKn := hC.2.1.1 ci _ hc
  refine W.newcK hC.1.1 hC.1.2.1 hC.1.2.2.2.1 (hts _ hcl) (hts _ hinst) (hts _ hini) rfl hdg hcells hslots hKn.2.1 rfl fun H1 kC hkC e1 z1 o1 => ?_
  have hS := hM.2.2
  have hA := hC.2.2.2
  exact kk _ H1 ⟨mm_pushP hM.1 o1 (show va_at G.1 vwCl (H.size, .inr (ci, fs)) H1 from ⟨_, hc, (u_born ty (ws := gAll) hts hin hKn hkC e1 hty).to hfs⟩), hM.2.1.push hM.1 rfl (hA _ hS.1), ⟨Nat.le_trans hS.1 (by omega), fun x h1 h2 => (o1 x (Nat.lt_of_lt_of_le h1 hS.1)).trans (hS.2.1 x h1 h2), hS.2.2⟩⟩ (mm_push w _ _) z1
theorem mm_newi (hC : mm_C G A p s m c cc nL args own) (hM : mm_S G A s.heap w H locs) (hz : H.size = a) {n : Int32} {N : Nat} (harr : Cond.arrayClass .int ∈ gAll) (hn : ¬ n < 0) (hN : n.toNatClampNeg = N) (hbytes : N * 4 ≤ 536870912) (hcells : cells + 1 ≤ R.cells) (hslots : slots + N ≤ R.slots) (hdg : decode cc pc = .ok (.newarray .int, 2))
    (kk : ∀ (w' : va_W) (H1 : Heap), mm_S G A s.heap w' H1 locs → mm_up w w' a (.inl (G.2 0, N, .inl (fun _ => 0))) → H1.size = a + 1 → W p l e R s m args below meth c H1 locs (cells + 1) (slots + N) Q (F0 m (pc + 2) ls (.ref a :: rest))) : W p l e R s m args below meth c H locs cells slots Q (F0 m pc ls (.int n :: rest)) := by
  have hts := hC.1.2.2.2.2
  have hS := hM.2.2
  have hA := hC.2.2.2
  refine va_newaK (atype := .int) hC.1.1 hC.1.2.1 (hts _ harr) rfl hdg rfl hn hN hbytes hcells hslots hz fun H1 cA e1 z1 o1 hAr hNm => ?_
  subst hz
  have hcA : cA = G.2 0 := by
    have h2 := (hC.2.1.2 0 _ rfl).2
    exact Option.some.inj (hNm.symm.trans h2)
  subst hcA
  exact kk _ H1 ⟨mm_pushP hM.1 o1 (by show H1[H.size]? = some (vp_cell _ _); rw [e1]; rfl), hM.2.1.push hM.1 rfl (hA _ hS.1), ⟨Nat.le_trans hS.1 (by omega), fun x h1 h2 => (o1 x (Nat.lt_of_lt_of_le h1 hS.1)).trans (hS.2.1 x h1 h2), hS.2.2⟩⟩ (mm_push w _ _) z1
theorem mm_newc (hC : mm_C G A p s m c cc nL args own) (hM : mm_S G A s.heap w H locs) (hz : H.size = a) {n : Int32} {N : Nat} (harr : Cond.arrayClass .char ∈ gAll) (hn : ¬ n < 0) (hN : n.toNatClampNeg = N) (hbytes : N * 2 ≤ 536870912) (hcells : cells + 1 ≤ R.cells) (hslots : slots + N ≤ R.slots) (hdg : decode cc pc = .ok (.newarray .char, 2))
    (kk : ∀ (w' : va_W) (H1 : Heap), mm_S G A s.heap w' H1 locs → mm_up w w' a (.inl (G.2 1, N, .inl (fun _ => 0))) → H1.size = a + 1 → W p l e R s m args below meth c H1 locs (cells + 1) (slots + N) Q (F0 m (pc + 2) ls (.ref a :: rest))) : W p l e R s m args below meth c H locs cells slots Q (F0 m pc ls (.int n :: rest)) := by
  have hts := hC.1.2.2.2.2
  have hS := hM.2.2
  have hA := hC.2.2.2
  refine va_newaK (atype := .char) hC.1.1 hC.1.2.1 (hts _ harr) rfl hdg rfl hn hN hbytes hcells hslots hz fun H1 cA e1 z1 o1 hAr hNm => ?_
  subst hz
  have hcA : cA = G.2 1 := by
    have h2 := (hC.2.1.2 1 _ rfl).2
    exact Option.some.inj (hNm.symm.trans h2)
  subst hcA
  exact kk _ H1 ⟨mm_pushP hM.1 o1 (by show H1[H.size]? = some (vp_cell _ _); rw [e1]; rfl), hM.2.1.push hM.1 rfl (hA _ hS.1), ⟨Nat.le_trans hS.1 (by omega), fun x h1 h2 => (o1 x (Nat.lt_of_lt_of_le h1 hS.1)).trans (hS.2.1 x h1 h2), hS.2.2⟩⟩ (mm_push w _ _) z1
theorem mm_obj {index : Nat} (hC : mm_C G A p s m c cc nL args own) (hl : ls.size = nL) (hlink : Cond.methodLink own index Lib.objectInit ∈ gAll) (hinst : Cond.instanceMethod Lib.objectInit ∈ gAll) (hcode : Cond.code Lib.objectInit ⟨#[0xb1]⟩ 1 none ∈ gAll) (hd : decode cc pc = .ok (.invokespecial index, 3)) (hframes : 1 ≤ R.frames) (hlocals : (rest.map fun v => v.category).sum + 12 ≤ R.locals)
    (kk : W p l e R s m args below meth c H locs cells slots Q (F0 m (pc + 3) ls rest)) : W p l e R s m args below meth c H locs cells slots Q (F0 m pc ls (.ref a :: rest)) := by
  have hts := hC.1.2.2.2.2
  exact W.objInit hC.1.1 hC.1.2.1 hC.1.2.2.2.1 (hts _ hlink) (hts _ hinst) (hts _ hcode) rfl (hl.trans hC.1.2.2.1.symm) rfl hd hframes (by show 2 * 0 + _ + 12 ≤ _; omega) kk
theorem mm_cN {post : va_W → Prop} {mc ms N : Nat} {aa : Array Value} (hr : va_Run p l e R s m args below meth c H locs cells slots mc ms (F0 m pc ls st0) rest (mm_QN G w H.size N post aa) (va_A w H.size)) (hC : mm_C G A p s m c cc nL args own) (hM : mm_S G A s.heap w H locs)
    (kk : ∀ (w' : va_W) (H1 : Heap) (locs1 : List Loc), mm_S G A s.heap w' H1 locs1 → H1.size = N → post w' → W p l e R s m args below meth c H1 locs1 (cells + mc) (slots + ms) Q (F0 m (pc + 3) ls rest)) : W p l e R s m args below meth c H locs cells slots Q (F0 m pc ls st0) :=
  va_callv hr hM.2.2 (fun q _ h => mm_sub hM hC.2.2.2 q h) (mm_sub hM hC.2.2.2) (fun u t H1 locs1 ht _ hp hB _ _ hS => kk u H1 locs1 (mm_after hM hC.2.2.2 hB.1 ht hS) (by rw [← ht]; exact hB.2) hp)
section MMCK
variable {y : MethodName} {bytes : ByteArray} {maxL mc ms n index N : Nat} {rm : Room} {As : List Value} {host : String} {post : va_W → Prop}
theorem mm_IcN (hC : mm_C G A p s m c cc nL args own) (hM : mm_S G A s.heap w H locs) (hMet : Met l y (Cond.code y bytes maxL none :: gAll) rm (va_Pc (.ref b :: As) (mm_Pre G w H.size)) (mm_QN G w H.size N post) mc ms (va_A w H.size)) (hcode : Cond.code y bytes maxL none ∈ gAll) (hini : Cond.initialized y.cls ∈ gAll) (hd : mm_yk y n) (hlink : Cond.methodLink own index y ∈ gAll) (hinst : Cond.instanceMethod y ∈ gAll) (hy1 : y.name = "<init>") (hrm : rm.cells = mc ∧ rm.slots = ms) (hR : rm.frames + 1 ≤ R.frames ∧ 8 + (maxL + 11) + rm.locals ≤ R.locals) (hn : As.length = n) (hsize : ls.size = nL) (hst : st0 = As.reverse ++ .ref b :: rest) (hW : (rest.map fun v => v.category).sum ≤ 8) (hdg : decode cc pc = .ok (.invokespecial index, 3)) (hf : cells + mc ≤ R.cells ∧ slots + ms ≤ R.slots)
    (kk : ∀ (w' : va_W) (H1 : Heap) (locs1 : List Loc), mm_S G A s.heap w' H1 locs1 → H1.size = N → post w' → W p l e R s m args below meth c H1 locs1 (cells + mc) (slots + ms) Q (F0 m (pc + 3) ls rest)) : W p l e R s m args below meth c H locs cells slots Q (F0 m pc ls st0) :=
  mm_cN (va_runI hC.1 hMet ⟨mm_cb hC hcode hini hd hlink hrm hR, hy1, hC.1.2.2.2.2 _ hinst⟩ (mm_es hC hM) rfl hn hsize hst (lv_room hW) hdg hf) hC hM kk
theorem mm_INcN (hC : mm_C G A p s m c cc nL args own) (hM : mm_S G A s.heap w H locs) (hMet : Met l y (Cond.code y bytes maxL none :: gAll) rm (va_Pc (.ref b :: As) (mm_Pre G w H.size)) (mm_QN G w H.size N post) mc ms (va_A w H.size)) (hcode : Cond.code y bytes maxL none ∈ gAll) (hini : Cond.initialized y.cls ∈ gAll) (hd : mm_yk y n) (hlink : Cond.methodLinkNest own index y host ∈ mm_nw) (hinst : Cond.instanceMethod y ∈ gAll) (hy1 : y.name = "<init>") (hrm : rm.cells = mc ∧ rm.slots = ms) (hR : rm.frames + 1 ≤ R.frames ∧ 8 + (maxL + 11) + rm.locals ≤ R.locals) (hn : As.length = n) (hsize : ls.size = nL) (hst : st0 = As.reverse ++ .ref b :: rest) (hW : (rest.map fun v => v.category).sum ≤ 8) (hdg : decode cc pc = .ok (.invokespecial index, 3)) (hf : cells + mc ≤ R.cells ∧ slots + ms ≤ R.slots)
    (kk : ∀ (w' : va_W) (H1 : Heap) (locs1 : List Loc), mm_S G A s.heap w' H1 locs1 → H1.size = N → post w' → W p l e R s m args below meth c H1 locs1 (cells + mc) (slots + ms) Q (F0 m (pc + 3) ls rest)) : W p l e R s m args below meth c H locs cells slots Q (F0 m pc ls st0) :=
  mm_cN (va_runIN hC.1 hMet ⟨mm_cn hC hcode hini hd hlink hrm hR, hy1, hC.1.2.2.2.2 _ hinst⟩ (mm_es hC hM) rfl hn hsize hst (lv_room hW) hdg hf) hC hM kk
end MMCK
theorem mm_headN {y : MethodName} {rm : Room} {mc ms maxL sz N : Nat} {post : va_W → Prop} (vs : List Value) (hy : plainName y.cls = true) (hyc : y.cls = own) (hlen : (lg_sl vs).length ≤ maxL)
    (body : ∀ (p : Program) (e : Env) (s : State) (m : MethodId) (args : Array Value) (below : List Frame) (meth : Method) (c : Code) (A : Nat → Prop) (Q : State → Prop), s.heap.size = sz → mm_C G A p s m c cc maxL args own → mm_S G A s.heap w s.heap [] →
      (∀ {pc : Nat} {H : Heap} {locs : List Loc} {w' : va_W} {ls : Array Slot}, mm_S G A s.heap w' H locs → decode cc pc = .ok (.return_, 1) → H.size = N → post w' → W p l e rm s m args below meth c H locs mc ms Q (F0 m pc ls [])) → meth.name = y.name →
      ∀ ls : Array Slot, lv_has ls maxL (lv_args 0 vs) → W p l e rm s m args below meth c s.heap [] 0 0 Q (F0 m 0 ls [])) : Met l y (Cond.code y cc maxL none :: gAll) rm (va_Pc vs (mm_Pre G w sz)) (mm_QN G w sz N post) mc ms (va_A w sz) :=
  mm_head vs hy hyc hlen (fun p e s m below meth c hsz hC hM hr hlocks hnm ls hl => body p e s m _ below meth c _ _ hsz hC hM (fun {pc H locs w' ls} hM hd hz hp => W.vret hC.1.1 hC.1.2.1 hr (fun t ht hW => ⟨⟨w', rfl, hp, ⟨by rw [ht]; exact hM.1, hM.2.1⟩, by rw [ht]; exact hz⟩, hM.2.2.F ht⟩) hM.2.2.2.2 hd hlocks) hnm ls hl)
end MMC
section MMC2
variable {p : Program} {l : Launch} {e : Env} {R : Room} {s : State} {m : MethodId} {args : Array Value} {below : List Frame} {meth : Method} {c : Code} {H : Heap} {locs : List Loc} {cells slots : Nat} {Q : State → Prop}
variable {G : mm_G} {A : Nat → Prop} {cc : ByteArray} {nL : Nat} {own : String} {w : va_W} {pc a b : Nat} {ls : Array Slot} {rest st0 : List Value}
theorem mm_putN (hC : mm_C G A p s m c cc nL args own) (hM : mm_S G A s.heap w H locs) {ci index k : Nat} {C : String} {T : u_T} {N : Nat} {fs : List Value} {v : Value} {ty : FieldType} (ty0 : Nat → FieldType) (he0 : (a, .inr (ci, fs)) ∈ w) (hc : vwCl[ci]? = some (C, T, N)) (hin : ∀ w ∈ u_ws C T N, w ∈ gAll) (hty : ∀ k, k < N → parseFieldDescriptor (T k).2.2.1 = some (ty0 k)) (hnm : ∀ a, a < N → ∀ b, b < N → a ≠ b → (T a).2.1 ≠ (T b).2.1) (hk : k < N) (hlink : Cond.fieldLink own index (T k).1 (T k).2.1 (T k).2.2.1 ∈ gAll) (hfin : (T k).2.2.2 = false) (hd : ty0 k = ty) (hn : narrow ty v = v) (hfit : fits ty v = true) (hl : k < fs.length) (hdg : decode cc pc = .ok (.putfield index, 3))
    (kk : ∀ (w' : va_W) (H1 : Heap) (locs1 : List Loc), mm_S G A s.heap w' H1 locs1 → mm_up w w' a (.inr (ci, fs.set k v)) → H1.size = H.size → W p l e R s m args below meth c H1 locs1 cells slots Q (F0 m (pc + 3) ls rest)) : W p l e R s m args below meth c H locs cells slots Q (F0 m pc ls (v :: .ref a :: rest)) := by
  obtain ⟨q0, he⟩ := List.mem_iff_getElem?.mp he0
  have hts := hC.1.2.2.2.2
  have hown := hC.1.2.2.2.1
  have hd' : parseFieldDescriptor (T k).2.2.1 = some ty := by rw [hty k hk, hd]
  have hap := va_apart (own := own) hts hin ty0 hty hnm hC.2.1 hc
  obtain ⟨r, h1, cell, q1, q2, q3, q4⟩ := hM.1 q0 _ he
  have hr : r = (C, T, N) := Option.some.inj (h1.symm.trans hc)
  subst hr
  obtain ⟨hS, hfc, kC, hkC, hkind⟩ := hC.2.1.1 ci _ hc
  obtain ⟨cf, kf, fi, f, hi, hsl⟩ := hS k hk
  have hlay := hts _ (hin _ (u_in_lay hk))
  unfold u_lay at hlay
  rw [if_neg (by rw [hfin]; decide)] at hlay
  have hst := (u_facts hfc hkC (u_lays hts hin hk) hi).1
  have h6 := u_store hfc hkC hkind hlay hi hd' hn hfit
  refine W.putK hC.1.1 hC.1.2.1 (f := f) ⟨hown, hts _ hlink, ⟨_, _, _, hi⟩, hst⟩ (by rw [q2]; exact h6) q1 q3 (by rw [hsl]; exact k2_hasslot (q4 k hk)) rfl rfl hdg fun H' e1 e2 e3 => ?_
  rw [hsl] at e1 ⊢
  exact kk _ H' _ ⟨hM.1.set hM.2.1 he (show va_at G.1 vwCl (a, .inr (ci, fs.set k v)) H' from ⟨_, hc, t_OB.to (V := updV (vp_V fs) k v) ⟨_, e1, q2, q3, t_set q4 hap hk v⟩ (fun j _ => vp_updV_set hl v j)⟩) e3, hM.2.1.set he, hM.2.2.put e2 e3 (hM.2.1.2 q0 _ he)⟩ (mm_set he _) e2
theorem mm_putFN (hC : mm_C G A p s m c cc nL args own) (hM : mm_S G A s.heap w H locs) {ci index k : Nat} {C : String} {T : u_T} {N : Nat} {fs : List Value} {v : Value} {ty : FieldType} (ty0 : Nat → FieldType) (he0 : (a, .inr (ci, fs)) ∈ w) (hc : vwCl[ci]? = some (C, T, N)) (hin : ∀ w ∈ u_ws C T N, w ∈ gAll) (hty : ∀ k, k < N → parseFieldDescriptor (T k).2.2.1 = some (ty0 k)) (hnm : ∀ a, a < N → ∀ b, b < N → a ≠ b → (T a).2.1 ≠ (T b).2.1) (hk : k < N) (hlink : Cond.fieldLink own index (T k).1 (T k).2.1 (T k).2.2.1 ∈ gAll) (hfin : (T k).2.2.2 = true) (hin2 : meth.name = "<init>") (hdecl : (T k).1 = own) (hd : ty0 k = ty) (hn : narrow ty v = v) (hfit : fits ty v = true) (hl : k < fs.length) (hdg : decode cc pc = .ok (.putfield index, 3))
    (kk : ∀ (w' : va_W) (H1 : Heap) (locs1 : List Loc), mm_S G A s.heap w' H1 locs1 → mm_up w w' a (.inr (ci, fs.set k v)) → H1.size = H.size → W p l e R s m args below meth c H1 locs1 cells slots Q (F0 m (pc + 3) ls rest)) : W p l e R s m args below meth c H locs cells slots Q (F0 m pc ls (v :: .ref a :: rest)) := by
  obtain ⟨q0, he⟩ := List.mem_iff_getElem?.mp he0
  have hts := hC.1.2.2.2.2
  have hown := hC.1.2.2.2.1
  have hd' : parseFieldDescriptor (T k).2.2.1 = some ty := by rw [hty k hk, hd]
  have hap := va_apart (own := own) hts hin ty0 hty hnm hC.2.1 hc
  obtain ⟨r, h1, cell, q1, q2, q3, q4⟩ := hM.1 q0 _ he
  have hr : r = (C, T, N) := Option.some.inj (h1.symm.trans hc)
  subst hr
  obtain ⟨hS, hfc, kC, hkC, hkind⟩ := hC.2.1.1 ci _ hc
  obtain ⟨cf, kf, fi, f, hi, hsl⟩ := hS k hk
  have hlay := hts _ (hin _ (u_in_lay hk))
  unfold u_lay at hlay
  rw [if_pos hfin] at hlay
  have hst := (u_facts hfc hkC (u_lays hts hin hk) hi).1
  have hcf : m.cls = cf := by
    obtain ⟨_, _, c', _, _, _, -, -, hf', -, -, -, hown2, -⟩ := Cond.laysFinal_spec hlay
    have e1 : c' = cf := by have := hi.symm.trans hf'; simp at this; exact this.1.symm
    rw [hdecl] at hown2
    rw [← e1]; exact Option.some.inj (hown.symm.trans hown2)
  have h6 := u_fits hfc hkC hkind (Or.inr hlay) hi hd' hn hfit
  refine W.putFinK hC.1.1 hC.1.2.1 hown (hts _ hlink) hi hst hcf hin2 (by rw [q2]; exact h6) q1 q3 (by rw [hsl]; exact k2_hasslot (q4 k hk)) rfl rfl hdg fun H' e1 e2 e3 => ?_
  rw [hsl] at e1 ⊢
  exact kk _ H' _ ⟨hM.1.set hM.2.1 he (show va_at G.1 vwCl (a, .inr (ci, fs.set k v)) H' from ⟨_, hc, t_OB.to (V := updV (vp_V fs) k v) ⟨_, e1, q2, q3, t_set q4 hap hk v⟩ (fun j _ => vp_updV_set hl v j)⟩) e3, hM.2.1.set he, hM.2.2.put e2 e3 (hM.2.1.2 q0 _ he)⟩ (mm_set he _) e2
theorem mm_iastS (hC : mm_C G A p s m c cc nL args own) (hM : mm_S G A s.heap w H locs) {n N : Nat} {f : Nat → Int32} (he : (a, .inl (G.2 0, n, .inl f)) ∈ w) {i x : Int32} (eN : i.toNatClampNeg = N) (hin : vp_in i n) (hdg : decode cc pc = .ok (.iastore, 1))
    (kk : ∀ (w' : va_W) (H1 : Heap) (locs1 : List Loc), mm_S G A s.heap w' H1 locs1 → mm_up w w' a (.inl (G.2 0, n, .inl (upd f N x))) → H1.size = H.size → W p l e R s m args below meth c H1 locs1 cells slots Q (F0 m (pc + 1) ls rest)) : W p l e R s m args below meth c H locs cells slots Q (F0 m pc ls (.int x :: .int i :: .ref a :: rest)) := by
  subst eN
  obtain ⟨q0, ha⟩ := List.mem_iff_getElem?.mp he
  refine W.iast hC.1.1 hC.1.2.1 (hM.1 q0 _ ha) ((hC.2.1.2 0 _ rfl).1 n (fun j => .int (f j))) (fun q => by cases q) (by show ¬ (i < 0 ∨ (arrV _ _ _).slots.size ≤ _); rw [arrV_size]; exact hin) rfl rfl hdg fun H1 e z oq => ?_
  refine kk _ H1 _ ⟨hM.1.set hM.2.1 ha ?_ oq, hM.2.1.set ha, hM.2.2.put z oq (hM.2.1.2 q0 _ ha)⟩ (mm_set ha _) z
  show H1[a]? = some (vp_cell _ _)
  rw [e]
  rw [vp_cell_i, vp_cell_i, arrV_store]
  congr 2
  funext q
  by_cases hq : q = i.toNatClampNeg
  · subst hq
    simp [updV, upd]
  · simp [updV, upd, hq]
theorem mm_newq (hC : mm_C G A p s m c cc nL args own) (hM : mm_S G A s.heap w H locs) (hz : H.size = a) {n : Int32} {N index : Nat} (hcl : Cond.classLink own index "MirrorFerry$Marsh" ∈ gAll) (hn : ¬ n < 0) (hN : n.toNatClampNeg = N) (hbytes : N * 4 ≤ 536870912) (hcells : cells + 1 ≤ R.cells) (hslots : slots + N ≤ R.slots) (hdg : decode cc pc = .ok (.anewarray index, 3))
    (kk : ∀ (w' : va_W) (H1 : Heap), mm_S G A s.heap w' H1 locs → mm_up w w' a (.inl (G.2 2, N, .inr (.inr (.inr (.inr (fun _ => none)))))) → H1.size = a + 1 → W p l e R s m args below meth c H1 locs (cells + 1) (slots + N) Q (F0 m (pc + 3) ls (.ref a :: rest))) : W p l e R s m args below meth c H locs cells slots Q (F0 m pc ls (.int n :: rest)) := by
  subst hN
  subst hz
  have hts := hC.1.2.2.2.2
  have hS := hM.2.2
  have hA := hC.2.2.2
  refine W.anew hC.1.1 hC.1.2.1 hC.1.2.2.2.1 (hts _ hcl) (va_AO.use hC.2.2.1.1.2.1) rfl hdg rfl hn hbytes hcells hslots fun cA kA comp f1 f2 f3 f4 => ?_
  generalize hH1 : H.push ({ cls := cA, slots := Array.replicate n.toNatClampNeg .null, vm := .none } : Cell) = H1
  have z1 : H1.size = H.size + 1 := by rw [← hH1, Array.size_push]
  have e1 : H1[H.size]? = some (arrV cA n.toNatClampNeg (fun _ => .null)) := by rw [← hH1, Array.getElem?_push_size, ← arrV_new]
  have o1 : ∀ q : Nat, q < H.size → H1[q]? = H[q]? := fun q hq => by rw [← hH1, Array.getElem?_push, if_neg (Nat.ne_of_lt hq)]
  have hcA : cA = G.2 2 := by
    obtain ⟨kA', comp', g1, g2, g3, g4⟩ := (hC.2.1.2 2 _ rfl).2
    exact Option.some.inj (f1.symm.trans g4)
  subst hcA
  exact kk _ H1 ⟨mm_pushP hM.1 o1 (by show H1[H.size]? = some (vp_cell _ _); rw [vp_cell_q]; exact e1), hM.2.1.push hM.1 rfl (hA _ hS.1), ⟨Nat.le_trans hS.1 (by omega), fun x h1 h2 => (o1 x (Nat.lt_of_lt_of_le h1 hS.1)).trans (hS.2.1 x h1 h2), hS.2.2⟩⟩ (mm_push w _ _) z1
theorem mm_aastS (hC : mm_C G A p s m c cc nL args own) (hM : mm_S G A s.heap w H locs) {n N v : Nat} {vs : List Value} {f : Nat → Option Nat} (he : (a, .inl (G.2 2, n, .inr (.inr (.inr (.inr f))))) ∈ w) (hev : (v, .inr (6, vs)) ∈ w) {i : Int32} (eN : i.toNatClampNeg = N) (hin : vp_in i n) (hdg : decode cc pc = .ok (.aastore, 1))
    (kk : ∀ (w' : va_W) (H1 : Heap) (locs1 : List Loc), mm_S G A s.heap w' H1 locs1 → mm_up w w' a (.inl (G.2 2, n, .inr (.inr (.inr (.inr (va_up f N (some v))))))) → H1.size = H.size → W p l e R s m args below meth c H1 locs1 cells slots Q (F0 m (pc + 1) ls rest)) : W p l e R s m args below meth c H locs cells slots Q (F0 m pc ls (.ref v :: .int i :: .ref a :: rest)) := by
  subst eN
  obtain ⟨q0, ha⟩ := List.mem_iff_getElem?.mp he
  obtain ⟨qk, hv⟩ := List.mem_iff_getElem?.mp hev
  have hlt : i.toNatClampNeg < n := Nat.not_le.mp fun q => hin (Or.inr q)
  have h0 : ¬ i < 0 := fun q => hin (Or.inl q)
  obtain ⟨r', hr', cellV, g1, g2, g3, -⟩ := hM.1 qk _ hv
  have hcls := (hC.2.1.1 6 (RX6, TX6, 5) rfl).2
  obtain ⟨kA, comp, k1, k2, k3, -⟩ := (hC.2.1.2 2 _ rfl).2
  have hcomp : comp = G.1.1 6 := Option.some.inj (k3.symm.trans hcls.1)
  subst hcomp
  obtain ⟨kC, hkC, -⟩ := hcls.2
  refine W.aast hC.1.1 hC.1.2.1 (hM.1 q0 _ ha) (fun q h => by cases h) (fun h => by cases h) k1 k2 rfl hkC ⟨h0, by show _ < (arrV _ _ _).slots.size; rw [arrV_size]; exact hlt⟩ g1 (fun q h => by rw [g3] at h; cases h) (by rw [g2]; exact hkC) (by rw [g2]; exact va_assign hcls) rfl rfl hdg fun H1 e z oq => ?_
  refine kk _ H1 _ ⟨hM.1.set hM.2.1 ha ?_ oq, hM.2.1.set ha, hM.2.2.put z oq (hM.2.1.2 q0 _ ha)⟩ (mm_set ha _) z
  show H1[a]? = some (vp_cell _ _)
  rw [e]
  rw [vp_cell_q, vp_cell_q, arrV_store]
  congr 2
  funext q
  by_cases hq : q = i.toNatClampNeg
  · subst hq
    simp [updV, va_up, va_rf]
  · simp [updV, va_up, hq]
end MMC2
set_option maxHeartbeats 8000000 in
set_option maxRecDepth 100000 in
theorem c_X9_init (l : Launch) {G : mm_G} {w : va_W} {sz b : Nat} (hb0 : sz = b + 1) (hp : (b, (.inr (9, [.null, .int 0, .int 0]) : va_E)) ∈ w) : Met l yX9_init (Cond.code yX9_init cX9_init 1 none :: gAll) ({ frames := 1, cells := 1, slots := 81, locals := 40 }) (va_Pc [.ref b] (mm_Pre G w sz)) (mm_QN G w sz (b + 2) (fun w' => At9 G w' b (fun _ => 0) 0 0 ∧ mm_fr w w' b (b + 2))) 1 81 (va_A w sz) := by
  refine mm_headN [.ref b] (by decide +kernel) rfl (Nat.le_of_ble_eq_true rfl) ?_
  intro p e s m args below meth c A Q hsz hC hM hret hnm ls hl
  have hx := hC.1.1
  have hb := hC.1.2.1
  have hl : lv_has ls 1 [(0, .ref b)] := hl
  have hF : mm_fr w w b (b + 2) := mm_fr.rf
  have hz : s.heap.size = b + 1 := hsz.trans hb0
  refine lv_aload_n hx hb dX9_init_0 rfl (lv_at hl 0 rfl) ?_
  refine mm_obj hC hl.1 q1_52 q1_39 q1_40 dX9_init_1 (Nat.le_of_ble_eq_true rfl) (Nat.le_of_ble_eq_true rfl) ?_
  refine lv_aload_n hx hb dX9_init_4 rfl (lv_at hl 0 rfl) ?_
  refine lv_bipush (v := 81) hx hb dX9_init_5 (by decide) ?_
  refine mm_newi (a := b + 1) (N := 81) hC hM (by omega) q1_66 (by decide) (by decide) (by decide) (Nat.le_of_ble_eq_true rfl) (Nat.le_of_ble_eq_true rfl) dX9_init_7 (fun w1 H hM hm hz => ?_)
  have hp := hm.keep hp (by omega)
  have hF := hF.tr (hm.fr (by omega) (by omega))
  have ha1 := hm.1
  refine mm_putFN hC hM (k := 0) tyX9 hp rfl inAX9 tyX9_ok nmX9 (by decide) q1_53 rfl hnm rfl rfl rfl rfl (Nat.le_of_ble_eq_true rfl) dX9_init_9 (fun w2 H1 locs hM hm hzz => ?_)
  have hz := hzz.trans hz
  have hp := hm.1
  have ha1 := hm.keep ha1 (by omega)
  have hF := hF.tr (hm.fr (by omega) (by omega))
  exact hret hM dX9_init_12 (by omega) ⟨⟨hp, ha1⟩, hF⟩
set_option maxHeartbeats 8000000 in
set_option maxRecDepth 100000 in
theorem c_X3_init (l : Launch) {G : mm_G} {w : va_W} {sz b : Nat} (hb0 : sz = b + 1) (hp : (b, (.inr (3, [.null, .null, .null, .int 0, .int 0, .int 0, .int 0, .int 0]) : va_E)) ∈ w) : Met l yX3_init (Cond.code yX3_init cX3_init 1 none :: gAll) ({ frames := 1, cells := 3, slots := 12, locals := 40 }) (va_Pc [.ref b] (mm_Pre G w sz)) (mm_QN G w sz (b + 4) (fun w' => At3 G w' b (fun _ => 0) (fun _ => 0) (fun _ => 0) 0 0 0 0 0 ∧ mm_fr w w' b (b + 4))) 3 12 (va_A w sz) := by
  refine mm_headN [.ref b] (by decide +kernel) rfl (Nat.le_of_ble_eq_true rfl) ?_
  intro p e s m args below meth c A Q hsz hC hM hret hnm ls hl
  have hx := hC.1.1
  have hb := hC.1.2.1
  have hl : lv_has ls 1 [(0, .ref b)] := hl
  have hF : mm_fr w w b (b + 4) := mm_fr.rf
  have hz : s.heap.size = b + 1 := hsz.trans hb0
  refine lv_aload_n hx hb dX3_init_0 rfl (lv_at hl 0 rfl) ?_
  refine mm_obj hC hl.1 q1_72 q1_39 q1_40 dX3_init_1 (Nat.le_of_ble_eq_true rfl) (Nat.le_of_ble_eq_true rfl) ?_
  refine lv_aload_n hx hb dX3_init_4 rfl (lv_at hl 0 rfl) ?_
  refine lv_iconst (v := 4) hx hb dX3_init_5 (by decide) ?_
  refine mm_newi (a := b + 1) (N := 4) hC hM (by omega) q1_66 (by decide) (by decide) (by decide) (Nat.le_of_ble_eq_true rfl) (Nat.le_of_ble_eq_true rfl) dX3_init_6 (fun w1 H hM hm hz => ?_)
  have hp := hm.keep hp (by omega)
  have hF := hF.tr (hm.fr (by omega) (by omega))
  have ha1 := hm.1
  refine mm_putFN hC hM (k := 0) tyX3 hp rfl inAX3 tyX3_ok nmX3 (by decide) q1_73 rfl hnm rfl rfl rfl rfl (Nat.le_of_ble_eq_true rfl) dX3_init_8 (fun w2 H1 locs hM hm hzz => ?_)
  have hz := hzz.trans hz
  have hp := hm.1
  have ha1 := hm.keep ha1 (by omega)
  have hF := hF.tr (hm.fr (by omega) (by omega))
  refine lv_aload_n hx hb dX3_init_11 rfl (lv_at hl 0 rfl) ?_
  refine lv_iconst (v := 4) hx hb dX3_init_12 (by decide) ?_
  refine mm_newi (a := b + 2) (N := 4) hC hM (by omega) q1_66 (by decide) (by decide) (by decide) (Nat.le_of_ble_eq_true rfl) (Nat.le_of_ble_eq_true rfl) dX3_init_13 (fun w3 H hM hm hz => ?_)
  have hp := hm.keep hp (by omega)
  have ha1 := hm.keep ha1 (by omega)
  have hF := hF.tr (hm.fr (by omega) (by omega))
  have ha2 := hm.1
  refine mm_putFN hC hM (k := 1) tyX3 hp rfl inAX3 tyX3_ok nmX3 (by decide) q1_76 rfl hnm rfl rfl rfl rfl (Nat.le_of_ble_eq_true rfl) dX3_init_15 (fun w4 H1 locs hM hm hzz => ?_)
  have hz := hzz.trans hz
  have hp := hm.1
  have ha1 := hm.keep ha1 (by omega)
  have ha2 := hm.keep ha2 (by omega)
  have hF := hF.tr (hm.fr (by omega) (by omega))
  refine lv_aload_n hx hb dX3_init_18 rfl (lv_at hl 0 rfl) ?_
  refine lv_iconst (v := 4) hx hb dX3_init_19 (by decide) ?_
  refine mm_newi (a := b + 3) (N := 4) hC hM (by omega) q1_66 (by decide) (by decide) (by decide) (Nat.le_of_ble_eq_true rfl) (Nat.le_of_ble_eq_true rfl) dX3_init_20 (fun w5 H hM hm hz => ?_)
  have hp := hm.keep hp (by omega)
  have ha1 := hm.keep ha1 (by omega)
  have ha2 := hm.keep ha2 (by omega)
  have hF := hF.tr (hm.fr (by omega) (by omega))
  have ha3 := hm.1
  refine mm_putFN hC hM (k := 2) tyX3 hp rfl inAX3 tyX3_ok nmX3 (by decide) q1_79 rfl hnm rfl rfl rfl rfl (Nat.le_of_ble_eq_true rfl) dX3_init_22 (fun w6 H1 locs hM hm hzz => ?_)
  have hz := hzz.trans hz
  have hp := hm.1
  have ha1 := hm.keep ha1 (by omega)
  have ha2 := hm.keep ha2 (by omega)
  have ha3 := hm.keep ha3 (by omega)
  have hF := hF.tr (hm.fr (by omega) (by omega))
  exact hret hM dX3_init_25 (by omega) ⟨⟨hp, ha1, ha2, ha3⟩, hF⟩
set_option maxHeartbeats 8000000 in
set_option maxRecDepth 100000 in
theorem c_X8_init (l : Launch) {G : mm_G} {w : va_W} {sz b : Nat} (hb0 : sz = b + 1) (hp : (b, (.inr (8, [.null, .null]) : va_E)) ∈ w) : Met l yX8_init (Cond.code yX8_init cX8_init 1 none :: gAll) ({ frames := 1, cells := 2, slots := 126, locals := 40 }) (va_Pc [.ref b] (mm_Pre G w sz)) (mm_QN G w sz (b + 3) (fun w' => At8 G w' b (fun _ => 0) (fun _ => 0) ∧ mm_fr w w' b (b + 3))) 2 126 (va_A w sz) := by
  refine mm_headN [.ref b] (by decide +kernel) rfl (Nat.le_of_ble_eq_true rfl) ?_
  intro p e s m args below meth c A Q hsz hC hM hret hnm ls hl
  have hx := hC.1.1
  have hb := hC.1.2.1
  have hl : lv_has ls 1 [(0, .ref b)] := hl
  have hF : mm_fr w w b (b + 3) := mm_fr.rf
  have hz : s.heap.size = b + 1 := hsz.trans hb0
  refine lv_aload_n hx hb dX8_init_0 rfl (lv_at hl 0 rfl) ?_
  refine mm_obj hC hl.1 q1_113 q1_39 q1_40 dX8_init_1 (Nat.le_of_ble_eq_true rfl) (Nat.le_of_ble_eq_true rfl) ?_
  refine lv_aload_n hx hb dX8_init_4 rfl (lv_at hl 0 rfl) ?_
  refine lv_bipush (v := 120) hx hb dX8_init_5 (by decide) ?_
  refine mm_newi (a := b + 1) (N := 120) hC hM (by omega) q1_66 (by decide) (by decide) (by decide) (Nat.le_of_ble_eq_true rfl) (Nat.le_of_ble_eq_true rfl) dX8_init_7 (fun w1 H hM hm hz => ?_)
  have hp := hm.keep hp (by omega)
  have hF := hF.tr (hm.fr (by omega) (by omega))
  have ha1 := hm.1
  refine mm_putFN hC hM (k := 0) tyX8 hp rfl inAX8 tyX8_ok nmX8 (by decide) q1_114 rfl hnm rfl rfl rfl rfl (Nat.le_of_ble_eq_true rfl) dX8_init_9 (fun w2 H1 locs hM hm hzz => ?_)
  have hz := hzz.trans hz
  have hp := hm.1
  have ha1 := hm.keep ha1 (by omega)
  have hF := hF.tr (hm.fr (by omega) (by omega))
  refine lv_aload_n hx hb dX8_init_12 rfl (lv_at hl 0 rfl) ?_
  refine lv_bipush (v := 6) hx hb dX8_init_13 (by decide) ?_
  refine mm_newi (a := b + 2) (N := 6) hC hM (by omega) q1_66 (by decide) (by decide) (by decide) (Nat.le_of_ble_eq_true rfl) (Nat.le_of_ble_eq_true rfl) dX8_init_15 (fun w3 H hM hm hz => ?_)
  have hp := hm.keep hp (by omega)
  have ha1 := hm.keep ha1 (by omega)
  have hF := hF.tr (hm.fr (by omega) (by omega))
  have ha2 := hm.1
  refine mm_putFN hC hM (k := 1) tyX8 hp rfl inAX8 tyX8_ok nmX8 (by decide) q1_115 rfl hnm rfl rfl rfl rfl (Nat.le_of_ble_eq_true rfl) dX8_init_17 (fun w4 H1 locs hM hm hzz => ?_)
  have hz := hzz.trans hz
  have hp := hm.1
  have ha1 := hm.keep ha1 (by omega)
  have ha2 := hm.keep ha2 (by omega)
  have hF := hF.tr (hm.fr (by omega) (by omega))
  exact hret hM dX8_init_20 (by omega) ⟨⟨hp, ha1, ha2⟩, hF⟩
set_option maxHeartbeats 8000000 in
set_option maxRecDepth 100000 in
theorem c_X5_init (l : Launch) {G : mm_G} {w : va_W} {sz b : Nat} (hb0 : sz = b + 1) (hp : (b, (.inr (5, [.null, .int 0]) : va_E)) ∈ w) : Met l yX5_init (Cond.code yX5_init cX5_init 1 none :: gAll) ({ frames := 1, cells := 1, slots := 8, locals := 40 }) (va_Pc [.ref b] (mm_Pre G w sz)) (mm_QN G w sz (b + 2) (fun w' => At5 G w' b (fun _ => 0) 0 ∧ mm_fr w w' b (b + 2))) 1 8 (va_A w sz) := by
  refine mm_headN [.ref b] (by decide +kernel) rfl (Nat.le_of_ble_eq_true rfl) ?_
  intro p e s m args below meth c A Q hsz hC hM hret hnm ls hl
  have hx := hC.1.1
  have hb := hC.1.2.1
  have hl : lv_has ls 1 [(0, .ref b)] := hl
  have hF : mm_fr w w b (b + 2) := mm_fr.rf
  have hz : s.heap.size = b + 1 := hsz.trans hb0
  refine lv_aload_n hx hb dX5_init_0 rfl (lv_at hl 0 rfl) ?_
  refine mm_obj hC hl.1 q1_128 q1_39 q1_40 dX5_init_1 (Nat.le_of_ble_eq_true rfl) (Nat.le_of_ble_eq_true rfl) ?_
  refine lv_aload_n hx hb dX5_init_4 rfl (lv_at hl 0 rfl) ?_
  refine lv_bipush (v := 8) hx hb dX5_init_5 (by decide) ?_
  refine mm_newi (a := b + 1) (N := 8) hC hM (by omega) q1_66 (by decide) (by decide) (by decide) (Nat.le_of_ble_eq_true rfl) (Nat.le_of_ble_eq_true rfl) dX5_init_7 (fun w1 H hM hm hz => ?_)
  have hp := hm.keep hp (by omega)
  have hF := hF.tr (hm.fr (by omega) (by omega))
  have ha1 := hm.1
  refine mm_putFN hC hM (k := 0) tyX5 hp rfl inAX5 tyX5_ok nmX5 (by decide) q1_129 rfl hnm rfl rfl rfl rfl (Nat.le_of_ble_eq_true rfl) dX5_init_9 (fun w2 H1 locs hM hm hzz => ?_)
  have hz := hzz.trans hz
  have hp := hm.1
  have ha1 := hm.keep ha1 (by omega)
  have hF := hF.tr (hm.fr (by omega) (by omega))
  exact hret hM dX5_init_12 (by omega) ⟨⟨hp, ha1⟩, hF⟩
set_option maxHeartbeats 8000000 in
set_option maxRecDepth 100000 in
theorem c_X6_init (l : Launch) {G : mm_G} {w : va_W} {sz b : Nat} (hb0 : sz = b + 1) (hp : (b, (.inr (6, [.null, .null, .null, .null, .int 0]) : va_E)) ∈ w) : Met l yX6_init (Cond.code yX6_init cX6_init 1 none :: gAll) ({ frames := 2, cells := 11, slots := 242, locals := 60 }) (va_Pc [.ref b] (mm_Pre G w sz)) (mm_QN G w sz (b + 12) (fun w' => At6 G w' b (fun _ => 0) 0 0 (fun _ => 0) (fun _ => 0) (fun _ => 0) 0 0 0 0 0 (fun _ => 0) (fun _ => 0) (fun _ => 0) 0 0 ∧ mm_fr w w' b (b + 12))) 11 242 (va_A w sz) := by
  refine mm_headN [.ref b] (by decide +kernel) rfl (Nat.le_of_ble_eq_true rfl) ?_
  intro p e s m args below meth c A Q hsz hC hM hret hnm ls hl
  have hx := hC.1.1
  have hb := hC.1.2.1
  have hl : lv_has ls 1 [(0, .ref b)] := hl
  have hF : mm_fr w w b (b + 12) := mm_fr.rf
  have hz : s.heap.size = b + 1 := hsz.trans hb0
  refine lv_aload_n hx hb dX6_init_0 rfl (lv_at hl 0 rfl) ?_
  refine mm_obj hC hl.1 q1_46 q1_39 q1_40 dX6_init_1 (Nat.le_of_ble_eq_true rfl) (Nat.le_of_ble_eq_true rfl) ?_
  refine lv_aload_n hx hb dX6_init_4 rfl (lv_at hl 0 rfl) ?_
  refine mm_new (a := b + 1) (fs := [.null, .int 0, .int 0]) (C := RX9) (T := TX9) (N := 3) (ci := 9) tyX9 hC hM (by omega) rfl inAX9 tyX9_ok q1_47 q1_48 q1_3 (fun j hj => by rcases (show j = 0 ∨ j = 1 ∨ j = 2 by omega) with rfl | rfl | rfl <;> rfl) (Nat.le_of_ble_eq_true rfl) (Nat.le_of_ble_eq_true rfl) dX6_init_5 (fun w1 H hM hm hz => ?_)
  have hp := hm.keep hp (by omega)
  have hF := hF.tr (hm.fr (by omega) (by omega))
  have hnew := hm.1
  refine lv_dup hx hb dX6_init_8 rfl ?_
  refine mm_INcN (rest := [.ref (b + 1), .ref b]) hC hM (c_X9_init l (b := b + 1) hz hnew) q1_51 q1_3 ykX9_init q1_49 q1_50 rfl ⟨rfl, rfl⟩ ⟨Nat.le_of_ble_eq_true rfl, Nat.le_of_ble_eq_true rfl⟩ rfl hl.1 rfl (Nat.le_of_ble_eq_true rfl) dX6_init_9 ⟨Nat.le_of_ble_eq_true rfl, Nat.le_of_ble_eq_true rfl⟩ (fun w2 H locs hM hz hw => ?_)
  obtain ⟨ha1, hfr⟩ := hw
  have hp := hfr.keep hp (by omega)
  have hF := hF.tr (hfr.wide (by omega) (by omega))
  refine mm_putFN hC hM (k := 0) tyX6 hp rfl inAX6 tyX6_ok nmX6 (by decide) q1_138 rfl hnm rfl rfl rfl rfl (Nat.le_of_ble_eq_true rfl) dX6_init_12 (fun w3 H1 locs hM hm hzz => ?_)
  have hz := hzz.trans hz
  have hp := hm.1
  have ha1 := ha1.up hm (by omega)
  have hF := hF.tr (hm.fr (by omega) (by omega))
  refine lv_aload_n hx hb dX6_init_15 rfl (lv_at hl 0 rfl) ?_
  refine mm_new (a := b + 3) (fs := [.null, .null, .null, .int 0, .int 0, .int 0, .int 0, .int 0]) (C := RX3) (T := TX3) (N := 8) (ci := 3) tyX3 hC hM (by omega) rfl inAX3 tyX3_ok q1_67 q1_68 q1_4 (fun j hj => by rcases (show j = 0 ∨ j = 1 ∨ j = 2 ∨ j = 3 ∨ j = 4 ∨ j = 5 ∨ j = 6 ∨ j = 7 by omega) with rfl | rfl | rfl | rfl | rfl | rfl | rfl | rfl <;> rfl) (Nat.le_of_ble_eq_true rfl) (Nat.le_of_ble_eq_true rfl) dX6_init_16 (fun w4 H hM hm hz => ?_)
  have hp := hm.keep hp (by omega)
  have ha1 := ha1.up hm (by omega)
  have hF := hF.tr (hm.fr (by omega) (by omega))
  have hnew := hm.1
  refine lv_dup hx hb dX6_init_19 rfl ?_
  refine mm_INcN (rest := [.ref (b + 3), .ref b]) hC hM (c_X3_init l (b := b + 3) hz hnew) q1_71 q1_4 ykX3_init q1_69 q1_70 rfl ⟨rfl, rfl⟩ ⟨Nat.le_of_ble_eq_true rfl, Nat.le_of_ble_eq_true rfl⟩ rfl hl.1 rfl (Nat.le_of_ble_eq_true rfl) dX6_init_20 ⟨Nat.le_of_ble_eq_true rfl, Nat.le_of_ble_eq_true rfl⟩ (fun w5 H locs hM hz hw => ?_)
  obtain ⟨ha3, hfr⟩ := hw
  have hp := hfr.keep hp (by omega)
  have ha1 := ha1.keep hfr (by omega)
  have hF := hF.tr (hfr.wide (by omega) (by omega))
  refine mm_putFN hC hM (k := 1) tyX6 hp rfl inAX6 tyX6_ok nmX6 (by decide) q1_141 rfl hnm rfl rfl rfl rfl (Nat.le_of_ble_eq_true rfl) dX6_init_23 (fun w6 H1 locs hM hm hzz => ?_)
  have hz := hzz.trans hz
  have hp := hm.1
  have ha1 := ha1.up hm (by omega)
  have ha3 := ha3.up hm (by omega)
  have hF := hF.tr (hm.fr (by omega) (by omega))
  refine lv_aload_n hx hb dX6_init_26 rfl (lv_at hl 0 rfl) ?_
  refine mm_new (a := b + 7) (fs := [.null, .null]) (C := RX8) (T := TX8) (N := 2) (ci := 8) tyX8 hC hM (by omega) rfl inAX8 tyX8_ok q1_108 q1_109 q1_5 (fun j hj => by rcases (show j = 0 ∨ j = 1 by omega) with rfl | rfl <;> rfl) (Nat.le_of_ble_eq_true rfl) (Nat.le_of_ble_eq_true rfl) dX6_init_27 (fun w7 H hM hm hz => ?_)
  have hp := hm.keep hp (by omega)
  have ha1 := ha1.up hm (by omega)
  have ha3 := ha3.up hm (by omega)
  have hF := hF.tr (hm.fr (by omega) (by omega))
  have hnew := hm.1
  refine lv_dup hx hb dX6_init_30 rfl ?_
  refine mm_INcN (rest := [.ref (b + 7), .ref b]) hC hM (c_X8_init l (b := b + 7) hz hnew) q1_112 q1_5 ykX8_init q1_110 q1_111 rfl ⟨rfl, rfl⟩ ⟨Nat.le_of_ble_eq_true rfl, Nat.le_of_ble_eq_true rfl⟩ rfl hl.1 rfl (Nat.le_of_ble_eq_true rfl) dX6_init_31 ⟨Nat.le_of_ble_eq_true rfl, Nat.le_of_ble_eq_true rfl⟩ (fun w8 H locs hM hz hw => ?_)
  obtain ⟨ha7, hfr⟩ := hw
  have hp := hfr.keep hp (by omega)
  have ha1 := ha1.keep hfr (by omega)
  have ha3 := ha3.keep hfr (by omega)
  have hF := hF.tr (hfr.wide (by omega) (by omega))
  refine mm_putFN hC hM (k := 2) tyX6 hp rfl inAX6 tyX6_ok nmX6 (by decide) q1_143 rfl hnm rfl rfl rfl rfl (Nat.le_of_ble_eq_true rfl) dX6_init_34 (fun w9 H1 locs hM hm hzz => ?_)
  have hz := hzz.trans hz
  have hp := hm.1
  have ha1 := ha1.up hm (by omega)
  have ha3 := ha3.up hm (by omega)
  have ha7 := ha7.up hm (by omega)
  have hF := hF.tr (hm.fr (by omega) (by omega))
  refine lv_aload_n hx hb dX6_init_37 rfl (lv_at hl 0 rfl) ?_
  refine mm_new (a := b + 10) (fs := [.null, .int 0]) (C := RX5) (T := TX5) (N := 2) (ci := 5) tyX5 hC hM (by omega) rfl inAX5 tyX5_ok q1_123 q1_124 q1_6 (fun j hj => by rcases (show j = 0 ∨ j = 1 by omega) with rfl | rfl <;> rfl) (Nat.le_of_ble_eq_true rfl) (Nat.le_of_ble_eq_true rfl) dX6_init_38 (fun w10 H hM hm hz => ?_)
  have hp := hm.keep hp (by omega)
  have ha1 := ha1.up hm (by omega)
  have ha3 := ha3.up hm (by omega)
  have ha7 := ha7.up hm (by omega)
  have hF := hF.tr (hm.fr (by omega) (by omega))
  have hnew := hm.1
  refine lv_dup hx hb dX6_init_41 rfl ?_
  refine mm_INcN (rest := [.ref (b + 10), .ref b]) hC hM (c_X5_init l (b := b + 10) hz hnew) q1_127 q1_6 ykX5_init q1_125 q1_126 rfl ⟨rfl, rfl⟩ ⟨Nat.le_of_ble_eq_true rfl, Nat.le_of_ble_eq_true rfl⟩ rfl hl.1 rfl (Nat.le_of_ble_eq_true rfl) dX6_init_42 ⟨Nat.le_of_ble_eq_true rfl, Nat.le_of_ble_eq_true rfl⟩ (fun w11 H locs hM hz hw => ?_)
  obtain ⟨ha10, hfr⟩ := hw
  have hp := hfr.keep hp (by omega)
  have ha1 := ha1.keep hfr (by omega)
  have ha3 := ha3.keep hfr (by omega)
  have ha7 := ha7.keep hfr (by omega)
  have hF := hF.tr (hfr.wide (by omega) (by omega))
  refine mm_putFN hC hM (k := 3) tyX6 hp rfl inAX6 tyX6_ok nmX6 (by decide) q1_145 rfl hnm rfl rfl rfl rfl (Nat.le_of_ble_eq_true rfl) dX6_init_45 (fun w12 H1 locs hM hm hzz => ?_)
  have hz := hzz.trans hz
  have hp := hm.1
  have ha1 := ha1.up hm (by omega)
  have ha3 := ha3.up hm (by omega)
  have ha7 := ha7.up hm (by omega)
  have ha10 := ha10.up hm (by omega)
  have hF := hF.tr (hm.fr (by omega) (by omega))
  exact hret hM dX6_init_48 (by omega) ⟨⟨hp, ha1, ha3, ha7, ha10⟩, hF⟩
set_option maxHeartbeats 8000000 in
set_option maxRecDepth 100000 in
theorem c_X11_init (l : Launch) {G : mm_G} {w : va_W} {sz b : Nat} (hb0 : sz = b + 1) (hp : (b, (.inr (11, [.null, .null, .null, .int 0, .null, .null]) : va_E)) ∈ w) : Met l yX11_init (Cond.code yX11_init cX11_init 1 none :: gAll) ({ frames := 1, cells := 5, slots := 649, locals := 40 }) (va_Pc [.ref b] (mm_Pre G w sz)) (mm_QN G w sz (b + 6) (fun w' => At11 G w' b (fun _ => 0) (fun _ => 0) (fun _ => 0) 0 (fun _ => 0) (fun _ => 0) ∧ mm_fr w w' b (b + 6))) 5 649 (va_A w sz) := by
  refine mm_headN [.ref b] (by decide +kernel) rfl (Nat.le_of_ble_eq_true rfl) ?_
  intro p e s m args below meth c A Q hsz hC hM hret hnm ls hl
  have hx := hC.1.1
  have hb := hC.1.2.1
  have hl : lv_has ls 1 [(0, .ref b)] := hl
  have hF : mm_fr w w b (b + 6) := mm_fr.rf
  have hz : s.heap.size = b + 1 := hsz.trans hb0
  refine lv_aload_n hx hb dX11_init_0 rfl (lv_at hl 0 rfl) ?_
  refine mm_obj hC hl.1 q1_185 q1_39 q1_40 dX11_init_1 (Nat.le_of_ble_eq_true rfl) (Nat.le_of_ble_eq_true rfl) ?_
  refine lv_aload_n hx hb dX11_init_4 rfl (lv_at hl 0 rfl) ?_
  refine lv_bipush (v := 81) hx hb dX11_init_5 (by decide) ?_
  refine mm_newi (a := b + 1) (N := 81) hC hM (by omega) q1_66 (by decide) (by decide) (by decide) (Nat.le_of_ble_eq_true rfl) (Nat.le_of_ble_eq_true rfl) dX11_init_7 (fun w1 H hM hm hz => ?_)
  have hp := hm.keep hp (by omega)
  have hF := hF.tr (hm.fr (by omega) (by omega))
  have ha1 := hm.1
  refine mm_putFN hC hM (k := 0) tyX11 hp rfl inAX11 tyX11_ok nmX11 (by decide) q1_186 rfl hnm rfl rfl rfl rfl (Nat.le_of_ble_eq_true rfl) dX11_init_9 (fun w2 H1 locs hM hm hzz => ?_)
  have hz := hzz.trans hz
  have hp := hm.1
  have ha1 := hm.keep ha1 (by omega)
  have hF := hF.tr (hm.fr (by omega) (by omega))
  refine lv_aload_n hx hb dX11_init_12 rfl (lv_at hl 0 rfl) ?_
  refine lv_bipush (v := 81) hx hb dX11_init_13 (by decide) ?_
  refine mm_newi (a := b + 2) (N := 81) hC hM (by omega) q1_66 (by decide) (by decide) (by decide) (Nat.le_of_ble_eq_true rfl) (Nat.le_of_ble_eq_true rfl) dX11_init_15 (fun w3 H hM hm hz => ?_)
  have hp := hm.keep hp (by omega)
  have ha1 := hm.keep ha1 (by omega)
  have hF := hF.tr (hm.fr (by omega) (by omega))
  have ha2 := hm.1
  refine mm_putFN hC hM (k := 1) tyX11 hp rfl inAX11 tyX11_ok nmX11 (by decide) q1_187 rfl hnm rfl rfl rfl rfl (Nat.le_of_ble_eq_true rfl) dX11_init_17 (fun w4 H1 locs hM hm hzz => ?_)
  have hz := hzz.trans hz
  have hp := hm.1
  have ha1 := hm.keep ha1 (by omega)
  have ha2 := hm.keep ha2 (by omega)
  have hF := hF.tr (hm.fr (by omega) (by omega))
  refine lv_aload_n hx hb dX11_init_20 rfl (lv_at hl 0 rfl) ?_
  refine lv_sipush (v := 325) hx hb dX11_init_21 (by decide) ?_
  refine mm_newi (a := b + 3) (N := 325) hC hM (by omega) q1_66 (by decide) (by decide) (by decide) (Nat.le_of_ble_eq_true rfl) (Nat.le_of_ble_eq_true rfl) dX11_init_24 (fun w5 H hM hm hz => ?_)
  have hp := hm.keep hp (by omega)
  have ha1 := hm.keep ha1 (by omega)
  have ha2 := hm.keep ha2 (by omega)
  have hF := hF.tr (hm.fr (by omega) (by omega))
  have ha3 := hm.1
  refine mm_putFN hC hM (k := 2) tyX11 hp rfl inAX11 tyX11_ok nmX11 (by decide) q1_188 rfl hnm rfl rfl rfl rfl (Nat.le_of_ble_eq_true rfl) dX11_init_26 (fun w6 H1 locs hM hm hzz => ?_)
  have hz := hzz.trans hz
  have hp := hm.1
  have ha1 := hm.keep ha1 (by omega)
  have ha2 := hm.keep ha2 (by omega)
  have ha3 := hm.keep ha3 (by omega)
  have hF := hF.tr (hm.fr (by omega) (by omega))
  refine lv_aload_n hx hb dX11_init_29 rfl (lv_at hl 0 rfl) ?_
  refine lv_bipush (v := 81) hx hb dX11_init_30 (by decide) ?_
  refine mm_newi (a := b + 4) (N := 81) hC hM (by omega) q1_66 (by decide) (by decide) (by decide) (Nat.le_of_ble_eq_true rfl) (Nat.le_of_ble_eq_true rfl) dX11_init_32 (fun w7 H hM hm hz => ?_)
  have hp := hm.keep hp (by omega)
  have ha1 := hm.keep ha1 (by omega)
  have ha2 := hm.keep ha2 (by omega)
  have ha3 := hm.keep ha3 (by omega)
  have hF := hF.tr (hm.fr (by omega) (by omega))
  have ha4 := hm.1
  refine mm_putFN hC hM (k := 4) tyX11 hp rfl inAX11 tyX11_ok nmX11 (by decide) q1_190 rfl hnm rfl rfl rfl rfl (Nat.le_of_ble_eq_true rfl) dX11_init_34 (fun w8 H1 locs hM hm hzz => ?_)
  have hz := hzz.trans hz
  have hp := hm.1
  have ha1 := hm.keep ha1 (by omega)
  have ha2 := hm.keep ha2 (by omega)
  have ha3 := hm.keep ha3 (by omega)
  have ha4 := hm.keep ha4 (by omega)
  have hF := hF.tr (hm.fr (by omega) (by omega))
  refine lv_aload_n hx hb dX11_init_37 rfl (lv_at hl 0 rfl) ?_
  refine lv_bipush (v := 81) hx hb dX11_init_38 (by decide) ?_
  refine mm_newi (a := b + 5) (N := 81) hC hM (by omega) q1_66 (by decide) (by decide) (by decide) (Nat.le_of_ble_eq_true rfl) (Nat.le_of_ble_eq_true rfl) dX11_init_40 (fun w9 H hM hm hz => ?_)
  have hp := hm.keep hp (by omega)
  have ha1 := hm.keep ha1 (by omega)
  have ha2 := hm.keep ha2 (by omega)
  have ha3 := hm.keep ha3 (by omega)
  have ha4 := hm.keep ha4 (by omega)
  have hF := hF.tr (hm.fr (by omega) (by omega))
  have ha5 := hm.1
  refine mm_putFN hC hM (k := 5) tyX11 hp rfl inAX11 tyX11_ok nmX11 (by decide) q1_193 rfl hnm rfl rfl rfl rfl (Nat.le_of_ble_eq_true rfl) dX11_init_42 (fun w10 H1 locs hM hm hzz => ?_)
  have hz := hzz.trans hz
  have hp := hm.1
  have ha1 := hm.keep ha1 (by omega)
  have ha2 := hm.keep ha2 (by omega)
  have ha3 := hm.keep ha3 (by omega)
  have ha4 := hm.keep ha4 (by omega)
  have ha5 := hm.keep ha5 (by omega)
  have hF := hF.tr (hm.fr (by omega) (by omega))
  exact hret hM dX11_init_45 (by omega) ⟨⟨hp, ha1, ha2, ha3, ha4, ha5⟩, hF⟩
set_option maxHeartbeats 8000000 in
set_option maxRecDepth 100000 in
theorem c_X7_init (l : Launch) {G : mm_G} {w : va_W} {sz b : Nat} (hb0 : sz = b + 1) (hp : (b, (.inr (7, [.null, .null]) : va_E)) ∈ w) : Met l yX7_init (Cond.code yX7_init cX7_init 1 none :: gAll) ({ frames := 1, cells := 2, slots := 320, locals := 40 }) (va_Pc [.ref b] (mm_Pre G w sz)) (mm_QN G w sz (b + 3) (fun w' => At7 G w' b (fun _ => 0) (fun _ => 0) ∧ mm_fr w w' b (b + 3))) 2 320 (va_A w sz) := by
  refine mm_headN [.ref b] (by decide +kernel) rfl (Nat.le_of_ble_eq_true rfl) ?_
  intro p e s m args below meth c A Q hsz hC hM hret hnm ls hl
  have hx := hC.1.1
  have hb := hC.1.2.1
  have hl : lv_has ls 1 [(0, .ref b)] := hl
  have hF : mm_fr w w b (b + 3) := mm_fr.rf
  have hz : s.heap.size = b + 1 := hsz.trans hb0
  refine lv_aload_n hx hb dX7_init_0 rfl (lv_at hl 0 rfl) ?_
  refine mm_obj hC hl.1 q1_213 q1_39 q1_40 dX7_init_1 (Nat.le_of_ble_eq_true rfl) (Nat.le_of_ble_eq_true rfl) ?_
  refine lv_aload_n hx hb dX7_init_4 rfl (lv_at hl 0 rfl) ?_
  refine lv_bipush (v := 64) hx hb dX7_init_5 (by decide) ?_
  refine mm_newi (a := b + 1) (N := 64) hC hM (by omega) q1_66 (by decide) (by decide) (by decide) (Nat.le_of_ble_eq_true rfl) (Nat.le_of_ble_eq_true rfl) dX7_init_7 (fun w1 H hM hm hz => ?_)
  have hp := hm.keep hp (by omega)
  have hF := hF.tr (hm.fr (by omega) (by omega))
  have ha1 := hm.1
  refine mm_putFN hC hM (k := 0) tyX7 hp rfl inAX7 tyX7_ok nmX7 (by decide) q1_214 rfl hnm rfl rfl rfl rfl (Nat.le_of_ble_eq_true rfl) dX7_init_9 (fun w2 H1 locs hM hm hzz => ?_)
  have hz := hzz.trans hz
  have hp := hm.1
  have ha1 := hm.keep ha1 (by omega)
  have hF := hF.tr (hm.fr (by omega) (by omega))
  refine lv_aload_n hx hb dX7_init_12 rfl (lv_at hl 0 rfl) ?_
  refine lv_sipush (v := 256) hx hb dX7_init_13 (by decide) ?_
  refine mm_newi (a := b + 2) (N := 256) hC hM (by omega) q1_66 (by decide) (by decide) (by decide) (Nat.le_of_ble_eq_true rfl) (Nat.le_of_ble_eq_true rfl) dX7_init_16 (fun w3 H hM hm hz => ?_)
  have hp := hm.keep hp (by omega)
  have ha1 := hm.keep ha1 (by omega)
  have hF := hF.tr (hm.fr (by omega) (by omega))
  have ha2 := hm.1
  refine mm_putFN hC hM (k := 1) tyX7 hp rfl inAX7 tyX7_ok nmX7 (by decide) q1_215 rfl hnm rfl rfl rfl rfl (Nat.le_of_ble_eq_true rfl) dX7_init_18 (fun w4 H1 locs hM hm hzz => ?_)
  have hz := hzz.trans hz
  have hp := hm.1
  have ha1 := hm.keep ha1 (by omega)
  have ha2 := hm.keep ha2 (by omega)
  have hF := hF.tr (hm.fr (by omega) (by omega))
  exact hret hM dX7_init_21 (by omega) ⟨⟨hp, ha1, ha2⟩, hF⟩
set_option maxHeartbeats 8000000 in
set_option maxRecDepth 100000 in
theorem c_X10_init (l : Launch) {G : mm_G} {w : va_W} {sz b : Nat} (hb0 : sz = b + 1) (hp : (b, (.inr (10, [.null, .int 0]) : va_E)) ∈ w) : Met l yX10_init (Cond.code yX10_init cX10_init 1 none :: gAll) ({ frames := 1, cells := 1, slots := 60, locals := 40 }) (va_Pc [.ref b] (mm_Pre G w sz)) (mm_QN G w sz (b + 2) (fun w' => At10 G w' b (fun _ => 0) 0 ∧ mm_fr w w' b (b + 2))) 1 60 (va_A w sz) := by
  refine mm_headN [.ref b] (by decide +kernel) rfl (Nat.le_of_ble_eq_true rfl) ?_
  intro p e s m args below meth c A Q hsz hC hM hret hnm ls hl
  have hx := hC.1.1
  have hb := hC.1.2.1
  have hl : lv_has ls 1 [(0, .ref b)] := hl
  have hF : mm_fr w w b (b + 2) := mm_fr.rf
  have hz : s.heap.size = b + 1 := hsz.trans hb0
  refine lv_aload_n hx hb dX10_init_0 rfl (lv_at hl 0 rfl) ?_
  refine mm_obj hC hl.1 q2_5 q1_39 q1_40 dX10_init_1 (Nat.le_of_ble_eq_true rfl) (Nat.le_of_ble_eq_true rfl) ?_
  refine lv_aload_n hx hb dX10_init_4 rfl (lv_at hl 0 rfl) ?_
  refine lv_bipush (v := 60) hx hb dX10_init_5 (by decide) ?_
  refine mm_newc (a := b + 1) (N := 60) hC hM (by omega) q2_15 (by decide) (by decide) (by decide) (Nat.le_of_ble_eq_true rfl) (Nat.le_of_ble_eq_true rfl) dX10_init_7 (fun w1 H hM hm hz => ?_)
  have hp := hm.keep hp (by omega)
  have hF := hF.tr (hm.fr (by omega) (by omega))
  have ha1 := hm.1
  refine mm_putFN hC hM (k := 0) tyX10 hp rfl inAX10 tyX10_ok nmX10 (by decide) q2_6 rfl hnm rfl rfl rfl rfl (Nat.le_of_ble_eq_true rfl) dX10_init_9 (fun w2 H1 locs hM hm hzz => ?_)
  have hz := hzz.trans hz
  have hp := hm.1
  have ha1 := hm.keep ha1 (by omega)
  have hF := hF.tr (hm.fr (by omega) (by omega))
  exact hret hM dX10_init_12 (by omega) ⟨⟨hp, ha1⟩, hF⟩
set_option maxHeartbeats 8000000 in
set_option maxRecDepth 100000 in
theorem c_X2_init (l : Launch) {G : mm_G} {w : va_W} {sz b : Nat} (hb0 : sz = b + 1) (hp : (b, (.inr (2, [.null, .null, .int 0]) : va_E)) ∈ w) : Met l yX2_init (Cond.code yX2_init cX2_init 1 none :: gAll) ({ frames := 1, cells := 2, slots := 120, locals := 40 }) (va_Pc [.ref b] (mm_Pre G w sz)) (mm_QN G w sz (b + 3) (fun w' => At2 G w' b (fun _ => 0) (fun _ => 0) 0 ∧ mm_fr w w' b (b + 3))) 2 120 (va_A w sz) := by
  refine mm_headN [.ref b] (by decide +kernel) rfl (Nat.le_of_ble_eq_true rfl) ?_
  intro p e s m args below meth c A Q hsz hC hM hret hnm ls hl
  have hx := hC.1.1
  have hb := hC.1.2.1
  have hl : lv_has ls 1 [(0, .ref b)] := hl
  have hF : mm_fr w w b (b + 3) := mm_fr.rf
  have hz : s.heap.size = b + 1 := hsz.trans hb0
  refine lv_aload_n hx hb dX2_init_0 rfl (lv_at hl 0 rfl) ?_
  refine mm_obj hC hl.1 q1_226 q1_39 q1_40 dX2_init_1 (Nat.le_of_ble_eq_true rfl) (Nat.le_of_ble_eq_true rfl) ?_
  refine lv_aload_n hx hb dX2_init_4 rfl (lv_at hl 0 rfl) ?_
  refine lv_bipush (v := 60) hx hb dX2_init_5 (by decide) ?_
  refine mm_newi (a := b + 1) (N := 60) hC hM (by omega) q1_66 (by decide) (by decide) (by decide) (Nat.le_of_ble_eq_true rfl) (Nat.le_of_ble_eq_true rfl) dX2_init_7 (fun w1 H hM hm hz => ?_)
  have hp := hm.keep hp (by omega)
  have hF := hF.tr (hm.fr (by omega) (by omega))
  have ha1 := hm.1
  refine mm_putFN hC hM (k := 0) tyX2 hp rfl inAX2 tyX2_ok nmX2 (by decide) q1_227 rfl hnm rfl rfl rfl rfl (Nat.le_of_ble_eq_true rfl) dX2_init_9 (fun w2 H1 locs hM hm hzz => ?_)
  have hz := hzz.trans hz
  have hp := hm.1
  have ha1 := hm.keep ha1 (by omega)
  have hF := hF.tr (hm.fr (by omega) (by omega))
  refine lv_aload_n hx hb dX2_init_12 rfl (lv_at hl 0 rfl) ?_
  refine lv_bipush (v := 60) hx hb dX2_init_13 (by decide) ?_
  refine mm_newi (a := b + 2) (N := 60) hC hM (by omega) q1_66 (by decide) (by decide) (by decide) (Nat.le_of_ble_eq_true rfl) (Nat.le_of_ble_eq_true rfl) dX2_init_15 (fun w3 H hM hm hz => ?_)
  have hp := hm.keep hp (by omega)
  have ha1 := hm.keep ha1 (by omega)
  have hF := hF.tr (hm.fr (by omega) (by omega))
  have ha2 := hm.1
  refine mm_putFN hC hM (k := 1) tyX2 hp rfl inAX2 tyX2_ok nmX2 (by decide) q1_229 rfl hnm rfl rfl rfl rfl (Nat.le_of_ble_eq_true rfl) dX2_init_17 (fun w4 H1 locs hM hm hzz => ?_)
  have hz := hzz.trans hz
  have hp := hm.1
  have ha1 := hm.keep ha1 (by omega)
  have ha2 := hm.keep ha2 (by omega)
  have hF := hF.tr (hm.fr (by omega) (by omega))
  exact hret hM dX2_init_20 (by omega) ⟨⟨hp, ha1, ha2⟩, hF⟩
theorem mm_slotsq (b : Nat) : (va_up (va_up (va_up (va_up (va_up (va_up (va_up (va_up (va_up (fun _ => none) 0 (some (b + 2 + 12 * 0))) 1 (some (b + 2 + 12 * 1))) 2 (some (b + 2 + 12 * 2))) 3 (some (b + 2 + 12 * 3))) 4 (some (b + 2 + 12 * 4))) 5 (some (b + 2 + 12 * 5))) 6 (some (b + 2 + 12 * 6))) 7 (some (b + 2 + 12 * 7))) 8 (some (b + 2 + 12 * 8))) = (fun j => if j < 9 then some (b + 2 + 12 * j) else none) := by
  funext j
  by_cases hj : j < 9
  · rw [if_pos hj]
    rcases (show j = 0 ∨ j = 1 ∨ j = 2 ∨ j = 3 ∨ j = 4 ∨ j = 5 ∨ j = 6 ∨ j = 7 ∨ j = 8 by omega) with rfl | rfl | rfl | rfl | rfl | rfl | rfl | rfl | rfl <;> rfl
  · rw [if_neg hj]
    simp only [va_up]
    rw [if_neg (show ¬ j = 8 by omega), if_neg (show ¬ j = 7 by omega), if_neg (show ¬ j = 6 by omega), if_neg (show ¬ j = 5 by omega), if_neg (show ¬ j = 4 by omega), if_neg (show ¬ j = 3 by omega), if_neg (show ¬ j = 2 by omega), if_neg (show ¬ j = 1 by omega), if_neg (show ¬ j = 0 by omega)]
