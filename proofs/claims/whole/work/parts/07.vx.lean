/-! methods that may throw; doubles and floats -/
theorem vxh_at {own X : String} {ic : Nat} {names : List String} (ha : (vx_at0 own ic X names).all (fun w => goodWord w || mm_isN w) = true) (hb : (vx_at0 own ic X names).all (fun w => decide (w ∈ lw_tbl)) = true) {args : Array Value} {s : State} (hg : ∀ w ∈ gAll, w.before args s = true) (hn : ∀ w ∈ mm_nw, va_Nw w s) : ∀ w ∈ vx_at0 own ic X names, w.before args s = true := by
  intro w hw
  have h1 := List.all_eq_true.mp ha w hw
  have h2 : w ∈ lw_tbl := of_decide_eq_true (List.all_eq_true.mp hb w hw)
  by_cases hgw : goodWord w = true
  · exact hg w (List.mem_filter.mpr ⟨h2, hgw⟩)
  · have h3 : mm_isN w = true := by
      simp only [Bool.or_eq_true] at h1
      rcases h1 with h1 | h1
      · exact absurd h1 hgw
      · exact h1
    have h4 : w ∈ tables_1 := by
      rcases List.mem_append.mp (show w ∈ k2_sels lw_privs ++ tables_1 from h2) with h5 | h5
      · obtain ⟨q, -, rfl⟩ := List.mem_map.mp (show w ∈ lw_privs.map (fun q => Cond.selects q.1.cls q.1 q.1) from h5)
        cases h3
      · exact h5
    have h5 : w ∈ mm_nw := List.mem_filter.mpr ⟨h4, h3⟩
    exact va_Nw.use (mm_non h5) (hn w h5)
theorem vxh_ot {own X : String} {ic : Nat} {names : List String} (ha : (vx_at0 own ic X names).all (fun w => goodWord w || mm_isN w) = true) (hb : (vx_at0 own ic X names).all (fun w => decide (w ∈ lw_tbl)) = true) {ik : Nat} : ∀ w ∈ Cond.classLink own ik X :: Cond.initialized X :: vx_at0 own ic X names, vx_ot w = true := by
  intro w hw
  rcases List.mem_cons.mp hw with rfl | hw
  · rfl
  rcases List.mem_cons.mp hw with rfl | hw
  · rfl
  have h1 := List.all_eq_true.mp ha w hw
  simp only [Bool.or_eq_true] at h1
  simp only [vx_ot, Bool.or_eq_true]
  rcases h1 with h1 | h1
  · exact Or.inr h1
  · refine Or.inl ?_
    unfold mm_isN at h1
    split at h1
    · rfl
    · rfl
    · rfl
    · rfl
    · cases h1
def mm_QX (G : mm_G) (w : va_W) (sz : Nat) (px : String → va_W → Prop) : String → State → State → Prop := vx_X (S := va_W) (fun _ => True) (fun E w' t => px E w' ∧ mm_B G w sz w' t) (va_A w sz)
section MM7
variable {p : Program} {l : Launch} {e : Env} {R : Room} {s : State} {m : MethodId} {args : Array Value} {below : List Frame} {meth : Method} {c : Code} {H : Heap} {locs : List Loc} {cells slots : Nat} {Q : State → Prop}
variable {G : mm_G} {A : Nat → Prop} {cc : ByteArray} {nL : Nat} {own : String} {w : va_W} {pc a b : Nat} {ls : Array Slot} {rest st0 : List Value}
variable {mc ms : Nat} {aa : Array Value} {px : String → va_W → Prop}
theorem mm_xci {post : Int32 → va_W → Prop} (hr : vx_Run p l e R s m args below meth c H locs cells slots mc ms (F0 m pc ls st0) rest (mm_Qi G w H.size post aa) (mm_QX G w H.size px) (va_A w H.size)) (hC : mm_C G A p s m c cc nL args own) (hM : mm_S G A s.heap w H locs)
    (kx : ∀ (E : String) (ce : Cell) (q9 : Addr) (w' : va_W) (H1 : Heap) (locs1 : List Loc), mm_S G A s.heap w' H1 locs1 → px E w' → H1[q9]? = some ce → ce.vm = .none → s.vm.findClass E = some ce.cls → vx_W p l e R s m args below meth c H1 locs1 (cells + mc) (slots + ms) Q (F0 m pc ls rest) q9)
    (kk : ∀ (r : Int32) (w' : va_W) (H1 : Heap) (locs1 : List Loc), mm_S G A s.heap w' H1 locs1 → post r w' → W p l e R s m args below meth c H1 locs1 (cells + mc) (slots + ms) Q (F0 m (pc + 3) ls (.int r :: rest))) : W p l e R s m args below meth c H locs cells slots Q (F0 m pc ls st0) :=
  vx_calli hr hM.2.2 (fun q _ h => mm_sub hM hC.2.2.2 q h) (mm_sub hM hC.2.2.2) (fun q _ h => mm_sub hM hC.2.2.2 q h) (fun E ce q9 u t H1 locs1 ht _ _ hB _ _ hS hq hv hcl => kx E ce q9 u H1 locs1 (mm_after hM hC.2.2.2 hB.2 ht hS) hB.1 hq hv hcl) (fun r u t H1 locs1 ht _ hp hB _ _ hS => kk r u H1 locs1 (mm_after hM hC.2.2.2 hB ht hS) hp)
theorem mm_xcd {post : UInt64 → va_W → Prop} (hr : vx_Run p l e R s m args below meth c H locs cells slots mc ms (F0 m pc ls st0) rest (mm_Qd G w H.size post aa) (mm_QX G w H.size px) (va_A w H.size)) (hC : mm_C G A p s m c cc nL args own) (hM : mm_S G A s.heap w H locs)
    (kx : ∀ (E : String) (ce : Cell) (q9 : Addr) (w' : va_W) (H1 : Heap) (locs1 : List Loc), mm_S G A s.heap w' H1 locs1 → px E w' → H1[q9]? = some ce → ce.vm = .none → s.vm.findClass E = some ce.cls → vx_W p l e R s m args below meth c H1 locs1 (cells + mc) (slots + ms) Q (F0 m pc ls rest) q9)
    (kk : ∀ (r : UInt64) (w' : va_W) (H1 : Heap) (locs1 : List Loc), mm_S G A s.heap w' H1 locs1 → post r w' → W p l e R s m args below meth c H1 locs1 (cells + mc) (slots + ms) Q (F0 m (pc + 3) ls (.double r :: rest))) : W p l e R s m args below meth c H locs cells slots Q (F0 m pc ls st0) :=
  vx_calld hr hM.2.2 (fun q _ h => mm_sub hM hC.2.2.2 q h) (mm_sub hM hC.2.2.2) (fun q _ h => mm_sub hM hC.2.2.2 q h) (fun E ce q9 u t H1 locs1 ht _ _ hB _ _ hS hq hv hcl => kx E ce q9 u H1 locs1 (mm_after hM hC.2.2.2 hB.2 ht hS) hB.1 hq hv hcl) (fun r u t H1 locs1 ht _ hp hB _ _ hS => kk r u H1 locs1 (mm_after hM hC.2.2.2 hB ht hS) hp)
theorem mm_xcv {post : va_W → Prop} (hr : vx_Run p l e R s m args below meth c H locs cells slots mc ms (F0 m pc ls st0) rest (mm_Qv G w H.size post aa) (mm_QX G w H.size px) (va_A w H.size)) (hC : mm_C G A p s m c cc nL args own) (hM : mm_S G A s.heap w H locs)
    (kx : ∀ (E : String) (ce : Cell) (q9 : Addr) (w' : va_W) (H1 : Heap) (locs1 : List Loc), mm_S G A s.heap w' H1 locs1 → px E w' → H1[q9]? = some ce → ce.vm = .none → s.vm.findClass E = some ce.cls → vx_W p l e R s m args below meth c H1 locs1 (cells + mc) (slots + ms) Q (F0 m pc ls rest) q9)
    (kk : ∀ (w' : va_W) (H1 : Heap) (locs1 : List Loc), mm_S G A s.heap w' H1 locs1 → post w' → W p l e R s m args below meth c H1 locs1 (cells + mc) (slots + ms) Q (F0 m (pc + 3) ls rest)) : W p l e R s m args below meth c H locs cells slots Q (F0 m pc ls st0) :=
  vx_callv hr hM.2.2 (fun q _ h => mm_sub hM hC.2.2.2 q h) (mm_sub hM hC.2.2.2) (fun q _ h => mm_sub hM hC.2.2.2 q h) (fun E ce q9 u t H1 locs1 ht _ _ hB _ _ hS hq hv hcl => kx E ce q9 u H1 locs1 (mm_after hM hC.2.2.2 hB.2 ht hS) hB.1 hq hv hcl) (fun u t H1 locs1 ht _ hp hB _ _ hS => kk u H1 locs1 (mm_after hM hC.2.2.2 hB ht hS) hp)
section MM7K
variable {y : MethodName} {bytes : ByteArray} {maxL n index : Nat} {ret : Option FieldType} {rm : Room} {As : List Value} {C host : String} {T : u_T} {N ci : Nat} {fs : List Value}
theorem mm_xVi {post : Int32 → va_W → Prop} (hC : mm_C G A p s m c cc nL args own) (hM : mm_S G A s.heap w H locs) (hMet : vx_Met l y (Cond.code y bytes maxL ret :: gAll) rm (va_Pc (.ref b :: As) (mm_Pre G w H.size)) (mm_Qi G w H.size post) (mm_QX G w H.size px) mc ms (va_A w H.size)) (hcode : Cond.code y bytes maxL ret ∈ gAll) (hini : Cond.initialized y.cls ∈ gAll) (hd : mm_yk y n) (hlink : Cond.methodLink own index y ∈ gAll) (hinst : Cond.instanceMethod y ∈ gAll) (hsel : Cond.selects C y y ∈ gAll) (he : (b, .inr (ci, fs)) ∈ w) (hc : vwCl[ci]? = some (C, T, N)) (hrm : rm.cells = mc ∧ rm.slots = ms) (hR : rm.frames + 1 ≤ R.frames ∧ 8 + (maxL + 11) + rm.locals ≤ R.locals) (hn : As.length = n) (hsize : ls.size = nL) (hst : st0 = As.reverse ++ .ref b :: rest) (hW : (rest.map fun v => v.category).sum ≤ 8) (hdg : decode cc pc = .ok (.invokevirtual index, 3)) (hf : cells + mc ≤ R.cells ∧ slots + ms ≤ R.slots)
    (kx : ∀ (E : String) (ce : Cell) (q9 : Addr) (w' : va_W) (H1 : Heap) (locs1 : List Loc), mm_S G A s.heap w' H1 locs1 → px E w' → H1[q9]? = some ce → ce.vm = .none → s.vm.findClass E = some ce.cls → vx_W p l e R s m args below meth c H1 locs1 (cells + mc) (slots + ms) Q (F0 m pc ls rest) q9)
    (kk : ∀ (r : Int32) (w' : va_W) (H1 : Heap) (locs1 : List Loc), mm_S G A s.heap w' H1 locs1 → post r w' → W p l e R s m args below meth c H1 locs1 (cells + mc) (slots + ms) Q (F0 m (pc + 3) ls (.int r :: rest))) : W p l e R s m args below meth c H locs cells slots Q (F0 m pc ls st0) :=
  mm_xci (vx_runV hC.1 hMet ⟨mm_cb hC hcode hini hd hlink hrm hR, hC.1.2.2.2.2 _ hinst, hC.1.2.2.2.2 _ hsel⟩ (mm_ev hC hM he hc) rfl hn hsize hst (lv_room hW) hdg hf) hC hM kx kk
theorem mm_xVv {post : va_W → Prop} (hC : mm_C G A p s m c cc nL args own) (hM : mm_S G A s.heap w H locs) (hMet : vx_Met l y (Cond.code y bytes maxL ret :: gAll) rm (va_Pc (.ref b :: As) (mm_Pre G w H.size)) (mm_Qv G w H.size post) (mm_QX G w H.size px) mc ms (va_A w H.size)) (hcode : Cond.code y bytes maxL ret ∈ gAll) (hini : Cond.initialized y.cls ∈ gAll) (hd : mm_yk y n) (hlink : Cond.methodLink own index y ∈ gAll) (hinst : Cond.instanceMethod y ∈ gAll) (hsel : Cond.selects C y y ∈ gAll) (he : (b, .inr (ci, fs)) ∈ w) (hc : vwCl[ci]? = some (C, T, N)) (hrm : rm.cells = mc ∧ rm.slots = ms) (hR : rm.frames + 1 ≤ R.frames ∧ 8 + (maxL + 11) + rm.locals ≤ R.locals) (hn : As.length = n) (hsize : ls.size = nL) (hst : st0 = As.reverse ++ .ref b :: rest) (hW : (rest.map fun v => v.category).sum ≤ 8) (hdg : decode cc pc = .ok (.invokevirtual index, 3)) (hf : cells + mc ≤ R.cells ∧ slots + ms ≤ R.slots)
    (kx : ∀ (E : String) (ce : Cell) (q9 : Addr) (w' : va_W) (H1 : Heap) (locs1 : List Loc), mm_S G A s.heap w' H1 locs1 → px E w' → H1[q9]? = some ce → ce.vm = .none → s.vm.findClass E = some ce.cls → vx_W p l e R s m args below meth c H1 locs1 (cells + mc) (slots + ms) Q (F0 m pc ls rest) q9)
    (kk : ∀ (w' : va_W) (H1 : Heap) (locs1 : List Loc), mm_S G A s.heap w' H1 locs1 → post w' → W p l e R s m args below meth c H1 locs1 (cells + mc) (slots + ms) Q (F0 m (pc + 3) ls (rest))) : W p l e R s m args below meth c H locs cells slots Q (F0 m pc ls st0) :=
  mm_xcv (vx_runV hC.1 hMet ⟨mm_cb hC hcode hini hd hlink hrm hR, hC.1.2.2.2.2 _ hinst, hC.1.2.2.2.2 _ hsel⟩ (mm_ev hC hM he hc) rfl hn hsize hst (lv_room hW) hdg hf) hC hM kx kk
theorem mm_xVd {post : UInt64 → va_W → Prop} (hC : mm_C G A p s m c cc nL args own) (hM : mm_S G A s.heap w H locs) (hMet : vx_Met l y (Cond.code y bytes maxL ret :: gAll) rm (va_Pc (.ref b :: As) (mm_Pre G w H.size)) (mm_Qd G w H.size post) (mm_QX G w H.size px) mc ms (va_A w H.size)) (hcode : Cond.code y bytes maxL ret ∈ gAll) (hini : Cond.initialized y.cls ∈ gAll) (hd : mm_yk y n) (hlink : Cond.methodLink own index y ∈ gAll) (hinst : Cond.instanceMethod y ∈ gAll) (hsel : Cond.selects C y y ∈ gAll) (he : (b, .inr (ci, fs)) ∈ w) (hc : vwCl[ci]? = some (C, T, N)) (hrm : rm.cells = mc ∧ rm.slots = ms) (hR : rm.frames + 1 ≤ R.frames ∧ 8 + (maxL + 11) + rm.locals ≤ R.locals) (hn : As.length = n) (hsize : ls.size = nL) (hst : st0 = As.reverse ++ .ref b :: rest) (hW : (rest.map fun v => v.category).sum ≤ 8) (hdg : decode cc pc = .ok (.invokevirtual index, 3)) (hf : cells + mc ≤ R.cells ∧ slots + ms ≤ R.slots)
    (kx : ∀ (E : String) (ce : Cell) (q9 : Addr) (w' : va_W) (H1 : Heap) (locs1 : List Loc), mm_S G A s.heap w' H1 locs1 → px E w' → H1[q9]? = some ce → ce.vm = .none → s.vm.findClass E = some ce.cls → vx_W p l e R s m args below meth c H1 locs1 (cells + mc) (slots + ms) Q (F0 m pc ls rest) q9)
    (kk : ∀ (r : UInt64) (w' : va_W) (H1 : Heap) (locs1 : List Loc), mm_S G A s.heap w' H1 locs1 → post r w' → W p l e R s m args below meth c H1 locs1 (cells + mc) (slots + ms) Q (F0 m (pc + 3) ls (.double r :: rest))) : W p l e R s m args below meth c H locs cells slots Q (F0 m pc ls st0) :=
  mm_xcd (vx_runV hC.1 hMet ⟨mm_cb hC hcode hini hd hlink hrm hR, hC.1.2.2.2.2 _ hinst, hC.1.2.2.2.2 _ hsel⟩ (mm_ev hC hM he hc) rfl hn hsize hst (lv_room hW) hdg hf) hC hM kx kk
theorem mm_xSi {post : Int32 → va_W → Prop} (hC : mm_C G A p s m c cc nL args own) (hM : mm_S G A s.heap w H locs) (hMet : vx_Met l y (Cond.code y bytes maxL ret :: gAll) rm (va_Pc As (mm_Pre G w H.size)) (mm_Qi G w H.size post) (mm_QX G w H.size px) mc ms (va_A w H.size)) (hcode : Cond.code y bytes maxL ret ∈ gAll) (hini : Cond.initialized y.cls ∈ gAll) (hd : mm_yk y n) (hlink : Cond.methodLink own index y ∈ gAll) (hstat : Cond.static y ∈ gAll) (hrm : rm.cells = mc ∧ rm.slots = ms) (hR : rm.frames + 1 ≤ R.frames ∧ 8 + (maxL + 11) + rm.locals ≤ R.locals) (hn : As.length = n) (hsize : ls.size = nL) (hst : st0 = As.reverse ++ rest) (hW : (rest.map fun v => v.category).sum ≤ 8) (hdg : decode cc pc = .ok (.invokestatic index, 3)) (hf : cells + mc ≤ R.cells ∧ slots + ms ≤ R.slots)
    (kx : ∀ (E : String) (ce : Cell) (q9 : Addr) (w' : va_W) (H1 : Heap) (locs1 : List Loc), mm_S G A s.heap w' H1 locs1 → px E w' → H1[q9]? = some ce → ce.vm = .none → s.vm.findClass E = some ce.cls → vx_W p l e R s m args below meth c H1 locs1 (cells + mc) (slots + ms) Q (F0 m pc ls rest) q9)
    (kk : ∀ (r : Int32) (w' : va_W) (H1 : Heap) (locs1 : List Loc), mm_S G A s.heap w' H1 locs1 → post r w' → W p l e R s m args below meth c H1 locs1 (cells + mc) (slots + ms) Q (F0 m (pc + 3) ls (.int r :: rest))) : W p l e R s m args below meth c H locs cells slots Q (F0 m pc ls st0) :=
  mm_xci (vx_runS hC.1 hMet ⟨mm_cb hC hcode hini hd hlink hrm hR, hC.1.2.2.2.2 _ hstat⟩ (mm_es hC hM) rfl hn hsize hst (lv_room hW) hdg hf) hC hM kx kk
end MM7K
theorem mm_dret {post : UInt64 → va_W → Prop} {w0 : va_W} {v : UInt64} {sz : Nat} (hC : mm_C G (va_A w0 sz) p s m c cc nL args own) (hM : mm_S G (va_A w0 sz) s.heap w H locs) (hr : meth.sig.returnType = some .double) (hlocks : meth.locks = false) (hdg : decode cc pc = .ok (.dreturn, 1)) (hp : post v w) : W p l e R s m args below meth c H locs cells slots (MQ below (mm_Qd G w0 sz post) args s cells slots (va_A w0 sz)) (F0 m pc ls [.double v]) :=
  W.dret (v := v) hC.1.1 hC.1.2.1 hr (fun t ht hW => ⟨⟨v, w, rfl, hp, by rw [ht]; exact hM.1, hM.2.1⟩, hM.2.2.F ht⟩) hM.2.2.2.2 hdg hlocks
theorem mm_fret {post : UInt32 → va_W → Prop} {w0 : va_W} {v : UInt32} {sz : Nat} (hC : mm_C G (va_A w0 sz) p s m c cc nL args own) (hM : mm_S G (va_A w0 sz) s.heap w H locs) (hr : meth.sig.returnType = some .float) (hlocks : meth.locks = false) (hdg : decode cc pc = .ok (.freturn, 1)) (hp : post v w) : W p l e R s m args below meth c H locs cells slots (MQ below (mm_Qf G w0 sz post) args s cells slots (va_A w0 sz)) (F0 m pc ls [.float v]) :=
  W.fret (v := v) hC.1.1 hC.1.2.1 hr (fun t ht hW => ⟨⟨v, w, rfl, hp, by rw [ht]; exact hM.1, hM.2.1⟩, hM.2.2.F ht⟩) hM.2.2.2.2 hdg hlocks
theorem mm_headD {y : MethodName} {rm : Room} {maxL sz : Nat} {post : UInt64 → va_W → Prop} (vs : List Value) (hy : plainName y.cls = true) (hyc : y.cls = own) (hlen : (lg_sl vs).length ≤ maxL)
    (body : ∀ (p : Program) (e : Env) (s : State) (m : MethodId) (args : Array Value) (below : List Frame) (meth : Method) (c : Code) (A : Nat → Prop) (Q : State → Prop), s.heap.size = sz → mm_C G A p s m c cc maxL args own → mm_S G A s.heap w s.heap [] →
      (∀ {pc : Nat} {H : Heap} {locs : List Loc} {w' : va_W} {v : UInt64} {ls : Array Slot}, mm_S G A s.heap w' H locs → decode cc pc = .ok (.dreturn, 1) → post v w' → W p l e rm s m args below meth c H locs mc ms Q (F0 m pc ls [.double v])) →
      ∀ ls : Array Slot, lv_has ls maxL (lv_args 0 vs) → W p l e rm s m args below meth c s.heap [] 0 0 Q (F0 m 0 ls [])) : Met l y (Cond.code y cc maxL (some .double) :: gAll) rm (va_Pc vs (mm_Pre G w sz)) (mm_Qd G w sz post) mc ms (va_A w sz) :=
  mm_head vs hy hyc hlen (fun p e s m below meth c hsz hC hM hr hlocks _ ls hl => body p e s m _ below meth c _ _ hsz hC hM (fun hM hd hp => mm_dret hC hM hr hlocks hd hp) ls hl)
theorem mm_headF {y : MethodName} {rm : Room} {maxL sz : Nat} {post : UInt32 → va_W → Prop} (vs : List Value) (hy : plainName y.cls = true) (hyc : y.cls = own) (hlen : (lg_sl vs).length ≤ maxL)
    (body : ∀ (p : Program) (e : Env) (s : State) (m : MethodId) (args : Array Value) (below : List Frame) (meth : Method) (c : Code) (A : Nat → Prop) (Q : State → Prop), s.heap.size = sz → mm_C G A p s m c cc maxL args own → mm_S G A s.heap w s.heap [] →
      (∀ {pc : Nat} {H : Heap} {locs : List Loc} {w' : va_W} {v : UInt32} {ls : Array Slot}, mm_S G A s.heap w' H locs → decode cc pc = .ok (.freturn, 1) → post v w' → W p l e rm s m args below meth c H locs mc ms Q (F0 m pc ls [.float v])) →
      ∀ ls : Array Slot, lv_has ls maxL (lv_args 0 vs) → W p l e rm s m args below meth c s.heap [] 0 0 Q (F0 m 0 ls [])) : Met l y (Cond.code y cc maxL (some .float) :: gAll) rm (va_Pc vs (mm_Pre G w sz)) (mm_Qf G w sz post) mc ms (va_A w sz) :=
  mm_head vs hy hyc hlen (fun p e s m below meth c hsz hC hM hr hlocks _ ls hl => body p e s m _ below meth c _ _ hsz hC hM (fun hM hd hp => mm_fret hC hM hr hlocks hd hp) ls hl)
/-- what is thrown stands, with the world that is -/
theorem mm_qx {w0 : va_W} {sz : Nat} {E : String} {t : State} (hM : mm_S G (va_A w0 sz) s.heap w H locs) (hz : H.size ≤ t.heap.size) (hq : ∀ q : Nat, q < H.size → t.heap[q]? = H[q]?) (hp : px E w) : mm_QX G w0 sz px E s t := by
  refine ⟨w, trivial, ⟨hp, hM.1.kept (fun k q hk => hq q.1 (hM.1 k q hk).lt), hM.2.1⟩, Nat.le_trans hM.2.2.1 hz, fun q h1 h2 => ?_⟩
  rw [hq q (Nat.lt_of_lt_of_le h1 hM.2.2.1)]
  exact hM.2.2.2.1 q h1 h2
theorem mm_xheadI {y : MethodName} {rm : Room} {maxL sz : Nat} {ty : FieldType} {post : Int32 → va_W → Prop} (hfl : l.stackTraces = false) (vs : List Value) (hy : plainName y.cls = true) (hyc : y.cls = own) (hlen : (lg_sl vs).length ≤ maxL) (hrc : rm.cells = mc) (hrs : rm.slots = ms)
    (body : ∀ (p : Program) (e : Env) (s : State) (m : MethodId) (args : Array Value) (below : List Frame) (meth : Method) (c : Code) (A : Nat → Prop) (Q : State → Prop), s.heap.size = sz → mm_C G A p s m c cc maxL args own → mm_S G A s.heap w s.heap [] →
      (∀ {pc : Nat} {H : Heap} {locs : List Loc} {w' : va_W} {v : Int32} {ls : Array Slot} {cells slots : Nat}, mm_S G A s.heap w' H locs → decode cc pc = .ok (.ireturn, 1) → narrow ty (.int v) = .int v → post v w' → cells ≤ mc → slots ≤ ms → W p l e rm s m args below meth c H locs cells slots Q (F0 m pc ls [.int v])) →
      (∀ {pc : Nat} {H : Heap} {locs : List Loc} {w' : va_W} {ls : Array Slot} {rest : List Value} {E : String} {ce : Cell} {q9 : Addr} {cells slots : Nat}, mm_S G A s.heap w' H locs → H[q9]? = some ce → ce.vm = .none → s.vm.findClass E = some ce.cls → px E w' → cells ≤ mc → slots ≤ ms → vx_W p l e rm s m args below meth c H locs cells slots Q (F0 m pc ls rest) q9) →
      (∀ {pc ik ic : Nat} {H : Heap} {locs : List Loc} {w' : va_W} {ls : Array Slot} {rest : List Value} {cls : String} {names : List String} {cells slots : Nat}, mm_S G A s.heap w' H locs → ls.size = maxL → Bundle.fit cls = true → (∀ n ∈ names, Bundle.fit n = true) → Cond.classLink own ik cls ∈ gAll → Cond.initialized cls ∈ gAll → (vx_at0 own ic cls names).all (fun w => goodWord w || mm_isN w) = true → (vx_at0 own ic cls names).all (fun w => decide (w ∈ lw_tbl)) = true →
        decode cc pc = .ok (.new ik, 3) → decode cc (pc + 3) = .ok (.dup, 1) → decode cc (pc + 4) = .ok (.invokespecial ic, 3) → decode cc (pc + 7) = .ok (.athrow, 1) → names.length + 3 < rm.frames → (rest.map fun v => v.category).sum + (13 * (names.length + 1) + 42) ≤ rm.locals → cells + 1 ≤ mc → slots + 6 ≤ ms → px cls w' → W p l e rm s m args below meth c H locs cells slots Q (F0 m pc ls rest)) →
      ∀ ls : Array Slot, lv_has ls maxL (lv_args 0 vs) → W p l e rm s m args below meth c s.heap [] 0 0 Q (F0 m 0 ls [])) : vx_Met l y (Cond.code y cc maxL (some ty) :: gAll) rm (va_Pc vs (mm_Pre G w sz)) (mm_Qi G w sz post) (mm_QX G w sz px) mc ms (va_A w sz) := by
  refine vx_ofW (cc := cc) (maxL := maxL) (ret := (some ty)) hy rfl ?_
  intro p e s m args below meth c s₁ B hml hout hv
  obtain ⟨rfl, hsz, hP, hK, hD0, hX⟩ := hv
  have hts : ∀ w ∈ gAll, w.before _ s = true := fun w hw => atoms_spec (ws := Cond.code y cc maxL (some ty) :: gAll) B.pre w (List.mem_cons_of_mem _ hw)
  have hown : s.vm.findClass own = some m.cls := hyc ▸ findClass_of_methodNamed B.named
  have hA : ∀ q, s.heap.size ≤ q → va_A w sz q := fun q h => Or.inr (hsz ▸ h)
  have hC : mm_C G (va_A w sz) p s m c cc maxL vs.toArray own := ⟨⟨B.exec, B.bytes, hml, hown, hts⟩, hK, hX, hA⟩
  have hl := lv_entry vs (n := maxL) hlen
  rw [lg_entry_eq]
  refine body p e s m _ below meth c _ _ hsz hC ⟨hP, hD0.self, va_S.rf⟩ ?_ ?_ ?_ _ hl
  · intros
    rename_i _ _ _ _ _ _ _ _ hM hd hn hp h1 h2
    exact W.widen h1 h2 (vx_ret (mm_iret hC hM B.returns B.notSynchronized hd hn hp))
  · intro pc H locs w' ls rest E ce q9 cells slots hM hq hv hcl hp h1 h2
    exact vx_outP hown B.notSynchronized (fun z hz => (hout z hz).elim) hq hv hcl (fun t ht _ => mm_qx hM (by rw [ht]; exact Nat.le_refl _) (fun q _ => by rw [ht]) hp) hM.2.2.2.2 h1 h2
  · intro pc ik ic H locs w' ls rest cls names cells slots hM hls hfit hnm hlk hini ha hb d0 d3 d4 d7 hfr hlo h1 h2 hp
    exact vx_throw0 (R := rm) B.exec B.bytes hfl hown hfit hnm (hts _ hlk) (hts _ hini) (vxh_at ha hb hts hX.1.1) (vxh_ot ha hb) hX.2.2.2.2.2.2.2.2.2.2.2.1 hX.2.2.2.2.2.2.2.2.2.2.2.2 hM.2.2 (hls.trans hml.symm) d0 d3 d4 d7 (fun z hz => (hout z hz).elim) hfr hlo (by rw [hrc]; exact h1) (by rw [hrs]; exact h2) B.notSynchronized (fun t _ hz hq => mm_qx hM hz hq hp) hM.2.2.2.2 h1 h2
theorem mm_xheadV {y : MethodName} {rm : Room} {maxL sz : Nat} {post : va_W → Prop} (hfl : l.stackTraces = false) (vs : List Value) (hy : plainName y.cls = true) (hyc : y.cls = own) (hlen : (lg_sl vs).length ≤ maxL) (hrc : rm.cells = mc) (hrs : rm.slots = ms)
    (body : ∀ (p : Program) (e : Env) (s : State) (m : MethodId) (args : Array Value) (below : List Frame) (meth : Method) (c : Code) (A : Nat → Prop) (Q : State → Prop), s.heap.size = sz → mm_C G A p s m c cc maxL args own → mm_S G A s.heap w s.heap [] →
      (∀ {pc : Nat} {H : Heap} {locs : List Loc} {w' : va_W} {ls : Array Slot} {cells slots : Nat}, mm_S G A s.heap w' H locs → decode cc pc = .ok (.return_, 1) → post w' → cells ≤ mc → slots ≤ ms → W p l e rm s m args below meth c H locs cells slots Q (F0 m pc ls [])) →
      (∀ {pc : Nat} {H : Heap} {locs : List Loc} {w' : va_W} {ls : Array Slot} {rest : List Value} {E : String} {ce : Cell} {q9 : Addr} {cells slots : Nat}, mm_S G A s.heap w' H locs → H[q9]? = some ce → ce.vm = .none → s.vm.findClass E = some ce.cls → px E w' → cells ≤ mc → slots ≤ ms → vx_W p l e rm s m args below meth c H locs cells slots Q (F0 m pc ls rest) q9) →
      (∀ {pc ik ic : Nat} {H : Heap} {locs : List Loc} {w' : va_W} {ls : Array Slot} {rest : List Value} {cls : String} {names : List String} {cells slots : Nat}, mm_S G A s.heap w' H locs → ls.size = maxL → Bundle.fit cls = true → (∀ n ∈ names, Bundle.fit n = true) → Cond.classLink own ik cls ∈ gAll → Cond.initialized cls ∈ gAll → (vx_at0 own ic cls names).all (fun w => goodWord w || mm_isN w) = true → (vx_at0 own ic cls names).all (fun w => decide (w ∈ lw_tbl)) = true →
        decode cc pc = .ok (.new ik, 3) → decode cc (pc + 3) = .ok (.dup, 1) → decode cc (pc + 4) = .ok (.invokespecial ic, 3) → decode cc (pc + 7) = .ok (.athrow, 1) → names.length + 3 < rm.frames → (rest.map fun v => v.category).sum + (13 * (names.length + 1) + 42) ≤ rm.locals → cells + 1 ≤ mc → slots + 6 ≤ ms → px cls w' → W p l e rm s m args below meth c H locs cells slots Q (F0 m pc ls rest)) →
      ∀ ls : Array Slot, lv_has ls maxL (lv_args 0 vs) → W p l e rm s m args below meth c s.heap [] 0 0 Q (F0 m 0 ls [])) : vx_Met l y (Cond.code y cc maxL none :: gAll) rm (va_Pc vs (mm_Pre G w sz)) (mm_Qv G w sz post) (mm_QX G w sz px) mc ms (va_A w sz) := by
  refine vx_ofW (cc := cc) (maxL := maxL) (ret := none) hy rfl ?_
  intro p e s m args below meth c s₁ B hml hout hv
  obtain ⟨rfl, hsz, hP, hK, hD0, hX⟩ := hv
  have hts : ∀ w ∈ gAll, w.before _ s = true := fun w hw => atoms_spec (ws := Cond.code y cc maxL none :: gAll) B.pre w (List.mem_cons_of_mem _ hw)
  have hown : s.vm.findClass own = some m.cls := hyc ▸ findClass_of_methodNamed B.named
  have hA : ∀ q, s.heap.size ≤ q → va_A w sz q := fun q h => Or.inr (hsz ▸ h)
  have hC : mm_C G (va_A w sz) p s m c cc maxL vs.toArray own := ⟨⟨B.exec, B.bytes, hml, hown, hts⟩, hK, hX, hA⟩
  have hl := lv_entry vs (n := maxL) hlen
  rw [lg_entry_eq]
  refine body p e s m _ below meth c _ _ hsz hC ⟨hP, hD0.self, va_S.rf⟩ ?_ ?_ ?_ _ hl
  · intros
    rename_i _ _ _ _ _ _ _ hM hd hp h1 h2
    exact W.widen h1 h2 (vx_ret (mm_vret hC hM B.returns B.notSynchronized hd hp))
  · intro pc H locs w' ls rest E ce q9 cells slots hM hq hv hcl hp h1 h2
    exact vx_outP hown B.notSynchronized (fun z hz => (hout z hz).elim) hq hv hcl (fun t ht _ => mm_qx hM (by rw [ht]; exact Nat.le_refl _) (fun q _ => by rw [ht]) hp) hM.2.2.2.2 h1 h2
  · intro pc ik ic H locs w' ls rest cls names cells slots hM hls hfit hnm hlk hini ha hb d0 d3 d4 d7 hfr hlo h1 h2 hp
    exact vx_throw0 (R := rm) B.exec B.bytes hfl hown hfit hnm (hts _ hlk) (hts _ hini) (vxh_at ha hb hts hX.1.1) (vxh_ot ha hb) hX.2.2.2.2.2.2.2.2.2.2.2.1 hX.2.2.2.2.2.2.2.2.2.2.2.2 hM.2.2 (hls.trans hml.symm) d0 d3 d4 d7 (fun z hz => (hout z hz).elim) hfr hlo (by rw [hrc]; exact h1) (by rw [hrs]; exact h2) B.notSynchronized (fun t _ hz hq => mm_qx hM hz hq hp) hM.2.2.2.2 h1 h2
theorem mm_xheadD {y : MethodName} {rm : Room} {maxL sz : Nat} {post : UInt64 → va_W → Prop} (hfl : l.stackTraces = false) (vs : List Value) (hy : plainName y.cls = true) (hyc : y.cls = own) (hlen : (lg_sl vs).length ≤ maxL) (hrc : rm.cells = mc) (hrs : rm.slots = ms)
    (body : ∀ (p : Program) (e : Env) (s : State) (m : MethodId) (args : Array Value) (below : List Frame) (meth : Method) (c : Code) (A : Nat → Prop) (Q : State → Prop), s.heap.size = sz → mm_C G A p s m c cc maxL args own → mm_S G A s.heap w s.heap [] →
      (∀ {pc : Nat} {H : Heap} {locs : List Loc} {w' : va_W} {v : UInt64} {ls : Array Slot} {cells slots : Nat}, mm_S G A s.heap w' H locs → decode cc pc = .ok (.dreturn, 1) → post v w' → cells ≤ mc → slots ≤ ms → W p l e rm s m args below meth c H locs cells slots Q (F0 m pc ls [.double v])) →
      (∀ {pc : Nat} {H : Heap} {locs : List Loc} {w' : va_W} {ls : Array Slot} {rest : List Value} {E : String} {ce : Cell} {q9 : Addr} {cells slots : Nat}, mm_S G A s.heap w' H locs → H[q9]? = some ce → ce.vm = .none → s.vm.findClass E = some ce.cls → px E w' → cells ≤ mc → slots ≤ ms → vx_W p l e rm s m args below meth c H locs cells slots Q (F0 m pc ls rest) q9) →
      (∀ {pc ik ic : Nat} {H : Heap} {locs : List Loc} {w' : va_W} {ls : Array Slot} {rest : List Value} {cls : String} {names : List String} {cells slots : Nat}, mm_S G A s.heap w' H locs → ls.size = maxL → Bundle.fit cls = true → (∀ n ∈ names, Bundle.fit n = true) → Cond.classLink own ik cls ∈ gAll → Cond.initialized cls ∈ gAll → (vx_at0 own ic cls names).all (fun w => goodWord w || mm_isN w) = true → (vx_at0 own ic cls names).all (fun w => decide (w ∈ lw_tbl)) = true →
        decode cc pc = .ok (.new ik, 3) → decode cc (pc + 3) = .ok (.dup, 1) → decode cc (pc + 4) = .ok (.invokespecial ic, 3) → decode cc (pc + 7) = .ok (.athrow, 1) → names.length + 3 < rm.frames → (rest.map fun v => v.category).sum + (13 * (names.length + 1) + 42) ≤ rm.locals → cells + 1 ≤ mc → slots + 6 ≤ ms → px cls w' → W p l e rm s m args below meth c H locs cells slots Q (F0 m pc ls rest)) →
      ∀ ls : Array Slot, lv_has ls maxL (lv_args 0 vs) → W p l e rm s m args below meth c s.heap [] 0 0 Q (F0 m 0 ls [])) : vx_Met l y (Cond.code y cc maxL (some .double) :: gAll) rm (va_Pc vs (mm_Pre G w sz)) (mm_Qd G w sz post) (mm_QX G w sz px) mc ms (va_A w sz) := by
  refine vx_ofW (cc := cc) (maxL := maxL) (ret := (some .double)) hy rfl ?_
  intro p e s m args below meth c s₁ B hml hout hv
  obtain ⟨rfl, hsz, hP, hK, hD0, hX⟩ := hv
  have hts : ∀ w ∈ gAll, w.before _ s = true := fun w hw => atoms_spec (ws := Cond.code y cc maxL (some .double) :: gAll) B.pre w (List.mem_cons_of_mem _ hw)
  have hown : s.vm.findClass own = some m.cls := hyc ▸ findClass_of_methodNamed B.named
  have hA : ∀ q, s.heap.size ≤ q → va_A w sz q := fun q h => Or.inr (hsz ▸ h)
  have hC : mm_C G (va_A w sz) p s m c cc maxL vs.toArray own := ⟨⟨B.exec, B.bytes, hml, hown, hts⟩, hK, hX, hA⟩
  have hl := lv_entry vs (n := maxL) hlen
  rw [lg_entry_eq]
  refine body p e s m _ below meth c _ _ hsz hC ⟨hP, hD0.self, va_S.rf⟩ ?_ ?_ ?_ _ hl
  · intros
    rename_i _ _ _ _ _ _ _ _ hM hd hp h1 h2
    exact W.widen h1 h2 (vx_ret (mm_dret hC hM B.returns B.notSynchronized hd hp))
  · intro pc H locs w' ls rest E ce q9 cells slots hM hq hv hcl hp h1 h2
    exact vx_outP hown B.notSynchronized (fun z hz => (hout z hz).elim) hq hv hcl (fun t ht _ => mm_qx hM (by rw [ht]; exact Nat.le_refl _) (fun q _ => by rw [ht]) hp) hM.2.2.2.2 h1 h2
  · intro pc ik ic H locs w' ls rest cls names cells slots hM hls hfit hnm hlk hini ha hb d0 d3 d4 d7 hfr hlo h1 h2 hp
    exact vx_throw0 (R := rm) B.exec B.bytes hfl hown hfit hnm (hts _ hlk) (hts _ hini) (vxh_at ha hb hts hX.1.1) (vxh_ot ha hb) hX.2.2.2.2.2.2.2.2.2.2.2.1 hX.2.2.2.2.2.2.2.2.2.2.2.2 hM.2.2 (hls.trans hml.symm) d0 d3 d4 d7 (fun z hz => (hout z hz).elim) hfr hlo (by rw [hrc]; exact h1) (by rw [hrs]; exact h2) B.notSynchronized (fun t _ hz hq => mm_qx hM hz hq hp) hM.2.2.2.2 h1 h2
end MM7
theorem vxa_1 : (vx_at0 RX12 140 "java/lang/IndexOutOfBoundsException" ["java/lang/RuntimeException", "java/lang/Exception"]).all (fun w => goodWord w || mm_isN w) = true := by decide +kernel
theorem vxb_1 : (vx_at0 RX12 140 "java/lang/IndexOutOfBoundsException" ["java/lang/RuntimeException", "java/lang/Exception"]).all (fun w => decide (w ∈ lw_tbl)) = true := by decide +kernel
theorem vxa_2 : (vx_at0 RX12 167 "java/util/NoSuchElementException" ["java/lang/RuntimeException", "java/lang/Exception"]).all (fun w => goodWord w || mm_isN w) = true := by decide +kernel
theorem vxb_2 : (vx_at0 RX12 167 "java/util/NoSuchElementException" ["java/lang/RuntimeException", "java/lang/Exception"]).all (fun w => decide (w ∈ lw_tbl)) = true := by decide +kernel
theorem vxa_3 : (vx_at0 RX12 296 "java/lang/IllegalStateException" ["java/lang/RuntimeException", "java/lang/Exception"]).all (fun w => goodWord w || mm_isN w) = true := by decide +kernel
theorem vxb_3 : (vx_at0 RX12 296 "java/lang/IllegalStateException" ["java/lang/RuntimeException", "java/lang/Exception"]).all (fun w => decide (w ∈ lw_tbl)) = true := by decide +kernel
theorem vxa_4 : (vx_at0 RX12 290 "java/lang/IllegalArgumentException" ["java/lang/RuntimeException", "java/lang/Exception"]).all (fun w => goodWord w || mm_isN w) = true := by decide +kernel
theorem vxb_4 : (vx_at0 RX12 290 "java/lang/IllegalArgumentException" ["java/lang/RuntimeException", "java/lang/Exception"]).all (fun w => decide (w ∈ lw_tbl)) = true := by decide +kernel
theorem vxa_5 : (vx_at0 RX12 363 "java/lang/UnsupportedOperationException" ["java/lang/RuntimeException", "java/lang/Exception"]).all (fun w => goodWord w || mm_isN w) = true := by decide +kernel
theorem vxb_5 : (vx_at0 RX12 363 "java/lang/UnsupportedOperationException" ["java/lang/RuntimeException", "java/lang/Exception"]).all (fun w => decide (w ∈ lw_tbl)) = true := by decide +kernel
theorem vxa_6 : (vx_at0 RX12 330 "java/lang/ArithmeticException" ["java/lang/RuntimeException", "java/lang/Exception"]).all (fun w => goodWord w || mm_isN w) = true := by decide +kernel
theorem vxb_6 : (vx_at0 RX12 330 "java/lang/ArithmeticException" ["java/lang/RuntimeException", "java/lang/Exception"]).all (fun w => decide (w ∈ lw_tbl)) = true := by decide +kernel
