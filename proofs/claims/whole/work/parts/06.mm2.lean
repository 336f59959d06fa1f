/-! later rows of the mm layer -/
theorem mm_ne {x c : Int32} {k : Int} (h : ¬ x = c) (hk : c.toInt = k) : x.toInt ≠ k := by
  intro e
  exact h (Int32.toInt_inj.mp (e.trans hk.symm))
section MM2
variable {p : Program} {l : Launch} {e : Env} {R : Room} {s : State} {m : MethodId} {args : Array Value} {below : List Frame} {meth : Method} {c : Code} {H : Heap} {locs : List Loc} {cells slots : Nat} {Q : State → Prop}
variable {G : mm_G} {A : Nat → Prop} {cc : ByteArray} {nL : Nat} {own : String} {w : va_W} {pc a b : Nat} {ls : Array Slot} {rest st0 : List Value}
theorem mm_ialdN (hC : mm_C G A p s m c cc nL args own) (hM : mm_S G A s.heap w H locs) {n N : Nat} {f : Nat → Int32} (he : (a, .inl (G.2 0, n, .inl f)) ∈ w) {i : Int32} (eN : i.toNatClampNeg = N) (hin : vp_in i n) (hdg : decode cc pc = .ok (.iaload, 1))
    (kk : W p l e R s m args below meth c H locs cells slots Q (F0 m (pc + 1) ls (.int (f N) :: rest))) : W p l e R s m args below meth c H locs cells slots Q (F0 m pc ls (.int i :: .ref a :: rest)) := by
  subst eN
  exact mm_iald hC hM he hin hdg kk
theorem mm_iastN (hC : mm_C G A p s m c cc nL args own) (hM : mm_S G A s.heap w H locs) {n N : Nat} {f : Nat → Int32} (he : (a, .inl (G.2 0, n, .inl f)) ∈ w) {i x : Int32} (eN : i.toNatClampNeg = N) (hin : vp_in i n) (hdg : decode cc pc = .ok (.iastore, 1))
    (kk : ∀ (w' : va_W) (H1 : Heap) (locs1 : List Loc), mm_S G A s.heap w' H1 locs1 → mm_up w w' a (.inl (G.2 0, n, .inl (upd f N x))) → W p l e R s m args below meth c H1 locs1 cells slots Q (F0 m (pc + 1) ls rest)) : W p l e R s m args below meth c H locs cells slots Q (F0 m pc ls (.int x :: .int i :: .ref a :: rest)) := by
  subst eN
  exact mm_iast hC hM he hin hdg kk
end MM2
