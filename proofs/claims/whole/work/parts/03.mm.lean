/-- the good words of the tables: every method's words are its own code and these -/
def gAll : List Cond := lw_tbl.filter goodWord
theorem gA_good {w : Cond} (h : w ∈ gAll) : goodWord w = true := (List.mem_filter.mp h).2
theorem gA_tbl {w : Cond} (h : w ∈ gAll) : w ∈ lw_tbl := (List.mem_filter.mp h).1
theorem gA_of {w : Cond} (h : w ∈ tables_1) (hg : goodWord w = true) : w ∈ gAll := List.mem_filter.mpr ⟨List.mem_append_right _ h, hg⟩
theorem gA_priv {q : MethodName × Nat} (h : q ∈ lw_privs) (hg : goodWord (Cond.selects q.1.cls q.1 q.1) = true) : Cond.selects q.1.cls q.1 q.1 ∈ gAll := List.mem_filter.mpr ⟨List.mem_append_left _ (List.mem_map.mpr ⟨q, h, rfl⟩), hg⟩
theorem gA_in {y : MethodName} {bytes : ByteArray} {maxL : Nat} {ret : Option FieldType} (h : Cond.code y bytes maxL ret ∈ gAll) : GoodIn gAll (Cond.code y bytes maxL ret :: gAll) := by
  intro w hw
  have h1 : w ∈ gAll := (List.mem_cons.mp hw).elim (fun e => by rw [e]; exact h) id
  exact ⟨h1, good_of_word (gA_good h1)⟩
/-- the parts of the tables -/
theorem gT_1 {w : Cond} (h : w ∈ tables_1_1) : w ∈ tables_1 := by
  show w ∈ tables_1_1 ++ (tables_1_2 ++ (tables_1_3 ++ (tables_1_4 ++ (tables_1_5 ++ (tables_1_6 ++ (tables_1_7 ++ (tables_1_8 ++ tables_1_9)))))))
  exact List.mem_append_left _ h
theorem gT_2 {w : Cond} (h : w ∈ tables_1_2) : w ∈ tables_1 := by
  show w ∈ tables_1_1 ++ (tables_1_2 ++ (tables_1_3 ++ (tables_1_4 ++ (tables_1_5 ++ (tables_1_6 ++ (tables_1_7 ++ (tables_1_8 ++ tables_1_9)))))))
  exact List.mem_append_right _ (List.mem_append_left _ h)
theorem gT_3 {w : Cond} (h : w ∈ tables_1_3) : w ∈ tables_1 := by
  show w ∈ tables_1_1 ++ (tables_1_2 ++ (tables_1_3 ++ (tables_1_4 ++ (tables_1_5 ++ (tables_1_6 ++ (tables_1_7 ++ (tables_1_8 ++ tables_1_9)))))))
  exact List.mem_append_right _ (List.mem_append_right _ (List.mem_append_left _ h))
theorem gT_4 {w : Cond} (h : w ∈ tables_1_4) : w ∈ tables_1 := by
  show w ∈ tables_1_1 ++ (tables_1_2 ++ (tables_1_3 ++ (tables_1_4 ++ (tables_1_5 ++ (tables_1_6 ++ (tables_1_7 ++ (tables_1_8 ++ tables_1_9)))))))
  exact List.mem_append_right _ (List.mem_append_right _ (List.mem_append_right _ (List.mem_append_left _ h)))
theorem gT_5 {w : Cond} (h : w ∈ tables_1_5) : w ∈ tables_1 := by
  show w ∈ tables_1_1 ++ (tables_1_2 ++ (tables_1_3 ++ (tables_1_4 ++ (tables_1_5 ++ (tables_1_6 ++ (tables_1_7 ++ (tables_1_8 ++ tables_1_9)))))))
  exact List.mem_append_right _ (List.mem_append_right _ (List.mem_append_right _ (List.mem_append_right _ (List.mem_append_left _ h))))
theorem gT_6 {w : Cond} (h : w ∈ tables_1_6) : w ∈ tables_1 := by
  show w ∈ tables_1_1 ++ (tables_1_2 ++ (tables_1_3 ++ (tables_1_4 ++ (tables_1_5 ++ (tables_1_6 ++ (tables_1_7 ++ (tables_1_8 ++ tables_1_9)))))))
  exact List.mem_append_right _ (List.mem_append_right _ (List.mem_append_right _ (List.mem_append_right _ (List.mem_append_right _ (List.mem_append_left _ h)))))
theorem gT_7 {w : Cond} (h : w ∈ tables_1_7) : w ∈ tables_1 := by
  show w ∈ tables_1_1 ++ (tables_1_2 ++ (tables_1_3 ++ (tables_1_4 ++ (tables_1_5 ++ (tables_1_6 ++ (tables_1_7 ++ (tables_1_8 ++ tables_1_9)))))))
  exact List.mem_append_right _ (List.mem_append_right _ (List.mem_append_right _ (List.mem_append_right _ (List.mem_append_right _ (List.mem_append_right _ (List.mem_append_left _ h))))))
theorem gT_8 {w : Cond} (h : w ∈ tables_1_8) : w ∈ tables_1 := by
  show w ∈ tables_1_1 ++ (tables_1_2 ++ (tables_1_3 ++ (tables_1_4 ++ (tables_1_5 ++ (tables_1_6 ++ (tables_1_7 ++ (tables_1_8 ++ tables_1_9)))))))
  exact List.mem_append_right _ (List.mem_append_right _ (List.mem_append_right _ (List.mem_append_right _ (List.mem_append_right _ (List.mem_append_right _ (List.mem_append_right _ (List.mem_append_left _ h)))))))
theorem gT_9 {w : Cond} (h : w ∈ tables_1_9) : w ∈ tables_1 := by
  show w ∈ tables_1_1 ++ (tables_1_2 ++ (tables_1_3 ++ (tables_1_4 ++ (tables_1_5 ++ (tables_1_6 ++ (tables_1_7 ++ (tables_1_8 ++ tables_1_9)))))))
  exact List.mem_append_right _ (List.mem_append_right _ (List.mem_append_right _ (List.mem_append_right _ (List.mem_append_right _ (List.mem_append_right _ (List.mem_append_right _ (List.mem_append_right _ (h))))))))
def mm_yk (y : MethodName) (n : Nat) : Prop := y.cls ≠ "java/lang/invoke/MethodHandle" ∧ y.cls ≠ "java/lang/invoke/VarHandle" ∧ (parseMethodDescriptor y.desc).map (fun d => d.parameters.length) = some n
/-! the mm layer: a walk stands in a world that is a list of cells; single cells are known by membership, by their addresses -/
section MMA
variable {A : Nat → Prop} {H0 H : Heap} {locs : List Loc} {w w1 w' : va_W} {a k q lo hi lo2 hi2 : Nat} {e e0 f : va_E} {D : va_G} {cl : List vw_C}
def mm_up (w w' : va_W) (a : Nat) (e : va_E) : Prop := (a, e) ∈ w' ∧ ∀ (q : Nat) (f : va_E), q ≠ a → ((q, f) ∈ w' ↔ (q, f) ∈ w)
/-- nothing but the addresses from lo on, under hi, is another -/
def mm_fr (w w' : va_W) (lo hi : Nat) : Prop := ∀ (q : Nat) (f : va_E), (q < lo ∨ hi ≤ q) → ((q, f) ∈ w' ↔ (q, f) ∈ w)
def mm_fr2 (w w' : va_W) (lo hi lo2 hi2 : Nat) : Prop := ∀ (q : Nat) (f : va_E), (q < lo ∨ hi ≤ q) → (q < lo2 ∨ hi2 ≤ q) → ((q, f) ∈ w' ↔ (q, f) ∈ w)
theorem mm_set (h : w[k]? = some (a, e0)) (e : va_E) : mm_up w (w.set k (a, e)) a e := by
  have hk : k < w.length := (List.getElem?_eq_some_iff.mp h).1
  refine ⟨List.mem_of_getElem? (i := k) (by simp [List.getElem?_set, hk]), fun q f hq => ⟨fun hm => ?_, fun hm => ?_⟩⟩
  · obtain ⟨j, hj⟩ := List.mem_iff_getElem?.mp hm
    rw [List.getElem?_set] at hj
    split at hj
    · cases hj; exact absurd rfl hq
    · exact List.mem_of_getElem? hj
  · obtain ⟨j, hj⟩ := List.mem_iff_getElem?.mp hm
    refine List.mem_of_getElem? (i := j) ?_
    rw [List.getElem?_set, if_neg, hj]
    intro e2
    subst e2
    rw [h] at hj
    cases hj
    exact hq rfl
theorem mm_push (w : va_W) (a : Nat) (e : va_E) : mm_up w (w ++ [(a, e)]) a e := by
  refine ⟨List.mem_append_right _ List.mem_cons_self, fun q f hq => ⟨fun hm => ?_, fun hm => List.mem_append_left _ hm⟩⟩
  rcases List.mem_append.mp hm with h | h
  · exact h
  · cases List.mem_singleton.mp h
    exact absurd rfl hq
theorem mm_up.keep (h : mm_up w w' a e) (hm : (q, f) ∈ w) (hq : q ≠ a) : (q, f) ∈ w' := (h.2 q f hq).mpr hm
theorem mm_up.fr (h : mm_up w w' a e) (h1 : lo ≤ a) (h2 : a < hi) : mm_fr w w' lo hi := fun q f hq => h.2 q f (by omega)
theorem mm_fr.rf : mm_fr w w lo hi := fun _ _ _ => Iff.rfl
theorem mm_fr.keep (h : mm_fr w w' lo hi) (hm : (q, f) ∈ w) (hq : q < lo ∨ hi ≤ q) : (q, f) ∈ w' := (h q f hq).mpr hm
theorem mm_fr.tr (h : mm_fr w w1 lo hi) (h2 : mm_fr w1 w' lo hi) : mm_fr w w' lo hi := fun q f hq => (h2 q f hq).trans (h q f hq)
theorem mm_fr.wide (h : mm_fr w w' lo hi) (h1 : lo2 ≤ lo) (h2 : hi ≤ hi2) : mm_fr w w' lo2 hi2 := fun q f hq => h q f (by omega)
theorem mm_fr2.rf : mm_fr2 w w lo hi lo2 hi2 := fun _ _ _ _ => Iff.rfl
theorem mm_fr2.keep (h : mm_fr2 w w' lo hi lo2 hi2) (hm : (q, f) ∈ w) (hq : q < lo ∨ hi ≤ q) (hq2 : q < lo2 ∨ hi2 ≤ q) : (q, f) ∈ w' := (h q f hq hq2).mpr hm
theorem mm_fr2.tr (h : mm_fr2 w w1 lo hi lo2 hi2) (h2 : mm_fr2 w1 w' lo hi lo2 hi2) : mm_fr2 w w' lo hi lo2 hi2 := fun q f hq hq2 => (h2 q f hq hq2).trans (h q f hq hq2)
theorem mm_fr.l {p r : Nat} (h : mm_fr w w' p r) (h1 : lo ≤ p) (h2 : r ≤ hi) : mm_fr2 w w' lo hi lo2 hi2 := fun q f hq _ => h q f (by omega)
theorem mm_fr.r {p r : Nat} (h : mm_fr w w' p r) (h1 : lo2 ≤ p) (h2 : r ≤ hi2) : mm_fr2 w w' lo hi lo2 hi2 := fun q f _ hq => h q f (by omega)
theorem mm_fr2.one {p r : Nat} (h : mm_fr2 w w' lo hi lo2 hi2) (h1 : p ≤ lo) (h2 : hi ≤ r) (h3 : p ≤ lo2) (h4 : hi2 ≤ r) : mm_fr w w' p r := fun q f hq => h q f (by omega) (by omega)
theorem mm_fr2.wide {p r p2 r2 : Nat} (h : mm_fr2 w w' lo hi lo2 hi2) (h1 : p ≤ lo) (h2 : hi ≤ r) (h3 : p2 ≤ lo2) (h4 : hi2 ≤ r2) : mm_fr2 w w' p r p2 r2 := fun q f hq hq2 => h q f (by omega) (by omega)
theorem mm_fr2.swap (h : mm_fr2 w w' lo hi lo2 hi2) : mm_fr2 w w' lo2 hi2 lo hi := fun q f hq hq2 => h q f hq2 hq
theorem mm_up.l (h : mm_up w w' a e) (h1 : lo ≤ a) (h2 : a < hi) : mm_fr2 w w' lo hi lo2 hi2 := (h.fr h1 h2).l (Nat.le_refl _) (Nat.le_refl _)
theorem mm_up.r (h : mm_up w w' a e) (h1 : lo2 ≤ a) (h2 : a < hi2) : mm_fr2 w w' lo hi lo2 hi2 := (h.fr h1 h2).r (Nat.le_refl _) (Nat.le_refl _)
/-- the class's and the tables' numbers: G.1 the fields' slots; G.2 0, 1, 2 the classes of int[], char[], Marsh[]; 10 .. 14 the static rows; 20 + i the commands, 40 + i their patterns, 60 + i these texts' bytes -/
abbrev mm_G : Type := va_G × (Nat → Nat)
abbrev mm_T (G : mm_G) : List (ClassId × FieldType) := [(G.2 0, .int), (G.2 1, .char), (G.2 2, .object "MirrorFerry$Marsh"), (G.2 3, .long), (G.2 4, .double)]
def mm_S (G : mm_G) (A : Nat → Prop) (H0 : Heap) (w : va_W) (H : Heap) (locs : List Loc) : Prop := va_P G.1 vwCl w H ∧ va_D A w ∧ va_S A H0 H locs
end MMA
def mm_ex (k : Nat) : String := ["", "java/lang/IndexOutOfBoundsException", "java/util/NoSuchElementException", "java/lang/IllegalStateException", "java/lang/IllegalArgumentException", "java/lang/UnsupportedOperationException", "java/lang/ArithmeticException"].getD k ""
/-- no exception of the six is another's kind -/
def mm_NC (U : State) : Prop := ∀ i j : Nat, 1 ≤ i → i ≤ 6 → 1 ≤ j → j ≤ 6 → i ≠ j → va_Nc (mm_ex i) (mm_ex j) U
def mm_isN (w : Cond) : Bool := match w with
  | .methodLinkNest .. => true
  | .fieldLinkNest .. => true
  | .castable .. => true
  | .declares .. => true
  | _ => false
def mm_nw : List Cond := tables_1.filter mm_isN
def mm_cmdN : List String := ["REED", "BREAK", "BOAT", "PLAN", "MIRROR", "BACK", "REDUCE", "SAIL", "WAY", "LANDING", "FOG"]
def mm_pat : List String := ["reed ##", "break ##", "boat ##", "plan #=", "mirror ##", "back ##", "reduce #", "sail # #", "way #>## #", "landing ##", "fog #"]
def mm_byt : List (List Int32) := mm_pat.map (fun t => t.toList.map (fun c => Int32.ofNat c.toNat))
def mm_len : List Nat := mm_pat.map (fun t => t.length)
/-- the four small tables: moves' steps, letters, the switch's numbers -/
def mm_tX (k : Nat) : Int32 := [(0 : Int32), 0, -1, 1].getD k 0
def mm_tY (k : Nat) : Int32 := [(1 : Int32), -1, 0, 0].getD k 0
def mm_tL (k : Nat) : Int32 := [(85 : Int32), 68, 76, 82].getD k 0
def mm_tS (k : Nat) : Int32 := Int32.ofNat (k + 1)
/-- what a method needs of the tables and of what lies outside: nothing of it is written -/
def mm_X (G : mm_G) (A : Nat → Prop) (U : State) (H : Heap) : Prop :=
  ((∀ w ∈ mm_nw, va_Nw w U) ∧ va_AO "MirrorFerry$Marsh" U ∧ mm_NC U) ∧
  (va_Z "MirrorFerry" "STEP_X" "[I" (.ref (G.2 10)) A U H ∧ va_T .int (G.2 10) 4 (fun k => .int (mm_tX k)) A U H) ∧
  (va_Z "MirrorFerry" "STEP_Y" "[I" (.ref (G.2 11)) A U H ∧ va_T .int (G.2 11) 4 (fun k => .int (mm_tY k)) A U H) ∧
  (va_Z "MirrorFerry" "LETTERS" "[C" (.ref (G.2 12)) A U H ∧ va_T .char (G.2 12) 4 (fun k => .int (mm_tL k)) A U H) ∧
  (va_Z "MirrorFerry" "COMMANDS" "[LMirrorFerry$Command;" (.ref (G.2 13)) A U H ∧ va_T (.object "MirrorFerry$Command") (G.2 13) 11 (fun k => .ref (G.2 (20 + k))) A U H) ∧
  (va_Z "MirrorFerry$1" "$SwitchMap$MirrorFerry$Command" "[I" (.ref (G.2 14)) A U H ∧ va_T .int (G.2 14) 11 (fun k => .int (mm_tS k)) A U H) ∧
  va_En "MirrorFerry$Command" "LMirrorFerry$Command;" mm_cmdN [("java/lang/Enum", "ordinal", "I", [0, 1, 2, 3, 4, 5, 6, 7, 8, 9, 10])] (fun i => G.2 (20 + i)) A U H ∧
  va_Ef 11 "MirrorFerry$Command" "pattern" "Ljava/lang/String;" (fun i => .ref (G.2 (40 + i))) (fun i => G.2 (20 + i)) A U H ∧
  vk_S 11 mm_len mm_byt (fun i => G.2 (40 + i)) (fun i => G.2 (60 + i)) A U H ∧
  va_Z "java/lang/String" "COMPACT_STRINGS" "Z" (.int 1) A U H ∧
  va_Zq "jdk/internal/util/Preconditions" "SIOOBE_FORMATTER" "Ljava/util/function/BiFunction;" A U H ∧
  vx_Zq Bundle.tN "UNASSIGNED_STACK" Bundle.steD A U H ∧ vx_Zq Bundle.tN "SUPPRESSED_SENTINEL" Bundle.listD A U H
theorem mm_X.move {G : mm_G} {A B : Nat → Prop} {u U : State} {H H1 : Heap} (h : mm_X G A u H) (hN : ∀ w ∈ mm_nw, va_Nw w u → va_Nw w U) (hvm : u.vm.Alike U.vm) (hq : ∀ a : Nat, a < H.size → ¬ A a → H1[a]? = H[a]?) (hAB : ∀ q, B q → A q) : mm_X G B U H1 := by
  obtain ⟨⟨h0, h00, h01⟩, ⟨a1, a2⟩, ⟨b1, b2⟩, ⟨c1, c2⟩, ⟨d1, d2⟩, ⟨e1, e2⟩, f1, g1, i1, j1, j2, k1, k2⟩ := h
  exact ⟨⟨fun w hw => hN w hw (h0 w hw), va_AO.moved hvm h00, fun i j a1 a2 b1 b2 c => va_Nc.moved hvm (h01 i j a1 a2 b1 b2 c)⟩, ⟨((va_Z.moved hvm a1).kept hq).narrow hAB, ((va_T.moved hvm a2).kept hq).narrow hAB⟩, ⟨((va_Z.moved hvm b1).kept hq).narrow hAB, ((va_T.moved hvm b2).kept hq).narrow hAB⟩, ⟨((va_Z.moved hvm c1).kept hq).narrow hAB, ((va_T.moved hvm c2).kept hq).narrow hAB⟩, ⟨((va_Z.moved hvm d1).kept hq).narrow hAB, ((va_T.moved hvm d2).kept hq).narrow hAB⟩, ⟨((va_Z.moved hvm e1).kept hq).narrow hAB, ((va_T.moved hvm e2).kept hq).narrow hAB⟩, ((va_En.moved hvm f1).kept hq).narrow hAB, ((va_Ef.moved hvm g1).kept hq).narrow hAB, ((vk_S.moved hvm i1).kept hq).narrow hAB, ((va_Z.moved hvm j1).kept hq).narrow hAB, ((va_Zq.moved hvm j2).kept hq).narrow hAB, ((vx_Zq.moved hvm k1).kept hq).narrow hAB, ((vx_Zq.moved hvm k2).kept hq).narrow hAB⟩
theorem mm_nwarm {s U : State} (hW : s.WarmedH U.vm) {w : Cond} (hw : w ∈ mm_nw) (h : va_Nw w s) : va_Nw w U := by
  have h2 := (List.mem_filter.mp hw).2
  unfold mm_isN at h2
  split at h2
  · exact va_Nw.warmM hW h
  · exact va_Nw.warmF hW h
  · exact va_Nw.warmC hW h
  · exact va_Nw.warmD hW h
  · cases h2
theorem mm_non {w : Cond} (hw : w ∈ mm_nw) : w.onTables = true := by
  have h2 := (List.mem_filter.mp hw).2
  unfold mm_isN at h2
  split at h2
  · rfl
  · rfl
  · rfl
  · rfl
  · cases h2
def mm_Pre (G : mm_G) (w : va_W) (sz : Nat) (U : State) : Prop := U.heap.size = sz ∧ va_P G.1 vwCl w U.heap ∧ va_K G.1 vwCl (mm_T G) U ∧ va_D (fun _ => True) w ∧ mm_X G (va_A w sz) U U.heap
def mm_B (G : mm_G) (w0 : va_W) (sz : Nat) (w : va_W) (t : State) : Prop := va_P G.1 vwCl w t.heap ∧ va_D (va_A w0 sz) w
def mm_Qi (G : mm_G) (w : va_W) (sz : Nat) (post : Int32 → va_W → Prop) : Array Value → State → Outcome → State → Prop := va_Qi post (mm_B G w sz) (va_A w sz)
def mm_Qv (G : mm_G) (w : va_W) (sz : Nat) (post : va_W → Prop) : Array Value → State → Outcome → State → Prop := va_Qv post (mm_B G w sz) (va_A w sz)
def mm_Qd (G : mm_G) (w : va_W) (sz : Nat) (post : UInt64 → va_W → Prop) : Array Value → State → Outcome → State → Prop := va_Qd post (mm_B G w sz) (va_A w sz)
def mm_Qf (G : mm_G) (w : va_W) (sz : Nat) (post : UInt32 → va_W → Prop) : Array Value → State → Outcome → State → Prop := va_Qf post (mm_B G w sz) (va_A w sz)
theorem mm_blind {G : mm_G} {w : va_W} {sz : Nat} {vs : List Value} : FrameBlind (va_Pc vs (mm_Pre G w sz)) := by
  intro a U g mk h
  obtain ⟨h1, h2, h3, h4, h5, h6⟩ := h
  exact ⟨h1, h2, h3, va_K.moved (u := U) (U := U.calling g mk a) (Vm.Alike.refl U.vm) h4, h5, mm_X.move h6 (fun w hw hn => va_Nw.same (mm_non hw) (u := U) (U := U.calling g mk a) rfl hn) (Vm.Alike.refl U.vm) (fun _ _ _ => rfl) (fun _ h => h)⟩
abbrev mm_C (G : mm_G) (A : Nat → Prop) (p : Program) (s : State) (m : MethodId) (c : Code) (cc : ByteArray) (nL : Nat) (args : Array Value) (own : String) : Prop :=
  CallFix p m c cc nL s args gAll own ∧ va_K G.1 vwCl (mm_T G) s ∧ mm_X G A s s.heap ∧ (∀ q, s.heap.size ≤ q → A q)
theorem mm_sub {G : mm_G} {A : Nat → Prop} {H0 H : Heap} {w : va_W} {locs : List Loc} (hM : mm_S G A H0 w H locs) (hA : ∀ q, H0.size ≤ q → A q) : ∀ q, va_A w H.size q → A q := by
  intro q hq
  rcases hq with ⟨k, e, h⟩ | h
  · exact hM.2.1.2 k _ h
  · exact hA q (Nat.le_trans hM.2.2.1 h)
section MMR
variable {p : Program} {l : Launch} {e : Env} {R : Room} {s : State} {m : MethodId} {args : Array Value} {below : List Frame} {meth : Method} {c : Code} {H : Heap} {locs : List Loc} {cells slots : Nat} {Q : State → Prop}
variable {G : mm_G} {A : Nat → Prop} {cc : ByteArray} {nL : Nat} {own : String} {w : va_W} {pc a b : Nat} {ls : Array Slot} {rest st0 : List Value}
theorem mm_pre (hC : mm_C G A p s m c cc nL args own) (hM : mm_S G A s.heap w H locs) {U : State} (hU : U.heap = H) (hW : s.WarmedH U.vm) : mm_Pre G w H.size U := by
  refine ⟨by rw [hU], by rw [hU]; exact hM.1, va_K.moved hW.alike hC.2.1, hM.2.1.weaken (fun _ _ _ _ => trivial), ?_⟩
  rw [hU]
  exact mm_X.move hC.2.2.1 (fun w hw hn => mm_nwarm hW hw hn) hW.alike hM.2.2.2.1 (mm_sub hM hC.2.2.2)
theorem mm_ev {As : List Value} {C : String} {ci : Nat} {T : u_T} {N : Nat} {fs : List Value} (hC : mm_C G A p s m c cc nL args own) (hM : mm_S G A s.heap w H locs) (he : (b, .inr (ci, fs)) ∈ w) (hc : vwCl[ci]? = some (C, T, N)) : PreV s H C b (va_Pc (.ref b :: As) (mm_Pre G w H.size)) As := by
  obtain ⟨k, hk⟩ := List.mem_iff_getElem?.mp he
  exact ⟨mm_blind, va_recv hC.2.1 hM.1 hc hk, fun U hU hW => ⟨rfl, mm_pre hC hM hU hW⟩⟩
theorem mm_es {As : List Value} (hC : mm_C G A p s m c cc nL args own) (hM : mm_S G A s.heap w H locs) : PreS s H (va_Pc As (mm_Pre G w H.size)) As :=
  ⟨mm_blind, fun U hU hW => ⟨rfl, mm_pre hC hM hU hW⟩⟩
theorem mm_after {w' : va_W} {t : State} {H1 : Heap} {locs1 : List Loc} (hM : mm_S G A s.heap w H locs) (hA : ∀ q, s.heap.size ≤ q → A q) (hB : mm_B G w H.size w' t) (ht : t.heap = H1) (hS : va_S A s.heap H1 locs1) : mm_S G A s.heap w' H1 locs1 :=
  ⟨ht ▸ hB.1, hB.2.weaken (fun _ _ _ h => mm_sub hM hA _ h), hS⟩
/-- behind a call: by what it answers -/
theorem mm_ci {post : Int32 → va_W → Prop} {mc ms : Nat} {aa : Array Value} (hr : va_Run p l e R s m args below meth c H locs cells slots mc ms (F0 m pc ls st0) rest (mm_Qi G w H.size post aa) (va_A w H.size)) (hC : mm_C G A p s m c cc nL args own) (hM : mm_S G A s.heap w H locs)
    (kk : ∀ (r : Int32) (w' : va_W) (H1 : Heap) (locs1 : List Loc), mm_S G A s.heap w' H1 locs1 → post r w' → W p l e R s m args below meth c H1 locs1 (cells + mc) (slots + ms) Q (F0 m (pc + 3) ls (.int r :: rest))) : W p l e R s m args below meth c H locs cells slots Q (F0 m pc ls st0) :=
  va_calli hr hM.2.2 (fun q _ h => mm_sub hM hC.2.2.2 q h) (mm_sub hM hC.2.2.2) (fun r u t H1 locs1 ht _ hp hB _ _ hS => kk r u H1 locs1 (mm_after hM hC.2.2.2 hB ht hS) hp)
theorem mm_cv {post : va_W → Prop} {mc ms : Nat} {aa : Array Value} (hr : va_Run p l e R s m args below meth c H locs cells slots mc ms (F0 m pc ls st0) rest (mm_Qv G w H.size post aa) (va_A w H.size)) (hC : mm_C G A p s m c cc nL args own) (hM : mm_S G A s.heap w H locs)
    (kk : ∀ (w' : va_W) (H1 : Heap) (locs1 : List Loc), mm_S G A s.heap w' H1 locs1 → post w' → W p l e R s m args below meth c H1 locs1 (cells + mc) (slots + ms) Q (F0 m (pc + 3) ls rest)) : W p l e R s m args below meth c H locs cells slots Q (F0 m pc ls st0) :=
  va_callv hr hM.2.2 (fun q _ h => mm_sub hM hC.2.2.2 q h) (mm_sub hM hC.2.2.2) (fun u t H1 locs1 ht _ hp hB _ _ hS => kk u H1 locs1 (mm_after hM hC.2.2.2 hB ht hS) hp)
theorem mm_cd {post : UInt64 → va_W → Prop} {mc ms : Nat} {aa : Array Value} (hr : va_Run p l e R s m args below meth c H locs cells slots mc ms (F0 m pc ls st0) rest (mm_Qd G w H.size post aa) (va_A w H.size)) (hC : mm_C G A p s m c cc nL args own) (hM : mm_S G A s.heap w H locs)
    (kk : ∀ (r : UInt64) (w' : va_W) (H1 : Heap) (locs1 : List Loc), mm_S G A s.heap w' H1 locs1 → post r w' → W p l e R s m args below meth c H1 locs1 (cells + mc) (slots + ms) Q (F0 m (pc + 3) ls (.double r :: rest))) : W p l e R s m args below meth c H locs cells slots Q (F0 m pc ls st0) :=
  va_calld hr hM.2.2 (fun q _ h => mm_sub hM hC.2.2.2 q h) (mm_sub hM hC.2.2.2) (fun r u t H1 locs1 ht _ hp hB _ _ hS => kk r u H1 locs1 (mm_after hM hC.2.2.2 hB ht hS) hp)
theorem mm_cf {post : UInt32 → va_W → Prop} {mc ms : Nat} {aa : Array Value} (hr : va_Run p l e R s m args below meth c H locs cells slots mc ms (F0 m pc ls st0) rest (mm_Qf G w H.size post aa) (va_A w H.size)) (hC : mm_C G A p s m c cc nL args own) (hM : mm_S G A s.heap w H locs)
    (kk : ∀ (r : UInt32) (w' : va_W) (H1 : Heap) (locs1 : List Loc), mm_S G A s.heap w' H1 locs1 → post r w' → W p l e R s m args below meth c H1 locs1 (cells + mc) (slots + ms) Q (F0 m (pc + 3) ls (.float r :: rest))) : W p l e R s m args below meth c H locs cells slots Q (F0 m pc ls st0) :=
  va_callf hr hM.2.2 (fun q _ h => mm_sub hM hC.2.2.2 q h) (mm_sub hM hC.2.2.2) (fun r u t H1 locs1 ht _ hp hB _ _ hS => kk r u H1 locs1 (mm_after hM hC.2.2.2 hB ht hS) hp)
/-- fields -/
theorem mm_get (hC : mm_C G A p s m c cc nL args own) (hM : mm_S G A s.heap w H locs) {ci index k : Nat} {C : String} {T : u_T} {N : Nat} {fs : List Value} {v : Value} (he : (a, .inr (ci, fs)) ∈ w) (hc : vwCl[ci]? = some (C, T, N)) (hin : ∀ w ∈ u_ws C T N, w ∈ gAll) (hk : k < N) (hlink : Cond.fieldLink own index (T k).1 (T k).2.1 (T k).2.2.1 ∈ gAll) (hv : fs[k]? = some v) (hdg : decode cc pc = .ok (.getfield index, 3))
    (kk : W p l e R s m args below meth c H locs cells slots Q (F0 m (pc + 3) ls (v :: rest))) : W p l e R s m args below meth c H locs cells slots Q (F0 m pc ls (.ref a :: rest)) := by
  obtain ⟨q, hq⟩ := List.mem_iff_getElem?.mp he
  obtain ⟨⟨hx, hb, hml, hown, hts⟩, hK, hX, hA⟩ := hC
  exact va_get hx hb hts hin hown hK hM.1 q hq hc k hk (hts _ hlink) (fun _ h => h) hv hdg kk
theorem mm_put (hC : mm_C G A p s m c cc nL args own) (hM : mm_S G A s.heap w H locs) {ci index k : Nat} {C : String} {T : u_T} {N : Nat} {fs : List Value} {v : Value} {ty : FieldType} (ty0 : Nat → FieldType) (he : (a, .inr (ci, fs)) ∈ w) (hc : vwCl[ci]? = some (C, T, N)) (hin : ∀ w ∈ u_ws C T N, w ∈ gAll) (hty : ∀ k, k < N → parseFieldDescriptor (T k).2.2.1 = some (ty0 k)) (hnm : ∀ a, a < N → ∀ b, b < N → a ≠ b → (T a).2.1 ≠ (T b).2.1) (hk : k < N) (hlink : Cond.fieldLink own index (T k).1 (T k).2.1 (T k).2.2.1 ∈ gAll) (hfin : (T k).2.2.2 = false) (hd : ty0 k = ty) (hn : narrow ty v = v) (hfit : fits ty v = true) (hl : k < fs.length) (hdg : decode cc pc = .ok (.putfield index, 3))
    (kk : ∀ (w' : va_W) (H1 : Heap) (locs1 : List Loc), mm_S G A s.heap w' H1 locs1 → mm_up w w' a (.inr (ci, fs.set k v)) → W p l e R s m args below meth c H1 locs1 cells slots Q (F0 m (pc + 3) ls rest)) : W p l e R s m args below meth c H locs cells slots Q (F0 m pc ls (v :: .ref a :: rest)) := by
  obtain ⟨q, hq⟩ := List.mem_iff_getElem?.mp he
  obtain ⟨⟨hx, hb, hml, hown, hts⟩, hK, hX, hA⟩ := hC
  exact va_put hx hb hts hin ty0 hty hnm hown hK hM.1 hM.2.1 hM.2.2 q hq hc k hk (hts _ hlink) (fun _ h => h) hfin (by rw [hty k hk, hd]) hn hfit hl hdg (fun H1 locs1 h1 h2 h3 => kk _ H1 locs1 ⟨h1, h2, h3⟩ (mm_set hq _))
theorem mm_putF (hC : mm_C G A p s m c cc nL args own) (hM : mm_S G A s.heap w H locs) {ci index k : Nat} {C : String} {T : u_T} {N : Nat} {fs : List Value} {v : Value} {ty : FieldType} (ty0 : Nat → FieldType) (he : (a, .inr (ci, fs)) ∈ w) (hc : vwCl[ci]? = some (C, T, N)) (hin : ∀ w ∈ u_ws C T N, w ∈ gAll) (hty : ∀ k, k < N → parseFieldDescriptor (T k).2.2.1 = some (ty0 k)) (hnm : ∀ a, a < N → ∀ b, b < N → a ≠ b → (T a).2.1 ≠ (T b).2.1) (hk : k < N) (hlink : Cond.fieldLink own index (T k).1 (T k).2.1 (T k).2.2.1 ∈ gAll) (hfin : (T k).2.2.2 = true) (hin2 : meth.name = "<init>") (hdecl : (T k).1 = own) (hd : ty0 k = ty) (hn : narrow ty v = v) (hfit : fits ty v = true) (hl : k < fs.length) (hdg : decode cc pc = .ok (.putfield index, 3))
    (kk : ∀ (w' : va_W) (H1 : Heap) (locs1 : List Loc), mm_S G A s.heap w' H1 locs1 → mm_up w w' a (.inr (ci, fs.set k v)) → W p l e R s m args below meth c H1 locs1 cells slots Q (F0 m (pc + 3) ls rest)) : W p l e R s m args below meth c H locs cells slots Q (F0 m pc ls (v :: .ref a :: rest)) := by
  obtain ⟨q, hq⟩ := List.mem_iff_getElem?.mp he
  obtain ⟨⟨hx, hb, hml, hown, hts⟩, hK, hX, hA⟩ := hC
  exact va_putF hx hb hts hin ty0 hty hnm hown hK hM.1 hM.2.1 hM.2.2 q hq hc k hk (hts _ hlink) (fun _ h => h) hfin hin2 hdecl (by rw [hty k hk, hd]) hn hfit hl hdg (fun H1 locs1 h1 h2 h3 => kk _ H1 locs1 ⟨h1, h2, h3⟩ (mm_set hq _))
/-- rows of numbers, of chars, of marshes -/
theorem mm_iald (hC : mm_C G A p s m c cc nL args own) (hM : mm_S G A s.heap w H locs) {n : Nat} {f : Nat → Int32} (he : (a, .inl (G.2 0, n, .inl f)) ∈ w) {i : Int32} (hin : vp_in i n) (hdg : decode cc pc = .ok (.iaload, 1))
    (kk : W p l e R s m args below meth c H locs cells slots Q (F0 m (pc + 1) ls (.int (f i.toNatClampNeg) :: rest))) : W p l e R s m args below meth c H locs cells slots Q (F0 m pc ls (.int i :: .ref a :: rest)) := by
  obtain ⟨q, hq⟩ := List.mem_iff_getElem?.mp he
  exact va_iald hC.1.1 hC.1.2.1 hC.2.1 hM.1 q 0 hq rfl hin hdg kk
theorem mm_iast (hC : mm_C G A p s m c cc nL args own) (hM : mm_S G A s.heap w H locs) {n : Nat} {f : Nat → Int32} (he : (a, .inl (G.2 0, n, .inl f)) ∈ w) {i x : Int32} (hin : vp_in i n) (hdg : decode cc pc = .ok (.iastore, 1))
    (kk : ∀ (w' : va_W) (H1 : Heap) (locs1 : List Loc), mm_S G A s.heap w' H1 locs1 → mm_up w w' a (.inl (G.2 0, n, .inl (upd f i.toNatClampNeg x))) → W p l e R s m args below meth c H1 locs1 cells slots Q (F0 m (pc + 1) ls rest)) : W p l e R s m args below meth c H locs cells slots Q (F0 m pc ls (.int x :: .int i :: .ref a :: rest)) := by
  obtain ⟨q, hq⟩ := List.mem_iff_getElem?.mp he
  exact va_iast hC.1.1 hC.1.2.1 hC.2.1 hM.1 hM.2.1 hM.2.2 q 0 hq rfl hin hdg (fun H1 locs1 h1 h2 h3 => kk _ H1 locs1 ⟨h1, h2, h3⟩ (mm_set hq _))
theorem mm_cald (hC : mm_C G A p s m c cc nL args own) (hM : mm_S G A s.heap w H locs) {n : Nat} {f : Nat → Int32} (he : (a, .inl (G.2 1, n, .inl f)) ∈ w) {i : Int32} (hin : vp_in i n) (hdg : decode cc pc = .ok (.caload, 1))
    (kk : W p l e R s m args below meth c H locs cells slots Q (F0 m (pc + 1) ls (.int (f i.toNatClampNeg) :: rest))) : W p l e R s m args below meth c H locs cells slots Q (F0 m pc ls (.int i :: .ref a :: rest)) := by
  obtain ⟨q, hq⟩ := List.mem_iff_getElem?.mp he
  exact va_cald hC.1.1 hC.1.2.1 hC.2.1 hM.1 q 1 hq rfl hin hdg kk
theorem mm_cast (hC : mm_C G A p s m c cc nL args own) (hM : mm_S G A s.heap w H locs) {n : Nat} {f : Nat → Int32} (he : (a, .inl (G.2 1, n, .inl f)) ∈ w) {i x : Int32} (hin : vp_in i n) (hdg : decode cc pc = .ok (.castore, 1))
    (kk : ∀ (w' : va_W) (H1 : Heap) (locs1 : List Loc), mm_S G A s.heap w' H1 locs1 → mm_up w w' a (.inl (G.2 1, n, .inl (upd f i.toNatClampNeg (vp_nar .char x)))) → W p l e R s m args below meth c H1 locs1 cells slots Q (F0 m (pc + 1) ls rest)) : W p l e R s m args below meth c H locs cells slots Q (F0 m pc ls (.int x :: .int i :: .ref a :: rest)) := by
  obtain ⟨q, hq⟩ := List.mem_iff_getElem?.mp he
  exact va_cast hC.1.1 hC.1.2.1 hC.2.1 hM.1 hM.2.1 hM.2.2 q 1 hq rfl hin hdg (fun H1 locs1 h1 h2 h3 => kk _ H1 locs1 ⟨h1, h2, h3⟩ (mm_set hq _))
theorem mm_aald (hC : mm_C G A p s m c cc nL args own) (hM : mm_S G A s.heap w H locs) {n : Nat} {f : Nat → Option Nat} (he : (a, .inl (G.2 2, n, .inr (.inr (.inr (.inr f))))) ∈ w) {i : Int32} (hin : vp_in i n) (hdg : decode cc pc = .ok (.aaload, 1))
    (kk : W p l e R s m args below meth c H locs cells slots Q (F0 m (pc + 1) ls (va_rf (f i.toNatClampNeg) :: rest))) : W p l e R s m args below meth c H locs cells slots Q (F0 m pc ls (.int i :: .ref a :: rest)) := by
  obtain ⟨q, hq⟩ := List.mem_iff_getElem?.mp he
  exact va_aldq hC.1.1 hC.1.2.1 hC.2.1 hM.1 q 2 hq rfl hin hdg kk
theorem mm_alen (hC : mm_C G A p s m c cc nL args own) (hM : mm_S G A s.heap w H locs) {x : vp_A} (he : (a, .inl (G.2 0, x)) ∈ w) {v : Int32} (hv : Int32.ofNat x.1 = v) (hdg : decode cc pc = .ok (.arraylength, 1))
    (kk : W p l e R s m args below meth c H locs cells slots Q (F0 m (pc + 1) ls (.int v :: rest))) : W p l e R s m args below meth c H locs cells slots Q (F0 m pc ls (.ref a :: rest)) := by
  obtain ⟨q, hq⟩ := List.mem_iff_getElem?.mp he
  exact va_alen hC.1.1 hC.1.2.1 hC.2.1 hM.1 q 0 hq rfl hv hdg kk
theorem mm_copy (hC : mm_C G A p s m c cc nL args own) (hM : mm_S G A s.heap w H locs) {a0 n0 n1 index S1 D1 N1 : Nat} {f g : Nat → Int32} {sp dp n : Int32} (ha0 : (a0, .inl (G.2 0, n0, .inl f)) ∈ w) (ha1 : (a, .inl (G.2 0, n1, .inl g)) ∈ w) (h1 : ¬ sp < 0) (h2 : ¬ dp < 0) (h3 : ¬ n < 0) (h4 : sp.toNatClampNeg + n.toNatClampNeg ≤ n0) (h5 : dp.toNatClampNeg + n.toNatClampNeg ≤ n1) (e1 : sp.toNatClampNeg = S1) (e2 : dp.toNatClampNeg = D1) (e3 : n.toNatClampNeg = N1)
    (hml : c.maxLocals = ls.size) (hlink : Cond.methodLink own index arraycopyName ∈ gAll) (hnat : Cond.native arraycopyName ∈ gAll) (hstat : Cond.static arraycopyName ∈ gAll) (hini : Cond.initialized "java/lang/System" ∈ gAll) (hframes : 1 ≤ R.frames) (hlocals : (rest.map fun v => v.category).sum + (nativeFrameWords "java/lang/System" "arraycopy" 5 + 11) ≤ R.locals) (hdg : decode cc pc = .ok (.invokestatic index, 3))
    (kk : ∀ (w' : va_W) (H1 : Heap) (locs1 : List Loc), mm_S G A s.heap w' H1 locs1 → mm_up w w' a (.inl (G.2 0, n1, .inl (va_cpy f g S1 D1 N1))) → W p l e R s m args below meth c H1 locs1 cells slots Q (F0 m (pc + 3) ls rest)) : W p l e R s m args below meth c H locs cells slots Q (F0 m pc ls (.int n :: .int dp :: .ref a :: .int sp :: .ref a0 :: rest)) := by
  obtain ⟨q0, hq0⟩ := List.mem_iff_getElem?.mp ha0
  obtain ⟨q, hq⟩ := List.mem_iff_getElem?.mp ha1
  subst e1
  subst e2
  subst e3
  have hts := hC.1.2.2.2.2
  exact va_copyi (ty := .int) hC.1.1 hC.1.2.1 hml hC.1.2.2.2.1 (hts _ hlink) (hts _ hnat) (hts _ hstat) (hts _ hini) hC.2.1 hM.1 hM.2.1 hM.2.2 q0 q 0 0 hq0 hq rfl rfl rfl h1 h2 h3 h4 h5 (fun _ _ => rfl) hframes hlocals hdg (fun H1 locs1 z1 z2 z3 => kk _ H1 locs1 ⟨z1, z2, z3⟩ (mm_set hq _))
/-- returns -/
theorem mm_iret {post : Int32 → va_W → Prop} {w0 : va_W} {v : Int32} {sz : Nat} {ty : FieldType} (hC : mm_C G (va_A w0 sz) p s m c cc nL args own) (hM : mm_S G (va_A w0 sz) s.heap w H locs) (hr : meth.sig.returnType = some ty) (hlocks : meth.locks = false) (hdg : decode cc pc = .ok (.ireturn, 1)) (hn : narrow ty (.int v) = .int v) (hp : post v w) : W p l e R s m args below meth c H locs cells slots (MQ below (mm_Qi G w0 sz post) args s cells slots (va_A w0 sz)) (F0 m pc ls [.int v]) :=
  W.zret (v := v) hC.1.1 hC.1.2.1 hr hn (fun t ht hW => ⟨⟨v, w, rfl, hp, by rw [ht]; exact hM.1, hM.2.1⟩, hM.2.2.F ht⟩) hM.2.2.2.2 hdg hlocks
theorem mm_vret {post : va_W → Prop} {w0 : va_W} {sz : Nat} (hC : mm_C G (va_A w0 sz) p s m c cc nL args own) (hM : mm_S G (va_A w0 sz) s.heap w H locs) (hr : meth.sig.returnType = none) (hlocks : meth.locks = false) (hdg : decode cc pc = .ok (.return_, 1)) (hp : post w) : W p l e R s m args below meth c H locs cells slots (MQ below (mm_Qv G w0 sz post) args s cells slots (va_A w0 sz)) (F0 m pc ls []) :=
  W.vret hC.1.1 hC.1.2.1 hr (fun t ht hW => ⟨⟨w, rfl, hp, by rw [ht]; exact hM.1, hM.2.1⟩, hM.2.2.F ht⟩) hM.2.2.2.2 hdg hlocks
/-- a method's head -/
theorem mm_head {y : MethodName} {rm : Room} {Qc : Array Value → State → Outcome → State → Prop} {mc ms maxL sz : Nat} {ret : Option FieldType} (vs : List Value) (hy : plainName y.cls = true) (hyc : y.cls = own) (hlen : (lg_sl vs).length ≤ maxL)
    (body : ∀ (p : Program) (e : Env) (s : State) (m : MethodId) (below : List Frame) (meth : Method) (c : Code), s.heap.size = sz → mm_C G (va_A w sz) p s m c cc maxL vs.toArray own → mm_S G (va_A w sz) s.heap w s.heap [] → meth.sig.returnType = ret → meth.locks = false → meth.name = y.name → ∀ ls : Array Slot, lv_has ls maxL (lv_args 0 vs) →
      W p l e (headSpec (Cond.code y cc maxL ret :: gAll) rm).room s m vs.toArray below meth c s.heap [] 0 0 (MQ below Qc vs.toArray s mc ms (va_A w sz)) (F0 m 0 ls [])) : Met l y (Cond.code y cc maxL ret :: gAll) rm (va_Pc vs (mm_Pre G w sz)) Qc mc ms (va_A w sz) := by
  refine Met.ofW (cc := cc) (maxL := maxL) (ret := ret) hy rfl ?_
  intro p e s m args below meth c s₁ B hml hv
  obtain ⟨rfl, hsz, hP, hK, hD0, hX⟩ := hv
  have hts : ∀ w ∈ gAll, w.before _ s = true := fun w hw => atoms_spec (ws := Cond.code y cc maxL ret :: gAll) B.pre w (List.mem_cons_of_mem _ hw)
  have hown : s.vm.findClass own = some m.cls := hyc ▸ findClass_of_methodNamed B.named
  have hA : ∀ q, s.heap.size ≤ q → va_A w sz q := fun q h => Or.inr (hsz ▸ h)
  have hl := lv_entry vs (n := maxL) hlen
  rw [lg_entry_eq]
  exact body p e s m below meth c hsz ⟨⟨B.exec, B.bytes, hml, hown, hts⟩, hK, hX, hA⟩ ⟨hP, hD0.self, va_S.rf⟩ B.returns B.notSynchronized (name_of_methodNamed B.named B.method).1 _ hl

section MMK
variable {y : MethodName} {bytes : ByteArray} {maxL mc ms n index : Nat} {ret : Option FieldType} {rm : Room} {As : List Value} {C host : String}
theorem mm_cb (hC : mm_C G A p s m c cc nL args own) (hcode : Cond.code y bytes maxL ret ∈ gAll) (hini : Cond.initialized y.cls ∈ gAll) (hd : mm_yk y n) (hlink : Cond.methodLink own index y ∈ gAll) (hrm : rm.cells = mc ∧ rm.slots = ms) (hR : rm.frames + 1 ≤ R.frames ∧ 8 + (maxL + 11) + rm.locals ≤ R.locals) : CallB R s args own index y bytes maxL ret (Cond.code y bytes maxL ret :: gAll) rm mc ms n :=
  callB_of n hC.1.2.2.2.2 (gA_in hcode) rfl hrm.1 hrm.2 (hC.1.2.2.2.2 _ hini) (hC.1.2.2.2.2 _ hlink) hd hR
theorem mm_cn (hC : mm_C G A p s m c cc nL args own) (hcode : Cond.code y bytes maxL ret ∈ gAll) (hini : Cond.initialized y.cls ∈ gAll) (hd : mm_yk y n) (hlink : Cond.methodLinkNest own index y host ∈ mm_nw) (hrm : rm.cells = mc ∧ rm.slots = ms) (hR : rm.frames + 1 ≤ R.frames ∧ 8 + (maxL + 11) + rm.locals ≤ R.locals) : va_CN R s args own index y host bytes maxL ret (Cond.code y bytes maxL ret :: gAll) rm mc ms n :=
  va_cnB n hC.1.2.2.2.2 (gA_in hcode) rfl hrm.1 hrm.2 (hC.2.2.1.1.1 _ hlink) (hC.1.2.2.2.2 _ hini) hd hR
variable {T : u_T} {N ci : Nat} {fs : List Value} {Qc : Array Value → State → Outcome → State → Prop}
theorem mm_Vi {post : Int32 → va_W → Prop} (hC : mm_C G A p s m c cc nL args own) (hM : mm_S G A s.heap w H locs) (hMet : Met l y (Cond.code y bytes maxL ret :: gAll) rm (va_Pc (.ref b :: As) (mm_Pre G w H.size)) (mm_Qi G w H.size post) mc ms (va_A w H.size)) (hcode : Cond.code y bytes maxL ret ∈ gAll) (hini : Cond.initialized y.cls ∈ gAll) (hd : mm_yk y n) (hlink : Cond.methodLink own index y ∈ gAll) (hinst : Cond.instanceMethod y ∈ gAll) (hsel : Cond.selects C y y ∈ gAll) (he : (b, .inr (ci, fs)) ∈ w) (hc : vwCl[ci]? = some (C, T, N)) (hrm : rm.cells = mc ∧ rm.slots = ms) (hR : rm.frames + 1 ≤ R.frames ∧ 8 + (maxL + 11) + rm.locals ≤ R.locals) (hn : As.length = n) (hsize : ls.size = nL) (hst : st0 = As.reverse ++ .ref b :: rest) (hW : (rest.map fun v => v.category).sum ≤ 8) (hdg : decode cc pc = .ok (.invokevirtual index, 3)) (hf : cells + mc ≤ R.cells ∧ slots + ms ≤ R.slots)
    (kk : ∀ (r : Int32) (w' : va_W) (H1 : Heap) (locs1 : List Loc), mm_S G A s.heap w' H1 locs1 → post r w' → W p l e R s m args below meth c H1 locs1 (cells + mc) (slots + ms) Q (F0 m (pc + 3) ls (.int r :: rest))) : W p l e R s m args below meth c H locs cells slots Q (F0 m pc ls st0) :=
  mm_ci (va_runV hC.1 hMet ⟨mm_cb hC hcode hini hd hlink hrm hR, hC.1.2.2.2.2 _ hinst, hC.1.2.2.2.2 _ hsel⟩ (mm_ev hC hM he hc) rfl hn hsize hst (lv_room hW) hdg hf) hC hM kk
theorem mm_Vv {post : va_W → Prop} (hC : mm_C G A p s m c cc nL args own) (hM : mm_S G A s.heap w H locs) (hMet : Met l y (Cond.code y bytes maxL ret :: gAll) rm (va_Pc (.ref b :: As) (mm_Pre G w H.size)) (mm_Qv G w H.size post) mc ms (va_A w H.size)) (hcode : Cond.code y bytes maxL ret ∈ gAll) (hini : Cond.initialized y.cls ∈ gAll) (hd : mm_yk y n) (hlink : Cond.methodLink own index y ∈ gAll) (hinst : Cond.instanceMethod y ∈ gAll) (hsel : Cond.selects C y y ∈ gAll) (he : (b, .inr (ci, fs)) ∈ w) (hc : vwCl[ci]? = some (C, T, N)) (hrm : rm.cells = mc ∧ rm.slots = ms) (hR : rm.frames + 1 ≤ R.frames ∧ 8 + (maxL + 11) + rm.locals ≤ R.locals) (hn : As.length = n) (hsize : ls.size = nL) (hst : st0 = As.reverse ++ .ref b :: rest) (hW : (rest.map fun v => v.category).sum ≤ 8) (hdg : decode cc pc = .ok (.invokevirtual index, 3)) (hf : cells + mc ≤ R.cells ∧ slots + ms ≤ R.slots)
    (kk : ∀ (w' : va_W) (H1 : Heap) (locs1 : List Loc), mm_S G A s.heap w' H1 locs1 → post w' → W p l e R s m args below meth c H1 locs1 (cells + mc) (slots + ms) Q (F0 m (pc + 3) ls (rest))) : W p l e R s m args below meth c H locs cells slots Q (F0 m pc ls st0) :=
  mm_cv (va_runV hC.1 hMet ⟨mm_cb hC hcode hini hd hlink hrm hR, hC.1.2.2.2.2 _ hinst, hC.1.2.2.2.2 _ hsel⟩ (mm_ev hC hM he hc) rfl hn hsize hst (lv_room hW) hdg hf) hC hM kk
theorem mm_Vd {post : UInt64 → va_W → Prop} (hC : mm_C G A p s m c cc nL args own) (hM : mm_S G A s.heap w H locs) (hMet : Met l y (Cond.code y bytes maxL ret :: gAll) rm (va_Pc (.ref b :: As) (mm_Pre G w H.size)) (mm_Qd G w H.size post) mc ms (va_A w H.size)) (hcode : Cond.code y bytes maxL ret ∈ gAll) (hini : Cond.initialized y.cls ∈ gAll) (hd : mm_yk y n) (hlink : Cond.methodLink own index y ∈ gAll) (hinst : Cond.instanceMethod y ∈ gAll) (hsel : Cond.selects C y y ∈ gAll) (he : (b, .inr (ci, fs)) ∈ w) (hc : vwCl[ci]? = some (C, T, N)) (hrm : rm.cells = mc ∧ rm.slots = ms) (hR : rm.frames + 1 ≤ R.frames ∧ 8 + (maxL + 11) + rm.locals ≤ R.locals) (hn : As.length = n) (hsize : ls.size = nL) (hst : st0 = As.reverse ++ .ref b :: rest) (hW : (rest.map fun v => v.category).sum ≤ 8) (hdg : decode cc pc = .ok (.invokevirtual index, 3)) (hf : cells + mc ≤ R.cells ∧ slots + ms ≤ R.slots)
    (kk : ∀ (r : UInt64) (w' : va_W) (H1 : Heap) (locs1 : List Loc), mm_S G A s.heap w' H1 locs1 → post r w' → W p l e R s m args below meth c H1 locs1 (cells + mc) (slots + ms) Q (F0 m (pc + 3) ls (.double r :: rest))) : W p l e R s m args below meth c H locs cells slots Q (F0 m pc ls st0) :=
  mm_cd (va_runV hC.1 hMet ⟨mm_cb hC hcode hini hd hlink hrm hR, hC.1.2.2.2.2 _ hinst, hC.1.2.2.2.2 _ hsel⟩ (mm_ev hC hM he hc) rfl hn hsize hst (lv_room hW) hdg hf) hC hM kk
theorem mm_Vf {post : UInt32 → va_W → Prop} (hC : mm_C G A p s m c cc nL args own) (hM : mm_S G A s.heap w H locs) (hMet : Met l y (Cond.code y bytes maxL ret :: gAll) rm (va_Pc (.ref b :: As) (mm_Pre G w H.size)) (mm_Qf G w H.size post) mc ms (va_A w H.size)) (hcode : Cond.code y bytes maxL ret ∈ gAll) (hini : Cond.initialized y.cls ∈ gAll) (hd : mm_yk y n) (hlink : Cond.methodLink own index y ∈ gAll) (hinst : Cond.instanceMethod y ∈ gAll) (hsel : Cond.selects C y y ∈ gAll) (he : (b, .inr (ci, fs)) ∈ w) (hc : vwCl[ci]? = some (C, T, N)) (hrm : rm.cells = mc ∧ rm.slots = ms) (hR : rm.frames + 1 ≤ R.frames ∧ 8 + (maxL + 11) + rm.locals ≤ R.locals) (hn : As.length = n) (hsize : ls.size = nL) (hst : st0 = As.reverse ++ .ref b :: rest) (hW : (rest.map fun v => v.category).sum ≤ 8) (hdg : decode cc pc = .ok (.invokevirtual index, 3)) (hf : cells + mc ≤ R.cells ∧ slots + ms ≤ R.slots)
    (kk : ∀ (r : UInt32) (w' : va_W) (H1 : Heap) (locs1 : List Loc), mm_S G A s.heap w' H1 locs1 → post r w' → W p l e R s m args below meth c H1 locs1 (cells + mc) (slots + ms) Q (F0 m (pc + 3) ls (.float r :: rest))) : W p l e R s m args below meth c H locs cells slots Q (F0 m pc ls st0) :=
  mm_cf (va_runV hC.1 hMet ⟨mm_cb hC hcode hini hd hlink hrm hR, hC.1.2.2.2.2 _ hinst, hC.1.2.2.2.2 _ hsel⟩ (mm_ev hC hM he hc) rfl hn hsize hst (lv_room hW) hdg hf) hC hM kk
theorem mm_Si {post : Int32 → va_W → Prop} (hC : mm_C G A p s m c cc nL args own) (hM : mm_S G A s.heap w H locs) (hMet : Met l y (Cond.code y bytes maxL ret :: gAll) rm (va_Pc As (mm_Pre G w H.size)) (mm_Qi G w H.size post) mc ms (va_A w H.size)) (hcode : Cond.code y bytes maxL ret ∈ gAll) (hini : Cond.initialized y.cls ∈ gAll) (hd : mm_yk y n) (hlink : Cond.methodLink own index y ∈ gAll) (hstat : Cond.static y ∈ gAll) (hrm : rm.cells = mc ∧ rm.slots = ms) (hR : rm.frames + 1 ≤ R.frames ∧ 8 + (maxL + 11) + rm.locals ≤ R.locals) (hn : As.length = n) (hsize : ls.size = nL) (hst : st0 = As.reverse ++ rest) (hW : (rest.map fun v => v.category).sum ≤ 8) (hdg : decode cc pc = .ok (.invokestatic index, 3)) (hf : cells + mc ≤ R.cells ∧ slots + ms ≤ R.slots)
    (kk : ∀ (r : Int32) (w' : va_W) (H1 : Heap) (locs1 : List Loc), mm_S G A s.heap w' H1 locs1 → post r w' → W p l e R s m args below meth c H1 locs1 (cells + mc) (slots + ms) Q (F0 m (pc + 3) ls (.int r :: rest))) : W p l e R s m args below meth c H locs cells slots Q (F0 m pc ls st0) :=
  mm_ci (va_runS hC.1 hMet ⟨mm_cb hC hcode hini hd hlink hrm hR, hC.1.2.2.2.2 _ hstat⟩ (mm_es hC hM) rfl hn hsize hst (lv_room hW) hdg hf) hC hM kk
theorem mm_Sv {post : va_W → Prop} (hC : mm_C G A p s m c cc nL args own) (hM : mm_S G A s.heap w H locs) (hMet : Met l y (Cond.code y bytes maxL ret :: gAll) rm (va_Pc As (mm_Pre G w H.size)) (mm_Qv G w H.size post) mc ms (va_A w H.size)) (hcode : Cond.code y bytes maxL ret ∈ gAll) (hini : Cond.initialized y.cls ∈ gAll) (hd : mm_yk y n) (hlink : Cond.methodLink own index y ∈ gAll) (hstat : Cond.static y ∈ gAll) (hrm : rm.cells = mc ∧ rm.slots = ms) (hR : rm.frames + 1 ≤ R.frames ∧ 8 + (maxL + 11) + rm.locals ≤ R.locals) (hn : As.length = n) (hsize : ls.size = nL) (hst : st0 = As.reverse ++ rest) (hW : (rest.map fun v => v.category).sum ≤ 8) (hdg : decode cc pc = .ok (.invokestatic index, 3)) (hf : cells + mc ≤ R.cells ∧ slots + ms ≤ R.slots)
    (kk : ∀ (w' : va_W) (H1 : Heap) (locs1 : List Loc), mm_S G A s.heap w' H1 locs1 → post w' → W p l e R s m args below meth c H1 locs1 (cells + mc) (slots + ms) Q (F0 m (pc + 3) ls (rest))) : W p l e R s m args below meth c H locs cells slots Q (F0 m pc ls st0) :=
  mm_cv (va_runS hC.1 hMet ⟨mm_cb hC hcode hini hd hlink hrm hR, hC.1.2.2.2.2 _ hstat⟩ (mm_es hC hM) rfl hn hsize hst (lv_room hW) hdg hf) hC hM kk
theorem mm_VNi {post : Int32 → va_W → Prop} (hC : mm_C G A p s m c cc nL args own) (hM : mm_S G A s.heap w H locs) (hMet : Met l y (Cond.code y bytes maxL ret :: gAll) rm (va_Pc (.ref b :: As) (mm_Pre G w H.size)) (mm_Qi G w H.size post) mc ms (va_A w H.size)) (hcode : Cond.code y bytes maxL ret ∈ gAll) (hini : Cond.initialized y.cls ∈ gAll) (hd : mm_yk y n) (hlink : Cond.methodLinkNest own index y host ∈ mm_nw) (hinst : Cond.instanceMethod y ∈ gAll) (hsel : Cond.selects C y y ∈ gAll) (he : (b, .inr (ci, fs)) ∈ w) (hc : vwCl[ci]? = some (C, T, N)) (hrm : rm.cells = mc ∧ rm.slots = ms) (hR : rm.frames + 1 ≤ R.frames ∧ 8 + (maxL + 11) + rm.locals ≤ R.locals) (hn : As.length = n) (hsize : ls.size = nL) (hst : st0 = As.reverse ++ .ref b :: rest) (hW : (rest.map fun v => v.category).sum ≤ 8) (hdg : decode cc pc = .ok (.invokevirtual index, 3)) (hf : cells + mc ≤ R.cells ∧ slots + ms ≤ R.slots)
    (kk : ∀ (r : Int32) (w' : va_W) (H1 : Heap) (locs1 : List Loc), mm_S G A s.heap w' H1 locs1 → post r w' → W p l e R s m args below meth c H1 locs1 (cells + mc) (slots + ms) Q (F0 m (pc + 3) ls (.int r :: rest))) : W p l e R s m args below meth c H locs cells slots Q (F0 m pc ls st0) :=
  mm_ci (va_runVN hC.1 hMet ⟨mm_cn hC hcode hini hd hlink hrm hR, hC.1.2.2.2.2 _ hinst, hC.1.2.2.2.2 _ hsel⟩ (mm_ev hC hM he hc) rfl hn hsize hst (lv_room hW) hdg hf) hC hM kk
theorem mm_VNv {post : va_W → Prop} (hC : mm_C G A p s m c cc nL args own) (hM : mm_S G A s.heap w H locs) (hMet : Met l y (Cond.code y bytes maxL ret :: gAll) rm (va_Pc (.ref b :: As) (mm_Pre G w H.size)) (mm_Qv G w H.size post) mc ms (va_A w H.size)) (hcode : Cond.code y bytes maxL ret ∈ gAll) (hini : Cond.initialized y.cls ∈ gAll) (hd : mm_yk y n) (hlink : Cond.methodLinkNest own index y host ∈ mm_nw) (hinst : Cond.instanceMethod y ∈ gAll) (hsel : Cond.selects C y y ∈ gAll) (he : (b, .inr (ci, fs)) ∈ w) (hc : vwCl[ci]? = some (C, T, N)) (hrm : rm.cells = mc ∧ rm.slots = ms) (hR : rm.frames + 1 ≤ R.frames ∧ 8 + (maxL + 11) + rm.locals ≤ R.locals) (hn : As.length = n) (hsize : ls.size = nL) (hst : st0 = As.reverse ++ .ref b :: rest) (hW : (rest.map fun v => v.category).sum ≤ 8) (hdg : decode cc pc = .ok (.invokevirtual index, 3)) (hf : cells + mc ≤ R.cells ∧ slots + ms ≤ R.slots)
    (kk : ∀ (w' : va_W) (H1 : Heap) (locs1 : List Loc), mm_S G A s.heap w' H1 locs1 → post w' → W p l e R s m args below meth c H1 locs1 (cells + mc) (slots + ms) Q (F0 m (pc + 3) ls (rest))) : W p l e R s m args below meth c H locs cells slots Q (F0 m pc ls st0) :=
  mm_cv (va_runVN hC.1 hMet ⟨mm_cn hC hcode hini hd hlink hrm hR, hC.1.2.2.2.2 _ hinst, hC.1.2.2.2.2 _ hsel⟩ (mm_ev hC hM he hc) rfl hn hsize hst (lv_room hW) hdg hf) hC hM kk
theorem mm_SNi {post : Int32 → va_W → Prop} (hC : mm_C G A p s m c cc nL args own) (hM : mm_S G A s.heap w H locs) (hMet : Met l y (Cond.code y bytes maxL ret :: gAll) rm (va_Pc As (mm_Pre G w H.size)) (mm_Qi G w H.size post) mc ms (va_A w H.size)) (hcode : Cond.code y bytes maxL ret ∈ gAll) (hini : Cond.initialized y.cls ∈ gAll) (hd : mm_yk y n) (hlink : Cond.methodLinkNest own index y host ∈ mm_nw) (hstat : Cond.static y ∈ gAll) (hrm : rm.cells = mc ∧ rm.slots = ms) (hR : rm.frames + 1 ≤ R.frames ∧ 8 + (maxL + 11) + rm.locals ≤ R.locals) (hn : As.length = n) (hsize : ls.size = nL) (hst : st0 = As.reverse ++ rest) (hW : (rest.map fun v => v.category).sum ≤ 8) (hdg : decode cc pc = .ok (.invokestatic index, 3)) (hf : cells + mc ≤ R.cells ∧ slots + ms ≤ R.slots)
    (kk : ∀ (r : Int32) (w' : va_W) (H1 : Heap) (locs1 : List Loc), mm_S G A s.heap w' H1 locs1 → post r w' → W p l e R s m args below meth c H1 locs1 (cells + mc) (slots + ms) Q (F0 m (pc + 3) ls (.int r :: rest))) : W p l e R s m args below meth c H locs cells slots Q (F0 m pc ls st0) :=
  mm_ci (va_runSN hC.1 hMet ⟨mm_cn hC hcode hini hd hlink hrm hR, hC.1.2.2.2.2 _ hstat, trivial⟩ (mm_es hC hM) rfl hn hsize hst (lv_room hW) hdg hf) hC hM kk
theorem mm_SNv {post : va_W → Prop} (hC : mm_C G A p s m c cc nL args own) (hM : mm_S G A s.heap w H locs) (hMet : Met l y (Cond.code y bytes maxL ret :: gAll) rm (va_Pc As (mm_Pre G w H.size)) (mm_Qv G w H.size post) mc ms (va_A w H.size)) (hcode : Cond.code y bytes maxL ret ∈ gAll) (hini : Cond.initialized y.cls ∈ gAll) (hd : mm_yk y n) (hlink : Cond.methodLinkNest own index y host ∈ mm_nw) (hstat : Cond.static y ∈ gAll) (hrm : rm.cells = mc ∧ rm.slots = ms) (hR : rm.frames + 1 ≤ R.frames ∧ 8 + (maxL + 11) + rm.locals ≤ R.locals) (hn : As.length = n) (hsize : ls.size = nL) (hst : st0 = As.reverse ++ rest) (hW : (rest.map fun v => v.category).sum ≤ 8) (hdg : decode cc pc = .ok (.invokestatic index, 3)) (hf : cells + mc ≤ R.cells ∧ slots + ms ≤ R.slots)
    (kk : ∀ (w' : va_W) (H1 : Heap) (locs1 : List Loc), mm_S G A s.heap w' H1 locs1 → post w' → W p l e R s m args below meth c H1 locs1 (cells + mc) (slots + ms) Q (F0 m (pc + 3) ls (rest))) : W p l e R s m args below meth c H locs cells slots Q (F0 m pc ls st0) :=
  mm_cv (va_runSN hC.1 hMet ⟨mm_cn hC hcode hini hd hlink hrm hR, hC.1.2.2.2.2 _ hstat, trivial⟩ (mm_es hC hM) rfl hn hsize hst (lv_room hW) hdg hf) hC hM kk
theorem mm_Iv {post : va_W → Prop} (hC : mm_C G A p s m c cc nL args own) (hM : mm_S G A s.heap w H locs) (hMet : Met l y (Cond.code y bytes maxL none :: gAll) rm (va_Pc (.ref b :: As) (mm_Pre G w H.size)) (mm_Qv G w H.size post) mc ms (va_A w H.size)) (hcode : Cond.code y bytes maxL none ∈ gAll) (hini : Cond.initialized y.cls ∈ gAll) (hd : mm_yk y n) (hlink : Cond.methodLink own index y ∈ gAll) (hinst : Cond.instanceMethod y ∈ gAll) (hy1 : y.name = "<init>") (hrm : rm.cells = mc ∧ rm.slots = ms) (hR : rm.frames + 1 ≤ R.frames ∧ 8 + (maxL + 11) + rm.locals ≤ R.locals) (hn : As.length = n) (hsize : ls.size = nL) (hst : st0 = As.reverse ++ .ref b :: rest) (hW : (rest.map fun v => v.category).sum ≤ 8) (hdg : decode cc pc = .ok (.invokespecial index, 3)) (hf : cells + mc ≤ R.cells ∧ slots + ms ≤ R.slots)
    (kk : ∀ (w' : va_W) (H1 : Heap) (locs1 : List Loc), mm_S G A s.heap w' H1 locs1 → post w' → W p l e R s m args below meth c H1 locs1 (cells + mc) (slots + ms) Q (F0 m (pc + 3) ls (rest))) : W p l e R s m args below meth c H locs cells slots Q (F0 m pc ls st0) :=
  mm_cv (va_runI hC.1 hMet ⟨mm_cb hC hcode hini hd hlink hrm hR, hy1, hC.1.2.2.2.2 _ hinst⟩ (mm_es hC hM) rfl hn hsize hst (lv_room hW) hdg hf) hC hM kk
theorem mm_INv {post : va_W → Prop} (hC : mm_C G A p s m c cc nL args own) (hM : mm_S G A s.heap w H locs) (hMet : Met l y (Cond.code y bytes maxL none :: gAll) rm (va_Pc (.ref b :: As) (mm_Pre G w H.size)) (mm_Qv G w H.size post) mc ms (va_A w H.size)) (hcode : Cond.code y bytes maxL none ∈ gAll) (hini : Cond.initialized y.cls ∈ gAll) (hd : mm_yk y n) (hlink : Cond.methodLinkNest own index y host ∈ mm_nw) (hinst : Cond.instanceMethod y ∈ gAll) (hy1 : y.name = "<init>") (hrm : rm.cells = mc ∧ rm.slots = ms) (hR : rm.frames + 1 ≤ R.frames ∧ 8 + (maxL + 11) + rm.locals ≤ R.locals) (hn : As.length = n) (hsize : ls.size = nL) (hst : st0 = As.reverse ++ .ref b :: rest) (hW : (rest.map fun v => v.category).sum ≤ 8) (hdg : decode cc pc = .ok (.invokespecial index, 3)) (hf : cells + mc ≤ R.cells ∧ slots + ms ≤ R.slots)
    (kk : ∀ (w' : va_W) (H1 : Heap) (locs1 : List Loc), mm_S G A s.heap w' H1 locs1 → post w' → W p l e R s m args below meth c H1 locs1 (cells + mc) (slots + ms) Q (F0 m (pc + 3) ls (rest))) : W p l e R s m args below meth c H locs cells slots Q (F0 m pc ls st0) :=
  mm_cv (va_runIN hC.1 hMet ⟨mm_cn hC hcode hini hd hlink hrm hR, hy1, hC.1.2.2.2.2 _ hinst⟩ (mm_es hC hM) rfl hn hsize hst (lv_room hW) hdg hf) hC hM kk
end MMK

/-- a method's head: what returns is told by hret -/
theorem mm_headI {y : MethodName} {rm : Room} {mc ms maxL sz : Nat} {ty : FieldType} {post : Int32 → va_W → Prop} (vs : List Value) (hy : plainName y.cls = true) (hyc : y.cls = own) (hlen : (lg_sl vs).length ≤ maxL)
    (body : ∀ (p : Program) (e : Env) (s : State) (m : MethodId) (args : Array Value) (below : List Frame) (meth : Method) (c : Code) (A : Nat → Prop) (Q : State → Prop), s.heap.size = sz → mm_C G A p s m c cc maxL args own → mm_S G A s.heap w s.heap [] →
      (∀ {pc : Nat} {H : Heap} {locs : List Loc} {w' : va_W} {v : Int32} {ls : Array Slot}, mm_S G A s.heap w' H locs → decode cc pc = .ok (.ireturn, 1) → narrow ty (.int v) = .int v → post v w' → W p l e rm s m args below meth c H locs mc ms Q (F0 m pc ls [.int v])) →
      ∀ ls : Array Slot, lv_has ls maxL (lv_args 0 vs) → W p l e rm s m args below meth c s.heap [] 0 0 Q (F0 m 0 ls [])) : Met l y (Cond.code y cc maxL (some ty) :: gAll) rm (va_Pc vs (mm_Pre G w sz)) (mm_Qi G w sz post) mc ms (va_A w sz) :=
  mm_head vs hy hyc hlen (fun p e s m below meth c hsz hC hM hr hlocks _ ls hl => body p e s m _ below meth c _ _ hsz hC hM (fun hM hd hn hp => mm_iret hC hM hr hlocks hd hn hp) ls hl)
theorem mm_headV {y : MethodName} {rm : Room} {mc ms maxL sz : Nat} {post : va_W → Prop} (vs : List Value) (hy : plainName y.cls = true) (hyc : y.cls = own) (hlen : (lg_sl vs).length ≤ maxL)
    (body : ∀ (p : Program) (e : Env) (s : State) (m : MethodId) (args : Array Value) (below : List Frame) (meth : Method) (c : Code) (A : Nat → Prop) (Q : State → Prop), s.heap.size = sz → mm_C G A p s m c cc maxL args own → mm_S G A s.heap w s.heap [] →
      (∀ {pc : Nat} {H : Heap} {locs : List Loc} {w' : va_W} {ls : Array Slot}, mm_S G A s.heap w' H locs → decode cc pc = .ok (.return_, 1) → post w' → W p l e rm s m args below meth c H locs mc ms Q (F0 m pc ls [])) → meth.name = y.name →
      ∀ ls : Array Slot, lv_has ls maxL (lv_args 0 vs) → W p l e rm s m args below meth c s.heap [] 0 0 Q (F0 m 0 ls [])) : Met l y (Cond.code y cc maxL none :: gAll) rm (va_Pc vs (mm_Pre G w sz)) (mm_Qv G w sz post) mc ms (va_A w sz) :=
  mm_head vs hy hyc hlen (fun p e s m below meth c hsz hC hM hr hlocks hnm ls hl => body p e s m _ below meth c _ _ hsz hC hM (fun hM hd hp => mm_vret hC hM hr hlocks hd hp) hnm ls hl)
end MMR
theorem mm_narZ {x : Int32} (h : x = 0 ∨ x = 1) : narrow .boolean (.int x) = .int x := by rcases h with h | h <;> subst h <;> rfl
theorem mm_narC {x : Int32} (h : vp_nar .char x = x) : narrow .char (.int x) = .int x := by rw [show narrow .char (.int x) = .int (vp_nar .char x) from rfl, h]
theorem mm_fitZ {x : Int32} (h : x = 0 ∨ x = 1) : fits .boolean (.int x) = true := by rcases h with h | h <;> subst h <;> rfl
theorem mm_narC2 (x : Int32) : narrow .char (.int (x.toUInt32 % 65536).toInt32) = .int (x.toUInt32 % 65536).toInt32 := pk_nc x
/-- the pure side: a test, and what comes behind it -/
def mm_ck (i : Int32) (n : Nat) : Bool := decide (¬ (i < 0 ∨ n ≤ i.toNatClampNeg))
def mm_g {α : Type} (b : Bool) (x : Option α) : Option α := if b = true then x else none
theorem mm_gd {α : Type} {i : Int32} {n : Nat} {x : Option α} {r : α} (h : mm_g (mm_ck i n) x = some r) : vp_in i n ∧ x = some r := by
  unfold mm_g mm_ck at h
  split at h
  · rename_i h1
    have h2 : ¬ (i < 0 ∨ n ≤ i.toNatClampNeg) := of_decide_eq_true h1
    exact ⟨h2, h⟩
  · cases h
theorem mm_gn {α : Type} {y : Int32} {x : Option α} {r : α} (h : mm_g (decide (¬ y = 0)) x = some r) : ¬ y = 0 ∧ x = some r := by
  unfold mm_g at h
  split at h
  · rename_i h1
    exact ⟨of_decide_eq_true h1, h⟩
  · cases h
theorem mm_gb {α : Type} {b : Bool} {x : Option α} {r : α} (h : mm_g b x = some r) : b = true ∧ x = some r := by
  unfold mm_g at h
  split at h
  · rename_i h1
    exact ⟨h1, h⟩
  · cases h
def mm_cp (sp dp n : Int32) (n0 n1 : Nat) : Bool := decide (¬ sp < 0 ∧ ¬ dp < 0 ∧ ¬ n < 0 ∧ sp.toNatClampNeg + n.toNatClampNeg ≤ n0 ∧ dp.toNatClampNeg + n.toNatClampNeg ≤ n1)
theorem mm_gcp {α : Type} {sp dp n : Int32} {n0 n1 : Nat} {x : Option α} {r : α} (h : mm_g (mm_cp sp dp n n0 n1) x = some r) : (¬ sp < 0 ∧ ¬ dp < 0 ∧ ¬ n < 0 ∧ sp.toNatClampNeg + n.toNatClampNeg ≤ n0 ∧ dp.toNatClampNeg + n.toNatClampNeg ≤ n1) ∧ x = some r := by
  obtain ⟨h1, h2⟩ := mm_gb h
  exact ⟨of_decide_eq_true h1, h2⟩
theorem mm_bd {α β : Type} {x : Option α} {f : α → Option β} {r : β} (h : x.bind f = some r) : ∃ a, x = some a ∧ f a = some r := by
  cases x with
  | none => cases h
  | some a => exact ⟨a, rfl, h⟩
