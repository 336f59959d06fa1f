/-! the law's start: what the Statement gives of the statics, in our words -/
def mm_NF : List Cond := flatC (Cond.and given_1 narrow_1)
section MST
variable {args : Array Value} {s : State} {A : Nat → Prop}
theorem st_T (hs : ∀ w ∈ mm_NF, w.before args s = true) (hA : ∀ a : Nat, a < s.heap.size → ¬ A a) {C n d : String} {ty : FieldType} {N : Nat} {f : Nat → Int32} (hN : N < 2 ^ 31) (h1 : Cond.arrayOf (.static C n d) ty ∈ mm_NF) (h2 : Cond.eq (.length (.static C n d)) (.int (Int32.ofNat N)) ∈ mm_NF) (h3 : ∀ j : Nat, j < N → Cond.eq (.elem (.static C n d) (.int (Int32.ofNat j))) (.int (f j)) ∈ mm_NF) (hl : (Cond.laysStatic C n d).before args s = true) (hi : (Cond.initialized C).before args s = true) :
    ∃ t : Nat, va_Z C n d (.ref t) A s s.heap ∧ va_T ty t N (fun k => .int (f k)) A s s.heap := by
  obtain ⟨t, h4, h5⟩ := va_Tof hN (hs _ h1) (va_eqv (hs _ h2) rfl) (fun j hj => va_eqv (hs _ (h3 j hj)) rfl) hA
  exact ⟨t, va_Zof hl hi h4 hA, h5⟩
theorem st_arr {ty : FieldType} (h : (Cond.arrayClass ty).before args s = true) : ∃ cA : Nat, ArrOfT s cA ty ∧ s.vm.findClass ("[" ++ ty.toString) = some cA := by
  obtain ⟨c, k, comp, h1, h2, h3⟩ := Cond.arrayClass_spec (args := args) (first := s) (o := none) (idx := []) h
  exact ⟨c, fun n z => ⟨fun k h => (by cases h), k, h2, comp, h3⟩, h1⟩
theorem st_arrO {C : String} (h : (Cond.arrayOver (.object C)).before args s = true) : ∃ cA : Nat, ArrOfT s cA (.object C) ∧ va_RA s cA (.object C) := by
  obtain ⟨comp, c, k, h1, h2, h3, h4, h5⟩ := Cond.arrayOver_spec (args := args) (first := s) (o := none) (idx := []) h
  exact ⟨c, fun n z => ⟨fun k h => (by cases h), k, h3, comp, h4⟩, k, comp, h3, h4, h1, h5⟩
end MST

theorem nf_sx1 : Cond.arrayOf (Term.static "MirrorFerry" "STEP_X" "[I") .int ∈ mm_NF := by decide +kernel
theorem nf_sx2 : Cond.eq (.length (Term.static "MirrorFerry" "STEP_X" "[I")) (.int (Int32.ofNat 4)) ∈ mm_NF := by decide +kernel
theorem nf_sx3 : ∀ j : Nat, j < 4 → Cond.eq (.elem (Term.static "MirrorFerry" "STEP_X" "[I") (.int (Int32.ofNat j))) (.int (mm_tX j)) ∈ mm_NF := by decide +kernel
theorem nf_sy1 : Cond.arrayOf (Term.static "MirrorFerry" "STEP_Y" "[I") .int ∈ mm_NF := by decide +kernel
theorem nf_sy2 : Cond.eq (.length (Term.static "MirrorFerry" "STEP_Y" "[I")) (.int (Int32.ofNat 4)) ∈ mm_NF := by decide +kernel
theorem nf_sy3 : ∀ j : Nat, j < 4 → Cond.eq (.elem (Term.static "MirrorFerry" "STEP_Y" "[I") (.int (Int32.ofNat j))) (.int (mm_tY j)) ∈ mm_NF := by decide +kernel
theorem nf_le1 : Cond.arrayOf (Term.static "MirrorFerry" "LETTERS" "[C") .char ∈ mm_NF := by decide +kernel
theorem nf_le2 : Cond.eq (.length (Term.static "MirrorFerry" "LETTERS" "[C")) (.int (Int32.ofNat 4)) ∈ mm_NF := by decide +kernel
theorem nf_le3 : ∀ j : Nat, j < 4 → Cond.eq (.elem (Term.static "MirrorFerry" "LETTERS" "[C") (.int (Int32.ofNat j))) (.int (mm_tL j)) ∈ mm_NF := by decide +kernel
theorem nf_sw1 : Cond.arrayOf (Term.static "MirrorFerry$1" "$SwitchMap$MirrorFerry$Command" "[I") .int ∈ mm_NF := by decide +kernel
theorem nf_sw2 : Cond.eq (.length (Term.static "MirrorFerry$1" "$SwitchMap$MirrorFerry$Command" "[I")) (.int (Int32.ofNat 11)) ∈ mm_NF := by decide +kernel
theorem nf_sw3 : ∀ j : Nat, j < 11 → Cond.eq (.elem (Term.static "MirrorFerry$1" "$SwitchMap$MirrorFerry$Command" "[I") (.int (Int32.ofNat j))) (.int (mm_tS j)) ∈ mm_NF := by decide +kernel
theorem nf_co1 : Cond.arrayOf (Term.static "MirrorFerry" "COMMANDS" "[LMirrorFerry$Command;") (.object "MirrorFerry$Command") ∈ mm_NF := by decide +kernel
theorem nf_co2 : Cond.eq (.length (Term.static "MirrorFerry" "COMMANDS" "[LMirrorFerry$Command;")) (.int (Int32.ofNat 11)) ∈ mm_NF := by decide +kernel
theorem nf_co3 : ∀ j : Nat, j < 11 → Cond.eq (.elem (Term.static "MirrorFerry" "COMMANDS" "[LMirrorFerry$Command;") (.int (Int32.ofNat j))) (Term.static "MirrorFerry$Command" (mm_cmdN.getD j "") "LMirrorFerry$Command;") ∈ mm_NF := by decide +kernel
theorem nf_en1 : ∀ i : Nat, i < 11 → Cond.exactly (Term.static "MirrorFerry$Command" (mm_cmdN.getD i "") "LMirrorFerry$Command;") "MirrorFerry$Command" ∈ mm_NF := by decide +kernel
theorem nf_en2 : ∀ i : Nat, i < 11 → Cond.eq (.field (Term.static "MirrorFerry$Command" (mm_cmdN.getD i "") "LMirrorFerry$Command;") "java/lang/Enum" "ordinal" "I") (.int (([0, 1, 2, 3, 4, 5, 6, 7, 8, 9, 10] : List Int32).getD i 0)) ∈ mm_NF := by decide +kernel
def mm_tm (i : Nat) : Term := Term.string "MirrorFerry$Command" ([84, 90, 93, 96, 99, 102, 105, 108, 111, 114, 117].getD i 0)
theorem nf_ef : ∀ i : Nat, i < 11 → Cond.eq (.field (Term.static "MirrorFerry$Command" (mm_cmdN.getD i "") "LMirrorFerry$Command;") "MirrorFerry$Command" "pattern" "Ljava/lang/String;") (mm_tm i) ∈ mm_NF := by decide +kernel
theorem nf_s1 : ∀ i : Nat, i < 11 → Cond.exactly (mm_tm i) "java/lang/String" ∈ mm_NF := by decide +kernel
theorem nf_s2 : ∀ i : Nat, i < 11 → Cond.eq (.field (mm_tm i) "java/lang/String" "coder" "B") (.int 0) ∈ mm_NF := by decide +kernel
theorem nf_s3 : ∀ i : Nat, i < 11 → Cond.arrayOf (.field (mm_tm i) "java/lang/String" "value" "[B") .byte ∈ mm_NF := by decide +kernel
theorem nf_s4 : ∀ i : Nat, i < 11 → Cond.eq (.length (.field (mm_tm i) "java/lang/String" "value" "[B")) (.int (Int32.ofNat (mm_len.getD i 0))) ∈ mm_NF := by decide +kernel
theorem nf_s5 : ∀ i : Nat, i < 11 → ∀ j : Nat, j < mm_len.getD i 0 → Cond.eq (.elem (.field (mm_tm i) "java/lang/String" "value" "[B") (.int (Int32.ofNat j))) (.int ((mm_byt.getD i []).getD j 0)) ∈ mm_NF := by decide +kernel
theorem nf_cs : Cond.eq (.static "java/lang/String" "COMPACT_STRINGS" "Z") (.int 1) ∈ mm_NF := by decide +kernel
theorem nf_si : Cond.isRef (.static "jdk/internal/util/Preconditions" "SIOOBE_FORMATTER" "Ljava/util/function/BiFunction;") ∈ mm_NF := by decide +kernel
theorem nf_un : Cond.isRef (.static Bundle.tN "UNASSIGNED_STACK" Bundle.steD) ∈ mm_NF := by decide +kernel
theorem nf_su : Cond.isRef (.static Bundle.tN "SUPPRESSED_SENTINEL" Bundle.listD) ∈ mm_NF := by decide +kernel
theorem nn_en_0_1 : Cond.not (.eq (Term.static "MirrorFerry$Command" (mm_cmdN.getD 0 "") "LMirrorFerry$Command;") (Term.static "MirrorFerry$Command" (mm_cmdN.getD 1 "") "LMirrorFerry$Command;")) ∈ mm_NF := List.mem_of_getElem? (i := 73) (by decide +kernel)
theorem nn_en_0_2 : Cond.not (.eq (Term.static "MirrorFerry$Command" (mm_cmdN.getD 0 "") "LMirrorFerry$Command;") (Term.static "MirrorFerry$Command" (mm_cmdN.getD 2 "") "LMirrorFerry$Command;")) ∈ mm_NF := List.mem_of_getElem? (i := 78) (by decide +kernel)
theorem nn_en_0_4 : Cond.not (.eq (Term.static "MirrorFerry$Command" (mm_cmdN.getD 0 "") "LMirrorFerry$Command;") (Term.static "MirrorFerry$Command" (mm_cmdN.getD 4 "") "LMirrorFerry$Command;")) ∈ mm_NF := List.mem_of_getElem? (i := 84) (by decide +kernel)
theorem nn_en_0_5 : Cond.not (.eq (Term.static "MirrorFerry$Command" (mm_cmdN.getD 0 "") "LMirrorFerry$Command;") (Term.static "MirrorFerry$Command" (mm_cmdN.getD 5 "") "LMirrorFerry$Command;")) ∈ mm_NF := List.mem_of_getElem? (i := 91) (by decide +kernel)
theorem nn_en_0_6 : Cond.not (.eq (Term.static "MirrorFerry$Command" (mm_cmdN.getD 0 "") "LMirrorFerry$Command;") (Term.static "MirrorFerry$Command" (mm_cmdN.getD 6 "") "LMirrorFerry$Command;")) ∈ mm_NF := List.mem_of_getElem? (i := 99) (by decide +kernel)
theorem nn_en_0_7 : Cond.not (.eq (Term.static "MirrorFerry$Command" (mm_cmdN.getD 0 "") "LMirrorFerry$Command;") (Term.static "MirrorFerry$Command" (mm_cmdN.getD 7 "") "LMirrorFerry$Command;")) ∈ mm_NF := List.mem_of_getElem? (i := 108) (by decide +kernel)
theorem nn_en_0_8 : Cond.not (.eq (Term.static "MirrorFerry$Command" (mm_cmdN.getD 0 "") "LMirrorFerry$Command;") (Term.static "MirrorFerry$Command" (mm_cmdN.getD 8 "") "LMirrorFerry$Command;")) ∈ mm_NF := List.mem_of_getElem? (i := 118) (by decide +kernel)
theorem nn_en_0_9 : Cond.not (.eq (Term.static "MirrorFerry$Command" (mm_cmdN.getD 0 "") "LMirrorFerry$Command;") (Term.static "MirrorFerry$Command" (mm_cmdN.getD 9 "") "LMirrorFerry$Command;")) ∈ mm_NF := List.mem_of_getElem? (i := 129) (by decide +kernel)
theorem nn_en_0_10 : Cond.not (.eq (Term.static "MirrorFerry$Command" (mm_cmdN.getD 0 "") "LMirrorFerry$Command;") (Term.static "MirrorFerry$Command" (mm_cmdN.getD 10 "") "LMirrorFerry$Command;")) ∈ mm_NF := List.mem_of_getElem? (i := 141) (by decide +kernel)
theorem nn_en_1_2 : Cond.not (.eq (Term.static "MirrorFerry$Command" (mm_cmdN.getD 1 "") "LMirrorFerry$Command;") (Term.static "MirrorFerry$Command" (mm_cmdN.getD 2 "") "LMirrorFerry$Command;")) ∈ mm_NF := List.mem_of_getElem? (i := 79) (by decide +kernel)
theorem nn_en_1_4 : Cond.not (.eq (Term.static "MirrorFerry$Command" (mm_cmdN.getD 1 "") "LMirrorFerry$Command;") (Term.static "MirrorFerry$Command" (mm_cmdN.getD 4 "") "LMirrorFerry$Command;")) ∈ mm_NF := List.mem_of_getElem? (i := 85) (by decide +kernel)
theorem nn_en_1_5 : Cond.not (.eq (Term.static "MirrorFerry$Command" (mm_cmdN.getD 1 "") "LMirrorFerry$Command;") (Term.static "MirrorFerry$Command" (mm_cmdN.getD 5 "") "LMirrorFerry$Command;")) ∈ mm_NF := List.mem_of_getElem? (i := 92) (by decide +kernel)
theorem nn_en_1_6 : Cond.not (.eq (Term.static "MirrorFerry$Command" (mm_cmdN.getD 1 "") "LMirrorFerry$Command;") (Term.static "MirrorFerry$Command" (mm_cmdN.getD 6 "") "LMirrorFerry$Command;")) ∈ mm_NF := List.mem_of_getElem? (i := 100) (by decide +kernel)
theorem nn_en_1_7 : Cond.not (.eq (Term.static "MirrorFerry$Command" (mm_cmdN.getD 1 "") "LMirrorFerry$Command;") (Term.static "MirrorFerry$Command" (mm_cmdN.getD 7 "") "LMirrorFerry$Command;")) ∈ mm_NF := List.mem_of_getElem? (i := 109) (by decide +kernel)
theorem nn_en_1_8 : Cond.not (.eq (Term.static "MirrorFerry$Command" (mm_cmdN.getD 1 "") "LMirrorFerry$Command;") (Term.static "MirrorFerry$Command" (mm_cmdN.getD 8 "") "LMirrorFerry$Command;")) ∈ mm_NF := List.mem_of_getElem? (i := 119) (by decide +kernel)
theorem nn_en_1_9 : Cond.not (.eq (Term.static "MirrorFerry$Command" (mm_cmdN.getD 1 "") "LMirrorFerry$Command;") (Term.static "MirrorFerry$Command" (mm_cmdN.getD 9 "") "LMirrorFerry$Command;")) ∈ mm_NF := List.mem_of_getElem? (i := 130) (by decide +kernel)
theorem nn_en_1_10 : Cond.not (.eq (Term.static "MirrorFerry$Command" (mm_cmdN.getD 1 "") "LMirrorFerry$Command;") (Term.static "MirrorFerry$Command" (mm_cmdN.getD 10 "") "LMirrorFerry$Command;")) ∈ mm_NF := List.mem_of_getElem? (i := 142) (by decide +kernel)
theorem nn_en_2_4 : Cond.not (.eq (Term.static "MirrorFerry$Command" (mm_cmdN.getD 2 "") "LMirrorFerry$Command;") (Term.static "MirrorFerry$Command" (mm_cmdN.getD 4 "") "LMirrorFerry$Command;")) ∈ mm_NF := List.mem_of_getElem? (i := 86) (by decide +kernel)
theorem nn_en_2_5 : Cond.not (.eq (Term.static "MirrorFerry$Command" (mm_cmdN.getD 2 "") "LMirrorFerry$Command;") (Term.static "MirrorFerry$Command" (mm_cmdN.getD 5 "") "LMirrorFerry$Command;")) ∈ mm_NF := List.mem_of_getElem? (i := 93) (by decide +kernel)
theorem nn_en_2_6 : Cond.not (.eq (Term.static "MirrorFerry$Command" (mm_cmdN.getD 2 "") "LMirrorFerry$Command;") (Term.static "MirrorFerry$Command" (mm_cmdN.getD 6 "") "LMirrorFerry$Command;")) ∈ mm_NF := List.mem_of_getElem? (i := 101) (by decide +kernel)
theorem nn_en_2_7 : Cond.not (.eq (Term.static "MirrorFerry$Command" (mm_cmdN.getD 2 "") "LMirrorFerry$Command;") (Term.static "MirrorFerry$Command" (mm_cmdN.getD 7 "") "LMirrorFerry$Command;")) ∈ mm_NF := List.mem_of_getElem? (i := 110) (by decide +kernel)
theorem nn_en_2_8 : Cond.not (.eq (Term.static "MirrorFerry$Command" (mm_cmdN.getD 2 "") "LMirrorFerry$Command;") (Term.static "MirrorFerry$Command" (mm_cmdN.getD 8 "") "LMirrorFerry$Command;")) ∈ mm_NF := List.mem_of_getElem? (i := 120) (by decide +kernel)
theorem nn_en_2_9 : Cond.not (.eq (Term.static "MirrorFerry$Command" (mm_cmdN.getD 2 "") "LMirrorFerry$Command;") (Term.static "MirrorFerry$Command" (mm_cmdN.getD 9 "") "LMirrorFerry$Command;")) ∈ mm_NF := List.mem_of_getElem? (i := 131) (by decide +kernel)
theorem nn_en_2_10 : Cond.not (.eq (Term.static "MirrorFerry$Command" (mm_cmdN.getD 2 "") "LMirrorFerry$Command;") (Term.static "MirrorFerry$Command" (mm_cmdN.getD 10 "") "LMirrorFerry$Command;")) ∈ mm_NF := List.mem_of_getElem? (i := 143) (by decide +kernel)
theorem nn_en_3_0 : Cond.not (.eq (Term.static "MirrorFerry$Command" (mm_cmdN.getD 3 "") "LMirrorFerry$Command;") (Term.static "MirrorFerry$Command" (mm_cmdN.getD 0 "") "LMirrorFerry$Command;")) ∈ mm_NF := List.mem_of_getElem? (i := 68) (by decide +kernel)
theorem nn_en_3_1 : Cond.not (.eq (Term.static "MirrorFerry$Command" (mm_cmdN.getD 3 "") "LMirrorFerry$Command;") (Term.static "MirrorFerry$Command" (mm_cmdN.getD 1 "") "LMirrorFerry$Command;")) ∈ mm_NF := List.mem_of_getElem? (i := 72) (by decide +kernel)
theorem nn_en_3_2 : Cond.not (.eq (Term.static "MirrorFerry$Command" (mm_cmdN.getD 3 "") "LMirrorFerry$Command;") (Term.static "MirrorFerry$Command" (mm_cmdN.getD 2 "") "LMirrorFerry$Command;")) ∈ mm_NF := List.mem_of_getElem? (i := 77) (by decide +kernel)
theorem nn_en_3_4 : Cond.not (.eq (Term.static "MirrorFerry$Command" (mm_cmdN.getD 3 "") "LMirrorFerry$Command;") (Term.static "MirrorFerry$Command" (mm_cmdN.getD 4 "") "LMirrorFerry$Command;")) ∈ mm_NF := List.mem_of_getElem? (i := 83) (by decide +kernel)
theorem nn_en_3_5 : Cond.not (.eq (Term.static "MirrorFerry$Command" (mm_cmdN.getD 3 "") "LMirrorFerry$Command;") (Term.static "MirrorFerry$Command" (mm_cmdN.getD 5 "") "LMirrorFerry$Command;")) ∈ mm_NF := List.mem_of_getElem? (i := 90) (by decide +kernel)
theorem nn_en_3_6 : Cond.not (.eq (Term.static "MirrorFerry$Command" (mm_cmdN.getD 3 "") "LMirrorFerry$Command;") (Term.static "MirrorFerry$Command" (mm_cmdN.getD 6 "") "LMirrorFerry$Command;")) ∈ mm_NF := List.mem_of_getElem? (i := 98) (by decide +kernel)
theorem nn_en_3_7 : Cond.not (.eq (Term.static "MirrorFerry$Command" (mm_cmdN.getD 3 "") "LMirrorFerry$Command;") (Term.static "MirrorFerry$Command" (mm_cmdN.getD 7 "") "LMirrorFerry$Command;")) ∈ mm_NF := List.mem_of_getElem? (i := 107) (by decide +kernel)
theorem nn_en_3_8 : Cond.not (.eq (Term.static "MirrorFerry$Command" (mm_cmdN.getD 3 "") "LMirrorFerry$Command;") (Term.static "MirrorFerry$Command" (mm_cmdN.getD 8 "") "LMirrorFerry$Command;")) ∈ mm_NF := List.mem_of_getElem? (i := 117) (by decide +kernel)
theorem nn_en_3_9 : Cond.not (.eq (Term.static "MirrorFerry$Command" (mm_cmdN.getD 3 "") "LMirrorFerry$Command;") (Term.static "MirrorFerry$Command" (mm_cmdN.getD 9 "") "LMirrorFerry$Command;")) ∈ mm_NF := List.mem_of_getElem? (i := 128) (by decide +kernel)
theorem nn_en_3_10 : Cond.not (.eq (Term.static "MirrorFerry$Command" (mm_cmdN.getD 3 "") "LMirrorFerry$Command;") (Term.static "MirrorFerry$Command" (mm_cmdN.getD 10 "") "LMirrorFerry$Command;")) ∈ mm_NF := List.mem_of_getElem? (i := 140) (by decide +kernel)
theorem nn_en_4_5 : Cond.not (.eq (Term.static "MirrorFerry$Command" (mm_cmdN.getD 4 "") "LMirrorFerry$Command;") (Term.static "MirrorFerry$Command" (mm_cmdN.getD 5 "") "LMirrorFerry$Command;")) ∈ mm_NF := List.mem_of_getElem? (i := 94) (by decide +kernel)
theorem nn_en_4_6 : Cond.not (.eq (Term.static "MirrorFerry$Command" (mm_cmdN.getD 4 "") "LMirrorFerry$Command;") (Term.static "MirrorFerry$Command" (mm_cmdN.getD 6 "") "LMirrorFerry$Command;")) ∈ mm_NF := List.mem_of_getElem? (i := 102) (by decide +kernel)
theorem nn_en_4_7 : Cond.not (.eq (Term.static "MirrorFerry$Command" (mm_cmdN.getD 4 "") "LMirrorFerry$Command;") (Term.static "MirrorFerry$Command" (mm_cmdN.getD 7 "") "LMirrorFerry$Command;")) ∈ mm_NF := List.mem_of_getElem? (i := 111) (by decide +kernel)
theorem nn_en_4_8 : Cond.not (.eq (Term.static "MirrorFerry$Command" (mm_cmdN.getD 4 "") "LMirrorFerry$Command;") (Term.static "MirrorFerry$Command" (mm_cmdN.getD 8 "") "LMirrorFerry$Command;")) ∈ mm_NF := List.mem_of_getElem? (i := 121) (by decide +kernel)
theorem nn_en_4_9 : Cond.not (.eq (Term.static "MirrorFerry$Command" (mm_cmdN.getD 4 "") "LMirrorFerry$Command;") (Term.static "MirrorFerry$Command" (mm_cmdN.getD 9 "") "LMirrorFerry$Command;")) ∈ mm_NF := List.mem_of_getElem? (i := 132) (by decide +kernel)
theorem nn_en_4_10 : Cond.not (.eq (Term.static "MirrorFerry$Command" (mm_cmdN.getD 4 "") "LMirrorFerry$Command;") (Term.static "MirrorFerry$Command" (mm_cmdN.getD 10 "") "LMirrorFerry$Command;")) ∈ mm_NF := List.mem_of_getElem? (i := 144) (by decide +kernel)
theorem nn_en_5_6 : Cond.not (.eq (Term.static "MirrorFerry$Command" (mm_cmdN.getD 5 "") "LMirrorFerry$Command;") (Term.static "MirrorFerry$Command" (mm_cmdN.getD 6 "") "LMirrorFerry$Command;")) ∈ mm_NF := List.mem_of_getElem? (i := 103) (by decide +kernel)
theorem nn_en_5_7 : Cond.not (.eq (Term.static "MirrorFerry$Command" (mm_cmdN.getD 5 "") "LMirrorFerry$Command;") (Term.static "MirrorFerry$Command" (mm_cmdN.getD 7 "") "LMirrorFerry$Command;")) ∈ mm_NF := List.mem_of_getElem? (i := 112) (by decide +kernel)
theorem nn_en_5_8 : Cond.not (.eq (Term.static "MirrorFerry$Command" (mm_cmdN.getD 5 "") "LMirrorFerry$Command;") (Term.static "MirrorFerry$Command" (mm_cmdN.getD 8 "") "LMirrorFerry$Command;")) ∈ mm_NF := List.mem_of_getElem? (i := 122) (by decide +kernel)
theorem nn_en_5_9 : Cond.not (.eq (Term.static "MirrorFerry$Command" (mm_cmdN.getD 5 "") "LMirrorFerry$Command;") (Term.static "MirrorFerry$Command" (mm_cmdN.getD 9 "") "LMirrorFerry$Command;")) ∈ mm_NF := List.mem_of_getElem? (i := 133) (by decide +kernel)
theorem nn_en_5_10 : Cond.not (.eq (Term.static "MirrorFerry$Command" (mm_cmdN.getD 5 "") "LMirrorFerry$Command;") (Term.static "MirrorFerry$Command" (mm_cmdN.getD 10 "") "LMirrorFerry$Command;")) ∈ mm_NF := List.mem_of_getElem? (i := 145) (by decide +kernel)
theorem nn_en_6_7 : Cond.not (.eq (Term.static "MirrorFerry$Command" (mm_cmdN.getD 6 "") "LMirrorFerry$Command;") (Term.static "MirrorFerry$Command" (mm_cmdN.getD 7 "") "LMirrorFerry$Command;")) ∈ mm_NF := List.mem_of_getElem? (i := 113) (by decide +kernel)
theorem nn_en_6_8 : Cond.not (.eq (Term.static "MirrorFerry$Command" (mm_cmdN.getD 6 "") "LMirrorFerry$Command;") (Term.static "MirrorFerry$Command" (mm_cmdN.getD 8 "") "LMirrorFerry$Command;")) ∈ mm_NF := List.mem_of_getElem? (i := 123) (by decide +kernel)
theorem nn_en_6_9 : Cond.not (.eq (Term.static "MirrorFerry$Command" (mm_cmdN.getD 6 "") "LMirrorFerry$Command;") (Term.static "MirrorFerry$Command" (mm_cmdN.getD 9 "") "LMirrorFerry$Command;")) ∈ mm_NF := List.mem_of_getElem? (i := 134) (by decide +kernel)
theorem nn_en_6_10 : Cond.not (.eq (Term.static "MirrorFerry$Command" (mm_cmdN.getD 6 "") "LMirrorFerry$Command;") (Term.static "MirrorFerry$Command" (mm_cmdN.getD 10 "") "LMirrorFerry$Command;")) ∈ mm_NF := List.mem_of_getElem? (i := 146) (by decide +kernel)
theorem nn_en_7_8 : Cond.not (.eq (Term.static "MirrorFerry$Command" (mm_cmdN.getD 7 "") "LMirrorFerry$Command;") (Term.static "MirrorFerry$Command" (mm_cmdN.getD 8 "") "LMirrorFerry$Command;")) ∈ mm_NF := List.mem_of_getElem? (i := 124) (by decide +kernel)
theorem nn_en_7_9 : Cond.not (.eq (Term.static "MirrorFerry$Command" (mm_cmdN.getD 7 "") "LMirrorFerry$Command;") (Term.static "MirrorFerry$Command" (mm_cmdN.getD 9 "") "LMirrorFerry$Command;")) ∈ mm_NF := List.mem_of_getElem? (i := 135) (by decide +kernel)
theorem nn_en_7_10 : Cond.not (.eq (Term.static "MirrorFerry$Command" (mm_cmdN.getD 7 "") "LMirrorFerry$Command;") (Term.static "MirrorFerry$Command" (mm_cmdN.getD 10 "") "LMirrorFerry$Command;")) ∈ mm_NF := List.mem_of_getElem? (i := 147) (by decide +kernel)
theorem nn_en_8_9 : Cond.not (.eq (Term.static "MirrorFerry$Command" (mm_cmdN.getD 8 "") "LMirrorFerry$Command;") (Term.static "MirrorFerry$Command" (mm_cmdN.getD 9 "") "LMirrorFerry$Command;")) ∈ mm_NF := List.mem_of_getElem? (i := 136) (by decide +kernel)
theorem nn_en_8_10 : Cond.not (.eq (Term.static "MirrorFerry$Command" (mm_cmdN.getD 8 "") "LMirrorFerry$Command;") (Term.static "MirrorFerry$Command" (mm_cmdN.getD 10 "") "LMirrorFerry$Command;")) ∈ mm_NF := List.mem_of_getElem? (i := 148) (by decide +kernel)
theorem nn_en_9_10 : Cond.not (.eq (Term.static "MirrorFerry$Command" (mm_cmdN.getD 9 "") "LMirrorFerry$Command;") (Term.static "MirrorFerry$Command" (mm_cmdN.getD 10 "") "LMirrorFerry$Command;")) ∈ mm_NF := List.mem_of_getElem? (i := 149) (by decide +kernel)
theorem nn_en : ∀ i : Nat, i < 11 → ∀ j : Nat, j < 11 → i ≠ j → Cond.not (.eq (Term.static "MirrorFerry$Command" (mm_cmdN.getD i "") "LMirrorFerry$Command;") (Term.static "MirrorFerry$Command" (mm_cmdN.getD j "") "LMirrorFerry$Command;")) ∈ mm_NF ∨ Cond.not (.eq (Term.static "MirrorFerry$Command" (mm_cmdN.getD j "") "LMirrorFerry$Command;") (Term.static "MirrorFerry$Command" (mm_cmdN.getD i "") "LMirrorFerry$Command;")) ∈ mm_NF := by
  intro i hi j hj hij
  rcases (show i = 0 ∨ i = 1 ∨ i = 2 ∨ i = 3 ∨ i = 4 ∨ i = 5 ∨ i = 6 ∨ i = 7 ∨ i = 8 ∨ i = 9 ∨ i = 10 by omega) with rfl | rfl | rfl | rfl | rfl | rfl | rfl | rfl | rfl | rfl | rfl
  · rcases (show j = 0 ∨ j = 1 ∨ j = 2 ∨ j = 3 ∨ j = 4 ∨ j = 5 ∨ j = 6 ∨ j = 7 ∨ j = 8 ∨ j = 9 ∨ j = 10 by omega) with rfl | rfl | rfl | rfl | rfl | rfl | rfl | rfl | rfl | rfl | rfl
    · exact absurd rfl hij
    · exact Or.inl nn_en_0_1
    · exact Or.inl nn_en_0_2
    · exact Or.inr nn_en_3_0
    · exact Or.inl nn_en_0_4
    · exact Or.inl nn_en_0_5
    · exact Or.inl nn_en_0_6
    · exact Or.inl nn_en_0_7
    · exact Or.inl nn_en_0_8
    · exact Or.inl nn_en_0_9
    · exact Or.inl nn_en_0_10
  · rcases (show j = 0 ∨ j = 1 ∨ j = 2 ∨ j = 3 ∨ j = 4 ∨ j = 5 ∨ j = 6 ∨ j = 7 ∨ j = 8 ∨ j = 9 ∨ j = 10 by omega) with rfl | rfl | rfl | rfl | rfl | rfl | rfl | rfl | rfl | rfl | rfl
    · exact Or.inr nn_en_0_1
    · exact absurd rfl hij
    · exact Or.inl nn_en_1_2
    · exact Or.inr nn_en_3_1
    · exact Or.inl nn_en_1_4
    · exact Or.inl nn_en_1_5
    · exact Or.inl nn_en_1_6
    · exact Or.inl nn_en_1_7
    · exact Or.inl nn_en_1_8
    · exact Or.inl nn_en_1_9
    · exact Or.inl nn_en_1_10
  · rcases (show j = 0 ∨ j = 1 ∨ j = 2 ∨ j = 3 ∨ j = 4 ∨ j = 5 ∨ j = 6 ∨ j = 7 ∨ j = 8 ∨ j = 9 ∨ j = 10 by omega) with rfl | rfl | rfl | rfl | rfl | rfl | rfl | rfl | rfl | rfl | rfl
    · exact Or.inr nn_en_0_2
    · exact Or.inr nn_en_1_2
    · exact absurd rfl hij
    · exact Or.inr nn_en_3_2
    · exact Or.inl nn_en_2_4
    · exact Or.inl nn_en_2_5
    · exact Or.inl nn_en_2_6
    · exact Or.inl nn_en_2_7
    · exact Or.inl nn_en_2_8
    · exact Or.inl nn_en_2_9
    · exact Or.inl nn_en_2_10
  · rcases (show j = 0 ∨ j = 1 ∨ j = 2 ∨ j = 3 ∨ j = 4 ∨ j = 5 ∨ j = 6 ∨ j = 7 ∨ j = 8 ∨ j = 9 ∨ j = 10 by omega) with rfl | rfl | rfl | rfl | rfl | rfl | rfl | rfl | rfl | rfl | rfl
    · exact Or.inl nn_en_3_0
    · exact Or.inl nn_en_3_1
    · exact Or.inl nn_en_3_2
    · exact absurd rfl hij
    · exact Or.inl nn_en_3_4
    · exact Or.inl nn_en_3_5
    · exact Or.inl nn_en_3_6
    · exact Or.inl nn_en_3_7
    · exact Or.inl nn_en_3_8
    · exact Or.inl nn_en_3_9
    · exact Or.inl nn_en_3_10
  · rcases (show j = 0 ∨ j = 1 ∨ j = 2 ∨ j = 3 ∨ j = 4 ∨ j = 5 ∨ j = 6 ∨ j = 7 ∨ j = 8 ∨ j = 9 ∨ j = 10 by omega) with rfl | rfl | rfl | rfl | rfl | rfl | rfl | rfl | rfl | rfl | rfl
    · exact Or.inr nn_en_0_4
    · exact Or.inr nn_en_1_4
    · exact Or.inr nn_en_2_4
    · exact Or.inr nn_en_3_4
    · exact absurd rfl hij
    · exact Or.inl nn_en_4_5
    · exact Or.inl nn_en_4_6
    · exact Or.inl nn_en_4_7
    · exact Or.inl nn_en_4_8
    · exact Or.inl nn_en_4_9
    · exact Or.inl nn_en_4_10
  · rcases (show j = 0 ∨ j = 1 ∨ j = 2 ∨ j = 3 ∨ j = 4 ∨ j = 5 ∨ j = 6 ∨ j = 7 ∨ j = 8 ∨ j = 9 ∨ j = 10 by omega) with rfl | rfl | rfl | rfl | rfl | rfl | rfl | rfl | rfl | rfl | rfl
    · exact Or.inr nn_en_0_5
    · exact Or.inr nn_en_1_5
    · exact Or.inr nn_en_2_5
    · exact Or.inr nn_en_3_5
    · exact Or.inr nn_en_4_5
    · exact absurd rfl hij
    · exact Or.inl nn_en_5_6
    · exact Or.inl nn_en_5_7
    · exact Or.inl nn_en_5_8
    · exact Or.inl nn_en_5_9
    · exact Or.inl nn_en_5_10
  · rcases (show j = 0 ∨ j = 1 ∨ j = 2 ∨ j = 3 ∨ j = 4 ∨ j = 5 ∨ j = 6 ∨ j = 7 ∨ j = 8 ∨ j = 9 ∨ j = 10 by omega) with rfl | rfl | rfl | rfl | rfl | rfl | rfl | rfl | rfl | rfl | rfl
    · exact Or.inr nn_en_0_6
    · exact Or.inr nn_en_1_6
    · exact Or.inr nn_en_2_6
    · exact Or.inr nn_en_3_6
    · exact Or.inr nn_en_4_6
    · exact Or.inr nn_en_5_6
    · exact absurd rfl hij
    · exact Or.inl nn_en_6_7
    · exact Or.inl nn_en_6_8
    · exact Or.inl nn_en_6_9
    · exact Or.inl nn_en_6_10
  · rcases (show j = 0 ∨ j = 1 ∨ j = 2 ∨ j = 3 ∨ j = 4 ∨ j = 5 ∨ j = 6 ∨ j = 7 ∨ j = 8 ∨ j = 9 ∨ j = 10 by omega) with rfl | rfl | rfl | rfl | rfl | rfl | rfl | rfl | rfl | rfl | rfl
    · exact Or.inr nn_en_0_7
    · exact Or.inr nn_en_1_7
    · exact Or.inr nn_en_2_7
    · exact Or.inr nn_en_3_7
    · exact Or.inr nn_en_4_7
    · exact Or.inr nn_en_5_7
    · exact Or.inr nn_en_6_7
    · exact absurd rfl hij
    · exact Or.inl nn_en_7_8
    · exact Or.inl nn_en_7_9
    · exact Or.inl nn_en_7_10
  · rcases (show j = 0 ∨ j = 1 ∨ j = 2 ∨ j = 3 ∨ j = 4 ∨ j = 5 ∨ j = 6 ∨ j = 7 ∨ j = 8 ∨ j = 9 ∨ j = 10 by omega) with rfl | rfl | rfl | rfl | rfl | rfl | rfl | rfl | rfl | rfl | rfl
    · exact Or.inr nn_en_0_8
    · exact Or.inr nn_en_1_8
    · exact Or.inr nn_en_2_8
    · exact Or.inr nn_en_3_8
    · exact Or.inr nn_en_4_8
    · exact Or.inr nn_en_5_8
    · exact Or.inr nn_en_6_8
    · exact Or.inr nn_en_7_8
    · exact absurd rfl hij
    · exact Or.inl nn_en_8_9
    · exact Or.inl nn_en_8_10
  · rcases (show j = 0 ∨ j = 1 ∨ j = 2 ∨ j = 3 ∨ j = 4 ∨ j = 5 ∨ j = 6 ∨ j = 7 ∨ j = 8 ∨ j = 9 ∨ j = 10 by omega) with rfl | rfl | rfl | rfl | rfl | rfl | rfl | rfl | rfl | rfl | rfl
    · exact Or.inr nn_en_0_9
    · exact Or.inr nn_en_1_9
    · exact Or.inr nn_en_2_9
    · exact Or.inr nn_en_3_9
    · exact Or.inr nn_en_4_9
    · exact Or.inr nn_en_5_9
    · exact Or.inr nn_en_6_9
    · exact Or.inr nn_en_7_9
    · exact Or.inr nn_en_8_9
    · exact absurd rfl hij
    · exact Or.inl nn_en_9_10
  · rcases (show j = 0 ∨ j = 1 ∨ j = 2 ∨ j = 3 ∨ j = 4 ∨ j = 5 ∨ j = 6 ∨ j = 7 ∨ j = 8 ∨ j = 9 ∨ j = 10 by omega) with rfl | rfl | rfl | rfl | rfl | rfl | rfl | rfl | rfl | rfl | rfl
    · exact Or.inr nn_en_0_10
    · exact Or.inr nn_en_1_10
    · exact Or.inr nn_en_2_10
    · exact Or.inr nn_en_3_10
    · exact Or.inr nn_en_4_10
    · exact Or.inr nn_en_5_10
    · exact Or.inr nn_en_6_10
    · exact Or.inr nn_en_7_10
    · exact Or.inr nn_en_8_10
    · exact Or.inr nn_en_9_10
    · exact absurd rfl hij

theorem nn_s_0_1 : Cond.not (.eq (mm_tm 0) (mm_tm 1)) ∈ mm_NF := List.mem_of_getElem? (i := 299) (by decide +kernel)
theorem nn_s_0_2 : Cond.not (.eq (mm_tm 0) (mm_tm 2)) ∈ mm_NF := List.mem_of_getElem? (i := 312) (by decide +kernel)
theorem nn_s_0_4 : Cond.not (.eq (mm_tm 0) (mm_tm 4)) ∈ mm_NF := List.mem_of_getElem? (i := 328) (by decide +kernel)
theorem nn_s_0_5 : Cond.not (.eq (mm_tm 0) (mm_tm 5)) ∈ mm_NF := List.mem_of_getElem? (i := 343) (by decide +kernel)
theorem nn_s_0_6 : Cond.not (.eq (mm_tm 0) (mm_tm 6)) ∈ mm_NF := List.mem_of_getElem? (i := 360) (by decide +kernel)
theorem nn_s_0_7 : Cond.not (.eq (mm_tm 0) (mm_tm 7)) ∈ mm_NF := List.mem_of_getElem? (i := 378) (by decide +kernel)
theorem nn_s_0_8 : Cond.not (.eq (mm_tm 0) (mm_tm 8)) ∈ mm_NF := List.mem_of_getElem? (i := 399) (by decide +kernel)
theorem nn_s_0_9 : Cond.not (.eq (mm_tm 0) (mm_tm 9)) ∈ mm_NF := List.mem_of_getElem? (i := 421) (by decide +kernel)
theorem nn_s_0_10 : Cond.not (.eq (mm_tm 0) (mm_tm 10)) ∈ mm_NF := List.mem_of_getElem? (i := 439) (by decide +kernel)
theorem nn_s_1_2 : Cond.not (.eq (mm_tm 1) (mm_tm 2)) ∈ mm_NF := List.mem_of_getElem? (i := 313) (by decide +kernel)
theorem nn_s_1_4 : Cond.not (.eq (mm_tm 1) (mm_tm 4)) ∈ mm_NF := List.mem_of_getElem? (i := 329) (by decide +kernel)
theorem nn_s_1_5 : Cond.not (.eq (mm_tm 1) (mm_tm 5)) ∈ mm_NF := List.mem_of_getElem? (i := 344) (by decide +kernel)
theorem nn_s_1_6 : Cond.not (.eq (mm_tm 1) (mm_tm 6)) ∈ mm_NF := List.mem_of_getElem? (i := 361) (by decide +kernel)
theorem nn_s_1_7 : Cond.not (.eq (mm_tm 1) (mm_tm 7)) ∈ mm_NF := List.mem_of_getElem? (i := 379) (by decide +kernel)
theorem nn_s_1_8 : Cond.not (.eq (mm_tm 1) (mm_tm 8)) ∈ mm_NF := List.mem_of_getElem? (i := 400) (by decide +kernel)
theorem nn_s_1_9 : Cond.not (.eq (mm_tm 1) (mm_tm 9)) ∈ mm_NF := List.mem_of_getElem? (i := 422) (by decide +kernel)
theorem nn_s_1_10 : Cond.not (.eq (mm_tm 1) (mm_tm 10)) ∈ mm_NF := List.mem_of_getElem? (i := 440) (by decide +kernel)
theorem nn_s_2_4 : Cond.not (.eq (mm_tm 2) (mm_tm 4)) ∈ mm_NF := List.mem_of_getElem? (i := 330) (by decide +kernel)
theorem nn_s_2_5 : Cond.not (.eq (mm_tm 2) (mm_tm 5)) ∈ mm_NF := List.mem_of_getElem? (i := 345) (by decide +kernel)
theorem nn_s_2_6 : Cond.not (.eq (mm_tm 2) (mm_tm 6)) ∈ mm_NF := List.mem_of_getElem? (i := 362) (by decide +kernel)
theorem nn_s_2_7 : Cond.not (.eq (mm_tm 2) (mm_tm 7)) ∈ mm_NF := List.mem_of_getElem? (i := 380) (by decide +kernel)
theorem nn_s_2_8 : Cond.not (.eq (mm_tm 2) (mm_tm 8)) ∈ mm_NF := List.mem_of_getElem? (i := 401) (by decide +kernel)
theorem nn_s_2_9 : Cond.not (.eq (mm_tm 2) (mm_tm 9)) ∈ mm_NF := List.mem_of_getElem? (i := 423) (by decide +kernel)
theorem nn_s_2_10 : Cond.not (.eq (mm_tm 2) (mm_tm 10)) ∈ mm_NF := List.mem_of_getElem? (i := 441) (by decide +kernel)
theorem nn_s_3_0 : Cond.not (.eq (mm_tm 3) (mm_tm 0)) ∈ mm_NF := List.mem_of_getElem? (i := 285) (by decide +kernel)
theorem nn_s_3_1 : Cond.not (.eq (mm_tm 3) (mm_tm 1)) ∈ mm_NF := List.mem_of_getElem? (i := 298) (by decide +kernel)
theorem nn_s_3_2 : Cond.not (.eq (mm_tm 3) (mm_tm 2)) ∈ mm_NF := List.mem_of_getElem? (i := 311) (by decide +kernel)
theorem nn_s_3_4 : Cond.not (.eq (mm_tm 3) (mm_tm 4)) ∈ mm_NF := List.mem_of_getElem? (i := 327) (by decide +kernel)
theorem nn_s_3_5 : Cond.not (.eq (mm_tm 3) (mm_tm 5)) ∈ mm_NF := List.mem_of_getElem? (i := 342) (by decide +kernel)
theorem nn_s_3_6 : Cond.not (.eq (mm_tm 3) (mm_tm 6)) ∈ mm_NF := List.mem_of_getElem? (i := 359) (by decide +kernel)
theorem nn_s_3_7 : Cond.not (.eq (mm_tm 3) (mm_tm 7)) ∈ mm_NF := List.mem_of_getElem? (i := 377) (by decide +kernel)
theorem nn_s_3_8 : Cond.not (.eq (mm_tm 3) (mm_tm 8)) ∈ mm_NF := List.mem_of_getElem? (i := 398) (by decide +kernel)
theorem nn_s_3_9 : Cond.not (.eq (mm_tm 3) (mm_tm 9)) ∈ mm_NF := List.mem_of_getElem? (i := 420) (by decide +kernel)
theorem nn_s_3_10 : Cond.not (.eq (mm_tm 3) (mm_tm 10)) ∈ mm_NF := List.mem_of_getElem? (i := 438) (by decide +kernel)
theorem nn_s_4_5 : Cond.not (.eq (mm_tm 4) (mm_tm 5)) ∈ mm_NF := List.mem_of_getElem? (i := 346) (by decide +kernel)
theorem nn_s_4_6 : Cond.not (.eq (mm_tm 4) (mm_tm 6)) ∈ mm_NF := List.mem_of_getElem? (i := 363) (by decide +kernel)
theorem nn_s_4_7 : Cond.not (.eq (mm_tm 4) (mm_tm 7)) ∈ mm_NF := List.mem_of_getElem? (i := 381) (by decide +kernel)
theorem nn_s_4_8 : Cond.not (.eq (mm_tm 4) (mm_tm 8)) ∈ mm_NF := List.mem_of_getElem? (i := 402) (by decide +kernel)
theorem nn_s_4_9 : Cond.not (.eq (mm_tm 4) (mm_tm 9)) ∈ mm_NF := List.mem_of_getElem? (i := 424) (by decide +kernel)
theorem nn_s_4_10 : Cond.not (.eq (mm_tm 4) (mm_tm 10)) ∈ mm_NF := List.mem_of_getElem? (i := 442) (by decide +kernel)
theorem nn_s_5_6 : Cond.not (.eq (mm_tm 5) (mm_tm 6)) ∈ mm_NF := List.mem_of_getElem? (i := 364) (by decide +kernel)
theorem nn_s_5_7 : Cond.not (.eq (mm_tm 5) (mm_tm 7)) ∈ mm_NF := List.mem_of_getElem? (i := 382) (by decide +kernel)
theorem nn_s_5_8 : Cond.not (.eq (mm_tm 5) (mm_tm 8)) ∈ mm_NF := List.mem_of_getElem? (i := 403) (by decide +kernel)
theorem nn_s_5_9 : Cond.not (.eq (mm_tm 5) (mm_tm 9)) ∈ mm_NF := List.mem_of_getElem? (i := 425) (by decide +kernel)
theorem nn_s_5_10 : Cond.not (.eq (mm_tm 5) (mm_tm 10)) ∈ mm_NF := List.mem_of_getElem? (i := 443) (by decide +kernel)
theorem nn_s_6_7 : Cond.not (.eq (mm_tm 6) (mm_tm 7)) ∈ mm_NF := List.mem_of_getElem? (i := 383) (by decide +kernel)
theorem nn_s_6_8 : Cond.not (.eq (mm_tm 6) (mm_tm 8)) ∈ mm_NF := List.mem_of_getElem? (i := 404) (by decide +kernel)
theorem nn_s_6_9 : Cond.not (.eq (mm_tm 6) (mm_tm 9)) ∈ mm_NF := List.mem_of_getElem? (i := 426) (by decide +kernel)
theorem nn_s_6_10 : Cond.not (.eq (mm_tm 6) (mm_tm 10)) ∈ mm_NF := List.mem_of_getElem? (i := 444) (by decide +kernel)
theorem nn_s_7_8 : Cond.not (.eq (mm_tm 7) (mm_tm 8)) ∈ mm_NF := List.mem_of_getElem? (i := 405) (by decide +kernel)
theorem nn_s_7_9 : Cond.not (.eq (mm_tm 7) (mm_tm 9)) ∈ mm_NF := List.mem_of_getElem? (i := 427) (by decide +kernel)
theorem nn_s_7_10 : Cond.not (.eq (mm_tm 7) (mm_tm 10)) ∈ mm_NF := List.mem_of_getElem? (i := 445) (by decide +kernel)
theorem nn_s_8_9 : Cond.not (.eq (mm_tm 8) (mm_tm 9)) ∈ mm_NF := List.mem_of_getElem? (i := 428) (by decide +kernel)
theorem nn_s_8_10 : Cond.not (.eq (mm_tm 8) (mm_tm 10)) ∈ mm_NF := List.mem_of_getElem? (i := 446) (by decide +kernel)
theorem nn_s_9_10 : Cond.not (.eq (mm_tm 9) (mm_tm 10)) ∈ mm_NF := List.mem_of_getElem? (i := 447) (by decide +kernel)
theorem nn_s : ∀ i : Nat, i < 11 → ∀ j : Nat, j < 11 → i ≠ j → Cond.not (.eq (mm_tm i) (mm_tm j)) ∈ mm_NF ∨ Cond.not (.eq (mm_tm j) (mm_tm i)) ∈ mm_NF := by
  intro i hi j hj hij
  rcases (show i = 0 ∨ i = 1 ∨ i = 2 ∨ i = 3 ∨ i = 4 ∨ i = 5 ∨ i = 6 ∨ i = 7 ∨ i = 8 ∨ i = 9 ∨ i = 10 by omega) with rfl | rfl | rfl | rfl | rfl | rfl | rfl | rfl | rfl | rfl | rfl
  · rcases (show j = 0 ∨ j = 1 ∨ j = 2 ∨ j = 3 ∨ j = 4 ∨ j = 5 ∨ j = 6 ∨ j = 7 ∨ j = 8 ∨ j = 9 ∨ j = 10 by omega) with rfl | rfl | rfl | rfl | rfl | rfl | rfl | rfl | rfl | rfl | rfl
    · exact absurd rfl hij
    · exact Or.inl nn_s_0_1
    · exact Or.inl nn_s_0_2
    · exact Or.inr nn_s_3_0
    · exact Or.inl nn_s_0_4
    · exact Or.inl nn_s_0_5
    · exact Or.inl nn_s_0_6
    · exact Or.inl nn_s_0_7
    · exact Or.inl nn_s_0_8
    · exact Or.inl nn_s_0_9
    · exact Or.inl nn_s_0_10
  · rcases (show j = 0 ∨ j = 1 ∨ j = 2 ∨ j = 3 ∨ j = 4 ∨ j = 5 ∨ j = 6 ∨ j = 7 ∨ j = 8 ∨ j = 9 ∨ j = 10 by omega) with rfl | rfl | rfl | rfl | rfl | rfl | rfl | rfl | rfl | rfl | rfl
    · exact Or.inr nn_s_0_1
    · exact absurd rfl hij
    · exact Or.inl nn_s_1_2
    · exact Or.inr nn_s_3_1
    · exact Or.inl nn_s_1_4
    · exact Or.inl nn_s_1_5
    · exact Or.inl nn_s_1_6
    · exact Or.inl nn_s_1_7
    · exact Or.inl nn_s_1_8
    · exact Or.inl nn_s_1_9
    · exact Or.inl nn_s_1_10
  · rcases (show j = 0 ∨ j = 1 ∨ j = 2 ∨ j = 3 ∨ j = 4 ∨ j = 5 ∨ j = 6 ∨ j = 7 ∨ j = 8 ∨ j = 9 ∨ j = 10 by omega) with rfl | rfl | rfl | rfl | rfl | rfl | rfl | rfl | rfl | rfl | rfl
    · exact Or.inr nn_s_0_2
    · exact Or.inr nn_s_1_2
    · exact absurd rfl hij
    · exact Or.inr nn_s_3_2
    · exact Or.inl nn_s_2_4
    · exact Or.inl nn_s_2_5
    · exact Or.inl nn_s_2_6
    · exact Or.inl nn_s_2_7
    · exact Or.inl nn_s_2_8
    · exact Or.inl nn_s_2_9
    · exact Or.inl nn_s_2_10
  · rcases (show j = 0 ∨ j = 1 ∨ j = 2 ∨ j = 3 ∨ j = 4 ∨ j = 5 ∨ j = 6 ∨ j = 7 ∨ j = 8 ∨ j = 9 ∨ j = 10 by omega) with rfl | rfl | rfl | rfl | rfl | rfl | rfl | rfl | rfl | rfl | rfl
    · exact Or.inl nn_s_3_0
    · exact Or.inl nn_s_3_1
    · exact Or.inl nn_s_3_2
    · exact absurd rfl hij
    · exact Or.inl nn_s_3_4
    · exact Or.inl nn_s_3_5
    · exact Or.inl nn_s_3_6
    · exact Or.inl nn_s_3_7
    · exact Or.inl nn_s_3_8
    · exact Or.inl nn_s_3_9
    · exact Or.inl nn_s_3_10
  · rcases (show j = 0 ∨ j = 1 ∨ j = 2 ∨ j = 3 ∨ j = 4 ∨ j = 5 ∨ j = 6 ∨ j = 7 ∨ j = 8 ∨ j = 9 ∨ j = 10 by omega) with rfl | rfl | rfl | rfl | rfl | rfl | rfl | rfl | rfl | rfl | rfl
    · exact Or.inr nn_s_0_4
    · exact Or.inr nn_s_1_4
    · exact Or.inr nn_s_2_4
    · exact Or.inr nn_s_3_4
    · exact absurd rfl hij
    · exact Or.inl nn_s_4_5
    · exact Or.inl nn_s_4_6
    · exact Or.inl nn_s_4_7
    · exact Or.inl nn_s_4_8
    · exact Or.inl nn_s_4_9
    · exact Or.inl nn_s_4_10
  · rcases (show j = 0 ∨ j = 1 ∨ j = 2 ∨ j = 3 ∨ j = 4 ∨ j = 5 ∨ j = 6 ∨ j = 7 ∨ j = 8 ∨ j = 9 ∨ j = 10 by omega) with rfl | rfl | rfl | rfl | rfl | rfl | rfl | rfl | rfl | rfl | rfl
    · exact Or.inr nn_s_0_5
    · exact Or.inr nn_s_1_5
    · exact Or.inr nn_s_2_5
    · exact Or.inr nn_s_3_5
    · exact Or.inr nn_s_4_5
    · exact absurd rfl hij
    · exact Or.inl nn_s_5_6
    · exact Or.inl nn_s_5_7
    · exact Or.inl nn_s_5_8
    · exact Or.inl nn_s_5_9
    · exact Or.inl nn_s_5_10
  · rcases (show j = 0 ∨ j = 1 ∨ j = 2 ∨ j = 3 ∨ j = 4 ∨ j = 5 ∨ j = 6 ∨ j = 7 ∨ j = 8 ∨ j = 9 ∨ j = 10 by omega) with rfl | rfl | rfl | rfl | rfl | rfl | rfl | rfl | rfl | rfl | rfl
    · exact Or.inr nn_s_0_6
    · exact Or.inr nn_s_1_6
    · exact Or.inr nn_s_2_6
    · exact Or.inr nn_s_3_6
    · exact Or.inr nn_s_4_6
    · exact Or.inr nn_s_5_6
    · exact absurd rfl hij
    · exact Or.inl nn_s_6_7
    · exact Or.inl nn_s_6_8
    · exact Or.inl nn_s_6_9
    · exact Or.inl nn_s_6_10
  · rcases (show j = 0 ∨ j = 1 ∨ j = 2 ∨ j = 3 ∨ j = 4 ∨ j = 5 ∨ j = 6 ∨ j = 7 ∨ j = 8 ∨ j = 9 ∨ j = 10 by omega) with rfl | rfl | rfl | rfl | rfl | rfl | rfl | rfl | rfl | rfl | rfl
    · exact Or.inr nn_s_0_7
    · exact Or.inr nn_s_1_7
    · exact Or.inr nn_s_2_7
    · exact Or.inr nn_s_3_7
    · exact Or.inr nn_s_4_7
    · exact Or.inr nn_s_5_7
    · exact Or.inr nn_s_6_7
    · exact absurd rfl hij
    · exact Or.inl nn_s_7_8
    · exact Or.inl nn_s_7_9
    · exact Or.inl nn_s_7_10
  · rcases (show j = 0 ∨ j = 1 ∨ j = 2 ∨ j = 3 ∨ j = 4 ∨ j = 5 ∨ j = 6 ∨ j = 7 ∨ j = 8 ∨ j = 9 ∨ j = 10 by omega) with rfl | rfl | rfl | rfl | rfl | rfl | rfl | rfl | rfl | rfl | rfl
    · exact Or.inr nn_s_0_8
    · exact Or.inr nn_s_1_8
    · exact Or.inr nn_s_2_8
    · exact Or.inr nn_s_3_8
    · exact Or.inr nn_s_4_8
    · exact Or.inr nn_s_5_8
    · exact Or.inr nn_s_6_8
    · exact Or.inr nn_s_7_8
    · exact absurd rfl hij
    · exact Or.inl nn_s_8_9
    · exact Or.inl nn_s_8_10
  · rcases (show j = 0 ∨ j = 1 ∨ j = 2 ∨ j = 3 ∨ j = 4 ∨ j = 5 ∨ j = 6 ∨ j = 7 ∨ j = 8 ∨ j = 9 ∨ j = 10 by omega) with rfl | rfl | rfl | rfl | rfl | rfl | rfl | rfl | rfl | rfl | rfl
    · exact Or.inr nn_s_0_9
    · exact Or.inr nn_s_1_9
    · exact Or.inr nn_s_2_9
    · exact Or.inr nn_s_3_9
    · exact Or.inr nn_s_4_9
    · exact Or.inr nn_s_5_9
    · exact Or.inr nn_s_6_9
    · exact Or.inr nn_s_7_9
    · exact Or.inr nn_s_8_9
    · exact absurd rfl hij
    · exact Or.inl nn_s_9_10
  · rcases (show j = 0 ∨ j = 1 ∨ j = 2 ∨ j = 3 ∨ j = 4 ∨ j = 5 ∨ j = 6 ∨ j = 7 ∨ j = 8 ∨ j = 9 ∨ j = 10 by omega) with rfl | rfl | rfl | rfl | rfl | rfl | rfl | rfl | rfl | rfl | rfl
    · exact Or.inr nn_s_0_10
    · exact Or.inr nn_s_1_10
    · exact Or.inr nn_s_2_10
    · exact Or.inr nn_s_3_10
    · exact Or.inr nn_s_4_10
    · exact Or.inr nn_s_5_10
    · exact Or.inr nn_s_6_10
    · exact Or.inr nn_s_7_10
    · exact Or.inr nn_s_8_10
    · exact Or.inr nn_s_9_10
    · exact absurd rfl hij

theorem nf_nc : ∀ i j : Nat, 1 ≤ i → i ≤ 6 → 1 ≤ j → j ≤ 6 → i ≠ j → Cond.not (.castable (mm_ex i) (mm_ex j)) ∈ mm_NF := by
  intro i j h1 h2 h3 h4 hij
  rcases (show i = 1 ∨ i = 2 ∨ i = 3 ∨ i = 4 ∨ i = 5 ∨ i = 6 by omega) with rfl | rfl | rfl | rfl | rfl | rfl
  · rcases (show j = 1 ∨ j = 2 ∨ j = 3 ∨ j = 4 ∨ j = 5 ∨ j = 6 by omega) with rfl | rfl | rfl | rfl | rfl | rfl
    · exact absurd rfl hij
    · exact List.mem_of_getElem? (i := 200) (by decide +kernel)
    · exact List.mem_of_getElem? (i := 181) (by decide +kernel)
    · exact List.mem_of_getElem? (i := 219) (by decide +kernel)
    · exact List.mem_of_getElem? (i := 238) (by decide +kernel)
    · exact List.mem_of_getElem? (i := 257) (by decide +kernel)
  · rcases (show j = 1 ∨ j = 2 ∨ j = 3 ∨ j = 4 ∨ j = 5 ∨ j = 6 by omega) with rfl | rfl | rfl | rfl | rfl | rfl
    · exact List.mem_of_getElem? (i := 162) (by decide +kernel)
    · exact absurd rfl hij
    · exact List.mem_of_getElem? (i := 182) (by decide +kernel)
    · exact List.mem_of_getElem? (i := 220) (by decide +kernel)
    · exact List.mem_of_getElem? (i := 239) (by decide +kernel)
    · exact List.mem_of_getElem? (i := 258) (by decide +kernel)
  · rcases (show j = 1 ∨ j = 2 ∨ j = 3 ∨ j = 4 ∨ j = 5 ∨ j = 6 by omega) with rfl | rfl | rfl | rfl | rfl | rfl
    · exact List.mem_of_getElem? (i := 163) (by decide +kernel)
    · exact List.mem_of_getElem? (i := 201) (by decide +kernel)
    · exact absurd rfl hij
    · exact List.mem_of_getElem? (i := 221) (by decide +kernel)
    · exact List.mem_of_getElem? (i := 240) (by decide +kernel)
    · exact List.mem_of_getElem? (i := 259) (by decide +kernel)
  · rcases (show j = 1 ∨ j = 2 ∨ j = 3 ∨ j = 4 ∨ j = 5 ∨ j = 6 by omega) with rfl | rfl | rfl | rfl | rfl | rfl
    · exact List.mem_of_getElem? (i := 164) (by decide +kernel)
    · exact List.mem_of_getElem? (i := 202) (by decide +kernel)
    · exact List.mem_of_getElem? (i := 183) (by decide +kernel)
    · exact absurd rfl hij
    · exact List.mem_of_getElem? (i := 241) (by decide +kernel)
    · exact List.mem_of_getElem? (i := 260) (by decide +kernel)
  · rcases (show j = 1 ∨ j = 2 ∨ j = 3 ∨ j = 4 ∨ j = 5 ∨ j = 6 by omega) with rfl | rfl | rfl | rfl | rfl | rfl
    · exact List.mem_of_getElem? (i := 165) (by decide +kernel)
    · exact List.mem_of_getElem? (i := 203) (by decide +kernel)
    · exact List.mem_of_getElem? (i := 184) (by decide +kernel)
    · exact List.mem_of_getElem? (i := 222) (by decide +kernel)
    · exact absurd rfl hij
    · exact List.mem_of_getElem? (i := 261) (by decide +kernel)
  · rcases (show j = 1 ∨ j = 2 ∨ j = 3 ∨ j = 4 ∨ j = 5 ∨ j = 6 by omega) with rfl | rfl | rfl | rfl | rfl | rfl
    · exact List.mem_of_getElem? (i := 167) (by decide +kernel)
    · exact List.mem_of_getElem? (i := 205) (by decide +kernel)
    · exact List.mem_of_getElem? (i := 186) (by decide +kernel)
    · exact List.mem_of_getElem? (i := 224) (by decide +kernel)
    · exact List.mem_of_getElem? (i := 243) (by decide +kernel)
    · exact absurd rfl hij

theorem lw_ls1 : (Jvm.Cond.laysStatic "MirrorFerry" "STEP_X" "[I") ∈ lw_tbl := List.mem_append_right _ (gT_2 (List.mem_of_getElem? (i := 161) (by decide +kernel)))
theorem lw_ls2 : (Jvm.Cond.laysStatic "MirrorFerry" "STEP_Y" "[I") ∈ lw_tbl := List.mem_append_right _ (gT_2 (List.mem_of_getElem? (i := 163) (by decide +kernel)))
theorem lw_ls3 : (Jvm.Cond.laysStatic "MirrorFerry" "LETTERS" "[C") ∈ lw_tbl := List.mem_append_right _ (gT_4 (List.mem_of_getElem? (i := 216) (by decide +kernel)))
theorem lw_ls4 : (Jvm.Cond.laysStatic "MirrorFerry" "COMMANDS" "[LMirrorFerry$Command;") ∈ lw_tbl := List.mem_append_right _ (gT_6 (List.mem_of_getElem? (i := 20) (by decide +kernel)))
theorem lw_ls5 : (Jvm.Cond.laysStatic "MirrorFerry$1" "$SwitchMap$MirrorFerry$Command" "[I") ∈ lw_tbl := List.mem_append_right _ (gT_6 (List.mem_of_getElem? (i := 118) (by decide +kernel)))
theorem lw_ls6 : (Jvm.Cond.laysStatic "java/lang/String" "COMPACT_STRINGS" "Z") ∈ lw_tbl := List.mem_append_right _ (gT_6 (List.mem_of_getElem? (i := 34) (by decide +kernel)))
theorem lw_ls7 : (Jvm.Cond.laysStatic "jdk/internal/util/Preconditions" "SIOOBE_FORMATTER" "Ljava/util/function/BiFunction;") ∈ lw_tbl := List.mem_append_right _ (gT_6 (List.mem_of_getElem? (i := 50) (by decide +kernel)))
theorem lw_ls8 : (Jvm.Cond.laysStatic "java/lang/Throwable" "UNASSIGNED_STACK" "[Ljava/lang/StackTraceElement;") ∈ lw_tbl := List.mem_append_right _ (gT_3 (List.mem_of_getElem? (i := 108) (by decide +kernel)))
theorem lw_ls9 : (Jvm.Cond.laysStatic "java/lang/Throwable" "SUPPRESSED_SENTINEL" "Ljava/util/List;") ∈ lw_tbl := List.mem_append_right _ (gT_3 (List.mem_of_getElem? (i := 110) (by decide +kernel)))
theorem lw_in0 : (Jvm.Cond.initialized "MirrorFerry") ∈ lw_tbl := List.mem_append_right _ (gT_1 (List.mem_of_getElem? (i := 1) (by decide +kernel)))
theorem lw_in1 : (Jvm.Cond.initialized "MirrorFerry$1") ∈ lw_tbl := List.mem_append_right _ (gT_1 (List.mem_of_getElem? (i := 31) (by decide +kernel)))
theorem lw_in2 : (Jvm.Cond.initialized "java/lang/String") ∈ lw_tbl := List.mem_append_right _ (gT_1 (List.mem_of_getElem? (i := 18) (by decide +kernel)))
theorem lw_in3 : (Jvm.Cond.initialized "jdk/internal/util/Preconditions") ∈ lw_tbl := List.mem_append_right _ (gT_1 (List.mem_of_getElem? (i := 27) (by decide +kernel)))
theorem lw_in4 : (Jvm.Cond.initialized "java/lang/Throwable") ∈ lw_tbl := List.mem_append_right _ (gT_1 (List.mem_of_getElem? (i := 13) (by decide +kernel)))
theorem lw_in5 : (Jvm.Cond.initialized "MirrorFerry$Command") ∈ lw_tbl := List.mem_append_right _ (gT_1 (List.mem_of_getElem? (i := 30) (by decide +kernel)))
theorem lw_ar0 : (Jvm.Cond.arrayClass Jvm.ClassFile.FieldType.int) ∈ lw_tbl := List.mem_append_right _ (gT_1 (List.mem_of_getElem? (i := 66) (by decide +kernel)))
theorem lw_ar1 : (Jvm.Cond.arrayClass Jvm.ClassFile.FieldType.char) ∈ lw_tbl := List.mem_append_right _ (gT_2 (List.mem_of_getElem? (i := 15) (by decide +kernel)))
theorem lw_ar2 : (Jvm.Cond.arrayClass Jvm.ClassFile.FieldType.long) ∈ lw_tbl := List.mem_append_right _ (gT_9 (List.mem_of_getElem? (i := 88) (by decide +kernel)))
theorem lw_ar3 : (Jvm.Cond.arrayClass Jvm.ClassFile.FieldType.double) ∈ lw_tbl := List.mem_append_right _ (gT_9 (List.mem_of_getElem? (i := 89) (by decide +kernel)))
theorem lw_ao : (Jvm.Cond.arrayOver (Jvm.ClassFile.FieldType.object "MirrorFerry$Marsh")) ∈ lw_tbl := List.mem_append_right _ (gT_1 (List.mem_of_getElem? (i := 167) (by decide +kernel)))
theorem lw_cm0 : (Jvm.Cond.laysStatic "MirrorFerry$Command" "REED" "LMirrorFerry$Command;") ∈ lw_tbl := List.mem_append_right _ (gT_9 (List.mem_of_getElem? (i := 120) (by decide +kernel)))
theorem lw_cm1 : (Jvm.Cond.laysStatic "MirrorFerry$Command" "BREAK" "LMirrorFerry$Command;") ∈ lw_tbl := List.mem_append_right _ (gT_9 (List.mem_of_getElem? (i := 121) (by decide +kernel)))
theorem lw_cm2 : (Jvm.Cond.laysStatic "MirrorFerry$Command" "BOAT" "LMirrorFerry$Command;") ∈ lw_tbl := List.mem_append_right _ (gT_9 (List.mem_of_getElem? (i := 122) (by decide +kernel)))
theorem lw_cm3 : (Jvm.Cond.laysStatic "MirrorFerry$Command" "PLAN" "LMirrorFerry$Command;") ∈ lw_tbl := List.mem_append_right _ (gT_6 (List.mem_of_getElem? (i := 92) (by decide +kernel)))
theorem lw_cm4 : (Jvm.Cond.laysStatic "MirrorFerry$Command" "MIRROR" "LMirrorFerry$Command;") ∈ lw_tbl := List.mem_append_right _ (gT_9 (List.mem_of_getElem? (i := 123) (by decide +kernel)))
theorem lw_cm5 : (Jvm.Cond.laysStatic "MirrorFerry$Command" "BACK" "LMirrorFerry$Command;") ∈ lw_tbl := List.mem_append_right _ (gT_9 (List.mem_of_getElem? (i := 124) (by decide +kernel)))
theorem lw_cm6 : (Jvm.Cond.laysStatic "MirrorFerry$Command" "REDUCE" "LMirrorFerry$Command;") ∈ lw_tbl := List.mem_append_right _ (gT_9 (List.mem_of_getElem? (i := 125) (by decide +kernel)))
theorem lw_cm7 : (Jvm.Cond.laysStatic "MirrorFerry$Command" "SAIL" "LMirrorFerry$Command;") ∈ lw_tbl := List.mem_append_right _ (gT_9 (List.mem_of_getElem? (i := 126) (by decide +kernel)))
theorem lw_cm8 : (Jvm.Cond.laysStatic "MirrorFerry$Command" "WAY" "LMirrorFerry$Command;") ∈ lw_tbl := List.mem_append_right _ (gT_9 (List.mem_of_getElem? (i := 127) (by decide +kernel)))
theorem lw_cm9 : (Jvm.Cond.laysStatic "MirrorFerry$Command" "LANDING" "LMirrorFerry$Command;") ∈ lw_tbl := List.mem_append_right _ (gT_9 (List.mem_of_getElem? (i := 128) (by decide +kernel)))
theorem lw_cm10 : (Jvm.Cond.laysStatic "MirrorFerry$Command" "FOG" "LMirrorFerry$Command;") ∈ lw_tbl := List.mem_append_right _ (gT_9 (List.mem_of_getElem? (i := 129) (by decide +kernel)))
