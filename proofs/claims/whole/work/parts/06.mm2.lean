/-! later rows of the mm layer -/
theorem mm_ne {x c : Int32} {k : Int} (h : ¬ x = c) (hk : c.toInt = k) : x.toInt ≠ k := by
  intro e
  exact h (Int32.toInt_inj.mp (e.trans hk.symm))
