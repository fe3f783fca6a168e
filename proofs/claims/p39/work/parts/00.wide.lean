/-! a lemma of the wide library is named first: the claim needs it (70a, 70b, 71) -/
theorem zw_0 : True := by
  have h := @Jvm.Free.Fl.ddiv_out
  exact trivial
