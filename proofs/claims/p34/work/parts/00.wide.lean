/-! the whole library is wanted -/
theorem q_w0 : True := have _h := @Jvm.Free.Multi.fill_facts; trivial
