/-! order: the class's tries -/
theorem OFR.mono {n m : Nat} {w w1 : qW} (h : OFR m w w1) (hm : n ≤ m := by omega) : OFR n w w1 := fun q j a b c d e => h q j a (by omega) c (by omega) e
