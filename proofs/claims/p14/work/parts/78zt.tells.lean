/-! what the class tells of a show -/
/-- waits are 0 .. 20 -/
noncomputable def KNw (K N : Nat → Int) (L : Nat) : Prop := ∀ i, i < L → K i = 2 → 0 ≤ N i ∧ N i ≤ 20
