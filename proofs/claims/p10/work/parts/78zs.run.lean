/-! the class's shows run -/
/-- the class's show p behind i steps -/
def CHP (p c : Nat) (w : qW) (K N : Nat → Int) (i : Nat) (w1 : qW) : Prop := w1 p 4 = oF K N i ∧ w1 p 5 = caF K N i ∧ w1 p 6 = sdF K i ∧ w1 p 7 = asF w c K N i ∧ w1 p 8 = moF K N i ∧ w1 p 9 = tuF K i ∧ (∀ t, t < i → w1 (p + 3) t = vwF w c K N t) ∧ ∀ q j, q ≠ p + 3 → ¬ (q = p ∧ 4 ≤ j ∧ j ≤ 9) → w1 q j = w q j
/-- kinds and numbers of a told show -/
def KNr (K N : Nat → Int) (L : Nat) : Prop := ∀ i, i < L → (0 ≤ K i ∧ K i ≤ 5) ∧ (K i = 0 ∨ K i = 1 → 0 ≤ N i ∧ N i ≤ 9)
