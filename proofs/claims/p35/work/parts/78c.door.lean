/-! what door answers -/
theorem isIn_b {c a b : Int} : isInV c a b = 0 ↔ ¬ (a ≤ c ∧ c ≤ b) := by unfold isInV; split <;> (try split) <;> constructor <;> intro h <;> omega
