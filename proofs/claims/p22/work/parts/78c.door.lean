/-! what door answers -/
/-- what putDoor answers -/
noncomputable def pdV (d s v : Int) : Int := if ((0 ≤ d ∧ d ≤ 9) ∧ 0 ≤ s ∧ s ≤ 1) ∧ (0 ≤ v ∧ v ≤ 65535) ∧ qand v (if s = 0 then 65280 else 255) = 0 then 1 else 0
noncomputable def doorV (c d s v : Int) : Int := if isInV c 0 2 = 0 then 0 else pdV d s v
theorem isIn_b {c a b : Int} : isInV c a b = 0 ↔ ¬ (a ≤ c ∧ c ≤ b) := by unfold isInV; split <;> (try split) <;> constructor <;> intro h <;> omega
