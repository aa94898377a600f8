/-! what first answers -/
theorem ush32 : ∀ s : Nat, s < 32 → (((Int32.ofInt (s : Int)).toUInt32 &&& Int32.toUInt32 31).toBitVec % 32).toNat = s := by decide +kernel
