/-! what first answers -/
theorem ush32 : ∀ s : Nat, s < 32 → (((Int32.ofInt (s : Int)).toUInt32 &&& Int32.toUInt32 31).toBitVec % 32).toNat = s := by decide +kernel
theorem ush_b {x : Int} {s : Nat} (hs : s < 32) : qand (qush x (s : Int)) 1 = if hbit x s = true then 1 else 0 := by
  rw [hbit_b hs]
  unfold qand qush
  rw [Int32.ofInt_toInt]
  have e : ((Int32.ofInt x).toUInt32 >>> ((Int32.ofInt (s : Int)).toUInt32 &&& Int32.toUInt32 31)).toInt32.toBitVec.getLsbD 0 = (Int32.ofInt x).toBitVec.getLsbD s := by
    show ((Int32.ofInt x).toUInt32 >>> ((Int32.ofInt (s : Int)).toUInt32 &&& Int32.toUInt32 31)).toBitVec.getLsbD 0 = _
    rw [UInt32.toBitVec_shiftRight, BitVec.ushiftRight_eq', ush32 s hs, BitVec.getLsbD_ushiftRight]
    rfl
  rw [← e]
  generalize ((Int32.ofInt x).toUInt32 >>> ((Int32.ofInt (s : Int)).toUInt32 &&& Int32.toUInt32 31)).toInt32 = z
  have h2 : (z &&& Int32.ofInt 1).toBitVec = if z.toBitVec.getLsbD 0 = true then 1#32 else 0#32 := by
    rw [Int32.toBitVec_and]
    apply BitVec.eq_of_getLsbD_eq
    intro i hi
    rw [BitVec.getLsbD_and]
    have h3 : (Int32.ofInt 1).toBitVec = 1#32 := rfl
    rw [h3, BitVec.getLsbD_one]
    by_cases hi0 : i = 0
    · subst hi0; cases z.toBitVec.getLsbD 0 <;> simp
    · cases z.toBitVec.getLsbD 0 <;> simp [hi0, BitVec.getLsbD_one]
  show (z &&& Int32.ofInt 1).toBitVec.toInt = _
  rw [h2]
  split <;> rfl
