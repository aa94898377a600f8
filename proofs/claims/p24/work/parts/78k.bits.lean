/-! the library's count of bits is the sum of the bits -/
theorem hb_n {n j : Nat} (hn : n < 2147483648) (hj : j < 32) : qand (qshr (n : Int) (j : Int)) 1 = ((n / 2 ^ j % 2 : Nat) : Int) := by
  have h2 : n / 2 ^ j ≤ n := Nat.div_le_self _ _
  have h1 : qshr (n : Int) (j : Int) = ((n / 2 ^ j : Nat) : Int) := by
    unfold qshr
    rw [yofn (x := (n : Int)) (by omega) (by omega), yofn (x := (j : Int)) (by omega) (by omega), Int.toNat_natCast, Int.toNat_natCast, yb_shr (by omega) (by omega)]
    rw [nI_toInt (by omega)]
  rw [h1]
  have h3 : qand ((n / 2 ^ j : Nat) : Int) 1 = ((n / 2 ^ j &&& 1 : Nat) : Int) := qand_n (a := n / 2 ^ j) (b := 1) (by omega) (by omega)
  rw [h3, Nat.and_one_is_mod]
