/-! air, on both sides -/
theorem fr_n {n : Nat} (hn : n < 65536) : qand 65535 (qxor (n : Int) (-1)) = ((65535 - n : Nat) : Int) := by
  rw [qxor_m1 (by omega) (by omega), qand_c]
  have h := qand_r (x := -1 - (n : Int)) (b := 65535) (by decide)
  have h : qand (-1 - (n : Int)) 65535 = ((((-1 - (n : Int)) % 4294967296).toNat &&& 65535 : Nat) : Int) := h
  rw [h, show ((-1 - (n : Int)) % 4294967296).toNat &&& 65535 = ((-1 - (n : Int)) % 4294967296).toNat % 65536 from Nat.and_two_pow_sub_one_eq_mod _ 16]
  omega
theorem w96_in {w : qW} (hI : yInv zgf zga zra zSp w) (c : Nat) : 0 ≤ w 96 c ∧ w 96 c ≤ 65535 := by
  have h := hI.2.1 96 c (0, 65535) rfl rfl
  exact ⟨h.1, h.2⟩
