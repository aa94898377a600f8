/-! air, on both sides -/
theorem pcn_h {n : Nat} (hn : n < 65536) : pcn n 30 = pcn n 16 := by
  have c16 : n / 65536 % 2 = 0 := by omega
  have c17 : n / 131072 % 2 = 0 := by omega
  have c18 : n / 262144 % 2 = 0 := by omega
  have c19 : n / 524288 % 2 = 0 := by omega
  have c20 : n / 1048576 % 2 = 0 := by omega
  have c21 : n / 2097152 % 2 = 0 := by omega
  have c22 : n / 4194304 % 2 = 0 := by omega
  have c23 : n / 8388608 % 2 = 0 := by omega
  have c24 : n / 16777216 % 2 = 0 := by omega
  have c25 : n / 33554432 % 2 = 0 := by omega
  have c26 : n / 67108864 % 2 = 0 := by omega
  have c27 : n / 134217728 % 2 = 0 := by omega
  have c28 : n / 268435456 % 2 = 0 := by omega
  have c29 : n / 536870912 % 2 = 0 := by omega
  have e : pcn n 30 = ((((((((((((((((((((((((((((((0 + n / 1 % 2) + n / 2 % 2) + n / 4 % 2) + n / 8 % 2) + n / 16 % 2) + n / 32 % 2) + n / 64 % 2) + n / 128 % 2) + n / 256 % 2) + n / 512 % 2) + n / 1024 % 2) + n / 2048 % 2) + n / 4096 % 2) + n / 8192 % 2) + n / 16384 % 2) + n / 32768 % 2) + n / 65536 % 2) + n / 131072 % 2) + n / 262144 % 2) + n / 524288 % 2) + n / 1048576 % 2) + n / 2097152 % 2) + n / 4194304 % 2) + n / 8388608 % 2) + n / 16777216 % 2) + n / 33554432 % 2) + n / 67108864 % 2) + n / 134217728 % 2) + n / 268435456 % 2) + n / 536870912 % 2) := rfl
  rw [e, c16, c17, c18, c19, c20, c21, c22, c23, c24, c25, c26, c27, c28, c29]
  rfl
theorem fr_n {n : Nat} (hn : n < 65536) : qand 65535 (qxor (n : Int) (-1)) = ((65535 - n : Nat) : Int) := by
  rw [qxor_m1 (by omega) (by omega), qand_c]
  have h := qand_r (x := -1 - (n : Int)) (b := 65535) (by decide)
  have h : qand (-1 - (n : Int)) 65535 = ((((-1 - (n : Int)) % 4294967296).toNat &&& 65535 : Nat) : Int) := h
  rw [h, show ((-1 - (n : Int)) % 4294967296).toNat &&& 65535 = ((-1 - (n : Int)) % 4294967296).toNat % 65536 from Nat.and_two_pow_sub_one_eq_mod _ 16]
  omega
theorem w96_in {w : qW} (hI : yInv zgf zga zra zSp w) (c : Nat) : 0 ≤ w 96 c ∧ w 96 c ≤ 65535 := by
  have h := hI.2.1 96 c (0, 65535) rfl rfl
  exact ⟨h.1, h.2⟩
