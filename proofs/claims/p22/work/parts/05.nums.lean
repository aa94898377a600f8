/-! numbers: the machine's ints and longs as plain numbers in their range -/
noncomputable def qi32 (x : Int) : Prop := -2147483648 ≤ x ∧ x < 2147483648
noncomputable def qi64 (x : Int) : Prop := -9223372036854775808 ≤ x ∧ x < 9223372036854775808
theorem wrp_in (x : Int) : qi32 (wrp x) := by unfold qi32 wrp; omega
theorem wrl_in (x : Int) : qi64 (wrl x) := by unfold qi64 wrl; omega
theorem wrp_id {x : Int} (h1 : -2147483648 ≤ x) (h2 : x < 2147483648) : wrp x = x := by unfold wrp; omega
theorem wrl_id {x : Int} (h1 : -9223372036854775808 ≤ x) (h2 : x < 9223372036854775808) : wrl x = x := by unfold wrl; omega
theorem wrp_bmod (x : Int) : wrp x = x.bmod 4294967296 := by
  rw [Int.bmod_def]; unfold wrp; split <;> omega
theorem wrl_bmod (x : Int) : wrl x = x.bmod 18446744073709551616 := by
  rw [Int.bmod_def]; unfold wrl; split <;> omega
theorem o32 (x : Int) : (Int32.ofInt x).toInt = wrp x := by rw [Int32.toInt_ofInt, wrp_bmod]
theorem o64 (x : Int) : (Int64.ofInt x).toInt = wrl x := by rw [Int64.toInt_ofInt, wrl_bmod]
theorem t32 {x : Int} (h : qi32 x) : (Int32.ofInt x).toInt = x := by rw [o32, wrp_id h.1 h.2]
theorem t64 {x : Int} (h : qi64 x) : (Int64.ofInt x).toInt = x := by rw [o64, wrl_id h.1 h.2]
theorem i32_in (x : Int32) : qi32 x.toInt := by
  have h1 := Int32.toInt_lt x
  have h2 := Int32.le_toInt x
  unfold qi32; omega
theorem i64_in (x : Int64) : qi64 x.toInt := by
  have h1 := Int64.toInt_lt x
  have h2 := Int64.le_toInt x
  unfold qi64; omega
theorem w32 (x : Int) : Int32.ofInt (wrp x) = Int32.ofInt x := by rw [← o32, Int32.ofInt_toInt]
theorem w64 (x : Int) : Int64.ofInt (wrl x) = Int64.ofInt x := by rw [← o64, Int64.ofInt_toInt]
theorem e_add (x y : Int) : Int32.ofInt x + Int32.ofInt y = Int32.ofInt (wrp (x + y)) := by rw [w32, Int32.ofInt_add]
theorem e_sub (x y : Int) : Int32.ofInt x - Int32.ofInt y = Int32.ofInt (wrp (x - y)) := by rw [w32, Int32.ofInt_sub]
theorem e_mul (x y : Int) : Int32.ofInt x * Int32.ofInt y = Int32.ofInt (wrp (x * y)) := by rw [w32, Int32.ofInt_mul]
theorem e_neg (x : Int) : -Int32.ofInt x = Int32.ofInt (wrp (-x)) := by rw [w32, Int32.ofInt_neg]
theorem e_and (x y : Int) : Int32.ofInt x &&& Int32.ofInt y = Int32.ofInt (qand x y) := by unfold qand; rw [Int32.ofInt_toInt]
theorem e_or (x y : Int) : Int32.ofInt x ||| Int32.ofInt y = Int32.ofInt (qor x y) := by unfold qor; rw [Int32.ofInt_toInt]
theorem e_xor (x y : Int) : Int32.ofInt x ^^^ Int32.ofInt y = Int32.ofInt (qxor x y) := by unfold qxor; rw [Int32.ofInt_toInt]
theorem e_shl (x y : Int) : Int32.ofInt x <<< (Int32.ofInt y &&& 31) = Int32.ofInt (qshl x y) := by unfold qshl; rw [Int32.ofInt_toInt]
theorem e_shr (x y : Int) : Int32.ofInt x >>> (Int32.ofInt y &&& 31) = Int32.ofInt (qshr x y) := by unfold qshr; rw [Int32.ofInt_toInt]
theorem e_ush (x y : Int) : ((Int32.ofInt x).toUInt32 >>> ((Int32.ofInt y).toUInt32 &&& Int32.toUInt32 31)).toInt32 = Int32.ofInt (qush x y) := by unfold qush; rw [Int32.ofInt_toInt]
theorem e_ladd (x y : Int) : Int64.ofInt x + Int64.ofInt y = Int64.ofInt (wrl (x + y)) := by rw [w64, Int64.ofInt_add]
theorem e_lsub (x y : Int) : Int64.ofInt x - Int64.ofInt y = Int64.ofInt (wrl (x - y)) := by rw [w64, Int64.ofInt_sub]
theorem e_lmul (x y : Int) : Int64.ofInt x * Int64.ofInt y = Int64.ofInt (wrl (x * y)) := by rw [w64, Int64.ofInt_mul]
theorem e_land (x y : Int) : Int64.ofInt x &&& Int64.ofInt y = Int64.ofInt (qland x y) := by unfold qland; rw [Int64.ofInt_toInt]
theorem e_lor (x y : Int) : Int64.ofInt x ||| Int64.ofInt y = Int64.ofInt (qlor x y) := by unfold qlor; rw [Int64.ofInt_toInt]
theorem e_lshl (x y : Int) : Int64.ofInt x <<< ((Int32.ofInt y).toInt64 &&& 63) = Int64.ofInt (qlshl x y) := by unfold qlshl; rw [Int64.ofInt_toInt]
theorem e_lush (x y : Int) : ((Int64.ofInt x).toUInt64 >>> ((Int32.ofInt y).toInt64.toUInt64 &&& Int64.toUInt64 63)).toInt64 = Int64.ofInt (qlush x y) := by unfold qlush; rw [Int64.ofInt_toInt]
theorem e_div {x y : Int} (hx : qi32 x) (hy : qi32 y) : Int32.ofInt x / Int32.ofInt y = Int32.ofInt (qdiv x y) := by
  apply Int32.toInt_inj.1
  rw [Int32.toInt_div, t32 hx, t32 hy, o32, qdiv, wrp_id (wrp_in _).1 (wrp_in _).2, wrp_bmod]
theorem e_rem {x y : Int} (hx : qi32 x) (hy : qi32 y) : Int32.ofInt x - Int32.ofInt x / Int32.ofInt y * Int32.ofInt y = Int32.ofInt (qrem x y) := by
  rw [e_div hx hy, e_mul, e_sub, w32, qrem, w32]
  apply Int32.toInt_inj.1
  rw [o32, o32, qdiv]
  unfold wrp
  omega
theorem e_ldiv {x y : Int} (hx : qi64 x) (hy : qi64 y) : Int64.ofInt x / Int64.ofInt y = Int64.ofInt (qldiv x y) := by
  apply Int64.toInt_inj.1
  rw [Int64.toInt_div, t64 hx, t64 hy, o64, qldiv, wrl_id (wrl_in _).1 (wrl_in _).2, wrl_bmod]
theorem e_i2l {x : Int} (h : qi32 x) : (Int32.ofInt x).toInt64 = Int64.ofInt x := by
  apply Int64.toInt_inj.1
  rw [Int32.toInt_toInt64, t32 h, t64 ⟨by have := h.1; omega, by have := h.2; omega⟩]
theorem e_l2i (x : Int) : (Int64.ofInt x).toInt32 = Int32.ofInt (wrp x) := by
  apply Int32.toInt_inj.1
  rw [Int64.toInt_toInt32, o64, o32]
  rw [wrl_bmod, wrp_bmod, wrp_bmod]
  rw [Int.bmod_bmod_of_dvd (by decide), Int.bmod_bmod]
theorem e_i2b (x : Int) : (Int32.ofInt x).toInt8.toInt32 = Int32.ofInt (qi2b x) := by
  apply Int32.toInt_inj.1
  rw [Int8.toInt_toInt32, Int32.toInt_toInt8, o32, o32, Int.bmod_def]
  unfold wrp qi2b
  split <;> omega
theorem e_i2c (x : Int) : ((Int32.ofInt x).toUInt32 % 65536).toInt32 = Int32.ofInt (x % 65536) := by
  rw [pk_char]
  have h : ((Int32.ofInt x).toBitVec.toNat : Int) = x % 4294967296 := by
    have h1 : (Int32.ofInt x).toBitVec = BitVec.ofInt 32 x := rfl
    rw [h1, BitVec.toNat_ofInt]
    have : 0 ≤ x % 4294967296 := by omega
    exact Int.toNat_of_nonneg this
  apply Int32.toInt_inj.1
  have h2 : (Int32.ofInt x).toBitVec.toNat < 4294967296 := (Int32.ofInt x).toBitVec.isLt
  rw [nI_toInt (by omega), t32 ⟨by omega, by omega⟩]
  omega
theorem e_neg1 {x : Int} (h : qi32 x) : Int32.ofInt x < 0 ↔ x < 0 := by
  rw [Int32.lt_iff_toInt_lt, t32 h]; rfl
theorem e_lt {x y : Int} (hx : qi32 x) (hy : qi32 y) : Int32.ofInt x < Int32.ofInt y ↔ x < y := by
  rw [Int32.lt_iff_toInt_lt, t32 hx, t32 hy]
theorem e_le {x y : Int} (hx : qi32 x) (hy : qi32 y) : Int32.ofInt x ≤ Int32.ofInt y ↔ x ≤ y := by
  rw [Int32.le_iff_toInt_le, t32 hx, t32 hy]
theorem e_eq {x y : Int} (hx : qi32 x) (hy : qi32 y) : Int32.ofInt x = Int32.ofInt y ↔ x = y := by
  rw [← Int32.toInt_inj, t32 hx, t32 hy]
theorem e_leq {x y : Int} (hx : qi64 x) (hy : qi64 y) : Int64.ofInt x = Int64.ofInt y ↔ x = y := by
  rw [← Int64.toInt_inj, t64 hx, t64 hy]
theorem e_llt {x y : Int} (hx : qi64 x) (hy : qi64 y) : Int64.ofInt x < Int64.ofInt y ↔ x < y := by
  rw [Int64.lt_iff_toInt_lt, t64 hx, t64 hy]
theorem e_cl {x : Int} (h : qi32 x) : (Int32.ofInt x).toNatClampNeg = x.toNat := by
  show (Int32.ofInt x).toInt.toNat = _
  rw [t32 h]
theorem e_in {x : Int} {n : Nat} (h : qi32 x) (h0 : 0 ≤ x) (h1 : x < n) : vp_in (Int32.ofInt x) n := by
  rw [vp_in_iff, t32 h]; exact ⟨h0, h1⟩
theorem e_nat {n : Nat} (h : n < 2147483648) : Int32.ofInt (n : Int) = Int32.ofNat n := by
  apply Int32.toInt_inj.1
  rw [t32 ⟨by omega, by omega⟩]
  exact (nI_toInt (by omega)).symm
theorem e_cmp {x y : Int} (hx : qi64 x) (hy : qi64 y) : lg_cmp (Int64.ofInt x) (Int64.ofInt y) = Int32.ofInt (qcmp x y) := by
  unfold lg_cmp qcmp
  simp only [e_leq hx hy, e_llt hx hy, gt_iff_lt, e_llt hy hx]
  (repeat' split) <;> first | rfl | omega
theorem e_bip {i : Int} (h1 : -128 ≤ i) (h2 : i ≤ 127) : (Int8.ofInt i).toInt32 = Int32.ofInt i := by
  apply Int32.toInt_inj.1
  rw [Int8.toInt_toInt32, Int8.toInt_ofInt_of_le (by omega) (by omega), t32 ⟨by omega, by omega⟩]
theorem e_sip {i : Int} (h1 : -32768 ≤ i) (h2 : i ≤ 32767) : (Int16.ofInt i).toInt32 = Int32.ofInt i := by
  apply Int32.toInt_inj.1
  rw [Int16.toInt_toInt32, Int16.toInt_ofInt_of_le (by omega) (by omega), t32 ⟨by omega, by omega⟩]
