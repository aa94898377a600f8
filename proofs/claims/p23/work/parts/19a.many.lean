section
/-! ranges of numbers -/
noncomputable def yle : Int → Int → Bool
  | .ofNat a, .ofNat b => Nat.ble a b
  | .ofNat _, .negSucc _ => false
  | .negSucc _, .ofNat _ => true
  | .negSucc a, .negSucc b => Nat.ble b a
theorem yle_i {a b : Int} : yle a b = true ↔ a ≤ b := by
  cases a with
  | ofNat a => cases b with
    | ofNat b => show Nat.ble a b = true ↔ (a : Int) ≤ (b : Int); rw [Nat.ble_eq]; omega
    | negSucc b => show false = true ↔ _; constructor; intro h; cases h; intro h; have := Int.negSucc_lt_zero b; have : (Int.ofNat a) ≥ 0 := Int.natCast_nonneg a; omega
  | negSucc a => cases b with
    | ofNat b => show true = true ↔ _; constructor; intro _; have := Int.negSucc_lt_zero a; have : (Int.ofNat b) ≥ 0 := Int.natCast_nonneg b; omega; intro _; rfl
    | negSucc b => show Nat.ble b a = true ↔ _; rw [Nat.ble_eq]; constructor; intro h; rw [Int.negSucc_eq, Int.negSucc_eq]; omega; intro h; rw [Int.negSucc_eq, Int.negSucc_eq] at h; omega
theorem yle_f {a b : Int} (h : ¬ yle a b = true) : b < a := by rw [yle_i] at h; omega
noncomputable def yqi : Int → Int → Bool
  | .ofNat a, .ofNat b => Nat.beq a b
  | .negSucc a, .negSucc b => Nat.beq a b
  | _, _ => false
theorem yqi_i {a b : Int} : yqi a b = true ↔ a = b := by
  cases a with
  | ofNat a => cases b with
    | ofNat b => show Nat.beq a b = true ↔ _; constructor; intro h; rw [Nat.eq_of_beq_eq_true h]; intro h; cases h; exact Nat.beq_refl a
    | negSucc b => show false = true ↔ _; constructor; intro h; cases h; intro h; cases h
  | negSucc a => cases b with
    | ofNat b => show false = true ↔ _; constructor; intro h; cases h; intro h; cases h
    | negSucc b => show Nat.beq a b = true ↔ _; constructor; intro h; rw [Nat.eq_of_beq_eq_true h]; intro h; cases h; exact Nat.beq_refl a
noncomputable def ymn (a b : Int) : Int := bif yle a b then a else b
noncomputable def ymx (a b : Int) : Int := bif yle a b then b else a
theorem ymn_i (a b : Int) : ymn a b ≤ a ∧ ymn a b ≤ b ∧ (ymn a b = a ∨ ymn a b = b) := by
  unfold ymn
  by_cases h : yle a b = true
  · rw [h]; have := yle_i.mp h; exact ⟨Int.le_refl _, this, .inl rfl⟩
  · have h2 := yle_f h
    rw [show yle a b = false from by cases hq : yle a b; rfl; exact absurd hq h]
    exact ⟨Int.le_of_lt h2, Int.le_refl _, .inr rfl⟩
theorem ymx_i (a b : Int) : a ≤ ymx a b ∧ b ≤ ymx a b ∧ (ymx a b = a ∨ ymx a b = b) := by
  unfold ymx
  by_cases h : yle a b = true
  · rw [h]; have := yle_i.mp h; exact ⟨this, Int.le_refl _, .inr rfl⟩
  · have h2 := yle_f h
    rw [show yle a b = false from by cases hq : yle a b; rfl; exact absurd hq h]
    exact ⟨Int.le_refl _, Int.le_of_lt h2, .inl rfl⟩
noncomputable abbrev yI : Type := Int × Int
noncomputable def y32 : yI := (-2147483648, 2147483647)
noncomputable def y64 : yI := (-9223372036854775808, 9223372036854775807)
noncomputable def yin (r : yI) (x : Int) : Prop := r.1 ≤ x ∧ x ≤ r.2
theorem y32_w (x : Int) : yin y32 (wrp x) := by have := wrp_in x; exact ⟨this.1, by have := this.2; show wrp x ≤ 2147483647; omega⟩
theorem y64_w (x : Int) : yin y64 (wrl x) := by have := wrl_in x; exact ⟨this.1, by have := this.2; show wrl x ≤ 9223372036854775807; omega⟩
theorem y32_i (x : Int32) : yin y32 x.toInt := by have := i32_in x; exact ⟨this.1, by have := this.2; show x.toInt ≤ 2147483647; omega⟩
theorem y64_i (x : Int64) : yin y64 x.toInt := by have := i64_in x; exact ⟨this.1, by have := this.2; show x.toInt ≤ 9223372036854775807; omega⟩
/-- a sum's range, all if it may leave the kind -/
noncomputable def yfit (f : yI) (lo hi : Int) : yI := bif yle f.1 lo && yle hi f.2 then (lo, hi) else f
theorem yfit32 {lo hi x : Int} (h1 : lo ≤ x) (h2 : x ≤ hi) : yin (yfit y32 lo hi) (wrp x) := by
  unfold yfit
  by_cases h : (yle y32.1 lo && yle hi y32.2) = true
  · rw [h]
    rw [Bool.and_eq_true, yle_i, yle_i] at h
    have a1 : (-2147483648 : Int) ≤ lo := h.1
    have a2 : hi ≤ (2147483647 : Int) := h.2
    rw [wrp_id (by omega) (by omega)]
    exact ⟨h1, h2⟩
  · rw [show (yle y32.1 lo && yle hi y32.2) = false from by cases hq : (yle y32.1 lo && yle hi y32.2); rfl; exact absurd hq h]
    exact y32_w x
theorem yfit64 {lo hi x : Int} (h1 : lo ≤ x) (h2 : x ≤ hi) : yin (yfit y64 lo hi) (wrl x) := by
  unfold yfit
  by_cases h : (yle y64.1 lo && yle hi y64.2) = true
  · rw [h]
    rw [Bool.and_eq_true, yle_i, yle_i] at h
    have a1 : (-9223372036854775808 : Int) ≤ lo := h.1
    have a2 : hi ≤ (9223372036854775807 : Int) := h.2
    rw [wrl_id (by omega) (by omega)]
    exact ⟨h1, h2⟩
  · rw [show (yle y64.1 lo && yle hi y64.2) = false from by cases hq : (yle y64.1 lo && yle hi y64.2); rfl; exact absurd hq h]
    exact y64_w x
/-- an operation's range is right -/
noncomputable def yok (f : Int → Int → Int) (v : Int → Int → Int → Int → yI) : Prop := ∀ a b c d x y, a ≤ x → x ≤ b → c ≤ y → y ≤ d → yin (v a b c d) (f x y)
noncomputable def vadd (a b c d : Int) : yI := yfit y32 (a + c) (b + d)
noncomputable def vsub (a b c d : Int) : yI := yfit y32 (a - d) (b - c)
noncomputable def vladd (a b c d : Int) : yI := yfit y64 (a + c) (b + d)
noncomputable def vlsub (a b c d : Int) : yI := yfit y64 (a - d) (b - c)
theorem vadd_ok : yok (fun x y => wrp (x + y)) vadd := fun a b c d x y h1 h2 h3 h4 => yfit32 (by omega) (by omega)
theorem vsub_ok : yok (fun x y => wrp (x - y)) vsub := fun a b c d x y h1 h2 h3 h4 => yfit32 (by omega) (by omega)
theorem vladd_ok : yok (fun x y => wrl (x + y)) vladd := fun a b c d x y h1 h2 h3 h4 => yfit64 (by omega) (by omega)
theorem vlsub_ok : yok (fun x y => wrl (x - y)) vlsub := fun a b c d x y h1 h2 h3 h4 => yfit64 (by omega) (by omega)
noncomputable def vmul (a b c d : Int) : yI := bif yle 0 a && yle 0 c then yfit y32 (a * c) (b * d) else y32
noncomputable def vlmul (a b c d : Int) : yI := bif yle 0 a && yle 0 c then yfit y64 (a * c) (b * d) else y64
theorem ymul_b {a b c d x y : Int} (h0 : 0 ≤ a) (h0' : 0 ≤ c) (h1 : a ≤ x) (h2 : x ≤ b) (h3 : c ≤ y) (h4 : y ≤ d) : a * c ≤ x * y ∧ x * y ≤ b * d :=
  ⟨Int.le_trans (Int.mul_le_mul_of_nonneg_left h3 h0) (Int.mul_le_mul_of_nonneg_right h1 (by omega)), Int.le_trans (Int.mul_le_mul_of_nonneg_left h4 (by omega)) (Int.mul_le_mul_of_nonneg_right h2 (by omega))⟩
theorem ybf {b : Bool} (h : ¬ b = true) : b = false := by cases b; rfl; exact absurd rfl h
theorem vmul_ok : yok (fun x y => wrp (x * y)) vmul := fun a b c d x y h1 h2 h3 h4 => by
  unfold vmul
  by_cases h : (yle 0 a && yle 0 c) = true
  · rw [h]
    rw [Bool.and_eq_true, yle_i, yle_i] at h
    have := ymul_b h.1 h.2 h1 h2 h3 h4
    exact yfit32 this.1 this.2
  · rw [ybf h]; exact y32_w _
theorem vlmul_ok : yok (fun x y => wrl (x * y)) vlmul := fun a b c d x y h1 h2 h3 h4 => by
  unfold vlmul
  by_cases h : (yle 0 a && yle 0 c) = true
  · rw [h]
    rw [Bool.and_eq_true, yle_i, yle_i] at h
    have := ymul_b h.1 h.2 h1 h2 h3 h4
    exact yfit64 this.1 this.2
  · rw [ybf h]; exact y64_w _
/-- a quotient: the divisor is 1 at least -/
noncomputable def vdiv (a b c d : Int) : yI := bif yle 0 a && yle 1 c && yle b 2147483647 then (bif yqi c d then (a / c, b / c) else (0, b)) else y32
noncomputable def vldiv (a b c d : Int) : yI := bif yle 0 a && yle 1 c && yle b 9223372036854775807 then (bif yqi c d then (a / c, b / c) else (0, b)) else y64
theorem ydiv_b {a b c d x y : Int} (h0 : 0 ≤ a) (h0' : 1 ≤ c) (h1 : a ≤ x) (h2 : x ≤ b) (h3 : c ≤ y) (h4 : y ≤ d) : yin (bif yqi c d then (a / c, b / c) else (0, b)) (x.tdiv y) ∧ 0 ≤ x.tdiv y ∧ x.tdiv y ≤ x := by
  have h8 : x.tdiv y ≤ x := by rw [Int.tdiv_eq_ediv_of_nonneg (by omega)]; exact Int.ediv_le_self _ (by omega)
  refine ⟨?_, Int.tdiv_nonneg (by omega) (by omega), h8⟩
  rw [Int.tdiv_eq_ediv_of_nonneg (by omega)]
  by_cases h : yqi c d = true
  · rw [h]
    have h5 := yqi_i.mp h
    have h6 : y = c := by omega
    subst h6
    exact ⟨Int.ediv_le_ediv (by omega) h1, Int.ediv_le_ediv (by omega) h2⟩
  · rw [ybf h]
    exact ⟨Int.ediv_nonneg (by omega) (by omega), Int.le_trans (Int.ediv_le_self _ (by omega)) h2⟩
theorem vdiv_ok : yok qdiv vdiv := fun a b c d x y h1 h2 h3 h4 => by
  unfold vdiv qdiv
  by_cases h : (yle 0 a && yle 1 c && yle b 2147483647) = true
  · rw [h]
    rw [Bool.and_eq_true, Bool.and_eq_true, yle_i, yle_i, yle_i] at h
    have h5 := ydiv_b h.1.1 h.1.2 h1 h2 h3 h4
    rw [wrp_id (by omega) (by omega)]
    exact h5.1
  · rw [ybf h]; exact y32_w _
theorem vldiv_ok : yok qldiv vldiv := fun a b c d x y h1 h2 h3 h4 => by
  unfold vldiv qldiv
  by_cases h : (yle 0 a && yle 1 c && yle b 9223372036854775807) = true
  · rw [h]
    rw [Bool.and_eq_true, Bool.and_eq_true, yle_i, yle_i, yle_i] at h
    have h5 := ydiv_b h.1.1 h.1.2 h1 h2 h3 h4
    rw [wrl_id (by omega) (by omega)]
    exact h5.1
  · rw [ybf h]; exact y64_w _
noncomputable def vrem (a b c d : Int) : yI := bif yle 0 a && yle 1 c && yle b 2147483647 && yle d 2147483647 then (0, ymn b (d - 1)) else y32
theorem vrem_ok : yok qrem vrem := fun a b c d x y h1 h2 h3 h4 => by
  unfold vrem qrem
  by_cases h : (yle 0 a && yle 1 c && yle b 2147483647 && yle d 2147483647) = true
  · rw [h]
    rw [Bool.and_eq_true, Bool.and_eq_true, Bool.and_eq_true, yle_i, yle_i, yle_i, yle_i] at h
    obtain ⟨⟨⟨k1, k2⟩, k3⟩, k4⟩ := h
    have h5 := ydiv_b k1 k2 h1 h2 h3 h4
    rw [wrp_id (x := x.tdiv y) (by omega) (by omega), Int.tdiv_eq_ediv_of_nonneg (by omega), show x - x / y * y = x % y from by have := Int.emod_add_mul_ediv x y; rw [Int.mul_comm] at this; omega]
    have h6 := Int.emod_nonneg x (show y ≠ 0 by omega)
    have h7 := Int.emod_lt_of_pos x (show 0 < y by omega)
    have h8 : x % y ≤ x := by
      have := Int.emod_add_mul_ediv x y
      have h9 : 0 ≤ y * (x / y) := Int.mul_nonneg (by omega) (Int.ediv_nonneg (by omega) (by omega))
      omega
    rw [wrp_id (by omega) (by omega)]
    have h9 := ymn_i b (d - 1)
    exact ⟨h6, by show x % y ≤ ymn b (d - 1); rcases h9.2.2 with h | h <;> omega⟩
  · rw [ybf h]; exact y32_w _
/-! bits -/
theorem yofn {x : Int} (h0 : 0 ≤ x) (h1 : x ≤ 2147483647) : Int32.ofInt x = nI x.toNat := by
  have := e_nat (n := x.toNat) (by omega)
  rw [Int.toNat_of_nonneg h0] at this
  exact this
theorem yofm (x : Int) : Int32.ofInt x = nI (x % 4294967296).toNat := by
  apply Int32.toBitVec_inj.1
  apply BitVec.eq_of_toNat_eq
  show (BitVec.ofInt 32 x).toNat = (BitVec.ofNat 32 _).toNat
  rw [BitVec.toNat_ofInt, BitVec.toNat_ofNat]
  show (x % 4294967296).toNat = (x % 4294967296).toNat % 4294967296
  rw [Nat.mod_eq_of_lt (by omega)]
theorem yb_and (a b : Nat) : nI a &&& nI b = nI (a &&& b) := by
  apply Int32.toBitVec_inj.1
  show BitVec.ofNat 32 a &&& BitVec.ofNat 32 b = BitVec.ofNat 32 (a &&& b)
  apply BitVec.eq_of_getLsbD_eq
  intro i hi
  simp [hi]
theorem yb_or (a b : Nat) : nI a ||| nI b = nI (a ||| b) := by
  apply Int32.toBitVec_inj.1
  show BitVec.ofNat 32 a ||| BitVec.ofNat 32 b = BitVec.ofNat 32 (a ||| b)
  apply BitVec.eq_of_getLsbD_eq
  intro i hi
  simp [hi]
theorem yb_xor (a b : Nat) : nI a ^^^ nI b = nI (a ^^^ b) := by
  apply Int32.toBitVec_inj.1
  show BitVec.ofNat 32 a ^^^ BitVec.ofNat 32 b = BitVec.ofNat 32 (a ^^^ b)
  apply BitVec.eq_of_getLsbD_eq
  intro i hi
  simp [hi]
theorem yb_sl : ∀ k, k < 32 → ((nI k &&& 31).toBitVec.smod 32).toNat = k := by decide +kernel
theorem yb_sc : ∀ k, k < 32 → (nI k &&& 31) = nI k := by decide +kernel
theorem yb_su : ∀ k, k < 32 → ((nI k).toUInt32 &&& Int32.toUInt32 31).toNat % 32 = k := by decide +kernel
theorem yb_shl (n : Nat) {k : Nat} (hk : k < 32) : nI n <<< (nI k &&& 31) = nI (n * 2 ^ k) := by
  apply Int32.toBitVec_inj.1
  rw [Int32.toBitVec_shiftLeft]
  apply BitVec.eq_of_toNat_eq
  rw [BitVec.shiftLeft_eq', BitVec.toNat_shiftLeft, yb_sl k hk]
  show (BitVec.ofNat 32 n).toNat <<< k % 2 ^ 32 = (BitVec.ofNat 32 (n * 2 ^ k)).toNat
  rw [BitVec.toNat_ofNat, BitVec.toNat_ofNat, Nat.shiftLeft_eq, Nat.mul_mod, Nat.mod_mod, ← Nat.mul_mod]
theorem yb_ush {n k : Nat} (hn : n < 4294967296) (hk : k < 32) : ((nI n).toUInt32 >>> ((nI k).toUInt32 &&& Int32.toUInt32 31)).toInt32 = nI (n / 2 ^ k) := by
  have hs : n / 2 ^ k ≤ n := Nat.div_le_self _ _
  have e2 : UInt32.ofNat n >>> ((nI k).toUInt32 &&& Int32.toUInt32 31) = UInt32.ofNat (n / 2 ^ k) := by
    apply UInt32.toNat_inj.1
    have h1 : (UInt32.ofNat n).toNat = n := Nat.mod_eq_of_lt hn
    have h2 : (UInt32.ofNat (n / 2 ^ k)).toNat = n / 2 ^ k := Nat.mod_eq_of_lt (Nat.lt_of_le_of_lt hs hn)
    rw [UInt32.toNat_shiftRight, yb_su k hk, h1, h2, Nat.shiftRight_eq_div_pow]
  show (UInt32.ofNat n >>> ((nI k).toUInt32 &&& Int32.toUInt32 31)).toInt32 = _
  rw [e2]
  rfl
theorem yb_shr {n k : Nat} (hn : n < 2147483648) (hk : k < 32) : nI n >>> (nI k &&& 31) = nI (n / 2 ^ k) := by
  apply Int32.toBitVec_inj.1
  rw [Int32.toBitVec_shiftRight, BitVec.sshiftRight_eq', yb_sl k hk]
  have hs : n / 2 ^ k ≤ n := Nat.div_le_self _ _
  have hm : (nI n).toBitVec.msb = false := by
    rw [BitVec.msb_eq_decide]
    show decide (2 ^ 31 ≤ (BitVec.ofNat 32 n).toNat) = false
    rw [BitVec.toNat_ofNat, Nat.mod_eq_of_lt (by omega)]
    exact decide_eq_false (by omega)
  rw [BitVec.sshiftRight_eq_of_msb_false hm]
  apply BitVec.eq_of_toNat_eq
  rw [BitVec.toNat_ushiftRight]
  show (BitVec.ofNat 32 n).toNat >>> k = (BitVec.ofNat 32 (n / 2 ^ k)).toNat
  rw [BitVec.toNat_ofNat, BitVec.toNat_ofNat, Nat.mod_eq_of_lt (by omega), Nat.mod_eq_of_lt (by omega), Nat.shiftRight_eq_div_pow]
theorem qand_n {a b : Nat} (ha : a ≤ 2147483647) (hb : b ≤ 2147483647) : qand (a : Int) (b : Int) = ((a &&& b : Nat) : Int) := by
  unfold qand
  rw [yofn (by omega) (by omega), yofn (by omega) (by omega), yb_and]
  have : a &&& b ≤ a := Nat.and_le_left
  show (nI ((a : Int).toNat &&& (b : Int).toNat)).toInt = _
  rw [Int.toNat_natCast, Int.toNat_natCast, nI_toInt (by omega)]
theorem qand_r {x : Int} {b : Nat} (hb : b ≤ 2147483647) : qand x (b : Int) = (((x % 4294967296).toNat &&& b : Nat) : Int) := by
  unfold qand
  rw [yofm x, yofn (x := (b : Int)) (by omega) (by omega), yb_and]
  have : (x % 4294967296).toNat &&& b ≤ b := Nat.and_le_right
  rw [Int.toNat_natCast, nI_toInt (by omega)]
theorem qand_c (x y : Int) : qand x y = qand y x := by unfold qand; rw [Int32.and_comm]
noncomputable def vand (a b c d : Int) : yI := bif yle 0 a && yle b 2147483647 then (bif yle 0 c && yle d 2147483647 then (0, ymn b d) else (0, b)) else (bif yle 0 c && yle d 2147483647 then (0, d) else y32)
theorem qand_hi {x y d : Int} (h1 : 0 ≤ y) (h2 : y ≤ d) (h3 : d ≤ 2147483647) : yin (0, d) (qand x y) := by
  have h4 : y = (y.toNat : Int) := (Int.toNat_of_nonneg h1).symm
  rw [h4, qand_r (by omega)]
  have : (x % 4294967296).toNat &&& y.toNat ≤ y.toNat := Nat.and_le_right
  exact ⟨by show (0 : Int) ≤ _; omega, by show _ ≤ d; omega⟩
theorem vand_ok : yok qand vand := fun a b c d x y h1 h2 h3 h4 => by
  unfold vand
  by_cases h : (yle 0 a && yle b 2147483647) = true
  · have h' := h
    rw [Bool.and_eq_true, yle_i, yle_i] at h'
    have k1 := qand_hi (x := y) (y := x) (d := b) (by omega) h2 h'.2
    rw [qand_c] at k1
    rw [h]
    by_cases k : (yle 0 c && yle d 2147483647) = true
    · have k' := k
      rw [Bool.and_eq_true, yle_i, yle_i] at k'
      have k2 := qand_hi (x := x) (y := y) (d := d) (by omega) h4 k'.2
      rw [k]
      have h9 := ymn_i b d
      exact ⟨k1.1, by show _ ≤ ymn b d; have a1 := k1.2; have a2 := k2.2; rcases h9.2.2 with h | h <;> rw [h] <;> assumption⟩
    · rw [ybf k]; exact k1
  · rw [ybf h]
    by_cases k : (yle 0 c && yle d 2147483647) = true
    · have k' := k
      rw [Bool.and_eq_true, yle_i, yle_i] at k'
      rw [k]; exact qand_hi (x := x) (y := y) (d := d) (by omega) h4 k'.2
    · rw [ybf k]; exact y32_i _
/-- the least mask that covers a number -/
noncomputable def ymask (m : Nat) : Nat := 2 ^ (Nat.log2 m + 1) - 1
theorem ymask_lt (m : Nat) : m < 2 ^ (Nat.log2 m + 1) := Nat.lt_log2_self
theorem ymask_b {m : Nat} (h : m ≤ 2147483647) : 2 ^ (Nat.log2 m + 1) ≤ 2147483648 := by
  have h1 : Nat.log2 m < 31 := by
    by_cases h0 : m = 0
    · subst h0; decide
    · exact (Nat.log2_lt h0).mpr (by omega)
  exact Nat.pow_le_pow_right (n := 2) (by decide) (show Nat.log2 m + 1 ≤ 31 by omega)
noncomputable def vor (a b c d : Int) : yI := bif yle 0 a && yle 0 c && yle b 2147483647 && yle d 2147483647 then (0, ((ymask (ymx b d).toNat : Nat) : Int)) else y32
theorem yor_b {x y b d : Int} (k1 : 0 ≤ x) (k2 : 0 ≤ y) (k3 : b ≤ 2147483647) (k4 : d ≤ 2147483647) (h2 : x ≤ b) (h4 : y ≤ d) {z : Nat} (hz : ∀ n, x.toNat < 2 ^ n → y.toNat < 2 ^ n → z < 2 ^ n) : yin (0, ((ymask (ymx b d).toNat : Nat) : Int)) (nI z).toInt := by
  have h9 := ymx_i b d
  have hm : (ymx b d).toNat ≤ 2147483647 := by rcases h9.2.2 with h | h <;> rw [h] <;> omega
  have h5 := hz (Nat.log2 (ymx b d).toNat + 1) (Nat.lt_of_le_of_lt (by omega) (ymask_lt _)) (Nat.lt_of_le_of_lt (by omega) (ymask_lt _))
  have h6 := ymask_b hm
  unfold ymask
  generalize 2 ^ (Nat.log2 (ymx b d).toNat + 1) = q at h5 h6 ⊢
  rw [nI_toInt (by omega)]
  exact ⟨by show (0 : Int) ≤ _; omega, by show (z : Int) ≤ ((q - 1 : Nat) : Int); omega⟩
theorem vor_ok : yok qor vor := fun a b c d x y h1 h2 h3 h4 => by
  unfold vor
  by_cases h : (yle 0 a && yle 0 c && yle b 2147483647 && yle d 2147483647) = true
  · rw [h]
    rw [Bool.and_eq_true, Bool.and_eq_true, Bool.and_eq_true, yle_i, yle_i, yle_i, yle_i] at h
    obtain ⟨⟨⟨k1, k2⟩, k3⟩, k4⟩ := h
    unfold qor
    rw [yofn (x := x) (by omega) (by omega), yofn (x := y) (by omega) (by omega), yb_or]
    exact yor_b (by omega) (by omega) k3 k4 h2 h4 (fun n p q => Nat.or_lt_two_pow p q)
  · rw [ybf h]; exact y32_i _
theorem vxor_ok : yok qxor vor := fun a b c d x y h1 h2 h3 h4 => by
  unfold vor
  by_cases h : (yle 0 a && yle 0 c && yle b 2147483647 && yle d 2147483647) = true
  · rw [h]
    rw [Bool.and_eq_true, Bool.and_eq_true, Bool.and_eq_true, yle_i, yle_i, yle_i, yle_i] at h
    obtain ⟨⟨⟨k1, k2⟩, k3⟩, k4⟩ := h
    unfold qxor
    rw [yofn (x := x) (by omega) (by omega), yofn (x := y) (by omega) (by omega), yb_xor]
    exact yor_b (by omega) (by omega) k3 k4 h2 h4 (fun n p q => Nat.xor_lt_two_pow p q)
  · rw [ybf h]; exact y32_i _
theorem qxor_m1 {x : Int} (h1 : -2147483648 ≤ x) (h2 : x ≤ 2147483647) : qxor x (-1) = -1 - x := by
  unfold qxor
  have e : Int32.ofInt (-1) = -1 := rfl
  rw [e, Int32.xor_neg_one, Int32.toInt_not, t32 ⟨h1, by omega⟩]
  have := wrp_bmod (-x - 1)
  rw [show (2 : Nat) ^ 32 = 4294967296 from rfl, ← this, wrp_id (by omega) (by omega)]
  omega
noncomputable def vxor1 (a b c d : Int) : yI := bif yqi c (-1) && (yqi d (-1) && (yle (-2147483648) a && yle b 2147483647)) then (-1 - b, -1 - a) else vor a b c d
theorem vxor1_ok : yok qxor vxor1 := fun a b c d x y h1 h2 h3 h4 => by
  unfold vxor1
  by_cases h : (yqi c (-1) && (yqi d (-1) && (yle (-2147483648) a && yle b 2147483647))) = true
  · rw [h]
    rw [Bool.and_eq_true, Bool.and_eq_true, Bool.and_eq_true, yqi_i, yqi_i, yle_i, yle_i] at h
    rw [show y = -1 by omega, qxor_m1 (by omega) (by omega)]
    exact ⟨by show -1 - b ≤ _; omega, by show _ ≤ -1 - a; omega⟩
  · rw [ybf h]; exact vxor_ok _ _ _ _ _ _ h1 h2 h3 h4
noncomputable def vshl (a b c d : Int) : yI := bif yle 0 a && yle 0 c && yle d 31 && yle b 2147483647 && yle (b * ((2 ^ d.toNat : Nat) : Int)) 2147483647 then (a * ((2 ^ c.toNat : Nat) : Int), b * ((2 ^ d.toNat : Nat) : Int)) else y32
theorem ypw {a b : Nat} (h : a ≤ b) : ((2 ^ a : Nat) : Int) ≤ ((2 ^ b : Nat) : Int) := Int.ofNat_le.mpr (Nat.pow_le_pow_right (by decide) h)
theorem vshl_ok : yok qshl vshl := fun a b c d x y h1 h2 h3 h4 => by
  unfold vshl
  by_cases h : (yle 0 a && yle 0 c && yle d 31 && yle b 2147483647 && yle (b * ((2 ^ d.toNat : Nat) : Int)) 2147483647) = true
  · rw [h]
    rw [Bool.and_eq_true, Bool.and_eq_true, Bool.and_eq_true, Bool.and_eq_true, yle_i, yle_i, yle_i, yle_i, yle_i] at h
    obtain ⟨⟨⟨⟨k1, k2⟩, k3⟩, k4⟩, k5⟩ := h
    have p1 := ypw (a := c.toNat) (b := y.toNat) (by omega)
    have p2 := ypw (a := y.toNat) (b := d.toNat) (by omega)
    have p0 : (0 : Int) ≤ ((2 ^ c.toNat : Nat) : Int) := Int.natCast_nonneg _
    have p := ymul_b (a := a) (b := b) (c := ((2 ^ c.toNat : Nat) : Int)) (d := ((2 ^ d.toNat : Nat) : Int)) (x := x) (y := ((2 ^ y.toNat : Nat) : Int)) k1 p0 h1 h2 p1 p2
    unfold qshl
    rw [yofn (x := x) (by omega) (by omega), yofn (x := y) (by omega) (by omega), yb_shl _ (by omega)]
    have e : ((x.toNat * 2 ^ y.toNat : Nat) : Int) = x * ((2 ^ y.toNat : Nat) : Int) := by
      rw [Int.natCast_mul, Int.toNat_of_nonneg (by omega)]
    have e2 : x.toNat * 2 ^ y.toNat < 2147483648 := by omega
    rw [nI_toInt e2, e]
    exact ⟨p.1, p.2⟩
  · rw [ybf h]; exact y32_i _
noncomputable def vshr (a b c d : Int) : yI := bif yle 0 a && yle 0 c && yle d 31 && yle b 2147483647 then (bif yqi c d then (a / ((2 ^ c.toNat : Nat) : Int), b / ((2 ^ c.toNat : Nat) : Int)) else (0, b)) else y32
theorem yshr_b {a b c d x y : Int} (k1 : 0 ≤ a) (k2 : 0 ≤ c) (h1 : a ≤ x) (h2 : x ≤ b) (h3 : c ≤ y) (h4 : y ≤ d) (k4 : b ≤ 4294967295) {z : Int} (hz : z = ((x.toNat / 2 ^ y.toNat : Nat) : Int)) : yin (bif yqi c d then (a / ((2 ^ c.toNat : Nat) : Int), b / ((2 ^ c.toNat : Nat) : Int)) else (0, b)) z := by
  subst hz
  have e : ((x.toNat / 2 ^ y.toNat : Nat) : Int) = x / ((2 ^ y.toNat : Nat) : Int) := by
    rw [Int.natCast_ediv, Int.toNat_of_nonneg (by omega)]
  have hp : (0 : Int) < ((2 ^ y.toNat : Nat) : Int) := Int.natCast_pos.mpr (Nat.two_pow_pos _)
  by_cases h : yqi c d = true
  · rw [h]
    have h5 := yqi_i.mp h
    have h6 : y = c := by omega
    subst h6
    rw [e]
    exact ⟨Int.ediv_le_ediv hp h1, Int.ediv_le_ediv hp h2⟩
  · rw [ybf h]
    have : x.toNat / 2 ^ y.toNat ≤ x.toNat := Nat.div_le_self _ _
    exact ⟨Int.natCast_nonneg _, by show ((x.toNat / 2 ^ y.toNat : Nat) : Int) ≤ b; omega⟩
theorem vshr_ok : yok qshr vshr := fun a b c d x y h1 h2 h3 h4 => by
  unfold vshr
  by_cases h : (yle 0 a && yle 0 c && yle d 31 && yle b 2147483647) = true
  · rw [h]
    rw [Bool.and_eq_true, Bool.and_eq_true, Bool.and_eq_true, yle_i, yle_i, yle_i, yle_i] at h
    obtain ⟨⟨⟨k1, k2⟩, k3⟩, k4⟩ := h
    have hs : x.toNat / 2 ^ y.toNat ≤ x.toNat := Nat.div_le_self _ _
    refine yshr_b k1 k2 h1 h2 h3 h4 (by omega) ?_
    unfold qshr
    rw [yofn (x := x) (by omega) (by omega), yofn (x := y) (by omega) (by omega), yb_shr (by omega) (by omega), nI_toInt (by omega)]
  · rw [ybf h]; exact y32_i _
noncomputable def vush (a b c d : Int) : yI := bif yle 0 a && yle 0 c && yle d 31 && yle b 2147483647 then (bif yqi c d then (a / ((2 ^ c.toNat : Nat) : Int), b / ((2 ^ c.toNat : Nat) : Int)) else (0, b)) else (bif yle 1 c && yle d 31 then (0, 2147483647) else y32)
theorem vush_ok : yok qush vush := fun a b c d x y h1 h2 h3 h4 => by
  unfold vush
  by_cases h : (yle 0 a && yle 0 c && yle d 31 && yle b 2147483647) = true
  · rw [h]
    rw [Bool.and_eq_true, Bool.and_eq_true, Bool.and_eq_true, yle_i, yle_i, yle_i, yle_i] at h
    obtain ⟨⟨⟨k1, k2⟩, k3⟩, k4⟩ := h
    have hs : x.toNat / 2 ^ y.toNat ≤ x.toNat := Nat.div_le_self _ _
    refine yshr_b k1 k2 h1 h2 h3 h4 (by omega) ?_
    unfold qush
    rw [yofn (x := x) (by omega) (by omega), yofn (x := y) (by omega) (by omega), yb_ush (by omega) (by omega), nI_toInt (by omega)]
  · rw [ybf h]
    by_cases k : (yle 1 c && yle d 31) = true
    · rw [k]
      rw [Bool.and_eq_true, yle_i, yle_i] at k
      unfold qush
      rw [yofm x, yofn (x := y) (by omega) (by omega), yb_ush (by omega) (by omega)]
      have h5 : (x % 4294967296).toNat / 2 ^ y.toNat ≤ (x % 4294967296).toNat / 2 ^ 1 := Nat.div_le_div_left (Nat.pow_le_pow_right (by decide) (by omega)) (by decide)
      have h6 : (x % 4294967296).toNat / 2 ^ 1 < 2147483648 := by omega
      rw [nI_toInt (by omega)]
      exact ⟨Int.natCast_nonneg _, by show (((x % 4294967296).toNat / 2 ^ y.toNat : Nat) : Int) ≤ 2147483647; omega⟩
    · rw [ybf k]; exact y32_i _
noncomputable def v64 (_ _ _ _ : Int) : yI := y64
theorem vland_ok : yok qland v64 := fun a b c d x y h1 h2 h3 h4 => y64_i _
theorem vlor_ok : yok qlor v64 := fun a b c d x y h1 h2 h3 h4 => y64_i _
theorem vlshl_ok : yok qlshl v64 := fun a b c d x y h1 h2 h3 h4 => y64_i _
theorem vlush_ok : yok qlush v64 := fun a b c d x y h1 h2 h3 h4 => y64_i _
end
section
/-! a plain run over symbols: values (kind, symbol, offset), symbol 0 is 0, symbol 1 the script's length -/
noncomputable abbrev yV : Type := Nat × Nat × Int
noncomputable abbrev yB : Type := List (Nat × Int × Int)
noncomputable abbrev yH : Type := List (Nat × Nat × Int × Nat × Int)
noncomputable abbrev yD : Type := List (Nat × Nat × Int)
noncomputable abbrev yM : Type := List (Nat × Nat)
noncomputable abbrev yE : Type := List (Nat × List (Nat × Int) × Nat × Int)
noncomputable abbrev yS : Type := Nat × yB × yH × yM × yD × yE
noncomputable abbrev yN : Type := Nat → List yV → List yV → yS → Bool
noncomputable def ybd : yB → Nat → Option yI
  | [], _ => none
  | e :: r, s => bif Nat.beq e.1 s then some e.2 else ybd r s
noncomputable def yiv (bs : yB) (s : Nat) (o : Int) : Option yI := bif Nat.beq s 0 then some (o, o) else match ybd bs s with
  | some (lo, hi) => some (lo + o, hi + o)
  | none => none
noncomputable def yfl : yH → Nat → Nat → Int → Option (Nat × Int)
  | [], _, _, _ => none
  | e :: r, p, a, b => bif Nat.beq e.1 p && (Nat.beq e.2.1 a && yqi e.2.2.1 b) then some e.2.2.2 else yfl r p a b
noncomputable def ymem (p : Nat) : List Nat → Bool
  | [] => false
  | a :: l => Nat.beq a p || ymem p l
/-- a place that may have changed: cells are kept with 0 (whole) or a slot's number and 1 -/
noncomputable def ymd (p j : Nat) : yM → Bool
  | [] => false
  | e :: l => (Nat.beq e.1 p && (Nat.beq e.2 0 || Nat.beq e.2 (j + 1))) || ymd p j l
noncomputable def ymp (p c : Nat) : yM → Bool
  | [] => false
  | e :: l => (Nat.beq e.1 p && Nat.beq e.2 c) || ymp p c l
noncomputable def ynt : List yV → Nat → yV
  | [], _ => (9, 0, 0)
  | a :: _, 0 => a
  | _ :: l, i + 1 => ynt l i
noncomputable def yset : List yV → Nat → yV → List yV
  | [], _, _ => []
  | _ :: l, 0, v => v :: l
  | a :: l, i + 1, v => a :: yset l i v
noncomputable def yhf (ls : List yV) (i : Nat) : List yV := match i with
  | 0 => ls
  | j + 1 => bif Nat.beq (ynt ls j).1 1 then yset ls j (9, 0, 0) else ls
noncomputable def yst (ls : List yV) (i : Nat) (v : yV) : List yV := bif Nat.beq v.1 1 then yset (yset (yhf ls i) i v) (i + 1) (9, 0, 0) else yset (yhf ls i) i v
/-- a fresh symbol within a range -/
noncomputable def ynum (kd : Nat) (S : yS) (r : yI) (N : yV → yS → Bool) : Bool := bif yqi r.1 r.2 then N (kd, 0, r.1) S else N (kd, S.1, 0) (S.1 + 1, (S.1, r) :: S.2.1, S.2.2)
noncomputable def ybin (kd : Nat) (f : Int → Int → Int) (v : Int → Int → Int → Int → yI) (S : yS) (s1 : Nat) (o1 : Int) (s2 : Nat) (o2 : Int) (N : yV → yS → Bool) : Bool := match yiv S.2.1 s1 o1, yiv S.2.1 s2 o2 with
  | some (a, b), some (c, d) => bif yqi a b && yqi c d then N (kd, 0, f a c) S else ynum kd S (v a b c d) N
  | _, _ => false
noncomputable def yadd (kd : Nat) (f : Int → Int → Int) (v : Int → Int → Int → Int → yI) (B : yI) (S : yS) (s1 : Nat) (o1 : Int) (s2 : Nat) (o2 : Int) (N : yV → yS → Bool) : Bool := match yiv S.2.1 s1 o1, yiv S.2.1 s2 o2 with
  | some (a, b), some (c, d) => bif yqi c d && (yle B.1 (a + c) && yle (b + c) B.2) then N (kd, s1, o1 + c) S else bif yqi a b && (yle B.1 (a + c) && yle (a + d) B.2) then N (kd, s2, o2 + a) S else ynum kd S (v a b c d) N
  | _, _ => false
noncomputable def ysub (kd : Nat) (f : Int → Int → Int) (v : Int → Int → Int → Int → yI) (B : yI) (S : yS) (s1 : Nat) (o1 : Int) (s2 : Nat) (o2 : Int) (N : yV → yS → Bool) : Bool := match yiv S.2.1 s1 o1, yiv S.2.1 s2 o2 with
  | some (a, b), some (c, d) => bif yqi c d && (yle B.1 (a - c) && yle (b - c) B.2) then N (kd, s1, o1 - c) S else ynum kd S (v a b c d) N
  | _, _ => false
/-- one number within a range: the same if it fits, else any of it -/
noncomputable def yun (kd : Nat) (f : Int → Int) (B : yI) (S : yS) (s : Nat) (o : Int) (N : yV → yS → Bool) : Bool := match yiv S.2.1 s o with
  | some (a, b) => bif yle B.1 a && yle b B.2 then N (kd, s, o) S else ynum kd S B N
  | none => false
noncomputable def yneg (S : yS) (s : Nat) (o : Int) (N : yV → yS → Bool) : Bool := match yiv S.2.1 s o with
  | some (a, b) => ynum 0 S (yfit y32 (-b) (-a)) N
  | none => false
/-- a value is known to be within lo .. hi (it was within a .. b) -/
noncomputable def yrf (S : yS) (s : Nat) (o a b lo hi : Int) (N : yS → Bool) : Bool := bif yle lo hi then (bif Nat.beq s 0 || (yqi a lo && yqi b hi) then N S else N (S.1, (s, lo - o, hi - o) :: S.2.1, S.2.2)) else true
noncomputable def ydf (S : yS) (s1 s2 : Nat) (c : Int) : yS := bif Nat.beq s1 0 || Nat.beq s2 0 then S else (S.1, S.2.1, S.2.2.1, S.2.2.2.1, (s1, s2, c) :: S.2.2.2.2.1, S.2.2.2.2.2)
/-- known: the first is less than the second -/
noncomputable def ydl : yD → Nat → Int → Nat → Int → Bool
  | [], _, _, _, _ => false
  | e :: r, s1, o1, s2, o2 => (Nat.beq e.1 s1 && (Nat.beq e.2.1 s2 && yle (o1 + 1) (e.2.2 + o2))) || ydl r s1 o1 s2 o2
noncomputable def ylt (S : yS) (s1 : Nat) (o1 : Int) (s2 : Nat) (o2 : Int) (T F : yS → Bool) : Bool := bif Nat.beq s1 s2 then (bif yle o2 o1 then F S else T S) else bif ydl S.2.2.2.2.1 s1 o1 s2 o2 then T S else bif ydl S.2.2.2.2.1 s2 (o2 - 1) s1 o1 then F S else match yiv S.2.1 s1 o1, yiv S.2.1 s2 o2 with
  | some (a, b), some (c, d) => yrf S s1 o1 a b a (ymn b (d - 1)) (fun S => yrf S s2 o2 c d (ymx c (a + 1)) d (fun S => T (ydf S s1 s2 (o1 + 1 - o2)))) && yrf S s1 o1 a b (ymx a c) b (fun S => yrf S s2 o2 c d c (ymn d b) (fun S => F (ydf S s2 s1 (o2 - o1))))
  | _, _ => false
noncomputable def yne (S : yS) (s : Nat) (o a b c : Int) (N : yS → Bool) : Bool := bif yqi a c then yrf S s o a b (a + 1) b N else bif yqi b c then yrf S s o a b a (b - 1) N else (yrf S s o a b a (ymn b (c - 1)) N && yrf S s o a b (ymx a (c + 1)) b N)
noncomputable def yqe (S : yS) (s1 : Nat) (o1 : Int) (s2 : Nat) (o2 : Int) (T F : yS → Bool) : Bool := bif Nat.beq s1 s2 then (bif yqi o1 o2 then T S else F S) else bif ydl S.2.2.2.2.1 s1 o1 s2 o2 || ydl S.2.2.2.2.1 s2 o2 s1 o1 then F S else match yiv S.2.1 s1 o1, yiv S.2.1 s2 o2 with
  | some (a, b), some (c, d) => yrf S s1 o1 a b (ymx a c) (ymn b d) (fun S => yrf S s2 o2 c d (ymx a c) (ymn b d) (fun S => T (ydf (ydf S s1 s2 (o1 - o2)) s2 s1 (o2 - o1)))) && (bif yqi c d then yne S s1 o1 a b c F else bif yqi a b then yne S s2 o2 c d a F else ylt S s1 o1 s2 o2 F (fun S => ylt S s2 o2 s1 o1 F (fun _ => true)))
  | _, _ => false
noncomputable def ybr (c : Jvm.ClassFile.Cond) (S : yS) (s1 : Nat) (o1 : Int) (s2 : Nat) (o2 : Int) (T F : yS → Bool) : Bool := match c with
  | .eq => yqe S s1 o1 s2 o2 T F
  | .ne => yqe S s1 o1 s2 o2 F T
  | .lt => ylt S s1 o1 s2 o2 T F
  | .ge => ylt S s1 o1 s2 o2 F T
  | .gt => ylt S s2 o2 s1 o1 T F
  | .le => ylt S s2 o2 s1 o1 F T
noncomputable def ysw (s : Nat) (o : Int) (N : Nat → yS → Bool) (pc : Nat) (dflt : Int) : List Int → Int → yS → Bool
  | [], _, S => N (qtg pc dflt) S
  | t :: r, c, S => yqe S s o 0 c (fun S => N (qtg pc t) S) (fun S => ysw s o N pc dflt r (c + 1) S)
/-- one path for each value of a range -/
noncomputable def yfk (S : yS) (s : Nat) (o a b : Int) (N : Int → yS → Bool) : Nat → Int → Bool
  | 0, _ => true
  | n + 1, v => yrf S s o a b v v (N v) && yfk S s o a b N n (v + 1)
noncomputable def yall (S : yS) (s : Nat) (o : Int) (N : Int → yS → Bool) : Bool := match yiv S.2.1 s o with
  | some (a, b) => yfk S s o a b N (b - a + 1).toNat a
  | none => false
/-- a fact more -/
noncomputable def yfc (S : yS) (p a : Nat) (b : Int) (s : Nat) (o : Int) : yS := (S.1, S.2.1, (p, a, b, s, o) :: S.2.2.1, S.2.2.2)
noncomputable def yfr (kd : Nat) (S : yS) (r : yI) (p a : Nat) (b : Int) (N : yV → yS → Bool) : Bool := ynum kd S r (fun v S => N v (yfc S p a b v.2.1 v.2.2))
noncomputable def yalt (S : yS) (p a : Nat) (b : Int) (N : yV → yS → Bool) : List Int → Bool
  | [] => true
  | c :: l => N (2, 0, c) (yfc S p a b 0 c) && yalt S p a b N l
noncomputable def ykill (p : Nat) : yH → yH
  | [] => []
  | e :: r => bif Nat.beq e.1 p then ykill p r else e :: ykill p r
noncomputable def ykilc (p : Nat) (b : Int) : yH → yH
  | [] => []
  | e :: r => bif Nat.beq e.1 p && !(Nat.beq e.2.1 0 && (yle 0 e.2.2.1 && !yqi e.2.2.1 b)) then ykilc p b r else e :: ykilc p b r
noncomputable def yput (S : yS) (p c a : Nat) (b : Int) (s : Nat) (o : Int) : yS := (S.1, S.2.1, (p, a, b, s, o) :: (bif Nat.beq a 0 then ykilc p b S.2.2.1 else ykill p S.2.2.1), (bif ymp p c S.2.2.2.1 then S.2.2.2.1 else (p, c) :: S.2.2.2.1), S.2.2.2.2)
noncomputable def yarr (p : Nat) : Bool := match qpl p with
  | (1, 2, _, _) => false
  | (1, _, _, _) => true
  | _ => false
noncomputable def ycln (p : Nat) : yM → Bool
  | [] => true
  | e :: l => !Nat.beq e.1 p && ycln p l
noncomputable def yrd (xs : Nat → Int) (w : qW) (p j : Nat) : Int := bif Nat.beq p 0 then xs j else w p j
noncomputable def yvl2 : List (Nat × Int) → List (Nat × Int) → Bool
  | [], [] => true
  | a :: l, b :: m => Nat.beq a.1 b.1 && (yqi a.2 b.2 && yvl2 l m)
  | _, _ => false
noncomputable def ymef (g : Nat) (as : List (Nat × Int)) : yE → Option (Nat × Int)
  | [] => none
  | e :: l => bif Nat.beq e.1 g && yvl2 e.2.1 as then some e.2.2 else ymef g as l
/-- a function's value: one symbol for one list of arguments -/
noncomputable def ygho (S : yS) (g : Nat) (as : List (Nat × Int)) (r : yI) (N : yV → yS → Bool) : Bool := bif Nat.beq g 0 then ynum 0 S r N else match ymef g as S.2.2.2.2.2 with
  | some (s, o) => N (0, s, o) S
  | none => ynum 0 S r (fun v S => N v (S.1, S.2.1, S.2.2.1, S.2.2.2.1, S.2.2.2.2.1, (g, as, v.2.1, v.2.2) :: S.2.2.2.2.2))
/-- and with a number: one symbol for one value; a negative mask splits by the value's range -/
noncomputable def yandc (S : yS) (s : Nat) (o : Int) (c : Int) (r : yI) (N : yV → yS → Bool) : Bool := ygho S 1000 [(s, o), (0, c)] r N
noncomputable def yand (S : yS) (s1 : Nat) (o1 : Int) (s2 : Nat) (o2 : Int) (N : yV → yS → Bool) : Bool := match yiv S.2.1 s1 o1, yiv S.2.1 s2 o2 with
  | some (a, b), some (c, d) => bif yqi a b && yqi c d then N (0, 0, qand a c) S
    else bif yle (-2147483648) c && (yle d (-1) && (yle (-2147483648) a && yle b 2147483647)) then
      ylt S s1 o1 0 0 (fun S => ynum 0 S (-2147483648, -1) N) (fun S => bif yqi c d && yle (-65536) c then ylt S s1 o1 0 65536
        (fun S => yandc S s1 o1 (c % 65536) (vand (ymx a 0) (ymn b 65535) (c % 65536) (c % 65536)) N)
        (fun S => ynum 0 S (1, 2147483647) N) else ynum 0 S (vand (ymx a 0) b c d) N)
    else bif yqi c d && (yle 0 c && yle c 2147483647) then yandc S s1 o1 c (vand a b c c) N
    else ynum 0 S (vand a b c d) N
  | _, _ => false
section Sym
variable (gf : Nat → Nat → Option yI) (ga : Nat → Option yI) (ra : Nat → Nat → List Int) (bv : Nat → Nat → Option Int) (bb : Nat → Option yI)
/-- a reference's place -/
noncomputable def yref (S : yS) (p j : Nat) (N : yV → yS → Bool) : Bool := match yfl S.2.2.1 p 0 (j : Int) with
  | some (s, o) => N (2, s, o) S
  | none => match (bif ymd p j S.2.2.2.1 then none else bv p j) with
    | some c => N (2, 0, c) S
    | none => match ra p j with
      | [] => false
      | c :: l => yalt S p 0 (j : Int) N (c :: l)
noncomputable def yget (S : yS) (p j kd : Nat) (N : yV → yS → Bool) : Bool := match yfl S.2.2.1 p 0 (j : Int) with
  | some (s, o) => N (kd, s, o) S
  | none => match (bif ymd p j S.2.2.2.1 then none else bv p j) with
    | some c => N (kd, 0, c) S
    | none => match gf p j with
      | some r => yfr kd S r p 0 (j : Int) N
      | none => false
noncomputable def yel2 (S : yS) (kd p a : Nat) (b : Int) (N : yV → yS → Bool) : Bool := match yfl S.2.2.1 p a b with
  | some (s, o) => N (kd, s, o) S
  | none => match (bif ymd p b.toNat S.2.2.2.1 || Nat.blt 0 a then none else bv p b.toNat) with
    | some c => N (kd, 0, c) S
    | none => match (bif ycln p S.2.2.2.1 then bb p else none) with
      | some r => yfr kd S r p a b N
      | none => match ga p with
        | some r => yfr kd S r p a b N
        | none => false
/-- an element of an array of m numbers -/
noncomputable def yel (S : yS) (kd p m s : Nat) (o : Int) (N : yV → yS → Bool) : Bool := match yiv S.2.1 s o with
  | some (a, b) => yle 0 a && (yle (b + 1) m && (bif yqi a b then yel2 ga bv bb S kd p 0 a N else yel2 ga bv bb S kd p s o N))
  | none => false
noncomputable def ydfl : yD → Nat → Int → Bool
  | [], _, _ => false
  | e :: r, s, o => (Nat.beq e.1 s && (Nat.beq e.2.1 1 && yle (o + 1) e.2.2)) || ydfl r s o
noncomputable def ysc2 (S : yS) (a : Nat) (b : Int) (N : yV → yS → Bool) : Bool := match yfl S.2.2.1 0 a b with
  | some (s, o) => N (0, s, o) S
  | none => yfr 0 S y32 0 a b N
noncomputable def yscr (S : yS) (s : Nat) (o : Int) (N : yV → yS → Bool) : Bool := match yiv S.2.1 s o, yiv S.2.1 1 0 with
  | some (a, b), some (c, _) => yle 0 a && ((yle (b + 1) c || ydfl S.2.2.2.2.1 s o) && (bif yqi a b then ysc2 S 0 a N else ysc2 S s o N))
  | _, _ => false
noncomputable def yel3 (S : yS) (p m s : Nat) (o : Int) (vs : Nat) (vo : Int) (B : yI) (N : yS → Bool) : Bool := match yiv S.2.1 s o, yiv S.2.1 vs vo, ga p with
  | some (a, b), some (c, d), some (lo, hi) => yle 0 a && (yle (b + 1) m && (yle lo c && (yle d hi && (yle B.1 c && (yle d B.2 && (bif yqi a b then N (yput S p 0 0 a vs vo) else N (yput S p 0 s o vs vo)))))))
  | _, _, _ => false
noncomputable def yas (lw : Bool) (k : Nat) (ins : Instr) (pc : Nat) (ls st : List yV) (S : yS) (N : yN) : Bool :=
  match ins with
  | .iload i => match ynt ls i with
    | (0, x) => N (pc + 2) ls ((0, x) :: st) S
    | _ => false
  | .iload_n i => match ynt ls i.val with
    | (0, x) => N (pc + 1) ls ((0, x) :: st) S
    | _ => false
  | .lload i => match ynt ls i with
    | (1, x) => N (pc + 2) ls ((1, x) :: st) S
    | _ => false
  | .lload_n i => match ynt ls i.val with
    | (1, x) => N (pc + 1) ls ((1, x) :: st) S
    | _ => false
  | .aload i => match ynt ls i with
    | (2, x) => N (pc + 2) ls ((2, x) :: st) S
    | (3, x) => N (pc + 2) ls ((3, x) :: st) S
    | _ => false
  | .aload_n i => match ynt ls i.val with
    | (2, x) => N (pc + 1) ls ((2, x) :: st) S
    | (3, x) => N (pc + 1) ls ((3, x) :: st) S
    | _ => false
  | .istore i => match st with
    | (0, x) :: r => Nat.blt i (qml k) && N (pc + 2) (yst ls i (0, x)) r S
    | _ => false
  | .istore_n i => match st with
    | (0, x) :: r => Nat.blt i.val (qml k) && N (pc + 1) (yst ls i.val (0, x)) r S
    | _ => false
  | .lstore i => match st with
    | (1, x) :: r => Nat.blt (i + 1) (qml k) && N (pc + 2) (yst ls i (1, x)) r S
    | _ => false
  | .lstore_n i => match st with
    | (1, x) :: r => Nat.blt (i.val + 1) (qml k) && N (pc + 1) (yst ls i.val (1, x)) r S
    | _ => false
  | .astore_n i => match st with
    | (2, x) :: r => Nat.blt i.val (qml k) && N (pc + 1) (yst ls i.val (2, x)) r S
    | _ => false
  | .iinc i c => match ynt ls i with
    | (0, s, o) => Nat.blt i (qml k) && yadd 0 (fun x y => wrp (x + y)) vadd y32 S s o 0 c (fun v S => N (pc + 3) (yst ls i v) st S)
    | _ => false
  | .iconst c => N (pc + 1) ls ((0, 0, c) :: st) S
  | .bipush c => N (pc + 2) ls ((0, 0, c) :: st) S
  | .sipush c => N (pc + 3) ls ((0, 0, c) :: st) S
  | .lconst c => N (pc + 1) ls ((1, 0, (c.val : Int)) :: st) S
  | .aconst_null => N (pc + 1) ls ((2, 0, 0) :: st) S
  | .ldc i => match qkn (qow k) i with
    | some (0, v) => N (pc + 2) ls ((0, 0, v) :: st) S
    | some (3, v) => N (pc + 2) ls ((3, 0, v) :: st) S
    | _ => false
  | .ldc_w i => match qkn (qow k) i with
    | some (0, v) => N (pc + 3) ls ((0, 0, v) :: st) S
    | some (3, v) => N (pc + 3) ls ((3, 0, v) :: st) S
    | _ => false
  | .ldc2_w i => match qkn (qow k) i with
    | some (1, v) => N (pc + 3) ls ((1, 0, v) :: st) S
    | _ => false
  | .dup => match st with
    | (0, x) :: r => N (pc + 1) ls ((0, x) :: (0, x) :: r) S
    | (2, x) :: r => N (pc + 1) ls ((2, x) :: (2, x) :: r) S
    | _ => false
  | .dup2 => match st with
    | (0, x) :: (2, y) :: r => N (pc + 1) ls ((0, x) :: (2, y) :: (0, x) :: (2, y) :: r) S
    | _ => false
  | .pop => match st with
    | (0, _) :: r => N (pc + 1) ls r S
    | _ => false
  | .iadd => match st with
    | (0, s2, o2) :: (0, s1, o1) :: r => yadd 0 (fun x y => wrp (x + y)) vadd y32 S s1 o1 s2 o2 (fun v S => N (pc + 1) ls (v :: r) S)
    | _ => false
  | .isub => match st with
    | (0, s2, o2) :: (0, s1, o1) :: r => ysub 0 (fun x y => wrp (x - y)) vsub y32 S s1 o1 s2 o2 (fun v S => N (pc + 1) ls (v :: r) S)
    | _ => false
  | .imul => match st with
    | (0, s2, o2) :: (0, s1, o1) :: r => ybin 0 (fun x y => wrp (x * y)) vmul S s1 o1 s2 o2 (fun v S => N (pc + 1) ls (v :: r) S)
    | _ => false
  | .idiv => match st with
    | (0, s2, o2) :: (0, s1, o1) :: r => match yiv S.2.1 s2 o2 with
      | some (c, _) => yle 1 c && ybin 0 qdiv vdiv S s1 o1 s2 o2 (fun v S => N (pc + 1) ls (v :: r) S)
      | none => false
    | _ => false
  | .irem => match st with
    | (0, s2, o2) :: (0, s1, o1) :: r => match yiv S.2.1 s2 o2 with
      | some (c, _) => yle 1 c && ybin 0 qrem vrem S s1 o1 s2 o2 (fun v S => N (pc + 1) ls (v :: r) S)
      | none => false
    | _ => false
  | .ineg => match st with
    | (0, s, o) :: r => yneg S s o (fun v S => N (pc + 1) ls (v :: r) S)
    | _ => false
  | .iand => match st with
    | (0, s2, o2) :: (0, s1, o1) :: r => yand S s1 o1 s2 o2 (fun v S => N (pc + 1) ls (v :: r) S)
    | _ => false
  | .ior => match st with
    | (0, s2, o2) :: (0, s1, o1) :: r => ybin 0 qor vor S s1 o1 s2 o2 (fun v S => N (pc + 1) ls (v :: r) S)
    | _ => false
  | .ixor => match st with
    | (0, s2, o2) :: (0, s1, o1) :: r => ybin 0 qxor vxor1 S s1 o1 s2 o2 (fun v S => N (pc + 1) ls (v :: r) S)
    | _ => false
  | .ishl => match st with
    | (0, s2, o2) :: (0, s1, o1) :: r => ybin 0 qshl vshl S s1 o1 s2 o2 (fun v S => N (pc + 1) ls (v :: r) S)
    | _ => false
  | .ishr => match st with
    | (0, s2, o2) :: (0, s1, o1) :: r => ybin 0 qshr vshr S s1 o1 s2 o2 (fun v S => N (pc + 1) ls (v :: r) S)
    | _ => false
  | .iushr => match st with
    | (0, s2, o2) :: (0, s1, o1) :: r => ybin 0 qush vush S s1 o1 s2 o2 (fun v S => N (pc + 1) ls (v :: r) S)
    | _ => false
  | .ladd => match st with
    | (1, s2, o2) :: (1, s1, o1) :: r => ybin 1 (fun x y => wrl (x + y)) vladd S s1 o1 s2 o2 (fun v S => N (pc + 1) ls (v :: r) S)
    | _ => false
  | .lsub => match st with
    | (1, s2, o2) :: (1, s1, o1) :: r => ybin 1 (fun x y => wrl (x - y)) vlsub S s1 o1 s2 o2 (fun v S => N (pc + 1) ls (v :: r) S)
    | _ => false
  | .lmul => match st with
    | (1, s2, o2) :: (1, s1, o1) :: r => ybin 1 (fun x y => wrl (x * y)) vlmul S s1 o1 s2 o2 (fun v S => N (pc + 1) ls (v :: r) S)
    | _ => false
  | .ldiv => match st with
    | (1, s2, o2) :: (1, s1, o1) :: r => match yiv S.2.1 s2 o2 with
      | some (c, _) => yle 1 c && ybin 1 qldiv vldiv S s1 o1 s2 o2 (fun v S => N (pc + 1) ls (v :: r) S)
      | none => false
    | _ => false
  | .land => match st with
    | (1, s2, o2) :: (1, s1, o1) :: r => ybin 1 qland v64 S s1 o1 s2 o2 (fun v S => N (pc + 1) ls (v :: r) S)
    | _ => false
  | .lor => match st with
    | (1, s2, o2) :: (1, s1, o1) :: r => ybin 1 qlor v64 S s1 o1 s2 o2 (fun v S => N (pc + 1) ls (v :: r) S)
    | _ => false
  | .lshl => match st with
    | (0, s2, o2) :: (1, s1, o1) :: r => ybin 1 qlshl v64 S s1 o1 s2 o2 (fun v S => N (pc + 1) ls (v :: r) S)
    | _ => false
  | .lushr => match st with
    | (0, s2, o2) :: (1, s1, o1) :: r => ybin 1 qlush v64 S s1 o1 s2 o2 (fun v S => N (pc + 1) ls (v :: r) S)
    | _ => false
  | .lcmp => match st with
    | (1, s2, o2) :: (1, s1, o1) :: r => ylt S s1 o1 s2 o2 (fun S => N (pc + 1) ls ((0, 0, -1) :: r) S) (fun S => yqe S s1 o1 s2 o2 (fun S => N (pc + 1) ls ((0, 0, 0) :: r) S) (fun S => N (pc + 1) ls ((0, 0, 1) :: r) S))
    | _ => false
  | .i2l => match st with
    | (0, x) :: r => N (pc + 1) ls ((1, x) :: r) S
    | _ => false
  | .l2i => match st with
    | (1, s, o) :: r => yun 0 wrp y32 S s o (fun v S => N (pc + 1) ls (v :: r) S)
    | _ => false
  | .i2b => match st with
    | (0, s, o) :: r => yun 0 qi2b (-128, 127) S s o (fun v S => N (pc + 1) ls (v :: r) S)
    | _ => false
  | .i2c => match st with
    | (0, s, o) :: r => yun 0 (fun x => x % 65536) (0, 65535) S s o (fun v S => N (pc + 1) ls (v :: r) S)
    | _ => false
  | .goto off => N (qtg pc off) ls st S
  | .ifCond c off => match st with
    | (0, s, o) :: r => ybr c S s o 0 0 (fun S => N (qtg pc off) ls r S) (fun S => N (pc + 3) ls r S)
    | _ => false
  | .if_icmp c off => match st with
    | (0, s2, o2) :: (0, s1, o1) :: r => ybr c S s1 o1 s2 o2 (fun S => N (qtg pc off) ls r S) (fun S => N (pc + 3) ls r S)
    | _ => false
  | .if_acmp c off => match c, st with
    | .ne, (2, s2, o2) :: (2, s1, o1) :: r => yqe S s1 o1 s2 o2 (fun S => N (pc + 3) ls r S) (fun S => N (qtg pc off) ls r S)
    | _, _ => false
  | .tableswitch dflt lo _ offs => match st with
    | (0, s, o) :: r => ysw s o (fun t S => N t ls r S) pc dflt offs.toList lo S
    | _ => false
  | .getfield i => match qfd (qow k) i, st with
    | some (ci, j, kd, _), (2, 0, p) :: r => match qpl p.toNat with
      | (0, c, _, _) => Nat.beq c ci && (yle 1 p && (yle p 142 && (match kd with
        | 0 => yget gf bv S p.toNat j 0 (fun v S => N (pc + 3) ls (v :: r) S)
        | 1 => yget gf bv S p.toNat j 1 (fun v S => N (pc + 3) ls (v :: r) S)
        | 2 => yref ra bv S p.toNat j (fun v S => N (pc + 3) ls (v :: r) S)
        | 3 => yget gf bv S p.toNat j 0 (fun v S => N (pc + 3) ls (v :: r) S)
        | _ => false)))
      | _ => false
    | _, _ => false
  | .putfield i => match qfd (qow k) i, st with
    | some (ci, j, kd, fin), (t, s, o) :: (2, 0, p) :: r => match qpl p.toNat with
      | (0, c, _, _) => Nat.beq c ci && (Nat.beq fin 0 && (yle 1 p && (yle p 142 && (match kd, t with
        | 0, 0 => match gf p.toNat j, yiv S.2.1 s o, ra p.toNat j with
          | some (lo, hi), some (a, b), [] => yle lo a && (yle b hi && N (pc + 3) ls r (yput S p.toNat (j + 1) 0 (j : Int) s o))
          | _, _, _ => false
        | 3, 0 => match gf p.toNat j, yiv S.2.1 s o, ra p.toNat j with
          | some (lo, hi), some (a, b), [] => yle lo a && (yle b hi && (yle 0 a && (yle b 1 && N (pc + 3) ls r (yput S p.toNat (j + 1) 0 (j : Int) s o))))
          | _, _, _ => false
        | 2, 2 => match gf p.toNat j with
          | none => Nat.beq s 0 && ((ra p.toNat j).any (yqi o) && N (pc + 3) ls r (yput S p.toNat (j + 1) 0 (j : Int) s o))
          | _ => false
        | _, _ => false))))
      | _ => false
    | _, _ => false
  | .iaload => match st with
    | (0, s, o) :: (2, 0, p) :: r => match qpl p.toNat with
      | (1, 0, m, _) => yle 1 p && (yle p 142 && yel ga bv bb S 0 p.toNat m s o (fun v S => N (pc + 1) ls (v :: r) S))
      | _ => false
    | (0, s, o) :: (3, 0, 0) :: r => lw && yscr S s o (fun v S => N (pc + 1) ls (v :: r) S)
    | _ => false
  | .baload => match st with
    | (0, s, o) :: (2, 0, p) :: r => match qpl p.toNat with
      | (1, 3, m, _) => yle 1 p && (yle p 142 && yel ga bv bb S 0 p.toNat m s o (fun v S => N (pc + 1) ls (v :: r) S))
      | (1, 4, m, _) => yle 1 p && (yle p 142 && yel ga bv bb S 0 p.toNat m s o (fun v S => N (pc + 1) ls (v :: r) S))
      | _ => false
    | _ => false
  | .laload => match st with
    | (0, s, o) :: (2, 0, p) :: r => match qpl p.toNat with
      | (1, 1, m, _) => yle 1 p && (yle p 142 && yel ga bv bb S 1 p.toNat m s o (fun v S => N (pc + 1) ls (v :: r) S))
      | _ => false
    | _ => false
  | .aaload => match st with
    | (0, s, o) :: (2, 0, p) :: r => match qpl p.toNat, yiv S.2.1 s o with
      | (1, 2, m, _), some (a, b) => yle 1 p && (yle p 142 && (yle 0 a && (yle (b + 1) m && yall S s o (fun x S => yref ra bv S p.toNat x.toNat (fun v S => N (pc + 1) ls (v :: r) S)))))
      | _, _ => false
    | _ => false
  | .iastore => match st with
    | (0, vs, vo) :: (0, s, o) :: (2, 0, p) :: r => match qpl p.toNat with
      | (1, 0, m, _) => yle 1 p && (yle p 142 && yel3 ga S p.toNat m s o vs vo y32 (fun S => N (pc + 1) ls r S))
      | _ => false
    | _ => false
  | .bastore => match st with
    | (0, vs, vo) :: (0, s, o) :: (2, 0, p) :: r => match qpl p.toNat with
      | (1, 3, m, _) => yle 1 p && (yle p 142 && yel3 ga S p.toNat m s o vs vo (0, 1) (fun S => N (pc + 1) ls r S))
      | (1, 4, m, _) => yle 1 p && (yle p 142 && yel3 ga S p.toNat m s o vs vo (-128, 127) (fun S => N (pc + 1) ls r S))
      | _ => false
    | _ => false
  | .lastore => match st with
    | (1, vs, vo) :: (0, s, o) :: (2, 0, p) :: r => match qpl p.toNat with
      | (1, 1, m, _) => yle 1 p && (yle p 142 && yel3 ga S p.toNat m s o vs vo y64 (fun S => N (pc + 1) ls r S))
      | _ => false
    | _ => false
  | .aastore => match st with
    | (2, 0, v) :: (0, s, o) :: (2, 0, p) :: r => match qpl p.toNat, qpl v.toNat, yiv S.2.1 s o with
      | (1, 2, m, c), (0, ci, _, _), some (a, b) => Nat.beq c ci && (yle 1 p && (yle p 142 && (yle 1 v && (yle v 142 && (yle 0 a && (yle (b + 1) m && yall S s o (fun x S => match gf p.toNat x.toNat with
        | none => (ra p.toNat x.toNat).any (yqi v) && N (pc + 1) ls r (yput S p.toNat (x.toNat + 1) 0 x 0 v)
        | _ => false)))))))
      | _, _, _ => false
    | _ => false
  | .arraylength => match st with
    | (2, 0, p) :: r => match qpl p.toNat with
      | (1, _, m, _) => yle 1 p && (yle p 142 && N (pc + 1) ls ((0, 0, (m : Int)) :: r) S)
      | _ => false
    | (3, 0, 0) :: r => lw && N (pc + 1) ls ((0, 1, 0) :: r) S
    | _ => false
  | _ => false
end Sym
end
section
/-! what stands behind a plain run over symbols -/
noncomputable def yc (ρ : Nat → Int) (v : yV) : qV := (v.1, ρ v.2.1 + v.2.2)
noncomputable def ySc (n : Nat) (l : List yV) : Prop := ∀ v ∈ l, v.2.1 < n
noncomputable def yag (n : Nat) (ρ ρ' : Nat → Int) : Prop := ∀ i, i < n → ρ' i = ρ i
noncomputable def yup (ρ : Nat → Int) (n : Nat) (x : Int) : Nat → Int := fun i => if i = n then x else ρ i
theorem yup_ag {ρ : Nat → Int} {n : Nat} {x : Int} : yag n ρ (yup ρ n x) := fun i hi => if_neg (by omega)
theorem yup_at {ρ : Nat → Int} {n : Nat} {x : Int} : yup ρ n x n = x := if_pos rfl
theorem yag.rf {n : Nat} {ρ : Nat → Int} : yag n ρ ρ := fun _ _ => rfl
theorem yag.tr {n m : Nat} {ρ ρ' ρ'' : Nat → Int} (h : yag n ρ ρ') (h' : yag m ρ' ρ'') (hn : n ≤ m) : yag n ρ ρ'' := fun i hi => by rw [h' i (by omega), h i hi]
theorem yc_ag {n : Nat} {ρ ρ' : Nat → Int} {v : yV} (h : yag n ρ ρ') (hv : v.2.1 < n) : yc ρ' v = yc ρ v := by unfold yc; rw [h _ hv]
theorem ym_ag {n : Nat} {ρ ρ' : Nat → Int} {l : List yV} (h : yag n ρ ρ') (hl : ySc n l) : l.map (yc ρ') = l.map (yc ρ) := List.map_congr_left (fun v hv => yc_ag h (hl v hv))
theorem ySc.mono {n m : Nat} {l : List yV} (h : ySc n l) (hn : n ≤ m) : ySc m l := fun v hv => Nat.lt_of_lt_of_le (h v hv) hn
theorem ySc.cons {n : Nat} {v : yV} {l : List yV} (hv : v.2.1 < n) (h : ySc n l) : ySc n (v :: l) := fun u hu => by
  rcases List.mem_cons.mp hu with rfl | hu
  · exact hv
  · exact h u hu
theorem ySc.hd {n : Nat} {v : yV} {l : List yV} (h : ySc n (v :: l)) : v.2.1 < n := h v List.mem_cons_self
theorem ySc.tl {n : Nat} {v : yV} {l : List yV} (h : ySc n (v :: l)) : ySc n l := fun u hu => h u (List.mem_cons_of_mem _ hu)
noncomputable def yInv (gf : Nat → Nat → Option yI) (ga : Nat → Option yI) (ra : Nat → Nat → List Int) (Sp : qW → Prop) (w : qW) : Prop :=
  (∀ p j b, gf p j = some b → yarr p = false → yin b (w p j)) ∧ (∀ p j b, ga p = some b → yarr p = true → yin b (w p j)) ∧ (∀ p j, ra p j ≠ [] → yarr p = false → w p j ∈ ra p j) ∧ Sp w
noncomputable def yG (L : Nat) (xs : Nat → Int) (w0 : qW) (gf : Nat → Nat → Option yI) (ga : Nat → Option yI) (ra : Nat → Nat → List Int) (Sp : qW → Prop) (gh : Nat → List Int → Int) (ρ : Nat → Int) (S : yS) (w : qW) : Prop :=
  (ρ 0 = 0 ∧ 1 < S.1 ∧ ρ 1 = L) ∧ (∀ e ∈ S.2.1, e.1 < S.1 ∧ yin e.2 (ρ e.1)) ∧ (∀ e ∈ S.2.2.1, e.2.1 < S.1 ∧ e.2.2.2.1 < S.1 ∧ yrd xs w e.1 (ρ e.2.1 + e.2.2.1).toNat = ρ e.2.2.2.1 + e.2.2.2.2) ∧ (∀ p j, ymd p j S.2.2.2.1 = false → w p j = w0 p j) ∧ yInv gf ga ra Sp w ∧ (∀ e ∈ S.2.2.2.2.1, e.1 < S.1 ∧ e.2.1 < S.1 ∧ ρ e.1 + e.2.2 ≤ ρ e.2.1) ∧ (∀ e ∈ S.2.2.2.2.2, (∀ a ∈ e.2.1, a.1 < S.1) ∧ e.2.2.1 < S.1 ∧ gh e.1 (e.2.1.map (fun a => ρ a.1 + a.2)) = ρ e.2.2.1 + e.2.2.2)
/-- a number came out: what is done with it holds -/
noncomputable def yR1 (L : Nat) (xs : Nat → Int) (w0 : qW) (gf : Nat → Nat → Option yI) (ga : Nat → Option yI) (ra : Nat → Nat → List Int) (Sp : qW → Prop) (gh : Nat → List Int → Int) (ρ : Nat → Int) (S : yS) (w : qW) (kd : Nat) (x : Int) (P : yV → yS → Bool) : Prop :=
  ∃ ρ' S' v, S.1 ≤ S'.1 ∧ yag S.1 ρ ρ' ∧ yG L xs w0 gf ga ra Sp gh ρ' S' w ∧ v.2.1 < S'.1 ∧ yc ρ' v = (kd, x) ∧ P v S' = true
noncomputable def yOK (L : Nat) (xs : Nat → Int) (w0 : qW) (gf : Nat → Nat → Option yI) (ga : Nat → Option yI) (ra : Nat → Nat → List Int) (Sp : qW → Prop) (gh : Nat → List Int → Int) (ρ : Nat → Int) (S : yS) (N : yN) (o : Option qC) : Prop :=
  ∃ pc' ls' st' S' ρ' w', o = some (pc', ls'.map (yc ρ'), st'.map (yc ρ'), w', 142) ∧ S.1 ≤ S'.1 ∧ yag S.1 ρ ρ' ∧ ySc S'.1 ls' ∧ ySc S'.1 st' ∧ yG L xs w0 gf ga ra Sp gh ρ' S' w' ∧ N pc' ls' st' S' = true
section SymOK
variable {L : Nat} {xs : Nat → Int} {w0 : qW} {gf : Nat → Nat → Option yI} {ga : Nat → Option yI} {ra : Nat → Nat → List Int} {Sp : qW → Prop} {gh : Nat → List Int → Int} {bv : Nat → Nat → Option Int} {bb : Nat → Option yI} {ρ : Nat → Int} {S : yS} {w : qW}
theorem ybd_ok {s : Nat} {r : yI} : ∀ {bs : yB}, (∀ e ∈ bs, yin e.2 (ρ e.1)) → ybd bs s = some r → yin r (ρ s)
  | [], _, h => by cases h
  | e :: bs, hb, h => by
    unfold ybd at h
    by_cases c : Nat.beq e.1 s = true
    · rw [c] at h
      have h : some e.2 = some r := h
      cases h
      have := hb e List.mem_cons_self
      rw [Nat.eq_of_beq_eq_true c] at this
      exact this
    · rw [ybf c] at h
      exact ybd_ok (fun e he => hb e (List.mem_cons_of_mem _ he)) h
theorem yiv_ok {s : Nat} {o a b : Int} (g : yG L xs w0 gf ga ra Sp gh ρ S w) (h : yiv S.2.1 s o = some (a, b)) : a ≤ ρ s + o ∧ ρ s + o ≤ b := by
  unfold yiv at h
  by_cases c : Nat.beq s 0 = true
  · rw [c] at h
    have h : some (o, o) = some (a, b) := h
    cases h
    rw [Nat.eq_of_beq_eq_true c, g.1.1]
    omega
  · rw [ybf c] at h
    have h : (match ybd S.2.1 s with
      | some (lo, hi) => some (lo + o, hi + o)
      | none => none) = some (a, b) := h
    split at h
    · rename_i lo hi hq
      cases h
      have := ybd_ok (fun e he => (g.2.1 e he).2) hq
      have h1 := this.1
      have h2 := this.2
      have h1 : lo ≤ ρ s := h1
      have h2 : ρ s ≤ hi := h2
      omega
    · cases h
theorem yfl_ok0 {p a : Nat} {b : Int} {s : Nat} {o : Int} : ∀ {hf : yH}, yfl hf p a b = some (s, o) → (p, a, b, s, o) ∈ hf
  | [], h => by cases h
  | e :: r, h => by
    unfold yfl at h
    by_cases c : (Nat.beq e.1 p && (Nat.beq e.2.1 a && yqi e.2.2.1 b)) = true
    · rw [c] at h
      have h : some e.2.2.2 = some (s, o) := h
      rw [Bool.and_eq_true, Bool.and_eq_true] at c
      have e1 := Nat.eq_of_beq_eq_true c.1
      have e2 := Nat.eq_of_beq_eq_true c.2.1
      have e3 := yqi_i.mp c.2.2
      have e4 : e.2.2.2 = (s, o) := Option.some.inj h
      have : (p, a, b, s, o) = e := by rw [← e1, ← e2, ← e3]; show _ = (e.1, e.2.1, e.2.2.1, e.2.2.2); rw [e4]
      rw [this]; exact List.mem_cons_self
    · rw [ybf c] at h
      exact List.mem_cons_of_mem _ (yfl_ok0 h)
theorem yfl_ok {p a : Nat} {b : Int} {s : Nat} {o : Int} (g : yG L xs w0 gf ga ra Sp gh ρ S w) (h : yfl S.2.2.1 p a b = some (s, o)) : s < S.1 ∧ yrd xs w p (ρ a + b).toNat = ρ s + o := by
  have := g.2.2.1 _ (yfl_ok0 h)
  exact ⟨this.2.1, this.2.2⟩
theorem yG_fresh {r : yI} {x : Int} (g : yG L xs w0 gf ga ra Sp gh ρ S w) (hx : yin r x) : yG L xs w0 gf ga ra Sp gh (yup ρ S.1 x) (S.1 + 1, (S.1, r) :: S.2.1, S.2.2) w := by
  obtain ⟨g1, g2, g3, g4, g5, g6, g7⟩ := g
  have hu : ∀ i, i < S.1 → yup ρ S.1 x i = ρ i := yup_ag
  refine ⟨⟨by rw [hu 0 (by omega)]; exact g1.1, by show 1 < S.1 + 1; omega, by rw [hu 1 (by omega)]; exact g1.2.2⟩, fun e he => ?_, fun e he => ?_, g4, g5, fun e he => ?_, fun e he => ?_⟩
  · rcases List.mem_cons.mp he with rfl | he
    · exact ⟨Nat.lt_succ_self _, by show yin r (yup ρ S.1 x S.1); rw [yup_at]; exact hx⟩
    · have := g2 e he
      exact ⟨Nat.lt_succ_of_lt this.1, by rw [hu _ this.1]; exact this.2⟩
  · have := g3 e he
    exact ⟨Nat.lt_succ_of_lt this.1, Nat.lt_succ_of_lt this.2.1, by rw [hu _ this.1, hu _ this.2.1]; exact this.2.2⟩
  · have := g6 e he
    exact ⟨Nat.lt_succ_of_lt this.1, Nat.lt_succ_of_lt this.2.1, by rw [hu _ this.1, hu _ this.2.1]; exact this.2.2⟩
  · have := g7 e he
    refine ⟨fun a ha => Nat.lt_succ_of_lt (this.1 a ha), Nat.lt_succ_of_lt this.2.1, ?_⟩
    rw [hu _ this.2.1, ← this.2.2]
    congr 1
    exact List.map_congr_left (fun a ha => by rw [hu _ (this.1 a ha)])
theorem yR1.same {kd s : Nat} {o x : Int} {N : yV → yS → Bool} (g : yG L xs w0 gf ga ra Sp gh ρ S w) (hs : s < S.1) (hx : ρ s + o = x) (h : N (kd, s, o) S = true) : yR1 L xs w0 gf ga ra Sp gh ρ S w kd x N := ⟨ρ, S, (kd, s, o), Nat.le_refl _, yag.rf, g, hs, by show (kd, ρ s + o) = _; rw [hx], h⟩
theorem ynum_ok {kd : Nat} {r : yI} {x : Int} {N : yV → yS → Bool} (h : ynum kd S r N = true) (g : yG L xs w0 gf ga ra Sp gh ρ S w) (hx : yin r x) : yR1 L xs w0 gf ga ra Sp gh ρ S w kd x N := by
  unfold ynum at h
  by_cases c : yqi r.1 r.2 = true
  · rw [c] at h
    have e := yqi_i.mp c
    exact yR1.same g (by have := g.1.2.1; omega) (by rw [g.1.1]; have := hx.1; have := hx.2; omega) h
  · rw [ybf c] at h
    exact ⟨yup ρ S.1 x, _, (kd, S.1, 0), Nat.le_succ _, yup_ag, yG_fresh g hx, Nat.lt_succ_self _, by show (kd, yup ρ S.1 x S.1 + 0) = _; rw [yup_at, Int.add_zero], h⟩
theorem ybin_ok {kd s1 s2 : Nat} {o1 o2 : Int} {f : Int → Int → Int} {v : Int → Int → Int → Int → yI} {N : yV → yS → Bool} (hv : yok f v) (h : ybin kd f v S s1 o1 s2 o2 N = true) (g : yG L xs w0 gf ga ra Sp gh ρ S w) : yR1 L xs w0 gf ga ra Sp gh ρ S w kd (f (ρ s1 + o1) (ρ s2 + o2)) N := by
  unfold ybin at h
  split at h
  · rename_i a b c d h1 h2
    have k1 := yiv_ok g h1
    have k2 := yiv_ok g h2
    by_cases e : (yqi a b && yqi c d) = true
    · rw [e] at h
      rw [Bool.and_eq_true, yqi_i, yqi_i] at e
      exact yR1.same g (by have := g.1.2.1; omega) (by rw [g.1.1, Int.zero_add, show ρ s1 + o1 = a by omega, show ρ s2 + o2 = c by omega]) h
    · rw [ybf e] at h
      exact ynum_ok h g (hv _ _ _ _ _ _ k1.1 k1.2 k2.1 k2.2)
  · cases h
theorem yadd_ok {s1 s2 : Nat} {o1 o2 : Int} {N : yV → yS → Bool} (h : yadd 0 (fun x y => wrp (x + y)) vadd y32 S s1 o1 s2 o2 N = true) (g : yG L xs w0 gf ga ra Sp gh ρ S w) (hs1 : s1 < S.1) (hs2 : s2 < S.1) : yR1 L xs w0 gf ga ra Sp gh ρ S w 0 (wrp (ρ s1 + o1 + (ρ s2 + o2))) N := by
  unfold yadd at h
  split at h
  · rename_i a b c d h1 h2
    have k1 := yiv_ok g h1
    have k2 := yiv_ok g h2
    by_cases e : (yqi c d && (yle y32.1 (a + c) && yle (b + c) y32.2)) = true
    · rw [e] at h
      rw [Bool.and_eq_true, Bool.and_eq_true, yqi_i, yle_i, yle_i] at e
      have e1 : (-2147483648 : Int) ≤ a + c := e.2.1
      have e2 : b + c ≤ (2147483647 : Int) := e.2.2
      exact yR1.same g hs1 (by rw [wrp_id (by omega) (by omega)]; omega) h
    · rw [ybf e] at h
      by_cases e : (yqi a b && (yle y32.1 (a + c) && yle (a + d) y32.2)) = true
      · have h : (bif (yqi a b && (yle y32.1 (a + c) && yle (a + d) y32.2)) then N (0, s2, o2 + a) S else ynum 0 S (vadd a b c d) N) = true := h
        rw [e] at h
        rw [Bool.and_eq_true, Bool.and_eq_true, yqi_i, yle_i, yle_i] at e
        have e1 : (-2147483648 : Int) ≤ a + c := e.2.1
        have e2 : a + d ≤ (2147483647 : Int) := e.2.2
        exact yR1.same g hs2 (by rw [wrp_id (by omega) (by omega)]; omega) h
      · have h : (bif (yqi a b && (yle y32.1 (a + c) && yle (a + d) y32.2)) then N (0, s2, o2 + a) S else ynum 0 S (vadd a b c d) N) = true := h
        rw [ybf e] at h
        exact ynum_ok h g (vadd_ok _ _ _ _ _ _ k1.1 k1.2 k2.1 k2.2)
  · cases h
theorem ysub_ok {s1 s2 : Nat} {o1 o2 : Int} {N : yV → yS → Bool} (h : ysub 0 (fun x y => wrp (x - y)) vsub y32 S s1 o1 s2 o2 N = true) (g : yG L xs w0 gf ga ra Sp gh ρ S w) (hs1 : s1 < S.1) : yR1 L xs w0 gf ga ra Sp gh ρ S w 0 (wrp (ρ s1 + o1 - (ρ s2 + o2))) N := by
  unfold ysub at h
  split at h
  · rename_i a b c d h1 h2
    have k1 := yiv_ok g h1
    have k2 := yiv_ok g h2
    by_cases e : (yqi c d && (yle y32.1 (a - c) && yle (b - c) y32.2)) = true
    · rw [e] at h
      rw [Bool.and_eq_true, Bool.and_eq_true, yqi_i, yle_i, yle_i] at e
      have e1 : (-2147483648 : Int) ≤ a - c := e.2.1
      have e2 : b - c ≤ (2147483647 : Int) := e.2.2
      exact yR1.same g hs1 (by rw [wrp_id (by omega) (by omega)]; omega) h
    · rw [ybf e] at h
      exact ynum_ok h g (vsub_ok _ _ _ _ _ _ k1.1 k1.2 k2.1 k2.2)
  · cases h
theorem yun_ok {kd s : Nat} {o : Int} {f : Int → Int} {B : yI} {N : yV → yS → Bool} (hf1 : ∀ x, yin B x → f x = x) (hf2 : ∀ x, yin B (f x)) (h : yun kd f B S s o N = true) (g : yG L xs w0 gf ga ra Sp gh ρ S w) (hs : s < S.1) : yR1 L xs w0 gf ga ra Sp gh ρ S w kd (f (ρ s + o)) N := by
  unfold yun at h
  split at h
  · rename_i a b h1
    have k1 := yiv_ok g h1
    by_cases e : (yle B.1 a && yle b B.2) = true
    · rw [e] at h
      rw [Bool.and_eq_true, yle_i, yle_i] at e
      exact yR1.same g hs (hf1 _ ⟨by omega, by omega⟩).symm h
    · rw [ybf e] at h
      exact ynum_ok h g (hf2 _)
  · cases h
theorem yneg_ok {s : Nat} {o : Int} {N : yV → yS → Bool} (h : yneg S s o N = true) (g : yG L xs w0 gf ga ra Sp gh ρ S w) : yR1 L xs w0 gf ga ra Sp gh ρ S w 0 (wrp (-(ρ s + o))) N := by
  unfold yneg at h
  split at h
  · rename_i a b h1
    have k1 := yiv_ok g h1
    exact ynum_ok h g (yfit32 (by omega) (by omega))
  · cases h
/-- what is known more, in the same world -/
noncomputable def yR0 (L : Nat) (xs : Nat → Int) (w0 : qW) (gf : Nat → Nat → Option yI) (ga : Nat → Option yI) (ra : Nat → Nat → List Int) (Sp : qW → Prop) (gh : Nat → List Int → Int) (ρ : Nat → Int) (n : Nat) (w : qW) (P : yS → Bool) : Prop := ∃ S', S'.1 = n ∧ yG L xs w0 gf ga ra Sp gh ρ S' w ∧ P S' = true
theorem yrf_ok {s : Nat} {o a b lo hi : Int} {N : yS → Bool} (h : yrf S s o a b lo hi N = true) (g : yG L xs w0 gf ga ra Sp gh ρ S w) (hs : s < S.1) (h1 : lo ≤ ρ s + o) (h2 : ρ s + o ≤ hi) : yR0 L xs w0 gf ga ra Sp gh ρ S.1 w N := by
  unfold yrf at h
  rw [yle_i.mpr (show lo ≤ hi by omega)] at h
  have h : (bif Nat.beq s 0 || (yqi a lo && yqi b hi) then N S else N (S.1, (s, lo - o, hi - o) :: S.2.1, S.2.2)) = true := h
  by_cases c : (Nat.beq s 0 || (yqi a lo && yqi b hi)) = true
  · rw [c] at h
    exact ⟨S, rfl, g, h⟩
  · rw [ybf c, cond_false] at h
    refine ⟨(S.1, (s, lo - o, hi - o) :: S.2.1, S.2.2), rfl, ⟨g.1, fun e he => ?_, g.2.2⟩, h⟩
    rcases List.mem_cons.mp he with rfl | he
    · exact ⟨hs, by show lo - o ≤ ρ s; omega, by show ρ s ≤ hi - o; omega⟩
    · exact g.2.1 e he
theorem ydf_ok {s1 s2 : Nat} {c : Int} (g : yG L xs w0 gf ga ra Sp gh ρ S w) (hs1 : s1 < S.1) (hs2 : s2 < S.1) (h : ρ s1 + c ≤ ρ s2) : yG L xs w0 gf ga ra Sp gh ρ (ydf S s1 s2 c) w ∧ (ydf S s1 s2 c).1 = S.1 := by
  unfold ydf
  by_cases e : (Nat.beq s1 0 || Nat.beq s2 0) = true
  · rw [e]; exact ⟨g, rfl⟩
  · rw [ybf e]
    refine ⟨⟨g.1, g.2.1, g.2.2.1, g.2.2.2.1, g.2.2.2.2.1, fun x hx => ?_, g.2.2.2.2.2.2⟩, rfl⟩
    rcases List.mem_cons.mp hx with rfl | hx
    · exact ⟨hs1, hs2, h⟩
    · exact g.2.2.2.2.2.1 x hx
theorem ydl_ok0 {s1 s2 : Nat} {o1 o2 : Int} : ∀ {df : yD}, (∀ e ∈ df, ρ e.1 + e.2.2 ≤ ρ e.2.1) → ydl df s1 o1 s2 o2 = true → ρ s1 + o1 < ρ s2 + o2
  | [], _, h => by cases h
  | e :: r, hd, h => by
    unfold ydl at h
    rw [Bool.or_eq_true] at h
    rcases h with h | h
    · rw [Bool.and_eq_true, Bool.and_eq_true, yle_i] at h
      have := hd e List.mem_cons_self
      rw [Nat.eq_of_beq_eq_true h.1, Nat.eq_of_beq_eq_true h.2.1] at this
      omega
    · exact ydl_ok0 (fun e he => hd e (List.mem_cons_of_mem _ he)) h
theorem ydl_ok {s1 s2 : Nat} {o1 o2 : Int} (g : yG L xs w0 gf ga ra Sp gh ρ S w) (h : ydl S.2.2.2.2.1 s1 o1 s2 o2 = true) : ρ s1 + o1 < ρ s2 + o2 := ydl_ok0 (fun e he => (g.2.2.2.2.2.1 e he).2.2) h
theorem ylt_ok {s1 s2 : Nat} {o1 o2 : Int} {T F : yS → Bool} (h : ylt S s1 o1 s2 o2 T F = true) (g : yG L xs w0 gf ga ra Sp gh ρ S w) (hs1 : s1 < S.1) (hs2 : s2 < S.1) : (ρ s1 + o1 < ρ s2 + o2 → yR0 L xs w0 gf ga ra Sp gh ρ S.1 w T) ∧ (¬ ρ s1 + o1 < ρ s2 + o2 → yR0 L xs w0 gf ga ra Sp gh ρ S.1 w F) := by
  unfold ylt at h
  by_cases c : Nat.beq s1 s2 = true
  · rw [c] at h
    have e := Nat.eq_of_beq_eq_true c
    subst e
    have h : (bif yle o2 o1 then F S else T S) = true := h
    by_cases k : yle o2 o1 = true
    · rw [k] at h
      have := yle_i.mp k
      exact ⟨fun z => by omega, fun _ => ⟨S, rfl, g, h⟩⟩
    · rw [ybf k] at h
      have := yle_f k
      exact ⟨fun _ => ⟨S, rfl, g, h⟩, fun z => by omega⟩
  · rw [ybf c, cond_false] at h
    by_cases q1 : ydl S.2.2.2.2.1 s1 o1 s2 o2 = true
    · rw [q1] at h
      have := ydl_ok g q1
      exact ⟨fun _ => ⟨S, rfl, g, h⟩, fun z => absurd this z⟩
    rw [ybf q1, cond_false] at h
    by_cases q2 : ydl S.2.2.2.2.1 s2 (o2 - 1) s1 o1 = true
    · rw [q2] at h
      have := ydl_ok g q2
      exact ⟨fun z => by omega, fun _ => ⟨S, rfl, g, h⟩⟩
    rw [ybf q2, cond_false] at h
    split at h
    · rename_i a b c d h1 h2
      have k1 := yiv_ok g h1
      have k2 := yiv_ok g h2
      rw [Bool.and_eq_true] at h
      refine ⟨fun z => ?_, fun z => ?_⟩
      · have m1 := ymn_i b (d - 1)
        have m2 := ymx_i c (a + 1)
        obtain ⟨S1, e1, g1, h3⟩ := yrf_ok h.1 g hs1 k1.1 (by rcases m1.2.2 with h | h <;> omega)
        obtain ⟨S2, e2, g2, h4⟩ := yrf_ok h3 g1 (by omega) (by rcases m2.2.2 with h | h <;> omega) k2.2
        have := ydf_ok (s1 := s1) (s2 := s2) (c := o1 + 1 - o2) g2 (by omega) (by omega) (by omega)
        exact ⟨_, by rw [this.2]; omega, this.1, h4⟩
      · have m1 := ymn_i d b
        have m2 := ymx_i a c
        obtain ⟨S1, e1, g1, h3⟩ := yrf_ok h.2 g hs1 (by rcases m2.2.2 with h | h <;> omega) k1.2
        obtain ⟨S2, e2, g2, h4⟩ := yrf_ok h3 g1 (by omega) k2.1 (by rcases m1.2.2 with h | h <;> omega)
        have := ydf_ok (s1 := s2) (s2 := s1) (c := o2 - o1) g2 (by omega) (by omega) (by omega)
        exact ⟨_, by rw [this.2]; omega, this.1, h4⟩
    · cases h
theorem yne_ok {s : Nat} {o a b c : Int} {N : yS → Bool} (h : yne S s o a b c N = true) (g : yG L xs w0 gf ga ra Sp gh ρ S w) (hs : s < S.1) (h1 : a ≤ ρ s + o) (h2 : ρ s + o ≤ b) (h3 : ρ s + o ≠ c) : yR0 L xs w0 gf ga ra Sp gh ρ S.1 w N := by
  unfold yne at h
  by_cases e : yqi a c = true
  · rw [e] at h
    have := yqi_i.mp e
    exact yrf_ok h g hs (by omega) h2
  · rw [ybf e] at h
    have h : (bif yqi b c then yrf S s o a b a (b - 1) N else (yrf S s o a b a (ymn b (c - 1)) N && yrf S s o a b (ymx a (c + 1)) b N)) = true := h
    by_cases e : yqi b c = true
    · rw [e] at h
      have := yqi_i.mp e
      exact yrf_ok h g hs h1 (by omega)
    · rw [ybf e, cond_false, Bool.and_eq_true] at h
      have m1 := ymn_i b (c - 1)
      have m2 := ymx_i a (c + 1)
      by_cases z : ρ s + o < c
      · exact yrf_ok h.1 g hs h1 (by rcases m1.2.2 with q | q <;> omega)
      · exact yrf_ok h.2 g hs (by rcases m2.2.2 with q | q <;> omega) h2
theorem yqe_ok {s1 s2 : Nat} {o1 o2 : Int} {T F : yS → Bool} (h : yqe S s1 o1 s2 o2 T F = true) (g : yG L xs w0 gf ga ra Sp gh ρ S w) (hs1 : s1 < S.1) (hs2 : s2 < S.1) : (ρ s1 + o1 = ρ s2 + o2 → yR0 L xs w0 gf ga ra Sp gh ρ S.1 w T) ∧ (¬ ρ s1 + o1 = ρ s2 + o2 → yR0 L xs w0 gf ga ra Sp gh ρ S.1 w F) := by
  unfold yqe at h
  by_cases c : Nat.beq s1 s2 = true
  · rw [c] at h
    have e := Nat.eq_of_beq_eq_true c
    subst e
    have h : (bif yqi o1 o2 then T S else F S) = true := h
    by_cases k : yqi o1 o2 = true
    · rw [k] at h
      have := yqi_i.mp k
      exact ⟨fun _ => ⟨S, rfl, g, h⟩, fun z => by omega⟩
    · rw [ybf k] at h
      have k2 : ¬ o1 = o2 := fun z => k (yqi_i.mpr z)
      exact ⟨fun z => by omega, fun _ => ⟨S, rfl, g, h⟩⟩
  · rw [ybf c, cond_false] at h
    by_cases q1 : (ydl S.2.2.2.2.1 s1 o1 s2 o2 || ydl S.2.2.2.2.1 s2 o2 s1 o1) = true
    · rw [q1] at h
      have hn : ¬ ρ s1 + o1 = ρ s2 + o2 := by
        rw [Bool.or_eq_true] at q1
        rcases q1 with q1 | q1
        · have := ydl_ok g q1; omega
        · have := ydl_ok g q1; omega
      exact ⟨fun z => absurd z hn, fun _ => ⟨S, rfl, g, h⟩⟩
    rw [ybf q1, cond_false] at h
    split at h
    · rename_i a b c d h1 h2
      have k1 := yiv_ok g h1
      have k2 := yiv_ok g h2
      rw [Bool.and_eq_true] at h
      refine ⟨fun z => ?_, fun z => ?_⟩
      · have m1 := ymn_i b d
        have m2 := ymx_i a c
        obtain ⟨S1, e1, g1, h3⟩ := yrf_ok h.1 g hs1 (by rcases m2.2.2 with h | h <;> omega) (by rcases m1.2.2 with h | h <;> omega)
        obtain ⟨S2, e2, g2, h4⟩ := yrf_ok h3 g1 (by omega) (by rcases m2.2.2 with h | h <;> omega) (by rcases m1.2.2 with h | h <;> omega)
        have f1 := ydf_ok (s1 := s1) (s2 := s2) (c := o1 - o2) g2 (by omega) (by omega) (by omega)
        have f2 := ydf_ok (s1 := s2) (s2 := s1) (c := o2 - o1) f1.1 (by rw [f1.2]; omega) (by rw [f1.2]; omega) (by omega)
        exact ⟨_, by rw [f2.2, f1.2]; omega, f2.1, h4⟩
      · have h := h.2
        by_cases e : yqi c d = true
        · rw [e] at h
          have := yqi_i.mp e
          exact yne_ok h g hs1 k1.1 k1.2 (by omega)
        · rw [ybf e] at h
          replace h : (bif yqi a b then yne S s2 o2 c d a F else ylt S s1 o1 s2 o2 F (fun S => ylt S s2 o2 s1 o1 F (fun _ => true))) = true := h
          by_cases e : yqi a b = true
          · rw [e] at h
            have := yqi_i.mp e
            exact yne_ok h g hs2 k2.1 k2.2 (by omega)
          · rw [ybf e, cond_false] at h
            have l1 := ylt_ok h g hs1 hs2
            by_cases z2 : ρ s1 + o1 < ρ s2 + o2
            · exact l1.1 z2
            · obtain ⟨S1, e1, g1, h1⟩ := l1.2 z2
              have l2 := ylt_ok h1 g1 (by omega) (by omega)
              rw [e1] at l2
              exact l2.1 (by omega)
    · cases h
theorem ybr_ok {α : Type} {A B : α} {c : Jvm.ClassFile.Cond} {s1 s2 : Nat} {o1 o2 : Int} {T F : yS → Bool} (h : ybr c S s1 o1 s2 o2 T F = true) (g : yG L xs w0 gf ga ra Sp gh ρ S w) (hs1 : s1 < S.1) (hs2 : s2 < S.1) : (qbr c (ρ s1 + o1) (ρ s2 + o2) A B = A ∧ yR0 L xs w0 gf ga ra Sp gh ρ S.1 w T) ∨ (qbr c (ρ s1 + o1) (ρ s2 + o2) A B = B ∧ yR0 L xs w0 gf ga ra Sp gh ρ S.1 w F) := by
  cases c
  case eq =>
    have := yqe_ok (show yqe S s1 o1 s2 o2 T F = true from h) g hs1 hs2
    by_cases z : ρ s1 + o1 = ρ s2 + o2
    · exact .inl ⟨if_pos z, this.1 z⟩
    · exact .inr ⟨if_neg z, this.2 z⟩
  case ne =>
    have := yqe_ok (show yqe S s1 o1 s2 o2 F T = true from h) g hs1 hs2
    by_cases z : ρ s1 + o1 = ρ s2 + o2
    · exact .inr ⟨if_pos z, this.1 z⟩
    · exact .inl ⟨if_neg z, this.2 z⟩
  case lt =>
    have := ylt_ok (show ylt S s1 o1 s2 o2 T F = true from h) g hs1 hs2
    by_cases z : ρ s1 + o1 < ρ s2 + o2
    · exact .inl ⟨if_pos z, this.1 z⟩
    · exact .inr ⟨if_neg z, this.2 z⟩
  case ge =>
    have := ylt_ok (show ylt S s1 o1 s2 o2 F T = true from h) g hs1 hs2
    by_cases z : ρ s1 + o1 < ρ s2 + o2
    · exact .inr ⟨if_pos z, this.1 z⟩
    · exact .inl ⟨if_neg z, this.2 z⟩
  case gt =>
    have := ylt_ok (show ylt S s2 o2 s1 o1 T F = true from h) g hs2 hs1
    by_cases z : ρ s2 + o2 < ρ s1 + o1
    · exact .inl ⟨if_pos z, this.1 z⟩
    · exact .inr ⟨if_neg z, this.2 z⟩
  case le =>
    have := ylt_ok (show ylt S s2 o2 s1 o1 F T = true from h) g hs2 hs1
    by_cases z : ρ s2 + o2 < ρ s1 + o1
    · exact .inr ⟨if_pos z, this.1 z⟩
    · exact .inl ⟨if_neg z, this.2 z⟩
theorem yvl2_ok : ∀ {l m : List (Nat × Int)}, yvl2 l m = true → l = m
  | [], [], _ => rfl
  | a :: l, b :: m, h => by
    have h : (Nat.beq a.1 b.1 && (yqi a.2 b.2 && yvl2 l m)) = true := h
    rw [Bool.and_eq_true, Bool.and_eq_true, yqi_i] at h
    obtain ⟨a1, a2⟩ := a
    obtain ⟨b1, b2⟩ := b
    have h1 : a1 = b1 := Nat.eq_of_beq_eq_true h.1
    have h2 : a2 = b2 := h.2.1
    rw [h1, h2, yvl2_ok h.2.2]
  | [], _ :: _, h => by cases h
  | _ :: _, [], h => by cases h
theorem ymef_ok {g : Nat} {as : List (Nat × Int)} {s : Nat} {o : Int} : ∀ {l : yE}, ymef g as l = some (s, o) → (g, as, s, o) ∈ l
  | [], h => by cases h
  | e :: l, h => by
    unfold ymef at h
    by_cases c : (Nat.beq e.1 g && yvl2 e.2.1 as) = true
    · rw [c] at h
      have h : some e.2.2 = some (s, o) := h
      rw [Bool.and_eq_true] at c
      have h3 := Option.some.inj h
      have : (g, as, s, o) = e := by rw [← Nat.eq_of_beq_eq_true c.1, ← yvl2_ok c.2, ← h3]
      rw [this]; exact List.mem_cons_self
    · rw [ybf c] at h
      exact List.mem_cons_of_mem _ (ymef_ok h)
theorem ygho_ok {g : Nat} {as : List (Nat × Int)} {r : yI} {x : Int} {N : yV → yS → Bool} (h : ygho S g as r N = true) (hg : yG L xs w0 gf ga ra Sp gh ρ S w) (hs : ∀ a ∈ as, a.1 < S.1) (hx : yin r x) (hgh : Nat.beq g 0 = false → x = gh g (as.map (fun a => ρ a.1 + a.2))) : yR1 L xs w0 gf ga ra Sp gh ρ S w 0 x N := by
  unfold ygho at h
  by_cases c : Nat.beq g 0 = true
  · rw [c] at h; exact ynum_ok h hg hx
  · rw [ybf c, cond_false] at h
    have hgh := hgh (ybf c)
    split at h
    · rename_i s o hq
      have := hg.2.2.2.2.2.2 _ (ymef_ok hq)
      exact yR1.same hg this.2.1 (by rw [hgh, ← this.2.2]) h
    · obtain ⟨ρ', S', v, h1, h2, h3, h4, h5, h6⟩ := ynum_ok h hg hx
      refine ⟨ρ', (S'.1, S'.2.1, S'.2.2.1, S'.2.2.2.1, S'.2.2.2.2.1, (g, as, v.2.1, v.2.2) :: S'.2.2.2.2.2), v, h1, h2, ⟨h3.1, h3.2.1, h3.2.2.1, h3.2.2.2.1, h3.2.2.2.2.1, h3.2.2.2.2.2.1, fun e he => ?_⟩, h4, h5, h6⟩
      rcases List.mem_cons.mp he with rfl | he
      · refine ⟨fun a ha => Nat.lt_of_lt_of_le (hs a ha) h1, h4, ?_⟩
        have e1 : ρ' v.2.1 + v.2.2 = x := congrArg Prod.snd h5
        show gh g (as.map (fun a => ρ' a.1 + a.2)) = ρ' v.2.1 + v.2.2
        rw [e1, hgh]
        congr 1
        exact List.map_congr_left (fun a ha => by rw [h2 _ (hs a ha)])
      · exact h3.2.2.2.2.2.2 e he
theorem yandc_ok {s : Nat} {o c : Int} {r : yI} {N : yV → yS → Bool} (hgh : ∀ x c, gh 1000 [x, c] = qand x c) (h : yandc S s o c r N = true) (g : yG L xs w0 gf ga ra Sp gh ρ S w) (hs : s < S.1) (hx : yin r (qand (ρ s + o) c)) : yR1 L xs w0 gf ga ra Sp gh ρ S w 0 (qand (ρ s + o) c) N := ygho_ok h g (fun a ha => by
  rcases List.mem_cons.mp ha with rfl | ha
  · exact hs
  · rcases List.mem_cons.mp ha with rfl | ha
    · have := g.1.2.1; show 0 < S.1; omega
    · cases ha) hx (fun _ => by
  show _ = gh 1000 [ρ s + o, ρ 0 + c]
  rw [hgh, g.1.1, Int.zero_add])
theorem yand_neg {x c : Int} (hx : x < 0) (hx2 : -2147483648 ≤ x) (hc : -2147483648 ≤ c) (hc2 : c ≤ -1) : yin (-2147483648, -1) (qand x c) := by
  refine ⟨(y32_i _).1, ?_⟩
  show qand x c ≤ -1
  have h1 : (Int32.ofInt x &&& Int32.ofInt c).toBitVec.msb = true := by
    rw [Int32.toBitVec_and, BitVec.msb_and]
    have k : ∀ z : Int, -2147483648 ≤ z → z < 0 → (Int32.ofInt z).toBitVec.msb = true := fun z z1 z2 => by
      rw [BitVec.msb_eq_toInt]
      have e : (Int32.ofInt z).toBitVec.toInt = z := t32 ⟨z1, by omega⟩
      rw [e]
      exact decide_eq_true z2
    rw [k x hx2 hx, k c (by omega) (by omega)]; rfl
  rw [BitVec.msb_eq_toInt] at h1
  have h2 := of_decide_eq_true h1
  have h3 : qand x c < 0 := h2
  omega
theorem yand_nat {x c : Int} (hx : 0 ≤ x) (hx2 : x ≤ 2147483647) : qand x c = (((c % 4294967296).toNat &&& x.toNat : Nat) : Int) := by
  have := qand_r (x := c) (b := x.toNat) (by omega)
  rw [Int.toNat_of_nonneg hx] at this
  rw [qand_c]
  exact this
theorem yand_big {x c : Int} (hx : 65536 ≤ x) (hx2 : x ≤ 2147483647) (hc : -65536 ≤ c) (hc2 : c ≤ -1) : yin (1, 2147483647) (qand x c) := by
  rw [yand_nat (by omega) hx2]
  have h1 : ((c % 4294967296).toNat &&& x.toNat) >>> 16 = x.toNat / 65536 := by
    rw [Nat.shiftRight_and_distrib, Nat.shiftRight_eq_div_pow, Nat.shiftRight_eq_div_pow, show (c % 4294967296).toNat / 2 ^ 16 = 2 ^ 16 - 1 by omega, Nat.and_comm, Nat.and_two_pow_sub_one_eq_mod, Nat.mod_eq_of_lt (by omega)]
  rw [Nat.shiftRight_eq_div_pow] at h1
  have h2 : (c % 4294967296).toNat &&& x.toNat ≤ x.toNat := Nat.and_le_right
  generalize (c % 4294967296).toNat &&& x.toNat = z at h1 h2 ⊢
  exact ⟨by show (1 : Int) ≤ (z : Int); omega, by show (z : Int) ≤ 2147483647; omega⟩
theorem yand_mod {x c : Int} (hx : 0 ≤ x) (hx2 : x < 65536) : qand x c = qand x (c % 65536) := by
  rw [yand_nat hx (by omega), yand_nat hx (by omega)]
  have key : ∀ A : Nat, A &&& x.toNat = (A % 2 ^ 16) &&& x.toNat := fun A => by
    have h2 : A &&& x.toNat ≤ x.toNat := Nat.and_le_right
    have h3 := Nat.and_mod_two_pow (a := A) (b := x.toNat) (n := 16)
    rw [Nat.mod_eq_of_lt (show A &&& x.toNat < 2 ^ 16 by omega), Nat.mod_eq_of_lt (show x.toNat < 2 ^ 16 by omega)] at h3
    exact h3
  rw [key, key (c % 65536 % 4294967296).toNat, show (c % 4294967296).toNat % 2 ^ 16 = (c % 65536 % 4294967296).toNat % 2 ^ 16 by omega]
theorem yR1.sub {S1 : yS} {kd : Nat} {x : Int} {N : yV → yS → Bool} (e : S1.1 = S.1) (h : yR1 L xs w0 gf ga ra Sp gh ρ S1 w kd x N) : yR1 L xs w0 gf ga ra Sp gh ρ S w kd x N := by
  obtain ⟨ρ', S', v, h1, h2, h3⟩ := h
  rw [e] at h1 h2
  exact ⟨ρ', S', v, h1, h2, h3⟩
theorem yand_ok {s1 s2 : Nat} {o1 o2 : Int} {N : yV → yS → Bool} (hgh : ∀ x c, gh 1000 [x, c] = qand x c) (h : yand S s1 o1 s2 o2 N = true) (g : yG L xs w0 gf ga ra Sp gh ρ S w) (hs1 : s1 < S.1) : yR1 L xs w0 gf ga ra Sp gh ρ S w 0 (qand (ρ s1 + o1) (ρ s2 + o2)) N := by
  have h0 : 0 < S.1 := by have := g.1.2.1; omega
  unfold yand at h
  split at h
  · rename_i a b c d h1 h2
    have k1 := yiv_ok g h1
    have k2 := yiv_ok g h2
    by_cases e : (yqi a b && yqi c d) = true
    · rw [e] at h
      rw [Bool.and_eq_true, yqi_i, yqi_i] at e
      exact yR1.same g h0 (by rw [g.1.1, Int.zero_add, show ρ s1 + o1 = a by omega, show ρ s2 + o2 = c by omega]) h
    rw [ybf e, cond_false] at h
    by_cases e : (yle (-2147483648) c && (yle d (-1) && (yle (-2147483648) a && yle b 2147483647))) = true
    · rw [e, cond_true] at h
      rw [Bool.and_eq_true, Bool.and_eq_true, Bool.and_eq_true, yle_i, yle_i, yle_i, yle_i] at e
      obtain ⟨e2, e3, e4, e5⟩ := e
      have l1 := ylt_ok h g hs1 h0
      rw [show ρ 0 + 0 = 0 from by rw [g.1.1]; rfl] at l1
      by_cases z : ρ s1 + o1 < 0
      · obtain ⟨S1, q1, g1, n1⟩ := l1.1 z
        exact yR1.sub q1 (ynum_ok n1 g1 (yand_neg z (by omega) (by omega) (by omega)))
      · obtain ⟨S1, q1, g1, n1⟩ := l1.2 z
        have mx := ymx_i a 0
        replace n1 : (bif yqi c d && yle (-65536) c then (ylt S1 s1 o1 0 65536 (fun S => yandc S s1 o1 (c % 65536) (vand (ymx a 0) (ymn b 65535) (c % 65536) (c % 65536)) N) (fun S => ynum 0 S (1, 2147483647) N)) else ynum 0 S1 (vand (ymx a 0) b c d) N) = true := n1
        by_cases ee : (yqi c d && yle (-65536) c) = true
        case neg =>
          rw [ybf ee, cond_false] at n1
          exact yR1.sub q1 (ynum_ok n1 g1 (vand_ok _ _ _ _ _ _ (by rcases mx.2.2 with q | q <;> omega) k1.2 k2.1 k2.2))
        rw [ee, cond_true] at n1
        rw [Bool.and_eq_true, yqi_i, yle_i] at ee
        obtain ⟨ee1, ee2⟩ := ee
        rw [show ρ s2 + o2 = c by omega]
        have l2 := ylt_ok n1 g1 (by omega) (by omega)
        rw [show ρ 0 + 65536 = 65536 from by rw [g.1.1]; rfl] at l2
        by_cases z2 : ρ s1 + o1 < 65536
        · obtain ⟨S2, q2, g2, n2⟩ := l2.1 z2
          rw [yand_mod (by omega) z2]
          have m1 := ymx_i a 0
          have m2 := ymn_i b 65535
          exact yR1.sub (by omega) (yandc_ok hgh n2 g2 (by omega) (vand_ok _ _ _ _ _ _ (by rcases m1.2.2 with q | q <;> omega) (by rcases m2.2.2 with q | q <;> omega) (Int.le_refl _) (Int.le_refl _)))
        · obtain ⟨S2, q2, g2, n2⟩ := l2.2 z2
          exact yR1.sub (by omega) (ynum_ok n2 g2 (yand_big (by omega) (by omega) ee2 (by omega)))
    rw [ybf e, cond_false] at h
    by_cases e : (yqi c d && (yle 0 c && yle c 2147483647)) = true
    · rw [e, cond_true] at h
      rw [Bool.and_eq_true, Bool.and_eq_true, yqi_i, yle_i, yle_i] at e
      rw [show ρ s2 + o2 = c by omega]
      exact yandc_ok hgh h g hs1 (vand_ok _ _ _ _ _ _ k1.1 k1.2 (Int.le_refl _) (Int.le_refl _))
    · rw [ybf e, cond_false] at h
      exact ynum_ok h g (vand_ok _ _ _ _ _ _ k1.1 k1.2 k2.1 k2.2)
  · cases h
theorem ysw_ok {s : Nat} {o : Int} {N : Nat → yS → Bool} {pc : Nat} {dflt : Int} {fq : Nat → Option qC} (hs : s < S.1) : ∀ (l : List Int) (c : Int) (S1 : yS), S1.1 = S.1 → ysw s o N pc dflt l c S1 = true → yG L xs w0 gf ga ra Sp gh ρ S1 w → ∃ t, qtsw fq pc (ρ s + o) dflt l c = fq t ∧ yR0 L xs w0 gf ga ra Sp gh ρ S.1 w (N t)
  | [], c, S1, e, h, g => ⟨qtg pc dflt, rfl, ⟨S1, e, g, h⟩⟩
  | t :: r, c, S1, e, h, g => by
    have h : yqe S1 s o 0 c (fun S => N (qtg pc t) S) (fun S1 => ysw s o N pc dflt r (c + 1) S1) = true := h
    have k := yqe_ok h g (by omega) (by have := g.1.2.1; omega)
    rw [g.1.1, Int.zero_add, e] at k
    by_cases z : ρ s + o = c
    · exact ⟨qtg pc t, if_pos z, k.1 z⟩
    · obtain ⟨S2, e2, g2, h2⟩ := k.2 z
      obtain ⟨u, h3, h4⟩ := ysw_ok hs r (c + 1) S2 e2 h2 g2
      exact ⟨u, (if_neg z).trans h3, h4⟩
theorem yfk_ok {s : Nat} {o a b : Int} {N : Int → yS → Bool} (g : yG L xs w0 gf ga ra Sp gh ρ S w) (hs : s < S.1) : ∀ (n : Nat) (v : Int), yfk S s o a b N n v = true → v ≤ ρ s + o → ρ s + o < v + n → yR0 L xs w0 gf ga ra Sp gh ρ S.1 w (N (ρ s + o))
  | 0, v, _, h1, h2 => by omega
  | n + 1, v, h, h1, h2 => by
    have h : (yrf S s o a b v v (N v) && yfk S s o a b N n (v + 1)) = true := h
    rw [Bool.and_eq_true] at h
    by_cases z : ρ s + o = v
    · rw [z]; exact yrf_ok h.1 g hs (by omega) (by omega)
    · exact yfk_ok g hs n (v + 1) h.2 (by omega) (by omega)
theorem yall_ok {s : Nat} {o : Int} {N : Int → yS → Bool} (h : yall S s o N = true) (g : yG L xs w0 gf ga ra Sp gh ρ S w) (hs : s < S.1) : yR0 L xs w0 gf ga ra Sp gh ρ S.1 w (N (ρ s + o)) := by
  unfold yall at h
  split at h
  · rename_i a b h1
    have k := yiv_ok g h1
    exact yfk_ok g hs _ a h k.1 (by omega)
  · cases h
theorem yfc_ok {p a s : Nat} {b o : Int} (g : yG L xs w0 gf ga ra Sp gh ρ S w) (ha : a < S.1) (hs : s < S.1) (h : yrd xs w p (ρ a + b).toNat = ρ s + o) : yG L xs w0 gf ga ra Sp gh ρ (yfc S p a b s o) w := by
  refine ⟨g.1, g.2.1, fun e he => ?_, g.2.2.2⟩
  rcases List.mem_cons.mp he with rfl | he
  · exact ⟨ha, hs, h⟩
  · exact g.2.2.1 e he
theorem yfr_ok {kd p a : Nat} {b x : Int} {r : yI} {N : yV → yS → Bool} (h : yfr kd S r p a b N = true) (g : yG L xs w0 gf ga ra Sp gh ρ S w) (ha : a < S.1) (hx : yin r x) (hw : yrd xs w p (ρ a + b).toNat = x) : yR1 L xs w0 gf ga ra Sp gh ρ S w kd x N := by
  obtain ⟨ρ', S', v, h1, h2, h3, h4, h5, h6⟩ := ynum_ok h g hx
  refine ⟨ρ', yfc S' p a b v.2.1 v.2.2, v, h1, h2, yfc_ok h3 (by omega) h4 ?_, h4, h5, h6⟩
  rw [h2 a ha, hw]
  exact (congrArg Prod.snd h5).symm
theorem yalt_ok {p a : Nat} {b : Int} {x : Int} {N : yV → yS → Bool} (g : yG L xs w0 gf ga ra Sp gh ρ S w) (ha : a < S.1) (hw : yrd xs w p (ρ a + b).toNat = x) : ∀ (l : List Int), yalt S p a b N l = true → x ∈ l → yR1 L xs w0 gf ga ra Sp gh ρ S w 2 x N
  | [], _, hx => by cases hx
  | c :: l, h, hx => by
    have h : (N (2, 0, c) (yfc S p a b 0 c) && yalt S p a b N l) = true := h
    rw [Bool.and_eq_true] at h
    by_cases z : x = c
    · have h0 : 0 < S.1 := by have := g.1.2.1; omega
      exact ⟨ρ, yfc S p a b 0 c, (2, 0, c), Nat.le_refl _, yag.rf, yfc_ok g ha h0 (by rw [hw, g.1.1]; omega), h0, by show (2, ρ 0 + c) = _; rw [g.1.1, Int.zero_add, z], h.1⟩
    · rcases List.mem_cons.mp hx with z2 | hx
      · exact (z z2).elim
      · exact yalt_ok g ha hw l h.2 hx
theorem yrd_ne {p j : Nat} (hp : 0 < p) : yrd xs w p j = w p j := by
  unfold yrd
  rw [show Nat.beq p 0 = false from by cases p; omega; rfl]
  rfl
theorem yrd_0 {j : Nat} : yrd xs w 0 j = xs j := rfl
theorem yz_j (g : yG L xs w0 gf ga ra Sp gh ρ S w) (j : Nat) : (ρ 0 + (j : Int)).toNat = j := by rw [g.1.1, Int.zero_add, Int.toNat_natCast]
theorem ybase {p j : Nat} {c : Int} {q : Bool} (hbv : ∀ p j c, bv p j = some c → w0 p j = c) (g : yG L xs w0 gf ga ra Sp gh ρ S w) (h : (bif ymd p j S.2.2.2.1 || q then none else bv p j) = some c) : w p j = c := by
  by_cases e : (ymd p j S.2.2.2.1 || q) = true
  · rw [e] at h; cases h
  · rw [ybf e] at h
    have e2 : ymd p j S.2.2.2.1 = false := by
      cases hq : ymd p j S.2.2.2.1
      · rfl
      · rw [hq] at e; exact absurd rfl e
    rw [g.2.2.2.1 p j e2]
    exact hbv p j c h
theorem ybase0 {p j : Nat} {c : Int} (hbv : ∀ p j c, bv p j = some c → w0 p j = c) (g : yG L xs w0 gf ga ra Sp gh ρ S w) (h : (bif ymd p j S.2.2.2.1 then none else bv p j) = some c) : w p j = c := ybase (q := false) hbv g (by rw [Bool.or_false]; exact h)
theorem yref_ok {p j : Nat} {N : yV → yS → Bool} (hbv : ∀ p j c, bv p j = some c → w0 p j = c) (h : yref ra bv S p j N = true) (g : yG L xs w0 gf ga ra Sp gh ρ S w) (hp : 0 < p) (hy : yarr p = false) : yR1 L xs w0 gf ga ra Sp gh ρ S w 2 (w p j) N := by
  have h0 : 0 < S.1 := by have := g.1.2.1; omega
  have hj : yrd xs w p (ρ 0 + (j : Int)).toNat = w p j := by rw [yz_j g, yrd_ne hp]
  unfold yref at h
  split at h
  · rename_i s o h1
    have := yfl_ok g h1
    exact yR1.same g this.1 (by rw [← this.2, hj]) h
  · split at h
    · rename_i c h1
      exact yR1.same g h0 (by rw [g.1.1, ybase0 hbv g h1, Int.zero_add]) h
    · split at h
      · cases h
      · rename_i c l hr
        exact yalt_ok g h0 hj _ h (by rw [← hr]; exact g.2.2.2.2.1.2.2.1 p j (by rw [hr]; exact List.cons_ne_nil _ _) hy)
theorem yget_ok {p j kd : Nat} {N : yV → yS → Bool} (hbv : ∀ p j c, bv p j = some c → w0 p j = c) (h : yget gf bv S p j kd N = true) (g : yG L xs w0 gf ga ra Sp gh ρ S w) (hp : 0 < p) (hy : yarr p = false) : yR1 L xs w0 gf ga ra Sp gh ρ S w kd (w p j) N := by
  have h0 : 0 < S.1 := by have := g.1.2.1; omega
  have hj : yrd xs w p (ρ 0 + (j : Int)).toNat = w p j := by rw [yz_j g, yrd_ne hp]
  unfold yget at h
  split at h
  · rename_i s o h1
    have := yfl_ok g h1
    exact yR1.same g this.1 (by rw [← this.2, hj]) h
  · split at h
    · rename_i c h1
      exact yR1.same g h0 (by rw [g.1.1, ybase0 hbv g h1, Int.zero_add]) h
    · split at h
      · rename_i r hr
        exact yfr_ok h g h0 (g.2.2.2.2.1.1 p j r hr hy) hj
      · cases h
theorem ycln_ok {p j : Nat} : ∀ {l : yM}, ycln p l = true → ymd p j l = false
  | [], _ => rfl
  | e :: l, h => by
    have h : (!Nat.beq e.1 p && ycln p l) = true := h
    rw [Bool.and_eq_true] at h
    show ((Nat.beq e.1 p && (Nat.beq e.2 0 || Nat.beq e.2 (j + 1))) || ymd p j l) = false
    rw [ycln_ok h.2, Bool.or_false]
    cases hq : Nat.beq e.1 p
    · rfl
    · rw [hq] at h; cases h.1
theorem yel2_ok {p kd a : Nat} {b : Int} {N : yV → yS → Bool} (hbv : ∀ p j c, bv p j = some c → w0 p j = c) (hbb : ∀ p r, bb p = some r → ∀ j, yin r (w0 p j)) (h : yel2 ga bv bb S kd p a b N = true) (g : yG L xs w0 gf ga ra Sp gh ρ S w) (hp : 0 < p) (hy : yarr p = true) (ha : a < S.1) : yR1 L xs w0 gf ga ra Sp gh ρ S w kd (w p (ρ a + b).toNat) N := by
  have h0 : 0 < S.1 := by have := g.1.2.1; omega
  have hj : yrd xs w p (ρ a + b).toNat = w p (ρ a + b).toNat := yrd_ne hp
  unfold yel2 at h
  split at h
  · rename_i s o h1
    have := yfl_ok g h1
    exact yR1.same g this.1 (by rw [← this.2, hj]) h
  · split at h
    · rename_i c h1
      have e : a = 0 := by
        cases a with
        | zero => rfl
        | succ a9 =>
          rw [show Nat.blt 0 (a9 + 1) = true from rfl, Bool.or_true] at h1; cases h1
      subst e
      exact yR1.same g h0 (by rw [g.1.1, Int.zero_add, Int.zero_add, ybase hbv g h1]) h
    · split at h
      · rename_i r hr
        by_cases e : ycln p S.2.2.2.1 = true
        · rw [e] at hr
          exact yfr_ok h g ha (by rw [g.2.2.2.1 p _ (ycln_ok e)]; exact hbb p r hr _) hj
        · rw [ybf e] at hr; cases hr
      · split at h
        · rename_i r hr
          exact yfr_ok h g ha (g.2.2.2.2.1.2.1 p _ r hr hy) hj
        · cases h
theorem yel_ok {p kd m s : Nat} {o : Int} {N : yV → yS → Bool} (hbv : ∀ p j c, bv p j = some c → w0 p j = c) (hbb : ∀ p r, bb p = some r → ∀ j, yin r (w0 p j)) (h : yel ga bv bb S kd p m s o N = true) (g : yG L xs w0 gf ga ra Sp gh ρ S w) (hp : 0 < p) (hy : yarr p = true) (hs : s < S.1) : (0 ≤ ρ s + o ∧ ρ s + o < m) ∧ yR1 L xs w0 gf ga ra Sp gh ρ S w kd (w p (ρ s + o).toNat) N := by
  unfold yel at h
  split at h
  · rename_i a b h1
    have k := yiv_ok g h1
    rw [Bool.and_eq_true, Bool.and_eq_true, yle_i, yle_i] at h
    refine ⟨⟨by omega, by omega⟩, ?_⟩
    have h := h.2.2
    by_cases e : yqi a b = true
    · rw [e] at h
      have e2 := yqi_i.mp e
      have := yel2_ok hbv hbb h g hp hy (show 0 < S.1 by have := g.1.2.1; omega)
      rw [g.1.1, Int.zero_add] at this
      rw [show ρ s + o = a by omega]
      exact this
    · rw [ybf e] at h
      exact yel2_ok hbv hbb h g hp hy hs
  · cases h
theorem ydfl_ok {s : Nat} {o : Int} : ∀ {df : yD}, (∀ e ∈ df, ρ e.1 + e.2.2 ≤ ρ e.2.1) → ydfl df s o = true → ρ s + o + 1 ≤ ρ 1
  | [], _, h => by cases h
  | e :: r, hd, h => by
    unfold ydfl at h
    rw [Bool.or_eq_true] at h
    rcases h with h | h
    · rw [Bool.and_eq_true, Bool.and_eq_true, yle_i] at h
      have := hd e List.mem_cons_self
      rw [Nat.eq_of_beq_eq_true h.1, Nat.eq_of_beq_eq_true h.2.1] at this
      omega
    · exact ydfl_ok (fun e he => hd e (List.mem_cons_of_mem _ he)) h
theorem ysc2_ok {a : Nat} {b : Int} {N : yV → yS → Bool} (hxs : ∀ j, yin y32 (xs j)) (h : ysc2 S a b N = true) (g : yG L xs w0 gf ga ra Sp gh ρ S w) (ha : a < S.1) : yR1 L xs w0 gf ga ra Sp gh ρ S w 0 (xs (ρ a + b).toNat) N := by
  unfold ysc2 at h
  split at h
  · rename_i s o h1
    have := yfl_ok g h1
    exact yR1.same g this.1 (by rw [← this.2, yrd_0]) h
  · exact yfr_ok h g ha (hxs _) yrd_0
theorem yscr_ok {s : Nat} {o : Int} {N : yV → yS → Bool} (hxs : ∀ j, yin y32 (xs j)) (h : yscr S s o N = true) (g : yG L xs w0 gf ga ra Sp gh ρ S w) (hs : s < S.1) : (0 ≤ ρ s + o ∧ ρ s + o < L) ∧ yR1 L xs w0 gf ga ra Sp gh ρ S w 0 (xs (ρ s + o).toNat) N := by
  unfold yscr at h
  split at h
  · rename_i a b c d h1 h2
    have k := yiv_ok g h1
    have k2 := yiv_ok g h2
    rw [g.1.2.2, Int.add_zero] at k2
    rw [Bool.and_eq_true, Bool.and_eq_true, yle_i, Bool.or_eq_true, yle_i] at h
    refine ⟨⟨by omega, ?_⟩, ?_⟩
    · rcases h.2.1 with h | h
      · omega
      · have := ydfl_ok (fun e he => (g.2.2.2.2.2.1 e he).2.2) h
        rw [g.1.2.2] at this
        omega
    · have h := h.2.2
      by_cases e : yqi a b = true
      · rw [e] at h
        have e2 := yqi_i.mp e
        have := ysc2_ok hxs h g (show 0 < S.1 by have := g.1.2.1; omega)
        rw [g.1.1, Int.zero_add] at this
        rw [show ρ s + o = a by omega]
        exact this
      · rw [ybf e] at h
        exact ysc2_ok hxs h g hs
  · cases h
theorem ykill_ok {p : Nat} {e : Nat × Nat × Int × Nat × Int} : ∀ {hf : yH}, e ∈ ykill p hf → e ∈ hf ∧ e.1 ≠ p
  | [], h => by cases h
  | a :: r, h => by
    unfold ykill at h
    by_cases c : Nat.beq a.1 p = true
    · rw [c] at h
      have := ykill_ok (hf := r) h
      exact ⟨List.mem_cons_of_mem _ this.1, this.2⟩
    · rw [ybf c] at h
      rcases List.mem_cons.mp h with rfl | h
      · exact ⟨List.mem_cons_self, fun z => c (by rw [z]; exact Nat.beq_refl p)⟩
      · have := ykill_ok (hf := r) h
        exact ⟨List.mem_cons_of_mem _ this.1, this.2⟩
theorem ykilc_ok {p : Nat} {b : Int} {e : Nat × Nat × Int × Nat × Int} : ∀ {hf : yH}, e ∈ ykilc p b hf → e ∈ hf ∧ (e.1 ≠ p ∨ (e.2.1 = 0 ∧ 0 ≤ e.2.2.1 ∧ e.2.2.1 ≠ b))
  | [], h => by cases h
  | a :: r, h => by
    unfold ykilc at h
    by_cases c : (Nat.beq a.1 p && !(Nat.beq a.2.1 0 && (yle 0 a.2.2.1 && !yqi a.2.2.1 b))) = true
    · rw [c] at h
      have := ykilc_ok (hf := r) h
      exact ⟨List.mem_cons_of_mem _ this.1, this.2⟩
    · rw [ybf c] at h
      rcases List.mem_cons.mp h with rfl | h
      · refine ⟨List.mem_cons_self, ?_⟩
        by_cases c1 : e.1 = p
        · right
          rw [c1, Nat.beq_refl, Bool.true_and] at c
          have c2 : (Nat.beq e.2.1 0 && (yle 0 e.2.2.1 && !yqi e.2.2.1 b)) = true := by
            cases hq : (Nat.beq e.2.1 0 && (yle 0 e.2.2.1 && !yqi e.2.2.1 b))
            · rw [hq] at c; exact absurd rfl c
            · rfl
          rw [Bool.and_eq_true, Bool.and_eq_true, yle_i] at c2
          refine ⟨Nat.eq_of_beq_eq_true c2.1, c2.2.1, fun z => ?_⟩
          have := c2.2.2
          rw [yqi_i.mpr z] at this
          cases this
        · exact .inl c1
      · have := ykilc_ok (hf := r) h
        exact ⟨List.mem_cons_of_mem _ this.1, this.2⟩
theorem ymp_ok {p c j : Nat} : ∀ {l : yM}, (c = 0 ∨ c = j + 1) → ymp p c l = true → ymd p j l = true
  | [], _, h => by cases h
  | e :: l, hc, h => by
    have h : ((Nat.beq e.1 p && Nat.beq e.2 c) || ymp p c l) = true := h
    rw [Bool.or_eq_true] at h
    show ((Nat.beq e.1 p && (Nat.beq e.2 0 || Nat.beq e.2 (j + 1))) || ymd p j l) = true
    rw [Bool.or_eq_true]
    rcases h with h | h
    · left
      rw [Bool.and_eq_true] at h
      rw [Bool.and_eq_true, Bool.or_eq_true]
      rcases hc with hc | hc
      · exact ⟨h.1, .inl (hc ▸ h.2)⟩
      · exact ⟨h.1, .inr (hc ▸ h.2)⟩
    · exact .inr (ymp_ok hc h)
theorem yput_ok {p c a s : Nat} {b o : Int} (g : yG L xs w0 gf ga ra Sp gh ρ S w) (ha : a < S.1) (hs : s < S.1) (hp : 0 < p) (hc : c = 0 ∨ c = (ρ a + b).toNat + 1) (hb : a = 0 → 0 ≤ b) (hI : yInv gf ga ra Sp (qup w p (ρ a + b).toNat (ρ s + o))) : yG L xs w0 gf ga ra Sp gh ρ (yput S p c a b s o) (qup w p (ρ a + b).toNat (ρ s + o)) := by
  have hne : ∀ (q j : Nat), q ≠ p → yrd xs (qup w p (ρ a + b).toNat (ρ s + o)) q j = yrd xs w q j := fun q j hq => by
    by_cases q0 : q = 0
    · subst q0; rfl
    · rw [yrd_ne (by omega), yrd_ne (by omega)]
      show (if q = p then _ else w q) j = _
      rw [if_neg hq]
  have hk : ∀ e ∈ S.2.2.1, (e.1 ≠ p ∨ (a = 0 ∧ e.2.1 = 0 ∧ 0 ≤ e.2.2.1 ∧ e.2.2.1 ≠ b)) → e.2.1 < S.1 ∧ e.2.2.2.1 < S.1 ∧ yrd xs (qup w p (ρ a + b).toNat (ρ s + o)) e.1 (ρ e.2.1 + e.2.2.1).toNat = ρ e.2.2.2.1 + e.2.2.2.2 := fun e he h => by
    have k := g.2.2.1 e he
    refine ⟨k.1, k.2.1, ?_⟩
    by_cases c : e.1 = p
    · rcases h with h | ⟨h1, h2, h3, h4⟩
      · exact (h c).elim
      · rw [← k.2.2, c, yrd_ne hp, yrd_ne hp]
        show (if p = p then (fun j => if j = (ρ a + b).toNat then _ else w p j) else w p) _ = _
        rw [if_pos rfl]
        have hb' := hb h1
        exact if_neg (by rw [h1, h2, g.1.1]; omega)
    · rw [hne _ _ c]; exact k.2.2
  refine ⟨g.1, g.2.1, fun e he => ?_, fun q j hq => ?_, hI, g.2.2.2.2.2⟩
  · rcases List.mem_cons.mp he with rfl | he
    · refine ⟨ha, hs, ?_⟩
      rw [yrd_ne hp]
      show (if p = p then (fun j => if j = (ρ a + b).toNat then _ else w p j) else w p) _ = _
      rw [if_pos rfl]
      exact if_pos rfl
    · by_cases c : Nat.beq a 0 = true
      · rw [c] at he
        have := ykilc_ok (show e ∈ ykilc p b S.2.2.1 from he)
        exact hk e this.1 (this.2.imp id (fun z => ⟨Nat.eq_of_beq_eq_true c, z⟩))
      · rw [ybf c] at he
        have := ykill_ok (show e ∈ ykill p S.2.2.1 from he)
        exact hk e this.1 (.inl this.2)
  · have hq : ymd q j (bif ymp p c S.2.2.2.1 then S.2.2.2.1 else (p, c) :: S.2.2.2.1) = false := hq
    have h2 : (q ≠ p ∨ j ≠ (ρ a + b).toNat) ∧ ymd q j S.2.2.2.1 = false := by
      by_cases d : ymp p c S.2.2.2.1 = true
      · rw [d] at hq
        have hq : ymd q j S.2.2.2.1 = false := hq
        refine ⟨?_, hq⟩
        by_cases c1 : q = p
        · refine .inr (fun z => ?_)
          subst c1
          have key : ymd q j S.2.2.2.1 = true := ymp_ok (c := c) (by rcases hc with h | h; exact .inl h; exact .inr (by rw [z]; exact h)) d
          have hq2 : ymd q j S.2.2.2.1 = false := hq
          rw [key] at hq2
          cases hq2
        · exact .inl c1
      · rw [ybf d] at hq
        have hq : ((Nat.beq p q && (Nat.beq c 0 || Nat.beq c (j + 1))) || ymd q j S.2.2.2.1) = false := hq
        rw [Bool.or_eq_false_iff] at hq
        refine ⟨?_, hq.2⟩
        by_cases c1 : q = p
        · refine .inr (fun z => ?_)
          have := hq.1
          rw [c1, Nat.beq_refl, Bool.true_and, Bool.or_eq_false_iff] at this
          rcases hc with h | h
          · rw [h] at this; cases this.1
          · rw [z, h, Nat.beq_refl] at this; cases this.2
        · exact .inl c1
    show (if q = p then (fun i => if i = (ρ a + b).toNat then _ else w p i) else w q) j = _
    by_cases c1 : q = p
    · rw [if_pos c1]
      subst c1
      rcases h2.1 with h | h
      · exact absurd rfl h
      · exact (if_neg h).trans (g.2.2.2.1 q j h2.2)
    · rw [if_neg c1]
      exact g.2.2.2.1 q j h2.2
theorem yInv_up {p j : Nat} {x : Int} (hSp : ∀ w p j v, (yarr p = false → gf p j ≠ none ∨ ra p j ≠ []) → (yarr p = true → ga p ≠ none) → Sp w → Sp (qup w p j v)) (g : yInv gf ga ra Sp w) (h1 : yarr p = false → (∀ b, gf p j = some b → yin b x) ∧ (ra p j ≠ [] → x ∈ ra p j) ∧ (gf p j ≠ none ∨ ra p j ≠ [])) (h2 : yarr p = true → ∃ b, ga p = some b ∧ yin b x) : yInv gf ga ra Sp (qup w p j x) := by
  have hu : ∀ q i, qup w p j x q i = if q = p then (if i = j then x else w p i) else w q i := fun q i => by
    show (if q = p then (fun i => if i = j then x else w p i) else w q) i = _
    split <;> rfl
  refine ⟨fun q i b hb hy => ?_, fun q i b hb hy => ?_, fun q i hr hy => ?_, hSp w p j x (fun hy => (h1 hy).2.2) (fun hy => by obtain ⟨b, hb, _⟩ := h2 hy; rw [hb]; exact fun z => by cases z) g.2.2.2⟩
  · rw [hu]
    by_cases c : q = p
    · subst c
      rw [if_pos rfl]
      by_cases c : i = j
      · subst c; rw [if_pos rfl]; exact (h1 hy).1 b hb
      · rw [if_neg c]; exact g.1 q i b hb hy
    · rw [if_neg c]; exact g.1 q i b hb hy
  · rw [hu]
    by_cases c : q = p
    · subst c
      rw [if_pos rfl]
      by_cases c : i = j
      · subst c; rw [if_pos rfl]
        obtain ⟨b', hb', hx⟩ := h2 hy
        rw [hb] at hb'
        cases hb'
        exact hx
      · rw [if_neg c]; exact g.2.1 q i b hb hy
    · rw [if_neg c]; exact g.2.1 q i b hb hy
  · rw [hu]
    by_cases c : q = p
    · subst c
      rw [if_pos rfl]
      by_cases c : i = j
      · subst c; rw [if_pos rfl]; exact (h1 hy).2.1 hr
      · rw [if_neg c]; exact g.2.2.1 q i hr hy
    · rw [if_neg c]; exact g.2.2.1 q i hr hy
theorem yel3_ok {p m s vs : Nat} {o vo : Int} {B : yI} {N : yS → Bool} (hSp : ∀ w p j v, (yarr p = false → gf p j ≠ none ∨ ra p j ≠ []) → (yarr p = true → ga p ≠ none) → Sp w → Sp (qup w p j v)) (h : yel3 ga S p m s o vs vo B N = true) (g : yG L xs w0 gf ga ra Sp gh ρ S w) (hp : 0 < p) (hy : yarr p = true) (hs : s < S.1) (hvs : vs < S.1) : (0 ≤ ρ s + o ∧ ρ s + o < m) ∧ yin B (ρ vs + vo) ∧ yR0 L xs w0 gf ga ra Sp gh ρ S.1 (qup w p (ρ s + o).toNat (ρ vs + vo)) N := by
  unfold yel3 at h
  split at h
  · rename_i a b c d lo hi h1 h2 h3
    have k := yiv_ok g h1
    have k2 := yiv_ok g h2
    rw [Bool.and_eq_true, Bool.and_eq_true, Bool.and_eq_true, Bool.and_eq_true, Bool.and_eq_true, Bool.and_eq_true, yle_i, yle_i, yle_i, yle_i, yle_i, yle_i] at h
    obtain ⟨a1, a2, a3, a4, a5, a6, h⟩ := h
    have hI : ∀ j, yInv gf ga ra Sp (qup w p j (ρ vs + vo)) := fun j => yInv_up hSp g.2.2.2.2.1 (fun z => by rw [hy] at z; cases z) (fun _ => ⟨_, h3, by show lo ≤ _; omega, by show _ ≤ hi; omega⟩)
    refine ⟨⟨by omega, by omega⟩, ⟨by omega, by omega⟩, ?_⟩
    by_cases e : yqi a b = true
    · rw [e] at h
      have e2 := yqi_i.mp e
      have h0 : 0 < S.1 := by have := g.1.2.1; omega
      have := yput_ok (c := 0) (a := 0) (b := a) (s := vs) (o := vo) g h0 hvs hp (.inl rfl) (fun _ => a1) (hI _)
      rw [g.1.1, Int.zero_add] at this
      rw [show ρ s + o = a by omega]
      exact ⟨yput S p 0 0 a vs vo, rfl, this, h⟩
    · rw [ybf e] at h
      by_cases z : s = 0
      · subst z
        exact absurd (yqi_i.mpr (by
          unfold yiv at h1
          have h1 : some (o, o) = some (a, b) := h1
          cases h1; rfl)) e
      · exact ⟨yput S p 0 s o vs vo, rfl, yput_ok g hs hvs hp (.inl rfl) (fun z2 => (z z2).elim) (hI _), h⟩
  · cases h
theorem qnt_map (h0 : ρ 0 = 0) : ∀ (ls : List yV) (i : Nat), qnt (ls.map (yc ρ)) i = yc ρ (ynt ls i)
  | [], _ => by show (9, (0 : Int)) = (9, ρ 0 + 0); rw [h0]; rfl
  | _ :: _, 0 => rfl
  | _ :: l, i + 1 => qnt_map h0 l i
theorem qset_map : ∀ (ls : List yV) (i : Nat) (v : yV), qset (ls.map (yc ρ)) i (yc ρ v) = (yset ls i v).map (yc ρ)
  | [], _, _ => rfl
  | _ :: _, 0, _ => rfl
  | a :: l, i + 1, v => by show yc ρ a :: qset (l.map (yc ρ)) i (yc ρ v) = yc ρ a :: (yset l i v).map (yc ρ); rw [qset_map l i v]
theorem qnil (h0 : ρ 0 = 0) : ((9, 0) : qV) = yc ρ (9, 0, 0) := by show ((9, 0) : qV) = (9, ρ 0 + 0); rw [h0]; rfl
theorem qhf_map (h0 : ρ 0 = 0) (ls : List yV) : ∀ (i : Nat), qhf (ls.map (yc ρ)) i = (yhf ls i).map (yc ρ)
  | 0 => rfl
  | j + 1 => by
    show (match qnt (ls.map (yc ρ)) j with
      | (1, _) => qset (ls.map (yc ρ)) j (9, 0)
      | _ => ls.map (yc ρ)) = (bif Nat.beq (ynt ls j).1 1 then yset ls j (9, 0, 0) else ls).map (yc ρ)
    rw [qnt_map h0]
    generalize ynt ls j = v
    obtain ⟨k, x⟩ := v
    by_cases c : k = 1
    · subst c
      show qset (ls.map (yc ρ)) j (9, 0) = (yset ls j (9, 0, 0)).map (yc ρ)
      rw [qnil h0, qset_map]
    · rw [show Nat.beq k 1 = false from ybf (fun z => c (Nat.eq_of_beq_eq_true z))]
      show (match ((k, ρ x.1 + x.2) : qV) with
        | (1, _) => qset (ls.map (yc ρ)) j (9, 0)
        | _ => ls.map (yc ρ)) = ls.map (yc ρ)
      split
      · rename_i heq; cases heq; exact absurd rfl c
      · rfl
theorem qst_map (h0 : ρ 0 = 0) (ls : List yV) (i : Nat) (v : yV) : qst (ls.map (yc ρ)) i (yc ρ v) = (yst ls i v).map (yc ρ) := by
  obtain ⟨k, x⟩ := v
  unfold yst
  by_cases c : k = 1
  · subst c
    show qset (qset (qhf (ls.map (yc ρ)) i) i (yc ρ (1, x))) (i + 1) (9, 0) = (yset (yset (yhf ls i) i (1, x)) (i + 1) (9, 0, 0)).map (yc ρ)
    rw [qhf_map h0, qset_map, qnil h0, qset_map]
  · rw [show Nat.beq ((k, x) : yV).1 1 = false from ybf (fun z => c (Nat.eq_of_beq_eq_true z))]
    show (match ((k, ρ x.1 + x.2) : qV) with
      | (1, _) => qset (qset (qhf (ls.map (yc ρ)) i) i (k, ρ x.1 + x.2)) (i + 1) (9, 0)
      | _ => qset (qhf (ls.map (yc ρ)) i) i (k, ρ x.1 + x.2)) = (yset (yhf ls i) i (k, x)).map (yc ρ)
    rw [← qset_map, ← qhf_map h0]
    split
    · rename_i heq; cases heq; exact absurd rfl c
    · rfl
theorem yset_sc {n : Nat} : ∀ {ls : List yV} {i : Nat} {v : yV}, ySc n ls → v.2.1 < n → ySc n (yset ls i v)
  | [], _, _, _, _ => fun u hu => by cases hu
  | _ :: _, 0, _, h, hv => ySc.cons hv h.tl
  | _ :: _, _ + 1, _, h, hv => ySc.cons h.hd (yset_sc h.tl hv)
theorem yhf_sc {n : Nat} (hn : 0 < n) {ls : List yV} (h : ySc n ls) : ∀ (i : Nat), ySc n (yhf ls i)
  | 0 => h
  | j + 1 => by
    show ySc n (bif Nat.beq (ynt ls j).1 1 then yset ls j (9, 0, 0) else ls)
    by_cases c : Nat.beq (ynt ls j).1 1 = true
    · rw [c]; exact yset_sc h hn
    · rw [ybf c]; exact h
theorem yst_sc {n : Nat} (hn : 0 < n) {ls : List yV} {i : Nat} {v : yV} (h : ySc n ls) (hv : v.2.1 < n) : ySc n (yst ls i v) := by
  unfold yst
  by_cases c : Nat.beq v.1 1 = true
  · rw [c]; exact yset_sc (yset_sc (yhf_sc hn h i) hv) hn
  · rw [ybf c]; exact yset_sc (yhf_sc hn h i) hv
theorem ynt_sc {n : Nat} (hn : 0 < n) : ∀ {ls : List yV} {i : Nat}, ySc n ls → (ynt ls i).2.1 < n
  | [], _, _ => hn
  | _ :: _, 0, h => h.hd
  | _ :: l, i + 1, h => ynt_sc hn (ls := l) (i := i) h.tl
theorem yOK.same {N : yN} {o : Option qC} {pc : Nat} {ls st : List yV} (ho : o = some (pc, ls.map (yc ρ), st.map (yc ρ), w, 142)) (hl : ySc S.1 ls) (hs : ySc S.1 st) (g : yG L xs w0 gf ga ra Sp gh ρ S w) (h : N pc ls st S = true) : yOK L xs w0 gf ga ra Sp gh ρ S N o := ⟨pc, ls, st, S, ρ, w, ho, Nat.le_refl _, yag.rf, hl, hs, g, h⟩
theorem yOK.r1 {N : yN} {o : Option qC} {pc kd : Nat} {ls r : List yV} {x : Int} (hr : yR1 L xs w0 gf ga ra Sp gh ρ S w kd x (fun v S' => N pc ls (v :: r) S')) (ho : o = some (pc, ls.map (yc ρ), (kd, x) :: r.map (yc ρ), w, 142)) (hl : ySc S.1 ls) (hs : ySc S.1 r) : yOK L xs w0 gf ga ra Sp gh ρ S N o := by
  obtain ⟨ρ', S', v, h1, h2, h3, h4, h5, h6⟩ := hr
  refine ⟨pc, ls, v :: r, S', ρ', w, ?_, h1, h2, hl.mono h1, ySc.cons h4 (hs.mono h1), h3, h6⟩
  rw [ho, ← h5, ym_ag h2 hl, List.map_cons, ym_ag h2 hs]
theorem yOK.r0 {N : yN} {o : Option qC} {pc : Nat} {ls st : List yV} {w' : qW} (hr : yR0 L xs w0 gf ga ra Sp gh ρ S.1 w' (fun S' => N pc ls st S')) (ho : o = some (pc, ls.map (yc ρ), st.map (yc ρ), w', 142)) (hl : ySc S.1 ls) (hs : ySc S.1 st) : yOK L xs w0 gf ga ra Sp gh ρ S N o := by
  obtain ⟨S', h1, h2, h3⟩ := hr
  exact ⟨pc, ls, st, S', ρ, w', ho, by omega, yag.rf, by rw [h1]; exact hl, by rw [h1]; exact hs, h2, h3⟩
end SymOK
end
section
/-! each instruction over symbols is right -/
theorem qs1_getfield {sc : Option (Nat × (Nat → Int))} {k len pc n : Nat} {ls st : List qV} {w : qW} : ∀ i, qs1 sc k (.getfield i) len pc ls st w n = (match qfd (qow k) i, st with
  | some (ci, j, kd, _), (2, p) :: r => match qpl p.toNat with
    | (0, c, _, _) => if Nat.beq c ci then (match qpush kd (w p.toNat j) r with
      | some r' => if 0 < p ∧ p ≤ n then some (pc + 3, ls, r', w, n) else none
      | none => none) else none
    | _ => none
  | _, _ => none) := fun i => rfl
theorem qs1_putfield {sc : Option (Nat × (Nat → Int))} {k len pc n : Nat} {ls st : List qV} {w : qW} : ∀ i, qs1 sc k (.putfield i) len pc ls st w n = (match qfd (qow k) i, st with
  | some (ci, j, kd, fin), (t, v) :: (2, p) :: r => match qpl p.toNat with
    | (0, c, _, _) => if Nat.beq c ci && (Nat.beq fin 0 || qin k) then (match kd, t with
      | 0, 0 => if 0 < p ∧ p ≤ n then some (pc + 3, ls, r, qup w p.toNat j v, n) else none
      | 2, 2 => if 0 < p ∧ p ≤ n then some (pc + 3, ls, r, qup w p.toNat j v, n) else none
      | 3, 0 => if (0 < p ∧ p ≤ n) ∧ 0 ≤ v ∧ v ≤ 1 then some (pc + 3, ls, r, qup w p.toNat j v, n) else none
      | _, _ => none) else none
    | _ => none
  | _, _ => none) := fun i => rfl
theorem qs1_iaload {sc : Option (Nat × (Nat → Int))} {k len pc n : Nat} {ls st : List qV} {w : qW} : qs1 sc k .iaload len pc ls st w n = (match st with
  | (0, i) :: (2, p) :: r => match qpl p.toNat with
    | (1, 0, m, _) => if 0 ≤ i ∧ i < m then (if 0 < p ∧ p ≤ n then some (pc + 1, ls, (0, w p.toNat i.toNat) :: r, w, n) else none) else none
    | _ => none
  | (0, i) :: (3, 0) :: r => match sc with
    | some (L, xs) => if 0 ≤ i ∧ i < L then some (pc + 1, ls, (0, xs i.toNat) :: r, w, n) else none
    | none => none
  | _ => none) := rfl
theorem qs1_baload {sc : Option (Nat × (Nat → Int))} {k len pc n : Nat} {ls st : List qV} {w : qW} : qs1 sc k .baload len pc ls st w n = (match st with
  | (0, i) :: (2, p) :: r => match qpl p.toNat with
    | (1, 3, m, _) => if 0 ≤ i ∧ i < m then (if 0 < p ∧ p ≤ n then some (pc + 1, ls, (0, w p.toNat i.toNat) :: r, w, n) else none) else none
    | (1, 4, m, _) => if 0 ≤ i ∧ i < m then (if 0 < p ∧ p ≤ n then some (pc + 1, ls, (0, w p.toNat i.toNat) :: r, w, n) else none) else none
    | _ => none
  | _ => none) := rfl
theorem qs1_laload {sc : Option (Nat × (Nat → Int))} {k len pc n : Nat} {ls st : List qV} {w : qW} : qs1 sc k .laload len pc ls st w n = (match st with
  | (0, i) :: (2, p) :: r => match qpl p.toNat with
    | (1, 1, m, _) => if 0 ≤ i ∧ i < m then (if 0 < p ∧ p ≤ n then some (pc + 1, ls, (1, w p.toNat i.toNat) :: r, w, n) else none) else none
    | _ => none
  | _ => none) := rfl
theorem qs1_aaload {sc : Option (Nat × (Nat → Int))} {k len pc n : Nat} {ls st : List qV} {w : qW} : qs1 sc k .aaload len pc ls st w n = (match st with
  | (0, i) :: (2, p) :: r => match qpl p.toNat with
    | (1, 2, m, _) => if 0 ≤ i ∧ i < m then (if 0 < p ∧ p ≤ n then some (pc + 1, ls, (2, w p.toNat i.toNat) :: r, w, n) else none) else none
    | _ => none
  | _ => none) := rfl
theorem qs1_iastore {sc : Option (Nat × (Nat → Int))} {k len pc n : Nat} {ls st : List qV} {w : qW} : qs1 sc k .iastore len pc ls st w n = (match st with
  | (0, v) :: (0, i) :: (2, p) :: r => match qpl p.toNat with
    | (1, 0, m, _) => if 0 ≤ i ∧ i < m then (if 0 < p ∧ p ≤ n then some (pc + 1, ls, r, qup w p.toNat i.toNat v, n) else none) else none
    | _ => none
  | _ => none) := rfl
theorem qs1_bastore {sc : Option (Nat × (Nat → Int))} {k len pc n : Nat} {ls st : List qV} {w : qW} : qs1 sc k .bastore len pc ls st w n = (match st with
  | (0, v) :: (0, i) :: (2, p) :: r => match qpl p.toNat with
    | (1, 3, m, _) => if (0 ≤ i ∧ i < m) ∧ 0 ≤ v ∧ v ≤ 1 then (if 0 < p ∧ p ≤ n then some (pc + 1, ls, r, qup w p.toNat i.toNat v, n) else none) else none
    | (1, 4, m, _) => if (0 ≤ i ∧ i < m) ∧ -128 ≤ v ∧ v ≤ 127 then (if 0 < p ∧ p ≤ n then some (pc + 1, ls, r, qup w p.toNat i.toNat v, n) else none) else none
    | _ => none
  | _ => none) := rfl
theorem qs1_lastore {sc : Option (Nat × (Nat → Int))} {k len pc n : Nat} {ls st : List qV} {w : qW} : qs1 sc k .lastore len pc ls st w n = (match st with
  | (1, v) :: (0, i) :: (2, p) :: r => match qpl p.toNat with
    | (1, 1, m, _) => if 0 ≤ i ∧ i < m then (if 0 < p ∧ p ≤ n then some (pc + 1, ls, r, qup w p.toNat i.toNat v, n) else none) else none
    | _ => none
  | _ => none) := rfl
theorem qs1_aastore {sc : Option (Nat × (Nat → Int))} {k len pc n : Nat} {ls st : List qV} {w : qW} : qs1 sc k .aastore len pc ls st w n = (match st with
  | (2, v) :: (0, i) :: (2, p) :: r => match qpl p.toNat, qpl v.toNat with
    | (1, 2, m, c), (0, ci, _, _) => if Nat.beq c ci then (if 0 ≤ i ∧ i < m then (if (0 < p ∧ p ≤ n) ∧ 0 < v ∧ v ≤ n then some (pc + 1, ls, r, qup w p.toNat i.toNat v, n) else none) else none) else none
    | _, _ => none
  | _ => none) := rfl
theorem qs1_arraylength {sc : Option (Nat × (Nat → Int))} {k len pc n : Nat} {ls st : List qV} {w : qW} : qs1 sc k .arraylength len pc ls st w n = (match st with
  | (2, p) :: r => match qpl p.toNat with
    | (1, _, m, _) => if 0 < p ∧ p ≤ n then some (pc + 1, ls, (0, (m : Int)) :: r, w, n) else none
    | _ => none
  | (3, 0) :: r => match sc with
    | some (L, _) => some (pc + 1, ls, (0, (L : Int)) :: r, w, n)
    | none => none
  | _ => none) := rfl
theorem qs1_tableswitch {sc : Option (Nat × (Nat → Int))} {k len pc n : Nat} {ls st : List qV} {w : qW} : ∀ dflt lo z9 offs, qs1 sc k (.tableswitch dflt lo z9 offs) len pc ls st w n = (match st with
  | (0, x) :: r => qtsw (fun t => some (t, ls, r, w, n)) pc x dflt offs.toList lo
  | _ => none) := fun dflt lo z9 offs => rfl
theorem qs1_if_acmp {sc : Option (Nat × (Nat → Int))} {k len pc n : Nat} {ls st : List qV} {w : qW} : ∀ c off, qs1 sc k (.if_acmp c off) len pc ls st w n = (match c, st with
  | .ne, (2, y) :: (2, x) :: r => if x = y then some (pc + 3, ls, r, w, n) else some (qtg pc off, ls, r, w, n)
  | _, _ => none) := fun c off => rfl
theorem qs1_ldc {sc : Option (Nat × (Nat → Int))} {k len pc n : Nat} {ls st : List qV} {w : qW} : ∀ i, qs1 sc k (.ldc i) len pc ls st w n = (match qkn (qow k) i with
  | some (0, v) => some (pc + 2, ls, (0, v) :: st, w, n)
  | some (3, v) => some (pc + 2, ls, (3, v) :: st, w, n)
  | _ => none) := fun i => rfl
theorem qs1_ldc_w {sc : Option (Nat × (Nat → Int))} {k len pc n : Nat} {ls st : List qV} {w : qW} : ∀ i, qs1 sc k (.ldc_w i) len pc ls st w n = (match qkn (qow k) i with
  | some (0, v) => some (pc + 3, ls, (0, v) :: st, w, n)
  | some (3, v) => some (pc + 3, ls, (3, v) :: st, w, n)
  | _ => none) := fun i => rfl
theorem qs1_ldc2_w {sc : Option (Nat × (Nat → Int))} {k len pc n : Nat} {ls st : List qV} {w : qW} : ∀ i, qs1 sc k (.ldc2_w i) len pc ls st w n = (match qkn (qow k) i with
  | some (1, v) => some (pc + 3, ls, (1, v) :: st, w, n)
  | _ => none) := fun i => rfl
theorem qs1_iload {sc : Option (Nat × (Nat → Int))} {k len pc n : Nat} {ls st : List qV} {w : qW} : ∀ i, qs1 sc k (.iload i) len pc ls st w n = (match qnt ls i with
  | (0, x) => some (pc + 2, ls, (0, x) :: st, w, n)
  | _ => none) := fun i => rfl
theorem qs1_iload_n {sc : Option (Nat × (Nat → Int))} {k len pc n : Nat} {ls st : List qV} {w : qW} : ∀ i, qs1 sc k (.iload_n i) len pc ls st w n = (match qnt ls i.val with
  | (0, x) => some (pc + 1, ls, (0, x) :: st, w, n)
  | _ => none) := fun i => rfl
theorem qs1_lload {sc : Option (Nat × (Nat → Int))} {k len pc n : Nat} {ls st : List qV} {w : qW} : ∀ i, qs1 sc k (.lload i) len pc ls st w n = (match qnt ls i with
  | (1, x) => some (pc + 2, ls, (1, x) :: st, w, n)
  | _ => none) := fun i => rfl
theorem qs1_lload_n {sc : Option (Nat × (Nat → Int))} {k len pc n : Nat} {ls st : List qV} {w : qW} : ∀ i, qs1 sc k (.lload_n i) len pc ls st w n = (match qnt ls i.val with
  | (1, x) => some (pc + 1, ls, (1, x) :: st, w, n)
  | _ => none) := fun i => rfl
theorem qs1_aload {sc : Option (Nat × (Nat → Int))} {k len pc n : Nat} {ls st : List qV} {w : qW} : ∀ i, qs1 sc k (.aload i) len pc ls st w n = (match qnt ls i with
  | (2, x) => some (pc + 2, ls, (2, x) :: st, w, n)
  | (3, x) => some (pc + 2, ls, (3, x) :: st, w, n)
  | _ => none) := fun i => rfl
theorem qs1_aload_n {sc : Option (Nat × (Nat → Int))} {k len pc n : Nat} {ls st : List qV} {w : qW} : ∀ i, qs1 sc k (.aload_n i) len pc ls st w n = (match qnt ls i.val with
  | (2, x) => some (pc + 1, ls, (2, x) :: st, w, n)
  | (3, x) => some (pc + 1, ls, (3, x) :: st, w, n)
  | _ => none) := fun i => rfl
theorem qs1_istore {sc : Option (Nat × (Nat → Int))} {k len pc n : Nat} {ls st : List qV} {w : qW} : ∀ i, qs1 sc k (.istore i) len pc ls st w n = (match st with
  | (0, x) :: r => if Nat.blt i (qml k) then some (pc + 2, qst ls i (0, x), r, w, n) else none
  | _ => none) := fun i => rfl
theorem qs1_istore_n {sc : Option (Nat × (Nat → Int))} {k len pc n : Nat} {ls st : List qV} {w : qW} : ∀ i, qs1 sc k (.istore_n i) len pc ls st w n = (match st with
  | (0, x) :: r => if Nat.blt i.val (qml k) then some (pc + 1, qst ls i.val (0, x), r, w, n) else none
  | _ => none) := fun i => rfl
theorem qs1_lstore {sc : Option (Nat × (Nat → Int))} {k len pc n : Nat} {ls st : List qV} {w : qW} : ∀ i, qs1 sc k (.lstore i) len pc ls st w n = (match st with
  | (1, x) :: r => if Nat.blt (i + 1) (qml k) then some (pc + 2, qst ls i (1, x), r, w, n) else none
  | _ => none) := fun i => rfl
theorem qs1_lstore_n {sc : Option (Nat × (Nat → Int))} {k len pc n : Nat} {ls st : List qV} {w : qW} : ∀ i, qs1 sc k (.lstore_n i) len pc ls st w n = (match st with
  | (1, x) :: r => if Nat.blt (i.val + 1) (qml k) then some (pc + 1, qst ls i.val (1, x), r, w, n) else none
  | _ => none) := fun i => rfl
theorem qs1_astore_n {sc : Option (Nat × (Nat → Int))} {k len pc n : Nat} {ls st : List qV} {w : qW} : ∀ i, qs1 sc k (.astore_n i) len pc ls st w n = (match st with
  | (2, x) :: r => if Nat.blt i.val (qml k) then some (pc + 1, qst ls i.val (2, x), r, w, n) else none
  | _ => none) := fun i => rfl
theorem qs1_iinc {sc : Option (Nat × (Nat → Int))} {k len pc n : Nat} {ls st : List qV} {w : qW} : ∀ i c, qs1 sc k (.iinc i c) len pc ls st w n = (match qnt ls i with
  | (0, x) => if Nat.blt i (qml k) then some (pc + 3, qst ls i (0, wrp (x + c)), st, w, n) else none
  | _ => none) := fun i c => rfl
theorem yas_iload {gf : Nat → Nat → Option yI} {ga : Nat → Option yI} {ra : Nat → Nat → List Int} {bv : Nat → Nat → Option Int} {bb : Nat → Option yI} {lw : Bool} {k pc : Nat} {ls st : List yV} {S : yS} {N : yN} : ∀ i, yas gf ga ra bv bb lw k (.iload i) pc ls st S N = (match ynt ls i with
  | (0, x) => N (pc + 2) ls ((0, x) :: st) S
  | _ => false) := fun i => rfl
theorem yas_iload_n {gf : Nat → Nat → Option yI} {ga : Nat → Option yI} {ra : Nat → Nat → List Int} {bv : Nat → Nat → Option Int} {bb : Nat → Option yI} {lw : Bool} {k pc : Nat} {ls st : List yV} {S : yS} {N : yN} : ∀ i, yas gf ga ra bv bb lw k (.iload_n i) pc ls st S N = (match ynt ls i.val with
  | (0, x) => N (pc + 1) ls ((0, x) :: st) S
  | _ => false) := fun i => rfl
theorem yas_lload {gf : Nat → Nat → Option yI} {ga : Nat → Option yI} {ra : Nat → Nat → List Int} {bv : Nat → Nat → Option Int} {bb : Nat → Option yI} {lw : Bool} {k pc : Nat} {ls st : List yV} {S : yS} {N : yN} : ∀ i, yas gf ga ra bv bb lw k (.lload i) pc ls st S N = (match ynt ls i with
  | (1, x) => N (pc + 2) ls ((1, x) :: st) S
  | _ => false) := fun i => rfl
theorem yas_lload_n {gf : Nat → Nat → Option yI} {ga : Nat → Option yI} {ra : Nat → Nat → List Int} {bv : Nat → Nat → Option Int} {bb : Nat → Option yI} {lw : Bool} {k pc : Nat} {ls st : List yV} {S : yS} {N : yN} : ∀ i, yas gf ga ra bv bb lw k (.lload_n i) pc ls st S N = (match ynt ls i.val with
  | (1, x) => N (pc + 1) ls ((1, x) :: st) S
  | _ => false) := fun i => rfl
theorem yas_aload {gf : Nat → Nat → Option yI} {ga : Nat → Option yI} {ra : Nat → Nat → List Int} {bv : Nat → Nat → Option Int} {bb : Nat → Option yI} {lw : Bool} {k pc : Nat} {ls st : List yV} {S : yS} {N : yN} : ∀ i, yas gf ga ra bv bb lw k (.aload i) pc ls st S N = (match ynt ls i with
  | (2, x) => N (pc + 2) ls ((2, x) :: st) S
  | (3, x) => N (pc + 2) ls ((3, x) :: st) S
  | _ => false) := fun i => rfl
theorem yas_aload_n {gf : Nat → Nat → Option yI} {ga : Nat → Option yI} {ra : Nat → Nat → List Int} {bv : Nat → Nat → Option Int} {bb : Nat → Option yI} {lw : Bool} {k pc : Nat} {ls st : List yV} {S : yS} {N : yN} : ∀ i, yas gf ga ra bv bb lw k (.aload_n i) pc ls st S N = (match ynt ls i.val with
  | (2, x) => N (pc + 1) ls ((2, x) :: st) S
  | (3, x) => N (pc + 1) ls ((3, x) :: st) S
  | _ => false) := fun i => rfl
theorem yas_istore {gf : Nat → Nat → Option yI} {ga : Nat → Option yI} {ra : Nat → Nat → List Int} {bv : Nat → Nat → Option Int} {bb : Nat → Option yI} {lw : Bool} {k pc : Nat} {ls st : List yV} {S : yS} {N : yN} : ∀ i, yas gf ga ra bv bb lw k (.istore i) pc ls st S N = (match st with
  | (0, x) :: r => Nat.blt i (qml k) && N (pc + 2) (yst ls i (0, x)) r S
  | _ => false) := fun i => rfl
theorem yas_istore_n {gf : Nat → Nat → Option yI} {ga : Nat → Option yI} {ra : Nat → Nat → List Int} {bv : Nat → Nat → Option Int} {bb : Nat → Option yI} {lw : Bool} {k pc : Nat} {ls st : List yV} {S : yS} {N : yN} : ∀ i, yas gf ga ra bv bb lw k (.istore_n i) pc ls st S N = (match st with
  | (0, x) :: r => Nat.blt i.val (qml k) && N (pc + 1) (yst ls i.val (0, x)) r S
  | _ => false) := fun i => rfl
theorem yas_lstore {gf : Nat → Nat → Option yI} {ga : Nat → Option yI} {ra : Nat → Nat → List Int} {bv : Nat → Nat → Option Int} {bb : Nat → Option yI} {lw : Bool} {k pc : Nat} {ls st : List yV} {S : yS} {N : yN} : ∀ i, yas gf ga ra bv bb lw k (.lstore i) pc ls st S N = (match st with
  | (1, x) :: r => Nat.blt (i + 1) (qml k) && N (pc + 2) (yst ls i (1, x)) r S
  | _ => false) := fun i => rfl
theorem yas_lstore_n {gf : Nat → Nat → Option yI} {ga : Nat → Option yI} {ra : Nat → Nat → List Int} {bv : Nat → Nat → Option Int} {bb : Nat → Option yI} {lw : Bool} {k pc : Nat} {ls st : List yV} {S : yS} {N : yN} : ∀ i, yas gf ga ra bv bb lw k (.lstore_n i) pc ls st S N = (match st with
  | (1, x) :: r => Nat.blt (i.val + 1) (qml k) && N (pc + 1) (yst ls i.val (1, x)) r S
  | _ => false) := fun i => rfl
theorem yas_astore_n {gf : Nat → Nat → Option yI} {ga : Nat → Option yI} {ra : Nat → Nat → List Int} {bv : Nat → Nat → Option Int} {bb : Nat → Option yI} {lw : Bool} {k pc : Nat} {ls st : List yV} {S : yS} {N : yN} : ∀ i, yas gf ga ra bv bb lw k (.astore_n i) pc ls st S N = (match st with
  | (2, x) :: r => Nat.blt i.val (qml k) && N (pc + 1) (yst ls i.val (2, x)) r S
  | _ => false) := fun i => rfl
theorem yas_iinc {gf : Nat → Nat → Option yI} {ga : Nat → Option yI} {ra : Nat → Nat → List Int} {bv : Nat → Nat → Option Int} {bb : Nat → Option yI} {lw : Bool} {k pc : Nat} {ls st : List yV} {S : yS} {N : yN} : ∀ i c, yas gf ga ra bv bb lw k (.iinc i c) pc ls st S N = (match ynt ls i with
  | (0, s, o) => Nat.blt i (qml k) && yadd 0 (fun x y => wrp (x + y)) vadd y32 S s o 0 c (fun v S => N (pc + 3) (yst ls i v) st S)
  | _ => false) := fun i c => rfl
theorem yas_iconst {gf : Nat → Nat → Option yI} {ga : Nat → Option yI} {ra : Nat → Nat → List Int} {bv : Nat → Nat → Option Int} {bb : Nat → Option yI} {lw : Bool} {k pc : Nat} {ls st : List yV} {S : yS} {N : yN} : ∀ c, yas gf ga ra bv bb lw k (.iconst c) pc ls st S N = (N (pc + 1) ls ((0, 0, c) :: st) S) := fun c => rfl
theorem yas_bipush {gf : Nat → Nat → Option yI} {ga : Nat → Option yI} {ra : Nat → Nat → List Int} {bv : Nat → Nat → Option Int} {bb : Nat → Option yI} {lw : Bool} {k pc : Nat} {ls st : List yV} {S : yS} {N : yN} : ∀ c, yas gf ga ra bv bb lw k (.bipush c) pc ls st S N = (N (pc + 2) ls ((0, 0, c) :: st) S) := fun c => rfl
theorem yas_sipush {gf : Nat → Nat → Option yI} {ga : Nat → Option yI} {ra : Nat → Nat → List Int} {bv : Nat → Nat → Option Int} {bb : Nat → Option yI} {lw : Bool} {k pc : Nat} {ls st : List yV} {S : yS} {N : yN} : ∀ c, yas gf ga ra bv bb lw k (.sipush c) pc ls st S N = (N (pc + 3) ls ((0, 0, c) :: st) S) := fun c => rfl
theorem yas_lconst {gf : Nat → Nat → Option yI} {ga : Nat → Option yI} {ra : Nat → Nat → List Int} {bv : Nat → Nat → Option Int} {bb : Nat → Option yI} {lw : Bool} {k pc : Nat} {ls st : List yV} {S : yS} {N : yN} : ∀ c, yas gf ga ra bv bb lw k (.lconst c) pc ls st S N = (N (pc + 1) ls ((1, 0, (c.val : Int)) :: st) S) := fun c => rfl
theorem yas_aconst_null {gf : Nat → Nat → Option yI} {ga : Nat → Option yI} {ra : Nat → Nat → List Int} {bv : Nat → Nat → Option Int} {bb : Nat → Option yI} {lw : Bool} {k pc : Nat} {ls st : List yV} {S : yS} {N : yN} : yas gf ga ra bv bb lw k .aconst_null pc ls st S N = (N (pc + 1) ls ((2, 0, 0) :: st) S) := rfl
theorem yas_ldc {gf : Nat → Nat → Option yI} {ga : Nat → Option yI} {ra : Nat → Nat → List Int} {bv : Nat → Nat → Option Int} {bb : Nat → Option yI} {lw : Bool} {k pc : Nat} {ls st : List yV} {S : yS} {N : yN} : ∀ i, yas gf ga ra bv bb lw k (.ldc i) pc ls st S N = (match qkn (qow k) i with
  | some (0, v) => N (pc + 2) ls ((0, 0, v) :: st) S
  | some (3, v) => N (pc + 2) ls ((3, 0, v) :: st) S
  | _ => false) := fun i => rfl
theorem yas_ldc_w {gf : Nat → Nat → Option yI} {ga : Nat → Option yI} {ra : Nat → Nat → List Int} {bv : Nat → Nat → Option Int} {bb : Nat → Option yI} {lw : Bool} {k pc : Nat} {ls st : List yV} {S : yS} {N : yN} : ∀ i, yas gf ga ra bv bb lw k (.ldc_w i) pc ls st S N = (match qkn (qow k) i with
  | some (0, v) => N (pc + 3) ls ((0, 0, v) :: st) S
  | some (3, v) => N (pc + 3) ls ((3, 0, v) :: st) S
  | _ => false) := fun i => rfl
theorem yas_ldc2_w {gf : Nat → Nat → Option yI} {ga : Nat → Option yI} {ra : Nat → Nat → List Int} {bv : Nat → Nat → Option Int} {bb : Nat → Option yI} {lw : Bool} {k pc : Nat} {ls st : List yV} {S : yS} {N : yN} : ∀ i, yas gf ga ra bv bb lw k (.ldc2_w i) pc ls st S N = (match qkn (qow k) i with
  | some (1, v) => N (pc + 3) ls ((1, 0, v) :: st) S
  | _ => false) := fun i => rfl
theorem yas_dup {gf : Nat → Nat → Option yI} {ga : Nat → Option yI} {ra : Nat → Nat → List Int} {bv : Nat → Nat → Option Int} {bb : Nat → Option yI} {lw : Bool} {k pc : Nat} {ls st : List yV} {S : yS} {N : yN} : yas gf ga ra bv bb lw k .dup pc ls st S N = (match st with
  | (0, x) :: r => N (pc + 1) ls ((0, x) :: (0, x) :: r) S
  | (2, x) :: r => N (pc + 1) ls ((2, x) :: (2, x) :: r) S
  | _ => false) := rfl
theorem yas_dup2 {gf : Nat → Nat → Option yI} {ga : Nat → Option yI} {ra : Nat → Nat → List Int} {bv : Nat → Nat → Option Int} {bb : Nat → Option yI} {lw : Bool} {k pc : Nat} {ls st : List yV} {S : yS} {N : yN} : yas gf ga ra bv bb lw k .dup2 pc ls st S N = (match st with
  | (0, x) :: (2, y) :: r => N (pc + 1) ls ((0, x) :: (2, y) :: (0, x) :: (2, y) :: r) S
  | _ => false) := rfl
theorem yas_pop {gf : Nat → Nat → Option yI} {ga : Nat → Option yI} {ra : Nat → Nat → List Int} {bv : Nat → Nat → Option Int} {bb : Nat → Option yI} {lw : Bool} {k pc : Nat} {ls st : List yV} {S : yS} {N : yN} : yas gf ga ra bv bb lw k .pop pc ls st S N = (match st with
  | (0, _) :: r => N (pc + 1) ls r S
  | _ => false) := rfl
theorem yas_iadd {gf : Nat → Nat → Option yI} {ga : Nat → Option yI} {ra : Nat → Nat → List Int} {bv : Nat → Nat → Option Int} {bb : Nat → Option yI} {lw : Bool} {k pc : Nat} {ls st : List yV} {S : yS} {N : yN} : yas gf ga ra bv bb lw k .iadd pc ls st S N = (match st with
  | (0, s2, o2) :: (0, s1, o1) :: r => yadd 0 (fun x y => wrp (x + y)) vadd y32 S s1 o1 s2 o2 (fun v S => N (pc + 1) ls (v :: r) S)
  | _ => false) := rfl
theorem yas_isub {gf : Nat → Nat → Option yI} {ga : Nat → Option yI} {ra : Nat → Nat → List Int} {bv : Nat → Nat → Option Int} {bb : Nat → Option yI} {lw : Bool} {k pc : Nat} {ls st : List yV} {S : yS} {N : yN} : yas gf ga ra bv bb lw k .isub pc ls st S N = (match st with
  | (0, s2, o2) :: (0, s1, o1) :: r => ysub 0 (fun x y => wrp (x - y)) vsub y32 S s1 o1 s2 o2 (fun v S => N (pc + 1) ls (v :: r) S)
  | _ => false) := rfl
theorem yas_imul {gf : Nat → Nat → Option yI} {ga : Nat → Option yI} {ra : Nat → Nat → List Int} {bv : Nat → Nat → Option Int} {bb : Nat → Option yI} {lw : Bool} {k pc : Nat} {ls st : List yV} {S : yS} {N : yN} : yas gf ga ra bv bb lw k .imul pc ls st S N = (match st with
  | (0, s2, o2) :: (0, s1, o1) :: r => ybin 0 (fun x y => wrp (x * y)) vmul S s1 o1 s2 o2 (fun v S => N (pc + 1) ls (v :: r) S)
  | _ => false) := rfl
theorem yas_idiv {gf : Nat → Nat → Option yI} {ga : Nat → Option yI} {ra : Nat → Nat → List Int} {bv : Nat → Nat → Option Int} {bb : Nat → Option yI} {lw : Bool} {k pc : Nat} {ls st : List yV} {S : yS} {N : yN} : yas gf ga ra bv bb lw k .idiv pc ls st S N = (match st with
  | (0, s2, o2) :: (0, s1, o1) :: r => match yiv S.2.1 s2 o2 with
    | some (c, _) => yle 1 c && ybin 0 qdiv vdiv S s1 o1 s2 o2 (fun v S => N (pc + 1) ls (v :: r) S)
    | none => false
  | _ => false) := rfl
theorem yas_irem {gf : Nat → Nat → Option yI} {ga : Nat → Option yI} {ra : Nat → Nat → List Int} {bv : Nat → Nat → Option Int} {bb : Nat → Option yI} {lw : Bool} {k pc : Nat} {ls st : List yV} {S : yS} {N : yN} : yas gf ga ra bv bb lw k .irem pc ls st S N = (match st with
  | (0, s2, o2) :: (0, s1, o1) :: r => match yiv S.2.1 s2 o2 with
    | some (c, _) => yle 1 c && ybin 0 qrem vrem S s1 o1 s2 o2 (fun v S => N (pc + 1) ls (v :: r) S)
    | none => false
  | _ => false) := rfl
theorem yas_ineg {gf : Nat → Nat → Option yI} {ga : Nat → Option yI} {ra : Nat → Nat → List Int} {bv : Nat → Nat → Option Int} {bb : Nat → Option yI} {lw : Bool} {k pc : Nat} {ls st : List yV} {S : yS} {N : yN} : yas gf ga ra bv bb lw k .ineg pc ls st S N = (match st with
  | (0, s, o) :: r => yneg S s o (fun v S => N (pc + 1) ls (v :: r) S)
  | _ => false) := rfl
theorem yas_iand {gf : Nat → Nat → Option yI} {ga : Nat → Option yI} {ra : Nat → Nat → List Int} {bv : Nat → Nat → Option Int} {bb : Nat → Option yI} {lw : Bool} {k pc : Nat} {ls st : List yV} {S : yS} {N : yN} : yas gf ga ra bv bb lw k .iand pc ls st S N = (match st with
  | (0, s2, o2) :: (0, s1, o1) :: r => yand S s1 o1 s2 o2 (fun v S => N (pc + 1) ls (v :: r) S)
  | _ => false) := rfl
theorem yas_ior {gf : Nat → Nat → Option yI} {ga : Nat → Option yI} {ra : Nat → Nat → List Int} {bv : Nat → Nat → Option Int} {bb : Nat → Option yI} {lw : Bool} {k pc : Nat} {ls st : List yV} {S : yS} {N : yN} : yas gf ga ra bv bb lw k .ior pc ls st S N = (match st with
  | (0, s2, o2) :: (0, s1, o1) :: r => ybin 0 qor vor S s1 o1 s2 o2 (fun v S => N (pc + 1) ls (v :: r) S)
  | _ => false) := rfl
theorem yas_ixor {gf : Nat → Nat → Option yI} {ga : Nat → Option yI} {ra : Nat → Nat → List Int} {bv : Nat → Nat → Option Int} {bb : Nat → Option yI} {lw : Bool} {k pc : Nat} {ls st : List yV} {S : yS} {N : yN} : yas gf ga ra bv bb lw k .ixor pc ls st S N = (match st with
  | (0, s2, o2) :: (0, s1, o1) :: r => ybin 0 qxor vxor1 S s1 o1 s2 o2 (fun v S => N (pc + 1) ls (v :: r) S)
  | _ => false) := rfl
theorem yas_ishl {gf : Nat → Nat → Option yI} {ga : Nat → Option yI} {ra : Nat → Nat → List Int} {bv : Nat → Nat → Option Int} {bb : Nat → Option yI} {lw : Bool} {k pc : Nat} {ls st : List yV} {S : yS} {N : yN} : yas gf ga ra bv bb lw k .ishl pc ls st S N = (match st with
  | (0, s2, o2) :: (0, s1, o1) :: r => ybin 0 qshl vshl S s1 o1 s2 o2 (fun v S => N (pc + 1) ls (v :: r) S)
  | _ => false) := rfl
theorem yas_ishr {gf : Nat → Nat → Option yI} {ga : Nat → Option yI} {ra : Nat → Nat → List Int} {bv : Nat → Nat → Option Int} {bb : Nat → Option yI} {lw : Bool} {k pc : Nat} {ls st : List yV} {S : yS} {N : yN} : yas gf ga ra bv bb lw k .ishr pc ls st S N = (match st with
  | (0, s2, o2) :: (0, s1, o1) :: r => ybin 0 qshr vshr S s1 o1 s2 o2 (fun v S => N (pc + 1) ls (v :: r) S)
  | _ => false) := rfl
theorem yas_iushr {gf : Nat → Nat → Option yI} {ga : Nat → Option yI} {ra : Nat → Nat → List Int} {bv : Nat → Nat → Option Int} {bb : Nat → Option yI} {lw : Bool} {k pc : Nat} {ls st : List yV} {S : yS} {N : yN} : yas gf ga ra bv bb lw k .iushr pc ls st S N = (match st with
  | (0, s2, o2) :: (0, s1, o1) :: r => ybin 0 qush vush S s1 o1 s2 o2 (fun v S => N (pc + 1) ls (v :: r) S)
  | _ => false) := rfl
theorem yas_ladd {gf : Nat → Nat → Option yI} {ga : Nat → Option yI} {ra : Nat → Nat → List Int} {bv : Nat → Nat → Option Int} {bb : Nat → Option yI} {lw : Bool} {k pc : Nat} {ls st : List yV} {S : yS} {N : yN} : yas gf ga ra bv bb lw k .ladd pc ls st S N = (match st with
  | (1, s2, o2) :: (1, s1, o1) :: r => ybin 1 (fun x y => wrl (x + y)) vladd S s1 o1 s2 o2 (fun v S => N (pc + 1) ls (v :: r) S)
  | _ => false) := rfl
theorem yas_lsub {gf : Nat → Nat → Option yI} {ga : Nat → Option yI} {ra : Nat → Nat → List Int} {bv : Nat → Nat → Option Int} {bb : Nat → Option yI} {lw : Bool} {k pc : Nat} {ls st : List yV} {S : yS} {N : yN} : yas gf ga ra bv bb lw k .lsub pc ls st S N = (match st with
  | (1, s2, o2) :: (1, s1, o1) :: r => ybin 1 (fun x y => wrl (x - y)) vlsub S s1 o1 s2 o2 (fun v S => N (pc + 1) ls (v :: r) S)
  | _ => false) := rfl
theorem yas_lmul {gf : Nat → Nat → Option yI} {ga : Nat → Option yI} {ra : Nat → Nat → List Int} {bv : Nat → Nat → Option Int} {bb : Nat → Option yI} {lw : Bool} {k pc : Nat} {ls st : List yV} {S : yS} {N : yN} : yas gf ga ra bv bb lw k .lmul pc ls st S N = (match st with
  | (1, s2, o2) :: (1, s1, o1) :: r => ybin 1 (fun x y => wrl (x * y)) vlmul S s1 o1 s2 o2 (fun v S => N (pc + 1) ls (v :: r) S)
  | _ => false) := rfl
theorem yas_ldiv {gf : Nat → Nat → Option yI} {ga : Nat → Option yI} {ra : Nat → Nat → List Int} {bv : Nat → Nat → Option Int} {bb : Nat → Option yI} {lw : Bool} {k pc : Nat} {ls st : List yV} {S : yS} {N : yN} : yas gf ga ra bv bb lw k .ldiv pc ls st S N = (match st with
  | (1, s2, o2) :: (1, s1, o1) :: r => match yiv S.2.1 s2 o2 with
    | some (c, _) => yle 1 c && ybin 1 qldiv vldiv S s1 o1 s2 o2 (fun v S => N (pc + 1) ls (v :: r) S)
    | none => false
  | _ => false) := rfl
theorem yas_land {gf : Nat → Nat → Option yI} {ga : Nat → Option yI} {ra : Nat → Nat → List Int} {bv : Nat → Nat → Option Int} {bb : Nat → Option yI} {lw : Bool} {k pc : Nat} {ls st : List yV} {S : yS} {N : yN} : yas gf ga ra bv bb lw k .land pc ls st S N = (match st with
  | (1, s2, o2) :: (1, s1, o1) :: r => ybin 1 qland v64 S s1 o1 s2 o2 (fun v S => N (pc + 1) ls (v :: r) S)
  | _ => false) := rfl
theorem yas_lor {gf : Nat → Nat → Option yI} {ga : Nat → Option yI} {ra : Nat → Nat → List Int} {bv : Nat → Nat → Option Int} {bb : Nat → Option yI} {lw : Bool} {k pc : Nat} {ls st : List yV} {S : yS} {N : yN} : yas gf ga ra bv bb lw k .lor pc ls st S N = (match st with
  | (1, s2, o2) :: (1, s1, o1) :: r => ybin 1 qlor v64 S s1 o1 s2 o2 (fun v S => N (pc + 1) ls (v :: r) S)
  | _ => false) := rfl
theorem yas_lshl {gf : Nat → Nat → Option yI} {ga : Nat → Option yI} {ra : Nat → Nat → List Int} {bv : Nat → Nat → Option Int} {bb : Nat → Option yI} {lw : Bool} {k pc : Nat} {ls st : List yV} {S : yS} {N : yN} : yas gf ga ra bv bb lw k .lshl pc ls st S N = (match st with
  | (0, s2, o2) :: (1, s1, o1) :: r => ybin 1 qlshl v64 S s1 o1 s2 o2 (fun v S => N (pc + 1) ls (v :: r) S)
  | _ => false) := rfl
theorem yas_lushr {gf : Nat → Nat → Option yI} {ga : Nat → Option yI} {ra : Nat → Nat → List Int} {bv : Nat → Nat → Option Int} {bb : Nat → Option yI} {lw : Bool} {k pc : Nat} {ls st : List yV} {S : yS} {N : yN} : yas gf ga ra bv bb lw k .lushr pc ls st S N = (match st with
  | (0, s2, o2) :: (1, s1, o1) :: r => ybin 1 qlush v64 S s1 o1 s2 o2 (fun v S => N (pc + 1) ls (v :: r) S)
  | _ => false) := rfl
theorem yas_lcmp {gf : Nat → Nat → Option yI} {ga : Nat → Option yI} {ra : Nat → Nat → List Int} {bv : Nat → Nat → Option Int} {bb : Nat → Option yI} {lw : Bool} {k pc : Nat} {ls st : List yV} {S : yS} {N : yN} : yas gf ga ra bv bb lw k .lcmp pc ls st S N = (match st with
  | (1, s2, o2) :: (1, s1, o1) :: r => ylt S s1 o1 s2 o2 (fun S => N (pc + 1) ls ((0, 0, -1) :: r) S) (fun S => yqe S s1 o1 s2 o2 (fun S => N (pc + 1) ls ((0, 0, 0) :: r) S) (fun S => N (pc + 1) ls ((0, 0, 1) :: r) S))
  | _ => false) := rfl
theorem yas_i2l {gf : Nat → Nat → Option yI} {ga : Nat → Option yI} {ra : Nat → Nat → List Int} {bv : Nat → Nat → Option Int} {bb : Nat → Option yI} {lw : Bool} {k pc : Nat} {ls st : List yV} {S : yS} {N : yN} : yas gf ga ra bv bb lw k .i2l pc ls st S N = (match st with
  | (0, x) :: r => N (pc + 1) ls ((1, x) :: r) S
  | _ => false) := rfl
theorem yas_l2i {gf : Nat → Nat → Option yI} {ga : Nat → Option yI} {ra : Nat → Nat → List Int} {bv : Nat → Nat → Option Int} {bb : Nat → Option yI} {lw : Bool} {k pc : Nat} {ls st : List yV} {S : yS} {N : yN} : yas gf ga ra bv bb lw k .l2i pc ls st S N = (match st with
  | (1, s, o) :: r => yun 0 wrp y32 S s o (fun v S => N (pc + 1) ls (v :: r) S)
  | _ => false) := rfl
theorem yas_i2b {gf : Nat → Nat → Option yI} {ga : Nat → Option yI} {ra : Nat → Nat → List Int} {bv : Nat → Nat → Option Int} {bb : Nat → Option yI} {lw : Bool} {k pc : Nat} {ls st : List yV} {S : yS} {N : yN} : yas gf ga ra bv bb lw k .i2b pc ls st S N = (match st with
  | (0, s, o) :: r => yun 0 qi2b (-128, 127) S s o (fun v S => N (pc + 1) ls (v :: r) S)
  | _ => false) := rfl
theorem yas_i2c {gf : Nat → Nat → Option yI} {ga : Nat → Option yI} {ra : Nat → Nat → List Int} {bv : Nat → Nat → Option Int} {bb : Nat → Option yI} {lw : Bool} {k pc : Nat} {ls st : List yV} {S : yS} {N : yN} : yas gf ga ra bv bb lw k .i2c pc ls st S N = (match st with
  | (0, s, o) :: r => yun 0 (fun x => x % 65536) (0, 65535) S s o (fun v S => N (pc + 1) ls (v :: r) S)
  | _ => false) := rfl
theorem yas_goto {gf : Nat → Nat → Option yI} {ga : Nat → Option yI} {ra : Nat → Nat → List Int} {bv : Nat → Nat → Option Int} {bb : Nat → Option yI} {lw : Bool} {k pc : Nat} {ls st : List yV} {S : yS} {N : yN} : ∀ off, yas gf ga ra bv bb lw k (.goto off) pc ls st S N = (N (qtg pc off) ls st S) := fun off => rfl
theorem yas_ifCond {gf : Nat → Nat → Option yI} {ga : Nat → Option yI} {ra : Nat → Nat → List Int} {bv : Nat → Nat → Option Int} {bb : Nat → Option yI} {lw : Bool} {k pc : Nat} {ls st : List yV} {S : yS} {N : yN} : ∀ c off, yas gf ga ra bv bb lw k (.ifCond c off) pc ls st S N = (match st with
  | (0, s, o) :: r => ybr c S s o 0 0 (fun S => N (qtg pc off) ls r S) (fun S => N (pc + 3) ls r S)
  | _ => false) := fun c off => rfl
theorem yas_if_icmp {gf : Nat → Nat → Option yI} {ga : Nat → Option yI} {ra : Nat → Nat → List Int} {bv : Nat → Nat → Option Int} {bb : Nat → Option yI} {lw : Bool} {k pc : Nat} {ls st : List yV} {S : yS} {N : yN} : ∀ c off, yas gf ga ra bv bb lw k (.if_icmp c off) pc ls st S N = (match st with
  | (0, s2, o2) :: (0, s1, o1) :: r => ybr c S s1 o1 s2 o2 (fun S => N (qtg pc off) ls r S) (fun S => N (pc + 3) ls r S)
  | _ => false) := fun c off => rfl
theorem yas_if_acmp {gf : Nat → Nat → Option yI} {ga : Nat → Option yI} {ra : Nat → Nat → List Int} {bv : Nat → Nat → Option Int} {bb : Nat → Option yI} {lw : Bool} {k pc : Nat} {ls st : List yV} {S : yS} {N : yN} : ∀ c off, yas gf ga ra bv bb lw k (.if_acmp c off) pc ls st S N = (match c, st with
  | .ne, (2, s2, o2) :: (2, s1, o1) :: r => yqe S s1 o1 s2 o2 (fun S => N (pc + 3) ls r S) (fun S => N (qtg pc off) ls r S)
  | _, _ => false) := fun c off => rfl
theorem yas_tableswitch {gf : Nat → Nat → Option yI} {ga : Nat → Option yI} {ra : Nat → Nat → List Int} {bv : Nat → Nat → Option Int} {bb : Nat → Option yI} {lw : Bool} {k pc : Nat} {ls st : List yV} {S : yS} {N : yN} : ∀ dflt lo z9 offs, yas gf ga ra bv bb lw k (.tableswitch dflt lo z9 offs) pc ls st S N = (match st with
  | (0, s, o) :: r => ysw s o (fun t S => N t ls r S) pc dflt offs.toList lo S
  | _ => false) := fun dflt lo z9 offs => rfl
theorem yas_getfield {gf : Nat → Nat → Option yI} {ga : Nat → Option yI} {ra : Nat → Nat → List Int} {bv : Nat → Nat → Option Int} {bb : Nat → Option yI} {lw : Bool} {k pc : Nat} {ls st : List yV} {S : yS} {N : yN} : ∀ i, yas gf ga ra bv bb lw k (.getfield i) pc ls st S N = (match qfd (qow k) i, st with
  | some (ci, j, kd, _), (2, 0, p) :: r => match qpl p.toNat with
    | (0, c, _, _) => Nat.beq c ci && (yle 1 p && (yle p 142 && (match kd with
      | 0 => yget gf bv S p.toNat j 0 (fun v S => N (pc + 3) ls (v :: r) S)
      | 1 => yget gf bv S p.toNat j 1 (fun v S => N (pc + 3) ls (v :: r) S)
      | 2 => yref ra bv S p.toNat j (fun v S => N (pc + 3) ls (v :: r) S)
      | 3 => yget gf bv S p.toNat j 0 (fun v S => N (pc + 3) ls (v :: r) S)
      | _ => false)))
    | _ => false
  | _, _ => false) := fun i => rfl
theorem yas_putfield {gf : Nat → Nat → Option yI} {ga : Nat → Option yI} {ra : Nat → Nat → List Int} {bv : Nat → Nat → Option Int} {bb : Nat → Option yI} {lw : Bool} {k pc : Nat} {ls st : List yV} {S : yS} {N : yN} : ∀ i, yas gf ga ra bv bb lw k (.putfield i) pc ls st S N = (match qfd (qow k) i, st with
  | some (ci, j, kd, fin), (t, s, o) :: (2, 0, p) :: r => match qpl p.toNat with
    | (0, c, _, _) => Nat.beq c ci && (Nat.beq fin 0 && (yle 1 p && (yle p 142 && (match kd, t with
      | 0, 0 => match gf p.toNat j, yiv S.2.1 s o, ra p.toNat j with
        | some (lo, hi), some (a, b), [] => yle lo a && (yle b hi && N (pc + 3) ls r (yput S p.toNat (j + 1) 0 (j : Int) s o))
        | _, _, _ => false
      | 3, 0 => match gf p.toNat j, yiv S.2.1 s o, ra p.toNat j with
        | some (lo, hi), some (a, b), [] => yle lo a && (yle b hi && (yle 0 a && (yle b 1 && N (pc + 3) ls r (yput S p.toNat (j + 1) 0 (j : Int) s o))))
        | _, _, _ => false
      | 2, 2 => match gf p.toNat j with
        | none => Nat.beq s 0 && ((ra p.toNat j).any (yqi o) && N (pc + 3) ls r (yput S p.toNat (j + 1) 0 (j : Int) s o))
        | _ => false
      | _, _ => false))))
    | _ => false
  | _, _ => false) := fun i => rfl
theorem yas_iaload {gf : Nat → Nat → Option yI} {ga : Nat → Option yI} {ra : Nat → Nat → List Int} {bv : Nat → Nat → Option Int} {bb : Nat → Option yI} {lw : Bool} {k pc : Nat} {ls st : List yV} {S : yS} {N : yN} : yas gf ga ra bv bb lw k .iaload pc ls st S N = (match st with
  | (0, s, o) :: (2, 0, p) :: r => match qpl p.toNat with
    | (1, 0, m, _) => yle 1 p && (yle p 142 && yel ga bv bb S 0 p.toNat m s o (fun v S => N (pc + 1) ls (v :: r) S))
    | _ => false
  | (0, s, o) :: (3, 0, 0) :: r => lw && yscr S s o (fun v S => N (pc + 1) ls (v :: r) S)
  | _ => false) := rfl
theorem yas_baload {gf : Nat → Nat → Option yI} {ga : Nat → Option yI} {ra : Nat → Nat → List Int} {bv : Nat → Nat → Option Int} {bb : Nat → Option yI} {lw : Bool} {k pc : Nat} {ls st : List yV} {S : yS} {N : yN} : yas gf ga ra bv bb lw k .baload pc ls st S N = (match st with
  | (0, s, o) :: (2, 0, p) :: r => match qpl p.toNat with
    | (1, 3, m, _) => yle 1 p && (yle p 142 && yel ga bv bb S 0 p.toNat m s o (fun v S => N (pc + 1) ls (v :: r) S))
    | (1, 4, m, _) => yle 1 p && (yle p 142 && yel ga bv bb S 0 p.toNat m s o (fun v S => N (pc + 1) ls (v :: r) S))
    | _ => false
  | _ => false) := rfl
theorem yas_laload {gf : Nat → Nat → Option yI} {ga : Nat → Option yI} {ra : Nat → Nat → List Int} {bv : Nat → Nat → Option Int} {bb : Nat → Option yI} {lw : Bool} {k pc : Nat} {ls st : List yV} {S : yS} {N : yN} : yas gf ga ra bv bb lw k .laload pc ls st S N = (match st with
  | (0, s, o) :: (2, 0, p) :: r => match qpl p.toNat with
    | (1, 1, m, _) => yle 1 p && (yle p 142 && yel ga bv bb S 1 p.toNat m s o (fun v S => N (pc + 1) ls (v :: r) S))
    | _ => false
  | _ => false) := rfl
theorem yas_aaload {gf : Nat → Nat → Option yI} {ga : Nat → Option yI} {ra : Nat → Nat → List Int} {bv : Nat → Nat → Option Int} {bb : Nat → Option yI} {lw : Bool} {k pc : Nat} {ls st : List yV} {S : yS} {N : yN} : yas gf ga ra bv bb lw k .aaload pc ls st S N = (match st with
  | (0, s, o) :: (2, 0, p) :: r => match qpl p.toNat, yiv S.2.1 s o with
    | (1, 2, m, _), some (a, b) => yle 1 p && (yle p 142 && (yle 0 a && (yle (b + 1) m && yall S s o (fun x S => yref ra bv S p.toNat x.toNat (fun v S => N (pc + 1) ls (v :: r) S)))))
    | _, _ => false
  | _ => false) := rfl
theorem yas_iastore {gf : Nat → Nat → Option yI} {ga : Nat → Option yI} {ra : Nat → Nat → List Int} {bv : Nat → Nat → Option Int} {bb : Nat → Option yI} {lw : Bool} {k pc : Nat} {ls st : List yV} {S : yS} {N : yN} : yas gf ga ra bv bb lw k .iastore pc ls st S N = (match st with
  | (0, vs, vo) :: (0, s, o) :: (2, 0, p) :: r => match qpl p.toNat with
    | (1, 0, m, _) => yle 1 p && (yle p 142 && yel3 ga S p.toNat m s o vs vo y32 (fun S => N (pc + 1) ls r S))
    | _ => false
  | _ => false) := rfl
theorem yas_bastore {gf : Nat → Nat → Option yI} {ga : Nat → Option yI} {ra : Nat → Nat → List Int} {bv : Nat → Nat → Option Int} {bb : Nat → Option yI} {lw : Bool} {k pc : Nat} {ls st : List yV} {S : yS} {N : yN} : yas gf ga ra bv bb lw k .bastore pc ls st S N = (match st with
  | (0, vs, vo) :: (0, s, o) :: (2, 0, p) :: r => match qpl p.toNat with
    | (1, 3, m, _) => yle 1 p && (yle p 142 && yel3 ga S p.toNat m s o vs vo (0, 1) (fun S => N (pc + 1) ls r S))
    | (1, 4, m, _) => yle 1 p && (yle p 142 && yel3 ga S p.toNat m s o vs vo (-128, 127) (fun S => N (pc + 1) ls r S))
    | _ => false
  | _ => false) := rfl
theorem yas_lastore {gf : Nat → Nat → Option yI} {ga : Nat → Option yI} {ra : Nat → Nat → List Int} {bv : Nat → Nat → Option Int} {bb : Nat → Option yI} {lw : Bool} {k pc : Nat} {ls st : List yV} {S : yS} {N : yN} : yas gf ga ra bv bb lw k .lastore pc ls st S N = (match st with
  | (1, vs, vo) :: (0, s, o) :: (2, 0, p) :: r => match qpl p.toNat with
    | (1, 1, m, _) => yle 1 p && (yle p 142 && yel3 ga S p.toNat m s o vs vo y64 (fun S => N (pc + 1) ls r S))
    | _ => false
  | _ => false) := rfl
theorem yas_aastore {gf : Nat → Nat → Option yI} {ga : Nat → Option yI} {ra : Nat → Nat → List Int} {bv : Nat → Nat → Option Int} {bb : Nat → Option yI} {lw : Bool} {k pc : Nat} {ls st : List yV} {S : yS} {N : yN} : yas gf ga ra bv bb lw k .aastore pc ls st S N = (match st with
  | (2, 0, v) :: (0, s, o) :: (2, 0, p) :: r => match qpl p.toNat, qpl v.toNat, yiv S.2.1 s o with
    | (1, 2, m, c), (0, ci, _, _), some (a, b) => Nat.beq c ci && (yle 1 p && (yle p 142 && (yle 1 v && (yle v 142 && (yle 0 a && (yle (b + 1) m && yall S s o (fun x S => match gf p.toNat x.toNat with
      | none => (ra p.toNat x.toNat).any (yqi v) && N (pc + 1) ls r (yput S p.toNat (x.toNat + 1) 0 x 0 v)
      | _ => false)))))))
    | _, _, _ => false
  | _ => false) := rfl
theorem yas_arraylength {gf : Nat → Nat → Option yI} {ga : Nat → Option yI} {ra : Nat → Nat → List Int} {bv : Nat → Nat → Option Int} {bb : Nat → Option yI} {lw : Bool} {k pc : Nat} {ls st : List yV} {S : yS} {N : yN} : yas gf ga ra bv bb lw k .arraylength pc ls st S N = (match st with
  | (2, 0, p) :: r => match qpl p.toNat with
    | (1, _, m, _) => yle 1 p && (yle p 142 && N (pc + 1) ls ((0, 0, (m : Int)) :: r) S)
    | _ => false
  | (3, 0, 0) :: r => lw && N (pc + 1) ls ((0, 1, 0) :: r) S
  | _ => false) := rfl
theorem yarr_o {p c a b : Nat} (h : qpl p = (0, c, a, b)) : yarr p = false := by unfold yarr; rw [h]; rfl
theorem yarr_r {p a b : Nat} (h : qpl p = (1, 2, a, b)) : yarr p = false := by unfold yarr; rw [h]; rfl
theorem yarr_0 {p a b : Nat} (h : qpl p = (1, 0, a, b)) : yarr p = true := by unfold yarr; rw [h]; rfl
theorem yarr_1 {p a b : Nat} (h : qpl p = (1, 1, a, b)) : yarr p = true := by unfold yarr; rw [h]; rfl
theorem yarr_3 {p a b : Nat} (h : qpl p = (1, 3, a, b)) : yarr p = true := by unfold yarr; rw [h]; rfl
theorem yarr_4 {p a b : Nat} (h : qpl p = (1, 4, a, b)) : yarr p = true := by unfold yarr; rw [h]; rfl
section SymAs
variable {L : Nat} {xs : Nat → Int} {w0 : qW} {gf : Nat → Nat → Option yI} {ga : Nat → Option yI} {ra : Nat → Nat → List Int} {Sp : qW → Prop} {gh : Nat → List Int → Int} {bv : Nat → Nat → Option Int} {bb : Nat → Option yI} {ρ : Nat → Int} {S : yS} {w : qW} {lw : Bool} {k pc len : Nat} {ls st : List yV} {N : yN} {sc : Option (Nat × (Nat → Int))}
theorem ya_iload {i : Nat} (hgh : ∀ x c, gh 1000 [x, c] = qand x c) (hbv : ∀ p j c, bv p j = some c → w0 p j = c) (hbb : ∀ p r, bb p = some r → ∀ j, yin r (w0 p j)) (hxs : ∀ j, yin y32 (xs j)) (hSp : ∀ w p j v, (yarr p = false → gf p j ≠ none ∨ ra p j ≠ []) → (yarr p = true → ga p ≠ none) → Sp w → Sp (qup w p j v)) (hsc : sc = bif lw then some (L, xs) else none) (h : yas gf ga ra bv bb lw k (.iload i) pc ls st S N = true) (g : yG L xs w0 gf ga ra Sp gh ρ S w) (hl : ySc S.1 ls) (hs : ySc S.1 st) : yOK L xs w0 gf ga ra Sp gh ρ S N (qs1 sc k (.iload i) len pc (ls.map (yc ρ)) (st.map (yc ρ)) w 142) := by
  have h0 : 0 < S.1 := by have := g.1.2.1; omega
  rw [yas_iload] at h
  split at h
  · rename_i x hq
    refine yOK.same (pc := pc + 2) (ls := ls) (st := (0, x) :: st) ?_ hl (ySc.cons (by have := ynt_sc h0 (i := i) hl; rw [hq] at this; exact this) hs) g h
    rw [qs1_iload, qnt_map g.1.1, hq]; rfl
  · cases h
theorem ya_iload_n {i : Fin 4} (hgh : ∀ x c, gh 1000 [x, c] = qand x c) (hbv : ∀ p j c, bv p j = some c → w0 p j = c) (hbb : ∀ p r, bb p = some r → ∀ j, yin r (w0 p j)) (hxs : ∀ j, yin y32 (xs j)) (hSp : ∀ w p j v, (yarr p = false → gf p j ≠ none ∨ ra p j ≠ []) → (yarr p = true → ga p ≠ none) → Sp w → Sp (qup w p j v)) (hsc : sc = bif lw then some (L, xs) else none) (h : yas gf ga ra bv bb lw k (.iload_n i) pc ls st S N = true) (g : yG L xs w0 gf ga ra Sp gh ρ S w) (hl : ySc S.1 ls) (hs : ySc S.1 st) : yOK L xs w0 gf ga ra Sp gh ρ S N (qs1 sc k (.iload_n i) len pc (ls.map (yc ρ)) (st.map (yc ρ)) w 142) := by
  have h0 : 0 < S.1 := by have := g.1.2.1; omega
  rw [yas_iload_n] at h
  split at h
  · rename_i x hq
    refine yOK.same (pc := pc + 1) (ls := ls) (st := (0, x) :: st) ?_ hl (ySc.cons (by have := ynt_sc h0 (i := i.val) hl; rw [hq] at this; exact this) hs) g h
    rw [qs1_iload_n, qnt_map g.1.1, hq]; rfl
  · cases h
theorem ya_lload {i : Nat} (hgh : ∀ x c, gh 1000 [x, c] = qand x c) (hbv : ∀ p j c, bv p j = some c → w0 p j = c) (hbb : ∀ p r, bb p = some r → ∀ j, yin r (w0 p j)) (hxs : ∀ j, yin y32 (xs j)) (hSp : ∀ w p j v, (yarr p = false → gf p j ≠ none ∨ ra p j ≠ []) → (yarr p = true → ga p ≠ none) → Sp w → Sp (qup w p j v)) (hsc : sc = bif lw then some (L, xs) else none) (h : yas gf ga ra bv bb lw k (.lload i) pc ls st S N = true) (g : yG L xs w0 gf ga ra Sp gh ρ S w) (hl : ySc S.1 ls) (hs : ySc S.1 st) : yOK L xs w0 gf ga ra Sp gh ρ S N (qs1 sc k (.lload i) len pc (ls.map (yc ρ)) (st.map (yc ρ)) w 142) := by
  have h0 : 0 < S.1 := by have := g.1.2.1; omega
  rw [yas_lload] at h
  split at h
  · rename_i x hq
    refine yOK.same (pc := pc + 2) (ls := ls) (st := (1, x) :: st) ?_ hl (ySc.cons (by have := ynt_sc h0 (i := i) hl; rw [hq] at this; exact this) hs) g h
    rw [qs1_lload, qnt_map g.1.1, hq]; rfl
  · cases h
theorem ya_lload_n {i : Fin 4} (hgh : ∀ x c, gh 1000 [x, c] = qand x c) (hbv : ∀ p j c, bv p j = some c → w0 p j = c) (hbb : ∀ p r, bb p = some r → ∀ j, yin r (w0 p j)) (hxs : ∀ j, yin y32 (xs j)) (hSp : ∀ w p j v, (yarr p = false → gf p j ≠ none ∨ ra p j ≠ []) → (yarr p = true → ga p ≠ none) → Sp w → Sp (qup w p j v)) (hsc : sc = bif lw then some (L, xs) else none) (h : yas gf ga ra bv bb lw k (.lload_n i) pc ls st S N = true) (g : yG L xs w0 gf ga ra Sp gh ρ S w) (hl : ySc S.1 ls) (hs : ySc S.1 st) : yOK L xs w0 gf ga ra Sp gh ρ S N (qs1 sc k (.lload_n i) len pc (ls.map (yc ρ)) (st.map (yc ρ)) w 142) := by
  have h0 : 0 < S.1 := by have := g.1.2.1; omega
  rw [yas_lload_n] at h
  split at h
  · rename_i x hq
    refine yOK.same (pc := pc + 1) (ls := ls) (st := (1, x) :: st) ?_ hl (ySc.cons (by have := ynt_sc h0 (i := i.val) hl; rw [hq] at this; exact this) hs) g h
    rw [qs1_lload_n, qnt_map g.1.1, hq]; rfl
  · cases h
theorem ya_aload {i : Nat} (hgh : ∀ x c, gh 1000 [x, c] = qand x c) (hbv : ∀ p j c, bv p j = some c → w0 p j = c) (hbb : ∀ p r, bb p = some r → ∀ j, yin r (w0 p j)) (hxs : ∀ j, yin y32 (xs j)) (hSp : ∀ w p j v, (yarr p = false → gf p j ≠ none ∨ ra p j ≠ []) → (yarr p = true → ga p ≠ none) → Sp w → Sp (qup w p j v)) (hsc : sc = bif lw then some (L, xs) else none) (h : yas gf ga ra bv bb lw k (.aload i) pc ls st S N = true) (g : yG L xs w0 gf ga ra Sp gh ρ S w) (hl : ySc S.1 ls) (hs : ySc S.1 st) : yOK L xs w0 gf ga ra Sp gh ρ S N (qs1 sc k (.aload i) len pc (ls.map (yc ρ)) (st.map (yc ρ)) w 142) := by
  have h0 : 0 < S.1 := by have := g.1.2.1; omega
  rw [yas_aload] at h
  split at h
  · rename_i x hq
    refine yOK.same (pc := pc + 2) (ls := ls) (st := (2, x) :: st) ?_ hl (ySc.cons (by have := ynt_sc h0 (i := i) hl; rw [hq] at this; exact this) hs) g h
    rw [qs1_aload, qnt_map g.1.1, hq]; rfl
  · rename_i x hq
    refine yOK.same (pc := pc + 2) (ls := ls) (st := (3, x) :: st) ?_ hl (ySc.cons (by have := ynt_sc h0 (i := i) hl; rw [hq] at this; exact this) hs) g h
    rw [qs1_aload, qnt_map g.1.1, hq]; rfl
  · cases h
theorem ya_aload_n {i : Fin 4} (hgh : ∀ x c, gh 1000 [x, c] = qand x c) (hbv : ∀ p j c, bv p j = some c → w0 p j = c) (hbb : ∀ p r, bb p = some r → ∀ j, yin r (w0 p j)) (hxs : ∀ j, yin y32 (xs j)) (hSp : ∀ w p j v, (yarr p = false → gf p j ≠ none ∨ ra p j ≠ []) → (yarr p = true → ga p ≠ none) → Sp w → Sp (qup w p j v)) (hsc : sc = bif lw then some (L, xs) else none) (h : yas gf ga ra bv bb lw k (.aload_n i) pc ls st S N = true) (g : yG L xs w0 gf ga ra Sp gh ρ S w) (hl : ySc S.1 ls) (hs : ySc S.1 st) : yOK L xs w0 gf ga ra Sp gh ρ S N (qs1 sc k (.aload_n i) len pc (ls.map (yc ρ)) (st.map (yc ρ)) w 142) := by
  have h0 : 0 < S.1 := by have := g.1.2.1; omega
  rw [yas_aload_n] at h
  split at h
  · rename_i x hq
    refine yOK.same (pc := pc + 1) (ls := ls) (st := (2, x) :: st) ?_ hl (ySc.cons (by have := ynt_sc h0 (i := i.val) hl; rw [hq] at this; exact this) hs) g h
    rw [qs1_aload_n, qnt_map g.1.1, hq]; rfl
  · rename_i x hq
    refine yOK.same (pc := pc + 1) (ls := ls) (st := (3, x) :: st) ?_ hl (ySc.cons (by have := ynt_sc h0 (i := i.val) hl; rw [hq] at this; exact this) hs) g h
    rw [qs1_aload_n, qnt_map g.1.1, hq]; rfl
  · cases h
theorem ya_istore {i : Nat} (hgh : ∀ x c, gh 1000 [x, c] = qand x c) (hbv : ∀ p j c, bv p j = some c → w0 p j = c) (hbb : ∀ p r, bb p = some r → ∀ j, yin r (w0 p j)) (hxs : ∀ j, yin y32 (xs j)) (hSp : ∀ w p j v, (yarr p = false → gf p j ≠ none ∨ ra p j ≠ []) → (yarr p = true → ga p ≠ none) → Sp w → Sp (qup w p j v)) (hsc : sc = bif lw then some (L, xs) else none) (h : yas gf ga ra bv bb lw k (.istore i) pc ls st S N = true) (g : yG L xs w0 gf ga ra Sp gh ρ S w) (hl : ySc S.1 ls) (hs : ySc S.1 st) : yOK L xs w0 gf ga ra Sp gh ρ S N (qs1 sc k (.istore i) len pc (ls.map (yc ρ)) (st.map (yc ρ)) w 142) := by
  have h0 : 0 < S.1 := by have := g.1.2.1; omega
  rw [yas_istore] at h
  split at h
  · rename_i x r
    rw [Bool.and_eq_true] at h
    refine yOK.same (pc := pc + 2) (ls := yst ls i (0, x)) (st := r) ?_ (yst_sc h0 hl hs.hd) hs.tl g h.2
    rw [qs1_istore]
    show (if _ then some (pc + 2, qst (ls.map (yc ρ)) i (yc ρ (0, x)), r.map (yc ρ), w, 142) else none) = _
    rw [if_pos h.1, qst_map g.1.1]
  · cases h
theorem ya_istore_n {i : Fin 4} (hgh : ∀ x c, gh 1000 [x, c] = qand x c) (hbv : ∀ p j c, bv p j = some c → w0 p j = c) (hbb : ∀ p r, bb p = some r → ∀ j, yin r (w0 p j)) (hxs : ∀ j, yin y32 (xs j)) (hSp : ∀ w p j v, (yarr p = false → gf p j ≠ none ∨ ra p j ≠ []) → (yarr p = true → ga p ≠ none) → Sp w → Sp (qup w p j v)) (hsc : sc = bif lw then some (L, xs) else none) (h : yas gf ga ra bv bb lw k (.istore_n i) pc ls st S N = true) (g : yG L xs w0 gf ga ra Sp gh ρ S w) (hl : ySc S.1 ls) (hs : ySc S.1 st) : yOK L xs w0 gf ga ra Sp gh ρ S N (qs1 sc k (.istore_n i) len pc (ls.map (yc ρ)) (st.map (yc ρ)) w 142) := by
  have h0 : 0 < S.1 := by have := g.1.2.1; omega
  rw [yas_istore_n] at h
  split at h
  · rename_i x r
    rw [Bool.and_eq_true] at h
    refine yOK.same (pc := pc + 1) (ls := yst ls i.val (0, x)) (st := r) ?_ (yst_sc h0 hl hs.hd) hs.tl g h.2
    rw [qs1_istore_n]
    show (if _ then some (pc + 1, qst (ls.map (yc ρ)) i.val (yc ρ (0, x)), r.map (yc ρ), w, 142) else none) = _
    rw [if_pos h.1, qst_map g.1.1]
  · cases h
theorem ya_lstore {i : Nat} (hgh : ∀ x c, gh 1000 [x, c] = qand x c) (hbv : ∀ p j c, bv p j = some c → w0 p j = c) (hbb : ∀ p r, bb p = some r → ∀ j, yin r (w0 p j)) (hxs : ∀ j, yin y32 (xs j)) (hSp : ∀ w p j v, (yarr p = false → gf p j ≠ none ∨ ra p j ≠ []) → (yarr p = true → ga p ≠ none) → Sp w → Sp (qup w p j v)) (hsc : sc = bif lw then some (L, xs) else none) (h : yas gf ga ra bv bb lw k (.lstore i) pc ls st S N = true) (g : yG L xs w0 gf ga ra Sp gh ρ S w) (hl : ySc S.1 ls) (hs : ySc S.1 st) : yOK L xs w0 gf ga ra Sp gh ρ S N (qs1 sc k (.lstore i) len pc (ls.map (yc ρ)) (st.map (yc ρ)) w 142) := by
  have h0 : 0 < S.1 := by have := g.1.2.1; omega
  rw [yas_lstore] at h
  split at h
  · rename_i x r
    rw [Bool.and_eq_true] at h
    refine yOK.same (pc := pc + 2) (ls := yst ls i (1, x)) (st := r) ?_ (yst_sc h0 hl hs.hd) hs.tl g h.2
    rw [qs1_lstore]
    show (if _ then some (pc + 2, qst (ls.map (yc ρ)) i (yc ρ (1, x)), r.map (yc ρ), w, 142) else none) = _
    rw [if_pos h.1, qst_map g.1.1]
  · cases h
theorem ya_lstore_n {i : Fin 4} (hgh : ∀ x c, gh 1000 [x, c] = qand x c) (hbv : ∀ p j c, bv p j = some c → w0 p j = c) (hbb : ∀ p r, bb p = some r → ∀ j, yin r (w0 p j)) (hxs : ∀ j, yin y32 (xs j)) (hSp : ∀ w p j v, (yarr p = false → gf p j ≠ none ∨ ra p j ≠ []) → (yarr p = true → ga p ≠ none) → Sp w → Sp (qup w p j v)) (hsc : sc = bif lw then some (L, xs) else none) (h : yas gf ga ra bv bb lw k (.lstore_n i) pc ls st S N = true) (g : yG L xs w0 gf ga ra Sp gh ρ S w) (hl : ySc S.1 ls) (hs : ySc S.1 st) : yOK L xs w0 gf ga ra Sp gh ρ S N (qs1 sc k (.lstore_n i) len pc (ls.map (yc ρ)) (st.map (yc ρ)) w 142) := by
  have h0 : 0 < S.1 := by have := g.1.2.1; omega
  rw [yas_lstore_n] at h
  split at h
  · rename_i x r
    rw [Bool.and_eq_true] at h
    refine yOK.same (pc := pc + 1) (ls := yst ls i.val (1, x)) (st := r) ?_ (yst_sc h0 hl hs.hd) hs.tl g h.2
    rw [qs1_lstore_n]
    show (if _ then some (pc + 1, qst (ls.map (yc ρ)) i.val (yc ρ (1, x)), r.map (yc ρ), w, 142) else none) = _
    rw [if_pos h.1, qst_map g.1.1]
  · cases h
theorem ya_astore_n {i : Fin 4} (hgh : ∀ x c, gh 1000 [x, c] = qand x c) (hbv : ∀ p j c, bv p j = some c → w0 p j = c) (hbb : ∀ p r, bb p = some r → ∀ j, yin r (w0 p j)) (hxs : ∀ j, yin y32 (xs j)) (hSp : ∀ w p j v, (yarr p = false → gf p j ≠ none ∨ ra p j ≠ []) → (yarr p = true → ga p ≠ none) → Sp w → Sp (qup w p j v)) (hsc : sc = bif lw then some (L, xs) else none) (h : yas gf ga ra bv bb lw k (.astore_n i) pc ls st S N = true) (g : yG L xs w0 gf ga ra Sp gh ρ S w) (hl : ySc S.1 ls) (hs : ySc S.1 st) : yOK L xs w0 gf ga ra Sp gh ρ S N (qs1 sc k (.astore_n i) len pc (ls.map (yc ρ)) (st.map (yc ρ)) w 142) := by
  have h0 : 0 < S.1 := by have := g.1.2.1; omega
  rw [yas_astore_n] at h
  split at h
  · rename_i x r
    rw [Bool.and_eq_true] at h
    refine yOK.same (pc := pc + 1) (ls := yst ls i.val (2, x)) (st := r) ?_ (yst_sc h0 hl hs.hd) hs.tl g h.2
    rw [qs1_astore_n]
    show (if _ then some (pc + 1, qst (ls.map (yc ρ)) i.val (yc ρ (2, x)), r.map (yc ρ), w, 142) else none) = _
    rw [if_pos h.1, qst_map g.1.1]
  · cases h
theorem ya_iinc {i : Nat} {c : Int} (hgh : ∀ x c, gh 1000 [x, c] = qand x c) (hbv : ∀ p j c, bv p j = some c → w0 p j = c) (hbb : ∀ p r, bb p = some r → ∀ j, yin r (w0 p j)) (hxs : ∀ j, yin y32 (xs j)) (hSp : ∀ w p j v, (yarr p = false → gf p j ≠ none ∨ ra p j ≠ []) → (yarr p = true → ga p ≠ none) → Sp w → Sp (qup w p j v)) (hsc : sc = bif lw then some (L, xs) else none) (h : yas gf ga ra bv bb lw k (.iinc i c) pc ls st S N = true) (g : yG L xs w0 gf ga ra Sp gh ρ S w) (hl : ySc S.1 ls) (hs : ySc S.1 st) : yOK L xs w0 gf ga ra Sp gh ρ S N (qs1 sc k (.iinc i c) len pc (ls.map (yc ρ)) (st.map (yc ρ)) w 142) := by
  have h0 : 0 < S.1 := by have := g.1.2.1; omega
  rw [yas_iinc] at h
  split at h
  · rename_i s o hq
    rw [Bool.and_eq_true] at h
    have hs1 : s < S.1 := by have := ynt_sc h0 (i := i) hl; rw [hq] at this; exact this
    obtain ⟨ρ', S', v, h1, h2, h3, h4, h5, h6⟩ := yadd_ok h.2 g hs1 h0
    refine ⟨pc + 3, yst ls i v, st, S', ρ', w, ?_, h1, h2, yst_sc (by omega) (hl.mono h1) h4, hs.mono h1, h3, h6⟩
    rw [qs1_iinc, qnt_map g.1.1, hq]
    show (if _ then some (pc + 3, qst (ls.map (yc ρ)) i (0, wrp (ρ s + o + c)), st.map (yc ρ), w, 142) else none) = _
    rw [if_pos h.1, ← qst_map h3.1.1, h5, ym_ag h2 hl, ym_ag h2 hs, g.1.1, Int.zero_add]
  · cases h
theorem ya_iconst {c : Int} (hgh : ∀ x c, gh 1000 [x, c] = qand x c) (hbv : ∀ p j c, bv p j = some c → w0 p j = c) (hbb : ∀ p r, bb p = some r → ∀ j, yin r (w0 p j)) (hxs : ∀ j, yin y32 (xs j)) (hSp : ∀ w p j v, (yarr p = false → gf p j ≠ none ∨ ra p j ≠ []) → (yarr p = true → ga p ≠ none) → Sp w → Sp (qup w p j v)) (hsc : sc = bif lw then some (L, xs) else none) (h : yas gf ga ra bv bb lw k (.iconst c) pc ls st S N = true) (g : yG L xs w0 gf ga ra Sp gh ρ S w) (hl : ySc S.1 ls) (hs : ySc S.1 st) : yOK L xs w0 gf ga ra Sp gh ρ S N (qs1 sc k (.iconst c) len pc (ls.map (yc ρ)) (st.map (yc ρ)) w 142) := by
  have h0 : 0 < S.1 := by have := g.1.2.1; omega
  rw [yas_iconst] at h
  refine yOK.same (pc := pc + 1) (ls := ls) (st := (0, 0, c) :: st) ?_ hl (ySc.cons h0 hs) g h
  show some (pc + 1, ls.map (yc ρ), (0, c) :: st.map (yc ρ), w, 142) = some (pc + 1, ls.map (yc ρ), (0, ρ 0 + c) :: st.map (yc ρ), w, 142)
  rw [g.1.1, Int.zero_add]
theorem ya_bipush {c : Int} (hgh : ∀ x c, gh 1000 [x, c] = qand x c) (hbv : ∀ p j c, bv p j = some c → w0 p j = c) (hbb : ∀ p r, bb p = some r → ∀ j, yin r (w0 p j)) (hxs : ∀ j, yin y32 (xs j)) (hSp : ∀ w p j v, (yarr p = false → gf p j ≠ none ∨ ra p j ≠ []) → (yarr p = true → ga p ≠ none) → Sp w → Sp (qup w p j v)) (hsc : sc = bif lw then some (L, xs) else none) (h : yas gf ga ra bv bb lw k (.bipush c) pc ls st S N = true) (g : yG L xs w0 gf ga ra Sp gh ρ S w) (hl : ySc S.1 ls) (hs : ySc S.1 st) : yOK L xs w0 gf ga ra Sp gh ρ S N (qs1 sc k (.bipush c) len pc (ls.map (yc ρ)) (st.map (yc ρ)) w 142) := by
  have h0 : 0 < S.1 := by have := g.1.2.1; omega
  rw [yas_bipush] at h
  refine yOK.same (pc := pc + 2) (ls := ls) (st := (0, 0, c) :: st) ?_ hl (ySc.cons h0 hs) g h
  show some (pc + 2, ls.map (yc ρ), (0, c) :: st.map (yc ρ), w, 142) = some (pc + 2, ls.map (yc ρ), (0, ρ 0 + c) :: st.map (yc ρ), w, 142)
  rw [g.1.1, Int.zero_add]
theorem ya_sipush {c : Int} (hgh : ∀ x c, gh 1000 [x, c] = qand x c) (hbv : ∀ p j c, bv p j = some c → w0 p j = c) (hbb : ∀ p r, bb p = some r → ∀ j, yin r (w0 p j)) (hxs : ∀ j, yin y32 (xs j)) (hSp : ∀ w p j v, (yarr p = false → gf p j ≠ none ∨ ra p j ≠ []) → (yarr p = true → ga p ≠ none) → Sp w → Sp (qup w p j v)) (hsc : sc = bif lw then some (L, xs) else none) (h : yas gf ga ra bv bb lw k (.sipush c) pc ls st S N = true) (g : yG L xs w0 gf ga ra Sp gh ρ S w) (hl : ySc S.1 ls) (hs : ySc S.1 st) : yOK L xs w0 gf ga ra Sp gh ρ S N (qs1 sc k (.sipush c) len pc (ls.map (yc ρ)) (st.map (yc ρ)) w 142) := by
  have h0 : 0 < S.1 := by have := g.1.2.1; omega
  rw [yas_sipush] at h
  refine yOK.same (pc := pc + 3) (ls := ls) (st := (0, 0, c) :: st) ?_ hl (ySc.cons h0 hs) g h
  show some (pc + 3, ls.map (yc ρ), (0, c) :: st.map (yc ρ), w, 142) = some (pc + 3, ls.map (yc ρ), (0, ρ 0 + c) :: st.map (yc ρ), w, 142)
  rw [g.1.1, Int.zero_add]
theorem ya_lconst {c : Fin 2} (hgh : ∀ x c, gh 1000 [x, c] = qand x c) (hbv : ∀ p j c, bv p j = some c → w0 p j = c) (hbb : ∀ p r, bb p = some r → ∀ j, yin r (w0 p j)) (hxs : ∀ j, yin y32 (xs j)) (hSp : ∀ w p j v, (yarr p = false → gf p j ≠ none ∨ ra p j ≠ []) → (yarr p = true → ga p ≠ none) → Sp w → Sp (qup w p j v)) (hsc : sc = bif lw then some (L, xs) else none) (h : yas gf ga ra bv bb lw k (.lconst c) pc ls st S N = true) (g : yG L xs w0 gf ga ra Sp gh ρ S w) (hl : ySc S.1 ls) (hs : ySc S.1 st) : yOK L xs w0 gf ga ra Sp gh ρ S N (qs1 sc k (.lconst c) len pc (ls.map (yc ρ)) (st.map (yc ρ)) w 142) := by
  have h0 : 0 < S.1 := by have := g.1.2.1; omega
  rw [yas_lconst] at h
  refine yOK.same (pc := pc + 1) (ls := ls) (st := (1, 0, (c.val : Int)) :: st) ?_ hl (ySc.cons h0 hs) g h
  show some (pc + 1, ls.map (yc ρ), (1, (c.val : Int)) :: st.map (yc ρ), w, 142) = some (pc + 1, ls.map (yc ρ), (1, ρ 0 + (c.val : Int)) :: st.map (yc ρ), w, 142)
  rw [g.1.1, Int.zero_add]
theorem ya_aconst_null (hgh : ∀ x c, gh 1000 [x, c] = qand x c) (hbv : ∀ p j c, bv p j = some c → w0 p j = c) (hbb : ∀ p r, bb p = some r → ∀ j, yin r (w0 p j)) (hxs : ∀ j, yin y32 (xs j)) (hSp : ∀ w p j v, (yarr p = false → gf p j ≠ none ∨ ra p j ≠ []) → (yarr p = true → ga p ≠ none) → Sp w → Sp (qup w p j v)) (hsc : sc = bif lw then some (L, xs) else none) (h : yas gf ga ra bv bb lw k .aconst_null pc ls st S N = true) (g : yG L xs w0 gf ga ra Sp gh ρ S w) (hl : ySc S.1 ls) (hs : ySc S.1 st) : yOK L xs w0 gf ga ra Sp gh ρ S N (qs1 sc k .aconst_null len pc (ls.map (yc ρ)) (st.map (yc ρ)) w 142) := by
  have h0 : 0 < S.1 := by have := g.1.2.1; omega
  rw [yas_aconst_null] at h
  refine yOK.same (pc := pc + 1) (ls := ls) (st := (2, 0, (0 : Int)) :: st) ?_ hl (ySc.cons h0 hs) g h
  show some (pc + 1, ls.map (yc ρ), (2, (0 : Int)) :: st.map (yc ρ), w, 142) = some (pc + 1, ls.map (yc ρ), (2, ρ 0 + (0 : Int)) :: st.map (yc ρ), w, 142)
  rw [g.1.1, Int.zero_add]
theorem ya_ldc {i : Nat} (hgh : ∀ x c, gh 1000 [x, c] = qand x c) (hbv : ∀ p j c, bv p j = some c → w0 p j = c) (hbb : ∀ p r, bb p = some r → ∀ j, yin r (w0 p j)) (hxs : ∀ j, yin y32 (xs j)) (hSp : ∀ w p j v, (yarr p = false → gf p j ≠ none ∨ ra p j ≠ []) → (yarr p = true → ga p ≠ none) → Sp w → Sp (qup w p j v)) (hsc : sc = bif lw then some (L, xs) else none) (h : yas gf ga ra bv bb lw k (.ldc i) pc ls st S N = true) (g : yG L xs w0 gf ga ra Sp gh ρ S w) (hl : ySc S.1 ls) (hs : ySc S.1 st) : yOK L xs w0 gf ga ra Sp gh ρ S N (qs1 sc k (.ldc i) len pc (ls.map (yc ρ)) (st.map (yc ρ)) w 142) := by
  have h0 : 0 < S.1 := by have := g.1.2.1; omega
  rw [yas_ldc] at h
  split at h
  · rename_i v hq
    refine yOK.same (pc := pc + 2) (ls := ls) (st := (0, 0, v) :: st) ?_ hl (ySc.cons h0 hs) g h
    rw [qs1_ldc, hq]
    show some (pc + 2, ls.map (yc ρ), (0, v) :: st.map (yc ρ), w, 142) = some (pc + 2, ls.map (yc ρ), (0, ρ 0 + v) :: st.map (yc ρ), w, 142)
    rw [g.1.1, Int.zero_add]
  · rename_i v hq
    refine yOK.same (pc := pc + 2) (ls := ls) (st := (3, 0, v) :: st) ?_ hl (ySc.cons h0 hs) g h
    rw [qs1_ldc, hq]
    show some (pc + 2, ls.map (yc ρ), (3, v) :: st.map (yc ρ), w, 142) = some (pc + 2, ls.map (yc ρ), (3, ρ 0 + v) :: st.map (yc ρ), w, 142)
    rw [g.1.1, Int.zero_add]
  · cases h
theorem ya_ldc_w {i : Nat} (hgh : ∀ x c, gh 1000 [x, c] = qand x c) (hbv : ∀ p j c, bv p j = some c → w0 p j = c) (hbb : ∀ p r, bb p = some r → ∀ j, yin r (w0 p j)) (hxs : ∀ j, yin y32 (xs j)) (hSp : ∀ w p j v, (yarr p = false → gf p j ≠ none ∨ ra p j ≠ []) → (yarr p = true → ga p ≠ none) → Sp w → Sp (qup w p j v)) (hsc : sc = bif lw then some (L, xs) else none) (h : yas gf ga ra bv bb lw k (.ldc_w i) pc ls st S N = true) (g : yG L xs w0 gf ga ra Sp gh ρ S w) (hl : ySc S.1 ls) (hs : ySc S.1 st) : yOK L xs w0 gf ga ra Sp gh ρ S N (qs1 sc k (.ldc_w i) len pc (ls.map (yc ρ)) (st.map (yc ρ)) w 142) := by
  have h0 : 0 < S.1 := by have := g.1.2.1; omega
  rw [yas_ldc_w] at h
  split at h
  · rename_i v hq
    refine yOK.same (pc := pc + 3) (ls := ls) (st := (0, 0, v) :: st) ?_ hl (ySc.cons h0 hs) g h
    rw [qs1_ldc_w, hq]
    show some (pc + 3, ls.map (yc ρ), (0, v) :: st.map (yc ρ), w, 142) = some (pc + 3, ls.map (yc ρ), (0, ρ 0 + v) :: st.map (yc ρ), w, 142)
    rw [g.1.1, Int.zero_add]
  · rename_i v hq
    refine yOK.same (pc := pc + 3) (ls := ls) (st := (3, 0, v) :: st) ?_ hl (ySc.cons h0 hs) g h
    rw [qs1_ldc_w, hq]
    show some (pc + 3, ls.map (yc ρ), (3, v) :: st.map (yc ρ), w, 142) = some (pc + 3, ls.map (yc ρ), (3, ρ 0 + v) :: st.map (yc ρ), w, 142)
    rw [g.1.1, Int.zero_add]
  · cases h
theorem ya_ldc2_w {i : Nat} (hgh : ∀ x c, gh 1000 [x, c] = qand x c) (hbv : ∀ p j c, bv p j = some c → w0 p j = c) (hbb : ∀ p r, bb p = some r → ∀ j, yin r (w0 p j)) (hxs : ∀ j, yin y32 (xs j)) (hSp : ∀ w p j v, (yarr p = false → gf p j ≠ none ∨ ra p j ≠ []) → (yarr p = true → ga p ≠ none) → Sp w → Sp (qup w p j v)) (hsc : sc = bif lw then some (L, xs) else none) (h : yas gf ga ra bv bb lw k (.ldc2_w i) pc ls st S N = true) (g : yG L xs w0 gf ga ra Sp gh ρ S w) (hl : ySc S.1 ls) (hs : ySc S.1 st) : yOK L xs w0 gf ga ra Sp gh ρ S N (qs1 sc k (.ldc2_w i) len pc (ls.map (yc ρ)) (st.map (yc ρ)) w 142) := by
  have h0 : 0 < S.1 := by have := g.1.2.1; omega
  rw [yas_ldc2_w] at h
  split at h
  · rename_i v hq
    refine yOK.same (pc := pc + 3) (ls := ls) (st := (1, 0, v) :: st) ?_ hl (ySc.cons h0 hs) g h
    rw [qs1_ldc2_w, hq]
    show some (pc + 3, ls.map (yc ρ), (1, v) :: st.map (yc ρ), w, 142) = some (pc + 3, ls.map (yc ρ), (1, ρ 0 + v) :: st.map (yc ρ), w, 142)
    rw [g.1.1, Int.zero_add]
  · cases h
theorem ya_dup (hgh : ∀ x c, gh 1000 [x, c] = qand x c) (hbv : ∀ p j c, bv p j = some c → w0 p j = c) (hbb : ∀ p r, bb p = some r → ∀ j, yin r (w0 p j)) (hxs : ∀ j, yin y32 (xs j)) (hSp : ∀ w p j v, (yarr p = false → gf p j ≠ none ∨ ra p j ≠ []) → (yarr p = true → ga p ≠ none) → Sp w → Sp (qup w p j v)) (hsc : sc = bif lw then some (L, xs) else none) (h : yas gf ga ra bv bb lw k .dup pc ls st S N = true) (g : yG L xs w0 gf ga ra Sp gh ρ S w) (hl : ySc S.1 ls) (hs : ySc S.1 st) : yOK L xs w0 gf ga ra Sp gh ρ S N (qs1 sc k .dup len pc (ls.map (yc ρ)) (st.map (yc ρ)) w 142) := by
  have h0 : 0 < S.1 := by have := g.1.2.1; omega
  rw [yas_dup] at h
  split at h
  · rename_i x r
    exact yOK.same (pc := pc + 1) (ls := ls) (st := (0, x) :: (0, x) :: r) rfl hl (ySc.cons hs.hd hs) g h
  · rename_i x r
    exact yOK.same (pc := pc + 1) (ls := ls) (st := (2, x) :: (2, x) :: r) rfl hl (ySc.cons hs.hd hs) g h
  · cases h
theorem ya_dup2 (hgh : ∀ x c, gh 1000 [x, c] = qand x c) (hbv : ∀ p j c, bv p j = some c → w0 p j = c) (hbb : ∀ p r, bb p = some r → ∀ j, yin r (w0 p j)) (hxs : ∀ j, yin y32 (xs j)) (hSp : ∀ w p j v, (yarr p = false → gf p j ≠ none ∨ ra p j ≠ []) → (yarr p = true → ga p ≠ none) → Sp w → Sp (qup w p j v)) (hsc : sc = bif lw then some (L, xs) else none) (h : yas gf ga ra bv bb lw k .dup2 pc ls st S N = true) (g : yG L xs w0 gf ga ra Sp gh ρ S w) (hl : ySc S.1 ls) (hs : ySc S.1 st) : yOK L xs w0 gf ga ra Sp gh ρ S N (qs1 sc k .dup2 len pc (ls.map (yc ρ)) (st.map (yc ρ)) w 142) := by
  have h0 : 0 < S.1 := by have := g.1.2.1; omega
  rw [yas_dup2] at h
  split at h
  · rename_i x y r
    exact yOK.same (pc := pc + 1) (ls := ls) (st := (0, x) :: (2, y) :: (0, x) :: (2, y) :: r) rfl hl (ySc.cons hs.hd (ySc.cons hs.tl.hd hs)) g h
  · cases h
theorem ya_pop (hgh : ∀ x c, gh 1000 [x, c] = qand x c) (hbv : ∀ p j c, bv p j = some c → w0 p j = c) (hbb : ∀ p r, bb p = some r → ∀ j, yin r (w0 p j)) (hxs : ∀ j, yin y32 (xs j)) (hSp : ∀ w p j v, (yarr p = false → gf p j ≠ none ∨ ra p j ≠ []) → (yarr p = true → ga p ≠ none) → Sp w → Sp (qup w p j v)) (hsc : sc = bif lw then some (L, xs) else none) (h : yas gf ga ra bv bb lw k .pop pc ls st S N = true) (g : yG L xs w0 gf ga ra Sp gh ρ S w) (hl : ySc S.1 ls) (hs : ySc S.1 st) : yOK L xs w0 gf ga ra Sp gh ρ S N (qs1 sc k .pop len pc (ls.map (yc ρ)) (st.map (yc ρ)) w 142) := by
  have h0 : 0 < S.1 := by have := g.1.2.1; omega
  rw [yas_pop] at h
  split at h
  · rename_i x r
    exact yOK.same (pc := pc + 1) (ls := ls) (st := r) rfl hl hs.tl g h
  · cases h
theorem ya_iadd (hgh : ∀ x c, gh 1000 [x, c] = qand x c) (hbv : ∀ p j c, bv p j = some c → w0 p j = c) (hbb : ∀ p r, bb p = some r → ∀ j, yin r (w0 p j)) (hxs : ∀ j, yin y32 (xs j)) (hSp : ∀ w p j v, (yarr p = false → gf p j ≠ none ∨ ra p j ≠ []) → (yarr p = true → ga p ≠ none) → Sp w → Sp (qup w p j v)) (hsc : sc = bif lw then some (L, xs) else none) (h : yas gf ga ra bv bb lw k .iadd pc ls st S N = true) (g : yG L xs w0 gf ga ra Sp gh ρ S w) (hl : ySc S.1 ls) (hs : ySc S.1 st) : yOK L xs w0 gf ga ra Sp gh ρ S N (qs1 sc k .iadd len pc (ls.map (yc ρ)) (st.map (yc ρ)) w 142) := by
  have h0 : 0 < S.1 := by have := g.1.2.1; omega
  rw [yas_iadd] at h
  split at h
  · rename_i s2 o2 s1 o1 r
    exact yOK.r1 (pc := pc + 1) (ls := ls) (r := r) (yadd_ok h g hs.tl.hd hs.hd) rfl hl hs.tl.tl
  · cases h
theorem ya_iand (hgh : ∀ x c, gh 1000 [x, c] = qand x c) (hbv : ∀ p j c, bv p j = some c → w0 p j = c) (hbb : ∀ p r, bb p = some r → ∀ j, yin r (w0 p j)) (hxs : ∀ j, yin y32 (xs j)) (hSp : ∀ w p j v, (yarr p = false → gf p j ≠ none ∨ ra p j ≠ []) → (yarr p = true → ga p ≠ none) → Sp w → Sp (qup w p j v)) (hsc : sc = bif lw then some (L, xs) else none) (h : yas gf ga ra bv bb lw k .iand pc ls st S N = true) (g : yG L xs w0 gf ga ra Sp gh ρ S w) (hl : ySc S.1 ls) (hs : ySc S.1 st) : yOK L xs w0 gf ga ra Sp gh ρ S N (qs1 sc k .iand len pc (ls.map (yc ρ)) (st.map (yc ρ)) w 142) := by
  have h0 : 0 < S.1 := by have := g.1.2.1; omega
  rw [yas_iand] at h
  split at h
  · rename_i s2 o2 s1 o1 r
    exact yOK.r1 (pc := pc + 1) (ls := ls) (r := r) (yand_ok hgh h g hs.tl.hd) rfl hl hs.tl.tl
  · cases h
theorem ya_isub (hgh : ∀ x c, gh 1000 [x, c] = qand x c) (hbv : ∀ p j c, bv p j = some c → w0 p j = c) (hbb : ∀ p r, bb p = some r → ∀ j, yin r (w0 p j)) (hxs : ∀ j, yin y32 (xs j)) (hSp : ∀ w p j v, (yarr p = false → gf p j ≠ none ∨ ra p j ≠ []) → (yarr p = true → ga p ≠ none) → Sp w → Sp (qup w p j v)) (hsc : sc = bif lw then some (L, xs) else none) (h : yas gf ga ra bv bb lw k .isub pc ls st S N = true) (g : yG L xs w0 gf ga ra Sp gh ρ S w) (hl : ySc S.1 ls) (hs : ySc S.1 st) : yOK L xs w0 gf ga ra Sp gh ρ S N (qs1 sc k .isub len pc (ls.map (yc ρ)) (st.map (yc ρ)) w 142) := by
  have h0 : 0 < S.1 := by have := g.1.2.1; omega
  rw [yas_isub] at h
  split at h
  · rename_i s2 o2 s1 o1 r
    exact yOK.r1 (pc := pc + 1) (ls := ls) (r := r) (ysub_ok h g hs.tl.hd) rfl hl hs.tl.tl
  · cases h
theorem ya_imul (hgh : ∀ x c, gh 1000 [x, c] = qand x c) (hbv : ∀ p j c, bv p j = some c → w0 p j = c) (hbb : ∀ p r, bb p = some r → ∀ j, yin r (w0 p j)) (hxs : ∀ j, yin y32 (xs j)) (hSp : ∀ w p j v, (yarr p = false → gf p j ≠ none ∨ ra p j ≠ []) → (yarr p = true → ga p ≠ none) → Sp w → Sp (qup w p j v)) (hsc : sc = bif lw then some (L, xs) else none) (h : yas gf ga ra bv bb lw k .imul pc ls st S N = true) (g : yG L xs w0 gf ga ra Sp gh ρ S w) (hl : ySc S.1 ls) (hs : ySc S.1 st) : yOK L xs w0 gf ga ra Sp gh ρ S N (qs1 sc k .imul len pc (ls.map (yc ρ)) (st.map (yc ρ)) w 142) := by
  have h0 : 0 < S.1 := by have := g.1.2.1; omega
  rw [yas_imul] at h
  split at h
  · rename_i s2 o2 s1 o1 r
    exact yOK.r1 (pc := pc + 1) (ls := ls) (r := r) (ybin_ok vmul_ok h g) rfl hl hs.tl.tl
  · cases h
theorem ya_ior (hgh : ∀ x c, gh 1000 [x, c] = qand x c) (hbv : ∀ p j c, bv p j = some c → w0 p j = c) (hbb : ∀ p r, bb p = some r → ∀ j, yin r (w0 p j)) (hxs : ∀ j, yin y32 (xs j)) (hSp : ∀ w p j v, (yarr p = false → gf p j ≠ none ∨ ra p j ≠ []) → (yarr p = true → ga p ≠ none) → Sp w → Sp (qup w p j v)) (hsc : sc = bif lw then some (L, xs) else none) (h : yas gf ga ra bv bb lw k .ior pc ls st S N = true) (g : yG L xs w0 gf ga ra Sp gh ρ S w) (hl : ySc S.1 ls) (hs : ySc S.1 st) : yOK L xs w0 gf ga ra Sp gh ρ S N (qs1 sc k .ior len pc (ls.map (yc ρ)) (st.map (yc ρ)) w 142) := by
  have h0 : 0 < S.1 := by have := g.1.2.1; omega
  rw [yas_ior] at h
  split at h
  · rename_i s2 o2 s1 o1 r
    exact yOK.r1 (pc := pc + 1) (ls := ls) (r := r) (ybin_ok vor_ok h g) rfl hl hs.tl.tl
  · cases h
theorem ya_ixor (hgh : ∀ x c, gh 1000 [x, c] = qand x c) (hbv : ∀ p j c, bv p j = some c → w0 p j = c) (hbb : ∀ p r, bb p = some r → ∀ j, yin r (w0 p j)) (hxs : ∀ j, yin y32 (xs j)) (hSp : ∀ w p j v, (yarr p = false → gf p j ≠ none ∨ ra p j ≠ []) → (yarr p = true → ga p ≠ none) → Sp w → Sp (qup w p j v)) (hsc : sc = bif lw then some (L, xs) else none) (h : yas gf ga ra bv bb lw k .ixor pc ls st S N = true) (g : yG L xs w0 gf ga ra Sp gh ρ S w) (hl : ySc S.1 ls) (hs : ySc S.1 st) : yOK L xs w0 gf ga ra Sp gh ρ S N (qs1 sc k .ixor len pc (ls.map (yc ρ)) (st.map (yc ρ)) w 142) := by
  have h0 : 0 < S.1 := by have := g.1.2.1; omega
  rw [yas_ixor] at h
  split at h
  · rename_i s2 o2 s1 o1 r
    exact yOK.r1 (pc := pc + 1) (ls := ls) (r := r) (ybin_ok vxor1_ok h g) rfl hl hs.tl.tl
  · cases h
theorem ya_ishl (hgh : ∀ x c, gh 1000 [x, c] = qand x c) (hbv : ∀ p j c, bv p j = some c → w0 p j = c) (hbb : ∀ p r, bb p = some r → ∀ j, yin r (w0 p j)) (hxs : ∀ j, yin y32 (xs j)) (hSp : ∀ w p j v, (yarr p = false → gf p j ≠ none ∨ ra p j ≠ []) → (yarr p = true → ga p ≠ none) → Sp w → Sp (qup w p j v)) (hsc : sc = bif lw then some (L, xs) else none) (h : yas gf ga ra bv bb lw k .ishl pc ls st S N = true) (g : yG L xs w0 gf ga ra Sp gh ρ S w) (hl : ySc S.1 ls) (hs : ySc S.1 st) : yOK L xs w0 gf ga ra Sp gh ρ S N (qs1 sc k .ishl len pc (ls.map (yc ρ)) (st.map (yc ρ)) w 142) := by
  have h0 : 0 < S.1 := by have := g.1.2.1; omega
  rw [yas_ishl] at h
  split at h
  · rename_i s2 o2 s1 o1 r
    exact yOK.r1 (pc := pc + 1) (ls := ls) (r := r) (ybin_ok vshl_ok h g) rfl hl hs.tl.tl
  · cases h
theorem ya_ishr (hgh : ∀ x c, gh 1000 [x, c] = qand x c) (hbv : ∀ p j c, bv p j = some c → w0 p j = c) (hbb : ∀ p r, bb p = some r → ∀ j, yin r (w0 p j)) (hxs : ∀ j, yin y32 (xs j)) (hSp : ∀ w p j v, (yarr p = false → gf p j ≠ none ∨ ra p j ≠ []) → (yarr p = true → ga p ≠ none) → Sp w → Sp (qup w p j v)) (hsc : sc = bif lw then some (L, xs) else none) (h : yas gf ga ra bv bb lw k .ishr pc ls st S N = true) (g : yG L xs w0 gf ga ra Sp gh ρ S w) (hl : ySc S.1 ls) (hs : ySc S.1 st) : yOK L xs w0 gf ga ra Sp gh ρ S N (qs1 sc k .ishr len pc (ls.map (yc ρ)) (st.map (yc ρ)) w 142) := by
  have h0 : 0 < S.1 := by have := g.1.2.1; omega
  rw [yas_ishr] at h
  split at h
  · rename_i s2 o2 s1 o1 r
    exact yOK.r1 (pc := pc + 1) (ls := ls) (r := r) (ybin_ok vshr_ok h g) rfl hl hs.tl.tl
  · cases h
theorem ya_iushr (hgh : ∀ x c, gh 1000 [x, c] = qand x c) (hbv : ∀ p j c, bv p j = some c → w0 p j = c) (hbb : ∀ p r, bb p = some r → ∀ j, yin r (w0 p j)) (hxs : ∀ j, yin y32 (xs j)) (hSp : ∀ w p j v, (yarr p = false → gf p j ≠ none ∨ ra p j ≠ []) → (yarr p = true → ga p ≠ none) → Sp w → Sp (qup w p j v)) (hsc : sc = bif lw then some (L, xs) else none) (h : yas gf ga ra bv bb lw k .iushr pc ls st S N = true) (g : yG L xs w0 gf ga ra Sp gh ρ S w) (hl : ySc S.1 ls) (hs : ySc S.1 st) : yOK L xs w0 gf ga ra Sp gh ρ S N (qs1 sc k .iushr len pc (ls.map (yc ρ)) (st.map (yc ρ)) w 142) := by
  have h0 : 0 < S.1 := by have := g.1.2.1; omega
  rw [yas_iushr] at h
  split at h
  · rename_i s2 o2 s1 o1 r
    exact yOK.r1 (pc := pc + 1) (ls := ls) (r := r) (ybin_ok vush_ok h g) rfl hl hs.tl.tl
  · cases h
theorem ya_ladd (hgh : ∀ x c, gh 1000 [x, c] = qand x c) (hbv : ∀ p j c, bv p j = some c → w0 p j = c) (hbb : ∀ p r, bb p = some r → ∀ j, yin r (w0 p j)) (hxs : ∀ j, yin y32 (xs j)) (hSp : ∀ w p j v, (yarr p = false → gf p j ≠ none ∨ ra p j ≠ []) → (yarr p = true → ga p ≠ none) → Sp w → Sp (qup w p j v)) (hsc : sc = bif lw then some (L, xs) else none) (h : yas gf ga ra bv bb lw k .ladd pc ls st S N = true) (g : yG L xs w0 gf ga ra Sp gh ρ S w) (hl : ySc S.1 ls) (hs : ySc S.1 st) : yOK L xs w0 gf ga ra Sp gh ρ S N (qs1 sc k .ladd len pc (ls.map (yc ρ)) (st.map (yc ρ)) w 142) := by
  have h0 : 0 < S.1 := by have := g.1.2.1; omega
  rw [yas_ladd] at h
  split at h
  · rename_i s2 o2 s1 o1 r
    exact yOK.r1 (pc := pc + 1) (ls := ls) (r := r) (ybin_ok vladd_ok h g) rfl hl hs.tl.tl
  · cases h
theorem ya_lsub (hgh : ∀ x c, gh 1000 [x, c] = qand x c) (hbv : ∀ p j c, bv p j = some c → w0 p j = c) (hbb : ∀ p r, bb p = some r → ∀ j, yin r (w0 p j)) (hxs : ∀ j, yin y32 (xs j)) (hSp : ∀ w p j v, (yarr p = false → gf p j ≠ none ∨ ra p j ≠ []) → (yarr p = true → ga p ≠ none) → Sp w → Sp (qup w p j v)) (hsc : sc = bif lw then some (L, xs) else none) (h : yas gf ga ra bv bb lw k .lsub pc ls st S N = true) (g : yG L xs w0 gf ga ra Sp gh ρ S w) (hl : ySc S.1 ls) (hs : ySc S.1 st) : yOK L xs w0 gf ga ra Sp gh ρ S N (qs1 sc k .lsub len pc (ls.map (yc ρ)) (st.map (yc ρ)) w 142) := by
  have h0 : 0 < S.1 := by have := g.1.2.1; omega
  rw [yas_lsub] at h
  split at h
  · rename_i s2 o2 s1 o1 r
    exact yOK.r1 (pc := pc + 1) (ls := ls) (r := r) (ybin_ok vlsub_ok h g) rfl hl hs.tl.tl
  · cases h
theorem ya_lmul (hgh : ∀ x c, gh 1000 [x, c] = qand x c) (hbv : ∀ p j c, bv p j = some c → w0 p j = c) (hbb : ∀ p r, bb p = some r → ∀ j, yin r (w0 p j)) (hxs : ∀ j, yin y32 (xs j)) (hSp : ∀ w p j v, (yarr p = false → gf p j ≠ none ∨ ra p j ≠ []) → (yarr p = true → ga p ≠ none) → Sp w → Sp (qup w p j v)) (hsc : sc = bif lw then some (L, xs) else none) (h : yas gf ga ra bv bb lw k .lmul pc ls st S N = true) (g : yG L xs w0 gf ga ra Sp gh ρ S w) (hl : ySc S.1 ls) (hs : ySc S.1 st) : yOK L xs w0 gf ga ra Sp gh ρ S N (qs1 sc k .lmul len pc (ls.map (yc ρ)) (st.map (yc ρ)) w 142) := by
  have h0 : 0 < S.1 := by have := g.1.2.1; omega
  rw [yas_lmul] at h
  split at h
  · rename_i s2 o2 s1 o1 r
    exact yOK.r1 (pc := pc + 1) (ls := ls) (r := r) (ybin_ok vlmul_ok h g) rfl hl hs.tl.tl
  · cases h
theorem ya_land (hgh : ∀ x c, gh 1000 [x, c] = qand x c) (hbv : ∀ p j c, bv p j = some c → w0 p j = c) (hbb : ∀ p r, bb p = some r → ∀ j, yin r (w0 p j)) (hxs : ∀ j, yin y32 (xs j)) (hSp : ∀ w p j v, (yarr p = false → gf p j ≠ none ∨ ra p j ≠ []) → (yarr p = true → ga p ≠ none) → Sp w → Sp (qup w p j v)) (hsc : sc = bif lw then some (L, xs) else none) (h : yas gf ga ra bv bb lw k .land pc ls st S N = true) (g : yG L xs w0 gf ga ra Sp gh ρ S w) (hl : ySc S.1 ls) (hs : ySc S.1 st) : yOK L xs w0 gf ga ra Sp gh ρ S N (qs1 sc k .land len pc (ls.map (yc ρ)) (st.map (yc ρ)) w 142) := by
  have h0 : 0 < S.1 := by have := g.1.2.1; omega
  rw [yas_land] at h
  split at h
  · rename_i s2 o2 s1 o1 r
    exact yOK.r1 (pc := pc + 1) (ls := ls) (r := r) (ybin_ok vland_ok h g) rfl hl hs.tl.tl
  · cases h
theorem ya_lor (hgh : ∀ x c, gh 1000 [x, c] = qand x c) (hbv : ∀ p j c, bv p j = some c → w0 p j = c) (hbb : ∀ p r, bb p = some r → ∀ j, yin r (w0 p j)) (hxs : ∀ j, yin y32 (xs j)) (hSp : ∀ w p j v, (yarr p = false → gf p j ≠ none ∨ ra p j ≠ []) → (yarr p = true → ga p ≠ none) → Sp w → Sp (qup w p j v)) (hsc : sc = bif lw then some (L, xs) else none) (h : yas gf ga ra bv bb lw k .lor pc ls st S N = true) (g : yG L xs w0 gf ga ra Sp gh ρ S w) (hl : ySc S.1 ls) (hs : ySc S.1 st) : yOK L xs w0 gf ga ra Sp gh ρ S N (qs1 sc k .lor len pc (ls.map (yc ρ)) (st.map (yc ρ)) w 142) := by
  have h0 : 0 < S.1 := by have := g.1.2.1; omega
  rw [yas_lor] at h
  split at h
  · rename_i s2 o2 s1 o1 r
    exact yOK.r1 (pc := pc + 1) (ls := ls) (r := r) (ybin_ok vlor_ok h g) rfl hl hs.tl.tl
  · cases h
theorem ya_lshl (hgh : ∀ x c, gh 1000 [x, c] = qand x c) (hbv : ∀ p j c, bv p j = some c → w0 p j = c) (hbb : ∀ p r, bb p = some r → ∀ j, yin r (w0 p j)) (hxs : ∀ j, yin y32 (xs j)) (hSp : ∀ w p j v, (yarr p = false → gf p j ≠ none ∨ ra p j ≠ []) → (yarr p = true → ga p ≠ none) → Sp w → Sp (qup w p j v)) (hsc : sc = bif lw then some (L, xs) else none) (h : yas gf ga ra bv bb lw k .lshl pc ls st S N = true) (g : yG L xs w0 gf ga ra Sp gh ρ S w) (hl : ySc S.1 ls) (hs : ySc S.1 st) : yOK L xs w0 gf ga ra Sp gh ρ S N (qs1 sc k .lshl len pc (ls.map (yc ρ)) (st.map (yc ρ)) w 142) := by
  have h0 : 0 < S.1 := by have := g.1.2.1; omega
  rw [yas_lshl] at h
  split at h
  · rename_i s2 o2 s1 o1 r
    exact yOK.r1 (pc := pc + 1) (ls := ls) (r := r) (ybin_ok vlshl_ok h g) rfl hl hs.tl.tl
  · cases h
theorem ya_lushr (hgh : ∀ x c, gh 1000 [x, c] = qand x c) (hbv : ∀ p j c, bv p j = some c → w0 p j = c) (hbb : ∀ p r, bb p = some r → ∀ j, yin r (w0 p j)) (hxs : ∀ j, yin y32 (xs j)) (hSp : ∀ w p j v, (yarr p = false → gf p j ≠ none ∨ ra p j ≠ []) → (yarr p = true → ga p ≠ none) → Sp w → Sp (qup w p j v)) (hsc : sc = bif lw then some (L, xs) else none) (h : yas gf ga ra bv bb lw k .lushr pc ls st S N = true) (g : yG L xs w0 gf ga ra Sp gh ρ S w) (hl : ySc S.1 ls) (hs : ySc S.1 st) : yOK L xs w0 gf ga ra Sp gh ρ S N (qs1 sc k .lushr len pc (ls.map (yc ρ)) (st.map (yc ρ)) w 142) := by
  have h0 : 0 < S.1 := by have := g.1.2.1; omega
  rw [yas_lushr] at h
  split at h
  · rename_i s2 o2 s1 o1 r
    exact yOK.r1 (pc := pc + 1) (ls := ls) (r := r) (ybin_ok vlush_ok h g) rfl hl hs.tl.tl
  · cases h
theorem ya_idiv (hgh : ∀ x c, gh 1000 [x, c] = qand x c) (hbv : ∀ p j c, bv p j = some c → w0 p j = c) (hbb : ∀ p r, bb p = some r → ∀ j, yin r (w0 p j)) (hxs : ∀ j, yin y32 (xs j)) (hSp : ∀ w p j v, (yarr p = false → gf p j ≠ none ∨ ra p j ≠ []) → (yarr p = true → ga p ≠ none) → Sp w → Sp (qup w p j v)) (hsc : sc = bif lw then some (L, xs) else none) (h : yas gf ga ra bv bb lw k .idiv pc ls st S N = true) (g : yG L xs w0 gf ga ra Sp gh ρ S w) (hl : ySc S.1 ls) (hs : ySc S.1 st) : yOK L xs w0 gf ga ra Sp gh ρ S N (qs1 sc k .idiv len pc (ls.map (yc ρ)) (st.map (yc ρ)) w 142) := by
  have h0 : 0 < S.1 := by have := g.1.2.1; omega
  rw [yas_idiv] at h
  split at h
  · rename_i s2 o2 s1 o1 r
    split at h
    · rename_i c9 d9 h1
      have k := yiv_ok g h1
      rw [Bool.and_eq_true, yle_i] at h
      refine yOK.r1 (pc := pc + 1) (ls := ls) (r := r) (ybin_ok vdiv_ok h.2 g) ?_ hl hs.tl.tl
      show (if ρ s2 + o2 = 0 then none else some (pc + 1, ls.map (yc ρ), (0, qdiv (ρ s1 + o1) (ρ s2 + o2)) :: r.map (yc ρ), w, 142)) = _
      rw [if_neg (by omega)]
    · cases h
  · cases h
theorem ya_irem (hgh : ∀ x c, gh 1000 [x, c] = qand x c) (hbv : ∀ p j c, bv p j = some c → w0 p j = c) (hbb : ∀ p r, bb p = some r → ∀ j, yin r (w0 p j)) (hxs : ∀ j, yin y32 (xs j)) (hSp : ∀ w p j v, (yarr p = false → gf p j ≠ none ∨ ra p j ≠ []) → (yarr p = true → ga p ≠ none) → Sp w → Sp (qup w p j v)) (hsc : sc = bif lw then some (L, xs) else none) (h : yas gf ga ra bv bb lw k .irem pc ls st S N = true) (g : yG L xs w0 gf ga ra Sp gh ρ S w) (hl : ySc S.1 ls) (hs : ySc S.1 st) : yOK L xs w0 gf ga ra Sp gh ρ S N (qs1 sc k .irem len pc (ls.map (yc ρ)) (st.map (yc ρ)) w 142) := by
  have h0 : 0 < S.1 := by have := g.1.2.1; omega
  rw [yas_irem] at h
  split at h
  · rename_i s2 o2 s1 o1 r
    split at h
    · rename_i c9 d9 h1
      have k := yiv_ok g h1
      rw [Bool.and_eq_true, yle_i] at h
      refine yOK.r1 (pc := pc + 1) (ls := ls) (r := r) (ybin_ok vrem_ok h.2 g) ?_ hl hs.tl.tl
      show (if ρ s2 + o2 = 0 then none else some (pc + 1, ls.map (yc ρ), (0, qrem (ρ s1 + o1) (ρ s2 + o2)) :: r.map (yc ρ), w, 142)) = _
      rw [if_neg (by omega)]
    · cases h
  · cases h
theorem ya_ldiv (hgh : ∀ x c, gh 1000 [x, c] = qand x c) (hbv : ∀ p j c, bv p j = some c → w0 p j = c) (hbb : ∀ p r, bb p = some r → ∀ j, yin r (w0 p j)) (hxs : ∀ j, yin y32 (xs j)) (hSp : ∀ w p j v, (yarr p = false → gf p j ≠ none ∨ ra p j ≠ []) → (yarr p = true → ga p ≠ none) → Sp w → Sp (qup w p j v)) (hsc : sc = bif lw then some (L, xs) else none) (h : yas gf ga ra bv bb lw k .ldiv pc ls st S N = true) (g : yG L xs w0 gf ga ra Sp gh ρ S w) (hl : ySc S.1 ls) (hs : ySc S.1 st) : yOK L xs w0 gf ga ra Sp gh ρ S N (qs1 sc k .ldiv len pc (ls.map (yc ρ)) (st.map (yc ρ)) w 142) := by
  have h0 : 0 < S.1 := by have := g.1.2.1; omega
  rw [yas_ldiv] at h
  split at h
  · rename_i s2 o2 s1 o1 r
    split at h
    · rename_i c9 d9 h1
      have k := yiv_ok g h1
      rw [Bool.and_eq_true, yle_i] at h
      refine yOK.r1 (pc := pc + 1) (ls := ls) (r := r) (ybin_ok vldiv_ok h.2 g) ?_ hl hs.tl.tl
      show (if ρ s2 + o2 = 0 then none else some (pc + 1, ls.map (yc ρ), (1, qldiv (ρ s1 + o1) (ρ s2 + o2)) :: r.map (yc ρ), w, 142)) = _
      rw [if_neg (by omega)]
    · cases h
  · cases h
theorem ya_ineg (hgh : ∀ x c, gh 1000 [x, c] = qand x c) (hbv : ∀ p j c, bv p j = some c → w0 p j = c) (hbb : ∀ p r, bb p = some r → ∀ j, yin r (w0 p j)) (hxs : ∀ j, yin y32 (xs j)) (hSp : ∀ w p j v, (yarr p = false → gf p j ≠ none ∨ ra p j ≠ []) → (yarr p = true → ga p ≠ none) → Sp w → Sp (qup w p j v)) (hsc : sc = bif lw then some (L, xs) else none) (h : yas gf ga ra bv bb lw k .ineg pc ls st S N = true) (g : yG L xs w0 gf ga ra Sp gh ρ S w) (hl : ySc S.1 ls) (hs : ySc S.1 st) : yOK L xs w0 gf ga ra Sp gh ρ S N (qs1 sc k .ineg len pc (ls.map (yc ρ)) (st.map (yc ρ)) w 142) := by
  have h0 : 0 < S.1 := by have := g.1.2.1; omega
  rw [yas_ineg] at h
  split at h
  · rename_i s o r
    exact yOK.r1 (pc := pc + 1) (ls := ls) (r := r) (yneg_ok h g) rfl hl hs.tl
  · cases h
theorem ya_l2i (hgh : ∀ x c, gh 1000 [x, c] = qand x c) (hbv : ∀ p j c, bv p j = some c → w0 p j = c) (hbb : ∀ p r, bb p = some r → ∀ j, yin r (w0 p j)) (hxs : ∀ j, yin y32 (xs j)) (hSp : ∀ w p j v, (yarr p = false → gf p j ≠ none ∨ ra p j ≠ []) → (yarr p = true → ga p ≠ none) → Sp w → Sp (qup w p j v)) (hsc : sc = bif lw then some (L, xs) else none) (h : yas gf ga ra bv bb lw k .l2i pc ls st S N = true) (g : yG L xs w0 gf ga ra Sp gh ρ S w) (hl : ySc S.1 ls) (hs : ySc S.1 st) : yOK L xs w0 gf ga ra Sp gh ρ S N (qs1 sc k .l2i len pc (ls.map (yc ρ)) (st.map (yc ρ)) w 142) := by
  have h0 : 0 < S.1 := by have := g.1.2.1; omega
  rw [yas_l2i] at h
  split at h
  · rename_i s o r
    exact yOK.r1 (pc := pc + 1) (ls := ls) (r := r) (yun_ok (fun x hx => wrp_id hx.1 (by have := hx.2; have : x ≤ (2147483647 : Int) := this; omega)) y32_w h g hs.hd) rfl hl hs.tl
  · cases h
theorem ya_i2b (hgh : ∀ x c, gh 1000 [x, c] = qand x c) (hbv : ∀ p j c, bv p j = some c → w0 p j = c) (hbb : ∀ p r, bb p = some r → ∀ j, yin r (w0 p j)) (hxs : ∀ j, yin y32 (xs j)) (hSp : ∀ w p j v, (yarr p = false → gf p j ≠ none ∨ ra p j ≠ []) → (yarr p = true → ga p ≠ none) → Sp w → Sp (qup w p j v)) (hsc : sc = bif lw then some (L, xs) else none) (h : yas gf ga ra bv bb lw k .i2b pc ls st S N = true) (g : yG L xs w0 gf ga ra Sp gh ρ S w) (hl : ySc S.1 ls) (hs : ySc S.1 st) : yOK L xs w0 gf ga ra Sp gh ρ S N (qs1 sc k .i2b len pc (ls.map (yc ρ)) (st.map (yc ρ)) w 142) := by
  have h0 : 0 < S.1 := by have := g.1.2.1; omega
  rw [yas_i2b] at h
  split at h
  · rename_i s o r
    exact yOK.r1 (pc := pc + 1) (ls := ls) (r := r) (yun_ok (fun x hx => by have h1 : (-128 : Int) ≤ x := hx.1; have h2 : x ≤ (127 : Int) := hx.2; unfold qi2b; omega) (fun x => ⟨by show (-128 : Int) ≤ qi2b x; unfold qi2b; omega, by show qi2b x ≤ (127 : Int); unfold qi2b; omega⟩) h g hs.hd) rfl hl hs.tl
  · cases h
theorem ya_i2c (hgh : ∀ x c, gh 1000 [x, c] = qand x c) (hbv : ∀ p j c, bv p j = some c → w0 p j = c) (hbb : ∀ p r, bb p = some r → ∀ j, yin r (w0 p j)) (hxs : ∀ j, yin y32 (xs j)) (hSp : ∀ w p j v, (yarr p = false → gf p j ≠ none ∨ ra p j ≠ []) → (yarr p = true → ga p ≠ none) → Sp w → Sp (qup w p j v)) (hsc : sc = bif lw then some (L, xs) else none) (h : yas gf ga ra bv bb lw k .i2c pc ls st S N = true) (g : yG L xs w0 gf ga ra Sp gh ρ S w) (hl : ySc S.1 ls) (hs : ySc S.1 st) : yOK L xs w0 gf ga ra Sp gh ρ S N (qs1 sc k .i2c len pc (ls.map (yc ρ)) (st.map (yc ρ)) w 142) := by
  have h0 : 0 < S.1 := by have := g.1.2.1; omega
  rw [yas_i2c] at h
  split at h
  · rename_i s o r
    exact yOK.r1 (pc := pc + 1) (ls := ls) (r := r) (yun_ok (f := fun x => x % 65536) (fun x hx => by have h1 : (0 : Int) ≤ x := hx.1; have h2 : x ≤ (65535 : Int) := hx.2; show x % 65536 = x; omega) (fun x => ⟨by show (0 : Int) ≤ x % 65536; omega, by show x % 65536 ≤ (65535 : Int); omega⟩) h g hs.hd) rfl hl hs.tl
  · cases h
theorem ya_i2l (hgh : ∀ x c, gh 1000 [x, c] = qand x c) (hbv : ∀ p j c, bv p j = some c → w0 p j = c) (hbb : ∀ p r, bb p = some r → ∀ j, yin r (w0 p j)) (hxs : ∀ j, yin y32 (xs j)) (hSp : ∀ w p j v, (yarr p = false → gf p j ≠ none ∨ ra p j ≠ []) → (yarr p = true → ga p ≠ none) → Sp w → Sp (qup w p j v)) (hsc : sc = bif lw then some (L, xs) else none) (h : yas gf ga ra bv bb lw k .i2l pc ls st S N = true) (g : yG L xs w0 gf ga ra Sp gh ρ S w) (hl : ySc S.1 ls) (hs : ySc S.1 st) : yOK L xs w0 gf ga ra Sp gh ρ S N (qs1 sc k .i2l len pc (ls.map (yc ρ)) (st.map (yc ρ)) w 142) := by
  have h0 : 0 < S.1 := by have := g.1.2.1; omega
  rw [yas_i2l] at h
  split at h
  · rename_i x r
    exact yOK.same (pc := pc + 1) (ls := ls) (st := (1, x) :: r) rfl hl (ySc.cons hs.hd hs.tl) g h
  · cases h
theorem ya_goto {off : Int} (hgh : ∀ x c, gh 1000 [x, c] = qand x c) (hbv : ∀ p j c, bv p j = some c → w0 p j = c) (hbb : ∀ p r, bb p = some r → ∀ j, yin r (w0 p j)) (hxs : ∀ j, yin y32 (xs j)) (hSp : ∀ w p j v, (yarr p = false → gf p j ≠ none ∨ ra p j ≠ []) → (yarr p = true → ga p ≠ none) → Sp w → Sp (qup w p j v)) (hsc : sc = bif lw then some (L, xs) else none) (h : yas gf ga ra bv bb lw k (.goto off) pc ls st S N = true) (g : yG L xs w0 gf ga ra Sp gh ρ S w) (hl : ySc S.1 ls) (hs : ySc S.1 st) : yOK L xs w0 gf ga ra Sp gh ρ S N (qs1 sc k (.goto off) len pc (ls.map (yc ρ)) (st.map (yc ρ)) w 142) := by
  have h0 : 0 < S.1 := by have := g.1.2.1; omega
  rw [yas_goto] at h
  exact yOK.same (pc := qtg pc off) (ls := ls) (st := st) rfl hl hs g h
theorem ya_ifCond {c : Jvm.ClassFile.Cond} {off : Int} (hgh : ∀ x c, gh 1000 [x, c] = qand x c) (hbv : ∀ p j c, bv p j = some c → w0 p j = c) (hbb : ∀ p r, bb p = some r → ∀ j, yin r (w0 p j)) (hxs : ∀ j, yin y32 (xs j)) (hSp : ∀ w p j v, (yarr p = false → gf p j ≠ none ∨ ra p j ≠ []) → (yarr p = true → ga p ≠ none) → Sp w → Sp (qup w p j v)) (hsc : sc = bif lw then some (L, xs) else none) (h : yas gf ga ra bv bb lw k (.ifCond c off) pc ls st S N = true) (g : yG L xs w0 gf ga ra Sp gh ρ S w) (hl : ySc S.1 ls) (hs : ySc S.1 st) : yOK L xs w0 gf ga ra Sp gh ρ S N (qs1 sc k (.ifCond c off) len pc (ls.map (yc ρ)) (st.map (yc ρ)) w 142) := by
  have h0 : 0 < S.1 := by have := g.1.2.1; omega
  rw [yas_ifCond] at h
  split at h
  · rename_i s o r
    rcases ybr_ok (A := some (qtg pc off, ls.map (yc ρ), r.map (yc ρ), w, 142)) (B := some (pc + 3, ls.map (yc ρ), r.map (yc ρ), w, 142)) h g hs.hd h0 with ⟨e, k⟩ | ⟨e, k⟩
    · refine yOK.r0 (pc := qtg pc off) (ls := ls) (st := r) k ?_ hl hs.tl
      rw [← e, g.1.1]; rfl
    · refine yOK.r0 (pc := pc + 3) (ls := ls) (st := r) k ?_ hl hs.tl
      rw [← e, g.1.1]; rfl
  · cases h
theorem ya_if_icmp {c : Jvm.ClassFile.Cond} {off : Int} (hgh : ∀ x c, gh 1000 [x, c] = qand x c) (hbv : ∀ p j c, bv p j = some c → w0 p j = c) (hbb : ∀ p r, bb p = some r → ∀ j, yin r (w0 p j)) (hxs : ∀ j, yin y32 (xs j)) (hSp : ∀ w p j v, (yarr p = false → gf p j ≠ none ∨ ra p j ≠ []) → (yarr p = true → ga p ≠ none) → Sp w → Sp (qup w p j v)) (hsc : sc = bif lw then some (L, xs) else none) (h : yas gf ga ra bv bb lw k (.if_icmp c off) pc ls st S N = true) (g : yG L xs w0 gf ga ra Sp gh ρ S w) (hl : ySc S.1 ls) (hs : ySc S.1 st) : yOK L xs w0 gf ga ra Sp gh ρ S N (qs1 sc k (.if_icmp c off) len pc (ls.map (yc ρ)) (st.map (yc ρ)) w 142) := by
  have h0 : 0 < S.1 := by have := g.1.2.1; omega
  rw [yas_if_icmp] at h
  split at h
  · rename_i s2 o2 s1 o1 r
    rcases ybr_ok (A := some (qtg pc off, ls.map (yc ρ), r.map (yc ρ), w, 142)) (B := some (pc + 3, ls.map (yc ρ), r.map (yc ρ), w, 142)) h g hs.tl.hd hs.hd with ⟨e, k⟩ | ⟨e, k⟩
    · exact yOK.r0 (pc := qtg pc off) (ls := ls) (st := r) k e hl hs.tl.tl
    · exact yOK.r0 (pc := pc + 3) (ls := ls) (st := r) k e hl hs.tl.tl
  · cases h
theorem ya_if_acmp {c : Jvm.ClassFile.ACond} {off : Int} (hgh : ∀ x c, gh 1000 [x, c] = qand x c) (hbv : ∀ p j c, bv p j = some c → w0 p j = c) (hbb : ∀ p r, bb p = some r → ∀ j, yin r (w0 p j)) (hxs : ∀ j, yin y32 (xs j)) (hSp : ∀ w p j v, (yarr p = false → gf p j ≠ none ∨ ra p j ≠ []) → (yarr p = true → ga p ≠ none) → Sp w → Sp (qup w p j v)) (hsc : sc = bif lw then some (L, xs) else none) (h : yas gf ga ra bv bb lw k (.if_acmp c off) pc ls st S N = true) (g : yG L xs w0 gf ga ra Sp gh ρ S w) (hl : ySc S.1 ls) (hs : ySc S.1 st) : yOK L xs w0 gf ga ra Sp gh ρ S N (qs1 sc k (.if_acmp c off) len pc (ls.map (yc ρ)) (st.map (yc ρ)) w 142) := by
  have h0 : 0 < S.1 := by have := g.1.2.1; omega
  rw [yas_if_acmp] at h
  split at h
  · rename_i s2 o2 s1 o1 r
    have k := yqe_ok h g hs.tl.hd hs.hd
    by_cases z : ρ s1 + o1 = ρ s2 + o2
    · exact yOK.r0 (pc := pc + 3) (ls := ls) (st := r) (k.1 z) (if_pos z) hl hs.tl.tl
    · exact yOK.r0 (pc := qtg pc off) (ls := ls) (st := r) (k.2 z) (if_neg z) hl hs.tl.tl
  · cases h
theorem ya_lcmp (hgh : ∀ x c, gh 1000 [x, c] = qand x c) (hbv : ∀ p j c, bv p j = some c → w0 p j = c) (hbb : ∀ p r, bb p = some r → ∀ j, yin r (w0 p j)) (hxs : ∀ j, yin y32 (xs j)) (hSp : ∀ w p j v, (yarr p = false → gf p j ≠ none ∨ ra p j ≠ []) → (yarr p = true → ga p ≠ none) → Sp w → Sp (qup w p j v)) (hsc : sc = bif lw then some (L, xs) else none) (h : yas gf ga ra bv bb lw k .lcmp pc ls st S N = true) (g : yG L xs w0 gf ga ra Sp gh ρ S w) (hl : ySc S.1 ls) (hs : ySc S.1 st) : yOK L xs w0 gf ga ra Sp gh ρ S N (qs1 sc k .lcmp len pc (ls.map (yc ρ)) (st.map (yc ρ)) w 142) := by
  have h0 : 0 < S.1 := by have := g.1.2.1; omega
  rw [yas_lcmp] at h
  split at h
  · rename_i s2 o2 s1 o1 r
    have kq := ylt_ok h g hs.tl.hd hs.hd
    have e : ∀ x : Int, qcmp (ρ s1 + o1) (ρ s2 + o2) = x → qs1 sc k .lcmp len pc (ls.map (yc ρ)) (((1, s2, o2) :: (1, s1, o1) :: r : List yV).map (yc ρ)) w 142 = some (pc + 1, ls.map (yc ρ), ((0, 0, x) :: r : List yV).map (yc ρ), w, 142) := fun x hx => by
      show some (pc + 1, ls.map (yc ρ), (0, qcmp (ρ s1 + o1) (ρ s2 + o2)) :: r.map (yc ρ), w, 142) = some (pc + 1, ls.map (yc ρ), (0, ρ 0 + x) :: r.map (yc ρ), w, 142)
      rw [hx, g.1.1, Int.zero_add]
    by_cases z : ρ s1 + o1 < ρ s2 + o2
    · exact yOK.r0 (pc := pc + 1) (ls := ls) (st := (0, 0, -1) :: r) (kq.1 z) (e _ (if_pos z)) hl (ySc.cons h0 hs.tl.tl)
    · obtain ⟨S1, e1, g1, h1⟩ := kq.2 z
      have k2 := yqe_ok h1 g1 (by rw [e1]; exact hs.tl.hd) (by rw [e1]; exact hs.hd)
      rw [e1] at k2
      by_cases z2 : ρ s1 + o1 = ρ s2 + o2
      · exact yOK.r0 (pc := pc + 1) (ls := ls) (st := (0, 0, 0) :: r) (k2.1 z2) (e _ ((if_neg z).trans (if_pos z2))) hl (ySc.cons h0 hs.tl.tl)
      · exact yOK.r0 (pc := pc + 1) (ls := ls) (st := (0, 0, 1) :: r) (k2.2 z2) (e _ ((if_neg z).trans (if_neg z2))) hl (ySc.cons h0 hs.tl.tl)
  · cases h
theorem ya_tableswitch {dflt : Int} {lo : Int} {z9 : Int} {offs : Array Int} (hgh : ∀ x c, gh 1000 [x, c] = qand x c) (hbv : ∀ p j c, bv p j = some c → w0 p j = c) (hbb : ∀ p r, bb p = some r → ∀ j, yin r (w0 p j)) (hxs : ∀ j, yin y32 (xs j)) (hSp : ∀ w p j v, (yarr p = false → gf p j ≠ none ∨ ra p j ≠ []) → (yarr p = true → ga p ≠ none) → Sp w → Sp (qup w p j v)) (hsc : sc = bif lw then some (L, xs) else none) (h : yas gf ga ra bv bb lw k (.tableswitch dflt lo z9 offs) pc ls st S N = true) (g : yG L xs w0 gf ga ra Sp gh ρ S w) (hl : ySc S.1 ls) (hs : ySc S.1 st) : yOK L xs w0 gf ga ra Sp gh ρ S N (qs1 sc k (.tableswitch dflt lo z9 offs) len pc (ls.map (yc ρ)) (st.map (yc ρ)) w 142) := by
  have h0 : 0 < S.1 := by have := g.1.2.1; omega
  rw [yas_tableswitch] at h
  split at h
  · rename_i s o r
    obtain ⟨t, k1, k2⟩ := ysw_ok (fq := fun t => some (t, ls.map (yc ρ), r.map (yc ρ), w, 142)) hs.hd _ _ S rfl h g
    exact yOK.r0 (pc := t) (ls := ls) (st := r) k2 k1 hl hs.tl
  · cases h
theorem ya_getfield {i : Nat} (hgh : ∀ x c, gh 1000 [x, c] = qand x c) (hbv : ∀ p j c, bv p j = some c → w0 p j = c) (hbb : ∀ p r, bb p = some r → ∀ j, yin r (w0 p j)) (hxs : ∀ j, yin y32 (xs j)) (hSp : ∀ w p j v, (yarr p = false → gf p j ≠ none ∨ ra p j ≠ []) → (yarr p = true → ga p ≠ none) → Sp w → Sp (qup w p j v)) (hsc : sc = bif lw then some (L, xs) else none) (h : yas gf ga ra bv bb lw k (.getfield i) pc ls st S N = true) (g : yG L xs w0 gf ga ra Sp gh ρ S w) (hl : ySc S.1 ls) (hs : ySc S.1 st) : yOK L xs w0 gf ga ra Sp gh ρ S N (qs1 sc k (.getfield i) len pc (ls.map (yc ρ)) (st.map (yc ρ)) w 142) := by
  have h0 : 0 < S.1 := by have := g.1.2.1; omega
  rw [yas_getfield] at h
  split at h
  · rename_i ci j kd fin9 p r hq
    split at h
    · rename_i c9 a9 b9 hpl
      rw [Bool.and_eq_true, Bool.and_eq_true, Bool.and_eq_true, yle_i, yle_i] at h
      obtain ⟨hc, hp1, hp2, h⟩ := h
      have ep : ρ 0 + p = p := by rw [g.1.1, Int.zero_add]
      have hy : yarr p.toNat = false := yarr_o hpl
      have e : ∀ kv v, qpush kd (w p.toNat j) (r.map (yc ρ)) = some ((kv, v) :: r.map (yc ρ)) → qs1 sc k (.getfield i) len pc (ls.map (yc ρ)) (((2, 0, p) :: r : List yV).map (yc ρ)) w 142 = some (pc + 3, ls.map (yc ρ), (kv, v) :: r.map (yc ρ), w, 142) := fun kv v hv => by
        rw [List.map_cons, show yc ρ (2, 0, p) = (2, p) from by show (2, ρ 0 + p) = _; rw [ep], qs1_getfield, hq]
        show (match qpl p.toNat with
          | (0, c, _, _) => if Nat.beq c ci then (match qpush kd (w p.toNat j) (r.map (yc ρ)) with
            | some r' => if 0 < p ∧ p ≤ ((142 : Nat) : Int) then some (pc + 3, ls.map (yc ρ), r', w, 142) else none
            | none => none) else none
          | _ => none) = _
        rw [hpl]
        show (if Nat.beq c9 ci = true then (match qpush kd (w p.toNat j) (r.map (yc ρ)) with
            | some r' => if 0 < p ∧ p ≤ ((142 : Nat) : Int) then some (pc + 3, ls.map (yc ρ), r', w, 142) else none
            | none => none) else none) = _
        rw [if_pos hc, hv]
        show (if 0 < p ∧ p ≤ ((142 : Nat) : Int) then some (pc + 3, ls.map (yc ρ), (kv, v) :: r.map (yc ρ), w, 142) else none) = _
        rw [if_pos ⟨by omega, by omega⟩]
      split at h
      · exact yOK.r1 (pc := pc + 3) (ls := ls) (r := r) (yget_ok hbv h g (by omega) hy) (e _ _ rfl) hl hs.tl
      · exact yOK.r1 (pc := pc + 3) (ls := ls) (r := r) (yget_ok hbv h g (by omega) hy) (e _ _ rfl) hl hs.tl
      · exact yOK.r1 (pc := pc + 3) (ls := ls) (r := r) (yref_ok hbv h g (by omega) hy) (e _ _ rfl) hl hs.tl
      · exact yOK.r1 (pc := pc + 3) (ls := ls) (r := r) (yget_ok hbv h g (by omega) hy) (e _ _ rfl) hl hs.tl
      · cases h
    · cases h
  · cases h
theorem ya_putfield {i : Nat} (hgh : ∀ x c, gh 1000 [x, c] = qand x c) (hbv : ∀ p j c, bv p j = some c → w0 p j = c) (hbb : ∀ p r, bb p = some r → ∀ j, yin r (w0 p j)) (hxs : ∀ j, yin y32 (xs j)) (hSp : ∀ w p j v, (yarr p = false → gf p j ≠ none ∨ ra p j ≠ []) → (yarr p = true → ga p ≠ none) → Sp w → Sp (qup w p j v)) (hsc : sc = bif lw then some (L, xs) else none) (h : yas gf ga ra bv bb lw k (.putfield i) pc ls st S N = true) (g : yG L xs w0 gf ga ra Sp gh ρ S w) (hl : ySc S.1 ls) (hs : ySc S.1 st) : yOK L xs w0 gf ga ra Sp gh ρ S N (qs1 sc k (.putfield i) len pc (ls.map (yc ρ)) (st.map (yc ρ)) w 142) := by
  have h0 : 0 < S.1 := by have := g.1.2.1; omega
  rw [yas_putfield] at h
  split at h
  · rename_i ci j kd fin t s o p r hq
    split at h
    · rename_i c9 a9 b9 hpl
      rw [Bool.and_eq_true, Bool.and_eq_true, Bool.and_eq_true, Bool.and_eq_true, yle_i, yle_i] at h
      obtain ⟨hc, hfin, hp1, hp2, h⟩ := h
      have ep : ρ 0 + p = p := by rw [g.1.1, Int.zero_add]
      have hy : yarr p.toNat = false := yarr_o hpl
      have ej : (ρ 0 + (j : Int)).toNat = j := yz_j g j
      have e : ∀ X, (match (generalizing := false) kd, t with
          | 0, 0 => if 0 < p ∧ p ≤ ((142 : Nat) : Int) then some (pc + 3, ls.map (yc ρ), r.map (yc ρ), qup w p.toNat j (ρ s + o), 142) else none
          | 2, 2 => if 0 < p ∧ p ≤ ((142 : Nat) : Int) then some (pc + 3, ls.map (yc ρ), r.map (yc ρ), qup w p.toNat j (ρ s + o), 142) else none
          | 3, 0 => if (0 < p ∧ p ≤ ((142 : Nat) : Int)) ∧ 0 ≤ ρ s + o ∧ ρ s + o ≤ 1 then some (pc + 3, ls.map (yc ρ), r.map (yc ρ), qup w p.toNat j (ρ s + o), 142) else none
          | _, _ => none : Option qC) = X → qs1 sc k (.putfield i) len pc (ls.map (yc ρ)) (((t, s, o) :: (2, 0, p) :: r : List yV).map (yc ρ)) w 142 = X := fun X hX => by
        rw [List.map_cons, List.map_cons, show yc ρ (2, 0, p) = (2, p) from by show (2, ρ 0 + p) = _; rw [ep], qs1_putfield, hq]
        show (match qpl p.toNat with
          | (0, c, _, _) => if (Nat.beq c ci && (Nat.beq fin 0 || qin k)) = true then (match (generalizing := false) kd, t with
            | 0, 0 => if 0 < p ∧ p ≤ ((142 : Nat) : Int) then some (pc + 3, ls.map (yc ρ), r.map (yc ρ), qup w p.toNat j (ρ s + o), 142) else none
            | 2, 2 => if 0 < p ∧ p ≤ ((142 : Nat) : Int) then some (pc + 3, ls.map (yc ρ), r.map (yc ρ), qup w p.toNat j (ρ s + o), 142) else none
            | 3, 0 => if (0 < p ∧ p ≤ ((142 : Nat) : Int)) ∧ 0 ≤ ρ s + o ∧ ρ s + o ≤ 1 then some (pc + 3, ls.map (yc ρ), r.map (yc ρ), qup w p.toNat j (ρ s + o), 142) else none
            | _, _ => none : Option qC) else none
          | _ => none) = _
        rw [hpl]
        show (if (Nat.beq c9 ci && (Nat.beq fin 0 || qin k)) = true then _ else none) = _
        rw [if_pos (by rw [hc, hfin]; rfl)]
        exact hX
      have hgo : ∀ (hI : yInv gf ga ra Sp (qup w p.toNat j (ρ s + o))), N (pc + 3) ls r (yput S p.toNat (j + 1) 0 (j : Int) s o) = true → yR0 L xs w0 gf ga ra Sp gh ρ S.1 (qup w p.toNat j (ρ s + o)) (fun S => N (pc + 3) ls r S) := fun hI hN => by
        have := yput_ok (c := j + 1) (a := 0) (b := (j : Int)) (s := s) (o := o) g h0 hs.hd (show 0 < p.toNat by omega) (.inr (by rw [ej])) (fun _ => by omega) (by rw [ej]; exact hI)
        rw [ej] at this
        exact ⟨yput S p.toNat (j + 1) 0 (j : Int) s o, rfl, this, hN⟩
      split at h
      · split at h
        · rename_i lo hi a b hg hi9 hr
          have k9 := yiv_ok g hi9
          rw [Bool.and_eq_true, Bool.and_eq_true, yle_i, yle_i] at h
          have hI : yInv gf ga ra Sp (qup w p.toNat j (ρ s + o)) := yInv_up hSp g.2.2.2.2.1 (fun _ => ⟨fun b9 hb9 => by rw [hg] at hb9; cases hb9; exact ⟨by show lo ≤ _; omega, by show _ ≤ hi; omega⟩, fun z => (z hr).elim, .inl (by rw [hg]; exact fun z => by cases z)⟩) (fun z => by rw [hy] at z; cases z)
          exact yOK.r0 (pc := pc + 3) (ls := ls) (st := r) (hgo hI h.2.2) (e _ (if_pos ⟨by omega, by omega⟩)) hl hs.tl.tl
        · cases h
      · split at h
        · rename_i lo hi a b hg hi9 hr
          have k9 := yiv_ok g hi9
          rw [Bool.and_eq_true, Bool.and_eq_true, Bool.and_eq_true, Bool.and_eq_true, yle_i, yle_i, yle_i, yle_i] at h
          have hI : yInv gf ga ra Sp (qup w p.toNat j (ρ s + o)) := yInv_up hSp g.2.2.2.2.1 (fun _ => ⟨fun b9 hb9 => by rw [hg] at hb9; cases hb9; exact ⟨by show lo ≤ _; omega, by show _ ≤ hi; omega⟩, fun z => (z hr).elim, .inl (by rw [hg]; exact fun z => by cases z)⟩) (fun z => by rw [hy] at z; cases z)
          exact yOK.r0 (pc := pc + 3) (ls := ls) (st := r) (hgo hI h.2.2.2.2) (e _ (if_pos ⟨⟨by omega, by omega⟩, by omega, by omega⟩)) hl hs.tl.tl
        · cases h
      · split at h
        · rename_i hg
          rw [Bool.and_eq_true, Bool.and_eq_true] at h
          have es := Nat.eq_of_beq_eq_true h.1
          obtain ⟨v9, hv1, hv2⟩ := List.any_eq_true.mp h.2.1
          have hv3 := yqi_i.mp hv2
          have ev : ρ s + o = v9 := by rw [es, g.1.1, Int.zero_add, hv3]
          have hI : yInv gf ga ra Sp (qup w p.toNat j (ρ s + o)) := yInv_up hSp g.2.2.2.2.1 (fun _ => ⟨fun b9 hb9 => by (rw [hg] at hb9; cases hb9), fun _ => by rw [ev]; exact hv1, .inr (fun z => by rw [z] at hv1; cases hv1)⟩) (fun z => by rw [hy] at z; cases z)
          exact yOK.r0 (pc := pc + 3) (ls := ls) (st := r) (hgo hI h.2.2) (e _ (if_pos ⟨by omega, by omega⟩)) hl hs.tl.tl
        · cases h
      · cases h
    · cases h
  · cases h
theorem ya_iaload (hgh : ∀ x c, gh 1000 [x, c] = qand x c) (hbv : ∀ p j c, bv p j = some c → w0 p j = c) (hbb : ∀ p r, bb p = some r → ∀ j, yin r (w0 p j)) (hxs : ∀ j, yin y32 (xs j)) (hSp : ∀ w p j v, (yarr p = false → gf p j ≠ none ∨ ra p j ≠ []) → (yarr p = true → ga p ≠ none) → Sp w → Sp (qup w p j v)) (hsc : sc = bif lw then some (L, xs) else none) (h : yas gf ga ra bv bb lw k .iaload pc ls st S N = true) (g : yG L xs w0 gf ga ra Sp gh ρ S w) (hl : ySc S.1 ls) (hs : ySc S.1 st) : yOK L xs w0 gf ga ra Sp gh ρ S N (qs1 sc k .iaload len pc (ls.map (yc ρ)) (st.map (yc ρ)) w 142) := by
  have h0 : 0 < S.1 := by have := g.1.2.1; omega
  rw [yas_iaload] at h
  split at h
  · rename_i s o p r
    split at h
    · rename_i m9 x9 hpl
      rw [Bool.and_eq_true, Bool.and_eq_true, yle_i, yle_i] at h
      obtain ⟨hp1, hp2, h⟩ := h
      have ep : ρ 0 + p = p := by rw [g.1.1, Int.zero_add]
      obtain ⟨hi, k9⟩ := yel_ok hbv hbb h g (show 0 < p.toNat by omega) (yarr_0 hpl) hs.hd
      refine yOK.r1 (pc := pc + 1) (ls := ls) (r := r) k9 ?_ hl hs.tl.tl
      rw [List.map_cons, List.map_cons, show yc ρ (2, 0, p) = (2, p) from by show (2, ρ 0 + p) = _; rw [ep], show yc ρ (0, s, o) = (0, ρ s + o) from rfl, qs1_iaload]
      show (match qpl p.toNat with
        | (1, 0, m, _) => if 0 ≤ ρ s + o ∧ ρ s + o < m then (if 0 < p ∧ p ≤ ((142 : Nat) : Int) then some (pc + 1, ls.map (yc ρ), (0, w p.toNat (ρ s + o).toNat) :: r.map (yc ρ), w, 142) else none) else none
        | _ => none) = _
      rw [hpl]
      show (if 0 ≤ ρ s + o ∧ ρ s + o < m9 then (if 0 < p ∧ p ≤ ((142 : Nat) : Int) then some (pc + 1, ls.map (yc ρ), (0, w p.toNat (ρ s + o).toNat) :: r.map (yc ρ), w, 142) else none) else none) = _
      rw [if_pos hi, if_pos ⟨by omega, by omega⟩]
    · cases h
  · rename_i s o r
    rw [Bool.and_eq_true] at h
    obtain ⟨hw, h⟩ := h
    obtain ⟨hi, k9⟩ := yscr_ok hxs h g hs.hd
    refine yOK.r1 (pc := pc + 1) (ls := ls) (r := r) k9 ?_ hl hs.tl.tl
    rw [List.map_cons, List.map_cons, show yc ρ (3, 0, 0) = (3, 0) from by show ((3, ρ 0 + 0) : qV) = _; rw [g.1.1]; rfl, show yc ρ (0, s, o) = (0, ρ s + o) from rfl, hsc, hw, qs1_iaload]
    show (if 0 ≤ ρ s + o ∧ ρ s + o < (L : Int) then some (pc + 1, ls.map (yc ρ), (0, xs (ρ s + o).toNat) :: r.map (yc ρ), w, 142) else none) = _
    rw [if_pos hi]
  · cases h
theorem ya_baload (hgh : ∀ x c, gh 1000 [x, c] = qand x c) (hbv : ∀ p j c, bv p j = some c → w0 p j = c) (hbb : ∀ p r, bb p = some r → ∀ j, yin r (w0 p j)) (hxs : ∀ j, yin y32 (xs j)) (hSp : ∀ w p j v, (yarr p = false → gf p j ≠ none ∨ ra p j ≠ []) → (yarr p = true → ga p ≠ none) → Sp w → Sp (qup w p j v)) (hsc : sc = bif lw then some (L, xs) else none) (h : yas gf ga ra bv bb lw k .baload pc ls st S N = true) (g : yG L xs w0 gf ga ra Sp gh ρ S w) (hl : ySc S.1 ls) (hs : ySc S.1 st) : yOK L xs w0 gf ga ra Sp gh ρ S N (qs1 sc k .baload len pc (ls.map (yc ρ)) (st.map (yc ρ)) w 142) := by
  have h0 : 0 < S.1 := by have := g.1.2.1; omega
  rw [yas_baload] at h
  split at h
  · rename_i s o p r
    split at h
    · rename_i m9 x9 hpl
      rw [Bool.and_eq_true, Bool.and_eq_true, yle_i, yle_i] at h
      obtain ⟨hp1, hp2, h⟩ := h
      have ep : ρ 0 + p = p := by rw [g.1.1, Int.zero_add]
      obtain ⟨hi, k9⟩ := yel_ok hbv hbb h g (show 0 < p.toNat by omega) (yarr_3 hpl) hs.hd
      refine yOK.r1 (pc := pc + 1) (ls := ls) (r := r) k9 ?_ hl hs.tl.tl
      rw [List.map_cons, List.map_cons, show yc ρ (2, 0, p) = (2, p) from by show (2, ρ 0 + p) = _; rw [ep], show yc ρ (0, s, o) = (0, ρ s + o) from rfl, qs1_baload]
      show (match qpl p.toNat with
        | (1, 3, m, _) => if 0 ≤ ρ s + o ∧ ρ s + o < m then (if 0 < p ∧ p ≤ ((142 : Nat) : Int) then some (pc + 1, ls.map (yc ρ), (0, w p.toNat (ρ s + o).toNat) :: r.map (yc ρ), w, 142) else none) else none
        | (1, 4, m, _) => if 0 ≤ ρ s + o ∧ ρ s + o < m then (if 0 < p ∧ p ≤ ((142 : Nat) : Int) then some (pc + 1, ls.map (yc ρ), (0, w p.toNat (ρ s + o).toNat) :: r.map (yc ρ), w, 142) else none) else none
        | _ => none) = _
      rw [hpl]
      show (if 0 ≤ ρ s + o ∧ ρ s + o < m9 then (if 0 < p ∧ p ≤ ((142 : Nat) : Int) then some (pc + 1, ls.map (yc ρ), (0, w p.toNat (ρ s + o).toNat) :: r.map (yc ρ), w, 142) else none) else none) = _
      rw [if_pos hi, if_pos ⟨by omega, by omega⟩]
    · rename_i m9 x9 hpl
      rw [Bool.and_eq_true, Bool.and_eq_true, yle_i, yle_i] at h
      obtain ⟨hp1, hp2, h⟩ := h
      have ep : ρ 0 + p = p := by rw [g.1.1, Int.zero_add]
      obtain ⟨hi, k9⟩ := yel_ok hbv hbb h g (show 0 < p.toNat by omega) (yarr_4 hpl) hs.hd
      refine yOK.r1 (pc := pc + 1) (ls := ls) (r := r) k9 ?_ hl hs.tl.tl
      rw [List.map_cons, List.map_cons, show yc ρ (2, 0, p) = (2, p) from by show (2, ρ 0 + p) = _; rw [ep], show yc ρ (0, s, o) = (0, ρ s + o) from rfl, qs1_baload]
      show (match qpl p.toNat with
        | (1, 3, m, _) => if 0 ≤ ρ s + o ∧ ρ s + o < m then (if 0 < p ∧ p ≤ ((142 : Nat) : Int) then some (pc + 1, ls.map (yc ρ), (0, w p.toNat (ρ s + o).toNat) :: r.map (yc ρ), w, 142) else none) else none
        | (1, 4, m, _) => if 0 ≤ ρ s + o ∧ ρ s + o < m then (if 0 < p ∧ p ≤ ((142 : Nat) : Int) then some (pc + 1, ls.map (yc ρ), (0, w p.toNat (ρ s + o).toNat) :: r.map (yc ρ), w, 142) else none) else none
        | _ => none) = _
      rw [hpl]
      show (if 0 ≤ ρ s + o ∧ ρ s + o < m9 then (if 0 < p ∧ p ≤ ((142 : Nat) : Int) then some (pc + 1, ls.map (yc ρ), (0, w p.toNat (ρ s + o).toNat) :: r.map (yc ρ), w, 142) else none) else none) = _
      rw [if_pos hi, if_pos ⟨by omega, by omega⟩]
    · cases h
  · cases h
theorem ya_laload (hgh : ∀ x c, gh 1000 [x, c] = qand x c) (hbv : ∀ p j c, bv p j = some c → w0 p j = c) (hbb : ∀ p r, bb p = some r → ∀ j, yin r (w0 p j)) (hxs : ∀ j, yin y32 (xs j)) (hSp : ∀ w p j v, (yarr p = false → gf p j ≠ none ∨ ra p j ≠ []) → (yarr p = true → ga p ≠ none) → Sp w → Sp (qup w p j v)) (hsc : sc = bif lw then some (L, xs) else none) (h : yas gf ga ra bv bb lw k .laload pc ls st S N = true) (g : yG L xs w0 gf ga ra Sp gh ρ S w) (hl : ySc S.1 ls) (hs : ySc S.1 st) : yOK L xs w0 gf ga ra Sp gh ρ S N (qs1 sc k .laload len pc (ls.map (yc ρ)) (st.map (yc ρ)) w 142) := by
  have h0 : 0 < S.1 := by have := g.1.2.1; omega
  rw [yas_laload] at h
  split at h
  · rename_i s o p r
    split at h
    · rename_i m9 x9 hpl
      rw [Bool.and_eq_true, Bool.and_eq_true, yle_i, yle_i] at h
      obtain ⟨hp1, hp2, h⟩ := h
      have ep : ρ 0 + p = p := by rw [g.1.1, Int.zero_add]
      obtain ⟨hi, k9⟩ := yel_ok hbv hbb h g (show 0 < p.toNat by omega) (yarr_1 hpl) hs.hd
      refine yOK.r1 (pc := pc + 1) (ls := ls) (r := r) k9 ?_ hl hs.tl.tl
      rw [List.map_cons, List.map_cons, show yc ρ (2, 0, p) = (2, p) from by show (2, ρ 0 + p) = _; rw [ep], show yc ρ (0, s, o) = (0, ρ s + o) from rfl, qs1_laload]
      show (match qpl p.toNat with
        | (1, 1, m, _) => if 0 ≤ ρ s + o ∧ ρ s + o < m then (if 0 < p ∧ p ≤ ((142 : Nat) : Int) then some (pc + 1, ls.map (yc ρ), (1, w p.toNat (ρ s + o).toNat) :: r.map (yc ρ), w, 142) else none) else none
        | _ => none) = _
      rw [hpl]
      show (if 0 ≤ ρ s + o ∧ ρ s + o < m9 then (if 0 < p ∧ p ≤ ((142 : Nat) : Int) then some (pc + 1, ls.map (yc ρ), (1, w p.toNat (ρ s + o).toNat) :: r.map (yc ρ), w, 142) else none) else none) = _
      rw [if_pos hi, if_pos ⟨by omega, by omega⟩]
    · cases h
  · cases h
theorem ya_aaload (hgh : ∀ x c, gh 1000 [x, c] = qand x c) (hbv : ∀ p j c, bv p j = some c → w0 p j = c) (hbb : ∀ p r, bb p = some r → ∀ j, yin r (w0 p j)) (hxs : ∀ j, yin y32 (xs j)) (hSp : ∀ w p j v, (yarr p = false → gf p j ≠ none ∨ ra p j ≠ []) → (yarr p = true → ga p ≠ none) → Sp w → Sp (qup w p j v)) (hsc : sc = bif lw then some (L, xs) else none) (h : yas gf ga ra bv bb lw k .aaload pc ls st S N = true) (g : yG L xs w0 gf ga ra Sp gh ρ S w) (hl : ySc S.1 ls) (hs : ySc S.1 st) : yOK L xs w0 gf ga ra Sp gh ρ S N (qs1 sc k .aaload len pc (ls.map (yc ρ)) (st.map (yc ρ)) w 142) := by
  have h0 : 0 < S.1 := by have := g.1.2.1; omega
  rw [yas_aaload] at h
  split at h
  · rename_i s o p r
    split at h
    · rename_i m9 x9 a b hpl hi9
      rw [Bool.and_eq_true, Bool.and_eq_true, Bool.and_eq_true, Bool.and_eq_true, yle_i, yle_i, yle_i, yle_i] at h
      obtain ⟨hp1, hp2, ha, hb, h⟩ := h
      have k := yiv_ok g hi9
      have ep : ρ 0 + p = p := by rw [g.1.1, Int.zero_add]
      obtain ⟨S1, e1, g1, h1⟩ := yall_ok h g hs.hd
      have k9 := yref_ok hbv h1 g1 (show 0 < p.toNat by omega) (yarr_r hpl)
      obtain ⟨ρ', S', v, q1, q2, q3, q4, q5, q6⟩ := k9
      rw [e1] at q1 q2
      refine ⟨pc + 1, ls, v :: r, S', ρ', w, ?_, q1, q2, hl.mono q1, ySc.cons q4 (hs.tl.tl.mono q1), q3, q6⟩
      rw [List.map_cons (f := yc ρ'), q5, ym_ag q2 hl, ym_ag q2 hs.tl.tl]
      rw [List.map_cons, List.map_cons, show yc ρ (2, 0, p) = (2, p) from by show (2, ρ 0 + p) = _; rw [ep], show yc ρ (0, s, o) = (0, ρ s + o) from rfl, qs1_aaload]
      show (match qpl p.toNat with
        | (1, 2, m, _) => if 0 ≤ ρ s + o ∧ ρ s + o < m then (if 0 < p ∧ p ≤ ((142 : Nat) : Int) then some (pc + 1, ls.map (yc ρ), (2, w p.toNat (ρ s + o).toNat) :: r.map (yc ρ), w, 142) else none) else none
        | _ => none) = _
      rw [hpl]
      show (if 0 ≤ ρ s + o ∧ ρ s + o < m9 then (if 0 < p ∧ p ≤ ((142 : Nat) : Int) then some (pc + 1, ls.map (yc ρ), (2, w p.toNat (ρ s + o).toNat) :: r.map (yc ρ), w, 142) else none) else none) = _
      rw [if_pos ⟨by omega, by omega⟩, if_pos ⟨by omega, by omega⟩]
    · cases h
  · cases h
theorem ya_iastore (hgh : ∀ x c, gh 1000 [x, c] = qand x c) (hbv : ∀ p j c, bv p j = some c → w0 p j = c) (hbb : ∀ p r, bb p = some r → ∀ j, yin r (w0 p j)) (hxs : ∀ j, yin y32 (xs j)) (hSp : ∀ w p j v, (yarr p = false → gf p j ≠ none ∨ ra p j ≠ []) → (yarr p = true → ga p ≠ none) → Sp w → Sp (qup w p j v)) (hsc : sc = bif lw then some (L, xs) else none) (h : yas gf ga ra bv bb lw k .iastore pc ls st S N = true) (g : yG L xs w0 gf ga ra Sp gh ρ S w) (hl : ySc S.1 ls) (hs : ySc S.1 st) : yOK L xs w0 gf ga ra Sp gh ρ S N (qs1 sc k .iastore len pc (ls.map (yc ρ)) (st.map (yc ρ)) w 142) := by
  have h0 : 0 < S.1 := by have := g.1.2.1; omega
  rw [yas_iastore] at h
  split at h
  · rename_i vs vo s o p r
    split at h
    · rename_i m9 x9 hpl
      rw [Bool.and_eq_true, Bool.and_eq_true, yle_i, yle_i] at h
      obtain ⟨hp1, hp2, h⟩ := h
      have ep : ρ 0 + p = p := by rw [g.1.1, Int.zero_add]
      obtain ⟨hi, hv, k9⟩ := yel3_ok hSp h g (show 0 < p.toNat by omega) (yarr_0 hpl) hs.tl.hd hs.hd
      refine yOK.r0 (pc := pc + 1) (ls := ls) (st := r) k9 ?_ hl hs.tl.tl.tl
      rw [List.map_cons, List.map_cons, List.map_cons, show yc ρ (2, 0, p) = (2, p) from by show (2, ρ 0 + p) = _; rw [ep], show yc ρ (0, s, o) = (0, ρ s + o) from rfl, show yc ρ (0, vs, vo) = (0, ρ vs + vo) from rfl, qs1_iastore]
      show (match qpl p.toNat with
        | (1, 0, m, _) => if 0 ≤ ρ s + o ∧ ρ s + o < m then (if 0 < p ∧ p ≤ ((142 : Nat) : Int) then some (pc + 1, ls.map (yc ρ), r.map (yc ρ), qup w p.toNat (ρ s + o).toNat (ρ vs + vo), 142) else none) else none
        | _ => none) = _
      rw [hpl]
      show (if 0 ≤ ρ s + o ∧ ρ s + o < m9 then (if 0 < p ∧ p ≤ ((142 : Nat) : Int) then some (pc + 1, ls.map (yc ρ), r.map (yc ρ), qup w p.toNat (ρ s + o).toNat (ρ vs + vo), 142) else none) else none) = _
      rw [if_pos hi, if_pos ⟨by omega, by omega⟩]
    · cases h
  · cases h
theorem ya_bastore (hgh : ∀ x c, gh 1000 [x, c] = qand x c) (hbv : ∀ p j c, bv p j = some c → w0 p j = c) (hbb : ∀ p r, bb p = some r → ∀ j, yin r (w0 p j)) (hxs : ∀ j, yin y32 (xs j)) (hSp : ∀ w p j v, (yarr p = false → gf p j ≠ none ∨ ra p j ≠ []) → (yarr p = true → ga p ≠ none) → Sp w → Sp (qup w p j v)) (hsc : sc = bif lw then some (L, xs) else none) (h : yas gf ga ra bv bb lw k .bastore pc ls st S N = true) (g : yG L xs w0 gf ga ra Sp gh ρ S w) (hl : ySc S.1 ls) (hs : ySc S.1 st) : yOK L xs w0 gf ga ra Sp gh ρ S N (qs1 sc k .bastore len pc (ls.map (yc ρ)) (st.map (yc ρ)) w 142) := by
  have h0 : 0 < S.1 := by have := g.1.2.1; omega
  rw [yas_bastore] at h
  split at h
  · rename_i vs vo s o p r
    split at h
    · rename_i m9 x9 hpl
      rw [Bool.and_eq_true, Bool.and_eq_true, yle_i, yle_i] at h
      obtain ⟨hp1, hp2, h⟩ := h
      have ep : ρ 0 + p = p := by rw [g.1.1, Int.zero_add]
      obtain ⟨hi, hv, k9⟩ := yel3_ok hSp h g (show 0 < p.toNat by omega) (yarr_3 hpl) hs.tl.hd hs.hd
      refine yOK.r0 (pc := pc + 1) (ls := ls) (st := r) k9 ?_ hl hs.tl.tl.tl
      rw [List.map_cons, List.map_cons, List.map_cons, show yc ρ (2, 0, p) = (2, p) from by show (2, ρ 0 + p) = _; rw [ep], show yc ρ (0, s, o) = (0, ρ s + o) from rfl, show yc ρ (0, vs, vo) = (0, ρ vs + vo) from rfl, qs1_bastore]
      show (match qpl p.toNat with
        | (1, 3, m, _) => if (0 ≤ ρ s + o ∧ ρ s + o < m) ∧ 0 ≤ ρ vs + vo ∧ ρ vs + vo ≤ 1 then (if 0 < p ∧ p ≤ ((142 : Nat) : Int) then some (pc + 1, ls.map (yc ρ), r.map (yc ρ), qup w p.toNat (ρ s + o).toNat (ρ vs + vo), 142) else none) else none
        | (1, 4, m, _) => if (0 ≤ ρ s + o ∧ ρ s + o < m) ∧ -128 ≤ ρ vs + vo ∧ ρ vs + vo ≤ 127 then (if 0 < p ∧ p ≤ ((142 : Nat) : Int) then some (pc + 1, ls.map (yc ρ), r.map (yc ρ), qup w p.toNat (ρ s + o).toNat (ρ vs + vo), 142) else none) else none
        | _ => none) = _
      rw [hpl]
      show (if (0 ≤ ρ s + o ∧ ρ s + o < m9) ∧ 0 ≤ ρ vs + vo ∧ ρ vs + vo ≤ 1 then (if 0 < p ∧ p ≤ ((142 : Nat) : Int) then some (pc + 1, ls.map (yc ρ), r.map (yc ρ), qup w p.toNat (ρ s + o).toNat (ρ vs + vo), 142) else none) else none) = _
      rw [if_pos ⟨hi, hv.1, hv.2⟩, if_pos ⟨by omega, by omega⟩]
    · rename_i m9 x9 hpl
      rw [Bool.and_eq_true, Bool.and_eq_true, yle_i, yle_i] at h
      obtain ⟨hp1, hp2, h⟩ := h
      have ep : ρ 0 + p = p := by rw [g.1.1, Int.zero_add]
      obtain ⟨hi, hv, k9⟩ := yel3_ok hSp h g (show 0 < p.toNat by omega) (yarr_4 hpl) hs.tl.hd hs.hd
      refine yOK.r0 (pc := pc + 1) (ls := ls) (st := r) k9 ?_ hl hs.tl.tl.tl
      rw [List.map_cons, List.map_cons, List.map_cons, show yc ρ (2, 0, p) = (2, p) from by show (2, ρ 0 + p) = _; rw [ep], show yc ρ (0, s, o) = (0, ρ s + o) from rfl, show yc ρ (0, vs, vo) = (0, ρ vs + vo) from rfl, qs1_bastore]
      show (match qpl p.toNat with
        | (1, 3, m, _) => if (0 ≤ ρ s + o ∧ ρ s + o < m) ∧ 0 ≤ ρ vs + vo ∧ ρ vs + vo ≤ 1 then (if 0 < p ∧ p ≤ ((142 : Nat) : Int) then some (pc + 1, ls.map (yc ρ), r.map (yc ρ), qup w p.toNat (ρ s + o).toNat (ρ vs + vo), 142) else none) else none
        | (1, 4, m, _) => if (0 ≤ ρ s + o ∧ ρ s + o < m) ∧ -128 ≤ ρ vs + vo ∧ ρ vs + vo ≤ 127 then (if 0 < p ∧ p ≤ ((142 : Nat) : Int) then some (pc + 1, ls.map (yc ρ), r.map (yc ρ), qup w p.toNat (ρ s + o).toNat (ρ vs + vo), 142) else none) else none
        | _ => none) = _
      rw [hpl]
      show (if (0 ≤ ρ s + o ∧ ρ s + o < m9) ∧ -128 ≤ ρ vs + vo ∧ ρ vs + vo ≤ 127 then (if 0 < p ∧ p ≤ ((142 : Nat) : Int) then some (pc + 1, ls.map (yc ρ), r.map (yc ρ), qup w p.toNat (ρ s + o).toNat (ρ vs + vo), 142) else none) else none) = _
      rw [if_pos ⟨hi, hv.1, hv.2⟩, if_pos ⟨by omega, by omega⟩]
    · cases h
  · cases h
theorem ya_lastore (hgh : ∀ x c, gh 1000 [x, c] = qand x c) (hbv : ∀ p j c, bv p j = some c → w0 p j = c) (hbb : ∀ p r, bb p = some r → ∀ j, yin r (w0 p j)) (hxs : ∀ j, yin y32 (xs j)) (hSp : ∀ w p j v, (yarr p = false → gf p j ≠ none ∨ ra p j ≠ []) → (yarr p = true → ga p ≠ none) → Sp w → Sp (qup w p j v)) (hsc : sc = bif lw then some (L, xs) else none) (h : yas gf ga ra bv bb lw k .lastore pc ls st S N = true) (g : yG L xs w0 gf ga ra Sp gh ρ S w) (hl : ySc S.1 ls) (hs : ySc S.1 st) : yOK L xs w0 gf ga ra Sp gh ρ S N (qs1 sc k .lastore len pc (ls.map (yc ρ)) (st.map (yc ρ)) w 142) := by
  have h0 : 0 < S.1 := by have := g.1.2.1; omega
  rw [yas_lastore] at h
  split at h
  · rename_i vs vo s o p r
    split at h
    · rename_i m9 x9 hpl
      rw [Bool.and_eq_true, Bool.and_eq_true, yle_i, yle_i] at h
      obtain ⟨hp1, hp2, h⟩ := h
      have ep : ρ 0 + p = p := by rw [g.1.1, Int.zero_add]
      obtain ⟨hi, hv, k9⟩ := yel3_ok hSp h g (show 0 < p.toNat by omega) (yarr_1 hpl) hs.tl.hd hs.hd
      refine yOK.r0 (pc := pc + 1) (ls := ls) (st := r) k9 ?_ hl hs.tl.tl.tl
      rw [List.map_cons, List.map_cons, List.map_cons, show yc ρ (2, 0, p) = (2, p) from by show (2, ρ 0 + p) = _; rw [ep], show yc ρ (0, s, o) = (0, ρ s + o) from rfl, show yc ρ (1, vs, vo) = (1, ρ vs + vo) from rfl, qs1_lastore]
      show (match qpl p.toNat with
        | (1, 1, m, _) => if 0 ≤ ρ s + o ∧ ρ s + o < m then (if 0 < p ∧ p ≤ ((142 : Nat) : Int) then some (pc + 1, ls.map (yc ρ), r.map (yc ρ), qup w p.toNat (ρ s + o).toNat (ρ vs + vo), 142) else none) else none
        | _ => none) = _
      rw [hpl]
      show (if 0 ≤ ρ s + o ∧ ρ s + o < m9 then (if 0 < p ∧ p ≤ ((142 : Nat) : Int) then some (pc + 1, ls.map (yc ρ), r.map (yc ρ), qup w p.toNat (ρ s + o).toNat (ρ vs + vo), 142) else none) else none) = _
      rw [if_pos hi, if_pos ⟨by omega, by omega⟩]
    · cases h
  · cases h
theorem ya_aastore (hgh : ∀ x c, gh 1000 [x, c] = qand x c) (hbv : ∀ p j c, bv p j = some c → w0 p j = c) (hbb : ∀ p r, bb p = some r → ∀ j, yin r (w0 p j)) (hxs : ∀ j, yin y32 (xs j)) (hSp : ∀ w p j v, (yarr p = false → gf p j ≠ none ∨ ra p j ≠ []) → (yarr p = true → ga p ≠ none) → Sp w → Sp (qup w p j v)) (hsc : sc = bif lw then some (L, xs) else none) (h : yas gf ga ra bv bb lw k .aastore pc ls st S N = true) (g : yG L xs w0 gf ga ra Sp gh ρ S w) (hl : ySc S.1 ls) (hs : ySc S.1 st) : yOK L xs w0 gf ga ra Sp gh ρ S N (qs1 sc k .aastore len pc (ls.map (yc ρ)) (st.map (yc ρ)) w 142) := by
  have h0 : 0 < S.1 := by have := g.1.2.1; omega
  rw [yas_aastore] at h
  split at h
  · rename_i v s o p r
    split at h
    · rename_i m9 c9 ci x1 x2 a b hpl hpv hi9
      rw [Bool.and_eq_true, Bool.and_eq_true, Bool.and_eq_true, Bool.and_eq_true, Bool.and_eq_true, Bool.and_eq_true, Bool.and_eq_true, yle_i, yle_i, yle_i, yle_i, yle_i, yle_i] at h
      obtain ⟨hc, hp1, hp2, hv1, hv2, ha, hb, h⟩ := h
      have k := yiv_ok g hi9
      have ep : ρ 0 + p = p := by rw [g.1.1, Int.zero_add]
      have ev : ρ 0 + v = v := by rw [g.1.1, Int.zero_add]
      obtain ⟨S1, e1, g1, h1⟩ := yall_ok h g hs.tl.hd
      split at h1
      · rename_i hg
        rw [Bool.and_eq_true] at h1
        obtain ⟨v9, u1, u2⟩ := List.any_eq_true.mp h1.1
        have u3 := yqi_i.mp u2
        have hy : yarr p.toNat = false := yarr_r hpl
        have hI : yInv gf ga ra Sp (qup w p.toNat (ρ s + o).toNat v) := yInv_up hSp g.2.2.2.2.1 (fun _ => ⟨fun b9 hb9 => by (rw [hg] at hb9; cases hb9), fun _ => by rw [u3]; exact u1, .inr (fun z => by rw [z] at u1; cases u1)⟩) (fun z => by rw [hy] at z; cases z)
        have gp := yput_ok (c := (ρ s + o).toNat + 1) (a := 0) (b := ρ s + o) (s := 0) (o := v) g1 (by omega) (by omega) (show 0 < p.toNat by omega) (.inr (by rw [g.1.1, Int.zero_add])) (fun _ => by omega) (by rw [g.1.1, Int.zero_add, Int.zero_add]; exact hI)
        rw [g.1.1, Int.zero_add, Int.zero_add] at gp
        refine yOK.r0 (pc := pc + 1) (ls := ls) (st := r) ⟨yput S1 p.toNat ((ρ s + o).toNat + 1) 0 (ρ s + o) 0 v, e1, gp, h1.2⟩ ?_ hl hs.tl.tl.tl
        rw [List.map_cons, List.map_cons, List.map_cons, show yc ρ (2, 0, p) = (2, p) from by show (2, ρ 0 + p) = _; rw [ep], show yc ρ (0, s, o) = (0, ρ s + o) from rfl, show yc ρ (2, 0, v) = (2, v) from by show (2, ρ 0 + v) = _; rw [ev], qs1_aastore]
        show (match qpl p.toNat, qpl v.toNat with
          | (1, 2, m, c), (0, ci, _, _) => if Nat.beq c ci = true then (if 0 ≤ ρ s + o ∧ ρ s + o < m then (if (0 < p ∧ p ≤ ((142 : Nat) : Int)) ∧ 0 < v ∧ v ≤ ((142 : Nat) : Int) then some (pc + 1, ls.map (yc ρ), r.map (yc ρ), qup w p.toNat (ρ s + o).toNat v, 142) else none) else none) else none
          | _, _ => none) = _
        rw [hpl, hpv]
        show (if Nat.beq c9 ci = true then (if 0 ≤ ρ s + o ∧ ρ s + o < m9 then (if (0 < p ∧ p ≤ ((142 : Nat) : Int)) ∧ 0 < v ∧ v ≤ ((142 : Nat) : Int) then some (pc + 1, ls.map (yc ρ), r.map (yc ρ), qup w p.toNat (ρ s + o).toNat v, 142) else none) else none) else none) = _
        rw [if_pos hc, if_pos ⟨by omega, by omega⟩, if_pos ⟨⟨by omega, by omega⟩, by omega, by omega⟩]
      · cases h1
    · cases h
  · cases h
theorem ya_arraylength (hgh : ∀ x c, gh 1000 [x, c] = qand x c) (hbv : ∀ p j c, bv p j = some c → w0 p j = c) (hbb : ∀ p r, bb p = some r → ∀ j, yin r (w0 p j)) (hxs : ∀ j, yin y32 (xs j)) (hSp : ∀ w p j v, (yarr p = false → gf p j ≠ none ∨ ra p j ≠ []) → (yarr p = true → ga p ≠ none) → Sp w → Sp (qup w p j v)) (hsc : sc = bif lw then some (L, xs) else none) (h : yas gf ga ra bv bb lw k .arraylength pc ls st S N = true) (g : yG L xs w0 gf ga ra Sp gh ρ S w) (hl : ySc S.1 ls) (hs : ySc S.1 st) : yOK L xs w0 gf ga ra Sp gh ρ S N (qs1 sc k .arraylength len pc (ls.map (yc ρ)) (st.map (yc ρ)) w 142) := by
  have h0 : 0 < S.1 := by have := g.1.2.1; omega
  rw [yas_arraylength] at h
  split at h
  · rename_i p r
    split at h
    · rename_i e9 m9 x9 hpl
      rw [Bool.and_eq_true, Bool.and_eq_true, yle_i, yle_i] at h
      obtain ⟨hp1, hp2, h⟩ := h
      have ep : ρ 0 + p = p := by rw [g.1.1, Int.zero_add]
      refine yOK.same (pc := pc + 1) (ls := ls) (st := (0, 0, (m9 : Int)) :: r) ?_ hl (ySc.cons h0 hs.tl) g h
      rw [List.map_cons, List.map_cons, show yc ρ (2, 0, p) = (2, p) from by show (2, ρ 0 + p) = _; rw [ep], show yc ρ (0, 0, (m9 : Int)) = (0, (m9 : Int)) from by show (0, ρ 0 + (m9 : Int)) = _; rw [g.1.1, Int.zero_add], qs1_arraylength]
      show (match qpl p.toNat with
        | (1, _, m, _) => if 0 < p ∧ p ≤ ((142 : Nat) : Int) then some (pc + 1, ls.map (yc ρ), (0, (m : Int)) :: r.map (yc ρ), w, 142) else none
        | _ => none) = _
      rw [hpl]
      show (if 0 < p ∧ p ≤ ((142 : Nat) : Int) then some (pc + 1, ls.map (yc ρ), (0, (m9 : Int)) :: r.map (yc ρ), w, 142) else none) = _
      rw [if_pos ⟨by omega, by omega⟩]
    · cases h
  · rename_i r
    rw [Bool.and_eq_true] at h
    obtain ⟨hw, h⟩ := h
    refine yOK.same (pc := pc + 1) (ls := ls) (st := (0, 1, 0) :: r) ?_ hl (ySc.cons g.1.2.1 hs.tl) g h
    rw [List.map_cons, List.map_cons, show yc ρ (3, 0, 0) = (3, 0) from by show ((3, ρ 0 + 0) : qV) = _; rw [g.1.1]; rfl, show yc ρ (0, 1, 0) = (0, (L : Int)) from by show ((0, ρ 1 + 0) : qV) = _; rw [g.1.2.2, Int.add_zero], hsc, hw, qs1_arraylength]
    rfl
  · cases h
theorem yas_ok {ins : Instr} (hgh : ∀ x c, gh 1000 [x, c] = qand x c) (hbv : ∀ p j c, bv p j = some c → w0 p j = c) (hbb : ∀ p r, bb p = some r → ∀ j, yin r (w0 p j)) (hxs : ∀ j, yin y32 (xs j)) (hSp : ∀ w p j v, (yarr p = false → gf p j ≠ none ∨ ra p j ≠ []) → (yarr p = true → ga p ≠ none) → Sp w → Sp (qup w p j v)) (hsc : sc = bif lw then some (L, xs) else none) (h : yas gf ga ra bv bb lw k ins pc ls st S N = true) (g : yG L xs w0 gf ga ra Sp gh ρ S w) (hl : ySc S.1 ls) (hs : ySc S.1 st) : yOK L xs w0 gf ga ra Sp gh ρ S N (qs1 sc k ins len pc (ls.map (yc ρ)) (st.map (yc ρ)) w 142) := by
  cases ins
  case iload => exact ya_iload hgh hbv hbb hxs hSp hsc h g hl hs
  case iload_n => exact ya_iload_n hgh hbv hbb hxs hSp hsc h g hl hs
  case lload => exact ya_lload hgh hbv hbb hxs hSp hsc h g hl hs
  case lload_n => exact ya_lload_n hgh hbv hbb hxs hSp hsc h g hl hs
  case aload => exact ya_aload hgh hbv hbb hxs hSp hsc h g hl hs
  case aload_n => exact ya_aload_n hgh hbv hbb hxs hSp hsc h g hl hs
  case istore => exact ya_istore hgh hbv hbb hxs hSp hsc h g hl hs
  case istore_n => exact ya_istore_n hgh hbv hbb hxs hSp hsc h g hl hs
  case lstore => exact ya_lstore hgh hbv hbb hxs hSp hsc h g hl hs
  case lstore_n => exact ya_lstore_n hgh hbv hbb hxs hSp hsc h g hl hs
  case astore_n => exact ya_astore_n hgh hbv hbb hxs hSp hsc h g hl hs
  case iinc => exact ya_iinc hgh hbv hbb hxs hSp hsc h g hl hs
  case iconst => exact ya_iconst hgh hbv hbb hxs hSp hsc h g hl hs
  case bipush => exact ya_bipush hgh hbv hbb hxs hSp hsc h g hl hs
  case sipush => exact ya_sipush hgh hbv hbb hxs hSp hsc h g hl hs
  case lconst => exact ya_lconst hgh hbv hbb hxs hSp hsc h g hl hs
  case aconst_null => exact ya_aconst_null hgh hbv hbb hxs hSp hsc h g hl hs
  case ldc => exact ya_ldc hgh hbv hbb hxs hSp hsc h g hl hs
  case ldc_w => exact ya_ldc_w hgh hbv hbb hxs hSp hsc h g hl hs
  case ldc2_w => exact ya_ldc2_w hgh hbv hbb hxs hSp hsc h g hl hs
  case dup => exact ya_dup hgh hbv hbb hxs hSp hsc h g hl hs
  case dup2 => exact ya_dup2 hgh hbv hbb hxs hSp hsc h g hl hs
  case pop => exact ya_pop hgh hbv hbb hxs hSp hsc h g hl hs
  case iadd => exact ya_iadd hgh hbv hbb hxs hSp hsc h g hl hs
  case isub => exact ya_isub hgh hbv hbb hxs hSp hsc h g hl hs
  case imul => exact ya_imul hgh hbv hbb hxs hSp hsc h g hl hs
  case idiv => exact ya_idiv hgh hbv hbb hxs hSp hsc h g hl hs
  case irem => exact ya_irem hgh hbv hbb hxs hSp hsc h g hl hs
  case ineg => exact ya_ineg hgh hbv hbb hxs hSp hsc h g hl hs
  case iand => exact ya_iand hgh hbv hbb hxs hSp hsc h g hl hs
  case ior => exact ya_ior hgh hbv hbb hxs hSp hsc h g hl hs
  case ixor => exact ya_ixor hgh hbv hbb hxs hSp hsc h g hl hs
  case ishl => exact ya_ishl hgh hbv hbb hxs hSp hsc h g hl hs
  case ishr => exact ya_ishr hgh hbv hbb hxs hSp hsc h g hl hs
  case iushr => exact ya_iushr hgh hbv hbb hxs hSp hsc h g hl hs
  case ladd => exact ya_ladd hgh hbv hbb hxs hSp hsc h g hl hs
  case lsub => exact ya_lsub hgh hbv hbb hxs hSp hsc h g hl hs
  case lmul => exact ya_lmul hgh hbv hbb hxs hSp hsc h g hl hs
  case ldiv => exact ya_ldiv hgh hbv hbb hxs hSp hsc h g hl hs
  case land => exact ya_land hgh hbv hbb hxs hSp hsc h g hl hs
  case lor => exact ya_lor hgh hbv hbb hxs hSp hsc h g hl hs
  case lshl => exact ya_lshl hgh hbv hbb hxs hSp hsc h g hl hs
  case lushr => exact ya_lushr hgh hbv hbb hxs hSp hsc h g hl hs
  case lcmp => exact ya_lcmp hgh hbv hbb hxs hSp hsc h g hl hs
  case i2l => exact ya_i2l hgh hbv hbb hxs hSp hsc h g hl hs
  case l2i => exact ya_l2i hgh hbv hbb hxs hSp hsc h g hl hs
  case i2b => exact ya_i2b hgh hbv hbb hxs hSp hsc h g hl hs
  case i2c => exact ya_i2c hgh hbv hbb hxs hSp hsc h g hl hs
  case goto => exact ya_goto hgh hbv hbb hxs hSp hsc h g hl hs
  case ifCond => exact ya_ifCond hgh hbv hbb hxs hSp hsc h g hl hs
  case if_icmp => exact ya_if_icmp hgh hbv hbb hxs hSp hsc h g hl hs
  case if_acmp => exact ya_if_acmp hgh hbv hbb hxs hSp hsc h g hl hs
  case tableswitch => exact ya_tableswitch hgh hbv hbb hxs hSp hsc h g hl hs
  case getfield => exact ya_getfield hgh hbv hbb hxs hSp hsc h g hl hs
  case putfield => exact ya_putfield hgh hbv hbb hxs hSp hsc h g hl hs
  case iaload => exact ya_iaload hgh hbv hbb hxs hSp hsc h g hl hs
  case baload => exact ya_baload hgh hbv hbb hxs hSp hsc h g hl hs
  case laload => exact ya_laload hgh hbv hbb hxs hSp hsc h g hl hs
  case aaload => exact ya_aaload hgh hbv hbb hxs hSp hsc h g hl hs
  case iastore => exact ya_iastore hgh hbv hbb hxs hSp hsc h g hl hs
  case bastore => exact ya_bastore hgh hbv hbb hxs hSp hsc h g hl hs
  case lastore => exact ya_lastore hgh hbv hbb hxs hSp hsc h g hl hs
  case aastore => exact ya_aastore hgh hbv hbb hxs hSp hsc h g hl hs
  case arraylength => exact ya_arraylength hgh hbv hbb hxs hSp hsc h g hl hs
  all_goals exact absurd (show false = true from h) (by decide)
end SymAs
end
section
/-! the run over symbols: calls, loops -/
noncomputable abbrev yK : Type := yS → yV → Bool
noncomputable abbrev yHv : Type := List (Option (Nat × Int × Int))
/-- a loop that is open: head, symbols before it, what varies, locals, stack, facts, cells, measure -/
noncomputable abbrev yLC : Type := Nat × Nat × yHv × List yV × List yV × yH × yM × List (Nat × Int)
/-- a contract: depth, arguments, result, cells that it may change (a slot j of p: 1000 (j + 1) + p), cells that must be as at first, numbers that must be, numbers that are then, the function that the result is (0: none) and its arguments' places -/
noncomputable abbrev yC : Type := Nat × List (Nat × Int × Int) × (Nat × Int × Int) × List Nat × List Nat × List (Nat × Nat × Int) × List (Nat × Nat × Int) × Nat × List Nat
/-- a loop's note: what varies, cells that may change, measure -/
noncomputable abbrev yA : Type := yHv × List Nat × List (Nat × Int)
noncomputable abbrev yXt : Type := List yLC → Nat → Nat → Nat → List yV → List yV → yS → yK → Bool
noncomputable def ytk : Nat → List yV → List yV → List yV
  | 0, _, acc => acc
  | m + 1, a :: l, acc => ytk m l (a :: acc)
  | _ + 1, [], acc => acc
noncomputable def ydr : Nat → List yV → List yV
  | 0, l => l
  | m + 1, _ :: l => ydr m l
  | _ + 1, [] => []
noncomputable def ycat (l : List yV) : Nat := match l with
  | [] => 0
  | a :: r => bif Nat.beq a.1 1 then 2 + ycat r else 1 + ycat r
noncomputable def ylay : List yV → List yV
  | [] => []
  | a :: r => bif Nat.beq a.1 1 then a :: (9, 0, 0) :: ylay r else a :: ylay r
noncomputable def ypad : Nat → List yV → List yV
  | 0, _ => []
  | m + 1, [] => (9, 0, 0) :: ypad m []
  | m + 1, a :: l => a :: ypad m l
noncomputable def yini (t : Nat) (as : List yV) : List yV := ypad (qml t) (ylay as)
noncomputable def ypsh (v : yV) (st : List yV) : List yV := bif Nat.beq v.1 9 then st else v :: st
noncomputable def yall1 : List yV → Bool
  | [] => true
  | v :: r => (Nat.blt v.1 3 || (Nat.beq v.1 3 && (Nat.beq v.2.1 0 && yle 1 v.2.2))) && yall1 r
noncomputable def yaok (t sk : Nat) (as : List yV) : Bool := yall1 as && (match sk, as with
  | 0, _ => true
  | _, (2, 0, p) :: _ => match qpl p.toNat with
    | (0, c, _, _) => Nat.beq c (qow t) && (yle 1 p && yle p 142)
    | _ => false
  | _, _ => false)
noncomputable def ycok (t na sk md : Nat) (st : List yV) : Bool := Nat.ble na st.length && (Nat.ble (ycat (ydr na st)) 8 && (yaok t sk (ytk na st []) && (Nat.ble (ylay (ytk na st [])).length (qml t) && qmok md sk t)))
/-- arguments within a contract's -/
noncomputable def yam (bs : yB) : List (Nat × Int × Int) → List yV → Bool
  | [], [] => true
  | c :: r, v :: l => Nat.beq c.1 v.1 && ((match yiv bs v.2.1 v.2.2 with
    | some (a, b) => yle c.2.1 a && yle b c.2.2
    | none => false) && yam bs r l)
  | _, _ => false
noncomputable def ynone (md : yM) : List Nat → Bool
  | [] => true
  | p :: l => ycln p md && ynone md l
noncomputable def ypre (hf : yH) : List (Nat × Nat × Int) → Bool
  | [] => true
  | e :: l => (match yfl hf e.1 0 (e.2.1 : Int) with
    | some (s, o) => Nat.beq s 0 && yqi o e.2.2
    | none => false) && ypre hf l
noncomputable def ypost (hf : yH) : List (Nat × Nat × Int) → yH
  | [] => hf
  | e :: l => (e.1, 0, (e.2.1 : Int), 0, e.2.2) :: ypost hf l
noncomputable def yfind (S : yS) (d : Nat) (as : List yV) : List yC → Option yC
  | [] => none
  | c :: r => bif Nat.ble c.1 d && (yam S.2.1 c.2.1 as && (ynone S.2.2.2.1 c.2.2.2.2.1 && ypre S.2.2.1 c.2.2.2.2.2.1)) then some c else yfind S d as r
/-- facts of cells that may change go -/
noncomputable def ymo (p j : Nat) (m : List Nat) : Bool := ymem p m || ymem (1000 * (j + 1) + p) m
noncomputable def yany (p : Nat) : List Nat → Bool
  | [] => false
  | c :: m => Nat.beq (c % 1000) p || yany p m
noncomputable def yforg (m : List Nat) : yH → yH
  | [] => []
  | e :: r => bif (bif Nat.beq e.2.1 0 then ymo e.1 e.2.2.1.toNat m else (ymem e.1 m || yany e.1 m)) then yforg m r else e :: yforg m r
noncomputable def yapp : List Nat → yM → yM
  | [], l => l
  | c :: m, l => bif Nat.blt c 1000 then (bif ymp c 0 l then yapp m l else (c, 0) :: yapp m l) else (bif ymp (c % 1000) (c / 1000) l then yapp m l else (c % 1000, c / 1000) :: yapp m l)
noncomputable def yhav (S : yS) (m : List Nat) : yS := (S.1, S.2.1, yforg m S.2.2.1, yapp m S.2.2.2.1, S.2.2.2.2)
noncomputable def yhav2 (S : yS) (m : List Nat) (q : List (Nat × Nat × Int)) : yS := (S.1, S.2.1, ypost (yforg m S.2.2.1) q, yapp m S.2.2.2.1, S.2.2.2.2)
/-- what varies, as far as the kinds are so now -/
noncomputable def yhs : yHv → List yV → yHv
  | some b :: h, v :: l => (bif Nat.beq b.1 v.1 then some b else none) :: yhs h l
  | none :: h, _ :: l => none :: yhs h l
  | _, _ => []
noncomputable def yhv : yHv → Nat → List yV → List yV
  | some b :: h, n, _ :: l => (b.1, n, 0) :: yhv h (n + 1) l
  | none :: h, n, a :: l => a :: yhv h n l
  | [], _, l => l
  | _ :: _, _, [] => []
noncomputable def yhb : yHv → Nat → List yV → yB → yB
  | some b :: h, n, _ :: l, bs => yhb h (n + 1) l ((n, b.2) :: bs)
  | none :: h, n, _ :: l, bs => yhb h n l bs
  | _, _, _, bs => bs
noncomputable def yhx : yHv → Nat → List yV → Nat
  | some _ :: h, n, _ :: l => yhx h (n + 1) l
  | none :: h, n, _ :: l => yhx h n l
  | _, n, _ => n
noncomputable def yve (a v : yV) : Bool := Nat.beq a.1 v.1 && (Nat.beq a.2.1 v.2.1 && yqi a.2.2 v.2.2)
noncomputable def yvl : List yV → List yV → Bool
  | [], [] => true
  | a :: l, v :: m => yve a v && yvl l m
  | _, _ => false
noncomputable def yac (bs : yB) : yHv → List yV → List yV → Bool
  | some b :: h, _ :: l, v :: m => Nat.beq b.1 v.1 && ((match yiv bs v.2.1 v.2.2 with
    | some (c, d) => yle b.2.1 c && yle d b.2.2
    | none => false) && yac bs h l m)
  | none :: h, a :: l, v :: m => yve a v && yac bs h l m
  | [], l, m => yvl l m
  | _ :: _, [], [] => true
  | _, _, _ => false
noncomputable def yhas (hf : yH) : yH → Bool
  | [] => true
  | e :: r => (match yfl hf e.1 e.2.1 e.2.2.1 with
    | some (s, o) => Nat.beq s e.2.2.2.1 && yqi o e.2.2.2.2
    | none => false) && yhas hf r
/-- each place of the second is one of the first -/
noncomputable def ysub2 (md : yM) : yM → Bool
  | [] => true
  | e :: l => (ymp e.1 0 md || ymp e.1 e.2 md) && ysub2 md l
noncomputable def ydm (bs : yB) (l0 l1 : List yV) : List (Nat × Int) → Option Int
  | [] => some 0
  | e :: r => match ydm bs l0 l1 r with
    | none => none
    | some u => bif Nat.beq (ynt l0 e.1).2.1 (ynt l1 e.1).2.1 then some (u + e.2 * ((ynt l1 e.1).2.2 - (ynt l0 e.1).2.2)) else match yiv bs (ynt l1 e.1).2.1 (ynt l1 e.1).2.2, yiv bs (ynt l0 e.1).2.1 (ynt l0 e.1).2.2 with
      | some (a, b), some (c, d) => some (u + (bif yle 0 e.2 then e.2 * (b - c) else e.2 * (a - d)))
      | _, _ => none
/-- the state is one of an open loop's, with a lesser measure -/
noncomputable def ychk (pc : Nat) (ls st : List yV) (S : yS) (c : yLC) : Bool := Nat.beq c.1 pc && (yac S.2.1 c.2.2.1 c.2.2.2.1 ls && (yvl c.2.2.2.2.1 st && (yhas S.2.2.1 c.2.2.2.2.2.1 && (ysub2 c.2.2.2.2.2.2.1 S.2.2.2.1 && (match ydm S.2.1 c.2.2.2.1 ls c.2.2.2.2.2.2.2 with
  | some u => yle u (-1)
  | none => false)))))
noncomputable def ykin : List yV → List yV → Bool
  | [], [] => true
  | a :: l, b :: m => Nat.beq a.1 b.1 && ykin l m
  | _, _ => false
noncomputable def yarg (as : List yV) : List Nat → List (Nat × Int)
  | [] => []
  | i :: l => (ynt as i).2 :: yarg as l
section Ex
variable (gf : Nat → Nat → Option yI) (ga : Nat → Option yI) (ra : Nat → Nat → List Int) (bv : Nat → Nat → Option Int) (bb : Nat → Option yI) (ct : Nat → List yC) (an : Nat → Nat → Option yA) (fk : Nat → Nat → Option Nat)
/-- Math.abs, max, min -/
noncomputable def ymth (t pc : Nat) (ls st : List yV) (S : yS) (N : yN) : Bool := match t, st with
  | 902, (0, s, o) :: r => ylt S s o 0 0 (fun S => yneg S s o (fun v S => N (pc + 3) ls (v :: r) S)) (fun S => N (pc + 3) ls ((0, s, o) :: r) S)
  | 903, (0, s2, o2) :: (0, s1, o1) :: r => ylt S s1 o1 s2 o2 (fun S => N (pc + 3) ls ((0, s2, o2) :: r) S) (fun S => N (pc + 3) ls ((0, s1, o1) :: r) S)
  | 904, (0, s2, o2) :: (0, s1, o1) :: r => ylt S s2 o2 s1 o1 (fun S => N (pc + 3) ls ((0, s2, o2) :: r) S) (fun S => N (pc + 3) ls ((0, s1, o1) :: r) S)
  | 905, (1, s2, o2) :: (1, s1, o1) :: r => ylt S s2 o2 s1 o1 (fun S => N (pc + 3) ls ((1, s1, o1) :: r) S) (fun S => N (pc + 3) ls ((1, s2, o2) :: r) S)
  | 906, (3, 0, x) :: r => match qtxb x with
    | some l => N (pc + 3) ls ((0, 0, (l.length : Int)) :: r) S
    | none => false
  | 907, (0, s, o) :: (3, 0, x) :: r => match qtxb x, yiv S.2.1 s o with
    | some l, some (a, b) => yle 0 a && (yle (b + 1) (l.length : Int) && (bif yqi a b then N (pc + 3) ls ((0, 0, l.getD a.toNat 0) :: r) S else ynum 0 S (0, 127) (fun v S => N (pc + 3) ls (v :: r) S)))
    | _, _ => false
  | 908, (0, _, _) :: (3, 0, x) :: r => match qtxb x with
    | some l => ynum 0 S (-1, (l.length : Int)) (fun v S => N (pc + 3) ls (v :: r) S)
    | none => false
  | _, _ => false
noncomputable def ycpy (pc : Nat) (ls st : List yV) (S : yS) (N : yN) : Bool := match st with
  | (0, ms, mo) :: (0, ds, d) :: (2, 0, b) :: (0, ss, s) :: (2, 0, a) :: r => match qpl a.toNat, qpl b.toNat, yiv S.2.1 ms mo, ga a.toNat, ga b.toNat with
    | (1, 0, la, _), (1, 0, lb, _), some (m1, m2), some (x1, x2), some (y1, y2) => Nat.beq ds 0 && (Nat.beq ss 0 && (yle 0 m1 && (yle 0 d && (yle 0 s && (yle (s + m2) la && (yle (d + m2) lb && (yle 1 a && (yle a 142 && (yle 1 b && (yle b 142 && (yle y1 x1 && (yle x2 y2 && N (pc + 3) ls r (yhav S [b.toNat])))))))))))))
    | _, _, _, _, _ => false
  | _ => false
noncomputable def ycall (X : yXt) (ctx : List yLC) (d k t na sk md pc : Nat) (ls st : List yV) (S : yS) (K : yK) : Bool := match d with
  | 0 => false
  | d' + 1 => ycok t na sk md st && (!Nat.beq t 305 && (match yfind S d' (ytk na st []) (ct t) with
    | some c => bif Nat.beq c.2.2.1.1 9 then X ctx (d' + 1) k (pc + 3) ls (ydr na st) (yhav2 S c.2.2.2.1 c.2.2.2.2.2.2.1) K else (Nat.beq c.2.2.1.1 0 && ygho (yhav2 S c.2.2.2.1 c.2.2.2.2.2.2.1) c.2.2.2.2.2.2.2.1 (yarg (ytk na st []) c.2.2.2.2.2.2.2.2) c.2.2.1.2 (fun v S => X ctx (d' + 1) k (pc + 3) ls (v :: ydr na st) S K))
    | none => X [] d' t 0 (yini t (ytk na st [])) [] S (fun S v => X ctx (d' + 1) k (pc + 3) ls (ypsh v (ydr na st)) S K)))
noncomputable def yinv (X : yXt) (ctx : List yLC) (d k i md pc : Nat) (ls st : List yV) (S : yS) (K : yK) : Bool := match qmd (qow k) i with
  | some (t, na, sk) => bif Nat.ble 900 t then (bif Nat.beq t 901 then Nat.beq md 0 && (Nat.ble 1 d && (Nat.ble (ycat (ydr 5 st)) 8 && ycpy ga pc ls st S (fun pc ls st S => X ctx d k pc ls st S K))) else Nat.ble 902 t && (qmm t md d && (Nat.ble (ycat (ydr na st)) 8 && ymth t pc ls st S (fun pc ls st S => X ctx d k pc ls st S K)))) else ycall ct X ctx d k t na sk md pc ls st S K
  | none => false
noncomputable def yi (X : yXt) (ctx : List yLC) (d k pc : Nat) (ls st : List yV) (S : yS) (K : yK) : Bool := match qcd k pc with
  | none => false
  | some (ins, _) => match ins with
    | .ireturn => match st with
      | [(0, s, o)] => bif Nat.beq (qrt k) 1 then K S (0, s, o) else (Nat.beq (qrt k) 2 && (match yiv S.2.1 s o with
        | some (a, b) => yle 0 a && (yle b 1 && K S (0, s, o))
        | none => false))
      | _ => false
    | .return_ => match st with
      | [] => Nat.beq (qrt k) 0 && K S (9, 0, 0)
      | _ => false
    | .invokestatic i => yinv ga ct X ctx d k i 0 pc ls st S K
    | .invokevirtual i => yinv ga ct X ctx d k i 1 pc ls st S K
    | .invokespecial i => yinv ga ct X ctx d k i 2 pc ls st S K
    | i => yas gf ga ra bv bb (Nat.beq k 305) k i pc ls st S (fun pc ls st S => X ctx d k pc ls st S K)
noncomputable def yex : Nat → yXt
  | 0 => fun _ _ _ _ _ _ _ _ => false
  | f + 1 => fun ctx d k pc ls st S K => bif ctx.any (ychk pc ls st S) then true else match an k pc with
    | some a => bif ctx.any (fun c => Nat.beq c.1 pc && ykin c.2.2.2.1 ls) then false else
        (yac S.2.1 (yhs a.1 ls) ls ls && yi gf ga ra bv bb ct (yex f) ((pc, S.1, yhs a.1 ls, yhv (yhs a.1 ls) S.1 ls, st, yforg a.2.1 S.2.2.1, yapp a.2.1 S.2.2.2.1, a.2.2) :: ctx.filter (fun c => Nat.ble c.1 pc)) d k pc (yhv (yhs a.1 ls) S.1 ls) st
          (yhx (yhs a.1 ls) S.1 ls, yhb (yhs a.1 ls) S.1 ls S.2.1, yforg a.2.1 S.2.2.1, yapp a.2.1 S.2.2.2.1, S.2.2.2.2) K)
    | none => match fk k pc with
      | some i => yall S (ynt ls i).2.1 (ynt ls i).2.2 (fun _ S => yi gf ga ra bv bb ct (yex f) ctx d k pc ls st S K)
      | none => yi gf ga ra bv bb ct (yex f) ctx d k pc ls st S K
end Ex
end
section
/-! the run over symbols is right -/
theorem qtk_map {ρ : Nat → Int} : ∀ (m : Nat) (l acc : List yV), qtk m (l.map (yc ρ)) (acc.map (yc ρ)) = (ytk m l acc).map (yc ρ)
  | 0, _, _ => rfl
  | m + 1, a :: l, acc => qtk_map m l (a :: acc)
  | _ + 1, [], _ => rfl
theorem qdr_map {ρ : Nat → Int} : ∀ (m : Nat) (l : List yV), qdr m (l.map (yc ρ)) = (ydr m l).map (yc ρ)
  | 0, _ => rfl
  | m + 1, _ :: l => qdr_map m l
  | _ + 1, [] => rfl
theorem qcat_map {ρ : Nat → Int} : ∀ (l : List yV), qcat (l.map (yc ρ)) = ycat l
  | [] => rfl
  | (0, x) :: r => by
    show 1 + qcat (r.map (yc ρ)) = 1 + ycat r
    rw [qcat_map r]
  | (1, x) :: r => by
    show 2 + qcat (r.map (yc ρ)) = 2 + ycat r
    rw [qcat_map r]
  | (k + 2, x) :: r => by
    show 1 + qcat (r.map (yc ρ)) = 1 + ycat r
    rw [qcat_map r]
theorem qlay_map {ρ : Nat → Int} (h0 : ρ 0 = 0) : ∀ (l : List yV), qlay (l.map (yc ρ)) = (ylay l).map (yc ρ)
  | [] => rfl
  | (0, x) :: r => by
    show (0, ρ x.1 + x.2) :: qlay (r.map (yc ρ)) = (0, ρ x.1 + x.2) :: (ylay r).map (yc ρ)
    rw [qlay_map h0 r]
  | (1, x) :: r => by
    show (1, ρ x.1 + x.2) :: (9, 0) :: qlay (r.map (yc ρ)) = (1, ρ x.1 + x.2) :: (9, ρ 0 + 0) :: (ylay r).map (yc ρ)
    rw [qlay_map h0 r, h0]; rfl
  | (k + 2, x) :: r => by
    show (k + 2, ρ x.1 + x.2) :: qlay (r.map (yc ρ)) = (k + 2, ρ x.1 + x.2) :: (ylay r).map (yc ρ)
    rw [qlay_map h0 r]
theorem qpad_map {ρ : Nat → Int} (h0 : ρ 0 = 0) : ∀ (m : Nat) (l : List yV), qpad m (l.map (yc ρ)) = (ypad m l).map (yc ρ)
  | 0, _ => rfl
  | m + 1, [] => by
    show (9, 0) :: qpad m [] = (9, ρ 0 + 0) :: (ypad m []).map (yc ρ)
    rw [h0, ← qpad_map h0 m []]; rfl
  | m + 1, a :: l => by
    show yc ρ a :: qpad m (l.map (yc ρ)) = yc ρ a :: (ypad m l).map (yc ρ)
    rw [qpad_map h0 m l]
theorem qini_map {ρ : Nat → Int} (h0 : ρ 0 = 0) (t : Nat) (as : List yV) : qini t (as.map (yc ρ)) = (yini t as).map (yc ρ) := by
  unfold qini yini
  rw [qlay_map h0, qpad_map h0]
theorem qpsh_map {ρ : Nat → Int} (v : yV) (st : List yV) : qpsh (yc ρ v) (st.map (yc ρ)) = (ypsh v st).map (yc ρ) := by
  obtain ⟨k, x⟩ := v
  unfold ypsh
  by_cases c : k = 9
  · subst c; rfl
  · rw [show Nat.beq ((k, x) : yV).1 9 = false from ybf (fun z => c (Nat.eq_of_beq_eq_true z)), cond_false, List.map_cons]
    show qpsh ((k, ρ x.1 + x.2) : qV) (st.map (yc ρ)) = (k, ρ x.1 + x.2) :: st.map (yc ρ)
    unfold qpsh
    split
    · rename_i h; cases h; exact absurd rfl c
    · rfl
theorem ytk_sc {n : Nat} : ∀ {m : Nat} {l acc : List yV}, ySc n l → ySc n acc → ySc n (ytk m l acc)
  | 0, _, _, _, h => h
  | m + 1, a :: l, acc, hl, h => ytk_sc (m := m) hl.tl (ySc.cons hl.hd h)
  | _ + 1, [], _, _, h => h
theorem ydr_sc {n : Nat} : ∀ {m : Nat} {l : List yV}, ySc n l → ySc n (ydr m l)
  | 0, _, h => h
  | m + 1, _ :: l, h => ydr_sc (m := m) h.tl
  | _ + 1, [], h => h
theorem ynil_sc {n : Nat} : ySc n [] := fun v hv => by cases hv
theorem ylay_sc {n : Nat} (hn : 0 < n) : ∀ {l : List yV}, ySc n l → ySc n (ylay l)
  | [], h => h
  | a :: r, h => by
    unfold ylay
    by_cases c : Nat.beq a.1 1 = true
    · rw [c]; exact ySc.cons h.hd (ySc.cons hn (ylay_sc hn h.tl))
    · rw [ybf c]; exact ySc.cons h.hd (ylay_sc hn h.tl)
theorem ypad_sc {n : Nat} (hn : 0 < n) : ∀ {m : Nat} {l : List yV}, ySc n l → ySc n (ypad m l)
  | 0, _, _ => ynil_sc
  | m + 1, [], h => ySc.cons hn (ypad_sc hn h)
  | m + 1, _ :: _, h => ySc.cons h.hd (ypad_sc hn h.tl)
theorem yini_sc {n : Nat} (hn : 0 < n) {t : Nat} {l : List yV} (h : ySc n l) : ySc n (yini t l) := ypad_sc hn (ylay_sc hn h)
theorem ypsh_sc {n : Nat} {v : yV} {l : List yV} (hv : v.2.1 < n) (h : ySc n l) : ySc n (ypsh v l) := by
  unfold ypsh
  by_cases c : Nat.beq v.1 9 = true
  · rw [c]; exact h
  · rw [ybf c]; exact ySc.cons hv h
theorem yall1_ok {ρ : Nat → Int} (h0 : ρ 0 = 0) : ∀ {l : List yV}, yall1 l = true → (l.map (yc ρ)).all (fun v => Nat.blt v.1 3 || (Nat.beq v.1 3 && decide (0 < v.2))) = true
  | [], _ => rfl
  | v :: r, h => by
    have h : ((Nat.blt v.1 3 || (Nat.beq v.1 3 && (Nat.beq v.2.1 0 && yle 1 v.2.2))) && yall1 r) = true := h
    rw [Bool.and_eq_true, Bool.or_eq_true] at h
    rw [List.map_cons, List.all_cons, Bool.and_eq_true, Bool.or_eq_true]
    refine ⟨h.1.imp id (fun k => ?_), yall1_ok h0 h.2⟩
    rw [Bool.and_eq_true, Bool.and_eq_true, yle_i] at k
    rw [Bool.and_eq_true, decide_eq_true_eq]
    refine ⟨k.1, ?_⟩
    show 0 < ρ v.2.1 + v.2.2
    rw [Nat.eq_of_beq_eq_true k.2.1, h0]
    omega
theorem yaok_ok {ρ : Nat → Int} (h0 : ρ 0 = 0) {t sk : Nat} {as : List yV} (h : yaok t sk as = true) : qaok t sk 142 (as.map (yc ρ)) = true := by
  unfold yaok at h
  unfold qaok
  rw [Bool.and_eq_true] at h
  rw [Bool.and_eq_true]
  refine ⟨yall1_ok h0 h.1, ?_⟩
  have h := h.2
  cases sk with
  | zero => rfl
  | succ sk =>
    split at h
    · exact absurd ‹sk + 1 = 0› (Nat.succ_ne_zero sk)
    · rename_i p l _ _
      show (match qpl (ρ 0 + p).toNat with
        | (0, c, _, _) => Nat.beq c (qow t) && decide (0 < ρ 0 + p ∧ ρ 0 + p ≤ ((142 : Nat) : Int))
        | _ => false) = true
      rw [h0, Int.zero_add]
      split at h
      · rename_i c a b hpl
        rw [hpl]
        show (Nat.beq c (qow t) && decide (0 < p ∧ p ≤ ((142 : Nat) : Int))) = true
        rw [Bool.and_eq_true, Bool.and_eq_true, yle_i, yle_i] at h
        rw [Bool.and_eq_true, decide_eq_true_eq]
        exact ⟨h.1, by omega, by omega⟩
      · cases h
    · cases h
theorem ycok_ok {ρ : Nat → Int} (h0 : ρ 0 = 0) {t na sk md : Nat} {st : List yV} (h : ycok t na sk md st = true) : qcok t na sk md 142 (st.map (yc ρ)) = true := by
  unfold ycok at h
  unfold qcok
  rw [Bool.and_eq_true, Bool.and_eq_true, Bool.and_eq_true, Bool.and_eq_true] at h
  obtain ⟨h1, h2, h3, h4, h5⟩ := h
  have e : qtk na (st.map (yc ρ)) [] = (ytk na st []).map (yc ρ) := qtk_map na st []
  rw [e, qdr_map, qcat_map, qlay_map h0, List.length_map, List.length_map, h1, h2, yaok_ok h0 h3, h4, h5]
  rfl
/-- arguments within a contract's -/
noncomputable def yamc : List (Nat × Int × Int) → List qV → Prop
  | [], [] => True
  | c :: r, v :: l => (v.1 = c.1 ∧ c.2.1 ≤ v.2 ∧ v.2 ≤ c.2.2) ∧ yamc r l
  | _, _ => False
noncomputable def ymt (ρ : Nat → Int) : yHv → List yV → List qV → Prop
  | some b :: h, _ :: l, c :: m => (c.1 = b.1 ∧ b.2.1 ≤ c.2 ∧ c.2 ≤ b.2.2) ∧ ymt ρ h l m
  | none :: h, a :: l, c :: m => c = yc ρ a ∧ ymt ρ h l m
  | [], l, m => m = l.map (yc ρ)
  | _ :: _, [], m => m = []
  | _, _, _ => False
noncomputable def yhr : yHv → Nat → List yV → List qV → (Nat → Int) → (Nat → Int)
  | some _ :: h, n, _ :: l, c :: m, ρ => yhr h (n + 1) l m (yup ρ n c.2)
  | none :: h, n, _ :: l, _ :: m, ρ => yhr h n l m ρ
  | _, _, _, _, ρ => ρ
noncomputable def yms : List (Nat × Int) → List qV → Int
  | [], _ => 0
  | e :: r, l => yms r l + e.2 * (qnt l e.1).2
theorem yhx_le : ∀ (h : yHv) (n : Nat) (l : List yV), n ≤ yhx h n l
  | some _ :: h, n, _ :: l => Nat.le_trans (Nat.le_succ n) (yhx_le h (n + 1) l)
  | none :: h, n, _ :: l => yhx_le h n l
  | [], n, l => Nat.le_refl n
  | some _ :: _, n, [] => Nat.le_refl n
  | none :: _, n, [] => Nat.le_refl n
/-- the loop's state out of symbols -/
theorem yhr_ok {ρ0 : Nat → Int} {n0 : Nat} : ∀ (h : yHv) (n : Nat) (l : List yV) (m : List qV) (ρ : Nat → Int) (bs : yB), n0 ≤ n → ySc n0 l → yag n0 ρ0 ρ → (∀ e ∈ bs, e.1 < n ∧ yin e.2 (ρ e.1)) → ymt ρ0 h l m →
    yag n ρ (yhr h n l m ρ) ∧ m = (yhv h n l).map (yc (yhr h n l m ρ)) ∧ ySc (yhx h n l) (yhv h n l) ∧ (∀ e ∈ yhb h n l bs, e.1 < yhx h n l ∧ yin e.2 (yhr h n l m ρ e.1))
  | some b :: h, n, a :: l, c :: m, ρ, bs, hn, hl, hag, hb, hm => by
    have hm : (c.1 = b.1 ∧ b.2.1 ≤ c.2 ∧ c.2 ≤ b.2.2) ∧ ymt ρ0 h l m := hm
    have hup : yag n ρ (yup ρ n c.2) := yup_ag
    obtain ⟨k1, k2, k3, k4⟩ := yhr_ok h (n + 1) l m (yup ρ n c.2) ((n, b.2) :: bs) (by omega) hl.tl (hag.tr hup hn) (fun e he => by
      rcases List.mem_cons.mp he with rfl | he
      · exact ⟨Nat.lt_succ_self n, by show yin b.2 (yup ρ n c.2 n); rw [yup_at]; exact hm.1.2⟩
      · have := hb e he
        exact ⟨Nat.lt_succ_of_lt this.1, by rw [hup _ this.1]; exact this.2⟩) hm.2
    refine ⟨hup.tr k1 (Nat.le_succ n), ?_, ySc.cons (Nat.lt_of_lt_of_le (Nat.lt_succ_self n) (yhx_le h (n + 1) l)) k3, k4⟩
    show c :: m = yc (yhr h (n + 1) l m (yup ρ n c.2)) (b.1, n, 0) :: (yhv h (n + 1) l).map (yc (yhr h (n + 1) l m (yup ρ n c.2)))
    rw [← k2]
    congr 1
    show c = (b.1, yhr h (n + 1) l m (yup ρ n c.2) n + 0)
    rw [k1 n (Nat.lt_succ_self n), yup_at, Int.add_zero, ← hm.1.1]
  | none :: h, n, a :: l, c :: m, ρ, bs, hn, hl, hag, hb, hm => by
    have hm : c = yc ρ0 a ∧ ymt ρ0 h l m := hm
    obtain ⟨k1, k2, k3, k4⟩ := yhr_ok h n l m ρ bs hn hl.tl hag hb hm.2
    refine ⟨k1, ?_, ySc.cons (Nat.lt_of_lt_of_le hl.hd (Nat.le_trans hn (yhx_le h n l))) k3, k4⟩
    show c :: m = yc (yhr h n l m ρ) a :: (yhv h n l).map (yc (yhr h n l m ρ))
    rw [← k2, hm.1, yc_ag (k1) (Nat.lt_of_lt_of_le hl.hd hn), yc_ag hag hl.hd]
  | [], n, l, m, ρ, bs, hn, hl, hag, hb, hm => ⟨yag.rf, by
      have hm : m = l.map (yc ρ0) := hm
      show m = l.map (yc ρ)
      rw [hm, ym_ag hag hl], hl.mono hn, hb⟩
  | some _ :: _, n, [], m, ρ, bs, hn, hl, hag, hb, hm => ⟨yag.rf, hm, ynil_sc, hb⟩
  | none :: _, n, [], m, ρ, bs, hn, hl, hag, hb, hm => ⟨yag.rf, hm, ynil_sc, hb⟩
  | some _ :: _, _, _ :: _, [], _, _, _, _, _, _, hm => hm.elim
  | none :: _, _, _ :: _, [], _, _, _, _, _, _, hm => hm.elim
theorem ymt_at {ρ : Nat → Int} : ∀ (h : yHv) (l : List yV) (i : Nat), ∃ lo hi : Int, ∀ m, ymt ρ h l m → lo ≤ (qnt m i).2 ∧ (qnt m i).2 ≤ hi
  | [], l, i => ⟨(qnt (l.map (yc ρ)) i).2, (qnt (l.map (yc ρ)) i).2, fun m hm => by
      have hm : m = l.map (yc ρ) := hm
      subst hm; exact ⟨Int.le_refl _, Int.le_refl _⟩⟩
  | some b :: h, a :: l, 0 => ⟨b.2.1, b.2.2, fun m hm => by
      cases m with
      | nil => exact hm.elim
      | cons c m => exact hm.1.2⟩
  | some b :: h, a :: l, i + 1 => by
      obtain ⟨lo, hi, k⟩ := ymt_at (ρ := ρ) h l i
      refine ⟨lo, hi, fun m hm => ?_⟩
      cases m with
      | nil => exact hm.elim
      | cons c m => exact k m hm.2
  | none :: h, a :: l, 0 => ⟨(yc ρ a).2, (yc ρ a).2, fun m hm => by
      cases m with
      | nil => exact hm.elim
      | cons c m =>
        have : c = yc ρ a := hm.1
        subst this; exact ⟨Int.le_refl _, Int.le_refl _⟩⟩
  | none :: h, a :: l, i + 1 => by
      obtain ⟨lo, hi, k⟩ := ymt_at (ρ := ρ) h l i
      refine ⟨lo, hi, fun m hm => ?_⟩
      cases m with
      | nil => exact hm.elim
      | cons c m => exact k m hm.2
  | some _ :: _, [], i => ⟨0, 0, fun m hm => by
      have hm : m = [] := hm
      subst hm; exact ⟨Int.le_refl _, Int.le_refl _⟩⟩
  | none :: _, [], i => ⟨0, 0, fun m hm => by
      have hm : m = [] := hm
      subst hm; exact ⟨Int.le_refl _, Int.le_refl _⟩⟩
theorem ymt_lb {ρ : Nat → Int} (h : yHv) (l : List yV) : ∀ (ms : List (Nat × Int)), ∃ B : Int, ∀ m, ymt ρ h l m → B ≤ yms ms m
  | [] => ⟨0, fun _ _ => Int.le_refl 0⟩
  | e :: r => by
    obtain ⟨B, k⟩ := ymt_lb (ρ := ρ) h l r
    obtain ⟨lo, hi, k2⟩ := ymt_at (ρ := ρ) h l e.1
    by_cases c : 0 ≤ e.2
    · refine ⟨B + e.2 * lo, fun m hm => ?_⟩
      have := Int.mul_le_mul_of_nonneg_left (k2 m hm).1 c
      have := k m hm
      show B + e.2 * lo ≤ yms r m + e.2 * (qnt m e.1).2
      omega
    · refine ⟨B + e.2 * hi, fun m hm => ?_⟩
      have := Int.mul_le_mul_of_nonpos_left (a := e.2) (by omega) (k2 m hm).2
      have := k m hm
      show B + e.2 * hi ≤ yms r m + e.2 * (qnt m e.1).2
      omega
theorem ymo_any {p j : Nat} (hp : p < 1000) : ∀ {m : List Nat}, yany p m = false → ymem (1000 * (j + 1) + p) m = false
  | [], _ => rfl
  | c :: m, h => by
    have h : (Nat.beq (c % 1000) p || yany p m) = false := h
    rw [Bool.or_eq_false_iff] at h
    show (Nat.beq c (1000 * (j + 1) + p) || ymem (1000 * (j + 1) + p) m) = false
    rw [ymo_any hp h.2, Bool.or_false]
    exact ybf (fun z => by
      have e := Nat.eq_of_beq_eq_true z
      have : c % 1000 = p := by omega
      rw [this, Nat.beq_refl] at h; cases h.1)
theorem yforg_ok {m : List Nat} {e : Nat × Nat × Int × Nat × Int} : ∀ {hf : yH}, e ∈ yforg m hf → e ∈ hf ∧ (e.1 < 1000 → ∀ j, (e.2.1 = 0 → j = e.2.2.1.toNat) → ymo e.1 j m = false)
  | [], h => by cases h
  | a :: r, h => by
    unfold yforg at h
    by_cases c : (bif Nat.beq a.2.1 0 then ymo a.1 a.2.2.1.toNat m else (ymem a.1 m || yany a.1 m)) = true
    · rw [c] at h
      have := yforg_ok (hf := r) h
      exact ⟨List.mem_cons_of_mem _ this.1, this.2⟩
    · rw [ybf c] at h
      rcases List.mem_cons.mp h with rfl | h
      · refine ⟨List.mem_cons_self, fun hp j hj => ?_⟩
        have c2 := ybf c
        by_cases z : Nat.beq e.2.1 0 = true
        · rw [z, cond_true] at c2
          rw [hj (Nat.eq_of_beq_eq_true z)]; exact c2
        · rw [ybf z, cond_false, Bool.or_eq_false_iff] at c2
          unfold ymo
          rw [c2.1, ymo_any hp c2.2]; rfl
      · have := yforg_ok (hf := r) h
        exact ⟨List.mem_cons_of_mem _ this.1, this.2⟩
theorem ymp_ok0 {p c : Nat} (hc : Nat.beq c 0 = true) {j : Nat} {l : yM} (h : ymp p c l = true) : ymd p j l = true := ymp_ok (.inl (Nat.eq_of_beq_eq_true hc)) h
theorem yapp_ok {q j : Nat} : ∀ {m : List Nat} {l : yM}, ymd q j (yapp m l) = false → (q < 1000 → ymo q j m = false) ∧ ymd q j l = false
  | [], l, h => ⟨fun _ => rfl, h⟩
  | c :: m, l, h => by
    unfold yapp at h
    have fin : ∀ (p cd : Nat), (cd = 0 ∧ c = p ∧ c < 1000 ∨ ¬ c < 1000 ∧ p = c % 1000 ∧ cd = c / 1000) → ymd q j (bif ymp p cd l then yapp m l else (p, cd) :: yapp m l) = false → (q < 1000 → ymo q j (c :: m) = false) ∧ ymd q j l = false := fun p cd hcd h => by
      have key : (ymd q j (yapp m l) = false) ∧ (p = q → ¬ (cd = 0 ∨ cd = j + 1)) := by
        by_cases e : ymp p cd l = true
        · rw [e] at h
          have h : ymd q j (yapp m l) = false := h
          refine ⟨h, fun z1 z2 => ?_⟩
          have h2 := (yapp_ok (m := m) h).2
          rw [z1] at e
          rw [ymp_ok z2 e] at h2; cases h2
        · rw [ybf e] at h
          have h : ((Nat.beq p q && (Nat.beq cd 0 || Nat.beq cd (j + 1))) || ymd q j (yapp m l)) = false := h
          rw [Bool.or_eq_false_iff] at h
          refine ⟨h.2, fun z1 z2 => ?_⟩
          have h3 := h.1
          rw [z1, Nat.beq_refl, Bool.true_and, Bool.or_eq_false_iff] at h3
          rcases z2 with z2 | z2
          · rw [z2] at h3; cases h3.1
          · rw [z2, Nat.beq_refl] at h3; cases h3.2
      have ih := yapp_ok (m := m) key.1
      refine ⟨fun hq => ?_, ih.2⟩
      have i1 := ih.1 hq
      unfold ymo at i1 ⊢
      rw [Bool.or_eq_false_iff] at i1
      show ((Nat.beq c q || ymem q m) || (Nat.beq c (1000 * (j + 1) + q) || ymem (1000 * (j + 1) + q) m)) = false
      rw [i1.1, i1.2, Bool.or_false, Bool.or_false, Bool.or_eq_false_iff]
      refine ⟨ybf (fun z => ?_), ybf (fun z => ?_)⟩
      · have e := Nat.eq_of_beq_eq_true z
        rcases hcd with ⟨z1, z2, z3⟩ | ⟨z1, z2, z3⟩
        · exact key.2 (by omega) (.inl z1)
        · omega
      · have e := Nat.eq_of_beq_eq_true z
        rcases hcd with ⟨z1, z2, z3⟩ | ⟨z1, z2, z3⟩
        · omega
        · exact key.2 (by omega) (.inr (by omega))
    by_cases b : Nat.blt c 1000 = true
    · rw [b, cond_true] at h
      exact fin c 0 (.inl ⟨rfl, rfl, Nat.blt_eq.mp b⟩) h
    · rw [ybf b, cond_false] at h
      exact fin (c % 1000) (c / 1000) (.inr ⟨fun z => b (Nat.blt_eq.mpr z), rfl, rfl⟩) h
theorem yhas_ok {hf : yH} {e : Nat × Nat × Int × Nat × Int} : ∀ {l : yH}, yhas hf l = true → e ∈ l → e ∈ hf
  | [], _, he => by cases he
  | a :: r, h, he => by
    have h : ((match yfl hf a.1 a.2.1 a.2.2.1 with
      | some (s, o) => Nat.beq s a.2.2.2.1 && yqi o a.2.2.2.2
      | none => false) && yhas hf r) = true := h
    rw [Bool.and_eq_true] at h
    rcases List.mem_cons.mp he with rfl | he
    · have h := h.1
      split at h
      · rename_i s o hq
        rw [Bool.and_eq_true, yqi_i] at h
        have := yfl_ok0 hq
        rw [Nat.eq_of_beq_eq_true h.1, h.2] at this
        exact this
      · cases h
    · exact yhas_ok h.2 he
theorem ymd_ex {p j : Nat} : ∀ {l : yM}, ymd p j l = true → ∃ c, (c = 0 ∨ c = j + 1) ∧ (p, c) ∈ l
  | [], h => by cases h
  | e :: l, h => by
    have h : ((Nat.beq e.1 p && (Nat.beq e.2 0 || Nat.beq e.2 (j + 1))) || ymd p j l) = true := h
    rw [Bool.or_eq_true, Bool.and_eq_true, Bool.or_eq_true] at h
    rcases h with ⟨h1, h2⟩ | h
    · refine ⟨e.2, h2.imp Nat.eq_of_beq_eq_true Nat.eq_of_beq_eq_true, ?_⟩
      rw [← Nat.eq_of_beq_eq_true h1]; exact List.mem_cons_self
    · obtain ⟨c, h1, h2⟩ := ymd_ex h
      exact ⟨c, h1, List.mem_cons_of_mem _ h2⟩
theorem ysub2_ok {md : yM} {p j : Nat} (hp : ymd p j md = false) {l : yM} (h : ysub2 md l = true) : ymd p j l = false := by
  cases hq : ymd p j l
  · rfl
  · exfalso
    obtain ⟨c, h1, h2⟩ := ymd_ex hq
    have key : ∀ {l : yM}, ysub2 md l = true → (p, c) ∈ l → (ymp p 0 md || ymp p c md) = true := by
      intro l
      induction l with
      | nil => intro _ h; cases h
      | cons e l ih =>
        intro h hm
        have h : ((ymp e.1 0 md || ymp e.1 e.2 md) && ysub2 md l) = true := h
        rw [Bool.and_eq_true] at h
        rcases List.mem_cons.mp hm with rfl | hm
        · exact h.1
        · exact ih h.2 hm
    have h3 := key h h2
    rw [Bool.or_eq_true] at h3
    rcases h3 with h3 | h3
    · rw [ymp_ok (.inl rfl) h3] at hp; cases hp
    · rw [ymp_ok h1 h3] at hp; cases hp
theorem yve_ok {a v : yV} (h : yve a v = true) : a = v := by
  unfold yve at h
  rw [Bool.and_eq_true, Bool.and_eq_true, yqi_i] at h
  obtain ⟨a1, a2, a3⟩ := a
  obtain ⟨v1, v2, v3⟩ := v
  have h1 : a1 = v1 := Nat.eq_of_beq_eq_true h.1
  have h2 : a2 = v2 := Nat.eq_of_beq_eq_true h.2.1
  have h3 : a3 = v3 := h.2.2
  rw [h1, h2, h3]
theorem yvl_ok : ∀ {l m : List yV}, yvl l m = true → l = m
  | [], [], _ => rfl
  | a :: l, v :: m, h => by
    have h : (yve a v && yvl l m) = true := h
    rw [Bool.and_eq_true] at h
    rw [yve_ok h.1, yvl_ok h.2]
  | [], _ :: _, h => by cases h
  | _ :: _, [], h => by cases h
section ExOK
variable {L : Nat} {xs : Nat → Int} {w0 : qW} {gf : Nat → Nat → Option yI} {ga : Nat → Option yI} {ra : Nat → Nat → List Int} {Sp : qW → Prop} {gh : Nat → List Int → Int} {bv : Nat → Nat → Option Int} {bb : Nat → Option yI} {ct : Nat → List yC} {an : Nat → Nat → Option yA} {fk : Nat → Nat → Option Nat}
theorem yam_ok {ρ : Nat → Int} {S : yS} {w : qW} (g : yG L xs w0 gf ga ra Sp gh ρ S w) : ∀ {l : List (Nat × Int × Int)} {as : List yV}, yam S.2.1 l as = true → yamc l (as.map (yc ρ))
  | [], [], _ => trivial
  | c :: r, v :: l, h => by
    have h : (Nat.beq c.1 v.1 && ((match yiv S.2.1 v.2.1 v.2.2 with
      | some (a, b) => yle c.2.1 a && yle b c.2.2
      | none => false) && yam S.2.1 r l)) = true := h
    rw [Bool.and_eq_true, Bool.and_eq_true] at h
    have h1 := h.2.1
    split at h1
    · rename_i a b hq
      have k := yiv_ok g hq
      rw [Bool.and_eq_true, yle_i, yle_i] at h1
      exact ⟨⟨(Nat.eq_of_beq_eq_true h.1).symm, by show c.2.1 ≤ ρ v.2.1 + v.2.2; omega, by show ρ v.2.1 + v.2.2 ≤ c.2.2; omega⟩, yam_ok g h.2.2⟩
    · cases h1
  | [], _ :: _, h => by cases h
  | _ :: _, [], h => by cases h
theorem yac_ok {ρ : Nat → Int} {S : yS} {w : qW} (g : yG L xs w0 gf ga ra Sp gh ρ S w) : ∀ {h : yHv} {l m : List yV}, yac S.2.1 h l m = true → ymt ρ h l (m.map (yc ρ))
  | some b :: h, _ :: l, v :: m, e => by
    have e : (Nat.beq b.1 v.1 && ((match yiv S.2.1 v.2.1 v.2.2 with
      | some (c, d) => yle b.2.1 c && yle d b.2.2
      | none => false) && yac S.2.1 h l m)) = true := e
    rw [Bool.and_eq_true, Bool.and_eq_true] at e
    have h1 := e.2.1
    split at h1
    · rename_i c d hq
      have k := yiv_ok g hq
      rw [Bool.and_eq_true, yle_i, yle_i] at h1
      exact ⟨⟨(Nat.eq_of_beq_eq_true e.1).symm, by show b.2.1 ≤ ρ v.2.1 + v.2.2; omega, by show ρ v.2.1 + v.2.2 ≤ b.2.2; omega⟩, yac_ok g e.2.2⟩
    · cases h1
  | none :: h, a :: l, v :: m, e => by
    have e : (yve a v && yac S.2.1 h l m) = true := e
    rw [Bool.and_eq_true] at e
    exact ⟨by rw [yve_ok e.1], yac_ok g e.2⟩
  | [], l, m, e => by
    have := yvl_ok (show yvl l m = true from e)
    show m.map (yc ρ) = l.map (yc ρ)
    rw [this]
  | some _ :: _, [], [], _ => rfl
  | none :: _, [], [], _ => rfl
  | some _ :: _, [], _ :: _, e => by cases e
  | none :: _, [], _ :: _, e => by cases e
  | some _ :: _, _ :: _, [], e => by cases e
  | none :: _, _ :: _, [], e => by cases e
theorem ydm_ok {ρ : Nat → Int} {S : yS} {w : qW} (g : yG L xs w0 gf ga ra Sp gh ρ S w) {l0 l1 : List yV} : ∀ {ms : List (Nat × Int)} {u : Int}, ydm S.2.1 l0 l1 ms = some u → yms ms (l1.map (yc ρ)) - yms ms (l0.map (yc ρ)) ≤ u
  | [], u, h => by
    have h : some 0 = some u := h
    cases h
    exact Int.le_refl 0
  | e :: r, u, h => by
    have h : (match ydm S.2.1 l0 l1 r with
      | none => none
      | some u => bif Nat.beq (ynt l0 e.1).2.1 (ynt l1 e.1).2.1 then some (u + e.2 * ((ynt l1 e.1).2.2 - (ynt l0 e.1).2.2)) else match yiv S.2.1 (ynt l1 e.1).2.1 (ynt l1 e.1).2.2, yiv S.2.1 (ynt l0 e.1).2.1 (ynt l0 e.1).2.2 with
        | some (a, b), some (c, d) => some (u + (bif yle 0 e.2 then e.2 * (b - c) else e.2 * (a - d)))
        | _, _ => none) = some u := h
    split at h
    · cases h
    · rename_i u1 hu
      have ih := ydm_ok g hu
      show yms r (l1.map (yc ρ)) + e.2 * (qnt (l1.map (yc ρ)) e.1).2 - (yms r (l0.map (yc ρ)) + e.2 * (qnt (l0.map (yc ρ)) e.1).2) ≤ u
      rw [qnt_map g.1.1, qnt_map g.1.1]
      generalize ynt l0 e.1 = v0 at h ⊢
      generalize ynt l1 e.1 = v1 at h ⊢
      show _ + e.2 * (ρ v1.2.1 + v1.2.2) - (_ + e.2 * (ρ v0.2.1 + v0.2.2)) ≤ u
      have key : ∀ z : Int, e.2 * ((ρ v1.2.1 + v1.2.2) - (ρ v0.2.1 + v0.2.2)) ≤ z → some (u1 + z) = some u → yms r (l1.map (yc ρ)) + e.2 * (ρ v1.2.1 + v1.2.2) - (yms r (l0.map (yc ρ)) + e.2 * (ρ v0.2.1 + v0.2.2)) ≤ u := fun z hz hu9 => by
        cases hu9
        rw [Int.mul_sub] at hz
        omega
      by_cases c : Nat.beq v0.2.1 v1.2.1 = true
      · rw [c] at h
        refine key _ (Int.le_of_eq ?_) h
        rw [Nat.eq_of_beq_eq_true c]
        congr 1; omega
      · rw [ybf c] at h
        replace h : (match yiv S.2.1 v1.2.1 v1.2.2, yiv S.2.1 v0.2.1 v0.2.2 with
          | some (a, b), some (c, d) => some (u1 + (bif yle 0 e.2 then e.2 * (b - c) else e.2 * (a - d)))
          | _, _ => none) = some u := h
        split at h
        · rename_i a b c d h1 h2
          have k1 := yiv_ok g h1
          have k2 := yiv_ok g h2
          by_cases z : yle 0 e.2 = true
          · rw [z] at h
            exact key _ (Int.mul_le_mul_of_nonneg_left (by omega) (yle_i.mp z)) h
          · rw [ybf z] at h
            have z2 := yle_f z
            exact key _ (Int.mul_le_mul_of_nonpos_left (by omega) (by omega)) h
        · cases h
theorem yhav_ok {ρ : Nat → Int} {S : yS} {w w' : qW} {m : List Nat} (g : yG L xs w0 gf ga ra Sp gh ρ S w) (hI : yInv gf ga ra Sp w') (hw : ∀ p j, (p < 1000 → ymo p j m = false) → w' p j = w p j) : yG L xs w0 gf ga ra Sp gh ρ (yhav S m) w' := by
  refine ⟨g.1, g.2.1, fun e he => ?_, fun p j hp => ?_, hI, g.2.2.2.2.2⟩
  · have h := yforg_ok (show e ∈ yforg m S.2.2.1 from he)
    have k := g.2.2.1 e h.1
    refine ⟨k.1, k.2.1, ?_⟩
    rw [← k.2.2]
    by_cases c : e.1 = 0
    · rw [c]; rfl
    · rw [yrd_ne (by omega), yrd_ne (by omega)]
      refine hw _ _ (fun hp => h.2 hp _ (fun z => ?_))
      rw [z, g.1.1, Int.zero_add]
  · have h := yapp_ok (show ymd p j (yapp m S.2.2.2.1) = false from hp)
    rw [hw p j h.1, g.2.2.2.1 p j h.2]
theorem yhav2_ok {ρ : Nat → Int} {S : yS} {w w' : qW} {m : List Nat} {q : List (Nat × Nat × Int)} (g : yG L xs w0 gf ga ra Sp gh ρ S w) (hI : yInv gf ga ra Sp w') (hw : ∀ p j, (p < 1000 → ymo p j m = false) → w' p j = w p j) (hq : ∀ e ∈ q, 0 < e.1 ∧ w' e.1 e.2.1 = e.2.2) : yG L xs w0 gf ga ra Sp gh ρ (yhav2 S m q) w' := by
  have g1 := yhav_ok g hI hw
  refine ⟨g1.1, g1.2.1, ?_, g1.2.2.2⟩
  have h0 : 0 < S.1 := by have := g.1.2.1; omega
  have key : ∀ (q : List (Nat × Nat × Int)), (∀ e ∈ q, 0 < e.1 ∧ w' e.1 e.2.1 = e.2.2) → ∀ e ∈ ypost (yforg m S.2.2.1) q, e.2.1 < S.1 ∧ e.2.2.2.1 < S.1 ∧ yrd xs w' e.1 (ρ e.2.1 + e.2.2.1).toNat = ρ e.2.2.2.1 + e.2.2.2.2 := by
    intro q
    induction q with
    | nil => intro _ e he; exact g1.2.2.1 e he
    | cons a q ih =>
      intro hq e he
      rcases List.mem_cons.mp (show e ∈ (a.1, 0, (a.2.1 : Int), 0, a.2.2) :: ypost (yforg m S.2.2.1) q from he) with rfl | he
      · refine ⟨h0, h0, ?_⟩
        have := hq a List.mem_cons_self
        show yrd xs w' a.1 (ρ 0 + (a.2.1 : Int)).toNat = ρ 0 + a.2.2
        rw [g.1.1, Int.zero_add, Int.zero_add, Int.toNat_natCast, yrd_ne this.1, this.2]
      · exact ih (fun e he => hq e (List.mem_cons_of_mem _ he)) e he
  exact key q hq
theorem ypre_ok {ρ : Nat → Int} {S : yS} {w : qW} (g : yG L xs w0 gf ga ra Sp gh ρ S w) : ∀ {l : List (Nat × Nat × Int)}, ypre S.2.2.1 l = true → ∀ e ∈ l, 0 < e.1 → w e.1 e.2.1 = e.2.2
  | [], _, _, he => by cases he
  | a :: l, h, e, he => by
    have h : ((match yfl S.2.2.1 a.1 0 (a.2.1 : Int) with
      | some (s, o) => Nat.beq s 0 && yqi o a.2.2
      | none => false) && ypre S.2.2.1 l) = true := h
    rw [Bool.and_eq_true] at h
    rcases List.mem_cons.mp he with rfl | he
    · intro hp
      have h := h.1
      split at h
      · rename_i s o hq
        rw [Bool.and_eq_true, yqi_i] at h
        have := yfl_ok g hq
        rw [g.1.1, Int.zero_add, Int.toNat_natCast, yrd_ne hp, Nat.eq_of_beq_eq_true h.1, g.1.1, Int.zero_add, h.2] at this
        exact this.2
      · cases h
    · exact ypre_ok g h.2 e he
theorem yarg_sc {n : Nat} (hn : 0 < n) {as : List yV} (h : ySc n as) : ∀ {l : List Nat}, ∀ a ∈ yarg as l, a.1 < n
  | [], _, ha => by cases ha
  | i :: l, a, ha => by
    rcases List.mem_cons.mp (show a ∈ (ynt as i).2 :: yarg as l from ha) with rfl | ha
    · exact ynt_sc hn h
    · exact yarg_sc hn h a ha
theorem yarg_map {ρ : Nat → Int} (h0 : ρ 0 = 0) {as : List yV} : ∀ (l : List Nat), (yarg as l).map (fun a => ρ a.1 + a.2) = l.map (fun i => (qnt (as.map (yc ρ)) i).2)
  | [] => rfl
  | i :: l => by
    show (ρ (ynt as i).2.1 + (ynt as i).2.2) :: (yarg as l).map (fun a => ρ a.1 + a.2) = (qnt (as.map (yc ρ)) i).2 :: l.map (fun i => (qnt (as.map (yc ρ)) i).2)
    rw [yarg_map h0 l, qnt_map h0]; rfl
noncomputable def ysc (L : Nat) (xs : Nat → Int) (k : Nat) : Option (Nat × (Nat → Int)) := bif Nat.beq k 305 then some (L, xs) else none
noncomputable def yKOK (L : Nat) (xs : Nat → Int) (w0 : qW) (gf : Nat → Nat → Option yI) (ga : Nat → Option yI) (ra : Nat → Nat → List Int) (Sp : qW → Prop) (gh : Nat → List Int → Int) (ρ : Nat → Int) (n : Nat) (Q : qV → qW → Nat → Prop) (K : yK) : Prop := ∀ ρ' S' v w', yag n ρ ρ' → n ≤ S'.1 → yG L xs w0 gf ga ra Sp gh ρ' S' w' → v.2.1 < S'.1 → K S' v = true → Q (yc ρ' v) w' 142
noncomputable def yLOK (L : Nat) (xs : Nat → Int) (w0 : qW) (gf : Nat → Nat → Option yI) (ga : Nat → Option yI) (ra : Nat → Nat → List Int) (Sp : qW → Prop) (gh : Nat → List Int → Int) (D k : Nat) (Q : qV → qW → Nat → Prop) (ρ : Nat → Int) (n : Nat) (c : yLC) : Prop :=
  ySc n c.2.2.2.1 ∧ ySc n c.2.2.2.2.1 ∧ (∀ e ∈ c.2.2.2.2.2.1, e.2.1 < n ∧ e.2.2.2.1 < n) ∧ ∀ cls w', ymt ρ c.2.2.1 c.2.2.2.1 cls → (∀ e ∈ c.2.2.2.2.2.1, yrd xs w' e.1 (ρ e.2.1 + e.2.2.1).toNat = ρ e.2.2.2.1 + e.2.2.2.2) → (∀ p j, ymd p j c.2.2.2.2.2.2.1 = false → w' p j = w0 p j) → yInv gf ga ra Sp w' → yms c.2.2.2.2.2.2.2 cls < yms c.2.2.2.2.2.2.2 (c.2.2.2.1.map (yc ρ)) → qG (ysc L xs k) D k c.1 cls (c.2.2.2.2.1.map (yc ρ)) w' 142 Q
noncomputable def yXOK (L : Nat) (xs : Nat → Int) (w0 : qW) (gf : Nat → Nat → Option yI) (ga : Nat → Option yI) (ra : Nat → Nat → List Int) (Sp : qW → Prop) (gh : Nat → List Int → Int) (X : yXt) : Prop := ∀ ctx d D k pc ls st S K ρ w Q, d ≤ D → X ctx d k pc ls st S K = true → yG L xs w0 gf ga ra Sp gh ρ S w → ySc S.1 ls → ySc S.1 st → yKOK L xs w0 gf ga ra Sp gh ρ S.1 Q K → (∀ c ∈ ctx, yLOK L xs w0 gf ga ra Sp gh D k Q ρ S.1 c) → qG (ysc L xs k) D k pc (ls.map (yc ρ)) (st.map (yc ρ)) w 142 Q
/-- a contract is right -/
noncomputable def yCOK (w0 : qW) (gf : Nat → Nat → Option yI) (ga : Nat → Option yI) (ra : Nat → Nat → List Int) (Sp : qW → Prop) (gh : Nat → List Int → Int) (t : Nat) (c : yC) : Prop := ∀ d (as : List qV) (w : qW), c.1 ≤ d → yamc c.2.1 as → yInv gf ga ra Sp w → (∀ p, ymem p c.2.2.2.2.1 = true → ∀ j, w p j = w0 p j) → (∀ e ∈ c.2.2.2.2.2.1, 0 < e.1 → w e.1 e.2.1 = e.2.2) →
  qG none d t 0 (qini t as) [] w 142 (fun v w' n' => (v.1 = c.2.2.1.1 ∧ yin c.2.2.1.2 v.2) ∧ yInv gf ga ra Sp w' ∧ n' = 142 ∧ (∀ p j, (p < 1000 → ymo p j c.2.2.2.1 = false) → w' p j = w p j) ∧ (∀ e ∈ c.2.2.2.2.2.2.1, 0 < e.1 ∧ w' e.1 e.2.1 = e.2.2) ∧ (Nat.beq c.2.2.2.2.2.2.2.1 0 = false → v.2 = gh c.2.2.2.2.2.2.2.1 (c.2.2.2.2.2.2.2.2.map (fun i => (qnt as i).2))))
theorem yKOK.mono {ρ ρ' : Nat → Int} {n n' : Nat} {Q : qV → qW → Nat → Prop} {K : yK} (h : yKOK L xs w0 gf ga ra Sp gh ρ n Q K) (ha : yag n ρ ρ') (hn : n ≤ n') : yKOK L xs w0 gf ga ra Sp gh ρ' n' Q K := fun ρ'' S' v w' a1 a2 a3 a4 a5 => h ρ'' S' v w' (ha.tr a1 hn) (by omega) a3 a4 a5
theorem ymt_ag {ρ ρ' : Nat → Int} {n : Nat} (ha : yag n ρ ρ') : ∀ {h : yHv} {l : List yV} {m : List qV}, ySc n l → ymt ρ' h l m → ymt ρ h l m
  | some b :: h, _ :: l, c :: m, hl, e => ⟨e.1, ymt_ag ha hl.tl e.2⟩
  | none :: h, a :: l, c :: m, hl, e => by
    have e : c = yc ρ' a ∧ ymt ρ' h l m := e
    exact ⟨by rw [e.1, yc_ag ha hl.hd], ymt_ag ha hl.tl e.2⟩
  | [], l, m, hl, e => by
    have e : m = l.map (yc ρ') := e
    show m = l.map (yc ρ)
    rw [e, ym_ag ha hl]
  | some _ :: _, [], m, hl, e => e
  | none :: _, [], m, hl, e => e
  | some _ :: _, _ :: _, [], _, e => e.elim
  | none :: _, _ :: _, [], _, e => e.elim
theorem yLOK.mono {D k : Nat} {ρ ρ' : Nat → Int} {n n' : Nat} {Q : qV → qW → Nat → Prop} {c : yLC} (h : yLOK L xs w0 gf ga ra Sp gh D k Q ρ n c) (ha : yag n ρ ρ') (hn : n ≤ n') : yLOK L xs w0 gf ga ra Sp gh D k Q ρ' n' c := by
  obtain ⟨h1, h2, h3, h4⟩ := h
  refine ⟨h1.mono hn, h2.mono hn, fun e he => ⟨by have := (h3 e he).1; omega, by have := (h3 e he).2; omega⟩, fun cls w' b1 b2 b3 b4 b5 => ?_⟩
  rw [ym_ag ha h2]
  rw [ym_ag ha h1] at b5
  refine h4 cls w' (ymt_ag ha h1 b1) (fun e he => ?_) b3 b4 b5
  have := b2 e he
  rw [ha _ (h3 e he).1, ha _ (h3 e he).2] at this
  exact this
end ExOK
end
section
/-! the run over symbols is right: calls, loops -/
theorem qG.retl {sc : Option (Nat × (Nat → Int))} {d k pc n len : Nat} {ls : List qV} {w : qW} {Q : qV → qW → Nat → Prop} {x : Int} (h : qcd k pc = some (.ireturn, len)) (hok : qrok (qrt k) (0, x) = true) (hq : Q (0, x) w n) : qG sc d k pc ls [(0, x)] w n Q := by
  refine ⟨1, (0, x), w, n, ?_, hq⟩
  rw [qex_s, h]
  show (if qrok (qrt k) (0, x) = true then some ((0, x), w, n) else none) = _
  rw [if_pos hok]
theorem qG.retw {sc : Option (Nat × (Nat → Int))} {d k pc n len : Nat} {ls : List qV} {w : qW} {Q : qV → qW → Nat → Prop} (h : qcd k pc = some (.return_, len)) (hok : Nat.beq (qrt k) 0 = true) (hq : Q (9, 0) w n) : qG sc d k pc ls [] w n Q := by
  refine ⟨1, (9, 0), w, n, ?_, hq⟩
  rw [qex_s, h]
  show (if Nat.beq (qrt k) 0 = true then some ((9, 0), w, n) else none) = _
  rw [if_pos hok]
section ExGo
variable {L : Nat} {xs : Nat → Int} {w0 : qW} {gf : Nat → Nat → Option yI} {ga : Nat → Option yI} {ra : Nat → Nat → List Int} {Sp : qW → Prop} {gh : Nat → List Int → Int} {bv : Nat → Nat → Option Int} {bb : Nat → Option yI} {ct : Nat → List yC} {an : Nat → Nat → Option yA} {fk : Nat → Nat → Option Nat}
theorem ymt_hv {ρ : Nat → Int} : ∀ {h : yHv} {n : Nat} {l : List yV} {m : List qV}, ymt ρ h (yhv h n l) m → ymt ρ h l m
  | some b :: h, n, a :: l, c :: m, e => ⟨e.1, ymt_hv (n := n + 1) e.2⟩
  | none :: h, n, a :: l, c :: m, e => ⟨e.1, ymt_hv (n := n) e.2⟩
  | [], n, l, m, e => e
  | some _ :: _, n, [], m, e => e
  | none :: _, n, [], m, e => e
  | some _ :: _, _, _ :: _, [], e => e.elim
  | none :: _, _, _ :: _, [], e => e.elim
theorem yOK.sub {ρ : Nat → Int} {S S1 : yS} {N : yN} {o : Option qC} (e : S1.1 = S.1) (h : yOK L xs w0 gf ga ra Sp gh ρ S1 N o) : yOK L xs w0 gf ga ra Sp gh ρ S N o := by
  obtain ⟨pc', ls', st', S', ρ', w', h1, h2, h3, h4, h5, h6, h7⟩ := h
  rw [e] at h2 h3
  exact ⟨pc', ls', st', S', ρ', w', h1, h2, h3, h4, h5, h6, h7⟩
theorem ymth_ok {ρ : Nat → Int} {S : yS} {w : qW} {t pc : Nat} {ls st : List yV} {N : yN} (h : ymth t pc ls st S N = true) (g : yG L xs w0 gf ga ra Sp gh ρ S w) (hl : ySc S.1 ls) (hs : ySc S.1 st) : yOK L xs w0 gf ga ra Sp gh ρ S N (qmt t pc (ls.map (yc ρ)) (st.map (yc ρ)) w 142) := by
  have h0 : 0 < S.1 := by have := g.1.2.1; omega
  unfold ymth at h
  split at h
  · rename_i s o r
    have kq := ylt_ok h g hs.hd h0
    rw [show ρ 0 + 0 = 0 from by rw [g.1.1]; rfl] at kq
    have eq : ∀ x, (if 0 ≤ ρ s + o then ρ s + o else wrp (0 - (ρ s + o))) = x → qmt 902 pc (ls.map (yc ρ)) (((0, s, o) :: r : List yV).map (yc ρ)) w 142 = some (pc + 3, ls.map (yc ρ), (0, x) :: r.map (yc ρ), w, 142) := fun x hx => by subst hx; rfl
    by_cases z : ρ s + o < 0
    · obtain ⟨S1, e1, g1, h1⟩ := kq.1 z
      exact yOK.sub e1 (yOK.r1 (S := S1) (pc := pc + 3) (ls := ls) (r := r) (yneg_ok h1 g1) (eq _ (by rw [if_neg (by omega), Int.zero_sub])) (by rw [e1]; exact hl) (by rw [e1]; exact hs.tl))
    · exact yOK.r0 (pc := pc + 3) (ls := ls) (st := (0, s, o) :: r) (kq.2 z) (eq _ (if_pos (by omega))) hl hs
  · rename_i s2 o2 s1 o1 r
    have kq := ylt_ok h g hs.tl.hd hs.hd
    have eq : ∀ x, (if ρ s1 + o1 < ρ s2 + o2 then ρ s2 + o2 else ρ s1 + o1) = x → qmt 903 pc (ls.map (yc ρ)) (((0, s2, o2) :: (0, s1, o1) :: r : List yV).map (yc ρ)) w 142 = some (pc + 3, ls.map (yc ρ), (0, x) :: r.map (yc ρ), w, 142) := fun x hx => by subst hx; rfl
    by_cases z : ρ s1 + o1 < ρ s2 + o2
    · exact yOK.r0 (pc := pc + 3) (ls := ls) (st := (0, s2, o2) :: r) (kq.1 z) (eq _ (if_pos z)) hl (ySc.cons hs.hd hs.tl.tl)
    · exact yOK.r0 (pc := pc + 3) (ls := ls) (st := (0, s1, o1) :: r) (kq.2 z) (eq _ (if_neg z)) hl hs.tl
  · rename_i s2 o2 s1 o1 r
    have kq := ylt_ok h g hs.hd hs.tl.hd
    have eq : ∀ x, (if ρ s2 + o2 < ρ s1 + o1 then ρ s2 + o2 else ρ s1 + o1) = x → qmt 904 pc (ls.map (yc ρ)) (((0, s2, o2) :: (0, s1, o1) :: r : List yV).map (yc ρ)) w 142 = some (pc + 3, ls.map (yc ρ), (0, x) :: r.map (yc ρ), w, 142) := fun x hx => by subst hx; rfl
    by_cases z : ρ s2 + o2 < ρ s1 + o1
    · exact yOK.r0 (pc := pc + 3) (ls := ls) (st := (0, s2, o2) :: r) (kq.1 z) (eq _ (if_pos z)) hl (ySc.cons hs.hd hs.tl.tl)
    · exact yOK.r0 (pc := pc + 3) (ls := ls) (st := (0, s1, o1) :: r) (kq.2 z) (eq _ (if_neg z)) hl hs.tl
  · rename_i s2 o2 s1 o1 r
    have kq := ylt_ok h g hs.hd hs.tl.hd
    have eq : ∀ x, (if ρ s2 + o2 < ρ s1 + o1 then ρ s1 + o1 else ρ s2 + o2) = x → qmt 905 pc (ls.map (yc ρ)) (((1, s2, o2) :: (1, s1, o1) :: r : List yV).map (yc ρ)) w 142 = some (pc + 3, ls.map (yc ρ), (1, x) :: r.map (yc ρ), w, 142) := fun x hx => by subst hx; rfl
    by_cases z : ρ s2 + o2 < ρ s1 + o1
    · exact yOK.r0 (pc := pc + 3) (ls := ls) (st := (1, s1, o1) :: r) (kq.1 z) (eq _ (if_pos z)) hl hs.tl
    · exact yOK.r0 (pc := pc + 3) (ls := ls) (st := (1, s2, o2) :: r) (kq.2 z) (eq _ (if_neg z)) hl (ySc.cons hs.hd hs.tl.tl)
  · rename_i x r
    split at h
    · rename_i l hq
      have e0 : yc ρ (3, 0, x) = (3, x) := by show ((3, ρ 0 + x) : qV) = _; rw [g.1.1, Int.zero_add]
      have e1 : yc ρ (0, 0, (l.length : Int)) = (0, (l.length : Int)) := by show ((0, ρ 0 + _) : qV) = _; rw [g.1.1, Int.zero_add]
      refine ⟨pc + 3, ls, (0, 0, (l.length : Int)) :: r, S, ρ, w, ?_, Nat.le_refl _, yag.rf, hl, ySc.cons h0 hs.tl, g, h⟩
      rw [List.map_cons, List.map_cons, e0, e1]
      show (match qtxb x with
        | some l => some (pc + 3, ls.map (yc ρ), ((0, (l.length : Int)) : qV) :: r.map (yc ρ), w, 142)
        | none => none) = _
      rw [hq]
    · cases h
  · rename_i s o x r
    split at h
    · rename_i l a b hq hv
      have e0 : yc ρ (3, 0, x) = (3, x) := by show ((3, ρ 0 + x) : qV) = _; rw [g.1.1, Int.zero_add]
      rw [Bool.and_eq_true, Bool.and_eq_true, yle_i, yle_i] at h
      obtain ⟨h1, h2, h⟩ := h
      have k := yiv_ok g hv
      have eq : qmt 907 pc (ls.map (yc ρ)) (((0, s, o) :: (3, 0, x) :: r : List yV).map (yc ρ)) w 142 = some (pc + 3, ls.map (yc ρ), (0, l.getD (ρ s + o).toNat 0) :: r.map (yc ρ), w, 142) := by
        rw [List.map_cons, List.map_cons, e0]
        show (match qtxb x with
          | some l => if 0 ≤ ρ s + o ∧ ρ s + o < (l.length : Int) then some (pc + 3, ls.map (yc ρ), ((0, l.getD (ρ s + o).toNat 0) : qV) :: r.map (yc ρ), w, 142) else none
          | none => none) = _
        rw [hq]
        exact if_pos ⟨by omega, by omega⟩
      obtain ⟨x0, hl8⟩ := qtxb_in hq
      have hb := (qtc_in hl8).2
      by_cases e : yqi a b = true
      · rw [e, cond_true] at h
        have ab := yqi_i.mp e
        have e3 : ρ s + o = a := by omega
        rw [e3] at eq
        have e1 : yc ρ (0, 0, l.getD a.toNat 0) = (0, l.getD a.toNat 0) := by show ((0, ρ 0 + _) : qV) = _; rw [g.1.1, Int.zero_add]
        exact ⟨pc + 3, ls, (0, 0, l.getD a.toNat 0) :: r, S, ρ, w, by rw [eq, List.map_cons, e1], Nat.le_refl _, yag.rf, hl, ySc.cons h0 hs.tl.tl, g, h⟩
      · rw [ybf e, cond_false] at h
        exact yOK.r1 (pc := pc + 3) (ls := ls) (r := r) (ynum_ok h g ⟨(hb _).1, (hb _).2⟩) eq hl hs.tl.tl
    · cases h
  · rename_i s o x r
    split at h
    · rename_i l hq
      have e0 : yc ρ (3, 0, x) = (3, x) := by show ((3, ρ 0 + x) : qV) = _; rw [g.1.1, Int.zero_add]
      have eq : qmt 908 pc (ls.map (yc ρ)) (((0, s, o) :: (3, 0, x) :: r : List yV).map (yc ρ)) w 142 = some (pc + 3, ls.map (yc ρ), (0, qix l (ρ s + o) 0) :: r.map (yc ρ), w, 142) := by
        rw [List.map_cons, List.map_cons, e0]
        show (match qtxb x with
          | some l => some (pc + 3, ls.map (yc ρ), ((0, qix l (ρ s + o) 0) : qV) :: r.map (yc ρ), w, 142)
          | none => none) = _
        rw [hq]
      have k := qix_in l (ρ s + o) 0 (Int.le_refl 0)
      exact yOK.r1 (pc := pc + 3) (ls := ls) (r := r) (ynum_ok h g ⟨by show (-1 : Int) ≤ _; omega, by show _ ≤ (l.length : Int); omega⟩) eq hl hs.tl.tl
    · cases h
  · cases h
theorem ycpy_ok {ρ : Nat → Int} {S : yS} {w : qW} {pc : Nat} {ls st : List yV} {N : yN} (hSp : ∀ w w' p, (yarr p = false → (∃ j, gf p j ≠ none) ∨ ∃ j, ra p j ≠ []) → (yarr p = true → ga p ≠ none) → (∀ q, q ≠ p → ∀ i, w' q i = w q i) → Sp w → Sp w') (h : ycpy ga pc ls st S N = true) (g : yG L xs w0 gf ga ra Sp gh ρ S w) (hl : ySc S.1 ls) (hs : ySc S.1 st) : yOK L xs w0 gf ga ra Sp gh ρ S N (qac pc (ls.map (yc ρ)) (st.map (yc ρ)) w 142) := by
  unfold ycpy at h
  split at h
  · rename_i ms mo ds d b ss s a r
    split at h
    · rename_i la x9 lb x8 m1 m2 x1 x2 y1 y2 hpa hpb hm hga hgb
      simp only [Bool.and_eq_true, yle_i] at h
      obtain ⟨e1, e2, c1, c2, c3, c4, c5, c6, c7, c8, c9, c10, c11, h⟩ := h
      have e1 := Nat.eq_of_beq_eq_true e1
      have e2 := Nat.eq_of_beq_eq_true e2
      subst e1
      subst e2
      have k := yiv_ok g hm
      have z0 : ∀ v : Int, ρ 0 + v = v := fun v => by rw [g.1.1, Int.zero_add]
      have hyb : yarr b.toNat = true := yarr_0 hpb
      have hya : yarr a.toNat = true := yarr_0 hpa
      have hu : ∀ q, q ≠ b.toNat → ∀ i, qcpy w a.toNat b.toNat s.toNat d.toNat (ρ ms + mo).toNat q i = w q i := fun q hq i => by
        show (if q = b.toNat then _ else w q) i = _
        rw [if_neg hq]
      have hI : yInv gf ga ra Sp (qcpy w a.toNat b.toNat s.toNat d.toNat (ρ ms + mo).toNat) := by
        have gi := g.2.2.2.2.1
        refine ⟨fun q i b9 hb hy => ?_, fun q i b9 hb hy => ?_, fun q i hr hy => ?_, hSp w _ b.toNat (fun z => by rw [hyb] at z; cases z) (fun _ => by rw [hgb]; exact fun z => by cases z) hu gi.2.2.2⟩
        · rw [hu q (fun z => by rw [z, hyb] at hy; cases hy)]; exact gi.1 q i b9 hb hy
        · by_cases c : q = b.toNat
          · subst c
            rw [hgb] at hb
            cases hb
            have q1 := gi.2.1 a.toNat (s.toNat + (i - d.toNat)) _ hga hya
            have q2 := gi.2.1 b.toNat i _ hgb hyb
            show yin (y1, y2) ((if b.toNat = b.toNat then (fun j => if d.toNat ≤ j ∧ j < d.toNat + (ρ ms + mo).toNat then w a.toNat (s.toNat + (j - d.toNat)) else w b.toNat j) else w b.toNat) i)
            rw [if_pos rfl]
            show yin (y1, y2) (if d.toNat ≤ i ∧ i < d.toNat + (ρ ms + mo).toNat then w a.toNat (s.toNat + (i - d.toNat)) else w b.toNat i)
            split
            · have a1 : x1 ≤ w a.toNat (s.toNat + (i - d.toNat)) := q1.1
              have a2 : w a.toNat (s.toNat + (i - d.toNat)) ≤ x2 := q1.2
              exact ⟨by show y1 ≤ _; omega, by show _ ≤ y2; omega⟩
            · exact q2
          · rw [hu q c]; exact gi.2.1 q i b9 hb hy
        · rw [hu q (fun z => by rw [z, hyb] at hy; cases hy)]; exact gi.2.2.1 q i hr hy
      have gp := yhav_ok (m := [b.toNat]) g hI (fun p j hp => hu p (fun z => by
        subst z
        have hp : (Nat.beq b.toNat b.toNat || false || (Nat.beq b.toNat (1000 * (j + 1) + b.toNat) || false)) = false := hp (by omega)
        rw [Nat.beq_refl] at hp; cases hp) j)
      refine ⟨pc + 3, ls, r, yhav S [b.toNat], ρ, _, ?_, Nat.le_refl _, yag.rf, hl, hs.tl.tl.tl.tl.tl, gp, h⟩
      rw [List.map_cons, List.map_cons, List.map_cons, List.map_cons, List.map_cons, show yc ρ (2, 0, b) = (2, b) from by show (2, ρ 0 + b) = _; rw [z0], show yc ρ (2, 0, a) = (2, a) from by show (2, ρ 0 + a) = _; rw [z0], show yc ρ (0, 0, d) = (0, d) from by show (0, ρ 0 + d) = _; rw [z0], show yc ρ (0, 0, s) = (0, s) from by show (0, ρ 0 + s) = _; rw [z0], show yc ρ (0, ms, mo) = (0, ρ ms + mo) from rfl]
      show (match qpl a.toNat, qpl b.toNat with
        | (1, 0, la, _), (1, 0, lb, _) => if (0 ≤ ρ ms + mo ∧ 0 ≤ d ∧ 0 ≤ s ∧ s + (ρ ms + mo) ≤ la ∧ d + (ρ ms + mo) ≤ lb) ∧ (0 < a ∧ a ≤ ((142 : Nat) : Int)) ∧ 0 < b ∧ b ≤ ((142 : Nat) : Int) then some (pc + 3, ls.map (yc ρ), r.map (yc ρ), qcpy w a.toNat b.toNat s.toNat d.toNat (ρ ms + mo).toNat, 142) else none
        | _, _ => none) = _
      rw [hpa, hpb]
      show (if (0 ≤ ρ ms + mo ∧ 0 ≤ d ∧ 0 ≤ s ∧ s + (ρ ms + mo) ≤ la ∧ d + (ρ ms + mo) ≤ lb) ∧ (0 < a ∧ a ≤ ((142 : Nat) : Int)) ∧ 0 < b ∧ b ≤ ((142 : Nat) : Int) then some (pc + 3, ls.map (yc ρ), r.map (yc ρ), qcpy w a.toNat b.toNat s.toNat d.toNat (ρ ms + mo).toNat, 142) else none) = _
      rw [if_pos ⟨⟨by omega, by omega, by omega, by omega, by omega⟩, ⟨by omega, by omega⟩, by omega, by omega⟩]
    · cases h
  · cases h
theorem yfind_ok {ρ : Nat → Int} {S : yS} {w : qW} {d : Nat} {as : List yV} {c : yC} (g : yG L xs w0 gf ga ra Sp gh ρ S w) : ∀ {l : List yC}, yfind S d as l = some c → c ∈ l ∧ c.1 ≤ d ∧ yamc c.2.1 (as.map (yc ρ)) ∧ (∀ p, ymem p c.2.2.2.2.1 = true → ∀ j, ymd p j S.2.2.2.1 = false) ∧ ∀ e ∈ c.2.2.2.2.2.1, 0 < e.1 → w e.1 e.2.1 = e.2.2
  | [], h => by cases h
  | a :: r, h => by
    unfold yfind at h
    by_cases e : (Nat.ble a.1 d && (yam S.2.1 a.2.1 as && (ynone S.2.2.2.1 a.2.2.2.2.1 && ypre S.2.2.1 a.2.2.2.2.2.1))) = true
    · rw [e] at h
      have h : some a = some c := h
      cases h
      rw [Bool.and_eq_true, Bool.and_eq_true, Bool.and_eq_true] at e
      refine ⟨List.mem_cons_self, Nat.le_of_ble_eq_true e.1, yam_ok g e.2.1, ?_, ypre_ok g e.2.2.2⟩
      have key : ∀ (l : List Nat), ynone S.2.2.2.1 l = true → ∀ p, ymem p l = true → ∀ j, ymd p j S.2.2.2.1 = false := by
        intro l
        induction l with
        | nil => intro _ p hp; cases hp
        | cons q l ih =>
          intro hn p hp j
          have hn : (ycln q S.2.2.2.1 && ynone S.2.2.2.1 l) = true := hn
          rw [Bool.and_eq_true] at hn
          have hp : (Nat.beq q p || ymem p l) = true := hp
          rw [Bool.or_eq_true] at hp
          rcases hp with hp | hp
          · rw [← Nat.eq_of_beq_eq_true hp]
            exact ycln_ok hn.1
          · exact ih hn.2 p hp j
      exact key _ e.2.2.1
    · rw [ybf e] at h
      have := yfind_ok g (l := r) h
      exact ⟨List.mem_cons_of_mem _ this.1, this.2⟩
theorem qsc_n {t : Nat} (h : (!Nat.beq t 305) = true) : ysc L xs t = none := by
  unfold ysc
  cases hq : Nat.beq t 305
  · rfl
  · rw [hq] at h; cases h
theorem ycall_ok {X : yXt} (hX : yXOK L xs w0 gf ga ra Sp gh X) (hct : ∀ t c, c ∈ ct t → yCOK w0 gf ga ra Sp gh t c) {ctx : List yLC} {d D k t na sk md pc : Nat} {ls st : List yV} {S : yS} {K : yK} {ρ : Nat → Int} {w : qW} {Q : qV → qW → Nat → Prop} (hq : qcq k pc = some (t, na, sk, md)) (ht : Nat.ble 900 t = false) (hd : d ≤ D) (h : ycall ct X ctx d k t na sk md pc ls st S K = true) (g : yG L xs w0 gf ga ra Sp gh ρ S w) (hl : ySc S.1 ls) (hs : ySc S.1 st) (hK : yKOK L xs w0 gf ga ra Sp gh ρ S.1 Q K) (hc : ∀ c ∈ ctx, yLOK L xs w0 gf ga ra Sp gh D k Q ρ S.1 c) : qG (ysc L xs k) D k pc (ls.map (yc ρ)) (st.map (yc ρ)) w 142 Q := by
  have h0 : 0 < S.1 := by have := g.1.2.1; omega
  unfold ycall at h
  cases d with
  | zero => cases h
  | succ d' =>
    obtain ⟨D', rfl⟩ : ∃ D', D = D' + 1 := ⟨D - 1, by omega⟩
    have h : (ycok t na sk md st && (!Nat.beq t 305 && (match yfind S d' (ytk na st []) (ct t) with
      | some c => bif Nat.beq c.2.2.1.1 9 then X ctx (d' + 1) k (pc + 3) ls (ydr na st) (yhav2 S c.2.2.2.1 c.2.2.2.2.2.2.1) K else (Nat.beq c.2.2.1.1 0 && ygho (yhav2 S c.2.2.2.1 c.2.2.2.2.2.2.1) c.2.2.2.2.2.2.2.1 (yarg (ytk na st []) c.2.2.2.2.2.2.2.2) c.2.2.1.2 (fun v S => X ctx (d' + 1) k (pc + 3) ls (v :: ydr na st) S K))
      | none => X [] d' t 0 (yini t (ytk na st [])) [] S (fun S v => X ctx (d' + 1) k (pc + 3) ls (ypsh v (ydr na st)) S K)))) = true := h
    rw [Bool.and_eq_true, Bool.and_eq_true] at h
    obtain ⟨hok, h305, h⟩ := h
    have hr : ySc S.1 (ydr na st) := ydr_sc hs
    have ha : ySc S.1 (ytk na st []) := ytk_sc hs ynil_sc
    have ea : qtk na (st.map (yc ρ)) [] = (ytk na st []).map (yc ρ) := qtk_map na st []
    split at h
    · rename_i c hf
      obtain ⟨hcm, hcd, hca, hcn, hcp⟩ := yfind_ok g hf
      have con := hct t c hcm D' ((ytk na st []).map (yc ρ)) w (by omega) hca g.2.2.2.2.1 (fun p hp j => g.2.2.2.1 p j (hcn p hp j)) hcp
      rw [← ea] at con
      refine qG.call (r1 := (ydr na st).map (yc ρ)) hq ht (ycok_ok g.1.1 hok) rfl (qdr_map na st) con ?_
      rintro ⟨vk, vx⟩ w' n' ⟨⟨hv1, hv2⟩, hI, rfl, hw, hqp, hgh⟩
      have hv1 : vk = c.2.2.1.1 := hv1
      have g1 := yhav2_ok (m := c.2.2.2.1) g hI hw hqp
      by_cases e : Nat.beq c.2.2.1.1 9 = true
      · rw [e] at h
        rw [hv1, Nat.eq_of_beq_eq_true e]
        exact hX ctx (d' + 1) (D' + 1) k (pc + 3) ls (ydr na st) (yhav2 S c.2.2.2.1 c.2.2.2.2.2.2.1) K ρ w' Q hd h g1 hl hr hK hc
      · rw [ybf e, cond_false, Bool.and_eq_true] at h
        rw [hv1, Nat.eq_of_beq_eq_true h.1]
        obtain ⟨ρ', S', v, q1, q2, q3, q4, q5, q6⟩ := ygho_ok h.2 g1 (yarg_sc h0 ha) hv2 (fun z => by rw [yarg_map g.1.1, hgh z, ea])
        have := hX ctx (d' + 1) (D' + 1) k (pc + 3) ls (v :: ydr na st) S' K ρ' w' Q hd q6 q3 (hl.mono q1) (ySc.cons q4 (hr.mono q1)) (hK.mono q2 q1) (fun c hc9 => (hc c hc9).mono q2 q1)
        rw [ym_ag q2 hl, List.map_cons, ym_ag q2 hr, q5] at this
        exact this
    · have hin : qG none D' t 0 ((yini t (ytk na st [])).map (yc ρ)) [] w 142 (fun v w' n' => n' = 142 ∧ qG (ysc L xs k) (D' + 1) k (pc + 3) (ls.map (yc ρ)) (qpsh v ((ydr na st).map (yc ρ))) w' 142 Q) := by
        have := hX [] d' D' t 0 (yini t (ytk na st [])) [] S _ ρ w (fun v w' n' => n' = 142 ∧ qG (ysc L xs k) (D' + 1) k (pc + 3) (ls.map (yc ρ)) (qpsh v ((ydr na st).map (yc ρ))) w' 142 Q) (by omega) h g (yini_sc h0 ha) ynil_sc (fun ρ' S' v w' q1 q2 q3 q4 q5 => ⟨rfl, ?_⟩) (fun c hc9 => by cases hc9)
        · rw [qsc_n h305] at this
          exact this
        · have := hX ctx (d' + 1) (D' + 1) k (pc + 3) ls (ypsh v (ydr na st)) S' K ρ' w' Q hd q5 q3 (hl.mono q2) (ypsh_sc q4 (hr.mono q2)) (hK.mono q1 q2) (fun c hc9 => (hc c hc9).mono q1 q2)
          rw [ym_ag q1 hl, ← qpsh_map, ym_ag q1 hr] at this
          exact this
      refine qG.call (ls1 := (yini t (ytk na st [])).map (yc ρ)) (r1 := (ydr na st).map (yc ρ)) hq ht (ycok_ok g.1.1 hok) (by rw [ea]; exact qini_map g.1.1 t _) (qdr_map na st) hin ?_
      rintro v w' n' ⟨rfl, hk⟩
      exact hk
theorem qmm_mono {t md d D : Nat} (h : qmm t md d = true) (hd : d ≤ D) : qmm t md D = true := by
  unfold qmm at h ⊢
  by_cases e : Nat.ble 906 t = true
  · rw [e, cond_true, Bool.and_eq_true] at h ⊢
    exact ⟨h.1, Nat.ble_eq_true_of_le (Nat.le_trans (Nat.le_of_ble_eq_true h.2) hd)⟩
  · rw [ybf e, cond_false, Bool.and_eq_true] at h ⊢
    exact ⟨h.1, Nat.ble_eq_true_of_le (Nat.le_trans (Nat.le_of_ble_eq_true h.2) hd)⟩
theorem qmm_pos {t md d : Nat} (h : qmm t md d = true) : 0 < d := by
  unfold qmm at h
  by_cases e : Nat.ble 906 t = true
  · rw [e, cond_true, Bool.and_eq_true] at h
    have := Nat.le_of_ble_eq_true h.2; omega
  · rw [ybf e, cond_false, Bool.and_eq_true] at h
    have := Nat.le_of_ble_eq_true h.2; omega
theorem yinv_ok {X : yXt} (hX : yXOK L xs w0 gf ga ra Sp gh X) (hct : ∀ t c, c ∈ ct t → yCOK w0 gf ga ra Sp gh t c) (hgh0 : ∀ x c, gh 1000 [x, c] = qand x c) (hbv : ∀ p j c, bv p j = some c → w0 p j = c) (hbb : ∀ p r, bb p = some r → ∀ j, yin r (w0 p j)) (hxs : ∀ j, yin y32 (xs j)) (hSp : ∀ w w' p, (yarr p = false → (∃ j, gf p j ≠ none) ∨ ∃ j, ra p j ≠ []) → (yarr p = true → ga p ≠ none) → (∀ q, q ≠ p → ∀ i, w' q i = w q i) → Sp w → Sp w') {ctx : List yLC} {d D k i md pc len : Nat} {ins : Instr} {ls st : List yV} {S : yS} {K : yK} {ρ : Nat → Int} {w : qW} {Q : qV → qW → Nat → Prop} (hq0 : qcd k pc = some (ins, len)) (hi : (ins = .invokestatic i ∧ md = 0) ∨ (ins = .invokevirtual i ∧ md = 1) ∨ (ins = .invokespecial i ∧ md = 2)) (hd : d ≤ D) (h : yinv ga ct X ctx d k i md pc ls st S K = true) (g : yG L xs w0 gf ga ra Sp gh ρ S w) (hl : ySc S.1 ls) (hs : ySc S.1 st) (hK : yKOK L xs w0 gf ga ra Sp gh ρ S.1 Q K) (hc : ∀ c ∈ ctx, yLOK L xs w0 gf ga ra Sp gh D k Q ρ S.1 c) : qG (ysc L xs k) D k pc (ls.map (yc ρ)) (st.map (yc ρ)) w 142 Q := by
  unfold yinv at h
  split at h
  · rename_i t na sk hqm
    have hq : qcq k pc = some (t, na, sk, md) := by
      unfold qcq
      rw [hq0]
      rcases hi with ⟨rfl, rfl⟩ | ⟨rfl, rfl⟩ | ⟨rfl, rfl⟩ <;> (show (qmd (qow k) i).map _ = _; rw [hqm]; rfl)
    have fin : ∀ o : Option qC, yOK L xs w0 gf ga ra Sp gh ρ S (fun pc ls st S => X ctx d k pc ls st S K) o → ∃ pc' ls' st' w', o = some (pc', ls', st', w', 142) ∧ qG (ysc L xs k) D k pc' ls' st' w' 142 Q := fun o hok => by
      obtain ⟨pc', ls', st', S', ρ', w', q1, q2, q3, q4, q5, q6, q7⟩ := hok
      exact ⟨_, _, _, _, q1, hX ctx d D k pc' ls' st' S' K ρ' w' Q hd q7 q6 q4 q5 (hK.mono q3 q2) (fun c hc9 => (hc c hc9).mono q3 q2)⟩
    by_cases e : Nat.ble 900 t = true
    · rw [e, cond_true] at h
      by_cases e2 : Nat.beq t 901 = true
      · rw [e2, cond_true, Bool.and_eq_true, Bool.and_eq_true, Bool.and_eq_true] at h
        obtain ⟨hmd, hd1, h⟩ := h
        have hmd := Nat.eq_of_beq_eq_true hmd
        subst hmd
        obtain ⟨D', rfl⟩ : ∃ D', D = D' + 1 := ⟨D - 1, by have := Nat.le_of_ble_eq_true hd1; omega⟩
        have e2 := Nat.eq_of_beq_eq_true e2
        subst e2
        obtain ⟨pc', ls', st', w', q1, q2⟩ := fin _ (ycpy_ok hSp h.2 g hl hs)
        exact qG.cpy (P := True) hq (by rw [qdr_map, qcat_map]; exact h.1) (by rw [if_pos trivial]; exact q1) trivial q2
      · rw [ybf e2, cond_false, Bool.and_eq_true, Bool.and_eq_true, Bool.and_eq_true] at h
        obtain ⟨h902, hmm, h8, h⟩ := h
        have hmm := qmm_mono hmm hd
        obtain ⟨D', rfl⟩ : ∃ D', D = D' + 1 := ⟨D - 1, by have := qmm_pos hmm; omega⟩
        obtain ⟨pc', ls', st', w', q1, q2⟩ := fin _ (ymth_ok h g hl hs)
        exact qG.mth hq h902 hmm (by rw [qdr_map, qcat_map]; exact h8) q1 q2
    · rw [ybf e, cond_false] at h
      exact ycall_ok hX hct hq (ybf e) hd h g hl hs hK hc
  · cases h
theorem yi_ok {X : yXt} (hX : yXOK L xs w0 gf ga ra Sp gh X) (hct : ∀ t c, c ∈ ct t → yCOK w0 gf ga ra Sp gh t c) (hgh0 : ∀ x c, gh 1000 [x, c] = qand x c) (hbv : ∀ p j c, bv p j = some c → w0 p j = c) (hbb : ∀ p r, bb p = some r → ∀ j, yin r (w0 p j)) (hxs : ∀ j, yin y32 (xs j)) (hSp : ∀ w w' p, (yarr p = false → (∃ j, gf p j ≠ none) ∨ ∃ j, ra p j ≠ []) → (yarr p = true → ga p ≠ none) → (∀ q, q ≠ p → ∀ i, w' q i = w q i) → Sp w → Sp w') : yXOK L xs w0 gf ga ra Sp gh (yi gf ga ra bv bb ct X) := by
  intro ctx d D k pc ls st S K ρ w Q hd h g hl hs hK hc
  have h0 : 0 < S.1 := by have := g.1.2.1; omega
  have hSp1 : ∀ w p j v, (yarr p = false → gf p j ≠ none ∨ ra p j ≠ []) → (yarr p = true → ga p ≠ none) → Sp w → Sp (qup w p j v) := fun w p j v a1 a2 a3 => hSp w _ p (fun z => (a1 z).imp (fun q => ⟨j, q⟩) (fun q => ⟨j, q⟩)) a2 (fun q hq i => by
    show (if q = p then _ else w q) i = _
    rw [if_neg hq]) a3
  unfold yi at h
  split at h
  · cases h
  · rename_i ins len hq0
    split at h
    · split at h
      · rename_i s o
        by_cases e : Nat.beq (qrt k) 1 = true
        · rw [e] at h
          exact qG.retl hq0 (by rw [Nat.eq_of_beq_eq_true e]; rfl) (hK ρ S (0, s, o) w yag.rf (Nat.le_refl _) g hs.hd h)
        · rw [ybf e, cond_false, Bool.and_eq_true] at h
          obtain ⟨h1, h⟩ := h
          split at h
          · rename_i a b hi9
            have kk := yiv_ok g hi9
            rw [Bool.and_eq_true, Bool.and_eq_true, yle_i, yle_i] at h
            exact qG.retl hq0 (by rw [Nat.eq_of_beq_eq_true h1]; exact decide_eq_true (show 0 ≤ ρ s + o ∧ ρ s + o ≤ 1 from ⟨by omega, by omega⟩)) (hK ρ S (0, s, o) w yag.rf (Nat.le_refl _) g hs.hd h.2.2)
          · cases h
      · cases h
    · split at h
      · rw [Bool.and_eq_true] at h
        have := hK ρ S (9, 0, 0) w yag.rf (Nat.le_refl _) g h0 h.2
        rw [← qnil g.1.1] at this
        exact qG.retw hq0 h.1 this
      · cases h
    · exact yinv_ok hX hct hgh0 hbv hbb hxs hSp hq0 (.inl ⟨rfl, rfl⟩) hd h g hl hs hK hc
    · exact yinv_ok hX hct hgh0 hbv hbb hxs hSp hq0 (.inr (.inl ⟨rfl, rfl⟩)) hd h g hl hs hK hc
    · exact yinv_ok hX hct hgh0 hbv hbb hxs hSp hq0 (.inr (.inr ⟨rfl, rfl⟩)) hd h g hl hs hK hc
    · have hok := yas_ok (sc := ysc L xs k) (len := len) hgh0 hbv hbb hxs hSp1 rfl h g hl hs
      obtain ⟨pc', ls', st', S', ρ', w', q1, q2, q3, q4, q5, q6, q7⟩ := hok
      refine qG.one (pc' := pc') (ls' := ls'.map (yc ρ')) (st' := st'.map (yc ρ')) (w' := w') (n' := 142) ?_ (hX ctx d D k pc' ls' st' S' K ρ' w' Q hd q7 q6 q4 q5 (hK.mono q3 q2) (fun c hc9 => (hc c hc9).mono q3 q2))
      unfold qone
      rw [hq0]
      exact q1
theorem yex_ok (hct : ∀ t c, c ∈ ct t → yCOK w0 gf ga ra Sp gh t c) (hgh0 : ∀ x c, gh 1000 [x, c] = qand x c) (hbv : ∀ p j c, bv p j = some c → w0 p j = c) (hbb : ∀ p r, bb p = some r → ∀ j, yin r (w0 p j)) (hxs : ∀ j, yin y32 (xs j)) (hSp : ∀ w w' p, (yarr p = false → (∃ j, gf p j ≠ none) ∨ ∃ j, ra p j ≠ []) → (yarr p = true → ga p ≠ none) → (∀ q, q ≠ p → ∀ i, w' q i = w q i) → Sp w → Sp w') : ∀ f, yXOK L xs w0 gf ga ra Sp gh (yex gf ga ra bv bb ct an fk f)
  | 0 => fun ctx d D k pc ls st S K ρ w Q hd h => by cases h
  | f + 1 => fun ctx d D k pc ls st S K ρ w Q hd h g hl hs hK hc => by
    have hX := yex_ok hct hgh0 hbv hbb hxs hSp f
    have hY := yi_ok (bv := bv) (bb := bb) hX hct hgh0 hbv hbb hxs hSp
    have h0 : 0 < S.1 := by have := g.1.2.1; omega
    unfold yex at h
    by_cases e : ctx.any (ychk pc ls st S) = true
    · -- an open loop's head
      obtain ⟨c, hcm, hck⟩ := List.any_eq_true.mp e
      unfold ychk at hck
      rw [Bool.and_eq_true, Bool.and_eq_true, Bool.and_eq_true, Bool.and_eq_true, Bool.and_eq_true] at hck
      obtain ⟨k1, k2, k3, k4, k5, k6⟩ := hck
      obtain ⟨l1, l2, l3, l4⟩ := hc c hcm
      split at k6
      · rename_i u hu
        have k7 := yle_i.mp k6
        have k8 := ydm_ok g hu
        have := l4 (ls.map (yc ρ)) w (yac_ok g k2) (fun x hx => (g.2.2.1 x (yhas_ok k4 hx)).2.2) (fun p j hp => g.2.2.2.1 p j (ysub2_ok hp k5)) g.2.2.2.2.1 (by omega)
        rw [Nat.eq_of_beq_eq_true k1, yvl_ok k3] at this
        exact this
      · cases k6
    · rw [ybf e, cond_false] at h
      split at h
      · -- a loop is entered
        rename_i a ha
        by_cases e2 : (ctx.any (fun c => Nat.beq c.1 pc && ykin c.2.2.2.1 ls)) = true
        · rw [e2] at h; cases h
        · rw [ybf e2, cond_false, Bool.and_eq_true] at h
          obtain ⟨hac, h⟩ := h
          generalize hH : yhs a.1 ls = H at h hac
          have hm0 := yac_ok g hac
          obtain ⟨B, hB⟩ := ymt_lb (ρ := ρ) H ls a.2.2
          have key : ∀ (m : Nat) (cls : List qV) (w' : qW), ymt ρ H ls cls → (∀ e ∈ yforg a.2.1 S.2.2.1, yrd xs w' e.1 (ρ e.2.1 + e.2.2.1).toNat = ρ e.2.2.2.1 + e.2.2.2.2) → (∀ p j, ymd p j (yapp a.2.1 S.2.2.2.1) = false → w' p j = w0 p j) → yInv gf ga ra Sp w' → (yms a.2.2 cls - B).toNat = m → qG (ysc L xs k) D k pc cls (st.map (yc ρ)) w' 142 Q := by
            intro m
            induction m using Nat.strongRecOn with
            | ind m ih =>
              intro cls w' hm hf hp hI hmm
              obtain ⟨r1, r2, r3, r4⟩ := yhr_ok H S.1 ls cls ρ S.2.1 (Nat.le_refl _) hl yag.rf g.2.1 hm
              generalize hρ : yhr H S.1 ls cls ρ = ρ' at r1 r2 r4
              have hx := yhx_le H S.1 ls
              have g' : yG L xs w0 gf ga ra Sp gh ρ' (yhx H S.1 ls, yhb H S.1 ls S.2.1, yforg a.2.1 S.2.2.1, yapp a.2.1 S.2.2.2.1, S.2.2.2.2) w' := by
                have g1 := g.1
                refine ⟨⟨by rw [r1 0 (by omega)]; exact g1.1, Nat.lt_of_lt_of_le g1.2.1 hx, by rw [r1 1 g1.2.1]; exact g1.2.2⟩, r4, fun e he => ?_, hp, hI, fun e he => ?_, fun e he => ?_⟩
                · have q := g.2.2.1 e (yforg_ok (show e ∈ yforg a.2.1 S.2.2.1 from he)).1
                  exact ⟨Nat.lt_of_lt_of_le q.1 hx, Nat.lt_of_lt_of_le q.2.1 hx, by rw [r1 _ q.1, r1 _ q.2.1]; exact hf e he⟩
                · have q := g.2.2.2.2.2.1 e he
                  exact ⟨Nat.lt_of_lt_of_le q.1 hx, Nat.lt_of_lt_of_le q.2.1 hx, by rw [r1 _ q.1, r1 _ q.2.1]; exact q.2.2⟩
                · have q := g.2.2.2.2.2.2 e he
                  refine ⟨fun a ha => Nat.lt_of_lt_of_le (q.1 a ha) hx, Nat.lt_of_lt_of_le q.2.1 hx, ?_⟩
                  rw [r1 _ q.2.1, ← q.2.2]
                  congr 1
                  exact List.map_congr_left (fun a ha => by rw [r1 _ (q.1 a ha)])
              have fin := hY _ d D k pc (yhv H S.1 ls) st _ K ρ' w' Q hd h g' r3 (hs.mono hx) (hK.mono r1 hx) (fun c hc9 => by
                rcases List.mem_cons.mp hc9 with rfl | hc9
                · refine ⟨r3, hs.mono hx, fun e he => ?_, fun cls2 w2 b1 b2 b3 b4 b5 => ?_⟩
                  · have q := g.2.2.1 e (yforg_ok (show e ∈ yforg a.2.1 S.2.2.1 from he)).1
                    exact ⟨Nat.lt_of_lt_of_le q.1 hx, Nat.lt_of_lt_of_le q.2.1 hx⟩
                  · have b5 : yms a.2.2 cls2 < yms a.2.2 ((yhv H S.1 ls).map (yc ρ')) := b5
                    rw [← r2] at b5
                    have b1 : ymt ρ' H (yhv H S.1 ls) cls2 := b1
                    have b1' : ymt ρ H ls cls2 := ymt_ag r1 hl (ymt_hv b1)
                    have B1 := hB cls hm
                    have B2 := hB cls2 b1'
                    have := ih (yms a.2.2 cls2 - B).toNat (by omega) cls2 w2 b1' (fun e he => by
                      have q := g.2.2.1 e (yforg_ok (show e ∈ yforg a.2.1 S.2.2.1 from he)).1
                      have := b2 e he
                      rw [r1 _ q.1, r1 _ q.2.1] at this
                      exact this) b3 b4 rfl
                    show qG (ysc L xs k) D k pc cls2 (st.map (yc ρ')) w2 142 Q
                    rw [ym_ag r1 hs]
                    exact this
                · exact (hc c (List.mem_filter.mp hc9).1).mono r1 hx)
              rw [← r2, ym_ag r1 hs] at fin
              exact fin
          refine key _ (ls.map (yc ρ)) w hm0 (fun e he => (g.2.2.1 e (yforg_ok he).1).2.2) (fun p j hp => g.2.2.2.1 p j (yapp_ok hp).2) g.2.2.2.2.1 rfl
      · split at h
        · rename_i i hi
          obtain ⟨S1, e1, g1, h1⟩ := yall_ok h g (ynt_sc h0 hl)
          exact hY ctx d D k pc ls st S1 K ρ w Q hd h1 g1 (by rw [e1]; exact hl) (by rw [e1]; exact hs) (by rw [e1]; exact hK) (fun c hc9 => by rw [e1]; exact hc c hc9)
        · exact hY ctx d D k pc ls st S K ρ w Q hd h g hl hs hK hc
end ExGo
end
section
/-! a contract out of a run over symbols -/
noncomputable def yca : List (Nat × Int × Int) → Nat → List yV
  | [], _ => []
  | c :: r, n => (bif yqi c.2.1 c.2.2 then (c.1, 0, c.2.1) else (c.1, n, 0)) :: yca r (n + 1)
noncomputable def ycb : List (Nat × Int × Int) → Nat → yB
  | [], _ => []
  | c :: r, n => (n, c.2.1, c.2.2) :: ycb r (n + 1)
noncomputable def ypos : List (Nat × Nat × Int) → Bool
  | [] => true
  | e :: l => Nat.blt 0 e.1 && ypos l
noncomputable def ymds (m : List Nat) : yM → Bool
  | [] => true
  | e :: l => (Nat.blt e.1 1000 && (ymem e.1 m || (Nat.blt 0 e.2 && ymem (1000 * e.2 + e.1) m))) && ymds m l
noncomputable def ycns (bs : yB) : List (Nat × Int) → Option (List Int)
  | [] => some []
  | a :: l => match yiv bs a.1 a.2, ycns bs l with
    | some (b, c), some r => bif yqi b c then some (b :: r) else none
    | _, _ => none
/-- a contract's end: result, changed cells, numbers, function -/
noncomputable def yck (gh : Nat → List Int → Int) (c : yC) : yK := fun S v => Nat.beq v.1 c.2.2.1.1 && ((match yiv S.2.1 v.2.1 v.2.2 with
  | some (a, b) => yle c.2.2.1.2.1 a && (yle b c.2.2.1.2.2 && (Nat.beq c.2.2.2.2.2.2.2.1 0 || (match ycns S.2.1 (yarg (yca c.2.1 2) c.2.2.2.2.2.2.2.2) with
    | some l => yqi a b && yqi a (gh c.2.2.2.2.2.2.2.1 l)
    | none => false)))
  | none => false) && (ymds c.2.2.2.1 S.2.2.2.1 && (ypre S.2.2.1 c.2.2.2.2.2.2.1 && ypos c.2.2.2.2.2.2.1)))
noncomputable def yS0 (c : yC) : yS := (2 + c.2.1.length, (1, 0, 0) :: ycb c.2.1 2, ypost [] c.2.2.2.2.2.1, [], [], [])
noncomputable def ybn (need : List Nat) (bv : Nat → Nat → Option Int) (p j : Nat) : Option Int := bif ymem p need then bv p j else none
noncomputable def ybm (need : List Nat) (bb : Nat → Option yI) (p : Nat) : Option yI := bif ymem p need then bb p else none
noncomputable def yctl : List (Nat × yC) → Nat → List yC
  | [], _ => []
  | e :: l, t => bif Nat.beq e.1 t then e.2 :: yctl l t else yctl l t
theorem yctl_ok {P : Nat → yC → Prop} : ∀ {l : List (Nat × yC)}, (∀ e ∈ l, P e.1 e.2) → ∀ t c, c ∈ yctl l t → P t c
  | [], _, _, _, h => by cases h
  | e :: l, hl, t, c, h => by
    unfold yctl at h
    by_cases k : Nat.beq e.1 t = true
    · rw [k] at h
      rcases List.mem_cons.mp h with rfl | h
      · rw [← Nat.eq_of_beq_eq_true k]; exact hl e List.mem_cons_self
      · exact yctl_ok (fun e he => hl e (List.mem_cons_of_mem _ he)) t c h
    · rw [ybf k] at h
      exact yctl_ok (fun e he => hl e (List.mem_cons_of_mem _ he)) t c h
theorem yca_sc : ∀ (l : List (Nat × Int × Int)) (n : Nat), 0 < n → ySc (n + l.length) (yca l n)
  | [], _, _ => ynil_sc
  | c :: r, n, hn => by
    have ih := yca_sc r (n + 1) (by omega)
    rw [show n + 1 + r.length = n + (c :: r).length by simp [Nat.add_comm, Nat.add_left_comm]] at ih
    refine ySc.cons ?_ ih
    have hl : (c :: r).length = r.length + 1 := rfl
    by_cases k : yqi c.2.1 c.2.2 = true
    · rw [k]; show 0 < _; omega
    · rw [ybf k]; show n < _; omega
theorem yca_map {ρ : Nat → Int} (h0 : ρ 0 = 0) : ∀ {l : List (Nat × Int × Int)} {as : List qV} {n : Nat}, yamc l as → (∀ i, i < as.length → ρ (n + i) = (as.getD i (9, 0)).2) → (yca l n).map (yc ρ) = as
  | [], [], _, _, _ => rfl
  | c :: r, v :: as, n, h, hr => by
    have h : (v.1 = c.1 ∧ c.2.1 ≤ v.2 ∧ v.2 ≤ c.2.2) ∧ yamc r as := h
    have hv : ρ n = v.2 := hr 0 (Nat.succ_pos _)
    have ih := yca_map h0 (n := n + 1) h.2 (fun i hi => by
      have := hr (i + 1) (Nat.succ_lt_succ hi)
      rw [show n + (i + 1) = n + 1 + i by omega] at this
      exact this)
    show yc ρ (bif yqi c.2.1 c.2.2 then (c.1, 0, c.2.1) else (c.1, n, 0)) :: (yca r (n + 1)).map (yc ρ) = v :: as
    rw [ih]
    congr 1
    obtain ⟨v1, v2⟩ := v
    by_cases k : yqi c.2.1 c.2.2 = true
    · rw [k]
      have k2 := yqi_i.mp k
      show (c.1, ρ 0 + c.2.1) = (v1, v2)
      have a1 : v1 = c.1 := h.1.1
      have a2 : c.2.1 ≤ v2 := h.1.2.1
      have a3 : v2 ≤ c.2.2 := h.1.2.2
      rw [h0, a1, show (0 : Int) + c.2.1 = v2 by omega]
    · rw [ybf k]
      show (c.1, ρ n + 0) = (v1, v2)
      rw [hv, Int.add_zero, ← h.1.1]
  | [], _ :: _, _, h, _ => h.elim
  | _ :: _, [], _, h, _ => h.elim
theorem ycb_ok {ρ : Nat → Int} : ∀ {l : List (Nat × Int × Int)} {as : List qV} {n : Nat}, yamc l as → (∀ i, i < as.length → ρ (n + i) = (as.getD i (9, 0)).2) → ∀ e ∈ ycb l n, e.1 < n + l.length ∧ yin e.2 (ρ e.1)
  | [], _, _, _, _, e, he => by cases he
  | c :: r, v :: as, n, h, hr, e, he => by
    have h : (v.1 = c.1 ∧ c.2.1 ≤ v.2 ∧ v.2 ≤ c.2.2) ∧ yamc r as := h
    have hv : ρ n = v.2 := hr 0 (Nat.succ_pos _)
    have hl : (c :: r).length = r.length + 1 := rfl
    rcases List.mem_cons.mp (show e ∈ (n, c.2.1, c.2.2) :: ycb r (n + 1) from he) with rfl | he
    · exact ⟨by show n < _; omega, by show yin (c.2.1, c.2.2) (ρ n); rw [hv]; exact ⟨h.1.2.1, h.1.2.2⟩⟩
    · have := ycb_ok (n := n + 1) h.2 (fun i hi => by
        have := hr (i + 1) (Nat.succ_lt_succ hi)
        rw [show n + (i + 1) = n + 1 + i by omega] at this
        exact this) e he
      exact ⟨by omega, this.2⟩
  | _ :: _, [], _, h, _, _, _ => h.elim
theorem yamc_len : ∀ {l : List (Nat × Int × Int)} {as : List qV}, yamc l as → as.length = l.length
  | [], [], _ => rfl
  | _ :: _, _ :: _, h => by
    have := yamc_len h.2
    show _ + 1 = _ + 1
    rw [this]
  | [], _ :: _, h => h.elim
  | _ :: _, [], h => h.elim
theorem ypost_in {e : Nat × Nat × Int × Nat × Int} : ∀ {l : List (Nat × Nat × Int)}, e ∈ ypost [] l → ∃ a ∈ l, e = (a.1, 0, (a.2.1 : Int), 0, a.2.2)
  | [], h => by cases h
  | a :: l, h => by
    rcases List.mem_cons.mp (show e ∈ (a.1, 0, (a.2.1 : Int), 0, a.2.2) :: ypost [] l from h) with rfl | h
    · exact ⟨a, List.mem_cons_self, rfl⟩
    · obtain ⟨b, h1, h2⟩ := ypost_in h
      exact ⟨b, List.mem_cons_of_mem _ h1, h2⟩
theorem ypos_ok {e : Nat × Nat × Int} : ∀ {l : List (Nat × Nat × Int)}, ypos l = true → e ∈ l → 0 < e.1
  | [], _, h => by cases h
  | a :: l, hp, h => by
    have hp : (Nat.blt 0 a.1 && ypos l) = true := hp
    rw [Bool.and_eq_true, Nat.blt_eq] at hp
    rcases List.mem_cons.mp h with rfl | h
    · exact hp.1
    · exact ypos_ok hp.2 h
theorem ymds_ok {m : List Nat} {p j : Nat} (hp : p < 1000 → ymo p j m = false) : ∀ {l : yM}, ymds m l = true → ymd p j l = false
  | [], _ => rfl
  | e :: l, h => by
    have h : (Nat.blt e.1 1000 && (ymem e.1 m || (Nat.blt 0 e.2 && ymem (1000 * e.2 + e.1) m)) && ymds m l) = true := h
    rw [Bool.and_eq_true, Bool.and_eq_true, Nat.blt_eq] at h
    show ((Nat.beq e.1 p && (Nat.beq e.2 0 || Nat.beq e.2 (j + 1))) || ymd p j l) = false
    rw [ymds_ok hp h.2, Bool.or_false]
    refine ybf (fun z => ?_)
    rw [Bool.and_eq_true, Bool.or_eq_true] at z
    have e1 := Nat.eq_of_beq_eq_true z.1
    have hp := hp (by omega)
    unfold ymo at hp
    rw [Bool.or_eq_false_iff] at hp
    have h2 := h.1.2
    rw [Bool.or_eq_true, Bool.and_eq_true, Nat.blt_eq] at h2
    rcases h2 with h2 | ⟨h2, h3⟩
    · rw [e1, hp.1] at h2; cases h2
    · rcases z.2 with z | z
      · have := Nat.eq_of_beq_eq_true z; omega
      · rw [Nat.eq_of_beq_eq_true z, e1, hp.2] at h3; cases h3
theorem ycns_ok {L : Nat} {xs : Nat → Int} {w0 : qW} {gf : Nat → Nat → Option yI} {ga : Nat → Option yI} {ra : Nat → Nat → List Int} {Sp : qW → Prop} {gh : Nat → List Int → Int} {ρ : Nat → Int} {S : yS} {w : qW} (g : yG L xs w0 gf ga ra Sp gh ρ S w) : ∀ {l : List (Nat × Int)} {r : List Int}, ycns S.2.1 l = some r → l.map (fun a => ρ a.1 + a.2) = r
  | [], r, h => by
    have h : some [] = some r := h
    cases h; rfl
  | a :: l, r, h => by
    have h : (match yiv S.2.1 a.1 a.2, ycns S.2.1 l with
      | some (b, c), some r => bif yqi b c then some (b :: r) else none
      | _, _ => none) = some r := h
    split at h
    · rename_i b c r1 h1 h2
      have k := yiv_ok g h1
      by_cases e : yqi b c = true
      · rw [e] at h
        have e2 := yqi_i.mp e
        have h : some (b :: r1) = some r := h
        cases h
        show (ρ a.1 + a.2) :: l.map (fun a => ρ a.1 + a.2) = b :: r1
        rw [ycns_ok g h2, show ρ a.1 + a.2 = b by omega]
      · rw [ybf e] at h; cases h
    · cases h
/-- the run tells the contract -/
theorem yctr {w0 : qW} {gf : Nat → Nat → Option yI} {ga : Nat → Option yI} {ra : Nat → Nat → List Int} {Sp : qW → Prop} {gh : Nat → List Int → Int} {bv : Nat → Nat → Option Int} {bb : Nat → Option yI} {ct : Nat → List yC} {an : Nat → Nat → Option yA} {fk : Nat → Nat → Option Nat} {t : Nat} {c : yC} {f : Nat} (hgh0 : ∀ x c, gh 1000 [x, c] = qand x c) (hbv : ∀ p j c, bv p j = some c → w0 p j = c) (hbb : ∀ p r, bb p = some r → ∀ j, yin r (w0 p j)) (hSp : ∀ w w' p, (yarr p = false → (∃ j, gf p j ≠ none) ∨ ∃ j, ra p j ≠ []) → (yarr p = true → ga p ≠ none) → (∀ q, q ≠ p → ∀ i, w' q i = w q i) → Sp w → Sp w')
    (hct : ∀ w, (∀ p, ymem p c.2.2.2.2.1 = true → ∀ j, w p j = w0 p j) → ∀ t c, c ∈ ct t → yCOK w gf ga ra Sp gh t c)
    (h : (!Nat.beq t 305 && (ypos c.2.2.2.2.2.1 && yex gf ga ra (ybn c.2.2.2.2.1 bv) (ybm c.2.2.2.2.1 bb) ct an fk f [] c.1 t 0 (yini t (yca c.2.1 2)) [] (yS0 c) (yck gh c))) = true) : yCOK w0 gf ga ra Sp gh t c := by
  intro d as w hd hm hI hn hp
  rw [Bool.and_eq_true, Bool.and_eq_true] at h
  obtain ⟨h305, hps, h⟩ := h
  have hlen := yamc_len hm
  have hρ : ∀ i, i < as.length → (fun i => if i = 0 then 0 else if i = 1 then 0 else (as.getD (i - 2) (9, 0)).2 : Nat → Int) (2 + i) = (as.getD i (9, 0)).2 := fun i hi => by
    show (if 2 + i = 0 then 0 else if 2 + i = 1 then 0 else (as.getD (2 + i - 2) (9, 0)).2) = _
    rw [if_neg (by omega), if_neg (by omega), show 2 + i - 2 = i by omega]
  generalize hρ0 : (fun i => if i = 0 then 0 else if i = 1 then 0 else (as.getD (i - 2) (9, 0)).2 : Nat → Int) = ρ at hρ
  have z0 : ρ 0 = 0 := by rw [← hρ0]; rfl
  have z1 : ρ 1 = 0 := by rw [← hρ0]; rfl
  have hmap := yca_map z0 (n := 2) hm hρ
  have hbvn : ∀ p j v, ybn c.2.2.2.2.1 bv p j = some v → w p j = v := fun p j v hv => by
    unfold ybn at hv
    by_cases e : ymem p c.2.2.2.2.1 = true
    · rw [e] at hv
      rw [hn p e j]; exact hbv p j v hv
    · rw [ybf e] at hv; cases hv
  have hbbn : ∀ p r, ybm c.2.2.2.2.1 bb p = some r → ∀ j, yin r (w p j) := fun p r hv j => by
    unfold ybm at hv
    by_cases e : ymem p c.2.2.2.2.1 = true
    · rw [e] at hv
      rw [hn p e j]; exact hbb p r hv j
    · rw [ybf e] at hv; cases hv
  have g0 : yG 0 (fun _ => 0) w gf ga ra Sp gh ρ (yS0 c) w := by
    refine ⟨⟨z0, by show 1 < 2 + _; omega, z1⟩, fun e he => ?_, fun e he => ?_, fun _ _ _ => rfl, hI, fun e he => (by cases he), fun e he => (by cases he)⟩
    · rcases List.mem_cons.mp (show e ∈ (1, 0, 0) :: ycb c.2.1 2 from he) with rfl | he
      · exact ⟨by show 1 < 2 + _; omega, by show yin (0, 0) (ρ 1); rw [z1]; exact ⟨Int.le_refl 0, Int.le_refl 0⟩⟩
      · exact ycb_ok hm hρ e he
    · obtain ⟨a, ha, rfl⟩ := ypost_in (show e ∈ ypost [] c.2.2.2.2.2.1 from he)
      refine ⟨by show 0 < 2 + _; omega, by show 0 < 2 + _; omega, ?_⟩
      have hpa := ypos_ok hps ha
      show yrd _ w a.1 (ρ 0 + (a.2.1 : Int)).toNat = ρ 0 + a.2.2
      rw [z0, Int.zero_add, Int.zero_add, Int.toNat_natCast, yrd_ne hpa, hp a ha hpa]
  have hsc : ySc (yS0 c).1 (yca c.2.1 2) := yca_sc c.2.1 2 (by decide)
  have run := yex_ok (L := 0) (xs := fun _ => 0) (w0 := w) (bv := ybn c.2.2.2.2.1 bv) (bb := ybm c.2.2.2.2.1 bb) (hct w hn) hgh0 hbvn hbbn (fun j => ⟨by show (-2147483648 : Int) ≤ 0; decide, by show (0 : Int) ≤ 2147483647; decide⟩) hSp f [] c.1 d t 0 (yini t (yca c.2.1 2)) [] (yS0 c) (yck gh c) ρ w
    (fun v w' n' => (v.1 = c.2.2.1.1 ∧ yin c.2.2.1.2 v.2) ∧ yInv gf ga ra Sp w' ∧ n' = 142 ∧ (∀ p j, (p < 1000 → ymo p j c.2.2.2.1 = false) → w' p j = w p j) ∧ (∀ e ∈ c.2.2.2.2.2.2.1, 0 < e.1 ∧ w' e.1 e.2.1 = e.2.2) ∧ (Nat.beq c.2.2.2.2.2.2.2.1 0 = false → v.2 = gh c.2.2.2.2.2.2.2.1 (c.2.2.2.2.2.2.2.2.map (fun i => (qnt as i).2))))
    hd h g0 (yini_sc (by show 0 < 2 + _; omega) hsc) ynil_sc (fun ρ' S' v w' q1 q2 q3 q4 q5 => ?_) (fun c hc => by cases hc)
  · rw [qsc_n h305, ← qini_map z0, hmap] at run
    exact run
  · unfold yck at q5
    rw [Bool.and_eq_true, Bool.and_eq_true, Bool.and_eq_true, Bool.and_eq_true] at q5
    obtain ⟨r1, r2, r3, r4, r5⟩ := q5
    split at r2
    · rename_i a b hq
      have k := yiv_ok q3 hq
      rw [Bool.and_eq_true, Bool.and_eq_true, yle_i, yle_i] at r2
      obtain ⟨s1, s2, s3⟩ := r2
      refine ⟨⟨Nat.eq_of_beq_eq_true r1, by show _ ≤ ρ' v.2.1 + v.2.2; omega, by show ρ' v.2.1 + v.2.2 ≤ _; omega⟩, q3.2.2.2.2.1, rfl, fun p j hp9 => q3.2.2.2.1 p j (ymds_ok hp9 r3), fun e he => ⟨ypos_ok r5 he, ypre_ok q3 r4 e he (ypos_ok r5 he)⟩, fun hg => ?_⟩
      rw [hg, Bool.false_or] at s3
      split at s3
      · rename_i l hl
        rw [Bool.and_eq_true, yqi_i, yqi_i] at s3
        have e1 := ycns_ok q3 hl
        have e2 : (yca c.2.1 2).map (yc ρ') = as := by rw [ym_ag q1 hsc]; exact hmap
        have e3 := yarg_map (ρ := ρ') q3.1.1 (as := yca c.2.1 2) c.2.2.2.2.2.2.2.2
        rw [e2, e1] at e3
        rw [← e3]
        show ρ' v.2.1 + v.2.2 = _
        omega
      · cases s3
    · cases r2
end
