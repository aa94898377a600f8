/-! ranges of numbers -/
noncomputable def yle : Int → Int → Bool
  | .ofNat a, .ofNat b => Nat.ble a b
  | .ofNat _, .negSucc _ => false
  | .negSucc _, .ofNat _ => true
  | .negSucc a, .negSucc b => Nat.ble b a
theorem yle_i {a b : Int} : yle a b = true ↔ a ≤ b := by
  cases a with
  | ofNat a => cases b with
    | ofNat b => show Nat.ble a b = true ↔ (a : Int) ≤ (b : Int); rw [Nat.ble_eq]; omega
    | negSucc b => show false = true ↔ _; constructor; intro h; cases h; intro h; have := Int.negSucc_lt_zero b; have : (Int.ofNat a) ≥ 0 := Int.natCast_nonneg a; omega
  | negSucc a => cases b with
    | ofNat b => show true = true ↔ _; constructor; intro _; have := Int.negSucc_lt_zero a; have : (Int.ofNat b) ≥ 0 := Int.natCast_nonneg b; omega; intro _; rfl
    | negSucc b => show Nat.ble b a = true ↔ _; rw [Nat.ble_eq]; constructor; intro h; rw [Int.negSucc_eq, Int.negSucc_eq]; omega; intro h; rw [Int.negSucc_eq, Int.negSucc_eq] at h; omega
theorem yle_f {a b : Int} (h : ¬ yle a b = true) : b < a := by rw [yle_i] at h; omega
noncomputable def yqi : Int → Int → Bool
  | .ofNat a, .ofNat b => Nat.beq a b
  | .negSucc a, .negSucc b => Nat.beq a b
  | _, _ => false
theorem yqi_i {a b : Int} : yqi a b = true ↔ a = b := by
  cases a with
  | ofNat a => cases b with
    | ofNat b => show Nat.beq a b = true ↔ _; constructor; intro h; rw [Nat.eq_of_beq_eq_true h]; intro h; cases h; exact Nat.beq_refl a
    | negSucc b => show false = true ↔ _; constructor; intro h; cases h; intro h; cases h
  | negSucc a => cases b with
    | ofNat b => show false = true ↔ _; constructor; intro h; cases h; intro h; cases h
    | negSucc b => show Nat.beq a b = true ↔ _; constructor; intro h; rw [Nat.eq_of_beq_eq_true h]; intro h; cases h; exact Nat.beq_refl a
noncomputable def ymn (a b : Int) : Int := bif yle a b then a else b
noncomputable def ymx (a b : Int) : Int := bif yle a b then b else a
theorem ymn_i (a b : Int) : ymn a b ≤ a ∧ ymn a b ≤ b ∧ (ymn a b = a ∨ ymn a b = b) := by
  unfold ymn
  by_cases h : yle a b = true
  · rw [h]; have := yle_i.mp h; exact ⟨Int.le_refl _, this, .inl rfl⟩
  · have h2 := yle_f h
    rw [show yle a b = false from by cases hq : yle a b; rfl; exact absurd hq h]
    exact ⟨Int.le_of_lt h2, Int.le_refl _, .inr rfl⟩
theorem ymx_i (a b : Int) : a ≤ ymx a b ∧ b ≤ ymx a b ∧ (ymx a b = a ∨ ymx a b = b) := by
  unfold ymx
  by_cases h : yle a b = true
  · rw [h]; have := yle_i.mp h; exact ⟨this, Int.le_refl _, .inr rfl⟩
  · have h2 := yle_f h
    rw [show yle a b = false from by cases hq : yle a b; rfl; exact absurd hq h]
    exact ⟨Int.le_refl _, Int.le_of_lt h2, .inl rfl⟩
noncomputable abbrev yI : Type := Int × Int
noncomputable def y32 : yI := (-2147483648, 2147483647)
noncomputable def y64 : yI := (-9223372036854775808, 9223372036854775807)
noncomputable def yin (r : yI) (x : Int) : Prop := r.1 ≤ x ∧ x ≤ r.2
theorem y32_w (x : Int) : yin y32 (wrp x) := by have := wrp_in x; exact ⟨this.1, by have := this.2; show wrp x ≤ 2147483647; omega⟩
theorem y64_w (x : Int) : yin y64 (wrl x) := by have := wrl_in x; exact ⟨this.1, by have := this.2; show wrl x ≤ 9223372036854775807; omega⟩
theorem y32_i (x : Int32) : yin y32 x.toInt := by have := i32_in x; exact ⟨this.1, by have := this.2; show x.toInt ≤ 2147483647; omega⟩
theorem y64_i (x : Int64) : yin y64 x.toInt := by have := i64_in x; exact ⟨this.1, by have := this.2; show x.toInt ≤ 9223372036854775807; omega⟩
/-- a sum's range, all if it may leave the kind -/
noncomputable def yfit (f : yI) (lo hi : Int) : yI := bif yle f.1 lo && yle hi f.2 then (lo, hi) else f
theorem yfit32 {lo hi x : Int} (h1 : lo ≤ x) (h2 : x ≤ hi) : yin (yfit y32 lo hi) (wrp x) := by
  unfold yfit
  by_cases h : (yle y32.1 lo && yle hi y32.2) = true
  · rw [h]
    rw [Bool.and_eq_true, yle_i, yle_i] at h
    have a1 : (-2147483648 : Int) ≤ lo := h.1
    have a2 : hi ≤ (2147483647 : Int) := h.2
    rw [wrp_id (by omega) (by omega)]
    exact ⟨h1, h2⟩
  · rw [show (yle y32.1 lo && yle hi y32.2) = false from by cases hq : (yle y32.1 lo && yle hi y32.2); rfl; exact absurd hq h]
    exact y32_w x
theorem yfit64 {lo hi x : Int} (h1 : lo ≤ x) (h2 : x ≤ hi) : yin (yfit y64 lo hi) (wrl x) := by
  unfold yfit
  by_cases h : (yle y64.1 lo && yle hi y64.2) = true
  · rw [h]
    rw [Bool.and_eq_true, yle_i, yle_i] at h
    have a1 : (-9223372036854775808 : Int) ≤ lo := h.1
    have a2 : hi ≤ (9223372036854775807 : Int) := h.2
    rw [wrl_id (by omega) (by omega)]
    exact ⟨h1, h2⟩
  · rw [show (yle y64.1 lo && yle hi y64.2) = false from by cases hq : (yle y64.1 lo && yle hi y64.2); rfl; exact absurd hq h]
    exact y64_w x
/-- an operation's range is right -/
noncomputable def yok (f : Int → Int → Int) (v : Int → Int → Int → Int → yI) : Prop := ∀ a b c d x y, a ≤ x → x ≤ b → c ≤ y → y ≤ d → yin (v a b c d) (f x y)
noncomputable def vadd (a b c d : Int) : yI := yfit y32 (a + c) (b + d)
noncomputable def vsub (a b c d : Int) : yI := yfit y32 (a - d) (b - c)
noncomputable def vladd (a b c d : Int) : yI := yfit y64 (a + c) (b + d)
noncomputable def vlsub (a b c d : Int) : yI := yfit y64 (a - d) (b - c)
theorem vadd_ok : yok (fun x y => wrp (x + y)) vadd := fun a b c d x y h1 h2 h3 h4 => yfit32 (by omega) (by omega)
theorem vsub_ok : yok (fun x y => wrp (x - y)) vsub := fun a b c d x y h1 h2 h3 h4 => yfit32 (by omega) (by omega)
theorem vladd_ok : yok (fun x y => wrl (x + y)) vladd := fun a b c d x y h1 h2 h3 h4 => yfit64 (by omega) (by omega)
theorem vlsub_ok : yok (fun x y => wrl (x - y)) vlsub := fun a b c d x y h1 h2 h3 h4 => yfit64 (by omega) (by omega)
noncomputable def vmul (a b c d : Int) : yI := bif yle 0 a && yle 0 c then yfit y32 (a * c) (b * d) else y32
noncomputable def vlmul (a b c d : Int) : yI := bif yle 0 a && yle 0 c then yfit y64 (a * c) (b * d) else y64
theorem ymul_b {a b c d x y : Int} (h0 : 0 ≤ a) (h0' : 0 ≤ c) (h1 : a ≤ x) (h2 : x ≤ b) (h3 : c ≤ y) (h4 : y ≤ d) : a * c ≤ x * y ∧ x * y ≤ b * d :=
  ⟨Int.le_trans (Int.mul_le_mul_of_nonneg_left h3 h0) (Int.mul_le_mul_of_nonneg_right h1 (by omega)), Int.le_trans (Int.mul_le_mul_of_nonneg_left h4 (by omega)) (Int.mul_le_mul_of_nonneg_right h2 (by omega))⟩
theorem ybf {b : Bool} (h : ¬ b = true) : b = false := by cases b; rfl; exact absurd rfl h
theorem vmul_ok : yok (fun x y => wrp (x * y)) vmul := fun a b c d x y h1 h2 h3 h4 => by
  unfold vmul
  by_cases h : (yle 0 a && yle 0 c) = true
  · rw [h]
    rw [Bool.and_eq_true, yle_i, yle_i] at h
    have := ymul_b h.1 h.2 h1 h2 h3 h4
    exact yfit32 this.1 this.2
  · rw [ybf h]; exact y32_w _
theorem vlmul_ok : yok (fun x y => wrl (x * y)) vlmul := fun a b c d x y h1 h2 h3 h4 => by
  unfold vlmul
  by_cases h : (yle 0 a && yle 0 c) = true
  · rw [h]
    rw [Bool.and_eq_true, yle_i, yle_i] at h
    have := ymul_b h.1 h.2 h1 h2 h3 h4
    exact yfit64 this.1 this.2
  · rw [ybf h]; exact y64_w _
/-- a quotient: the divisor is 1 at least -/
noncomputable def vdiv (a b c d : Int) : yI := bif yle 0 a && yle 1 c && yle b 2147483647 then (bif yqi c d then (a / c, b / c) else (0, b)) else y32
noncomputable def vldiv (a b c d : Int) : yI := bif yle 0 a && yle 1 c && yle b 9223372036854775807 then (bif yqi c d then (a / c, b / c) else (0, b)) else y64
theorem ydiv_b {a b c d x y : Int} (h0 : 0 ≤ a) (h0' : 1 ≤ c) (h1 : a ≤ x) (h2 : x ≤ b) (h3 : c ≤ y) (h4 : y ≤ d) : yin (bif yqi c d then (a / c, b / c) else (0, b)) (x.tdiv y) ∧ 0 ≤ x.tdiv y ∧ x.tdiv y ≤ x := by
  have h8 : x.tdiv y ≤ x := by rw [Int.tdiv_eq_ediv_of_nonneg (by omega)]; exact Int.ediv_le_self _ (by omega)
  refine ⟨?_, Int.tdiv_nonneg (by omega) (by omega), h8⟩
  rw [Int.tdiv_eq_ediv_of_nonneg (by omega)]
  by_cases h : yqi c d = true
  · rw [h]
    have h5 := yqi_i.mp h
    have h6 : y = c := by omega
    subst h6
    exact ⟨Int.ediv_le_ediv (by omega) h1, Int.ediv_le_ediv (by omega) h2⟩
  · rw [ybf h]
    exact ⟨Int.ediv_nonneg (by omega) (by omega), Int.le_trans (Int.ediv_le_self _ (by omega)) h2⟩
theorem vdiv_ok : yok qdiv vdiv := fun a b c d x y h1 h2 h3 h4 => by
  unfold vdiv qdiv
  by_cases h : (yle 0 a && yle 1 c && yle b 2147483647) = true
  · rw [h]
    rw [Bool.and_eq_true, Bool.and_eq_true, yle_i, yle_i, yle_i] at h
    have h5 := ydiv_b h.1.1 h.1.2 h1 h2 h3 h4
    rw [wrp_id (by omega) (by omega)]
    exact h5.1
  · rw [ybf h]; exact y32_w _
theorem vldiv_ok : yok qldiv vldiv := fun a b c d x y h1 h2 h3 h4 => by
  unfold vldiv qldiv
  by_cases h : (yle 0 a && yle 1 c && yle b 9223372036854775807) = true
  · rw [h]
    rw [Bool.and_eq_true, Bool.and_eq_true, yle_i, yle_i, yle_i] at h
    have h5 := ydiv_b h.1.1 h.1.2 h1 h2 h3 h4
    rw [wrl_id (by omega) (by omega)]
    exact h5.1
  · rw [ybf h]; exact y64_w _
noncomputable def vrem (a b c d : Int) : yI := bif yle 0 a && yle 1 c && yle b 2147483647 && yle d 2147483647 then (0, ymn b (d - 1)) else y32
theorem vrem_ok : yok qrem vrem := fun a b c d x y h1 h2 h3 h4 => by
  unfold vrem qrem
  by_cases h : (yle 0 a && yle 1 c && yle b 2147483647 && yle d 2147483647) = true
  · rw [h]
    rw [Bool.and_eq_true, Bool.and_eq_true, Bool.and_eq_true, yle_i, yle_i, yle_i, yle_i] at h
    obtain ⟨⟨⟨k1, k2⟩, k3⟩, k4⟩ := h
    have h5 := ydiv_b k1 k2 h1 h2 h3 h4
    rw [wrp_id (x := x.tdiv y) (by omega) (by omega), Int.tdiv_eq_ediv_of_nonneg (by omega), show x - x / y * y = x % y from by have := Int.emod_add_mul_ediv x y; rw [Int.mul_comm] at this; omega]
    have h6 := Int.emod_nonneg x (show y ≠ 0 by omega)
    have h7 := Int.emod_lt_of_pos x (show 0 < y by omega)
    have h8 : x % y ≤ x := by
      have := Int.emod_add_mul_ediv x y
      have h9 : 0 ≤ y * (x / y) := Int.mul_nonneg (by omega) (Int.ediv_nonneg (by omega) (by omega))
      omega
    rw [wrp_id (by omega) (by omega)]
    have h9 := ymn_i b (d - 1)
    exact ⟨h6, by show x % y ≤ ymn b (d - 1); rcases h9.2.2 with h | h <;> omega⟩
  · rw [ybf h]; exact y32_w _
/-! bits -/
theorem yofn {x : Int} (h0 : 0 ≤ x) (h1 : x ≤ 2147483647) : Int32.ofInt x = nI x.toNat := by
  have := e_nat (n := x.toNat) (by omega)
  rw [Int.toNat_of_nonneg h0] at this
  exact this
theorem yofm (x : Int) : Int32.ofInt x = nI (x % 4294967296).toNat := by
  apply Int32.toBitVec_inj.1
  apply BitVec.eq_of_toNat_eq
  show (BitVec.ofInt 32 x).toNat = (BitVec.ofNat 32 _).toNat
  rw [BitVec.toNat_ofInt, BitVec.toNat_ofNat]
  show (x % 4294967296).toNat = (x % 4294967296).toNat % 4294967296
  rw [Nat.mod_eq_of_lt (by omega)]
theorem yb_and (a b : Nat) : nI a &&& nI b = nI (a &&& b) := by
  apply Int32.toBitVec_inj.1
  show BitVec.ofNat 32 a &&& BitVec.ofNat 32 b = BitVec.ofNat 32 (a &&& b)
  apply BitVec.eq_of_getLsbD_eq
  intro i hi
  simp [hi]
theorem yb_or (a b : Nat) : nI a ||| nI b = nI (a ||| b) := by
  apply Int32.toBitVec_inj.1
  show BitVec.ofNat 32 a ||| BitVec.ofNat 32 b = BitVec.ofNat 32 (a ||| b)
  apply BitVec.eq_of_getLsbD_eq
  intro i hi
  simp [hi]
theorem yb_xor (a b : Nat) : nI a ^^^ nI b = nI (a ^^^ b) := by
  apply Int32.toBitVec_inj.1
  show BitVec.ofNat 32 a ^^^ BitVec.ofNat 32 b = BitVec.ofNat 32 (a ^^^ b)
  apply BitVec.eq_of_getLsbD_eq
  intro i hi
  simp [hi]
theorem yb_sl : ∀ k, k < 32 → ((nI k &&& 31).toBitVec.smod 32).toNat = k := by decide +kernel
theorem yb_sc : ∀ k, k < 32 → (nI k &&& 31) = nI k := by decide +kernel
theorem yb_su : ∀ k, k < 32 → ((nI k).toUInt32 &&& Int32.toUInt32 31).toNat % 32 = k := by decide +kernel
theorem yb_shl (n : Nat) {k : Nat} (hk : k < 32) : nI n <<< (nI k &&& 31) = nI (n * 2 ^ k) := by
  apply Int32.toBitVec_inj.1
  rw [Int32.toBitVec_shiftLeft]
  apply BitVec.eq_of_toNat_eq
  rw [BitVec.shiftLeft_eq', BitVec.toNat_shiftLeft, yb_sl k hk]
  show (BitVec.ofNat 32 n).toNat <<< k % 2 ^ 32 = (BitVec.ofNat 32 (n * 2 ^ k)).toNat
  rw [BitVec.toNat_ofNat, BitVec.toNat_ofNat, Nat.shiftLeft_eq, Nat.mul_mod, Nat.mod_mod, ← Nat.mul_mod]
theorem yb_ush {n k : Nat} (hn : n < 4294967296) (hk : k < 32) : ((nI n).toUInt32 >>> ((nI k).toUInt32 &&& Int32.toUInt32 31)).toInt32 = nI (n / 2 ^ k) := by
  have hs : n / 2 ^ k ≤ n := Nat.div_le_self _ _
  have e2 : UInt32.ofNat n >>> ((nI k).toUInt32 &&& Int32.toUInt32 31) = UInt32.ofNat (n / 2 ^ k) := by
    apply UInt32.toNat_inj.1
    have h1 : (UInt32.ofNat n).toNat = n := Nat.mod_eq_of_lt hn
    have h2 : (UInt32.ofNat (n / 2 ^ k)).toNat = n / 2 ^ k := Nat.mod_eq_of_lt (Nat.lt_of_le_of_lt hs hn)
    rw [UInt32.toNat_shiftRight, yb_su k hk, h1, h2, Nat.shiftRight_eq_div_pow]
  show (UInt32.ofNat n >>> ((nI k).toUInt32 &&& Int32.toUInt32 31)).toInt32 = _
  rw [e2]
  rfl
theorem yb_shr {n k : Nat} (hn : n < 2147483648) (hk : k < 32) : nI n >>> (nI k &&& 31) = nI (n / 2 ^ k) := by
  apply Int32.toBitVec_inj.1
  rw [Int32.toBitVec_shiftRight, BitVec.sshiftRight_eq', yb_sl k hk]
  have hs : n / 2 ^ k ≤ n := Nat.div_le_self _ _
  have hm : (nI n).toBitVec.msb = false := by
    rw [BitVec.msb_eq_decide]
    show decide (2 ^ 31 ≤ (BitVec.ofNat 32 n).toNat) = false
    rw [BitVec.toNat_ofNat, Nat.mod_eq_of_lt (by omega)]
    exact decide_eq_false (by omega)
  rw [BitVec.sshiftRight_eq_of_msb_false hm]
  apply BitVec.eq_of_toNat_eq
  rw [BitVec.toNat_ushiftRight]
  show (BitVec.ofNat 32 n).toNat >>> k = (BitVec.ofNat 32 (n / 2 ^ k)).toNat
  rw [BitVec.toNat_ofNat, BitVec.toNat_ofNat, Nat.mod_eq_of_lt (by omega), Nat.mod_eq_of_lt (by omega), Nat.shiftRight_eq_div_pow]
theorem qand_n {a b : Nat} (ha : a ≤ 2147483647) (hb : b ≤ 2147483647) : qand (a : Int) (b : Int) = ((a &&& b : Nat) : Int) := by
  unfold qand
  rw [yofn (by omega) (by omega), yofn (by omega) (by omega), yb_and]
  have : a &&& b ≤ a := Nat.and_le_left
  show (nI ((a : Int).toNat &&& (b : Int).toNat)).toInt = _
  rw [Int.toNat_natCast, Int.toNat_natCast, nI_toInt (by omega)]
theorem qand_r {x : Int} {b : Nat} (hb : b ≤ 2147483647) : qand x (b : Int) = (((x % 4294967296).toNat &&& b : Nat) : Int) := by
  unfold qand
  rw [yofm x, yofn (x := (b : Int)) (by omega) (by omega), yb_and]
  have : (x % 4294967296).toNat &&& b ≤ b := Nat.and_le_right
  rw [Int.toNat_natCast, nI_toInt (by omega)]
theorem qand_c (x y : Int) : qand x y = qand y x := by unfold qand; rw [Int32.and_comm]
noncomputable def vand (a b c d : Int) : yI := bif yle 0 a && yle b 2147483647 then (bif yle 0 c && yle d 2147483647 then (0, ymn b d) else (0, b)) else (bif yle 0 c && yle d 2147483647 then (0, d) else y32)
theorem qand_hi {x y d : Int} (h1 : 0 ≤ y) (h2 : y ≤ d) (h3 : d ≤ 2147483647) : yin (0, d) (qand x y) := by
  have h4 : y = (y.toNat : Int) := (Int.toNat_of_nonneg h1).symm
  rw [h4, qand_r (by omega)]
  have : (x % 4294967296).toNat &&& y.toNat ≤ y.toNat := Nat.and_le_right
  exact ⟨by show (0 : Int) ≤ _; omega, by show _ ≤ d; omega⟩
theorem vand_ok : yok qand vand := fun a b c d x y h1 h2 h3 h4 => by
  unfold vand
  by_cases h : (yle 0 a && yle b 2147483647) = true
  · have h' := h
    rw [Bool.and_eq_true, yle_i, yle_i] at h'
    have k1 := qand_hi (x := y) (y := x) (d := b) (by omega) h2 h'.2
    rw [qand_c] at k1
    rw [h]
    by_cases k : (yle 0 c && yle d 2147483647) = true
    · have k' := k
      rw [Bool.and_eq_true, yle_i, yle_i] at k'
      have k2 := qand_hi (x := x) (y := y) (d := d) (by omega) h4 k'.2
      rw [k]
      have h9 := ymn_i b d
      exact ⟨k1.1, by show _ ≤ ymn b d; have a1 := k1.2; have a2 := k2.2; rcases h9.2.2 with h | h <;> rw [h] <;> assumption⟩
    · rw [ybf k]; exact k1
  · rw [ybf h]
    by_cases k : (yle 0 c && yle d 2147483647) = true
    · have k' := k
      rw [Bool.and_eq_true, yle_i, yle_i] at k'
      rw [k]; exact qand_hi (x := x) (y := y) (d := d) (by omega) h4 k'.2
    · rw [ybf k]; exact y32_i _
/-- the least mask that covers a number -/
noncomputable def ymask (m : Nat) : Nat := 2 ^ (Nat.log2 m + 1) - 1
theorem ymask_lt (m : Nat) : m < 2 ^ (Nat.log2 m + 1) := Nat.lt_log2_self
theorem ymask_b {m : Nat} (h : m ≤ 2147483647) : 2 ^ (Nat.log2 m + 1) ≤ 2147483648 := by
  have h1 : Nat.log2 m < 31 := by
    by_cases h0 : m = 0
    · subst h0; decide
    · exact (Nat.log2_lt h0).mpr (by omega)
  exact Nat.pow_le_pow_right (n := 2) (by decide) (show Nat.log2 m + 1 ≤ 31 by omega)
noncomputable def vor (a b c d : Int) : yI := bif yle 0 a && yle 0 c && yle b 2147483647 && yle d 2147483647 then (0, ((ymask (ymx b d).toNat : Nat) : Int)) else y32
theorem yor_b {x y b d : Int} (k1 : 0 ≤ x) (k2 : 0 ≤ y) (k3 : b ≤ 2147483647) (k4 : d ≤ 2147483647) (h2 : x ≤ b) (h4 : y ≤ d) {z : Nat} (hz : ∀ n, x.toNat < 2 ^ n → y.toNat < 2 ^ n → z < 2 ^ n) : yin (0, ((ymask (ymx b d).toNat : Nat) : Int)) (nI z).toInt := by
  have h9 := ymx_i b d
  have hm : (ymx b d).toNat ≤ 2147483647 := by rcases h9.2.2 with h | h <;> rw [h] <;> omega
  have h5 := hz (Nat.log2 (ymx b d).toNat + 1) (Nat.lt_of_le_of_lt (by omega) (ymask_lt _)) (Nat.lt_of_le_of_lt (by omega) (ymask_lt _))
  have h6 := ymask_b hm
  unfold ymask
  generalize 2 ^ (Nat.log2 (ymx b d).toNat + 1) = q at h5 h6 ⊢
  rw [nI_toInt (by omega)]
  exact ⟨by show (0 : Int) ≤ _; omega, by show (z : Int) ≤ ((q - 1 : Nat) : Int); omega⟩
theorem vor_ok : yok qor vor := fun a b c d x y h1 h2 h3 h4 => by
  unfold vor
  by_cases h : (yle 0 a && yle 0 c && yle b 2147483647 && yle d 2147483647) = true
  · rw [h]
    rw [Bool.and_eq_true, Bool.and_eq_true, Bool.and_eq_true, yle_i, yle_i, yle_i, yle_i] at h
    obtain ⟨⟨⟨k1, k2⟩, k3⟩, k4⟩ := h
    unfold qor
    rw [yofn (x := x) (by omega) (by omega), yofn (x := y) (by omega) (by omega), yb_or]
    exact yor_b (by omega) (by omega) k3 k4 h2 h4 (fun n p q => Nat.or_lt_two_pow p q)
  · rw [ybf h]; exact y32_i _
theorem vxor_ok : yok qxor vor := fun a b c d x y h1 h2 h3 h4 => by
  unfold vor
  by_cases h : (yle 0 a && yle 0 c && yle b 2147483647 && yle d 2147483647) = true
  · rw [h]
    rw [Bool.and_eq_true, Bool.and_eq_true, Bool.and_eq_true, yle_i, yle_i, yle_i, yle_i] at h
    obtain ⟨⟨⟨k1, k2⟩, k3⟩, k4⟩ := h
    unfold qxor
    rw [yofn (x := x) (by omega) (by omega), yofn (x := y) (by omega) (by omega), yb_xor]
    exact yor_b (by omega) (by omega) k3 k4 h2 h4 (fun n p q => Nat.xor_lt_two_pow p q)
  · rw [ybf h]; exact y32_i _
theorem qxor_m1 {x : Int} (h1 : -2147483648 ≤ x) (h2 : x ≤ 2147483647) : qxor x (-1) = -1 - x := by
  unfold qxor
  have e : Int32.ofInt (-1) = -1 := rfl
  rw [e, Int32.xor_neg_one, Int32.toInt_not, t32 ⟨h1, by omega⟩]
  have := wrp_bmod (-x - 1)
  rw [show (2 : Nat) ^ 32 = 4294967296 from rfl, ← this, wrp_id (by omega) (by omega)]
  omega
noncomputable def vxor1 (a b c d : Int) : yI := bif yqi c (-1) && (yqi d (-1) && (yle (-2147483648) a && yle b 2147483647)) then (-1 - b, -1 - a) else vor a b c d
theorem vxor1_ok : yok qxor vxor1 := fun a b c d x y h1 h2 h3 h4 => by
  unfold vxor1
  by_cases h : (yqi c (-1) && (yqi d (-1) && (yle (-2147483648) a && yle b 2147483647))) = true
  · rw [h]
    rw [Bool.and_eq_true, Bool.and_eq_true, Bool.and_eq_true, yqi_i, yqi_i, yle_i, yle_i] at h
    rw [show y = -1 by omega, qxor_m1 (by omega) (by omega)]
    exact ⟨by show -1 - b ≤ _; omega, by show _ ≤ -1 - a; omega⟩
  · rw [ybf h]; exact vxor_ok _ _ _ _ _ _ h1 h2 h3 h4
noncomputable def vshl (a b c d : Int) : yI := bif yle 0 a && yle 0 c && yle d 31 && yle b 2147483647 && yle (b * ((2 ^ d.toNat : Nat) : Int)) 2147483647 then (a * ((2 ^ c.toNat : Nat) : Int), b * ((2 ^ d.toNat : Nat) : Int)) else y32
theorem ypw {a b : Nat} (h : a ≤ b) : ((2 ^ a : Nat) : Int) ≤ ((2 ^ b : Nat) : Int) := Int.ofNat_le.mpr (Nat.pow_le_pow_right (by decide) h)
theorem vshl_ok : yok qshl vshl := fun a b c d x y h1 h2 h3 h4 => by
  unfold vshl
  by_cases h : (yle 0 a && yle 0 c && yle d 31 && yle b 2147483647 && yle (b * ((2 ^ d.toNat : Nat) : Int)) 2147483647) = true
  · rw [h]
    rw [Bool.and_eq_true, Bool.and_eq_true, Bool.and_eq_true, Bool.and_eq_true, yle_i, yle_i, yle_i, yle_i, yle_i] at h
    obtain ⟨⟨⟨⟨k1, k2⟩, k3⟩, k4⟩, k5⟩ := h
    have p1 := ypw (a := c.toNat) (b := y.toNat) (by omega)
    have p2 := ypw (a := y.toNat) (b := d.toNat) (by omega)
    have p0 : (0 : Int) ≤ ((2 ^ c.toNat : Nat) : Int) := Int.natCast_nonneg _
    have p := ymul_b (a := a) (b := b) (c := ((2 ^ c.toNat : Nat) : Int)) (d := ((2 ^ d.toNat : Nat) : Int)) (x := x) (y := ((2 ^ y.toNat : Nat) : Int)) k1 p0 h1 h2 p1 p2
    unfold qshl
    rw [yofn (x := x) (by omega) (by omega), yofn (x := y) (by omega) (by omega), yb_shl _ (by omega)]
    have e : ((x.toNat * 2 ^ y.toNat : Nat) : Int) = x * ((2 ^ y.toNat : Nat) : Int) := by
      rw [Int.natCast_mul, Int.toNat_of_nonneg (by omega)]
    have e2 : x.toNat * 2 ^ y.toNat < 2147483648 := by omega
    rw [nI_toInt e2, e]
    exact ⟨p.1, p.2⟩
  · rw [ybf h]; exact y32_i _
noncomputable def vshr (a b c d : Int) : yI := bif yle 0 a && yle 0 c && yle d 31 && yle b 2147483647 then (bif yqi c d then (a / ((2 ^ c.toNat : Nat) : Int), b / ((2 ^ c.toNat : Nat) : Int)) else (0, b)) else y32
theorem yshr_b {a b c d x y : Int} (k1 : 0 ≤ a) (k2 : 0 ≤ c) (h1 : a ≤ x) (h2 : x ≤ b) (h3 : c ≤ y) (h4 : y ≤ d) (k4 : b ≤ 4294967295) {z : Int} (hz : z = ((x.toNat / 2 ^ y.toNat : Nat) : Int)) : yin (bif yqi c d then (a / ((2 ^ c.toNat : Nat) : Int), b / ((2 ^ c.toNat : Nat) : Int)) else (0, b)) z := by
  subst hz
  have e : ((x.toNat / 2 ^ y.toNat : Nat) : Int) = x / ((2 ^ y.toNat : Nat) : Int) := by
    rw [Int.natCast_ediv, Int.toNat_of_nonneg (by omega)]
  have hp : (0 : Int) < ((2 ^ y.toNat : Nat) : Int) := Int.natCast_pos.mpr (Nat.two_pow_pos _)
  by_cases h : yqi c d = true
  · rw [h]
    have h5 := yqi_i.mp h
    have h6 : y = c := by omega
    subst h6
    rw [e]
    exact ⟨Int.ediv_le_ediv hp h1, Int.ediv_le_ediv hp h2⟩
  · rw [ybf h]
    have : x.toNat / 2 ^ y.toNat ≤ x.toNat := Nat.div_le_self _ _
    exact ⟨Int.natCast_nonneg _, by show ((x.toNat / 2 ^ y.toNat : Nat) : Int) ≤ b; omega⟩
theorem vshr_ok : yok qshr vshr := fun a b c d x y h1 h2 h3 h4 => by
  unfold vshr
  by_cases h : (yle 0 a && yle 0 c && yle d 31 && yle b 2147483647) = true
  · rw [h]
    rw [Bool.and_eq_true, Bool.and_eq_true, Bool.and_eq_true, yle_i, yle_i, yle_i, yle_i] at h
    obtain ⟨⟨⟨k1, k2⟩, k3⟩, k4⟩ := h
    have hs : x.toNat / 2 ^ y.toNat ≤ x.toNat := Nat.div_le_self _ _
    refine yshr_b k1 k2 h1 h2 h3 h4 (by omega) ?_
    unfold qshr
    rw [yofn (x := x) (by omega) (by omega), yofn (x := y) (by omega) (by omega), yb_shr (by omega) (by omega), nI_toInt (by omega)]
  · rw [ybf h]; exact y32_i _
noncomputable def vush (a b c d : Int) : yI := bif yle 0 a && yle 0 c && yle d 31 && yle b 2147483647 then (bif yqi c d then (a / ((2 ^ c.toNat : Nat) : Int), b / ((2 ^ c.toNat : Nat) : Int)) else (0, b)) else (bif yle 1 c && yle d 31 then (0, 2147483647) else y32)
theorem vush_ok : yok qush vush := fun a b c d x y h1 h2 h3 h4 => by
  unfold vush
  by_cases h : (yle 0 a && yle 0 c && yle d 31 && yle b 2147483647) = true
  · rw [h]
    rw [Bool.and_eq_true, Bool.and_eq_true, Bool.and_eq_true, yle_i, yle_i, yle_i, yle_i] at h
    obtain ⟨⟨⟨k1, k2⟩, k3⟩, k4⟩ := h
    have hs : x.toNat / 2 ^ y.toNat ≤ x.toNat := Nat.div_le_self _ _
    refine yshr_b k1 k2 h1 h2 h3 h4 (by omega) ?_
    unfold qush
    rw [yofn (x := x) (by omega) (by omega), yofn (x := y) (by omega) (by omega), yb_ush (by omega) (by omega), nI_toInt (by omega)]
  · rw [ybf h]
    by_cases k : (yle 1 c && yle d 31) = true
    · rw [k]
      rw [Bool.and_eq_true, yle_i, yle_i] at k
      unfold qush
      rw [yofm x, yofn (x := y) (by omega) (by omega), yb_ush (by omega) (by omega)]
      have h5 : (x % 4294967296).toNat / 2 ^ y.toNat ≤ (x % 4294967296).toNat / 2 ^ 1 := Nat.div_le_div_left (Nat.pow_le_pow_right (by decide) (by omega)) (by decide)
      have h6 : (x % 4294967296).toNat / 2 ^ 1 < 2147483648 := by omega
      rw [nI_toInt (by omega)]
      exact ⟨Int.natCast_nonneg _, by show (((x % 4294967296).toNat / 2 ^ y.toNat : Nat) : Int) ≤ 2147483647; omega⟩
    · rw [ybf k]; exact y32_i _
noncomputable def v64 (_ _ _ _ : Int) : yI := y64
theorem vland_ok : yok qland v64 := fun a b c d x y h1 h2 h3 h4 => y64_i _
theorem vlor_ok : yok qlor v64 := fun a b c d x y h1 h2 h3 h4 => y64_i _
theorem vlshl_ok : yok qlshl v64 := fun a b c d x y h1 h2 h3 h4 => y64_i _
theorem vlush_ok : yok qlush v64 := fun a b c d x y h1 h2 h3 h4 => y64_i _
