/-! longs as sets of bits -/
noncomputable def un (x : Int) : Nat := (Int64.ofInt x).toBitVec.toNat
noncomputable def lb (x : Int) (s : Nat) : Bool := (un x).testBit s
theorem un_lt (x : Int) : un x < 18446744073709551616 := (Int64.ofInt x).toBitVec.isLt
theorem un_or (x y : Int) : un (qlor x y) = un x ||| un y := by
  unfold un; rw [← e_lor, Int64.toBitVec_or, BitVec.toNat_or]
theorem un_and (x y : Int) : un (qland x y) = un x &&& un y := by
  unfold un; rw [← e_land, Int64.toBitVec_and, BitVec.toNat_and]
theorem un_w (x : Int) : un (wrl x) = un x := by unfold un; rw [w64]
theorem un_e (x : Int) : un x = (x % 18446744073709551616).toNat := by
  unfold un
  rw [Int64.toBitVec_ofInt, BitVec.toNat_ofInt]
  rfl
theorem un_n {n : Nat} (h : n < 18446744073709551616) : un (n : Int) = n := by rw [un_e]; omega
theorem un_inj {x y : Int} (hx : qi64 x) (hy : qi64 y) (h : un x = un y) : x = y := by
  rw [un_e, un_e] at h
  unfold qi64 at hx hy
  omega
theorem lb_or (x y : Int) (s : Nat) : lb (qlor x y) s = (lb x s || lb y s) := by unfold lb; rw [un_or, Nat.testBit_or]
theorem lb_and (x y : Int) (s : Nat) : lb (qland x y) s = (lb x s && lb y s) := by unfold lb; rw [un_and, Nat.testBit_and]
theorem lb_hi {x : Int} {s : Nat} (h : 64 ≤ s) : lb x s = false := Nat.testBit_lt_two_pow (Nat.lt_of_lt_of_le (un_lt x) (show 2 ^ 64 ≤ 2 ^ s from Nat.pow_le_pow_right (by decide) h))
theorem lb_z (s : Nat) : lb 0 s = false := by
  unfold lb; rw [show un 0 = 0 from un_n (n := 0) (by decide), Nat.zero_testBit]
theorem lb_ext {x y : Int} (hx : qi64 x) (hy : qi64 y) (h : ∀ s, s < 64 → lb x s = lb y s) : x = y := un_inj hx hy (Nat.eq_of_testBit_eq (fun s => if q : s < 64 then h s q else (lb_hi (x := x) (by omega)).trans (lb_hi (x := y) (by omega)).symm))
theorem un_sh1 : ∀ s : Nat, s < 64 → un (qlshl 1 (s : Int)) = 2 ^ s := by decide +kernel
theorem lb_sh1 {s j : Nat} (hs : s < 64) : lb (qlshl 1 (s : Int)) j = decide (s = j) := by unfold lb; rw [un_sh1 s hs, Nat.testBit_two_pow]
theorem qland_64 (x y : Int) : qi64 (qland x y) := i64_in _
theorem qlor_64 (x y : Int) : qi64 (qlor x y) := i64_in _
theorem lus_k : ∀ k : Nat, k < 64 → ((Int32.ofInt (k : Int)).toInt64.toUInt64 &&& Int64.toUInt64 63).toNat % 64 = k := by decide +kernel
theorem un_ush (x : Int) {k : Nat} (hk : k < 64) : un (qlush x (k : Int)) = un x / 2 ^ k := by
  unfold un
  rw [← e_lush, UInt64.toBitVec_toInt64, UInt64.toBitVec_shiftRight, BitVec.ushiftRight_eq', BitVec.toNat_ushiftRight, Int64.toBitVec_toUInt64, Nat.shiftRight_eq_div_pow]
  have q := lus_k k hk
  have e : ((((Int32.ofInt (k : Int)).toInt64.toUInt64 &&& Int64.toUInt64 63).toBitVec % 64) : BitVec 64).toNat = k := by
    rw [BitVec.toNat_umod]
    exact q
  rw [e]
-- the lowest bit of an int
theorem un32_hb {x : Int} {s : Nat} (hs : s < 32) : hbit x s = ((x % 4294967296).toNat).testBit s := by
  rw [hbit_b hs, BitVec.getLsbD, Int32.toBitVec_ofInt, BitVec.toNat_ofInt]
  rfl
theorem hb_ext32 {x y : Int} (hx : qi32 x) (hy : qi32 y) (h : ∀ s, s < 32 → hbit x s = hbit y s) : x = y := by
  have e : (x % 4294967296).toNat = (y % 4294967296).toNat := Nat.eq_of_testBit_eq (fun s => by
    by_cases q : s < 32
    · rw [← un32_hb q, ← un32_hb q]; exact h s q
    · have b : ∀ z : Int, ((z % 4294967296).toNat).testBit s = false := fun z => Nat.testBit_lt_two_pow (Nat.lt_of_lt_of_le (show (z % 4294967296).toNat < 2 ^ 32 by omega) (Nat.pow_le_pow_right (by decide) (by omega)))
      rw [b, b])
  unfold qi32 at hx hy
  omega
theorem ntz_t : ∀ s : Nat, s < 32 → (if 0 < ((2 ^ s - 1 : Nat) : Int) then ntz5 (ntz4 (ntz3 (ntz2 (ntz1 ((2 ^ s - 1 : Nat) : Int))))) else qand ((2 ^ s - 1 : Nat) : Int) 32) = (s : Int) := by decide +kernel
theorem low_m {n s : Nat} (h : n.testBit s = true) (hl : ∀ t, t < s → n.testBit t = false) : ∃ m, n = 2 ^ s * (2 * m + 1) := by
  have h1 : n % 2 ^ s = 0 := Nat.eq_of_testBit_eq (fun i => by
    rw [Nat.testBit_mod_two_pow, Nat.zero_testBit]
    by_cases q : i < s
    · rw [hl i q, Bool.and_false]
    · rw [decide_eq_false q, Bool.false_and])
  have h2 : n / 2 ^ s % 2 = 1 := by
    rw [Nat.testBit_eq_decide_div_mod_eq] at h
    exact of_decide_eq_true h
  have h3 := Nat.div_add_mod n (2 ^ s)
  have h4 := Nat.div_add_mod (n / 2 ^ s) 2
  refine ⟨n / 2 ^ s / 2, ?_⟩
  rw [h2] at h4
  rw [h1] at h3
  rw [h4]
  omega
theorem pred_tb {m s : Nat} (t : Nat) : (2 ^ s * (2 * m + 1) - 1).testBit t = if t < s then true else if t = s then false else (2 ^ s * (2 * m + 1)).testBit t := by
  have hp : 0 < 2 ^ s := Nat.two_pow_pos s
  have e : 2 ^ s * (2 * m + 1) - 1 = 2 ^ s * (2 * m) + (2 ^ s - 1) := by
    rw [Nat.mul_add, Nat.mul_one]; omega
  rw [e, Nat.testBit_two_pow_mul_add _ (show 2 ^ s - 1 < 2 ^ s by omega)]
  have f : (2 ^ s * (2 * m + 1)).testBit t = if t < s then false else (2 * m + 1).testBit (t - s) := by
    have := Nat.testBit_two_pow_mul_add (2 * m + 1) (b := 0) hp t
    rw [Nat.add_zero, Nat.zero_testBit] at this
    exact this
  by_cases h : t < s
  · rw [if_pos h, if_pos h, Nat.testBit_two_pow_sub_one, decide_eq_true h]
  · rw [if_neg h, if_neg h, f, if_neg h]
    by_cases q : t = s
    · rw [if_pos q, q, Nat.sub_self, Nat.testBit_zero, show 2 * m % 2 = 0 by omega]; rfl
    · rw [if_neg q]
      obtain ⟨u, hu⟩ : ∃ u, t - s = u + 1 := ⟨t - s - 1, by omega⟩
      rw [hu, Nat.testBit_succ, Nat.testBit_succ, show 2 * m / 2 = m by omega, show (2 * m + 1) / 2 = m by omega]
theorem ntz_low {x : Int} {s : Nat} (hs : s < 32) (h : hbit x s = true) (hl : ∀ t, t < s → hbit x t = false) : ntzF x = (s : Int) := by
  have y9 : qand (qxor x (-1)) (wrp (x - 1)) = ((2 ^ s - 1 : Nat) : Int) := by
    have hp : 2 ^ s ≤ 2 ^ 31 := Nat.pow_le_pow_right (by decide) (by omega)
    have h31 : 2 ^ 31 = 2147483648 := rfl
    refine hb_ext32 (i32_in _) ⟨by omega, by omega⟩ (fun t ht => ?_)
    obtain ⟨m, hm⟩ := low_m (n := (x % 4294967296).toNat) (s := s) (by rw [← un32_hb hs]; exact h) (fun t q => by rw [← un32_hb (by omega)]; exact hl t q)
    have hp0 : 0 < 2 ^ s := Nat.two_pow_pos s
    have e1 : ((wrp (x - 1)) % 4294967296).toNat = (x % 4294967296).toNat - 1 := by
      have hne : 0 < (x % 4294967296).toNat := by rw [hm]; exact Nat.mul_pos hp0 (by omega)
      unfold wrp; omega
    have hx1 : hbit (wrp (x - 1)) t = if t < s then true else if t = s then false else hbit x t := by
      rw [un32_hb ht, e1, hm, pred_tb, ← hm, un32_hb ht]
    have hxr : hbit (qxor x (-1)) t = !hbit x t := by
      rw [hbit_b ht, ← e_xor, Int32.toBitVec_xor, BitVec.getLsbD_xor, ← hbit_b ht, ← hbit_b ht, show hbit (-1) t = true from (show ∀ t : Nat, t < 32 → hbit (-1) t = true by decide +kernel) t ht, Bool.xor_true]
    rw [hbit_and ht, hxr, hx1, un32_hb (x := ((2 ^ s - 1 : Nat) : Int)) ht, show (((2 ^ s - 1 : Nat) : Int) % 4294967296).toNat = 2 ^ s - 1 by omega, Nat.testBit_two_pow_sub_one]
    rcases Nat.lt_trichotomy t s with q | q | q
    · rw [if_pos q, hl t q, decide_eq_true q]; rfl
    · rw [if_neg (by omega), if_pos q, decide_eq_false (by omega), Bool.and_false]
    · rw [if_neg (by omega), if_neg (by omega), decide_eq_false (by omega)]
      cases hbit x t <;> rfl
  unfold ntzF
  rw [y9]
  exact ntz_t s hs
-- the lowest bit of a long
theorem lo_i {x : Int} {s : Nat} (hs : s < 32) : hbit (wrp x) s = lb x s := by
  unfold lb
  rw [un32_hb hs, un_e]
  have e : ((wrp x) % 4294967296).toNat = (x % 18446744073709551616).toNat % 2 ^ 32 := by
    unfold wrp
    rw [show (2 : Nat) ^ 32 = 4294967296 from rfl]
    omega
  rw [e, Nat.testBit_mod_two_pow, decide_eq_true hs, Bool.true_and]
theorem hi_i {x : Int} {s : Nat} (hs : s < 32) : hbit (wrp (qlush x 32)) s = lb x (s + 32) := by
  rw [lo_i hs]
  unfold lb
  rw [show (32 : Int) = ((32 : Nat) : Int) from rfl, un_ush x (by decide), Nat.testBit_div_two_pow]
noncomputable def lntF (x : Int) : Int := if wrp x = 0 then wrp (32 + ntzF (wrp (qlush x 32))) else ntzF (wrp x)
theorem lnt_low {x : Int} {s : Nat} (hs : s < 64) (h : lb x s = true) (hl : ∀ t, t < s → lb x t = false) : lntF x = (s : Int) := by
  unfold lntF
  by_cases q : s < 32
  · have hne : ¬ wrp x = 0 := fun z => by
      rw [← lo_i q, z] at h
      exact absurd h (by rw [hbit_z s q]; decide)
    rw [if_neg hne]
    exact ntz_low q ((lo_i q).trans h) (fun t ht => (lo_i (by omega)).trans (hl t ht))
  · have hz : wrp x = 0 := hb_ext32 (wrp_in _) ⟨by decide, by decide⟩ (fun t ht => by rw [lo_i ht, hl t (by omega), hbit_z t ht])
    obtain ⟨u, rfl⟩ : ∃ u, s = u + 32 := ⟨s - 32, by omega⟩
    rw [if_pos hz, ntz_low (s := u) (by omega) ((hi_i (by omega)).trans h) (fun t ht => (hi_i (by omega)).trans (hl (t + 32) (by omega))), wrp_id (by omega) (by omega)]
    omega
theorem lowx_ex {n : Nat} : ∀ m, (∃ s, s < m ∧ n.testBit s = true) → ∃ s, s < m ∧ n.testBit s = true ∧ ∀ t, t < s → n.testBit t = false
  | 0, ⟨s, hs, _⟩ => absurd hs (Nat.not_lt_zero s)
  | m + 1, ⟨s, hs, h⟩ => by
    by_cases q : ∃ s, s < m ∧ n.testBit s = true
    · obtain ⟨s2, a, b, c⟩ := lowx_ex m q
      exact ⟨s2, by omega, b, c⟩
    · refine ⟨s, hs, h, fun t ht => ?_⟩
      cases hb : n.testBit t with
      | false => rfl
      | true => exact absurd ⟨t, by omega, hb⟩ q
theorem lb_ne {x : Int} (hx : qi64 x) (h : ¬ x = 0) : ∃ s, s < 64 ∧ lb x s = true ∧ ∀ t, t < s → lb x t = false := by
  refine lowx_ex 64 ?_
  by_cases q : ∃ s, s < 64 ∧ (un x).testBit s = true
  · exact q
  · exact absurd (lb_ext hx ⟨by decide, by decide⟩ (fun s hs => by
      rw [lb_z]
      cases hb : lb x s with
      | false => rfl
      | true => exact absurd ⟨s, hs, hb⟩ q)) h
theorem lb_clr {x : Int} {s : Nat} (hs : s < 64) (h : lb x s = true) (hl : ∀ t, t < s → lb x t = false) (t : Nat) : lb (qland x (wrl (x - 1))) t = (lb x t && decide (t ≠ s)) := by
  obtain ⟨m, hm⟩ := low_m (n := un x) (s := s) h hl
  have hp0 : 0 < 2 ^ s := Nat.two_pow_pos s
  have e1 : un (wrl (x - 1)) = un x - 1 := by
    have hne : 0 < un x := by rw [hm]; exact Nat.mul_pos hp0 (by omega)
    rw [un_w]
    rw [un_e] at hne ⊢
    rw [un_e]
    omega
  rw [lb_and]
  have h2 : lb (wrl (x - 1)) t = if t < s then true else if t = s then false else lb x t := by
    unfold lb
    rw [e1, hm, pred_tb, ← hm]
  rw [h2]
  rcases Nat.lt_trichotomy t s with q | q | q
  · rw [hl t q]; rfl
  · rw [if_neg (by omega), if_pos q, Bool.and_false, decide_eq_false (fun z => z q), Bool.and_false]
  · rw [if_neg (by omega), if_neg (by omega), decide_eq_true (show t ≠ s by omega)]
    cases lb x t <;> rfl
-- the count of a long's bits
noncomputable def lw1 (n : Nat) : Nat := n - (n / 2 &&& 6148914691236517205)
noncomputable def lw2 (y : Nat) : Nat := (y &&& 3689348814741910323) + (y / 4 &&& 3689348814741910323)
noncomputable def lw3 (y : Nat) : Nat := (y + y / 16) &&& 1085102592571150095
noncomputable def lwN (n : Nat) : Nat := (sw4 (lw3 (lw2 (lw1 n))) + sw4 (lw3 (lw2 (lw1 n))) / 65536 + (sw4 (lw3 (lw2 (lw1 n))) + sw4 (lw3 (lw2 (lw1 n))) / 65536) / 4294967296) % 128
theorem lw1_b {a0 a1 a2 a3 a4 a5 a6 a7 : Nat} (h0 : a0 < 256) (h1 : a1 < 256) (h2 : a2 < 256) (h3 : a3 < 256) (h4 : a4 < 256) (h5 : a5 < 256) (h6 : a6 < 256) (h7 : a7 < 256) : lw1 (256 * (256 * (256 * (256 * (256 * (256 * (256 * (a7) + a6) + a5) + a4) + a3) + a2) + a1) + a0) = 256 * (256 * (256 * (256 * (256 * (256 * (256 * (bc1 a7) + bc1 a6) + bc1 a5) + bc1 a4) + bc1 a3) + bc1 a2) + bc1 a1) + bc1 a0 := by
  have s1 : (256 * (256 * (256 * (256 * (256 * (256 * (256 * (a7) + a6) + a5) + a4) + a3) + a2) + a1) + a0) / 2 &&& 6148914691236517205 = 256 * (256 * (256 * (256 * (256 * (256 * (256 * ((a7 / 2 &&& 85)) + (a6 / 2 &&& 85)) + (a5 / 2 &&& 85)) + (a4 / 2 &&& 85)) + (a3 / 2 &&& 85)) + (a2 / 2 &&& 85)) + (a1 / 2 &&& 85)) + (a0 / 2 &&& 85) := by
    rw [show (6148914691236517205 : Nat) = 256 * (256 * (256 * (256 * (256 * (256 * (256 * (85) + 85) + 85) + 85) + 85) + 85) + 85) + 85 from rfl, bcs_1 h0, bcs_1 h1, bcs_1 h2, bcs_1 h3, bcs_1 h4, bcs_1 h5, bcs_1 h6]
  have u0 := (bct_1 a0 h0).1.1
  have u1 := (bct_1 a1 h1).1.1
  have u2 := (bct_1 a2 h2).1.1
  have u3 := (bct_1 a3 h3).1.1
  have u4 := (bct_1 a4 h4).1.1
  have u5 := (bct_1 a5 h5).1.1
  have u6 := (bct_1 a6 h6).1.1
  have u7 := (bct_1 a7 h7).1.1
  unfold lw1 bc1
  rw [s1]
  clear s1
  revert u0 u1 u2 u3 u4 u5 u6 u7
  generalize a0 / 2 &&& 85 = z0
  generalize a1 / 2 &&& 85 = z1
  generalize a2 / 2 &&& 85 = z2
  generalize a3 / 2 &&& 85 = z3
  generalize a4 / 2 &&& 85 = z4
  generalize a5 / 2 &&& 85 = z5
  generalize a6 / 2 &&& 85 = z6
  generalize a7 / 2 &&& 85 = z7
  intro u0 u1 u2 u3 u4 u5 u6 u7
  omega
theorem lw2_b {a0 a1 a2 a3 a4 a5 a6 a7 : Nat} (h0 : a0 < 256) (h1 : a1 < 256) (h2 : a2 < 256) (h3 : a3 < 256) (h4 : a4 < 256) (h5 : a5 < 256) (h6 : a6 < 256) : lw2 (256 * (256 * (256 * (256 * (256 * (256 * (256 * (a7) + a6) + a5) + a4) + a3) + a2) + a1) + a0) = 256 * (256 * (256 * (256 * (256 * (256 * (256 * (bc2 a7) + bc2 a6) + bc2 a5) + bc2 a4) + bc2 a3) + bc2 a2) + bc2 a1) + bc2 a0 := by
  unfold lw2 bc2
  rw [show (3689348814741910323 : Nat) = 256 * (256 * (256 * (256 * (256 * (256 * (256 * (51) + 51) + 51) + 51) + 51) + 51) + 51) + 51 from rfl, bcs_2 h0, bcs_2 h1, bcs_2 h2, bcs_2 h3, bcs_2 h4, bcs_2 h5, bcs_2 h6, nb_and h0 (by decide), nb_and h1 (by decide), nb_and h2 (by decide), nb_and h3 (by decide), nb_and h4 (by decide), nb_and h5 (by decide), nb_and h6 (by decide)]
  generalize a0 &&& 51 = z0
  generalize a1 &&& 51 = z1
  generalize a2 &&& 51 = z2
  generalize a3 &&& 51 = z3
  generalize a4 &&& 51 = z4
  generalize a5 &&& 51 = z5
  generalize a6 &&& 51 = z6
  generalize a7 &&& 51 = z7
  generalize a0 / 4 &&& 51 = x0
  generalize a1 / 4 &&& 51 = x1
  generalize a2 / 4 &&& 51 = x2
  generalize a3 / 4 &&& 51 = x3
  generalize a4 / 4 &&& 51 = x4
  generalize a5 / 4 &&& 51 = x5
  generalize a6 / 4 &&& 51 = x6
  generalize a7 / 4 &&& 51 = x7
  omega
theorem lw3_b {a0 a1 a2 a3 a4 a5 a6 a7 : Nat} (v0 : a0 % 16 ≤ 4 ∧ a0 / 16 ≤ 4) (v1 : a1 % 16 ≤ 4 ∧ a1 / 16 ≤ 4) (v2 : a2 % 16 ≤ 4 ∧ a2 / 16 ≤ 4) (v3 : a3 % 16 ≤ 4 ∧ a3 / 16 ≤ 4) (v4 : a4 % 16 ≤ 4 ∧ a4 / 16 ≤ 4) (v5 : a5 % 16 ≤ 4 ∧ a5 / 16 ≤ 4) (v6 : a6 % 16 ≤ 4 ∧ a6 / 16 ≤ 4) (v7 : a7 % 16 ≤ 4 ∧ a7 / 16 ≤ 4) : lw3 (256 * (256 * (256 * (256 * (256 * (256 * (256 * (a7) + a6) + a5) + a4) + a3) + a2) + a1) + a0) = 256 * (256 * (256 * (256 * (256 * (256 * (256 * (bc3 a7) + bc3 a6) + bc3 a5) + bc3 a4) + bc3 a3) + bc3 a2) + bc3 a1) + bc3 a0 := by
  unfold lw3
  rw [show (1085102592571150095 : Nat) = 256 * (256 * (256 * (256 * (256 * (256 * (256 * (15) + 15) + 15) + 15) + 15) + 15) + 15) + 15 from rfl, bcs_3 v0.1 v0.2 (by omega), bcs_3 v1.1 v1.2 (by omega), bcs_3 v2.1 v2.2 (by omega), bcs_3 v3.1 v3.2 (by omega), bcs_3 v4.1 v4.2 (by omega), bcs_3 v5.1 v5.2 (by omega), bcs_3 v6.1 v6.2 (by omega)]
  rfl
theorem lw4_b {a0 a1 a2 a3 a4 a5 a6 a7 : Nat} (x0 : a0 ≤ 8) (x1 : a1 ≤ 8) (x2 : a2 ≤ 8) (x3 : a3 ≤ 8) (x4 : a4 ≤ 8) (x5 : a5 ≤ 8) (x6 : a6 ≤ 8) (x7 : a7 ≤ 8) : (sw4 (256 * (256 * (256 * (256 * (256 * (256 * (256 * (a7) + a6) + a5) + a4) + a3) + a2) + a1) + a0) + sw4 (256 * (256 * (256 * (256 * (256 * (256 * (256 * (a7) + a6) + a5) + a4) + a3) + a2) + a1) + a0) / 65536 + (sw4 (256 * (256 * (256 * (256 * (256 * (256 * (256 * (a7) + a6) + a5) + a4) + a3) + a2) + a1) + a0) + sw4 (256 * (256 * (256 * (256 * (256 * (256 * (256 * (a7) + a6) + a5) + a4) + a3) + a2) + a1) + a0) / 65536) / 4294967296) % 128 = a0 + a1 + a2 + a3 + a4 + a5 + a6 + a7 := by
  have f1 : sw4 (256 * (256 * (256 * (256 * (256 * (256 * (256 * (a7) + a6) + a5) + a4) + a3) + a2) + a1) + a0) = 256 * (256 * (256 * (256 * (256 * (256 * (256 * (a7) + (a6 + a7)) + (a5 + a6)) + (a4 + a5)) + (a3 + a4)) + (a2 + a3)) + (a1 + a2)) + (a0 + a1) := by unfold sw4; omega
  rw [f1]
  have f2 : (256 * (256 * (256 * (256 * (256 * (256 * (256 * (a7) + (a6 + a7)) + (a5 + a6)) + (a4 + a5)) + (a3 + a4)) + (a2 + a3)) + (a1 + a2)) + (a0 + a1)) / 65536 = 256 * (256 * (256 * (256 * (256 * (a7) + (a6 + a7)) + (a5 + a6)) + (a4 + a5)) + (a3 + a4)) + (a2 + a3) := by omega
  rw [f2]
  have f3 : (256 * (256 * (256 * (256 * (256 * (256 * (256 * (a7) + (a6 + a7)) + (a5 + a6)) + (a4 + a5)) + (a3 + a4)) + (a2 + a3)) + (a1 + a2)) + (a0 + a1) + (256 * (256 * (256 * (256 * (256 * (a7) + (a6 + a7)) + (a5 + a6)) + (a4 + a5)) + (a3 + a4)) + (a2 + a3))) / 4294967296 = 256 * (256 * (256 * (a7) + (a6 + a7)) + (a5 + a6 + a7)) + (a4 + a5 + a6 + a7) := by omega
  rw [f3]
  omega
theorem lwN_b {a0 a1 a2 a3 a4 a5 a6 a7 : Nat} (h0 : a0 < 256) (h1 : a1 < 256) (h2 : a2 < 256) (h3 : a3 < 256) (h4 : a4 < 256) (h5 : a5 < 256) (h6 : a6 < 256) (h7 : a7 < 256) : lwN (256 * (256 * (256 * (256 * (256 * (256 * (256 * (a7) + a6) + a5) + a4) + a3) + a2) + a1) + a0) = pcn a0 8 + pcn a1 8 + pcn a2 8 + pcn a3 8 + pcn a4 8 + pcn a5 8 + pcn a6 8 + pcn a7 8 := by
  have w0 := bct_5 a0 h0
  have w1 := bct_5 a1 h1
  have w2 := bct_5 a2 h2
  have w3 := bct_5 a3 h3
  have w4 := bct_5 a4 h4
  have w5 := bct_5 a5 h5
  have w6 := bct_5 a6 h6
  have w7 := bct_5 a7 h7
  unfold lwN
  rw [lw1_b h0 h1 h2 h3 h4 h5 h6 h7, lw2_b (bct_1 a0 h0).2 (bct_1 a1 h1).2 (bct_1 a2 h2).2 (bct_1 a3 h3).2 (bct_1 a4 h4).2 (bct_1 a5 h5).2 (bct_1 a6 h6).2, lw3_b (bct_3 a0 h0) (bct_3 a1 h1) (bct_3 a2 h2) (bct_3 a3 h3) (bct_3 a4 h4) (bct_3 a5 h5) (bct_3 a6 h6) (bct_3 a7 h7), w0.1, w1.1, w2.1, w3.1, w4.1, w5.1, w6.1, w7.1]
  exact lw4_b w0.2 w1.2 w2.2 w3.2 w4.2 w5.2 w6.2 w7.2
theorem lwN_ok {n : Nat} (hn : n < 18446744073709551616) : lwN n = pcn n 64 := by
  have e : n = 256 * (256 * (256 * (256 * (256 * (256 * (256 * (n / 72057594037927936) + n / 281474976710656 % 256) + n / 1099511627776 % 256) + n / 4294967296 % 256) + n / 16777216 % 256) + n / 65536 % 256) + n / 256 % 256) + n % 256 := by omega
  have h0 : n % 256 < 256 := by omega
  have h1 : n / 256 % 256 < 256 := by omega
  have h2 : n / 65536 % 256 < 256 := by omega
  have h3 : n / 16777216 % 256 < 256 := by omega
  have h4 : n / 4294967296 % 256 < 256 := by omega
  have h5 : n / 1099511627776 % 256 < 256 := by omega
  have h6 : n / 281474976710656 % 256 < 256 := by omega
  have h7 : n / 72057594037927936 < 256 := by omega
  revert e h0 h1 h2 h3 h4 h5 h6 h7
  generalize n % 256 = a0
  generalize n / 256 % 256 = a1
  generalize n / 65536 % 256 = a2
  generalize n / 16777216 % 256 = a3
  generalize n / 4294967296 % 256 = a4
  generalize n / 1099511627776 % 256 = a5
  generalize n / 281474976710656 % 256 = a6
  generalize n / 72057594037927936 = a7
  intro e h0 h1 h2 h3 h4 h5 h6 h7
  have q0 : pcn (256 * (256 * (256 * (256 * (256 * (256 * (256 * (a7) + a6) + a5) + a4) + a3) + a2) + a1) + a0) 64 = pcn a0 8 + pcn (256 * (256 * (256 * (256 * (256 * (256 * (a7) + a6) + a5) + a4) + a3) + a2) + a1) 56 := pcn_s h0 56
  have q1 : pcn (256 * (256 * (256 * (256 * (256 * (256 * (a7) + a6) + a5) + a4) + a3) + a2) + a1) 56 = pcn a1 8 + pcn (256 * (256 * (256 * (256 * (256 * (a7) + a6) + a5) + a4) + a3) + a2) 48 := pcn_s h1 48
  have q2 : pcn (256 * (256 * (256 * (256 * (256 * (a7) + a6) + a5) + a4) + a3) + a2) 48 = pcn a2 8 + pcn (256 * (256 * (256 * (256 * (a7) + a6) + a5) + a4) + a3) 40 := pcn_s h2 40
  have q3 : pcn (256 * (256 * (256 * (256 * (a7) + a6) + a5) + a4) + a3) 40 = pcn a3 8 + pcn (256 * (256 * (256 * (a7) + a6) + a5) + a4) 32 := pcn_s h3 32
  have q4 : pcn (256 * (256 * (256 * (a7) + a6) + a5) + a4) 32 = pcn a4 8 + pcn (256 * (256 * (a7) + a6) + a5) 24 := pcn_s h4 24
  have q5 : pcn (256 * (256 * (a7) + a6) + a5) 24 = pcn a5 8 + pcn (256 * (a7) + a6) 16 := pcn_s h5 16
  have q6 : pcn (256 * (a7) + a6) 16 = pcn a6 8 + pcn (a7) 8 := pcn_s h6 8
  rw [e, lwN_b h0 h1 h2 h3 h4 h5 h6 h7, q0, q1, q2, q3, q4, q5, q6]
  omega
theorem pcnL_c (n : Nat) : ∀ m, pcn n m = ctb (fun i => n.testBit i) m
  | 0 => rfl
  | m + 1 => by
    show pcn n m + n / 2 ^ m % 2 = ctb (fun i => n.testBit i) m + (bif n.testBit m then 1 else 0)
    rw [pcnL_c n m, Nat.testBit_eq_decide_div_mod_eq]
    have h : n / 2 ^ m % 2 = 0 ∨ n / 2 ^ m % 2 = 1 := by omega
    rcases h with h | h <;> rw [h] <;> rfl
theorem qand_m7 (x : Int) : qand x 127 = x % 128 := by
  have e : qand x 127 = ((x % 128).toNat : Int) := by
    refine hb_ext32 (i32_in _) ⟨by omega, by omega⟩ (fun s hs => ?_)
    rw [hbit_and hs, un32_hb hs, un32_hb hs, un32_hb hs, show ((127 : Int) % 4294967296).toNat = 2 ^ 7 - 1 from rfl, Nat.testBit_two_pow_sub_one]
    have q : ((((x % 128).toNat : Nat) : Int) % 4294967296).toNat = (x % 4294967296).toNat % 2 ^ 7 := by
      rw [show (2 : Nat) ^ 7 = 128 from rfl]; omega
    rw [q, Nat.testBit_mod_two_pow, Bool.and_comm]
  rw [e]; omega
noncomputable def lc1 (x : Int) : Int := wrl (x - qland (qlush x 1) 6148914691236517205)
noncomputable def lc2 (x : Int) : Int := wrl (qland x 3689348814741910323 + qland (qlush x 2) 3689348814741910323)
noncomputable def lc3 (x : Int) : Int := qland (wrl (x + qlush x 4)) 1085102592571150095
noncomputable def lc4 (x : Int) : Int := wrl (x + qlush x 8)
noncomputable def lc5 (x : Int) : Int := wrl (x + qlush x 16)
noncomputable def lc6 (x : Int) : Int := wrl (x + qlush x 32)
noncomputable def lbcF (x : Int) : Int := qand (wrp (lc6 (lc5 (lc4 (lc3 (lc2 (lc1 x))))))) 127
theorem K_lbc {d : Nat} (hd : 0 ≤ d) (x : Int) (w : qW) : qG none d 304 0 [(1, x), (9, 0)] [] w 142 (fun (r : qV) (w1 : qW) (n1 : Nat) => r = (0, lbcF x) ∧ w1 = w ∧ n1 = 142) := by
  refine qG.blk 8 (pc' := 10) (ls' := [(1, lc1 x), (9, 0)]) (st' := []) (w' := w) (n' := 142) rfl ?_
  refine qG.blk 10 (pc' := 24) (ls' := [(1, lc2 (lc1 x)), (9, 0)]) (st' := []) (w' := w) (n' := 142) rfl ?_
  refine qG.blk 8 (pc' := 34) (ls' := [(1, lc3 (lc2 (lc1 x))), (9, 0)]) (st' := []) (w' := w) (n' := 142) rfl ?_
  refine qG.blk 6 (pc' := 41) (ls' := [(1, lc4 (lc3 (lc2 (lc1 x)))), (9, 0)]) (st' := []) (w' := w) (n' := 142) rfl ?_
  refine qG.blk 6 (pc' := 48) (ls' := [(1, lc5 (lc4 (lc3 (lc2 (lc1 x))))), (9, 0)]) (st' := []) (w' := w) (n' := 142) rfl ?_
  refine qG.blk 6 (pc' := 55) (ls' := [(1, lc6 (lc5 (lc4 (lc3 (lc2 (lc1 x)))))), (9, 0)]) (st' := []) (w' := w) (n' := 142) rfl ?_
  refine qG.blk 4 (pc' := 60) (ls' := [(1, lc6 (lc5 (lc4 (lc3 (lc2 (lc1 x)))))), (9, 0)]) (st' := [(0, lbcF x)]) (w' := w) (n' := 142) rfl ?_
  refine qG.ret rfl rfl ?_
  exact ⟨rfl, rfl, rfl⟩
theorem un_addm (x y : Int) : un (wrl (x + y)) = (un x + un y) % 18446744073709551616 := by
  rw [un_w, un_e, un_e, un_e]; omega
theorem un_subm {x y : Int} (h : un y ≤ un x) : un (wrl (x - y)) = un x - un y := by
  rw [un_w]
  rw [un_e x, un_e y] at *
  rw [un_e]
  omega
theorem m5 : un 6148914691236517205 = 6148914691236517205 := un_n (n := 6148914691236517205) (by decide)
theorem m3 : un 3689348814741910323 = 3689348814741910323 := un_n (n := 3689348814741910323) (by decide)
theorem mf : un 1085102592571150095 = 1085102592571150095 := un_n (n := 1085102592571150095) (by decide)
theorem us1 (x : Int) : un (qlush x 1) = un x / 2 := un_ush x (k := 1) (by decide)
theorem us2 (x : Int) : un (qlush x 2) = un x / 4 := un_ush x (k := 2) (by decide)
theorem us4 (x : Int) : un (qlush x 4) = un x / 16 := un_ush x (k := 4) (by decide)
theorem us8 (x : Int) : un (qlush x 8) = un x / 256 := un_ush x (k := 8) (by decide)
theorem us16 (x : Int) : un (qlush x 16) = un x / 65536 := un_ush x (k := 16) (by decide)
theorem us32 (x : Int) : un (qlush x 32) = un x / 4294967296 := un_ush x (k := 32) (by decide)
theorem un_lc1 (x : Int) : un (lc1 x) = lw1 (un x) := by
  unfold lc1 lw1
  have e : un (qland (qlush x 1) 6148914691236517205) = un x / 2 &&& 6148914691236517205 := by rw [un_and, us1, m5]
  have h : un x / 2 &&& 6148914691236517205 ≤ un x := Nat.le_trans Nat.and_le_left (Nat.div_le_self _ _)
  rw [un_subm (by rw [e]; exact h), e]
theorem un_lc2 (x : Int) : un (lc2 x) = lw2 (un x) := by
  unfold lc2 lw2
  rw [un_addm, un_and, un_and, us2, m3]
  have h1 : un x &&& 3689348814741910323 ≤ 3689348814741910323 := Nat.and_le_right
  have h2 : un x / 4 &&& 3689348814741910323 ≤ 3689348814741910323 := Nat.and_le_right
  exact Nat.mod_eq_of_lt (by omega)
theorem un_lc3 (x : Int) (h : un x ≤ 7378697629483820646) : un (lc3 x) = lw3 (un x) := by
  unfold lc3 lw3
  rw [un_and, mf, un_addm, us4, Nat.mod_eq_of_lt (by omega)]
theorem lw2_le (n : Nat) : lw2 n ≤ 7378697629483820646 := by
  unfold lw2
  have h1 : n &&& 3689348814741910323 ≤ 3689348814741910323 := Nat.and_le_right
  have h2 : n / 4 &&& 3689348814741910323 ≤ 3689348814741910323 := Nat.and_le_right
  omega
theorem lw3_le (n : Nat) : lw3 n ≤ 1085102592571150095 := Nat.and_le_right
theorem un_lc4 (x : Int) (h : un x ≤ 1085102592571150095) : un (lc4 x) = sw4 (un x) := by
  unfold lc4 sw4
  rw [un_addm, us8, Nat.mod_eq_of_lt (by omega)]
theorem sw4_le {n : Nat} (h : n ≤ 1085102592571150095) : sw4 n ≤ 1089341274573381150 := by unfold sw4; omega
theorem un_lc5 (x : Int) (h : un x ≤ 1089341274573381150) : un (lc5 x) = un x + un x / 65536 := by
  unfold lc5
  rw [un_addm, us16, Nat.mod_eq_of_lt (by omega)]
theorem un_lc6 (x : Int) (h : un x ≤ 1089357896602106940) : un (lc6 x) = un x + un x / 4294967296 := by
  unfold lc6
  rw [un_addm, us32, Nat.mod_eq_of_lt (by omega)]
theorem lbc_ok (x : Int) : lbcF x = ((ctb (fun i => lb x i) 64 : Nat) : Int) := by
  have h2 : un (lc2 (lc1 x)) = lw2 (lw1 (un x)) := by rw [un_lc2, un_lc1]
  have h3 : un (lc3 (lc2 (lc1 x))) = lw3 (lw2 (lw1 (un x))) := by rw [un_lc3 _ (by rw [h2]; exact lw2_le _), h2]
  have h4 : un (lc4 (lc3 (lc2 (lc1 x)))) = sw4 (lw3 (lw2 (lw1 (un x)))) := by rw [un_lc4 _ (by rw [h3]; exact lw3_le _), h3]
  have b4 := sw4_le (lw3_le (lw2 (lw1 (un x))))
  have h5 := un_lc5 (lc4 (lc3 (lc2 (lc1 x)))) (by rw [h4]; exact b4)
  rw [h4] at h5
  have h6 := un_lc6 (lc5 (lc4 (lc3 (lc2 (lc1 x))))) (by rw [h5]; omega)
  rw [h5] at h6
  have e : un (lc6 (lc5 (lc4 (lc3 (lc2 (lc1 x)))))) % 128 = pcn (un x) 64 := by
    rw [h6]
    exact lwN_ok (un_lt x)
  have c : pcn (un x) 64 = ctb (fun i => lb x i) 64 := pcnL_c _ 64
  rw [← c, ← e]
  unfold lbcF
  generalize lc6 (lc5 (lc4 (lc3 (lc2 (lc1 x))))) = z
  have q := qand_m7 (wrp z)
  rw [q, un_e]
  unfold wrp
  omega
theorem K_lnt {d : Nat} (hd : 1 ≤ d) (x : Int) (w : qW) : qG none d 303 0 [(1, x), (9, 0), (9, 0)] [] w 142 (fun (r : qV) (w1 : qW) (n1 : Nat) => r = (0, lntF x) ∧ w1 = w ∧ n1 = 142) := by
  generalize hQ9 : (fun (r : qV) (w1 : qW) (n1 : Nat) => r = (0, lntF x) ∧ w1 = w ∧ n1 = 142) = Q9
  obtain ⟨d, rfl⟩ : ∃ d9, d = d9 + 1 := ⟨d - 1, by omega⟩
  refine qG.blk 4 (pc' := 4) (ls' := [(1, x), (9, 0), (0, wrp x)]) (st' := [(0, wrp x)]) (w' := w) (n' := 142) rfl ?_
  refine qG.br (P := wrp x = 0) (pc1 := 7) (pc2 := 21) (st1 := []) rfl (fun hz => ?_) (fun hz => ?_)
  · skip
    refine qG.blk 5 (pc' := 14) (ls' := [(1, x), (9, 0), (0, wrp x)]) (st' := [(0, wrp (qlush x 32)), (0, 32)]) (w' := w) (n' := 142) rfl ?_
    refine qG.call (t := 301) (na := 1) (sk := 0) (md := 0) (ls1 := [(0, wrp (qlush x 32)), (9, 0)]) (r1 := [(0, 32)]) rfl rfl rfl rfl rfl (K_nTZ (Nat.zero_le _) (wrp (qlush x 32)) _) ?_
    rintro _ w7 _ ⟨rfl, hw7, rfl⟩
    rw [hw7]
    show qG none (d + 1) 303 17 [(1, x), (9, 0), (0, wrp x)] [(0, ntzF (wrp (qlush x 32))), (0, 32)] w 142 Q9
    refine qG.blk 1 (pc' := 18) (ls' := [(1, x), (9, 0), (0, wrp x)]) (st' := [(0, wrp (32 + (ntzF (wrp (qlush x 32)))))]) (w' := w) (n' := 142) rfl ?_
    refine qG.blk 1 (pc' := 25) (ls' := [(1, x), (9, 0), (0, wrp x)]) (st' := [(0, wrp (32 + (ntzF (wrp (qlush x 32)))))]) (w' := w) (n' := 142) rfl ?_
    refine qG.ret rfl rfl ?_
    subst hQ9
    exact ⟨congrArg (Prod.mk 0) (by unfold lntF; first | (rw [if_pos hz]; done) | (rw [if_neg hz]; done)), rfl, rfl⟩
  · skip
    refine qG.blk 1 (pc' := 22) (ls' := [(1, x), (9, 0), (0, wrp x)]) (st' := [(0, wrp x)]) (w' := w) (n' := 142) rfl ?_
    refine qG.call (t := 301) (na := 1) (sk := 0) (md := 0) (ls1 := [(0, wrp x), (9, 0)]) (r1 := []) rfl rfl rfl rfl rfl (K_nTZ (Nat.zero_le _) (wrp x) _) ?_
    rintro _ w7 _ ⟨rfl, hw7, rfl⟩
    rw [hw7]
    show qG none (d + 1) 303 25 [(1, x), (9, 0), (0, wrp x)] [(0, ntzF (wrp x))] w 142 Q9
    refine qG.ret rfl rfl ?_
    subst hQ9
    exact ⟨congrArg (Prod.mk 0) (by unfold lntF; first | (rw [if_pos hz]; done) | (rw [if_neg hz]; done)), rfl, rfl⟩
