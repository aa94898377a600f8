/-! longs as sets of bits -/
def un (x : Int) : Nat := (Int64.ofInt x).toBitVec.toNat
def lb (x : Int) (s : Nat) : Bool := (un x).testBit s
theorem un_lt (x : Int) : un x < 18446744073709551616 := (Int64.ofInt x).toBitVec.isLt
theorem un_or (x y : Int) : un (qlor x y) = un x ||| un y := by
  unfold un; rw [← e_lor, Int64.toBitVec_or, BitVec.toNat_or]
theorem un_and (x y : Int) : un (qland x y) = un x &&& un y := by
  unfold un; rw [← e_land, Int64.toBitVec_and, BitVec.toNat_and]
theorem un_w (x : Int) : un (wrl x) = un x := by unfold un; rw [w64]
theorem un_e (x : Int) : un x = (x % 18446744073709551616).toNat := by
  unfold un
  rw [Int64.toBitVec_ofInt, BitVec.toNat_ofInt]
  rfl
theorem un_n {n : Nat} (h : n < 18446744073709551616) : un (n : Int) = n := by rw [un_e]; omega
theorem un_inj {x y : Int} (hx : qi64 x) (hy : qi64 y) (h : un x = un y) : x = y := by
  rw [un_e, un_e] at h
  unfold qi64 at hx hy
  omega
theorem lb_or (x y : Int) (s : Nat) : lb (qlor x y) s = (lb x s || lb y s) := by unfold lb; rw [un_or, Nat.testBit_or]
theorem lb_and (x y : Int) (s : Nat) : lb (qland x y) s = (lb x s && lb y s) := by unfold lb; rw [un_and, Nat.testBit_and]
theorem lb_hi {x : Int} {s : Nat} (h : 64 ≤ s) : lb x s = false := Nat.testBit_lt_two_pow (Nat.lt_of_lt_of_le (un_lt x) (show 2 ^ 64 ≤ 2 ^ s from Nat.pow_le_pow_right (by decide) h))
theorem lb_z (s : Nat) : lb 0 s = false := by
  unfold lb; rw [show un 0 = 0 from un_n (n := 0) (by decide), Nat.zero_testBit]
theorem lb_ext {x y : Int} (hx : qi64 x) (hy : qi64 y) (h : ∀ s, s < 64 → lb x s = lb y s) : x = y := un_inj hx hy (Nat.eq_of_testBit_eq (fun s => if q : s < 64 then h s q else (lb_hi (x := x) (by omega)).trans (lb_hi (x := y) (by omega)).symm))
theorem un_sh1 : ∀ s : Nat, s < 64 → un (qlshl 1 (s : Int)) = 2 ^ s := by decide +kernel
theorem lb_sh1 {s j : Nat} (hs : s < 64) : lb (qlshl 1 (s : Int)) j = decide (s = j) := by unfold lb; rw [un_sh1 s hs, Nat.testBit_two_pow]
theorem qland_64 (x y : Int) : qi64 (qland x y) := i64_in _
theorem qlor_64 (x y : Int) : qi64 (qlor x y) := i64_in _
theorem lus_k : ∀ k : Nat, k < 64 → ((Int32.ofInt (k : Int)).toInt64.toUInt64 &&& Int64.toUInt64 63).toNat % 64 = k := by decide +kernel
theorem un_ush (x : Int) {k : Nat} (hk : k < 64) : un (qlush x (k : Int)) = un x / 2 ^ k := by
  unfold un
  rw [← e_lush, UInt64.toBitVec_toInt64, UInt64.toBitVec_shiftRight, BitVec.ushiftRight_eq', BitVec.toNat_ushiftRight, Int64.toBitVec_toUInt64, Nat.shiftRight_eq_div_pow]
  have q := lus_k k hk
  have e : ((((Int32.ofInt (k : Int)).toInt64.toUInt64 &&& Int64.toUInt64 63).toBitVec % 64) : BitVec 64).toNat = k := by
    rw [BitVec.toNat_umod]
    exact q
  rw [e]
-- the lowest bit of an int
theorem un32_hb {x : Int} {s : Nat} (hs : s < 32) : hbit x s = ((x % 4294967296).toNat).testBit s := by
  rw [hbit_b hs, BitVec.getLsbD, Int32.toBitVec_ofInt, BitVec.toNat_ofInt]
  rfl
theorem hb_ext32 {x y : Int} (hx : qi32 x) (hy : qi32 y) (h : ∀ s, s < 32 → hbit x s = hbit y s) : x = y := by
  have e : (x % 4294967296).toNat = (y % 4294967296).toNat := Nat.eq_of_testBit_eq (fun s => by
    by_cases q : s < 32
    · rw [← un32_hb q, ← un32_hb q]; exact h s q
    · have b : ∀ z : Int, ((z % 4294967296).toNat).testBit s = false := fun z => Nat.testBit_lt_two_pow (Nat.lt_of_lt_of_le (show (z % 4294967296).toNat < 2 ^ 32 by omega) (Nat.pow_le_pow_right (by decide) (by omega)))
      rw [b, b])
  unfold qi32 at hx hy
  omega
theorem ntz_t : ∀ s : Nat, s < 32 → (if 0 < ((2 ^ s - 1 : Nat) : Int) then ntz5 (ntz4 (ntz3 (ntz2 (ntz1 ((2 ^ s - 1 : Nat) : Int))))) else qand ((2 ^ s - 1 : Nat) : Int) 32) = (s : Int) := by decide +kernel
theorem low_m {n s : Nat} (h : n.testBit s = true) (hl : ∀ t, t < s → n.testBit t = false) : ∃ m, n = 2 ^ s * (2 * m + 1) := by
  have h1 : n % 2 ^ s = 0 := Nat.eq_of_testBit_eq (fun i => by
    rw [Nat.testBit_mod_two_pow, Nat.zero_testBit]
    by_cases q : i < s
    · rw [hl i q, Bool.and_false]
    · rw [decide_eq_false q, Bool.false_and])
  have h2 : n / 2 ^ s % 2 = 1 := by
    rw [Nat.testBit_eq_decide_div_mod_eq] at h
    exact of_decide_eq_true h
  have h3 := Nat.div_add_mod n (2 ^ s)
  have h4 := Nat.div_add_mod (n / 2 ^ s) 2
  refine ⟨n / 2 ^ s / 2, ?_⟩
  rw [h2] at h4
  rw [h1] at h3
  rw [h4]
  omega
theorem pred_tb {m s : Nat} (t : Nat) : (2 ^ s * (2 * m + 1) - 1).testBit t = if t < s then true else if t = s then false else (2 ^ s * (2 * m + 1)).testBit t := by
  have hp : 0 < 2 ^ s := Nat.two_pow_pos s
  have e : 2 ^ s * (2 * m + 1) - 1 = 2 ^ s * (2 * m) + (2 ^ s - 1) := by
    rw [Nat.mul_add, Nat.mul_one]; omega
  rw [e, Nat.testBit_two_pow_mul_add _ (show 2 ^ s - 1 < 2 ^ s by omega)]
  have f : (2 ^ s * (2 * m + 1)).testBit t = if t < s then false else (2 * m + 1).testBit (t - s) := by
    have := Nat.testBit_two_pow_mul_add (2 * m + 1) (b := 0) hp t
    rw [Nat.add_zero, Nat.zero_testBit] at this
    exact this
  by_cases h : t < s
  · rw [if_pos h, if_pos h, Nat.testBit_two_pow_sub_one, decide_eq_true h]
  · rw [if_neg h, if_neg h, f, if_neg h]
    by_cases q : t = s
    · rw [if_pos q, q, Nat.sub_self, Nat.testBit_zero, show 2 * m % 2 = 0 by omega]; rfl
    · rw [if_neg q]
      obtain ⟨u, hu⟩ : ∃ u, t - s = u + 1 := ⟨t - s - 1, by omega⟩
      rw [hu, Nat.testBit_succ, Nat.testBit_succ, show 2 * m / 2 = m by omega, show (2 * m + 1) / 2 = m by omega]
theorem ntz_low {x : Int} {s : Nat} (hs : s < 32) (h : hbit x s = true) (hl : ∀ t, t < s → hbit x t = false) : ntzF x = (s : Int) := by
  have y9 : qand (qxor x (-1)) (wrp (x - 1)) = ((2 ^ s - 1 : Nat) : Int) := by
    have hp : 2 ^ s ≤ 2 ^ 31 := Nat.pow_le_pow_right (by decide) (by omega)
    have h31 : 2 ^ 31 = 2147483648 := rfl
    refine hb_ext32 (i32_in _) ⟨by omega, by omega⟩ (fun t ht => ?_)
    obtain ⟨m, hm⟩ := low_m (n := (x % 4294967296).toNat) (s := s) (by rw [← un32_hb hs]; exact h) (fun t q => by rw [← un32_hb (by omega)]; exact hl t q)
    have hp0 : 0 < 2 ^ s := Nat.two_pow_pos s
    have e1 : ((wrp (x - 1)) % 4294967296).toNat = (x % 4294967296).toNat - 1 := by
      have hne : 0 < (x % 4294967296).toNat := by rw [hm]; exact Nat.mul_pos hp0 (by omega)
      unfold wrp; omega
    have hx1 : hbit (wrp (x - 1)) t = if t < s then true else if t = s then false else hbit x t := by
      rw [un32_hb ht, e1, hm, pred_tb, ← hm, un32_hb ht]
    have hxr : hbit (qxor x (-1)) t = !hbit x t := by
      rw [hbit_b ht, ← e_xor, Int32.toBitVec_xor, BitVec.getLsbD_xor, ← hbit_b ht, ← hbit_b ht, show hbit (-1) t = true from (show ∀ t : Nat, t < 32 → hbit (-1) t = true by decide +kernel) t ht, Bool.xor_true]
    rw [hbit_and ht, hxr, hx1, un32_hb (x := ((2 ^ s - 1 : Nat) : Int)) ht, show (((2 ^ s - 1 : Nat) : Int) % 4294967296).toNat = 2 ^ s - 1 by omega, Nat.testBit_two_pow_sub_one]
    rcases Nat.lt_trichotomy t s with q | q | q
    · rw [if_pos q, hl t q, decide_eq_true q]; rfl
    · rw [if_neg (by omega), if_pos q, decide_eq_false (by omega), Bool.and_false]
    · rw [if_neg (by omega), if_neg (by omega), decide_eq_false (by omega)]
      cases hbit x t <;> rfl
  unfold ntzF
  rw [y9]
  exact ntz_t s hs
-- the lowest bit of a long
theorem lo_i {x : Int} {s : Nat} (hs : s < 32) : hbit (wrp x) s = lb x s := by
  unfold lb
  rw [un32_hb hs, un_e]
  have e : ((wrp x) % 4294967296).toNat = (x % 18446744073709551616).toNat % 2 ^ 32 := by
    unfold wrp
    rw [show (2 : Nat) ^ 32 = 4294967296 from rfl]
    omega
  rw [e, Nat.testBit_mod_two_pow, decide_eq_true hs, Bool.true_and]
theorem hi_i {x : Int} {s : Nat} (hs : s < 32) : hbit (wrp (qlush x 32)) s = lb x (s + 32) := by
  rw [lo_i hs]
  unfold lb
  rw [show (32 : Int) = ((32 : Nat) : Int) from rfl, un_ush x (by decide), Nat.testBit_div_two_pow]
def lntF (x : Int) : Int := if wrp x = 0 then wrp (32 + ntzF (wrp (qlush x 32))) else ntzF (wrp x)
theorem lnt_low {x : Int} {s : Nat} (hs : s < 64) (h : lb x s = true) (hl : ∀ t, t < s → lb x t = false) : lntF x = (s : Int) := by
  unfold lntF
  by_cases q : s < 32
  · have hne : ¬ wrp x = 0 := fun z => by
      rw [← lo_i q, z] at h
      exact absurd h (by rw [hbit_z s q]; decide)
    rw [if_neg hne]
    exact ntz_low q ((lo_i q).trans h) (fun t ht => (lo_i (by omega)).trans (hl t ht))
  · have hz : wrp x = 0 := hb_ext32 (wrp_in _) ⟨by decide, by decide⟩ (fun t ht => by rw [lo_i ht, hl t (by omega), hbit_z t ht])
    obtain ⟨u, rfl⟩ : ∃ u, s = u + 32 := ⟨s - 32, by omega⟩
    rw [if_pos hz, ntz_low (s := u) (by omega) ((hi_i (by omega)).trans h) (fun t ht => (hi_i (by omega)).trans (hl (t + 32) (by omega))), wrp_id (by omega) (by omega)]
    omega
theorem lowx_ex {n : Nat} : ∀ m, (∃ s, s < m ∧ n.testBit s = true) → ∃ s, s < m ∧ n.testBit s = true ∧ ∀ t, t < s → n.testBit t = false
  | 0, ⟨s, hs, _⟩ => absurd hs (Nat.not_lt_zero s)
  | m + 1, ⟨s, hs, h⟩ => by
    by_cases q : ∃ s, s < m ∧ n.testBit s = true
    · obtain ⟨s2, a, b, c⟩ := lowx_ex m q
      exact ⟨s2, by omega, b, c⟩
    · refine ⟨s, hs, h, fun t ht => ?_⟩
      cases hb : n.testBit t with
      | false => rfl
      | true => exact absurd ⟨t, by omega, hb⟩ q
theorem lb_ne {x : Int} (hx : qi64 x) (h : ¬ x = 0) : ∃ s, s < 64 ∧ lb x s = true ∧ ∀ t, t < s → lb x t = false := by
  refine lowx_ex 64 ?_
  by_cases q : ∃ s, s < 64 ∧ (un x).testBit s = true
  · exact q
  · exact absurd (lb_ext hx ⟨by decide, by decide⟩ (fun s hs => by
      rw [lb_z]
      cases hb : lb x s with
      | false => rfl
      | true => exact absurd ⟨s, hs, hb⟩ q)) h
theorem lb_clr {x : Int} {s : Nat} (hs : s < 64) (h : lb x s = true) (hl : ∀ t, t < s → lb x t = false) (t : Nat) : lb (qland x (wrl (x - 1))) t = (lb x t && decide (t ≠ s)) := by
  obtain ⟨m, hm⟩ := low_m (n := un x) (s := s) h hl
  have hp0 : 0 < 2 ^ s := Nat.two_pow_pos s
  have e1 : un (wrl (x - 1)) = un x - 1 := by
    have hne : 0 < un x := by rw [hm]; exact Nat.mul_pos hp0 (by omega)
    rw [un_w]
    rw [un_e] at hne ⊢
    rw [un_e]
    omega
  rw [lb_and]
  have h2 : lb (wrl (x - 1)) t = if t < s then true else if t = s then false else lb x t := by
    unfold lb
    rw [e1, hm, pred_tb, ← hm]
  rw [h2]
  rcases Nat.lt_trichotomy t s with q | q | q
  · rw [hl t q]; rfl
  · rw [if_neg (by omega), if_pos q, Bool.and_false, decide_eq_false (fun z => z q), Bool.and_false]
  · rw [if_neg (by omega), if_neg (by omega), decide_eq_true (show t ≠ s by omega)]
    cases lb x t <;> rfl
-- the count of a long's bits
theorem pcnL_c (n : Nat) : ∀ m, pcn n m = ctb (fun i => n.testBit i) m
  | 0 => rfl
  | m + 1 => by
    show pcn n m + n / 2 ^ m % 2 = ctb (fun i => n.testBit i) m + (bif n.testBit m then 1 else 0)
    rw [pcnL_c n m, Nat.testBit_eq_decide_div_mod_eq]
    have h : n / 2 ^ m % 2 = 0 ∨ n / 2 ^ m % 2 = 1 := by omega
    rcases h with h | h <;> rw [h] <;> rfl
theorem m5 : un 6148914691236517205 = 6148914691236517205 := un_n (n := 6148914691236517205) (by decide)
theorem m3 : un 3689348814741910323 = 3689348814741910323 := un_n (n := 3689348814741910323) (by decide)
theorem K_lnt {d : Nat} (hd : 1 ≤ d) (x : Int) (w : qW) : qG none d 303 0 [(1, x), (9, 0), (9, 0)] [] w 142 (fun (r : qV) (w1 : qW) (n1 : Nat) => r = (0, lntF x) ∧ w1 = w ∧ n1 = 142) := by
  generalize hQ9 : (fun (r : qV) (w1 : qW) (n1 : Nat) => r = (0, lntF x) ∧ w1 = w ∧ n1 = 142) = Q9
  obtain ⟨d, rfl⟩ : ∃ d9, d = d9 + 1 := ⟨d - 1, by omega⟩
  refine qG.blk 4 (pc' := 4) (ls' := [(1, x), (9, 0), (0, wrp x)]) (st' := [(0, wrp x)]) (w' := w) (n' := 142) rfl ?_
  refine qG.br (P := wrp x = 0) (pc1 := 7) (pc2 := 21) (st1 := []) rfl (fun hz => ?_) (fun hz => ?_)
  · skip
    refine qG.blk 5 (pc' := 14) (ls' := [(1, x), (9, 0), (0, wrp x)]) (st' := [(0, wrp (qlush x 32)), (0, 32)]) (w' := w) (n' := 142) rfl ?_
    refine qG.call (t := 301) (na := 1) (sk := 0) (md := 0) (ls1 := [(0, wrp (qlush x 32)), (9, 0)]) (r1 := [(0, 32)]) rfl rfl rfl rfl rfl (K_nTZ (Nat.zero_le _) (wrp (qlush x 32)) _) ?_
    rintro _ w7 _ ⟨rfl, hw7, rfl⟩
    rw [hw7]
    show qG none (d + 1) 303 17 [(1, x), (9, 0), (0, wrp x)] [(0, ntzF (wrp (qlush x 32))), (0, 32)] w 142 Q9
    refine qG.blk 1 (pc' := 18) (ls' := [(1, x), (9, 0), (0, wrp x)]) (st' := [(0, wrp (32 + (ntzF (wrp (qlush x 32)))))]) (w' := w) (n' := 142) rfl ?_
    refine qG.blk 1 (pc' := 25) (ls' := [(1, x), (9, 0), (0, wrp x)]) (st' := [(0, wrp (32 + (ntzF (wrp (qlush x 32)))))]) (w' := w) (n' := 142) rfl ?_
    refine qG.ret rfl rfl ?_
    subst hQ9
    exact ⟨congrArg (Prod.mk 0) (by unfold lntF; first | (rw [if_pos hz]; done) | (rw [if_neg hz]; done)), rfl, rfl⟩
  · skip
    refine qG.blk 1 (pc' := 22) (ls' := [(1, x), (9, 0), (0, wrp x)]) (st' := [(0, wrp x)]) (w' := w) (n' := 142) rfl ?_
    refine qG.call (t := 301) (na := 1) (sk := 0) (md := 0) (ls1 := [(0, wrp x), (9, 0)]) (r1 := []) rfl rfl rfl rfl rfl (K_nTZ (Nat.zero_le _) (wrp x) _) ?_
    rintro _ w7 _ ⟨rfl, hw7, rfl⟩
    rw [hw7]
    show qG none (d + 1) 303 25 [(1, x), (9, 0), (0, wrp x)] [(0, ntzF (wrp x))] w 142 Q9
    refine qG.ret rfl rfl ?_
    subst hQ9
    exact ⟨congrArg (Prod.mk 0) (by unfold lntF; first | (rw [if_pos hz]; done) | (rw [if_neg hz]; done)), rfl, rfl⟩
