/-! the library's count of bits is the sum of the bits -/
theorem nb_and {a y m M : Nat} (ha : a < 256) (hm : m < 256) : (256 * y + a) &&& (256 * M + m) = 256 * (y &&& M) + (a &&& m) := by
  have hc : a &&& m < 256 := Nat.lt_of_le_of_lt Nat.and_le_left ha
  have e : ∀ q r : Nat, r < 256 → ∀ j, (256 * q + r).testBit j = if j < 8 then r.testBit j else q.testBit (j - 8) := fun q r hr j => Nat.testBit_two_pow_mul_add q (i := 8) hr j
  apply Nat.eq_of_testBit_eq
  intro j
  rw [Nat.testBit_and, e y a ha, e M m hm, e (y &&& M) (a &&& m) hc]
  by_cases hj : j < 8
  · rw [if_pos hj, if_pos hj, if_pos hj, Nat.testBit_and]
  · rw [if_neg hj, if_neg hj, if_neg hj, Nat.testBit_and]
noncomputable def bc1 (b : Nat) : Nat := b - (b / 2 &&& 85)
noncomputable def bc2 (c : Nat) : Nat := (c &&& 51) + (c / 4 &&& 51)
noncomputable def bc3 (d : Nat) : Nat := (d + d / 16) &&& 15
noncomputable def pcn (n : Nat) : Nat → Nat
  | 0 => 0
  | m + 1 => pcn n m + n / 2 ^ m % 2
theorem bct_1 : ∀ b : Nat, b < 256 → ((b / 2 &&& 85) ≤ b ∧ ((b / 2 + 128) &&& 85) = (b / 2 &&& 85)) ∧ bc1 b < 256 := by decide +kernel
theorem bct_2 : ∀ c : Nat, c < 256 → ∀ r : Nat, r < 4 → ((c / 4 + 64 * r) &&& 51) = (c / 4 &&& 51) := by decide +kernel
theorem bct_3 : ∀ b : Nat, b < 256 → bc2 (bc1 b) % 16 ≤ 4 ∧ bc2 (bc1 b) / 16 ≤ 4 := by decide +kernel
theorem bct_4 : ∀ d : Nat, d < 80 → ∀ r : Nat, r < 5 → ((d + d / 16 + 16 * r) &&& 15) = bc3 d := by decide +kernel
theorem bct_5 : ∀ b : Nat, b < 256 → bc3 (bc2 (bc1 b)) = pcn b 8 ∧ pcn b 8 ≤ 8 := by decide +kernel
theorem bct_6 : ∀ b : Nat, b < 64 → pcn b 8 = pcn b 6 := by decide +kernel
theorem bcs_1 {a y M : Nat} (ha : a < 256) : (256 * y + a) / 2 &&& (256 * M + 85) = 256 * (y / 2 &&& M) + (a / 2 &&& 85) := by
  rw [show (256 * y + a) / 2 = 256 * (y / 2) + (a / 2 + 128 * (y % 2)) by omega, nb_and (by omega) (by decide)]
  have h := bct_1 a ha
  have h2 : y % 2 = 0 ∨ y % 2 = 1 := by omega
  rcases h2 with h2 | h2
  · rw [h2, show a / 2 + 128 * 0 = a / 2 from rfl]
  · rw [h2, show a / 2 + 128 * 1 = a / 2 + 128 from rfl, h.1.2]
theorem bcs_2 {a y M : Nat} (ha : a < 256) : (256 * y + a) / 4 &&& (256 * M + 51) = 256 * (y / 4 &&& M) + (a / 4 &&& 51) := by
  rw [show (256 * y + a) / 4 = 256 * (y / 4) + (a / 4 + 64 * (y % 4)) by omega, nb_and (by omega) (by decide), bct_2 a ha (y % 4) (by omega)]
theorem bcs_3 {d y M : Nat} (h1 : d % 16 ≤ 4) (h2 : d / 16 ≤ 4) (h3 : y % 16 ≤ 4) : ((256 * y + d) + (256 * y + d) / 16) &&& (256 * M + 15) = 256 * ((y + y / 16) &&& M) + bc3 d := by
  rw [show (256 * y + d) + (256 * y + d) / 16 = 256 * (y + y / 16) + (d + d / 16 + 16 * (y % 16)) by omega, nb_and (by omega) (by decide), bct_4 d (by omega) (y % 16) (by omega)]
theorem qush_n {n s : Nat} (hn : n < 2147483648) (hs : s < 32) : qush (n : Int) (s : Int) = ((n / 2 ^ s : Nat) : Int) := by
  unfold qush
  rw [yofn (x := (n : Int)) (by omega) (by omega), yofn (x := (s : Int)) (by omega) (by omega), Int.toNat_natCast, Int.toNat_natCast, yb_ush (by omega) hs]
  have : n / 2 ^ s ≤ n := Nat.div_le_self _ _
  rw [nI_toInt (by omega)]
noncomputable def sw1 (n : Nat) : Nat := n - (n / 2 &&& 1431655765)
noncomputable def sw2 (y : Nat) : Nat := (y &&& 858993459) + (y / 4 &&& 858993459)
noncomputable def sw3 (y : Nat) : Nat := (y + y / 16) &&& 252645135
noncomputable def sw4 (y : Nat) : Nat := y + y / 256
noncomputable def sw5 (y : Nat) : Nat := y + y / 65536
noncomputable def swN (n : Nat) : Nat := sw5 (sw4 (sw3 (sw2 (sw1 n)))) % 64
theorem sw1_b {a0 a1 a2 a3 : Nat} (h0 : a0 < 256) (h1 : a1 < 256) (h2 : a2 < 256) (h3 : a3 < 256) : sw1 (256 * (256 * (256 * a3 + a2) + a1) + a0) = 256 * (256 * (256 * bc1 a3 + bc1 a2) + bc1 a1) + bc1 a0 := by
  have s1 : (256 * (256 * (256 * a3 + a2) + a1) + a0) / 2 &&& 1431655765 = 256 * (256 * (256 * (a3 / 2 &&& 85) + (a2 / 2 &&& 85)) + (a1 / 2 &&& 85)) + (a0 / 2 &&& 85) := by
    rw [show (1431655765 : Nat) = 256 * (256 * (256 * 85 + 85) + 85) + 85 from rfl, bcs_1 h0, bcs_1 h1, bcs_1 h2]
  have u0 := (bct_1 a0 h0).1.1
  have u1 := (bct_1 a1 h1).1.1
  have u2 := (bct_1 a2 h2).1.1
  have u3 := (bct_1 a3 h3).1.1
  unfold sw1 bc1
  rw [s1]
  clear s1
  revert u0 u1 u2 u3
  generalize a0 / 2 &&& 85 = z0
  generalize a1 / 2 &&& 85 = z1
  generalize a2 / 2 &&& 85 = z2
  generalize a3 / 2 &&& 85 = z3
  intro u0 u1 u2 u3
  omega
theorem sw2_b {c0 c1 c2 c3 : Nat} (b0 : c0 < 256) (b1 : c1 < 256) (b2 : c2 < 256) : sw2 (256 * (256 * (256 * c3 + c2) + c1) + c0) = 256 * (256 * (256 * bc2 c3 + bc2 c2) + bc2 c1) + bc2 c0 := by
  unfold sw2 bc2
  rw [show (858993459 : Nat) = 256 * (256 * (256 * 51 + 51) + 51) + 51 from rfl, bcs_2 b0, bcs_2 b1, bcs_2 b2, nb_and b0 (by decide), nb_and b1 (by decide), nb_and b2 (by decide)]
  generalize c0 &&& 51 = z0
  generalize c1 &&& 51 = z1
  generalize c2 &&& 51 = z2
  generalize c3 &&& 51 = z3
  generalize c0 / 4 &&& 51 = x0
  generalize c1 / 4 &&& 51 = x1
  generalize c2 / 4 &&& 51 = x2
  generalize c3 / 4 &&& 51 = x3
  omega
theorem sw3_b {d0 d1 d2 d3 : Nat} (v0 : d0 % 16 ≤ 4 ∧ d0 / 16 ≤ 4) (v1 : d1 % 16 ≤ 4 ∧ d1 / 16 ≤ 4) (v2 : d2 % 16 ≤ 4 ∧ d2 / 16 ≤ 4) (v3 : d3 % 16 ≤ 4 ∧ d3 / 16 ≤ 4) : sw3 (256 * (256 * (256 * d3 + d2) + d1) + d0) = 256 * (256 * (256 * bc3 d3 + bc3 d2) + bc3 d1) + bc3 d0 := by
  unfold sw3
  rw [show (252645135 : Nat) = 256 * (256 * (256 * 15 + 15) + 15) + 15 from rfl, bcs_3 v0.1 v0.2 (by omega), bcs_3 v1.1 v1.2 (by omega), bcs_3 v2.1 v2.2 (by omega)]
  rfl
theorem sw45_b {p0 p1 p2 p3 : Nat} (x0 : p0 ≤ 8) (x1 : p1 ≤ 8) (x2 : p2 ≤ 8) (x3 : p3 ≤ 8) : sw5 (sw4 (256 * (256 * (256 * p3 + p2) + p1) + p0)) % 64 = p0 + p1 + p2 + p3 := by
  have f1 : sw4 (256 * (256 * (256 * p3 + p2) + p1) + p0) = 65536 * (256 * p3 + p3 + p2) + (256 * (p2 + p1) + (p1 + p0)) := by unfold sw4; omega
  rw [f1]
  have f2 : sw5 (65536 * (256 * p3 + p3 + p2) + (256 * (p2 + p1) + (p1 + p0))) = 65536 * (256 * p3 + p3 + p2) + (256 * (p2 + p1) + (p1 + p0)) + (256 * p3 + p3 + p2) := by unfold sw5; omega
  rw [f2]
  omega
theorem swN_b {a0 a1 a2 a3 : Nat} (h0 : a0 < 256) (h1 : a1 < 256) (h2 : a2 < 256) (h3 : a3 < 256) : swN (256 * (256 * (256 * a3 + a2) + a1) + a0) = pcn a0 8 + pcn a1 8 + pcn a2 8 + pcn a3 8 := by
  have w0 := bct_5 a0 h0
  have w1 := bct_5 a1 h1
  have w2 := bct_5 a2 h2
  have w3 := bct_5 a3 h3
  unfold swN
  rw [sw1_b h0 h1 h2 h3, sw2_b (bct_1 a0 h0).2 (bct_1 a1 h1).2 (bct_1 a2 h2).2, sw3_b (bct_3 a0 h0) (bct_3 a1 h1) (bct_3 a2 h2) (bct_3 a3 h3), w0.1, w1.1, w2.1, w3.1]
  exact sw45_b w0.2 w1.2 w2.2 w3.2
theorem pcn_s {a y : Nat} (ha : a < 256) : ∀ m, pcn (256 * y + a) (m + 8) = pcn a 8 + pcn y m
  | 0 => by
    show ((((((((0 + (256 * y + a) / 1 % 2) + (256 * y + a) / 2 % 2) + (256 * y + a) / 4 % 2) + (256 * y + a) / 8 % 2) + (256 * y + a) / 16 % 2) + (256 * y + a) / 32 % 2) + (256 * y + a) / 64 % 2) + (256 * y + a) / 128 % 2) = ((((((((0 + a / 1 % 2) + a / 2 % 2) + a / 4 % 2) + a / 8 % 2) + a / 16 % 2) + a / 32 % 2) + a / 64 % 2) + a / 128 % 2) + 0
    omega
  | m + 1 => by
    show pcn (256 * y + a) (m + 8) + (256 * y + a) / 2 ^ (m + 8) % 2 = pcn a 8 + (pcn y m + y / 2 ^ m % 2)
    rw [pcn_s ha m, show (2 : Nat) ^ (m + 8) = 256 * 2 ^ m from by rw [Nat.pow_add, Nat.mul_comm], ← Nat.div_div_eq_div_mul, show (256 * y + a) / 256 = y by omega, Nat.add_assoc]
theorem swN_ok {n : Nat} (hn : n < 1073741824) : swN n = pcn n 30 := by
  have e : n = 256 * (256 * (256 * (n / 16777216) + n / 65536 % 256) + n / 256 % 256) + n % 256 := by omega
  have h0 : n % 256 < 256 := by omega
  have h1 : n / 256 % 256 < 256 := by omega
  have h2 : n / 65536 % 256 < 256 := by omega
  have h3 : n / 16777216 < 64 := by omega
  revert e h0 h1 h2 h3
  generalize n % 256 = a0
  generalize n / 256 % 256 = a1
  generalize n / 65536 % 256 = a2
  generalize n / 16777216 = a3
  intro e h0 h1 h2 h3
  have q1 : pcn (256 * (256 * (256 * a3 + a2) + a1) + a0) 30 = pcn a0 8 + pcn (256 * (256 * a3 + a2) + a1) 22 := pcn_s h0 22
  have q2 : pcn (256 * (256 * a3 + a2) + a1) 22 = pcn a1 8 + pcn (256 * a3 + a2) 14 := pcn_s h1 14
  have q3 : pcn (256 * a3 + a2) 14 = pcn a2 8 + pcn a3 6 := pcn_s h2 6
  have q4 := bct_6 a3 h3
  rw [e, swN_b h0 h1 h2 (by omega), q1, q2, q3, q4, Nat.add_assoc, Nat.add_assoc]
theorem hb_n {n j : Nat} (hn : n < 2147483648) (hj : j < 32) : qand (qshr (n : Int) (j : Int)) 1 = ((n / 2 ^ j % 2 : Nat) : Int) := by
  have h2 : n / 2 ^ j ≤ n := Nat.div_le_self _ _
  have h1 : qshr (n : Int) (j : Int) = ((n / 2 ^ j : Nat) : Int) := by
    unfold qshr
    rw [yofn (x := (n : Int)) (by omega) (by omega), yofn (x := (j : Int)) (by omega) (by omega), Int.toNat_natCast, Int.toNat_natCast, yb_shr (by omega) (by omega)]
    rw [nI_toInt (by omega)]
  rw [h1]
  have h3 : qand ((n / 2 ^ j : Nat) : Int) 1 = ((n / 2 ^ j &&& 1 : Nat) : Int) := qand_n (a := n / 2 ^ j) (b := 1) (by omega) (by omega)
  rw [h3, Nat.and_one_is_mod]
theorem bitsF_n {n : Nat} (hn : n < 2147483648) : ∀ m, m ≤ 31 → bitsF (n : Int) m = ((pcn n m : Nat) : Int)
  | 0, _ => rfl
  | m + 1, hm => by
    show bitsF (n : Int) m + qand (qshr (n : Int) (m : Int)) 1 = ((pcn n m + n / 2 ^ m % 2 : Nat) : Int)
    rw [bitsF_n hn m (by omega), hb_n hn (by omega)]
    omega
noncomputable def BC1 (x : Int) : Int := wrp (x - qand (qush x 1) 1431655765)
noncomputable def BC2 (y : Int) : Int := wrp (qand y 858993459 + qand (qush y 2) 858993459)
noncomputable def BC3 (y : Int) : Int := qand (wrp (y + qush y 4)) 252645135
noncomputable def BC4 (y : Int) : Int := wrp (y + qush y 8)
noncomputable def BC5 (y : Int) : Int := wrp (y + qush y 16)
noncomputable def BCF (x : Int) : Int := qand (BC5 (BC4 (BC3 (BC2 (BC1 x))))) 63
theorem BC1_n {n : Nat} (hn : n < 1073741824) : BC1 (n : Int) = ((sw1 n : Nat) : Int) ∧ sw1 n < 1073741824 := by
  unfold BC1 sw1
  have a1 : qush (n : Int) 1 = ((n / 2 : Nat) : Int) := qush_n (s := 1) (by omega) (by decide)
  have a2 : qand ((n / 2 : Nat) : Int) 1431655765 = ((n / 2 &&& 1431655765 : Nat) : Int) := qand_n (b := 1431655765) (by omega) (by decide)
  have a3 : n / 2 &&& 1431655765 ≤ n / 2 := Nat.and_le_left
  rw [a1, a2]
  generalize n / 2 &&& 1431655765 = z at *
  exact ⟨by rw [wrp_id (by omega) (by omega)]; omega, by omega⟩
theorem BC2_n {n : Nat} (hn : n < 1073741824) : BC2 (n : Int) = ((sw2 n : Nat) : Int) ∧ sw2 n < 1200000000 := by
  unfold BC2 sw2
  have b1 : qush (n : Int) 2 = ((n / 4 : Nat) : Int) := qush_n (s := 2) (by omega) (by decide)
  have b2 : qand ((n : Nat) : Int) 858993459 = ((n &&& 858993459 : Nat) : Int) := qand_n (b := 858993459) (by omega) (by decide)
  have b3 : qand ((n / 4 : Nat) : Int) 858993459 = ((n / 4 &&& 858993459 : Nat) : Int) := qand_n (b := 858993459) (by omega) (by decide)
  have b4 : n &&& 858993459 ≤ 858993459 := Nat.and_le_right
  have b5 : n / 4 &&& 858993459 ≤ n / 4 := Nat.and_le_left
  rw [b1, b2, b3]
  generalize n &&& 858993459 = z at *
  generalize n / 4 &&& 858993459 = y at *
  exact ⟨by rw [wrp_id (by omega) (by omega)]; omega, by omega⟩
theorem BC3_n {n : Nat} (hn : n < 1200000000) : BC3 (n : Int) = ((sw3 n : Nat) : Int) ∧ sw3 n ≤ 252645135 := by
  unfold BC3 sw3
  have c1 : qush (n : Int) 4 = ((n / 16 : Nat) : Int) := qush_n (s := 4) (by omega) (by decide)
  have c2 : wrp ((n : Int) + ((n / 16 : Nat) : Int)) = ((n + n / 16 : Nat) : Int) := by rw [wrp_id (by omega) (by omega)]; omega
  have c3 : qand ((n + n / 16 : Nat) : Int) 252645135 = (((n + n / 16) &&& 252645135 : Nat) : Int) := qand_n (b := 252645135) (by omega) (by decide)
  rw [c1, c2, c3]
  exact ⟨rfl, Nat.and_le_right⟩
theorem BC4_n {n : Nat} (hn : n ≤ 252645135) : BC4 (n : Int) = ((sw4 n : Nat) : Int) ∧ sw4 n ≤ 260000000 := by
  unfold BC4 sw4
  have d1 : qush (n : Int) 8 = ((n / 256 : Nat) : Int) := qush_n (s := 8) (by omega) (by decide)
  rw [d1]
  exact ⟨by rw [wrp_id (by omega) (by omega)]; omega, by omega⟩
theorem BC5_n {n : Nat} (hn : n ≤ 260000000) : BC5 (n : Int) = ((sw5 n : Nat) : Int) ∧ sw5 n ≤ 270000000 := by
  unfold BC5 sw5
  have d1 : qush (n : Int) 16 = ((n / 65536 : Nat) : Int) := qush_n (s := 16) (by omega) (by decide)
  rw [d1]
  exact ⟨by rw [wrp_id (by omega) (by omega)]; omega, by omega⟩
theorem BCF_n {n : Nat} (hn : n < 1073741824) : BCF (n : Int) = ((swN n : Nat) : Int) := by
  have h1 := BC1_n hn
  have h2 := BC2_n h1.2
  have h3 := BC3_n h2.2
  have h4 := BC4_n h3.2
  have h5 := BC5_n h4.2
  unfold BCF swN
  rw [h1.1, h2.1, h3.1, h4.1, h5.1]
  generalize sw5 (sw4 (sw3 (sw2 (sw1 n)))) = y at *
  have e3 : qand (y : Int) 63 = ((y &&& 63 : Nat) : Int) := qand_n (b := 63) (by omega) (by decide)
  rw [e3, show y &&& 63 = y % 64 from Nat.and_two_pow_sub_one_eq_mod _ 6]
theorem BCF_b {x : Int} (h0 : 0 ≤ x) (h1 : x ≤ 1073741823) : BCF x = bitsF x 30 := by
  obtain ⟨n, rfl⟩ : ∃ n : Nat, x = n := ⟨x.toNat, by omega⟩
  rw [BCF_n (by omega), swN_ok (by omega), bitsF_n (by omega) 30 (by omega)]
theorem K_bcI {d : Nat} (hd : 0 ≤ d) (x : Int) (w : qW) : qG none d 302 0 [(0, x)] [] w 142 (fun (r : qV) (w1 : qW) (n1 : Nat) => r = (0, BCF x) ∧ w1 = w ∧ n1 = 142) := by
  refine qG.blk 8 (pc' := 10) (ls' := [(0, wrp (x - qand (qush x 1) 1431655765))]) (st' := []) (w' := w) (n' := 142) rfl ?_
  generalize h1 : wrp (x - qand (qush x 1) 1431655765) = y1
  refine qG.blk 10 (pc' := 24) (ls' := [(0, wrp (qand y1 858993459 + qand (qush y1 2) 858993459))]) (st' := []) (w' := w) (n' := 142) rfl ?_
  generalize h2 : wrp (qand y1 858993459 + qand (qush y1 2) 858993459) = y2
  refine qG.blk 8 (pc' := 34) (ls' := [(0, qand (wrp (y2 + qush y2 4)) 252645135)]) (st' := []) (w' := w) (n' := 142) rfl ?_
  generalize h3 : qand (wrp (y2 + qush y2 4)) 252645135 = y3
  refine qG.blk 6 (pc' := 41) (ls' := [(0, wrp (y3 + qush y3 8))]) (st' := []) (w' := w) (n' := 142) rfl ?_
  generalize h4 : wrp (y3 + qush y3 8) = y4
  refine qG.blk 6 (pc' := 48) (ls' := [(0, wrp (y4 + qush y4 16))]) (st' := []) (w' := w) (n' := 142) rfl ?_
  generalize h5 : wrp (y4 + qush y4 16) = y5
  refine qG.blk 3 (pc' := 52) (ls' := [(0, y5)]) (st' := [(0, qand y5 63)]) (w' := w) (n' := 142) rfl ?_
  refine qG.ret rfl rfl ⟨?_, rfl, rfl⟩
  subst h1 h2 h3 h4 h5
  rfl
theorem K_bcJ {d : Nat} (hd : 0 ≤ d) (x : Int) (h0 : 0 ≤ x) (hx : x ≤ 1073741823) (w : qW) : qG none d 302 0 [(0, x)] [] w 142 (fun (r : qV) (w1 : qW) (n1 : Nat) => r = (0, bitsF x 30) ∧ w1 = w ∧ n1 = 142) := by
  have := K_bcI hd x w
  rwa [BCF_b h0 hx] at this
