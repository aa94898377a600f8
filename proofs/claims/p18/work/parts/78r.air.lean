/-! air, on both sides -/
theorem pcn_c {n : Nat} (hn : n < 65536) : pcn (65535 - n) 16 + pcn n 16 = 16 := by
  have c0 : (65535 - n) / 1 % 2 + n / 1 % 2 = 1 := by omega
  have c1 : (65535 - n) / 2 % 2 + n / 2 % 2 = 1 := by omega
  have c2 : (65535 - n) / 4 % 2 + n / 4 % 2 = 1 := by omega
  have c3 : (65535 - n) / 8 % 2 + n / 8 % 2 = 1 := by omega
  have c4 : (65535 - n) / 16 % 2 + n / 16 % 2 = 1 := by omega
  have c5 : (65535 - n) / 32 % 2 + n / 32 % 2 = 1 := by omega
  have c6 : (65535 - n) / 64 % 2 + n / 64 % 2 = 1 := by omega
  have c7 : (65535 - n) / 128 % 2 + n / 128 % 2 = 1 := by omega
  have c8 : (65535 - n) / 256 % 2 + n / 256 % 2 = 1 := by omega
  have c9 : (65535 - n) / 512 % 2 + n / 512 % 2 = 1 := by omega
  have c10 : (65535 - n) / 1024 % 2 + n / 1024 % 2 = 1 := by omega
  have c11 : (65535 - n) / 2048 % 2 + n / 2048 % 2 = 1 := by omega
  have c12 : (65535 - n) / 4096 % 2 + n / 4096 % 2 = 1 := by omega
  have c13 : (65535 - n) / 8192 % 2 + n / 8192 % 2 = 1 := by omega
  have c14 : (65535 - n) / 16384 % 2 + n / 16384 % 2 = 1 := by omega
  have c15 : (65535 - n) / 32768 % 2 + n / 32768 % 2 = 1 := by omega
  have e : ∀ m : Nat, pcn m 16 = ((((((((((((((((0 + m / 1 % 2) + m / 2 % 2) + m / 4 % 2) + m / 8 % 2) + m / 16 % 2) + m / 32 % 2) + m / 64 % 2) + m / 128 % 2) + m / 256 % 2) + m / 512 % 2) + m / 1024 % 2) + m / 2048 % 2) + m / 4096 % 2) + m / 8192 % 2) + m / 16384 % 2) + m / 32768 % 2) := fun m => rfl
  rw [e, e]
  clear e
  generalize (65535 - n) / 1 % 2 = x0 at *
  generalize n / 1 % 2 = y0 at *
  generalize (65535 - n) / 2 % 2 = x1 at *
  generalize n / 2 % 2 = y1 at *
  generalize (65535 - n) / 4 % 2 = x2 at *
  generalize n / 4 % 2 = y2 at *
  generalize (65535 - n) / 8 % 2 = x3 at *
  generalize n / 8 % 2 = y3 at *
  generalize (65535 - n) / 16 % 2 = x4 at *
  generalize n / 16 % 2 = y4 at *
  generalize (65535 - n) / 32 % 2 = x5 at *
  generalize n / 32 % 2 = y5 at *
  generalize (65535 - n) / 64 % 2 = x6 at *
  generalize n / 64 % 2 = y6 at *
  generalize (65535 - n) / 128 % 2 = x7 at *
  generalize n / 128 % 2 = y7 at *
  generalize (65535 - n) / 256 % 2 = x8 at *
  generalize n / 256 % 2 = y8 at *
  generalize (65535 - n) / 512 % 2 = x9 at *
  generalize n / 512 % 2 = y9 at *
  generalize (65535 - n) / 1024 % 2 = x10 at *
  generalize n / 1024 % 2 = y10 at *
  generalize (65535 - n) / 2048 % 2 = x11 at *
  generalize n / 2048 % 2 = y11 at *
  generalize (65535 - n) / 4096 % 2 = x12 at *
  generalize n / 4096 % 2 = y12 at *
  generalize (65535 - n) / 8192 % 2 = x13 at *
  generalize n / 8192 % 2 = y13 at *
  generalize (65535 - n) / 16384 % 2 = x14 at *
  generalize n / 16384 % 2 = y14 at *
  generalize (65535 - n) / 32768 % 2 = x15 at *
  generalize n / 32768 % 2 = y15 at *
  omega
theorem pcn_h {n : Nat} (hn : n < 65536) : pcn n 30 = pcn n 16 := by
  have c16 : n / 65536 % 2 = 0 := by omega
  have c17 : n / 131072 % 2 = 0 := by omega
  have c18 : n / 262144 % 2 = 0 := by omega
  have c19 : n / 524288 % 2 = 0 := by omega
  have c20 : n / 1048576 % 2 = 0 := by omega
  have c21 : n / 2097152 % 2 = 0 := by omega
  have c22 : n / 4194304 % 2 = 0 := by omega
  have c23 : n / 8388608 % 2 = 0 := by omega
  have c24 : n / 16777216 % 2 = 0 := by omega
  have c25 : n / 33554432 % 2 = 0 := by omega
  have c26 : n / 67108864 % 2 = 0 := by omega
  have c27 : n / 134217728 % 2 = 0 := by omega
  have c28 : n / 268435456 % 2 = 0 := by omega
  have c29 : n / 536870912 % 2 = 0 := by omega
  have e : pcn n 30 = ((((((((((((((((((((((((((((((0 + n / 1 % 2) + n / 2 % 2) + n / 4 % 2) + n / 8 % 2) + n / 16 % 2) + n / 32 % 2) + n / 64 % 2) + n / 128 % 2) + n / 256 % 2) + n / 512 % 2) + n / 1024 % 2) + n / 2048 % 2) + n / 4096 % 2) + n / 8192 % 2) + n / 16384 % 2) + n / 32768 % 2) + n / 65536 % 2) + n / 131072 % 2) + n / 262144 % 2) + n / 524288 % 2) + n / 1048576 % 2) + n / 2097152 % 2) + n / 4194304 % 2) + n / 8388608 % 2) + n / 16777216 % 2) + n / 33554432 % 2) + n / 67108864 % 2) + n / 134217728 % 2) + n / 268435456 % 2) + n / 536870912 % 2) := rfl
  rw [e, c16, c17, c18, c19, c20, c21, c22, c23, c24, c25, c26, c27, c28, c29]
  rfl
theorem fr_n {n : Nat} (hn : n < 65536) : qand 65535 (qxor (n : Int) (-1)) = ((65535 - n : Nat) : Int) := by
  rw [qxor_m1 (by omega) (by omega), qand_c]
  have h := qand_r (x := -1 - (n : Int)) (b := 65535) (by decide)
  have h : qand (-1 - (n : Int)) 65535 = ((((-1 - (n : Int)) % 4294967296).toNat &&& 65535 : Nat) : Int) := h
  rw [h, show ((-1 - (n : Int)) % 4294967296).toNat &&& 65535 = ((-1 - (n : Int)) % 4294967296).toNat % 65536 from Nat.and_two_pow_sub_one_eq_mod _ 16]
  omega
theorem bits_c {v : Int} (h0 : 0 ≤ v) (h1 : v ≤ 65535) : (0 ≤ qand 65535 (qxor v (-1)) ∧ qand 65535 (qxor v (-1)) ≤ 1073741823) ∧ bitsF (qand 65535 (qxor v (-1))) 30 = 16 - bitsF v 16 := by
  obtain ⟨n, rfl⟩ : ∃ n : Nat, v = n := ⟨v.toNat, by omega⟩
  rw [fr_n (by omega)]
  refine ⟨⟨by omega, by omega⟩, ?_⟩
  rw [bitsF_n (by omega) 30 (by omega), bitsF_n (by omega) 16 (by omega), pcn_h (by omega)]
  have := pcn_c (n := n) (by omega)
  omega
def naF (w : qW) (c : Nat) : Nat → Int
  | 0 => 0
  | d + 1 => naF w c d + if w 98 (10 * c + d) = 0 then 0 else if w 100 (10 * c + d) = 0 then 1 else 0
theorem na_s {w : qW} {c d : Nat} : naF w c (d + 1) = naF w c d + if w 98 (10 * c + d) = 0 then 0 else if w 100 (10 * c + d) = 0 then 1 else 0 := rfl
theorem na_in (w : qW) (c : Nat) : ∀ d : Nat, 0 ≤ naF w c d ∧ naF w c d ≤ (d : Int)
  | 0 => ⟨Int.le_refl 0, Int.le_refl 0⟩
  | d + 1 => by
    have ih := na_in w c d
    rw [na_s]
    split
    · omega
    · split <;> omega
def aoV (w : qW) (c : Nat) : Int := 60 * (16 - bitsF (w 96 c) 16)
def aiV (w : qW) (c : Nat) (s k : Int) : Int := if s = 0 then aoV w c else if aoV w c < 20 then 0 else if 2 * s + 5 * k - naF w c 10 < 1 then 9999 else (aoV w c - 20).tdiv (2 * s + 5 * k - naF w c 10)
def airV (w : qW) (c s k : Int) : Int := if (0 ≤ c ∧ c ≤ 2) ∧ (0 ≤ s ∧ s ≤ 4) ∧ 0 ≤ k ∧ k ≤ 3 then aiV w c.toNat s k else -1
theorem airV_n {w : qW} {c s k : Int} (h : ¬ ((0 ≤ c ∧ c ≤ 2) ∧ (0 ≤ s ∧ s ≤ 4) ∧ 0 ≤ k ∧ k ≤ 3)) : airV w c s k = -1 := if_neg h
theorem airV_y {w : qW} {c : Nat} {s k : Int} (hc : c < 3) (hs : 0 ≤ s ∧ s ≤ 4) (hk : 0 ≤ k ∧ k ≤ 3) : airV w (c : Int) s k = aiV w c s k := by
  unfold airV
  rw [if_pos ⟨by omega, hs, hk⟩, Int.toNat_natCast]
theorem ao_in (w : qW) (c : Nat) : 0 ≤ aoV w c ∧ aoV w c ≤ 960 := by
  have := bitsF_in (w 96 c) 16
  unfold aoV
  omega
theorem td_in {x y : Int} (h0 : 0 ≤ x) (h1 : 0 < y) : 0 ≤ x.tdiv y ∧ x.tdiv y ≤ x := by
  rw [Int.tdiv_eq_ediv_of_nonneg h0]
  exact ⟨Int.ediv_nonneg h0 (by omega), Int.ediv_le_self y h0⟩
theorem w96_in {w : qW} (hI : yInv zgf zga zra zSp w) (c : Nat) : 0 ≤ w 96 c ∧ w 96 c ≤ 65535 := by
  have h := hI.2.1 96 c (0, 65535) rfl rfl
  exact ⟨h.1, h.2⟩
theorem K_free64 {d : Nat} (hd : 0 ≤ d) (w : qW) (hI : yInv zgf zga zra zSp w) (hJ : JD w)  : qG none d 25 0 [(2, 64)] [] w 142 (fun (r : qV) (w1 : qW) (n1 : Nat) => r = (0, qand 65535 (qxor (w 96 0) (-1))) ∧ w1 = w ∧ n1 = 142) := by
  generalize hQ9 : (fun (r : qV) (w1 : qW) (n1 : Nat) => r = (0, qand 65535 (qxor (w 96 0) (-1))) ∧ w1 = w ∧ n1 = 142) = Q9
  refine qG.blk 3 (pc' := 6) (ls' := [(2, 64)]) (st' := [(0, w 64 0), (0, 65535)]) (w' := w) (n' := 142) rfl ?_
  rw [show w 64 0 = w 96 0 from (hJ 0 (by decide)).1]
  refine qG.blk 3 (pc' := 9) (ls' := [(2, 64)]) (st' := [(0, qand 65535 (qxor (w 96 0) (-1)))]) (w' := w) (n' := 142) rfl ?_
  refine qG.ret rfl rfl ?_
  subst hQ9
  exact ⟨rfl, rfl, rfl⟩
theorem K_airAt64 {d : Nat} (hd : 1 ≤ d) (w : qW) (hI : yInv zgf zga zra zSp w) (hJ : JD w)  : qG none d 30 0 [(2, 64)] [] w 142 (fun (r : qV) (w1 : qW) (n1 : Nat) => r = (0, aoV w 0) ∧ w1 = w ∧ n1 = 142) := by
  generalize hQ9 : (fun (r : qV) (w1 : qW) (n1 : Nat) => r = (0, aoV w 0) ∧ w1 = w ∧ n1 = 142) = Q9
  have hw9 := w96_in hI 0
  have hbc := bits_c hw9.1 hw9.2
  have hbi := bitsF_in (w 96 0) 16
  obtain ⟨d, rfl⟩ : ∃ d9, d = d9 + 1 := ⟨d - 1, by omega⟩
  refine qG.blk 2 (pc' := 3) (ls' := [(2, 64)]) (st' := [(2, 64), (0, 60)]) (w' := w) (n' := 142) rfl ?_
  refine qG.call (t := 25) (na := 1) (sk := 1) (md := 1) (ls1 := [(2, 64)]) (r1 := [(0, 60)]) rfl rfl rfl rfl rfl (K_free64 (Nat.zero_le _) w hI hJ) ?_
  rintro _ w7 _ ⟨rfl, hw7, rfl⟩
  rw [hw7]
  show qG none (d + 1) 30 6 [(2, 64)] [(0, qand 65535 (qxor (w 96 0) (-1))), (0, 60)] w 142 Q9
  refine qG.call (t := 302) (na := 1) (sk := 0) (md := 0) (ls1 := [(0, qand 65535 (qxor (w 96 0) (-1)))]) (r1 := [(0, 60)]) rfl rfl rfl rfl rfl (K_bcJ (Nat.zero_le _) _ hbc.1.1 hbc.1.2 w) ?_
  rintro _ w7 _ ⟨rfl, hw7, rfl⟩
  rw [hw7, hbc.2]
  show qG none (d + 1) 30 9 [(2, 64)] [(0, 16 - bitsF (w 96 0) 16), (0, 60)] w 142 Q9
  refine qG.blk 1 (pc' := 10) (ls' := [(2, 64)]) (st' := [(0, wrp (60 * (16 - bitsF (w 96 0) 16)))]) (w' := w) (n' := 142) rfl ?_
  rw [show wrp (60 * (16 - bitsF (w 96 0) 16)) = aoV w 0 from wrp_id (by omega) (by omega)]
  refine qG.ret rfl rfl ?_
  subst hQ9
  exact ⟨rfl, rfl, rfl⟩
theorem K_airIn64 {d : Nat} (hd : 0 ≤ d) (w : qW) (hI : yInv zgf zga zra zSp w) (hJ : JD w)  : qG none d 32 0 [(2, 64), (9, 0), (9, 0)] [] w 142 (fun (r : qV) (w1 : qW) (n1 : Nat) => r = (0, naF w 0 10) ∧ w1 = w ∧ n1 = 142) := by
  generalize hQ9 : (fun (r : qV) (w1 : qW) (n1 : Nat) => r = (0, naF w 0 10) ∧ w1 = w ∧ n1 = 142) = Q9
  refine qG.blk 4 (pc' := 4) (ls' := [(2, 64), (0, 0), (0, 0)]) (st' := []) (w' := w) (n' := 142) rfl ?_
  have L4 : ∀ (m9 : Nat) (i : Nat) (x1 : Int), 10 - i = m9 → (i ≤ 10 ∧ x1 = naF w 0 i) → qG none d 32 4 [(2, 64), (0, x1), (0, ((i : Nat) : Int))] [] w 142 Q9 := by
    intro m9
    induction m9 using Nat.strongRecOn with
    | ind m9 ih4 =>
    intro i x1 hm4 hI4
    have hni := na_in w 0 i
    refine qG.blk 2 (pc' := 7) (ls' := [(2, 64), (0, x1), (0, ((i : Nat) : Int))]) (st' := [(0, 10), (0, ((i : Nat) : Int))]) (w' := w) (n' := 142) rfl ?_
    refine qG.br (P := ((i : Nat) : Int) < 10) (pc1 := 10) (pc2 := 37) (st1 := []) rfl (fun h1 => ?_) (fun h1 => ?_)
    · skip
      refine qG.blk 2 (pc' := 14) (ls' := [(2, 64), (0, x1), (0, ((i : Nat) : Int))]) (st' := [(2, w 64 4)]) (w' := w) (n' := 142) rfl ?_
      rw [show w 64 4 = 67 from zref hI rfl rfl]
      refine qG.blk 1 (pc' := 15) (ls' := [(2, 64), (0, x1), (0, ((i : Nat) : Int))]) (st' := [(0, ((i : Nat) : Int)), (2, 67)]) (w' := w) (n' := 142) rfl ?_
      refine qG.ar (P := 0 ≤ ((i : Nat) : Int) ∧ ((i : Nat) : Int) < ((10 : Nat) : Int)) (P2 := 0 < (67 : Int) ∧ (67 : Int) ≤ ((142 : Nat) : Int)) (pc' := 16) (ls' := [(2, 64), (0, x1), (0, ((i : Nat) : Int))]) (st' := [(0, w 67 i)]) (w' := w) (n' := 142) rfl (by omega) (by decide) ?_
      rw [show w 67 i = w 98 (10 * 0 + i) from ((hJ 0 (by decide)).2 i (by omega)).1]
      refine qG.br (P := w 98 (10 * 0 + i) = 0) (pc1 := 31) (pc2 := 19) (st1 := []) rfl (fun h1 => ?_) (fun h1 => ?_)
      · skip
        refine qG.blk 1 (pc' := 34) (ls' := [(2, 64), (0, x1), (0, wrp (((i : Nat) : Int) + 1))]) (st' := []) (w' := w) (n' := 142) rfl ?_
        rw [show wrp (((i : Nat) : Int) + 1) = ((i + 1 : Nat) : Int) from wrp_id (by omega) (by omega)]
        refine qG.blk 1 (pc' := 4) (ls' := [(2, 64), (0, x1), (0, ((i + 1 : Nat) : Int))]) (st' := []) (w' := w) (n' := 142) rfl ?_
        exact ih4 _ (by omega) (i + 1) (x1) rfl (⟨by omega, by rw [na_s]; first | (rw [if_pos h1]; omega) | (rw [if_neg h1, if_pos h2]; omega) | (rw [if_neg h1, if_neg h2]; omega)⟩)
      · skip
        refine qG.blk 2 (pc' := 23) (ls' := [(2, 64), (0, x1), (0, ((i : Nat) : Int))]) (st' := [(2, w 64 5)]) (w' := w) (n' := 142) rfl ?_
        rw [show w 64 5 = 68 from zref hI rfl rfl]
        refine qG.blk 1 (pc' := 24) (ls' := [(2, 64), (0, x1), (0, ((i : Nat) : Int))]) (st' := [(0, ((i : Nat) : Int)), (2, 68)]) (w' := w) (n' := 142) rfl ?_
        refine qG.ar (P := 0 ≤ ((i : Nat) : Int) ∧ ((i : Nat) : Int) < ((10 : Nat) : Int)) (P2 := 0 < (68 : Int) ∧ (68 : Int) ≤ ((142 : Nat) : Int)) (pc' := 25) (ls' := [(2, 64), (0, x1), (0, ((i : Nat) : Int))]) (st' := [(0, w 68 i)]) (w' := w) (n' := 142) rfl (by omega) (by decide) ?_
        rw [show w 68 i = w 100 (10 * 0 + i) from ((hJ 0 (by decide)).2 i (by omega)).2]
        refine qG.br (P := w 100 (10 * 0 + i) = 0) (pc1 := 28) (pc2 := 31) (st1 := []) rfl (fun h2 => ?_) (fun h2 => ?_)
        · skip
          refine qG.blk 1 (pc' := 31) (ls' := [(2, 64), (0, wrp (x1 + 1)), (0, ((i : Nat) : Int))]) (st' := []) (w' := w) (n' := 142) rfl ?_
          rw [show wrp (x1 + 1) = x1 + 1 from wrp_id (by omega) (by omega)]
          refine qG.blk 1 (pc' := 34) (ls' := [(2, 64), (0, x1 + 1), (0, wrp (((i : Nat) : Int) + 1))]) (st' := []) (w' := w) (n' := 142) rfl ?_
          rw [show wrp (((i : Nat) : Int) + 1) = ((i + 1 : Nat) : Int) from wrp_id (by omega) (by omega)]
          refine qG.blk 1 (pc' := 4) (ls' := [(2, 64), (0, x1 + 1), (0, ((i + 1 : Nat) : Int))]) (st' := []) (w' := w) (n' := 142) rfl ?_
          exact ih4 _ (by omega) (i + 1) (x1 + 1) rfl (⟨by omega, by rw [na_s]; first | (rw [if_pos h1]; omega) | (rw [if_neg h1, if_pos h2]; omega) | (rw [if_neg h1, if_neg h2]; omega)⟩)
        · skip
          refine qG.blk 1 (pc' := 34) (ls' := [(2, 64), (0, x1), (0, wrp (((i : Nat) : Int) + 1))]) (st' := []) (w' := w) (n' := 142) rfl ?_
          rw [show wrp (((i : Nat) : Int) + 1) = ((i + 1 : Nat) : Int) from wrp_id (by omega) (by omega)]
          refine qG.blk 1 (pc' := 4) (ls' := [(2, 64), (0, x1), (0, ((i + 1 : Nat) : Int))]) (st' := []) (w' := w) (n' := 142) rfl ?_
          exact ih4 _ (by omega) (i + 1) (x1) rfl (⟨by omega, by rw [na_s]; first | (rw [if_pos h1]; omega) | (rw [if_neg h1, if_pos h2]; omega) | (rw [if_neg h1, if_neg h2]; omega)⟩)
    · skip
      refine qG.blk 1 (pc' := 38) (ls' := [(2, 64), (0, x1), (0, ((i : Nat) : Int))]) (st' := [(0, x1)]) (w' := w) (n' := 142) rfl ?_
      refine qG.ret rfl rfl ?_
      subst hQ9
      exact ⟨congrArg (Prod.mk (0 : Nat)) (by rw [hI4.2, show i = 10 by omega]), rfl, rfl⟩
  exact L4 _ (0) (0) rfl (⟨by omega, rfl⟩)
theorem K_airLasts64 {d : Nat} (hd : 2 ≤ d) (s k : Int) (hs : 1 ≤ s ∧ s ≤ 4) (hk : 0 ≤ k ∧ k ≤ 3) (w : qW) (hI : yInv zgf zga zra zSp w) (hJ : JD w)  : qG none d 31 0 [(2, 64), (0, s), (0, k), (9, 0), (9, 0)] [] w 142 (fun (r : qV) (w1 : qW) (n1 : Nat) => r = (0, aiV w 0 s k) ∧ w1 = w ∧ n1 = 142) := by
  generalize hQ9 : (fun (r : qV) (w1 : qW) (n1 : Nat) => r = (0, aiV w 0 s k) ∧ w1 = w ∧ n1 = 142) = Q9
  have hao := ao_in w 0
  have hna := na_in w 0 10
  have hs0 : ¬ s = 0 := by omega
  obtain ⟨d, rfl⟩ : ∃ d9, d = d9 + 1 := ⟨d - 1, by omega⟩
  refine qG.blk 1 (pc' := 1) (ls' := [(2, 64), (0, s), (0, k), (9, 0), (9, 0)]) (st' := [(2, 64)]) (w' := w) (n' := 142) rfl ?_
  refine qG.call (t := 30) (na := 1) (sk := 1) (md := 1) (ls1 := [(2, 64)]) (r1 := []) rfl rfl rfl rfl rfl (K_airAt64 (by omega) w hI hJ) ?_
  rintro _ w7 _ ⟨rfl, hw7, rfl⟩
  rw [hw7]
  show qG none (d + 1) 31 4 [(2, 64), (0, s), (0, k), (9, 0), (9, 0)] [(0, aoV w 0)] w 142 Q9
  refine qG.blk 2 (pc' := 7) (ls' := [(2, 64), (0, s), (0, k), (9, 0), (9, 0)]) (st' := [(0, wrp ((aoV w 0) - 20))]) (w' := w) (n' := 142) rfl ?_
  rw [show wrp ((aoV w 0) - 20) = (aoV w 0) - 20 from wrp_id (by omega) (by omega)]
  refine qG.blk 2 (pc' := 9) (ls' := [(2, 64), (0, s), (0, k), (0, (aoV w 0) - 20), (9, 0)]) (st' := [(0, (aoV w 0) - 20)]) (w' := w) (n' := 142) rfl ?_
  refine qG.br (P := (aoV w 0) - 20 < 0) (pc1 := 12) (pc2 := 14) (st1 := []) rfl (fun h1 => ?_) (fun h1 => ?_)
  · skip
    refine qG.blk 1 (pc' := 13) (ls' := [(2, 64), (0, s), (0, k), (0, (aoV w 0) - 20), (9, 0)]) (st' := [(0, 0)]) (w' := w) (n' := 142) rfl ?_
    refine qG.ret rfl rfl ?_
    subst hQ9
    exact ⟨congrArg (Prod.mk (0 : Nat)) (by unfold aiV; first | (rw [if_pos hs0]; done) | (rw [if_neg hs0, if_pos (by omega)]; done) | (rw [if_neg hs0, if_neg (by omega), if_pos (by omega)]; done) | (rw [if_neg hs0, if_neg (by omega), if_neg (by omega)]; done)), rfl, rfl⟩
  · skip
    refine qG.blk 3 (pc' := 17) (ls' := [(2, 64), (0, s), (0, k), (0, (aoV w 0) - 20), (9, 0)]) (st' := [(0, wrp (2 * s))]) (w' := w) (n' := 142) rfl ?_
    rw [show wrp (2 * s) = 2 * s from wrp_id (by omega) (by omega)]
    refine qG.blk 3 (pc' := 20) (ls' := [(2, 64), (0, s), (0, k), (0, (aoV w 0) - 20), (9, 0)]) (st' := [(0, wrp (5 * k)), (0, 2 * s)]) (w' := w) (n' := 142) rfl ?_
    rw [show wrp (5 * k) = 5 * k from wrp_id (by omega) (by omega)]
    refine qG.blk 1 (pc' := 21) (ls' := [(2, 64), (0, s), (0, k), (0, (aoV w 0) - 20), (9, 0)]) (st' := [(0, wrp ((2 * s) + (5 * k)))]) (w' := w) (n' := 142) rfl ?_
    rw [show wrp ((2 * s) + (5 * k)) = 2 * s + 5 * k from wrp_id (by omega) (by omega)]
    refine qG.blk 1 (pc' := 22) (ls' := [(2, 64), (0, s), (0, k), (0, (aoV w 0) - 20), (9, 0)]) (st' := [(2, 64), (0, 2 * s + 5 * k)]) (w' := w) (n' := 142) rfl ?_
    refine qG.call (t := 32) (na := 1) (sk := 1) (md := 1) (ls1 := [(2, 64), (9, 0), (9, 0)]) (r1 := [(0, 2 * s + 5 * k)]) rfl rfl rfl rfl rfl (K_airIn64 (by omega) w hI hJ) ?_
    rintro _ w7 _ ⟨rfl, hw7, rfl⟩
    rw [hw7]
    show qG none (d + 1) 31 25 [(2, 64), (0, s), (0, k), (0, (aoV w 0) - 20), (9, 0)] [(0, naF w 0 10), (0, 2 * s + 5 * k)] w 142 Q9
    refine qG.blk 1 (pc' := 26) (ls' := [(2, 64), (0, s), (0, k), (0, (aoV w 0) - 20), (9, 0)]) (st' := [(0, wrp ((2 * s + 5 * k) - (naF w 0 10)))]) (w' := w) (n' := 142) rfl ?_
    rw [show wrp ((2 * s + 5 * k) - (naF w 0 10)) = 2 * s + 5 * k - naF w 0 10 from wrp_id (by omega) (by omega)]
    refine qG.blk 2 (pc' := 30) (ls' := [(2, 64), (0, s), (0, k), (0, (aoV w 0) - 20), (0, 2 * s + 5 * k - naF w 0 10)]) (st' := [(0, 2 * s + 5 * k - naF w 0 10)]) (w' := w) (n' := 142) rfl ?_
    refine qG.br (P := 0 < 2 * s + 5 * k - naF w 0 10) (pc1 := 39) (pc2 := 33) (st1 := []) rfl (fun h2 => ?_) (fun h2 => ?_)
    · skip
      have htd := td_in (x := aoV w 0 - 20) (y := 2 * s + 5 * k - naF w 0 10) (by omega) (by omega)
      refine qG.blk 3 (pc' := 45) (ls' := [(2, 64), (0, s), (0, k), (0, (aoV w 0) - 20), (0, 2 * s + 5 * k - naF w 0 10)]) (st' := [(0, 2 * s + 5 * k - naF w 0 10), (0, (aoV w 0) - 20), (0, 9999)]) (w' := w) (n' := 142) rfl ?_
      refine qG.gn (P := 2 * s + 5 * k - naF w 0 10 = 0) (pc' := 46) (ls' := [(2, 64), (0, s), (0, k), (0, (aoV w 0) - 20), (0, 2 * s + 5 * k - naF w 0 10)]) (st' := [(0, qdiv ((aoV w 0) - 20) (2 * s + 5 * k - naF w 0 10)), (0, 9999)]) (w' := w) (n' := 142) rfl (by omega) ?_
      rw [show qdiv ((aoV w 0) - 20) (2 * s + 5 * k - naF w 0 10) = (aoV w 0 - 20).tdiv (2 * s + 5 * k - naF w 0 10) from by unfold qdiv; exact wrp_id (by omega) (by omega)]
      refine qG.mth rfl rfl rfl rfl (pc' := 49) (ls' := [(2, 64), (0, s), (0, k), (0, (aoV w 0) - 20), (0, 2 * s + 5 * k - naF w 0 10)]) (st' := [(0, (if (aoV w 0 - 20).tdiv (2 * s + 5 * k - naF w 0 10) < 9999 then (aoV w 0 - 20).tdiv (2 * s + 5 * k - naF w 0 10) else 9999))]) (w' := w) (n' := 142) rfl ?_
      rw [show (if (aoV w 0 - 20).tdiv (2 * s + 5 * k - naF w 0 10) < 9999 then (aoV w 0 - 20).tdiv (2 * s + 5 * k - naF w 0 10) else 9999) = (aoV w 0 - 20).tdiv (2 * s + 5 * k - naF w 0 10) from if_pos (by omega)]
      refine qG.ret rfl rfl ?_
      subst hQ9
      exact ⟨congrArg (Prod.mk (0 : Nat)) (by unfold aiV; first | (rw [if_pos hs0]; done) | (rw [if_neg hs0, if_pos (by omega)]; done) | (rw [if_neg hs0, if_neg (by omega), if_pos (by omega)]; done) | (rw [if_neg hs0, if_neg (by omega), if_neg (by omega)]; done)), rfl, rfl⟩
    · skip
      refine qG.blk 2 (pc' := 49) (ls' := [(2, 64), (0, s), (0, k), (0, (aoV w 0) - 20), (0, 2 * s + 5 * k - naF w 0 10)]) (st' := [(0, 9999)]) (w' := w) (n' := 142) rfl ?_
      refine qG.ret rfl rfl ?_
      subst hQ9
      exact ⟨congrArg (Prod.mk (0 : Nat)) (by unfold aiV; first | (rw [if_pos hs0]; done) | (rw [if_neg hs0, if_pos (by omega)]; done) | (rw [if_neg hs0, if_neg (by omega), if_pos (by omega)]; done) | (rw [if_neg hs0, if_neg (by omega), if_neg (by omega)]; done)), rfl, rfl⟩
theorem K_X11_air_0 {d : Nat} (hd : 3 ≤ d) (s k : Int) (w : qW) (hI : yInv zgf zga zra zSp w) (hJ : JD w)  : qG none d 180 0 [(2, 1), (0, 0), (0, s), (0, k)] [] w 142 (fun (r : qV) (_ : qW) (_ : Nat) => r = (0, airV w 0 s k)) := by
  generalize hQ9 : (fun (r : qV) (_ : qW) (_ : Nat) => r = (0, airV w 0 s k)) = Q9
  obtain ⟨d, rfl⟩ : ∃ d9, d = d9 + 1 := ⟨d - 1, by omega⟩
  refine qG.blk 1 (pc' := 1) (ls' := [(2, 1), (0, 0), (0, s), (0, k)]) (st' := [(0, 0)]) (w' := w) (n' := 142) rfl ?_
  refine qG.call (t := 198) (na := 1) (sk := 0) (md := 0) (ls1 := [(0, 0)]) (r1 := []) rfl rfl rfl rfl rfl (K_X11_isChest (Nat.zero_le _) _ _) ?_
  rintro _ w7 _ ⟨rfl, hw7, rfl⟩
  rw [hw7, show isInV 0 0 2 = 1 from by decide]
  show qG none (d + 1) 180 4 [(2, 1), (0, 0), (0, s), (0, k)] [(0, 1)] w 142 Q9
  refine qG.br (P := (1 : Int) = 0) (pc1 := 25) (pc2 := 7) (st1 := []) rfl (fun h1 => ?_) (fun h1 => ?_)
  · exact absurd h1 (by decide)
  · skip
    refine qG.blk 1 (pc' := 8) (ls' := [(2, 1), (0, 0), (0, s), (0, k)]) (st' := [(0, s)]) (w' := w) (n' := 142) rfl ?_
    refine qG.br (P := s < 0) (pc1 := 25) (pc2 := 11) (st1 := []) rfl (fun h1 => ?_) (fun h1 => ?_)
    · skip
      refine qG.blk 1 (pc' := 26) (ls' := [(2, 1), (0, 0), (0, s), (0, k)]) (st' := [(0, (-1))]) (w' := w) (n' := 142) rfl ?_
      refine qG.ret rfl rfl ?_
      subst hQ9
      exact congrArg (Prod.mk (0 : Nat)) (by first | exact (airV_n (by omega)).symm | (have q := airV_y (w := w) (c := 0) (s := s) (k := k) (by decide) (by omega) (by omega); rw [show airV w 0 s k = aiV w 0 s k from q]; first | done | rfl | (unfold aiV; rw [if_pos hs0]; done)))
    · skip
      refine qG.blk 2 (pc' := 13) (ls' := [(2, 1), (0, 0), (0, s), (0, k)]) (st' := [(0, 4), (0, s)]) (w' := w) (n' := 142) rfl ?_
      refine qG.br (P := 4 < s) (pc1 := 25) (pc2 := 16) (st1 := []) rfl (fun h2 => ?_) (fun h2 => ?_)
      · skip
        refine qG.blk 1 (pc' := 26) (ls' := [(2, 1), (0, 0), (0, s), (0, k)]) (st' := [(0, (-1))]) (w' := w) (n' := 142) rfl ?_
        refine qG.ret rfl rfl ?_
        subst hQ9
        exact congrArg (Prod.mk (0 : Nat)) (by first | exact (airV_n (by omega)).symm | (have q := airV_y (w := w) (c := 0) (s := s) (k := k) (by decide) (by omega) (by omega); rw [show airV w 0 s k = aiV w 0 s k from q]; first | done | rfl | (unfold aiV; rw [if_pos hs0]; done)))
      · skip
        refine qG.blk 1 (pc' := 17) (ls' := [(2, 1), (0, 0), (0, s), (0, k)]) (st' := [(0, k)]) (w' := w) (n' := 142) rfl ?_
        refine qG.br (P := k < 0) (pc1 := 25) (pc2 := 20) (st1 := []) rfl (fun h3 => ?_) (fun h3 => ?_)
        · skip
          refine qG.blk 1 (pc' := 26) (ls' := [(2, 1), (0, 0), (0, s), (0, k)]) (st' := [(0, (-1))]) (w' := w) (n' := 142) rfl ?_
          refine qG.ret rfl rfl ?_
          subst hQ9
          exact congrArg (Prod.mk (0 : Nat)) (by first | exact (airV_n (by omega)).symm | (have q := airV_y (w := w) (c := 0) (s := s) (k := k) (by decide) (by omega) (by omega); rw [show airV w 0 s k = aiV w 0 s k from q]; first | done | rfl | (unfold aiV; rw [if_pos hs0]; done)))
        · skip
          refine qG.blk 2 (pc' := 22) (ls' := [(2, 1), (0, 0), (0, s), (0, k)]) (st' := [(0, 3), (0, k)]) (w' := w) (n' := 142) rfl ?_
          refine qG.br (P := 3 < k) (pc1 := 25) (pc2 := 27) (st1 := []) rfl (fun h4 => ?_) (fun h4 => ?_)
          · skip
            refine qG.blk 1 (pc' := 26) (ls' := [(2, 1), (0, 0), (0, s), (0, k)]) (st' := [(0, (-1))]) (w' := w) (n' := 142) rfl ?_
            refine qG.ret rfl rfl ?_
            subst hQ9
            exact congrArg (Prod.mk (0 : Nat)) (by first | exact (airV_n (by omega)).symm | (have q := airV_y (w := w) (c := 0) (s := s) (k := k) (by decide) (by omega) (by omega); rw [show airV w 0 s k = aiV w 0 s k from q]; first | done | rfl | (unfold aiV; rw [if_pos hs0]; done)))
          · skip
            refine qG.blk 1 (pc' := 28) (ls' := [(2, 1), (0, 0), (0, s), (0, k)]) (st' := [(0, s)]) (w' := w) (n' := 142) rfl ?_
            refine qG.br (P := s = 0) (pc1 := 31) (pc2 := 43) (st1 := []) rfl (fun hs0 => ?_) (fun hs0 => ?_)
            · skip
              refine qG.blk 2 (pc' := 35) (ls' := [(2, 1), (0, 0), (0, s), (0, k)]) (st' := [(2, w 1 0)]) (w' := w) (n' := 142) rfl ?_
              rw [show w 1 0 = 2 from zref hI rfl rfl]
              refine qG.blk 1 (pc' := 36) (ls' := [(2, 1), (0, 0), (0, s), (0, k)]) (st' := [(0, 0), (2, 2)]) (w' := w) (n' := 142) rfl ?_
              refine qG.ar (P := 0 ≤ 0 ∧ 0 < ((3 : Nat) : Int)) (P2 := 0 < (2 : Int) ∧ (2 : Int) ≤ ((142 : Nat) : Int)) (pc' := 37) (ls' := [(2, 1), (0, 0), (0, s), (0, k)]) (st' := [(2, w 2 0)]) (w' := w) (n' := 142) rfl (by omega) (by decide) ?_
              rw [show w 2 0 = 64 from zref hI rfl rfl]
              refine qG.call (t := 30) (na := 1) (sk := 1) (md := 1) (ls1 := [(2, 64)]) (r1 := []) rfl rfl rfl rfl rfl (K_airAt64 (by omega) w hI hJ) ?_
              rintro _ w7 _ ⟨rfl, hw7, rfl⟩
              rw [hw7]
              show qG none (d + 1) 180 40 [(2, 1), (0, 0), (0, s), (0, k)] [(0, aoV w 0)] w 142 Q9
              refine qG.blk 1 (pc' := 54) (ls' := [(2, 1), (0, 0), (0, s), (0, k)]) (st' := [(0, aoV w 0)]) (w' := w) (n' := 142) rfl ?_
              refine qG.ret rfl rfl ?_
              subst hQ9
              exact congrArg (Prod.mk (0 : Nat)) (by first | exact (airV_n (by omega)).symm | (have q := airV_y (w := w) (c := 0) (s := s) (k := k) (by decide) (by omega) (by omega); rw [show airV w 0 s k = aiV w 0 s k from q]; first | done | rfl | (unfold aiV; rw [if_pos hs0]; done)))
            · skip
              refine qG.blk 2 (pc' := 47) (ls' := [(2, 1), (0, 0), (0, s), (0, k)]) (st' := [(2, w 1 0)]) (w' := w) (n' := 142) rfl ?_
              rw [show w 1 0 = 2 from zref hI rfl rfl]
              refine qG.blk 1 (pc' := 48) (ls' := [(2, 1), (0, 0), (0, s), (0, k)]) (st' := [(0, 0), (2, 2)]) (w' := w) (n' := 142) rfl ?_
              refine qG.ar (P := 0 ≤ 0 ∧ 0 < ((3 : Nat) : Int)) (P2 := 0 < (2 : Int) ∧ (2 : Int) ≤ ((142 : Nat) : Int)) (pc' := 49) (ls' := [(2, 1), (0, 0), (0, s), (0, k)]) (st' := [(2, w 2 0)]) (w' := w) (n' := 142) rfl (by omega) (by decide) ?_
              rw [show w 2 0 = 64 from zref hI rfl rfl]
              refine qG.blk 2 (pc' := 51) (ls' := [(2, 1), (0, 0), (0, s), (0, k)]) (st' := [(0, k), (0, s), (2, 64)]) (w' := w) (n' := 142) rfl ?_
              refine qG.call (t := 31) (na := 3) (sk := 1) (md := 1) (ls1 := [(2, 64), (0, s), (0, k), (9, 0), (9, 0)]) (r1 := []) rfl rfl rfl rfl rfl (K_airLasts64 (by omega) s k (by omega) (by omega) w hI hJ) ?_
              rintro _ w7 _ ⟨rfl, hw7, rfl⟩
              rw [hw7]
              show qG none (d + 1) 180 54 [(2, 1), (0, 0), (0, s), (0, k)] [(0, aiV w 0 s k)] w 142 Q9
              refine qG.ret rfl rfl ?_
              subst hQ9
              exact congrArg (Prod.mk (0 : Nat)) (by first | exact (airV_n (by omega)).symm | (have q := airV_y (w := w) (c := 0) (s := s) (k := k) (by decide) (by omega) (by omega); rw [show airV w 0 s k = aiV w 0 s k from q]; first | done | rfl | (unfold aiV; rw [if_pos hs0]; done)))
theorem K_free69 {d : Nat} (hd : 0 ≤ d) (w : qW) (hI : yInv zgf zga zra zSp w) (hJ : JD w)  : qG none d 25 0 [(2, 69)] [] w 142 (fun (r : qV) (w1 : qW) (n1 : Nat) => r = (0, qand 65535 (qxor (w 96 1) (-1))) ∧ w1 = w ∧ n1 = 142) := by
  generalize hQ9 : (fun (r : qV) (w1 : qW) (n1 : Nat) => r = (0, qand 65535 (qxor (w 96 1) (-1))) ∧ w1 = w ∧ n1 = 142) = Q9
  refine qG.blk 3 (pc' := 6) (ls' := [(2, 69)]) (st' := [(0, w 69 0), (0, 65535)]) (w' := w) (n' := 142) rfl ?_
  rw [show w 69 0 = w 96 1 from (hJ 1 (by decide)).1]
  refine qG.blk 3 (pc' := 9) (ls' := [(2, 69)]) (st' := [(0, qand 65535 (qxor (w 96 1) (-1)))]) (w' := w) (n' := 142) rfl ?_
  refine qG.ret rfl rfl ?_
  subst hQ9
  exact ⟨rfl, rfl, rfl⟩
theorem K_airAt69 {d : Nat} (hd : 1 ≤ d) (w : qW) (hI : yInv zgf zga zra zSp w) (hJ : JD w)  : qG none d 30 0 [(2, 69)] [] w 142 (fun (r : qV) (w1 : qW) (n1 : Nat) => r = (0, aoV w 1) ∧ w1 = w ∧ n1 = 142) := by
  generalize hQ9 : (fun (r : qV) (w1 : qW) (n1 : Nat) => r = (0, aoV w 1) ∧ w1 = w ∧ n1 = 142) = Q9
  have hw9 := w96_in hI 1
  have hbc := bits_c hw9.1 hw9.2
  have hbi := bitsF_in (w 96 1) 16
  obtain ⟨d, rfl⟩ : ∃ d9, d = d9 + 1 := ⟨d - 1, by omega⟩
  refine qG.blk 2 (pc' := 3) (ls' := [(2, 69)]) (st' := [(2, 69), (0, 60)]) (w' := w) (n' := 142) rfl ?_
  refine qG.call (t := 25) (na := 1) (sk := 1) (md := 1) (ls1 := [(2, 69)]) (r1 := [(0, 60)]) rfl rfl rfl rfl rfl (K_free69 (Nat.zero_le _) w hI hJ) ?_
  rintro _ w7 _ ⟨rfl, hw7, rfl⟩
  rw [hw7]
  show qG none (d + 1) 30 6 [(2, 69)] [(0, qand 65535 (qxor (w 96 1) (-1))), (0, 60)] w 142 Q9
  refine qG.call (t := 302) (na := 1) (sk := 0) (md := 0) (ls1 := [(0, qand 65535 (qxor (w 96 1) (-1)))]) (r1 := [(0, 60)]) rfl rfl rfl rfl rfl (K_bcJ (Nat.zero_le _) _ hbc.1.1 hbc.1.2 w) ?_
  rintro _ w7 _ ⟨rfl, hw7, rfl⟩
  rw [hw7, hbc.2]
  show qG none (d + 1) 30 9 [(2, 69)] [(0, 16 - bitsF (w 96 1) 16), (0, 60)] w 142 Q9
  refine qG.blk 1 (pc' := 10) (ls' := [(2, 69)]) (st' := [(0, wrp (60 * (16 - bitsF (w 96 1) 16)))]) (w' := w) (n' := 142) rfl ?_
  rw [show wrp (60 * (16 - bitsF (w 96 1) 16)) = aoV w 1 from wrp_id (by omega) (by omega)]
  refine qG.ret rfl rfl ?_
  subst hQ9
  exact ⟨rfl, rfl, rfl⟩
theorem K_airIn69 {d : Nat} (hd : 0 ≤ d) (w : qW) (hI : yInv zgf zga zra zSp w) (hJ : JD w)  : qG none d 32 0 [(2, 69), (9, 0), (9, 0)] [] w 142 (fun (r : qV) (w1 : qW) (n1 : Nat) => r = (0, naF w 1 10) ∧ w1 = w ∧ n1 = 142) := by
  generalize hQ9 : (fun (r : qV) (w1 : qW) (n1 : Nat) => r = (0, naF w 1 10) ∧ w1 = w ∧ n1 = 142) = Q9
  refine qG.blk 4 (pc' := 4) (ls' := [(2, 69), (0, 0), (0, 0)]) (st' := []) (w' := w) (n' := 142) rfl ?_
  have L4 : ∀ (m9 : Nat) (i : Nat) (x1 : Int), 10 - i = m9 → (i ≤ 10 ∧ x1 = naF w 1 i) → qG none d 32 4 [(2, 69), (0, x1), (0, ((i : Nat) : Int))] [] w 142 Q9 := by
    intro m9
    induction m9 using Nat.strongRecOn with
    | ind m9 ih4 =>
    intro i x1 hm4 hI4
    have hni := na_in w 1 i
    refine qG.blk 2 (pc' := 7) (ls' := [(2, 69), (0, x1), (0, ((i : Nat) : Int))]) (st' := [(0, 10), (0, ((i : Nat) : Int))]) (w' := w) (n' := 142) rfl ?_
    refine qG.br (P := ((i : Nat) : Int) < 10) (pc1 := 10) (pc2 := 37) (st1 := []) rfl (fun h1 => ?_) (fun h1 => ?_)
    · skip
      refine qG.blk 2 (pc' := 14) (ls' := [(2, 69), (0, x1), (0, ((i : Nat) : Int))]) (st' := [(2, w 69 4)]) (w' := w) (n' := 142) rfl ?_
      rw [show w 69 4 = 72 from zref hI rfl rfl]
      refine qG.blk 1 (pc' := 15) (ls' := [(2, 69), (0, x1), (0, ((i : Nat) : Int))]) (st' := [(0, ((i : Nat) : Int)), (2, 72)]) (w' := w) (n' := 142) rfl ?_
      refine qG.ar (P := 0 ≤ ((i : Nat) : Int) ∧ ((i : Nat) : Int) < ((10 : Nat) : Int)) (P2 := 0 < (72 : Int) ∧ (72 : Int) ≤ ((142 : Nat) : Int)) (pc' := 16) (ls' := [(2, 69), (0, x1), (0, ((i : Nat) : Int))]) (st' := [(0, w 72 i)]) (w' := w) (n' := 142) rfl (by omega) (by decide) ?_
      rw [show w 72 i = w 98 (10 * 1 + i) from ((hJ 1 (by decide)).2 i (by omega)).1]
      refine qG.br (P := w 98 (10 * 1 + i) = 0) (pc1 := 31) (pc2 := 19) (st1 := []) rfl (fun h1 => ?_) (fun h1 => ?_)
      · skip
        refine qG.blk 1 (pc' := 34) (ls' := [(2, 69), (0, x1), (0, wrp (((i : Nat) : Int) + 1))]) (st' := []) (w' := w) (n' := 142) rfl ?_
        rw [show wrp (((i : Nat) : Int) + 1) = ((i + 1 : Nat) : Int) from wrp_id (by omega) (by omega)]
        refine qG.blk 1 (pc' := 4) (ls' := [(2, 69), (0, x1), (0, ((i + 1 : Nat) : Int))]) (st' := []) (w' := w) (n' := 142) rfl ?_
        exact ih4 _ (by omega) (i + 1) (x1) rfl (⟨by omega, by rw [na_s]; first | (rw [if_pos h1]; omega) | (rw [if_neg h1, if_pos h2]; omega) | (rw [if_neg h1, if_neg h2]; omega)⟩)
      · skip
        refine qG.blk 2 (pc' := 23) (ls' := [(2, 69), (0, x1), (0, ((i : Nat) : Int))]) (st' := [(2, w 69 5)]) (w' := w) (n' := 142) rfl ?_
        rw [show w 69 5 = 73 from zref hI rfl rfl]
        refine qG.blk 1 (pc' := 24) (ls' := [(2, 69), (0, x1), (0, ((i : Nat) : Int))]) (st' := [(0, ((i : Nat) : Int)), (2, 73)]) (w' := w) (n' := 142) rfl ?_
        refine qG.ar (P := 0 ≤ ((i : Nat) : Int) ∧ ((i : Nat) : Int) < ((10 : Nat) : Int)) (P2 := 0 < (73 : Int) ∧ (73 : Int) ≤ ((142 : Nat) : Int)) (pc' := 25) (ls' := [(2, 69), (0, x1), (0, ((i : Nat) : Int))]) (st' := [(0, w 73 i)]) (w' := w) (n' := 142) rfl (by omega) (by decide) ?_
        rw [show w 73 i = w 100 (10 * 1 + i) from ((hJ 1 (by decide)).2 i (by omega)).2]
        refine qG.br (P := w 100 (10 * 1 + i) = 0) (pc1 := 28) (pc2 := 31) (st1 := []) rfl (fun h2 => ?_) (fun h2 => ?_)
        · skip
          refine qG.blk 1 (pc' := 31) (ls' := [(2, 69), (0, wrp (x1 + 1)), (0, ((i : Nat) : Int))]) (st' := []) (w' := w) (n' := 142) rfl ?_
          rw [show wrp (x1 + 1) = x1 + 1 from wrp_id (by omega) (by omega)]
          refine qG.blk 1 (pc' := 34) (ls' := [(2, 69), (0, x1 + 1), (0, wrp (((i : Nat) : Int) + 1))]) (st' := []) (w' := w) (n' := 142) rfl ?_
          rw [show wrp (((i : Nat) : Int) + 1) = ((i + 1 : Nat) : Int) from wrp_id (by omega) (by omega)]
          refine qG.blk 1 (pc' := 4) (ls' := [(2, 69), (0, x1 + 1), (0, ((i + 1 : Nat) : Int))]) (st' := []) (w' := w) (n' := 142) rfl ?_
          exact ih4 _ (by omega) (i + 1) (x1 + 1) rfl (⟨by omega, by rw [na_s]; first | (rw [if_pos h1]; omega) | (rw [if_neg h1, if_pos h2]; omega) | (rw [if_neg h1, if_neg h2]; omega)⟩)
        · skip
          refine qG.blk 1 (pc' := 34) (ls' := [(2, 69), (0, x1), (0, wrp (((i : Nat) : Int) + 1))]) (st' := []) (w' := w) (n' := 142) rfl ?_
          rw [show wrp (((i : Nat) : Int) + 1) = ((i + 1 : Nat) : Int) from wrp_id (by omega) (by omega)]
          refine qG.blk 1 (pc' := 4) (ls' := [(2, 69), (0, x1), (0, ((i + 1 : Nat) : Int))]) (st' := []) (w' := w) (n' := 142) rfl ?_
          exact ih4 _ (by omega) (i + 1) (x1) rfl (⟨by omega, by rw [na_s]; first | (rw [if_pos h1]; omega) | (rw [if_neg h1, if_pos h2]; omega) | (rw [if_neg h1, if_neg h2]; omega)⟩)
    · skip
      refine qG.blk 1 (pc' := 38) (ls' := [(2, 69), (0, x1), (0, ((i : Nat) : Int))]) (st' := [(0, x1)]) (w' := w) (n' := 142) rfl ?_
      refine qG.ret rfl rfl ?_
      subst hQ9
      exact ⟨congrArg (Prod.mk (0 : Nat)) (by rw [hI4.2, show i = 10 by omega]), rfl, rfl⟩
  exact L4 _ (0) (0) rfl (⟨by omega, rfl⟩)
theorem K_airLasts69 {d : Nat} (hd : 2 ≤ d) (s k : Int) (hs : 1 ≤ s ∧ s ≤ 4) (hk : 0 ≤ k ∧ k ≤ 3) (w : qW) (hI : yInv zgf zga zra zSp w) (hJ : JD w)  : qG none d 31 0 [(2, 69), (0, s), (0, k), (9, 0), (9, 0)] [] w 142 (fun (r : qV) (w1 : qW) (n1 : Nat) => r = (0, aiV w 1 s k) ∧ w1 = w ∧ n1 = 142) := by
  generalize hQ9 : (fun (r : qV) (w1 : qW) (n1 : Nat) => r = (0, aiV w 1 s k) ∧ w1 = w ∧ n1 = 142) = Q9
  have hao := ao_in w 1
  have hna := na_in w 1 10
  have hs0 : ¬ s = 0 := by omega
  obtain ⟨d, rfl⟩ : ∃ d9, d = d9 + 1 := ⟨d - 1, by omega⟩
  refine qG.blk 1 (pc' := 1) (ls' := [(2, 69), (0, s), (0, k), (9, 0), (9, 0)]) (st' := [(2, 69)]) (w' := w) (n' := 142) rfl ?_
  refine qG.call (t := 30) (na := 1) (sk := 1) (md := 1) (ls1 := [(2, 69)]) (r1 := []) rfl rfl rfl rfl rfl (K_airAt69 (by omega) w hI hJ) ?_
  rintro _ w7 _ ⟨rfl, hw7, rfl⟩
  rw [hw7]
  show qG none (d + 1) 31 4 [(2, 69), (0, s), (0, k), (9, 0), (9, 0)] [(0, aoV w 1)] w 142 Q9
  refine qG.blk 2 (pc' := 7) (ls' := [(2, 69), (0, s), (0, k), (9, 0), (9, 0)]) (st' := [(0, wrp ((aoV w 1) - 20))]) (w' := w) (n' := 142) rfl ?_
  rw [show wrp ((aoV w 1) - 20) = (aoV w 1) - 20 from wrp_id (by omega) (by omega)]
  refine qG.blk 2 (pc' := 9) (ls' := [(2, 69), (0, s), (0, k), (0, (aoV w 1) - 20), (9, 0)]) (st' := [(0, (aoV w 1) - 20)]) (w' := w) (n' := 142) rfl ?_
  refine qG.br (P := (aoV w 1) - 20 < 0) (pc1 := 12) (pc2 := 14) (st1 := []) rfl (fun h1 => ?_) (fun h1 => ?_)
  · skip
    refine qG.blk 1 (pc' := 13) (ls' := [(2, 69), (0, s), (0, k), (0, (aoV w 1) - 20), (9, 0)]) (st' := [(0, 0)]) (w' := w) (n' := 142) rfl ?_
    refine qG.ret rfl rfl ?_
    subst hQ9
    exact ⟨congrArg (Prod.mk (0 : Nat)) (by unfold aiV; first | (rw [if_pos hs0]; done) | (rw [if_neg hs0, if_pos (by omega)]; done) | (rw [if_neg hs0, if_neg (by omega), if_pos (by omega)]; done) | (rw [if_neg hs0, if_neg (by omega), if_neg (by omega)]; done)), rfl, rfl⟩
  · skip
    refine qG.blk 3 (pc' := 17) (ls' := [(2, 69), (0, s), (0, k), (0, (aoV w 1) - 20), (9, 0)]) (st' := [(0, wrp (2 * s))]) (w' := w) (n' := 142) rfl ?_
    rw [show wrp (2 * s) = 2 * s from wrp_id (by omega) (by omega)]
    refine qG.blk 3 (pc' := 20) (ls' := [(2, 69), (0, s), (0, k), (0, (aoV w 1) - 20), (9, 0)]) (st' := [(0, wrp (5 * k)), (0, 2 * s)]) (w' := w) (n' := 142) rfl ?_
    rw [show wrp (5 * k) = 5 * k from wrp_id (by omega) (by omega)]
    refine qG.blk 1 (pc' := 21) (ls' := [(2, 69), (0, s), (0, k), (0, (aoV w 1) - 20), (9, 0)]) (st' := [(0, wrp ((2 * s) + (5 * k)))]) (w' := w) (n' := 142) rfl ?_
    rw [show wrp ((2 * s) + (5 * k)) = 2 * s + 5 * k from wrp_id (by omega) (by omega)]
    refine qG.blk 1 (pc' := 22) (ls' := [(2, 69), (0, s), (0, k), (0, (aoV w 1) - 20), (9, 0)]) (st' := [(2, 69), (0, 2 * s + 5 * k)]) (w' := w) (n' := 142) rfl ?_
    refine qG.call (t := 32) (na := 1) (sk := 1) (md := 1) (ls1 := [(2, 69), (9, 0), (9, 0)]) (r1 := [(0, 2 * s + 5 * k)]) rfl rfl rfl rfl rfl (K_airIn69 (by omega) w hI hJ) ?_
    rintro _ w7 _ ⟨rfl, hw7, rfl⟩
    rw [hw7]
    show qG none (d + 1) 31 25 [(2, 69), (0, s), (0, k), (0, (aoV w 1) - 20), (9, 0)] [(0, naF w 1 10), (0, 2 * s + 5 * k)] w 142 Q9
    refine qG.blk 1 (pc' := 26) (ls' := [(2, 69), (0, s), (0, k), (0, (aoV w 1) - 20), (9, 0)]) (st' := [(0, wrp ((2 * s + 5 * k) - (naF w 1 10)))]) (w' := w) (n' := 142) rfl ?_
    rw [show wrp ((2 * s + 5 * k) - (naF w 1 10)) = 2 * s + 5 * k - naF w 1 10 from wrp_id (by omega) (by omega)]
    refine qG.blk 2 (pc' := 30) (ls' := [(2, 69), (0, s), (0, k), (0, (aoV w 1) - 20), (0, 2 * s + 5 * k - naF w 1 10)]) (st' := [(0, 2 * s + 5 * k - naF w 1 10)]) (w' := w) (n' := 142) rfl ?_
    refine qG.br (P := 0 < 2 * s + 5 * k - naF w 1 10) (pc1 := 39) (pc2 := 33) (st1 := []) rfl (fun h2 => ?_) (fun h2 => ?_)
    · skip
      have htd := td_in (x := aoV w 1 - 20) (y := 2 * s + 5 * k - naF w 1 10) (by omega) (by omega)
      refine qG.blk 3 (pc' := 45) (ls' := [(2, 69), (0, s), (0, k), (0, (aoV w 1) - 20), (0, 2 * s + 5 * k - naF w 1 10)]) (st' := [(0, 2 * s + 5 * k - naF w 1 10), (0, (aoV w 1) - 20), (0, 9999)]) (w' := w) (n' := 142) rfl ?_
      refine qG.gn (P := 2 * s + 5 * k - naF w 1 10 = 0) (pc' := 46) (ls' := [(2, 69), (0, s), (0, k), (0, (aoV w 1) - 20), (0, 2 * s + 5 * k - naF w 1 10)]) (st' := [(0, qdiv ((aoV w 1) - 20) (2 * s + 5 * k - naF w 1 10)), (0, 9999)]) (w' := w) (n' := 142) rfl (by omega) ?_
      rw [show qdiv ((aoV w 1) - 20) (2 * s + 5 * k - naF w 1 10) = (aoV w 1 - 20).tdiv (2 * s + 5 * k - naF w 1 10) from by unfold qdiv; exact wrp_id (by omega) (by omega)]
      refine qG.mth rfl rfl rfl rfl (pc' := 49) (ls' := [(2, 69), (0, s), (0, k), (0, (aoV w 1) - 20), (0, 2 * s + 5 * k - naF w 1 10)]) (st' := [(0, (if (aoV w 1 - 20).tdiv (2 * s + 5 * k - naF w 1 10) < 9999 then (aoV w 1 - 20).tdiv (2 * s + 5 * k - naF w 1 10) else 9999))]) (w' := w) (n' := 142) rfl ?_
      rw [show (if (aoV w 1 - 20).tdiv (2 * s + 5 * k - naF w 1 10) < 9999 then (aoV w 1 - 20).tdiv (2 * s + 5 * k - naF w 1 10) else 9999) = (aoV w 1 - 20).tdiv (2 * s + 5 * k - naF w 1 10) from if_pos (by omega)]
      refine qG.ret rfl rfl ?_
      subst hQ9
      exact ⟨congrArg (Prod.mk (0 : Nat)) (by unfold aiV; first | (rw [if_pos hs0]; done) | (rw [if_neg hs0, if_pos (by omega)]; done) | (rw [if_neg hs0, if_neg (by omega), if_pos (by omega)]; done) | (rw [if_neg hs0, if_neg (by omega), if_neg (by omega)]; done)), rfl, rfl⟩
    · skip
      refine qG.blk 2 (pc' := 49) (ls' := [(2, 69), (0, s), (0, k), (0, (aoV w 1) - 20), (0, 2 * s + 5 * k - naF w 1 10)]) (st' := [(0, 9999)]) (w' := w) (n' := 142) rfl ?_
      refine qG.ret rfl rfl ?_
      subst hQ9
      exact ⟨congrArg (Prod.mk (0 : Nat)) (by unfold aiV; first | (rw [if_pos hs0]; done) | (rw [if_neg hs0, if_pos (by omega)]; done) | (rw [if_neg hs0, if_neg (by omega), if_pos (by omega)]; done) | (rw [if_neg hs0, if_neg (by omega), if_neg (by omega)]; done)), rfl, rfl⟩
theorem K_X11_air_1 {d : Nat} (hd : 3 ≤ d) (s k : Int) (w : qW) (hI : yInv zgf zga zra zSp w) (hJ : JD w)  : qG none d 180 0 [(2, 1), (0, 1), (0, s), (0, k)] [] w 142 (fun (r : qV) (_ : qW) (_ : Nat) => r = (0, airV w 1 s k)) := by
  generalize hQ9 : (fun (r : qV) (_ : qW) (_ : Nat) => r = (0, airV w 1 s k)) = Q9
  obtain ⟨d, rfl⟩ : ∃ d9, d = d9 + 1 := ⟨d - 1, by omega⟩
  refine qG.blk 1 (pc' := 1) (ls' := [(2, 1), (0, 1), (0, s), (0, k)]) (st' := [(0, 1)]) (w' := w) (n' := 142) rfl ?_
  refine qG.call (t := 198) (na := 1) (sk := 0) (md := 0) (ls1 := [(0, 1)]) (r1 := []) rfl rfl rfl rfl rfl (K_X11_isChest (Nat.zero_le _) _ _) ?_
  rintro _ w7 _ ⟨rfl, hw7, rfl⟩
  rw [hw7, show isInV 1 0 2 = 1 from by decide]
  show qG none (d + 1) 180 4 [(2, 1), (0, 1), (0, s), (0, k)] [(0, 1)] w 142 Q9
  refine qG.br (P := (1 : Int) = 0) (pc1 := 25) (pc2 := 7) (st1 := []) rfl (fun h1 => ?_) (fun h1 => ?_)
  · exact absurd h1 (by decide)
  · skip
    refine qG.blk 1 (pc' := 8) (ls' := [(2, 1), (0, 1), (0, s), (0, k)]) (st' := [(0, s)]) (w' := w) (n' := 142) rfl ?_
    refine qG.br (P := s < 0) (pc1 := 25) (pc2 := 11) (st1 := []) rfl (fun h1 => ?_) (fun h1 => ?_)
    · skip
      refine qG.blk 1 (pc' := 26) (ls' := [(2, 1), (0, 1), (0, s), (0, k)]) (st' := [(0, (-1))]) (w' := w) (n' := 142) rfl ?_
      refine qG.ret rfl rfl ?_
      subst hQ9
      exact congrArg (Prod.mk (0 : Nat)) (by first | exact (airV_n (by omega)).symm | (have q := airV_y (w := w) (c := 1) (s := s) (k := k) (by decide) (by omega) (by omega); rw [show airV w 1 s k = aiV w 1 s k from q]; first | done | rfl | (unfold aiV; rw [if_pos hs0]; done)))
    · skip
      refine qG.blk 2 (pc' := 13) (ls' := [(2, 1), (0, 1), (0, s), (0, k)]) (st' := [(0, 4), (0, s)]) (w' := w) (n' := 142) rfl ?_
      refine qG.br (P := 4 < s) (pc1 := 25) (pc2 := 16) (st1 := []) rfl (fun h2 => ?_) (fun h2 => ?_)
      · skip
        refine qG.blk 1 (pc' := 26) (ls' := [(2, 1), (0, 1), (0, s), (0, k)]) (st' := [(0, (-1))]) (w' := w) (n' := 142) rfl ?_
        refine qG.ret rfl rfl ?_
        subst hQ9
        exact congrArg (Prod.mk (0 : Nat)) (by first | exact (airV_n (by omega)).symm | (have q := airV_y (w := w) (c := 1) (s := s) (k := k) (by decide) (by omega) (by omega); rw [show airV w 1 s k = aiV w 1 s k from q]; first | done | rfl | (unfold aiV; rw [if_pos hs0]; done)))
      · skip
        refine qG.blk 1 (pc' := 17) (ls' := [(2, 1), (0, 1), (0, s), (0, k)]) (st' := [(0, k)]) (w' := w) (n' := 142) rfl ?_
        refine qG.br (P := k < 0) (pc1 := 25) (pc2 := 20) (st1 := []) rfl (fun h3 => ?_) (fun h3 => ?_)
        · skip
          refine qG.blk 1 (pc' := 26) (ls' := [(2, 1), (0, 1), (0, s), (0, k)]) (st' := [(0, (-1))]) (w' := w) (n' := 142) rfl ?_
          refine qG.ret rfl rfl ?_
          subst hQ9
          exact congrArg (Prod.mk (0 : Nat)) (by first | exact (airV_n (by omega)).symm | (have q := airV_y (w := w) (c := 1) (s := s) (k := k) (by decide) (by omega) (by omega); rw [show airV w 1 s k = aiV w 1 s k from q]; first | done | rfl | (unfold aiV; rw [if_pos hs0]; done)))
        · skip
          refine qG.blk 2 (pc' := 22) (ls' := [(2, 1), (0, 1), (0, s), (0, k)]) (st' := [(0, 3), (0, k)]) (w' := w) (n' := 142) rfl ?_
          refine qG.br (P := 3 < k) (pc1 := 25) (pc2 := 27) (st1 := []) rfl (fun h4 => ?_) (fun h4 => ?_)
          · skip
            refine qG.blk 1 (pc' := 26) (ls' := [(2, 1), (0, 1), (0, s), (0, k)]) (st' := [(0, (-1))]) (w' := w) (n' := 142) rfl ?_
            refine qG.ret rfl rfl ?_
            subst hQ9
            exact congrArg (Prod.mk (0 : Nat)) (by first | exact (airV_n (by omega)).symm | (have q := airV_y (w := w) (c := 1) (s := s) (k := k) (by decide) (by omega) (by omega); rw [show airV w 1 s k = aiV w 1 s k from q]; first | done | rfl | (unfold aiV; rw [if_pos hs0]; done)))
          · skip
            refine qG.blk 1 (pc' := 28) (ls' := [(2, 1), (0, 1), (0, s), (0, k)]) (st' := [(0, s)]) (w' := w) (n' := 142) rfl ?_
            refine qG.br (P := s = 0) (pc1 := 31) (pc2 := 43) (st1 := []) rfl (fun hs0 => ?_) (fun hs0 => ?_)
            · skip
              refine qG.blk 2 (pc' := 35) (ls' := [(2, 1), (0, 1), (0, s), (0, k)]) (st' := [(2, w 1 0)]) (w' := w) (n' := 142) rfl ?_
              rw [show w 1 0 = 2 from zref hI rfl rfl]
              refine qG.blk 1 (pc' := 36) (ls' := [(2, 1), (0, 1), (0, s), (0, k)]) (st' := [(0, 1), (2, 2)]) (w' := w) (n' := 142) rfl ?_
              refine qG.ar (P := 0 ≤ 1 ∧ 1 < ((3 : Nat) : Int)) (P2 := 0 < (2 : Int) ∧ (2 : Int) ≤ ((142 : Nat) : Int)) (pc' := 37) (ls' := [(2, 1), (0, 1), (0, s), (0, k)]) (st' := [(2, w 2 1)]) (w' := w) (n' := 142) rfl (by omega) (by decide) ?_
              rw [show w 2 1 = 69 from zref hI rfl rfl]
              refine qG.call (t := 30) (na := 1) (sk := 1) (md := 1) (ls1 := [(2, 69)]) (r1 := []) rfl rfl rfl rfl rfl (K_airAt69 (by omega) w hI hJ) ?_
              rintro _ w7 _ ⟨rfl, hw7, rfl⟩
              rw [hw7]
              show qG none (d + 1) 180 40 [(2, 1), (0, 1), (0, s), (0, k)] [(0, aoV w 1)] w 142 Q9
              refine qG.blk 1 (pc' := 54) (ls' := [(2, 1), (0, 1), (0, s), (0, k)]) (st' := [(0, aoV w 1)]) (w' := w) (n' := 142) rfl ?_
              refine qG.ret rfl rfl ?_
              subst hQ9
              exact congrArg (Prod.mk (0 : Nat)) (by first | exact (airV_n (by omega)).symm | (have q := airV_y (w := w) (c := 1) (s := s) (k := k) (by decide) (by omega) (by omega); rw [show airV w 1 s k = aiV w 1 s k from q]; first | done | rfl | (unfold aiV; rw [if_pos hs0]; done)))
            · skip
              refine qG.blk 2 (pc' := 47) (ls' := [(2, 1), (0, 1), (0, s), (0, k)]) (st' := [(2, w 1 0)]) (w' := w) (n' := 142) rfl ?_
              rw [show w 1 0 = 2 from zref hI rfl rfl]
              refine qG.blk 1 (pc' := 48) (ls' := [(2, 1), (0, 1), (0, s), (0, k)]) (st' := [(0, 1), (2, 2)]) (w' := w) (n' := 142) rfl ?_
              refine qG.ar (P := 0 ≤ 1 ∧ 1 < ((3 : Nat) : Int)) (P2 := 0 < (2 : Int) ∧ (2 : Int) ≤ ((142 : Nat) : Int)) (pc' := 49) (ls' := [(2, 1), (0, 1), (0, s), (0, k)]) (st' := [(2, w 2 1)]) (w' := w) (n' := 142) rfl (by omega) (by decide) ?_
              rw [show w 2 1 = 69 from zref hI rfl rfl]
              refine qG.blk 2 (pc' := 51) (ls' := [(2, 1), (0, 1), (0, s), (0, k)]) (st' := [(0, k), (0, s), (2, 69)]) (w' := w) (n' := 142) rfl ?_
              refine qG.call (t := 31) (na := 3) (sk := 1) (md := 1) (ls1 := [(2, 69), (0, s), (0, k), (9, 0), (9, 0)]) (r1 := []) rfl rfl rfl rfl rfl (K_airLasts69 (by omega) s k (by omega) (by omega) w hI hJ) ?_
              rintro _ w7 _ ⟨rfl, hw7, rfl⟩
              rw [hw7]
              show qG none (d + 1) 180 54 [(2, 1), (0, 1), (0, s), (0, k)] [(0, aiV w 1 s k)] w 142 Q9
              refine qG.ret rfl rfl ?_
              subst hQ9
              exact congrArg (Prod.mk (0 : Nat)) (by first | exact (airV_n (by omega)).symm | (have q := airV_y (w := w) (c := 1) (s := s) (k := k) (by decide) (by omega) (by omega); rw [show airV w 1 s k = aiV w 1 s k from q]; first | done | rfl | (unfold aiV; rw [if_pos hs0]; done)))
theorem K_free74 {d : Nat} (hd : 0 ≤ d) (w : qW) (hI : yInv zgf zga zra zSp w) (hJ : JD w)  : qG none d 25 0 [(2, 74)] [] w 142 (fun (r : qV) (w1 : qW) (n1 : Nat) => r = (0, qand 65535 (qxor (w 96 2) (-1))) ∧ w1 = w ∧ n1 = 142) := by
  generalize hQ9 : (fun (r : qV) (w1 : qW) (n1 : Nat) => r = (0, qand 65535 (qxor (w 96 2) (-1))) ∧ w1 = w ∧ n1 = 142) = Q9
  refine qG.blk 3 (pc' := 6) (ls' := [(2, 74)]) (st' := [(0, w 74 0), (0, 65535)]) (w' := w) (n' := 142) rfl ?_
  rw [show w 74 0 = w 96 2 from (hJ 2 (by decide)).1]
  refine qG.blk 3 (pc' := 9) (ls' := [(2, 74)]) (st' := [(0, qand 65535 (qxor (w 96 2) (-1)))]) (w' := w) (n' := 142) rfl ?_
  refine qG.ret rfl rfl ?_
  subst hQ9
  exact ⟨rfl, rfl, rfl⟩
theorem K_airAt74 {d : Nat} (hd : 1 ≤ d) (w : qW) (hI : yInv zgf zga zra zSp w) (hJ : JD w)  : qG none d 30 0 [(2, 74)] [] w 142 (fun (r : qV) (w1 : qW) (n1 : Nat) => r = (0, aoV w 2) ∧ w1 = w ∧ n1 = 142) := by
  generalize hQ9 : (fun (r : qV) (w1 : qW) (n1 : Nat) => r = (0, aoV w 2) ∧ w1 = w ∧ n1 = 142) = Q9
  have hw9 := w96_in hI 2
  have hbc := bits_c hw9.1 hw9.2
  have hbi := bitsF_in (w 96 2) 16
  obtain ⟨d, rfl⟩ : ∃ d9, d = d9 + 1 := ⟨d - 1, by omega⟩
  refine qG.blk 2 (pc' := 3) (ls' := [(2, 74)]) (st' := [(2, 74), (0, 60)]) (w' := w) (n' := 142) rfl ?_
  refine qG.call (t := 25) (na := 1) (sk := 1) (md := 1) (ls1 := [(2, 74)]) (r1 := [(0, 60)]) rfl rfl rfl rfl rfl (K_free74 (Nat.zero_le _) w hI hJ) ?_
  rintro _ w7 _ ⟨rfl, hw7, rfl⟩
  rw [hw7]
  show qG none (d + 1) 30 6 [(2, 74)] [(0, qand 65535 (qxor (w 96 2) (-1))), (0, 60)] w 142 Q9
  refine qG.call (t := 302) (na := 1) (sk := 0) (md := 0) (ls1 := [(0, qand 65535 (qxor (w 96 2) (-1)))]) (r1 := [(0, 60)]) rfl rfl rfl rfl rfl (K_bcJ (Nat.zero_le _) _ hbc.1.1 hbc.1.2 w) ?_
  rintro _ w7 _ ⟨rfl, hw7, rfl⟩
  rw [hw7, hbc.2]
  show qG none (d + 1) 30 9 [(2, 74)] [(0, 16 - bitsF (w 96 2) 16), (0, 60)] w 142 Q9
  refine qG.blk 1 (pc' := 10) (ls' := [(2, 74)]) (st' := [(0, wrp (60 * (16 - bitsF (w 96 2) 16)))]) (w' := w) (n' := 142) rfl ?_
  rw [show wrp (60 * (16 - bitsF (w 96 2) 16)) = aoV w 2 from wrp_id (by omega) (by omega)]
  refine qG.ret rfl rfl ?_
  subst hQ9
  exact ⟨rfl, rfl, rfl⟩
theorem K_airIn74 {d : Nat} (hd : 0 ≤ d) (w : qW) (hI : yInv zgf zga zra zSp w) (hJ : JD w)  : qG none d 32 0 [(2, 74), (9, 0), (9, 0)] [] w 142 (fun (r : qV) (w1 : qW) (n1 : Nat) => r = (0, naF w 2 10) ∧ w1 = w ∧ n1 = 142) := by
  generalize hQ9 : (fun (r : qV) (w1 : qW) (n1 : Nat) => r = (0, naF w 2 10) ∧ w1 = w ∧ n1 = 142) = Q9
  refine qG.blk 4 (pc' := 4) (ls' := [(2, 74), (0, 0), (0, 0)]) (st' := []) (w' := w) (n' := 142) rfl ?_
  have L4 : ∀ (m9 : Nat) (i : Nat) (x1 : Int), 10 - i = m9 → (i ≤ 10 ∧ x1 = naF w 2 i) → qG none d 32 4 [(2, 74), (0, x1), (0, ((i : Nat) : Int))] [] w 142 Q9 := by
    intro m9
    induction m9 using Nat.strongRecOn with
    | ind m9 ih4 =>
    intro i x1 hm4 hI4
    have hni := na_in w 2 i
    refine qG.blk 2 (pc' := 7) (ls' := [(2, 74), (0, x1), (0, ((i : Nat) : Int))]) (st' := [(0, 10), (0, ((i : Nat) : Int))]) (w' := w) (n' := 142) rfl ?_
    refine qG.br (P := ((i : Nat) : Int) < 10) (pc1 := 10) (pc2 := 37) (st1 := []) rfl (fun h1 => ?_) (fun h1 => ?_)
    · skip
      refine qG.blk 2 (pc' := 14) (ls' := [(2, 74), (0, x1), (0, ((i : Nat) : Int))]) (st' := [(2, w 74 4)]) (w' := w) (n' := 142) rfl ?_
      rw [show w 74 4 = 77 from zref hI rfl rfl]
      refine qG.blk 1 (pc' := 15) (ls' := [(2, 74), (0, x1), (0, ((i : Nat) : Int))]) (st' := [(0, ((i : Nat) : Int)), (2, 77)]) (w' := w) (n' := 142) rfl ?_
      refine qG.ar (P := 0 ≤ ((i : Nat) : Int) ∧ ((i : Nat) : Int) < ((10 : Nat) : Int)) (P2 := 0 < (77 : Int) ∧ (77 : Int) ≤ ((142 : Nat) : Int)) (pc' := 16) (ls' := [(2, 74), (0, x1), (0, ((i : Nat) : Int))]) (st' := [(0, w 77 i)]) (w' := w) (n' := 142) rfl (by omega) (by decide) ?_
      rw [show w 77 i = w 98 (10 * 2 + i) from ((hJ 2 (by decide)).2 i (by omega)).1]
      refine qG.br (P := w 98 (10 * 2 + i) = 0) (pc1 := 31) (pc2 := 19) (st1 := []) rfl (fun h1 => ?_) (fun h1 => ?_)
      · skip
        refine qG.blk 1 (pc' := 34) (ls' := [(2, 74), (0, x1), (0, wrp (((i : Nat) : Int) + 1))]) (st' := []) (w' := w) (n' := 142) rfl ?_
        rw [show wrp (((i : Nat) : Int) + 1) = ((i + 1 : Nat) : Int) from wrp_id (by omega) (by omega)]
        refine qG.blk 1 (pc' := 4) (ls' := [(2, 74), (0, x1), (0, ((i + 1 : Nat) : Int))]) (st' := []) (w' := w) (n' := 142) rfl ?_
        exact ih4 _ (by omega) (i + 1) (x1) rfl (⟨by omega, by rw [na_s]; first | (rw [if_pos h1]; omega) | (rw [if_neg h1, if_pos h2]; omega) | (rw [if_neg h1, if_neg h2]; omega)⟩)
      · skip
        refine qG.blk 2 (pc' := 23) (ls' := [(2, 74), (0, x1), (0, ((i : Nat) : Int))]) (st' := [(2, w 74 5)]) (w' := w) (n' := 142) rfl ?_
        rw [show w 74 5 = 78 from zref hI rfl rfl]
        refine qG.blk 1 (pc' := 24) (ls' := [(2, 74), (0, x1), (0, ((i : Nat) : Int))]) (st' := [(0, ((i : Nat) : Int)), (2, 78)]) (w' := w) (n' := 142) rfl ?_
        refine qG.ar (P := 0 ≤ ((i : Nat) : Int) ∧ ((i : Nat) : Int) < ((10 : Nat) : Int)) (P2 := 0 < (78 : Int) ∧ (78 : Int) ≤ ((142 : Nat) : Int)) (pc' := 25) (ls' := [(2, 74), (0, x1), (0, ((i : Nat) : Int))]) (st' := [(0, w 78 i)]) (w' := w) (n' := 142) rfl (by omega) (by decide) ?_
        rw [show w 78 i = w 100 (10 * 2 + i) from ((hJ 2 (by decide)).2 i (by omega)).2]
        refine qG.br (P := w 100 (10 * 2 + i) = 0) (pc1 := 28) (pc2 := 31) (st1 := []) rfl (fun h2 => ?_) (fun h2 => ?_)
        · skip
          refine qG.blk 1 (pc' := 31) (ls' := [(2, 74), (0, wrp (x1 + 1)), (0, ((i : Nat) : Int))]) (st' := []) (w' := w) (n' := 142) rfl ?_
          rw [show wrp (x1 + 1) = x1 + 1 from wrp_id (by omega) (by omega)]
          refine qG.blk 1 (pc' := 34) (ls' := [(2, 74), (0, x1 + 1), (0, wrp (((i : Nat) : Int) + 1))]) (st' := []) (w' := w) (n' := 142) rfl ?_
          rw [show wrp (((i : Nat) : Int) + 1) = ((i + 1 : Nat) : Int) from wrp_id (by omega) (by omega)]
          refine qG.blk 1 (pc' := 4) (ls' := [(2, 74), (0, x1 + 1), (0, ((i + 1 : Nat) : Int))]) (st' := []) (w' := w) (n' := 142) rfl ?_
          exact ih4 _ (by omega) (i + 1) (x1 + 1) rfl (⟨by omega, by rw [na_s]; first | (rw [if_pos h1]; omega) | (rw [if_neg h1, if_pos h2]; omega) | (rw [if_neg h1, if_neg h2]; omega)⟩)
        · skip
          refine qG.blk 1 (pc' := 34) (ls' := [(2, 74), (0, x1), (0, wrp (((i : Nat) : Int) + 1))]) (st' := []) (w' := w) (n' := 142) rfl ?_
          rw [show wrp (((i : Nat) : Int) + 1) = ((i + 1 : Nat) : Int) from wrp_id (by omega) (by omega)]
          refine qG.blk 1 (pc' := 4) (ls' := [(2, 74), (0, x1), (0, ((i + 1 : Nat) : Int))]) (st' := []) (w' := w) (n' := 142) rfl ?_
          exact ih4 _ (by omega) (i + 1) (x1) rfl (⟨by omega, by rw [na_s]; first | (rw [if_pos h1]; omega) | (rw [if_neg h1, if_pos h2]; omega) | (rw [if_neg h1, if_neg h2]; omega)⟩)
    · skip
      refine qG.blk 1 (pc' := 38) (ls' := [(2, 74), (0, x1), (0, ((i : Nat) : Int))]) (st' := [(0, x1)]) (w' := w) (n' := 142) rfl ?_
      refine qG.ret rfl rfl ?_
      subst hQ9
      exact ⟨congrArg (Prod.mk (0 : Nat)) (by rw [hI4.2, show i = 10 by omega]), rfl, rfl⟩
  exact L4 _ (0) (0) rfl (⟨by omega, rfl⟩)
theorem K_airLasts74 {d : Nat} (hd : 2 ≤ d) (s k : Int) (hs : 1 ≤ s ∧ s ≤ 4) (hk : 0 ≤ k ∧ k ≤ 3) (w : qW) (hI : yInv zgf zga zra zSp w) (hJ : JD w)  : qG none d 31 0 [(2, 74), (0, s), (0, k), (9, 0), (9, 0)] [] w 142 (fun (r : qV) (w1 : qW) (n1 : Nat) => r = (0, aiV w 2 s k) ∧ w1 = w ∧ n1 = 142) := by
  generalize hQ9 : (fun (r : qV) (w1 : qW) (n1 : Nat) => r = (0, aiV w 2 s k) ∧ w1 = w ∧ n1 = 142) = Q9
  have hao := ao_in w 2
  have hna := na_in w 2 10
  have hs0 : ¬ s = 0 := by omega
  obtain ⟨d, rfl⟩ : ∃ d9, d = d9 + 1 := ⟨d - 1, by omega⟩
  refine qG.blk 1 (pc' := 1) (ls' := [(2, 74), (0, s), (0, k), (9, 0), (9, 0)]) (st' := [(2, 74)]) (w' := w) (n' := 142) rfl ?_
  refine qG.call (t := 30) (na := 1) (sk := 1) (md := 1) (ls1 := [(2, 74)]) (r1 := []) rfl rfl rfl rfl rfl (K_airAt74 (by omega) w hI hJ) ?_
  rintro _ w7 _ ⟨rfl, hw7, rfl⟩
  rw [hw7]
  show qG none (d + 1) 31 4 [(2, 74), (0, s), (0, k), (9, 0), (9, 0)] [(0, aoV w 2)] w 142 Q9
  refine qG.blk 2 (pc' := 7) (ls' := [(2, 74), (0, s), (0, k), (9, 0), (9, 0)]) (st' := [(0, wrp ((aoV w 2) - 20))]) (w' := w) (n' := 142) rfl ?_
  rw [show wrp ((aoV w 2) - 20) = (aoV w 2) - 20 from wrp_id (by omega) (by omega)]
  refine qG.blk 2 (pc' := 9) (ls' := [(2, 74), (0, s), (0, k), (0, (aoV w 2) - 20), (9, 0)]) (st' := [(0, (aoV w 2) - 20)]) (w' := w) (n' := 142) rfl ?_
  refine qG.br (P := (aoV w 2) - 20 < 0) (pc1 := 12) (pc2 := 14) (st1 := []) rfl (fun h1 => ?_) (fun h1 => ?_)
  · skip
    refine qG.blk 1 (pc' := 13) (ls' := [(2, 74), (0, s), (0, k), (0, (aoV w 2) - 20), (9, 0)]) (st' := [(0, 0)]) (w' := w) (n' := 142) rfl ?_
    refine qG.ret rfl rfl ?_
    subst hQ9
    exact ⟨congrArg (Prod.mk (0 : Nat)) (by unfold aiV; first | (rw [if_pos hs0]; done) | (rw [if_neg hs0, if_pos (by omega)]; done) | (rw [if_neg hs0, if_neg (by omega), if_pos (by omega)]; done) | (rw [if_neg hs0, if_neg (by omega), if_neg (by omega)]; done)), rfl, rfl⟩
  · skip
    refine qG.blk 3 (pc' := 17) (ls' := [(2, 74), (0, s), (0, k), (0, (aoV w 2) - 20), (9, 0)]) (st' := [(0, wrp (2 * s))]) (w' := w) (n' := 142) rfl ?_
    rw [show wrp (2 * s) = 2 * s from wrp_id (by omega) (by omega)]
    refine qG.blk 3 (pc' := 20) (ls' := [(2, 74), (0, s), (0, k), (0, (aoV w 2) - 20), (9, 0)]) (st' := [(0, wrp (5 * k)), (0, 2 * s)]) (w' := w) (n' := 142) rfl ?_
    rw [show wrp (5 * k) = 5 * k from wrp_id (by omega) (by omega)]
    refine qG.blk 1 (pc' := 21) (ls' := [(2, 74), (0, s), (0, k), (0, (aoV w 2) - 20), (9, 0)]) (st' := [(0, wrp ((2 * s) + (5 * k)))]) (w' := w) (n' := 142) rfl ?_
    rw [show wrp ((2 * s) + (5 * k)) = 2 * s + 5 * k from wrp_id (by omega) (by omega)]
    refine qG.blk 1 (pc' := 22) (ls' := [(2, 74), (0, s), (0, k), (0, (aoV w 2) - 20), (9, 0)]) (st' := [(2, 74), (0, 2 * s + 5 * k)]) (w' := w) (n' := 142) rfl ?_
    refine qG.call (t := 32) (na := 1) (sk := 1) (md := 1) (ls1 := [(2, 74), (9, 0), (9, 0)]) (r1 := [(0, 2 * s + 5 * k)]) rfl rfl rfl rfl rfl (K_airIn74 (by omega) w hI hJ) ?_
    rintro _ w7 _ ⟨rfl, hw7, rfl⟩
    rw [hw7]
    show qG none (d + 1) 31 25 [(2, 74), (0, s), (0, k), (0, (aoV w 2) - 20), (9, 0)] [(0, naF w 2 10), (0, 2 * s + 5 * k)] w 142 Q9
    refine qG.blk 1 (pc' := 26) (ls' := [(2, 74), (0, s), (0, k), (0, (aoV w 2) - 20), (9, 0)]) (st' := [(0, wrp ((2 * s + 5 * k) - (naF w 2 10)))]) (w' := w) (n' := 142) rfl ?_
    rw [show wrp ((2 * s + 5 * k) - (naF w 2 10)) = 2 * s + 5 * k - naF w 2 10 from wrp_id (by omega) (by omega)]
    refine qG.blk 2 (pc' := 30) (ls' := [(2, 74), (0, s), (0, k), (0, (aoV w 2) - 20), (0, 2 * s + 5 * k - naF w 2 10)]) (st' := [(0, 2 * s + 5 * k - naF w 2 10)]) (w' := w) (n' := 142) rfl ?_
    refine qG.br (P := 0 < 2 * s + 5 * k - naF w 2 10) (pc1 := 39) (pc2 := 33) (st1 := []) rfl (fun h2 => ?_) (fun h2 => ?_)
    · skip
      have htd := td_in (x := aoV w 2 - 20) (y := 2 * s + 5 * k - naF w 2 10) (by omega) (by omega)
      refine qG.blk 3 (pc' := 45) (ls' := [(2, 74), (0, s), (0, k), (0, (aoV w 2) - 20), (0, 2 * s + 5 * k - naF w 2 10)]) (st' := [(0, 2 * s + 5 * k - naF w 2 10), (0, (aoV w 2) - 20), (0, 9999)]) (w' := w) (n' := 142) rfl ?_
      refine qG.gn (P := 2 * s + 5 * k - naF w 2 10 = 0) (pc' := 46) (ls' := [(2, 74), (0, s), (0, k), (0, (aoV w 2) - 20), (0, 2 * s + 5 * k - naF w 2 10)]) (st' := [(0, qdiv ((aoV w 2) - 20) (2 * s + 5 * k - naF w 2 10)), (0, 9999)]) (w' := w) (n' := 142) rfl (by omega) ?_
      rw [show qdiv ((aoV w 2) - 20) (2 * s + 5 * k - naF w 2 10) = (aoV w 2 - 20).tdiv (2 * s + 5 * k - naF w 2 10) from by unfold qdiv; exact wrp_id (by omega) (by omega)]
      refine qG.mth rfl rfl rfl rfl (pc' := 49) (ls' := [(2, 74), (0, s), (0, k), (0, (aoV w 2) - 20), (0, 2 * s + 5 * k - naF w 2 10)]) (st' := [(0, (if (aoV w 2 - 20).tdiv (2 * s + 5 * k - naF w 2 10) < 9999 then (aoV w 2 - 20).tdiv (2 * s + 5 * k - naF w 2 10) else 9999))]) (w' := w) (n' := 142) rfl ?_
      rw [show (if (aoV w 2 - 20).tdiv (2 * s + 5 * k - naF w 2 10) < 9999 then (aoV w 2 - 20).tdiv (2 * s + 5 * k - naF w 2 10) else 9999) = (aoV w 2 - 20).tdiv (2 * s + 5 * k - naF w 2 10) from if_pos (by omega)]
      refine qG.ret rfl rfl ?_
      subst hQ9
      exact ⟨congrArg (Prod.mk (0 : Nat)) (by unfold aiV; first | (rw [if_pos hs0]; done) | (rw [if_neg hs0, if_pos (by omega)]; done) | (rw [if_neg hs0, if_neg (by omega), if_pos (by omega)]; done) | (rw [if_neg hs0, if_neg (by omega), if_neg (by omega)]; done)), rfl, rfl⟩
    · skip
      refine qG.blk 2 (pc' := 49) (ls' := [(2, 74), (0, s), (0, k), (0, (aoV w 2) - 20), (0, 2 * s + 5 * k - naF w 2 10)]) (st' := [(0, 9999)]) (w' := w) (n' := 142) rfl ?_
      refine qG.ret rfl rfl ?_
      subst hQ9
      exact ⟨congrArg (Prod.mk (0 : Nat)) (by unfold aiV; first | (rw [if_pos hs0]; done) | (rw [if_neg hs0, if_pos (by omega)]; done) | (rw [if_neg hs0, if_neg (by omega), if_pos (by omega)]; done) | (rw [if_neg hs0, if_neg (by omega), if_neg (by omega)]; done)), rfl, rfl⟩
theorem K_X11_air_2 {d : Nat} (hd : 3 ≤ d) (s k : Int) (w : qW) (hI : yInv zgf zga zra zSp w) (hJ : JD w)  : qG none d 180 0 [(2, 1), (0, 2), (0, s), (0, k)] [] w 142 (fun (r : qV) (_ : qW) (_ : Nat) => r = (0, airV w 2 s k)) := by
  generalize hQ9 : (fun (r : qV) (_ : qW) (_ : Nat) => r = (0, airV w 2 s k)) = Q9
  obtain ⟨d, rfl⟩ : ∃ d9, d = d9 + 1 := ⟨d - 1, by omega⟩
  refine qG.blk 1 (pc' := 1) (ls' := [(2, 1), (0, 2), (0, s), (0, k)]) (st' := [(0, 2)]) (w' := w) (n' := 142) rfl ?_
  refine qG.call (t := 198) (na := 1) (sk := 0) (md := 0) (ls1 := [(0, 2)]) (r1 := []) rfl rfl rfl rfl rfl (K_X11_isChest (Nat.zero_le _) _ _) ?_
  rintro _ w7 _ ⟨rfl, hw7, rfl⟩
  rw [hw7, show isInV 2 0 2 = 1 from by decide]
  show qG none (d + 1) 180 4 [(2, 1), (0, 2), (0, s), (0, k)] [(0, 1)] w 142 Q9
  refine qG.br (P := (1 : Int) = 0) (pc1 := 25) (pc2 := 7) (st1 := []) rfl (fun h1 => ?_) (fun h1 => ?_)
  · exact absurd h1 (by decide)
  · skip
    refine qG.blk 1 (pc' := 8) (ls' := [(2, 1), (0, 2), (0, s), (0, k)]) (st' := [(0, s)]) (w' := w) (n' := 142) rfl ?_
    refine qG.br (P := s < 0) (pc1 := 25) (pc2 := 11) (st1 := []) rfl (fun h1 => ?_) (fun h1 => ?_)
    · skip
      refine qG.blk 1 (pc' := 26) (ls' := [(2, 1), (0, 2), (0, s), (0, k)]) (st' := [(0, (-1))]) (w' := w) (n' := 142) rfl ?_
      refine qG.ret rfl rfl ?_
      subst hQ9
      exact congrArg (Prod.mk (0 : Nat)) (by first | exact (airV_n (by omega)).symm | (have q := airV_y (w := w) (c := 2) (s := s) (k := k) (by decide) (by omega) (by omega); rw [show airV w 2 s k = aiV w 2 s k from q]; first | done | rfl | (unfold aiV; rw [if_pos hs0]; done)))
    · skip
      refine qG.blk 2 (pc' := 13) (ls' := [(2, 1), (0, 2), (0, s), (0, k)]) (st' := [(0, 4), (0, s)]) (w' := w) (n' := 142) rfl ?_
      refine qG.br (P := 4 < s) (pc1 := 25) (pc2 := 16) (st1 := []) rfl (fun h2 => ?_) (fun h2 => ?_)
      · skip
        refine qG.blk 1 (pc' := 26) (ls' := [(2, 1), (0, 2), (0, s), (0, k)]) (st' := [(0, (-1))]) (w' := w) (n' := 142) rfl ?_
        refine qG.ret rfl rfl ?_
        subst hQ9
        exact congrArg (Prod.mk (0 : Nat)) (by first | exact (airV_n (by omega)).symm | (have q := airV_y (w := w) (c := 2) (s := s) (k := k) (by decide) (by omega) (by omega); rw [show airV w 2 s k = aiV w 2 s k from q]; first | done | rfl | (unfold aiV; rw [if_pos hs0]; done)))
      · skip
        refine qG.blk 1 (pc' := 17) (ls' := [(2, 1), (0, 2), (0, s), (0, k)]) (st' := [(0, k)]) (w' := w) (n' := 142) rfl ?_
        refine qG.br (P := k < 0) (pc1 := 25) (pc2 := 20) (st1 := []) rfl (fun h3 => ?_) (fun h3 => ?_)
        · skip
          refine qG.blk 1 (pc' := 26) (ls' := [(2, 1), (0, 2), (0, s), (0, k)]) (st' := [(0, (-1))]) (w' := w) (n' := 142) rfl ?_
          refine qG.ret rfl rfl ?_
          subst hQ9
          exact congrArg (Prod.mk (0 : Nat)) (by first | exact (airV_n (by omega)).symm | (have q := airV_y (w := w) (c := 2) (s := s) (k := k) (by decide) (by omega) (by omega); rw [show airV w 2 s k = aiV w 2 s k from q]; first | done | rfl | (unfold aiV; rw [if_pos hs0]; done)))
        · skip
          refine qG.blk 2 (pc' := 22) (ls' := [(2, 1), (0, 2), (0, s), (0, k)]) (st' := [(0, 3), (0, k)]) (w' := w) (n' := 142) rfl ?_
          refine qG.br (P := 3 < k) (pc1 := 25) (pc2 := 27) (st1 := []) rfl (fun h4 => ?_) (fun h4 => ?_)
          · skip
            refine qG.blk 1 (pc' := 26) (ls' := [(2, 1), (0, 2), (0, s), (0, k)]) (st' := [(0, (-1))]) (w' := w) (n' := 142) rfl ?_
            refine qG.ret rfl rfl ?_
            subst hQ9
            exact congrArg (Prod.mk (0 : Nat)) (by first | exact (airV_n (by omega)).symm | (have q := airV_y (w := w) (c := 2) (s := s) (k := k) (by decide) (by omega) (by omega); rw [show airV w 2 s k = aiV w 2 s k from q]; first | done | rfl | (unfold aiV; rw [if_pos hs0]; done)))
          · skip
            refine qG.blk 1 (pc' := 28) (ls' := [(2, 1), (0, 2), (0, s), (0, k)]) (st' := [(0, s)]) (w' := w) (n' := 142) rfl ?_
            refine qG.br (P := s = 0) (pc1 := 31) (pc2 := 43) (st1 := []) rfl (fun hs0 => ?_) (fun hs0 => ?_)
            · skip
              refine qG.blk 2 (pc' := 35) (ls' := [(2, 1), (0, 2), (0, s), (0, k)]) (st' := [(2, w 1 0)]) (w' := w) (n' := 142) rfl ?_
              rw [show w 1 0 = 2 from zref hI rfl rfl]
              refine qG.blk 1 (pc' := 36) (ls' := [(2, 1), (0, 2), (0, s), (0, k)]) (st' := [(0, 2), (2, 2)]) (w' := w) (n' := 142) rfl ?_
              refine qG.ar (P := 0 ≤ 2 ∧ 2 < ((3 : Nat) : Int)) (P2 := 0 < (2 : Int) ∧ (2 : Int) ≤ ((142 : Nat) : Int)) (pc' := 37) (ls' := [(2, 1), (0, 2), (0, s), (0, k)]) (st' := [(2, w 2 2)]) (w' := w) (n' := 142) rfl (by omega) (by decide) ?_
              rw [show w 2 2 = 74 from zref hI rfl rfl]
              refine qG.call (t := 30) (na := 1) (sk := 1) (md := 1) (ls1 := [(2, 74)]) (r1 := []) rfl rfl rfl rfl rfl (K_airAt74 (by omega) w hI hJ) ?_
              rintro _ w7 _ ⟨rfl, hw7, rfl⟩
              rw [hw7]
              show qG none (d + 1) 180 40 [(2, 1), (0, 2), (0, s), (0, k)] [(0, aoV w 2)] w 142 Q9
              refine qG.blk 1 (pc' := 54) (ls' := [(2, 1), (0, 2), (0, s), (0, k)]) (st' := [(0, aoV w 2)]) (w' := w) (n' := 142) rfl ?_
              refine qG.ret rfl rfl ?_
              subst hQ9
              exact congrArg (Prod.mk (0 : Nat)) (by first | exact (airV_n (by omega)).symm | (have q := airV_y (w := w) (c := 2) (s := s) (k := k) (by decide) (by omega) (by omega); rw [show airV w 2 s k = aiV w 2 s k from q]; first | done | rfl | (unfold aiV; rw [if_pos hs0]; done)))
            · skip
              refine qG.blk 2 (pc' := 47) (ls' := [(2, 1), (0, 2), (0, s), (0, k)]) (st' := [(2, w 1 0)]) (w' := w) (n' := 142) rfl ?_
              rw [show w 1 0 = 2 from zref hI rfl rfl]
              refine qG.blk 1 (pc' := 48) (ls' := [(2, 1), (0, 2), (0, s), (0, k)]) (st' := [(0, 2), (2, 2)]) (w' := w) (n' := 142) rfl ?_
              refine qG.ar (P := 0 ≤ 2 ∧ 2 < ((3 : Nat) : Int)) (P2 := 0 < (2 : Int) ∧ (2 : Int) ≤ ((142 : Nat) : Int)) (pc' := 49) (ls' := [(2, 1), (0, 2), (0, s), (0, k)]) (st' := [(2, w 2 2)]) (w' := w) (n' := 142) rfl (by omega) (by decide) ?_
              rw [show w 2 2 = 74 from zref hI rfl rfl]
              refine qG.blk 2 (pc' := 51) (ls' := [(2, 1), (0, 2), (0, s), (0, k)]) (st' := [(0, k), (0, s), (2, 74)]) (w' := w) (n' := 142) rfl ?_
              refine qG.call (t := 31) (na := 3) (sk := 1) (md := 1) (ls1 := [(2, 74), (0, s), (0, k), (9, 0), (9, 0)]) (r1 := []) rfl rfl rfl rfl rfl (K_airLasts74 (by omega) s k (by omega) (by omega) w hI hJ) ?_
              rintro _ w7 _ ⟨rfl, hw7, rfl⟩
              rw [hw7]
              show qG none (d + 1) 180 54 [(2, 1), (0, 2), (0, s), (0, k)] [(0, aiV w 2 s k)] w 142 Q9
              refine qG.ret rfl rfl ?_
              subst hQ9
              exact congrArg (Prod.mk (0 : Nat)) (by first | exact (airV_n (by omega)).symm | (have q := airV_y (w := w) (c := 2) (s := s) (k := k) (by decide) (by omega) (by omega); rw [show airV w 2 s k = aiV w 2 s k from q]; first | done | rfl | (unfold aiV; rw [if_pos hs0]; done)))
theorem K_X11_air_n {d : Nat} (hd : 3 ≤ d) (c s k : Int) (hc : isInV c 0 2 = 0) (w : qW) (hI : yInv zgf zga zra zSp w) : qG none d 180 0 [(2, 1), (0, c), (0, s), (0, k)] [] w 142 (fun (r : qV) (_ : qW) (_ : Nat) => r = (0, airV w c s k)) := by
  generalize hQ9 : (fun (r : qV) (_ : qW) (_ : Nat) => r = (0, airV w c s k)) = Q9
  obtain ⟨d, rfl⟩ : ∃ d9, d = d9 + 1 := ⟨d - 1, by omega⟩
  refine qG.blk 1 (pc' := 1) (ls' := [(2, 1), (0, c), (0, s), (0, k)]) (st' := [(0, c)]) (w' := w) (n' := 142) rfl ?_
  refine qG.call (t := 198) (na := 1) (sk := 0) (md := 0) (ls1 := [(0, c)]) (r1 := []) rfl rfl rfl rfl rfl (K_X11_isChest (Nat.zero_le _) _ _) ?_
  rintro _ w7 _ ⟨rfl, hw7, rfl⟩
  rw [hw7]
  show qG none (d + 1) 180 4 [(2, 1), (0, c), (0, s), (0, k)] [(0, isInV c 0 2)] w 142 Q9
  refine qG.br (P := isInV c 0 2 = 0) (pc1 := 25) (pc2 := 7) (st1 := []) rfl (fun hc0 => ?_) (fun hc0 => ?_)
  · skip
    refine qG.blk 1 (pc' := 26) (ls' := [(2, 1), (0, c), (0, s), (0, k)]) (st' := [(0, (-1))]) (w' := w) (n' := 142) rfl ?_
    refine qG.ret rfl rfl ?_
    subst hQ9
    exact congrArg (Prod.mk (0 : Nat)) (airV_n (fun z => isIn_b.mp hc z.1)).symm
  · exfalso; exact hc0 hc
theorem K_X11_airQ {d : Nat} (hd : 3 ≤ d) (c s k : Int) (w : qW) (hI : yInv zgf zga zra zSp w) (hJ : JD w) : qG none d 180 0 (qini 180 [(2, 1), (0, c), (0, s), (0, k)]) [] w 142 (fun (r : qV) (_ : qW) (_ : Nat) => r = (0, airV w c s k)) := by
  by_cases h : isInV c 0 2 = 0
  · exact K_X11_air_n hd c s k h w hI
  · obtain ⟨n, rfl, h1, h2⟩ := isIn_n (by decide) h
    rcases (show n = 0 ∨ n = 1 ∨ n = 2 by omega) with rfl | rfl | rfl
    · exact K_X11_air_0 hd s k w hI hJ
    · exact K_X11_air_1 hd s k w hI hJ
    · exact K_X11_air_2 hd s k w hI hJ
theorem K_airOf {d : Nat} (hd : 1 ≤ d) (c : Nat) (hc : c < 3) (w : qW) (hI : yInv zgf zga zra zSp w) : qG none d 272 0 [(2, 95), (0, ((c : Nat) : Int))] [] w 142 (fun (r : qV) (w1 : qW) (n1 : Nat) => r = (0, aoV w c) ∧ w1 = w ∧ n1 = 142) := by
  generalize hQ9 : (fun (r : qV) (w1 : qW) (n1 : Nat) => r = (0, aoV w c) ∧ w1 = w ∧ n1 = 142) = Q9
  have hbi := bitsF_in (w 96 c) 16
  obtain ⟨d, rfl⟩ : ∃ d9, d = d9 + 1 := ⟨d - 1, by omega⟩
  refine qG.blk 4 (pc' := 8) (ls' := [(2, 95), (0, ((c : Nat) : Int))]) (st' := [(2, w 95 0), (0, 16), (0, 60)]) (w' := w) (n' := 142) rfl ?_
  rw [show w 95 0 = 96 from zref hI rfl rfl]
  refine qG.blk 1 (pc' := 9) (ls' := [(2, 95), (0, ((c : Nat) : Int))]) (st' := [(0, ((c : Nat) : Int)), (2, 96), (0, 16), (0, 60)]) (w' := w) (n' := 142) rfl ?_
  refine qG.ar (P := 0 ≤ ((c : Nat) : Int) ∧ ((c : Nat) : Int) < ((3 : Nat) : Int)) (P2 := 0 < (96 : Int) ∧ (96 : Int) ≤ ((142 : Nat) : Int)) (pc' := 10) (ls' := [(2, 95), (0, ((c : Nat) : Int))]) (st' := [(0, w 96 c), (0, 16), (0, 60)]) (w' := w) (n' := 142) rfl (by omega) (by decide) ?_
  refine qG.call (t := 211) (na := 1) (sk := 0) (md := 0) (ls1 := [(0, w 96 c), (9, 0), (9, 0)]) (r1 := [(0, 16), (0, 60)]) rfl rfl rfl rfl rfl (K_bits (Nat.zero_le _) (w 96 c) w) ?_
  rintro _ w7 _ ⟨rfl, hw7, rfl⟩
  rw [hw7]
  show qG none (d + 1) 272 13 [(2, 95), (0, ((c : Nat) : Int))] [(0, bitsF (w 96 c) 16), (0, 16), (0, 60)] w 142 Q9
  refine qG.blk 1 (pc' := 14) (ls' := [(2, 95), (0, ((c : Nat) : Int))]) (st' := [(0, wrp (16 - (bitsF (w 96 c) 16))), (0, 60)]) (w' := w) (n' := 142) rfl ?_
  rw [show wrp (16 - (bitsF (w 96 c) 16)) = 16 - bitsF (w 96 c) 16 from wrp_id (by omega) (by omega)]
  refine qG.blk 1 (pc' := 15) (ls' := [(2, 95), (0, ((c : Nat) : Int))]) (st' := [(0, wrp (60 * (16 - bitsF (w 96 c) 16)))]) (w' := w) (n' := 142) rfl ?_
  rw [show wrp (60 * (16 - bitsF (w 96 c) 16)) = aoV w c from wrp_id (by omega) (by omega)]
  refine qG.ret rfl rfl ?_
  subst hQ9
  exact ⟨rfl, rfl, rfl⟩
theorem K_X12_airQ0 {d : Nat} (hd : 2 ≤ d) (c s k : Int) (w : qW) (hI : yInv zgf zga zra zSp w) : qG none d 273 0 [(2, 95), (0, c), (0, s), (0, k), (9, 0), (9, 0)] [] w 142 (fun (r : qV) (_ : qW) (_ : Nat) => r = (0, airV w c s k)) := by
  generalize hQ9 : (fun (r : qV) (_ : qW) (_ : Nat) => r = (0, airV w c s k)) = Q9
  obtain ⟨d, rfl⟩ : ∃ d9, d = d9 + 1 := ⟨d - 1, by omega⟩
  refine qG.blk 1 (pc' := 1) (ls' := [(2, 95), (0, c), (0, s), (0, k), (9, 0), (9, 0)]) (st' := [(0, c)]) (w' := w) (n' := 142) rfl ?_
  refine qG.call (t := 207) (na := 1) (sk := 0) (md := 0) (ls1 := [(0, c)]) (r1 := []) rfl rfl rfl rfl rfl (K_isChest (by omega) _ _) ?_
  rintro _ w7 _ ⟨rfl, hw7, rfl⟩
  rw [hw7]
  show qG none (d + 1) 273 4 [(2, 95), (0, c), (0, s), (0, k), (9, 0), (9, 0)] [(0, isInV c 0 2)] w 142 Q9
  refine qG.br (P := isInV c 0 2 = 0) (pc1 := 25) (pc2 := 7) (st1 := []) rfl (fun h1 => ?_) (fun h1 => ?_)
  · skip
    rw [isIn_b] at h1
    refine qG.blk 1 (pc' := 26) (ls' := [(2, 95), (0, c), (0, s), (0, k), (9, 0), (9, 0)]) (st' := [(0, (-1))]) (w' := w) (n' := 142) rfl ?_
    refine qG.ret rfl rfl ?_
    subst hQ9
    exact congrArg (Prod.mk (0 : Nat)) (by first | exact (airV_n (by omega)).symm | (rw [airV_y (by omega) (by omega) (by omega)]; exact (by unfold aiV; first | (rw [if_pos hs0]; done) | (rw [if_neg hs0, if_pos (by omega)]; done) | (rw [if_neg hs0, if_neg (by omega), if_pos (by omega)]; done) | (rw [if_neg hs0, if_neg (by omega), if_neg (by omega)]; done))))
  · skip
    rw [isIn_p] at h1
    obtain ⟨c9, rfl⟩ : ∃ q : Nat, c = (q : Int) := ⟨c.toNat, by omega⟩
    refine qG.blk 3 (pc' := 10) (ls' := [(2, 95), (0, ((c9 : Nat) : Int)), (0, s), (0, k), (9, 0), (9, 0)]) (st' := [(0, 4), (0, 0), (0, s)]) (w' := w) (n' := 142) rfl ?_
    refine qG.call (t := 206) (na := 3) (sk := 0) (md := 0) (ls1 := [(0, s), (0, 0), (0, 4)]) (r1 := []) rfl rfl rfl rfl rfl (K_isIn (Nat.zero_le _) _ _ _ _) ?_
    rintro _ w7 _ ⟨rfl, hw7, rfl⟩
    rw [hw7]
    show qG none (d + 1) 273 13 [(2, 95), (0, ((c9 : Nat) : Int)), (0, s), (0, k), (9, 0), (9, 0)] [(0, isInV (s) (0) (4))] w 142 Q9
    refine qG.br (P := isInV (s) (0) (4) = 0) (pc1 := 25) (pc2 := 16) (st1 := []) rfl (fun h2 => ?_) (fun h2 => ?_)
    · skip
      rw [isIn_b] at h2
      refine qG.blk 1 (pc' := 26) (ls' := [(2, 95), (0, ((c9 : Nat) : Int)), (0, s), (0, k), (9, 0), (9, 0)]) (st' := [(0, (-1))]) (w' := w) (n' := 142) rfl ?_
      refine qG.ret rfl rfl ?_
      subst hQ9
      exact congrArg (Prod.mk (0 : Nat)) (by first | exact (airV_n (by omega)).symm | (rw [airV_y (by omega) (by omega) (by omega)]; exact (by unfold aiV; first | (rw [if_pos hs0]; done) | (rw [if_neg hs0, if_pos (by omega)]; done) | (rw [if_neg hs0, if_neg (by omega), if_pos (by omega)]; done) | (rw [if_neg hs0, if_neg (by omega), if_neg (by omega)]; done))))
    · skip
      rw [isIn_p] at h2
      refine qG.blk 3 (pc' := 19) (ls' := [(2, 95), (0, ((c9 : Nat) : Int)), (0, s), (0, k), (9, 0), (9, 0)]) (st' := [(0, 3), (0, 0), (0, k)]) (w' := w) (n' := 142) rfl ?_
      refine qG.call (t := 206) (na := 3) (sk := 0) (md := 0) (ls1 := [(0, k), (0, 0), (0, 3)]) (r1 := []) rfl rfl rfl rfl rfl (K_isIn (Nat.zero_le _) _ _ _ _) ?_
      rintro _ w7 _ ⟨rfl, hw7, rfl⟩
      rw [hw7]
      show qG none (d + 1) 273 22 [(2, 95), (0, ((c9 : Nat) : Int)), (0, s), (0, k), (9, 0), (9, 0)] [(0, isInV (k) (0) (3))] w 142 Q9
      refine qG.br (P := isInV (k) (0) (3) = 0) (pc1 := 25) (pc2 := 27) (st1 := []) rfl (fun h3 => ?_) (fun h3 => ?_)
      · skip
        rw [isIn_b] at h3
        refine qG.blk 1 (pc' := 26) (ls' := [(2, 95), (0, ((c9 : Nat) : Int)), (0, s), (0, k), (9, 0), (9, 0)]) (st' := [(0, (-1))]) (w' := w) (n' := 142) rfl ?_
        refine qG.ret rfl rfl ?_
        subst hQ9
        exact congrArg (Prod.mk (0 : Nat)) (by first | exact (airV_n (by omega)).symm | (rw [airV_y (by omega) (by omega) (by omega)]; exact (by unfold aiV; first | (rw [if_pos hs0]; done) | (rw [if_neg hs0, if_pos (by omega)]; done) | (rw [if_neg hs0, if_neg (by omega), if_pos (by omega)]; done) | (rw [if_neg hs0, if_neg (by omega), if_neg (by omega)]; done))))
      · skip
        rw [isIn_p] at h3
        refine qG.blk 1 (pc' := 28) (ls' := [(2, 95), (0, ((c9 : Nat) : Int)), (0, s), (0, k), (9, 0), (9, 0)]) (st' := [(0, s)]) (w' := w) (n' := 142) rfl ?_
        refine qG.br (P := s = 0) (pc1 := 31) (pc2 := 37) (st1 := []) rfl (fun hs0 => ?_) (fun hs0 => ?_)
        · skip
          refine qG.blk 2 (pc' := 33) (ls' := [(2, 95), (0, ((c9 : Nat) : Int)), (0, s), (0, k), (9, 0), (9, 0)]) (st' := [(0, ((c9 : Nat) : Int)), (2, 95)]) (w' := w) (n' := 142) rfl ?_
          refine qG.call (t := 272) (na := 2) (sk := 1) (md := 1) (ls1 := [(2, 95), (0, ((c9 : Nat) : Int))]) (r1 := []) rfl rfl rfl rfl rfl (K_airOf (by omega) c9 (by omega) w hI) ?_
          rintro _ w7 _ ⟨rfl, hw7, rfl⟩
          rw [hw7]
          show qG none (d + 1) 273 36 [(2, 95), (0, ((c9 : Nat) : Int)), (0, s), (0, k), (9, 0), (9, 0)] [(0, aoV w c9)] w 142 Q9
          refine qG.ret rfl rfl ?_
          subst hQ9
          exact congrArg (Prod.mk (0 : Nat)) (by first | exact (airV_n (by omega)).symm | (rw [airV_y (by omega) (by omega) (by omega)]; exact (by unfold aiV; first | (rw [if_pos hs0]; done) | (rw [if_neg hs0, if_pos (by omega)]; done) | (rw [if_neg hs0, if_neg (by omega), if_pos (by omega)]; done) | (rw [if_neg hs0, if_neg (by omega), if_neg (by omega)]; done))))
        · skip
          refine qG.blk 3 (pc' := 40) (ls' := [(2, 95), (0, ((c9 : Nat) : Int)), (0, s), (0, k), (9, 0), (9, 0)]) (st' := [(0, wrp (2 * s))]) (w' := w) (n' := 142) rfl ?_
          rw [show wrp (2 * s) = 2 * s from wrp_id (by omega) (by omega)]
          refine qG.blk 3 (pc' := 43) (ls' := [(2, 95), (0, ((c9 : Nat) : Int)), (0, s), (0, k), (9, 0), (9, 0)]) (st' := [(0, wrp (5 * k)), (0, 2 * s)]) (w' := w) (n' := 142) rfl ?_
          rw [show wrp (5 * k) = 5 * k from wrp_id (by omega) (by omega)]
          refine qG.blk 1 (pc' := 44) (ls' := [(2, 95), (0, ((c9 : Nat) : Int)), (0, s), (0, k), (9, 0), (9, 0)]) (st' := [(0, wrp ((2 * s) + (5 * k)))]) (w' := w) (n' := 142) rfl ?_
          rw [show wrp ((2 * s) + (5 * k)) = 2 * s + 5 * k from wrp_id (by omega) (by omega)]
          refine qG.blk 3 (pc' := 49) (ls' := [(2, 95), (0, ((c9 : Nat) : Int)), (0, s), (0, k), (0, 2 * s + 5 * k), (0, 0)]) (st' := []) (w' := w) (n' := 142) rfl ?_
          have L49 : ∀ (m9 : Nat) (i : Nat) (x4 : Int), 10 - i = m9 → (i ≤ 10 ∧ x4 = 2 * s + 5 * k - naF w c9 i) → qG none (d + 1) 273 49 [(2, 95), (0, ((c9 : Nat) : Int)), (0, s), (0, k), (0, x4), (0, ((i : Nat) : Int))] [] w 142 Q9 := by
            intro m9
            induction m9 using Nat.strongRecOn with
            | ind m9 ih49 =>
            intro i x4 hm49 hI49
            have hni := na_in w c9 i
            refine qG.blk 2 (pc' := 53) (ls' := [(2, 95), (0, ((c9 : Nat) : Int)), (0, s), (0, k), (0, x4), (0, ((i : Nat) : Int))]) (st' := [(0, 10), (0, ((i : Nat) : Int))]) (w' := w) (n' := 142) rfl ?_
            refine qG.br (P := ((i : Nat) : Int) < 10) (pc1 := 56) (pc2 := 102) (st1 := []) rfl (fun hi => ?_) (fun hi => ?_)
            · skip
              refine qG.blk 3 (pc' := 62) (ls' := [(2, 95), (0, ((c9 : Nat) : Int)), (0, s), (0, k), (0, x4), (0, ((i : Nat) : Int))]) (st' := [(2, w 95 4), (0, x4)]) (w' := w) (n' := 142) rfl ?_
              rw [show w 95 4 = 100 from zref hI rfl rfl]
              refine qG.blk 3 (pc' := 66) (ls' := [(2, 95), (0, ((c9 : Nat) : Int)), (0, s), (0, k), (0, x4), (0, ((i : Nat) : Int))]) (st' := [(0, wrp (10 * ((c9 : Nat) : Int))), (2, 100), (0, x4)]) (w' := w) (n' := 142) rfl ?_
              rw [show wrp (10 * ((c9 : Nat) : Int)) = ((10 * c9 : Nat) : Int) from by rw [wrp_id (by omega) (by omega)]; omega]
              refine qG.blk 2 (pc' := 69) (ls' := [(2, 95), (0, ((c9 : Nat) : Int)), (0, s), (0, k), (0, x4), (0, ((i : Nat) : Int))]) (st' := [(0, wrp (((10 * c9 : Nat) : Int) + ((i : Nat) : Int))), (2, 100), (0, x4)]) (w' := w) (n' := 142) rfl ?_
              rw [show wrp (((10 * c9 : Nat) : Int) + ((i : Nat) : Int)) = ((10 * c9 + i : Nat) : Int) from by rw [wrp_id (by omega) (by omega)]; omega]
              refine qG.ar (P := 0 ≤ ((10 * c9 + i : Nat) : Int) ∧ ((10 * c9 + i : Nat) : Int) < ((30 : Nat) : Int)) (P2 := 0 < (100 : Int) ∧ (100 : Int) ≤ ((142 : Nat) : Int)) (pc' := 70) (ls' := [(2, 95), (0, ((c9 : Nat) : Int)), (0, s), (0, k), (0, x4), (0, ((i : Nat) : Int))]) (st' := [(0, w 100 (10 * c9 + i)), (0, x4)]) (w' := w) (n' := 142) rfl (by omega) (by decide) ?_
              refine qG.br (P := w 100 (10 * c9 + i) = 0) (pc1 := 73) (pc2 := 88) (st1 := [(0, x4)]) rfl (fun h5 => ?_) (fun h5 => ?_)
              · skip
                refine qG.blk 2 (pc' := 77) (ls' := [(2, 95), (0, ((c9 : Nat) : Int)), (0, s), (0, k), (0, x4), (0, ((i : Nat) : Int))]) (st' := [(2, w 95 2), (0, x4)]) (w' := w) (n' := 142) rfl ?_
                rw [show w 95 2 = 98 from zref hI rfl rfl]
                refine qG.blk 3 (pc' := 81) (ls' := [(2, 95), (0, ((c9 : Nat) : Int)), (0, s), (0, k), (0, x4), (0, ((i : Nat) : Int))]) (st' := [(0, wrp (10 * ((c9 : Nat) : Int))), (2, 98), (0, x4)]) (w' := w) (n' := 142) rfl ?_
                rw [show wrp (10 * ((c9 : Nat) : Int)) = ((10 * c9 : Nat) : Int) from by rw [wrp_id (by omega) (by omega)]; omega]
                refine qG.blk 2 (pc' := 84) (ls' := [(2, 95), (0, ((c9 : Nat) : Int)), (0, s), (0, k), (0, x4), (0, ((i : Nat) : Int))]) (st' := [(0, wrp (((10 * c9 : Nat) : Int) + ((i : Nat) : Int))), (2, 98), (0, x4)]) (w' := w) (n' := 142) rfl ?_
                rw [show wrp (((10 * c9 : Nat) : Int) + ((i : Nat) : Int)) = ((10 * c9 + i : Nat) : Int) from by rw [wrp_id (by omega) (by omega)]; omega]
                refine qG.ar (P := 0 ≤ ((10 * c9 + i : Nat) : Int) ∧ ((10 * c9 + i : Nat) : Int) < ((30 : Nat) : Int)) (P2 := 0 < (98 : Int) ∧ (98 : Int) ≤ ((142 : Nat) : Int)) (pc' := 85) (ls' := [(2, 95), (0, ((c9 : Nat) : Int)), (0, s), (0, k), (0, x4), (0, ((i : Nat) : Int))]) (st' := [(0, w 98 (10 * c9 + i)), (0, x4)]) (w' := w) (n' := 142) rfl (by omega) (by decide) ?_
                refine qG.br (P := w 98 (10 * c9 + i) = 0) (pc1 := 88) (pc2 := 92) (st1 := [(0, x4)]) rfl (fun h6 => ?_) (fun h6 => ?_)
                · skip
                  refine qG.blk 3 (pc' := 94) (ls' := [(2, 95), (0, ((c9 : Nat) : Int)), (0, s), (0, k), (0, x4), (0, ((i : Nat) : Int))]) (st' := [(0, wrp (x4 - 0))]) (w' := w) (n' := 142) rfl ?_
                  rw [show wrp (x4 - 0) = x4 - 0 from wrp_id (by omega) (by omega)]
                  refine qG.blk 2 (pc' := 99) (ls' := [(2, 95), (0, ((c9 : Nat) : Int)), (0, s), (0, k), (0, x4 - 0), (0, wrp (((i : Nat) : Int) + 1))]) (st' := []) (w' := w) (n' := 142) rfl ?_
                  rw [show wrp (((i : Nat) : Int) + 1) = ((i + 1 : Nat) : Int) from wrp_id (by omega) (by omega)]
                  refine qG.blk 1 (pc' := 49) (ls' := [(2, 95), (0, ((c9 : Nat) : Int)), (0, s), (0, k), (0, x4 - 0), (0, ((i + 1 : Nat) : Int))]) (st' := []) (w' := w) (n' := 142) rfl ?_
                  exact ih49 _ (by omega) (i + 1) (x4 - 0) rfl (⟨by omega, by rw [na_s]; first | (rw [if_pos h6]; omega) | (rw [if_neg h6, if_pos h5]; omega) | (rw [if_neg h6, if_neg h5]; omega) | (by_cases h6 : w 98 (10 * c9 + i) = 0; (rw [if_pos h6]; omega); (rw [if_neg h6, if_neg h5]; omega))⟩)
                · skip
                  refine qG.blk 2 (pc' := 94) (ls' := [(2, 95), (0, ((c9 : Nat) : Int)), (0, s), (0, k), (0, x4), (0, ((i : Nat) : Int))]) (st' := [(0, wrp (x4 - 1))]) (w' := w) (n' := 142) rfl ?_
                  rw [show wrp (x4 - 1) = x4 - 1 from wrp_id (by omega) (by omega)]
                  refine qG.blk 2 (pc' := 99) (ls' := [(2, 95), (0, ((c9 : Nat) : Int)), (0, s), (0, k), (0, x4 - 1), (0, wrp (((i : Nat) : Int) + 1))]) (st' := []) (w' := w) (n' := 142) rfl ?_
                  rw [show wrp (((i : Nat) : Int) + 1) = ((i + 1 : Nat) : Int) from wrp_id (by omega) (by omega)]
                  refine qG.blk 1 (pc' := 49) (ls' := [(2, 95), (0, ((c9 : Nat) : Int)), (0, s), (0, k), (0, x4 - 1), (0, ((i + 1 : Nat) : Int))]) (st' := []) (w' := w) (n' := 142) rfl ?_
                  exact ih49 _ (by omega) (i + 1) (x4 - 1) rfl (⟨by omega, by rw [na_s]; first | (rw [if_pos h6]; omega) | (rw [if_neg h6, if_pos h5]; omega) | (rw [if_neg h6, if_neg h5]; omega) | (by_cases h6 : w 98 (10 * c9 + i) = 0; (rw [if_pos h6]; omega); (rw [if_neg h6, if_neg h5]; omega))⟩)
              · skip
                refine qG.blk 3 (pc' := 94) (ls' := [(2, 95), (0, ((c9 : Nat) : Int)), (0, s), (0, k), (0, x4), (0, ((i : Nat) : Int))]) (st' := [(0, wrp (x4 - 0))]) (w' := w) (n' := 142) rfl ?_
                rw [show wrp (x4 - 0) = x4 - 0 from wrp_id (by omega) (by omega)]
                refine qG.blk 2 (pc' := 99) (ls' := [(2, 95), (0, ((c9 : Nat) : Int)), (0, s), (0, k), (0, x4 - 0), (0, wrp (((i : Nat) : Int) + 1))]) (st' := []) (w' := w) (n' := 142) rfl ?_
                rw [show wrp (((i : Nat) : Int) + 1) = ((i + 1 : Nat) : Int) from wrp_id (by omega) (by omega)]
                refine qG.blk 1 (pc' := 49) (ls' := [(2, 95), (0, ((c9 : Nat) : Int)), (0, s), (0, k), (0, x4 - 0), (0, ((i + 1 : Nat) : Int))]) (st' := []) (w' := w) (n' := 142) rfl ?_
                exact ih49 _ (by omega) (i + 1) (x4 - 0) rfl (⟨by omega, by rw [na_s]; first | (rw [if_pos h6]; omega) | (rw [if_neg h6, if_pos h5]; omega) | (rw [if_neg h6, if_neg h5]; omega) | (by_cases h6 : w 98 (10 * c9 + i) = 0; (rw [if_pos h6]; omega); (rw [if_neg h6, if_neg h5]; omega))⟩)
            · skip
              have hao := ao_in w c9
              have hna := na_in w c9 10
              have hx4 : x4 = 2 * s + 5 * k - naF w c9 10 := by rw [hI49.2, show i = 10 by omega]
              subst hx4
              refine qG.blk 2 (pc' := 104) (ls' := [(2, 95), (0, ((c9 : Nat) : Int)), (0, s), (0, k), (0, 2 * s + 5 * k - naF w c9 10), (0, ((i : Nat) : Int))]) (st' := [(0, ((c9 : Nat) : Int)), (2, 95)]) (w' := w) (n' := 142) rfl ?_
              refine qG.call (t := 272) (na := 2) (sk := 1) (md := 1) (ls1 := [(2, 95), (0, ((c9 : Nat) : Int))]) (r1 := []) rfl rfl rfl rfl rfl (K_airOf (by omega) c9 (by omega) w hI) ?_
              rintro _ w7 _ ⟨rfl, hw7, rfl⟩
              rw [hw7]
              show qG none (d + 1) 273 107 [(2, 95), (0, ((c9 : Nat) : Int)), (0, s), (0, k), (0, 2 * s + 5 * k - naF w c9 10), (0, ((i : Nat) : Int))] [(0, aoV w c9)] w 142 Q9
              refine qG.blk 1 (pc' := 109) (ls' := [(2, 95), (0, ((c9 : Nat) : Int)), (0, s), (0, k), (0, 2 * s + 5 * k - naF w c9 10), (0, ((i : Nat) : Int))]) (st' := [(0, 20), (0, aoV w c9)]) (w' := w) (n' := 142) rfl ?_
              refine qG.br (P := aoV w c9 < 20) (pc1 := 112) (pc2 := 114) (st1 := []) rfl (fun h7 => ?_) (fun h7 => ?_)
              · skip
                refine qG.blk 1 (pc' := 113) (ls' := [(2, 95), (0, ((c9 : Nat) : Int)), (0, s), (0, k), (0, 2 * s + 5 * k - naF w c9 10), (0, ((i : Nat) : Int))]) (st' := [(0, 0)]) (w' := w) (n' := 142) rfl ?_
                refine qG.ret rfl rfl ?_
                subst hQ9
                exact congrArg (Prod.mk (0 : Nat)) (by first | exact (airV_n (by omega)).symm | (rw [airV_y (by omega) (by omega) (by omega)]; exact (by unfold aiV; first | (rw [if_pos hs0]; done) | (rw [if_neg hs0, if_pos (by omega)]; done) | (rw [if_neg hs0, if_neg (by omega), if_pos (by omega)]; done) | (rw [if_neg hs0, if_neg (by omega), if_neg (by omega)]; done))))
              · skip
                refine qG.blk 2 (pc' := 117) (ls' := [(2, 95), (0, ((c9 : Nat) : Int)), (0, s), (0, k), (0, 2 * s + 5 * k - naF w c9 10), (0, ((i : Nat) : Int))]) (st' := [(0, 1), (0, 2 * s + 5 * k - naF w c9 10)]) (w' := w) (n' := 142) rfl ?_
                refine qG.br (P := 2 * s + 5 * k - naF w c9 10 < 1) (pc1 := 120) (pc2 := 126) (st1 := []) rfl (fun h8 => ?_) (fun h8 => ?_)
                · skip
                  refine qG.blk 2 (pc' := 137) (ls' := [(2, 95), (0, ((c9 : Nat) : Int)), (0, s), (0, k), (0, 2 * s + 5 * k - naF w c9 10), (0, ((i : Nat) : Int))]) (st' := [(0, 9999)]) (w' := w) (n' := 142) rfl ?_
                  refine qG.ret rfl rfl ?_
                  subst hQ9
                  exact congrArg (Prod.mk (0 : Nat)) (by first | exact (airV_n (by omega)).symm | (rw [airV_y (by omega) (by omega) (by omega)]; exact (by unfold aiV; first | (rw [if_pos hs0]; done) | (rw [if_neg hs0, if_pos (by omega)]; done) | (rw [if_neg hs0, if_neg (by omega), if_pos (by omega)]; done) | (rw [if_neg hs0, if_neg (by omega), if_neg (by omega)]; done))))
                · skip
                  have htd := td_in (x := aoV w c9 - 20) (y := 2 * s + 5 * k - naF w c9 10) (by omega) (by omega)
                  refine qG.blk 2 (pc' := 128) (ls' := [(2, 95), (0, ((c9 : Nat) : Int)), (0, s), (0, k), (0, 2 * s + 5 * k - naF w c9 10), (0, ((i : Nat) : Int))]) (st' := [(0, ((c9 : Nat) : Int)), (2, 95)]) (w' := w) (n' := 142) rfl ?_
                  refine qG.call (t := 272) (na := 2) (sk := 1) (md := 1) (ls1 := [(2, 95), (0, ((c9 : Nat) : Int))]) (r1 := []) rfl rfl rfl rfl rfl (K_airOf (by omega) c9 (by omega) w hI) ?_
                  rintro _ w7 _ ⟨rfl, hw7, rfl⟩
                  rw [hw7]
                  show qG none (d + 1) 273 131 [(2, 95), (0, ((c9 : Nat) : Int)), (0, s), (0, k), (0, 2 * s + 5 * k - naF w c9 10), (0, ((i : Nat) : Int))] [(0, aoV w c9)] w 142 Q9
                  refine qG.blk 2 (pc' := 134) (ls' := [(2, 95), (0, ((c9 : Nat) : Int)), (0, s), (0, k), (0, 2 * s + 5 * k - naF w c9 10), (0, ((i : Nat) : Int))]) (st' := [(0, wrp ((aoV w c9) - 20))]) (w' := w) (n' := 142) rfl ?_
                  rw [show wrp ((aoV w c9) - 20) = (aoV w c9) - 20 from wrp_id (by omega) (by omega)]
                  refine qG.blk 1 (pc' := 136) (ls' := [(2, 95), (0, ((c9 : Nat) : Int)), (0, s), (0, k), (0, 2 * s + 5 * k - naF w c9 10), (0, ((i : Nat) : Int))]) (st' := [(0, 2 * s + 5 * k - naF w c9 10), (0, (aoV w c9) - 20)]) (w' := w) (n' := 142) rfl ?_
                  refine qG.gn (P := 2 * s + 5 * k - naF w c9 10 = 0) (pc' := 137) (ls' := [(2, 95), (0, ((c9 : Nat) : Int)), (0, s), (0, k), (0, 2 * s + 5 * k - naF w c9 10), (0, ((i : Nat) : Int))]) (st' := [(0, qdiv ((aoV w c9) - 20) (2 * s + 5 * k - naF w c9 10))]) (w' := w) (n' := 142) rfl (by omega) ?_
                  rw [show qdiv ((aoV w c9) - 20) (2 * s + 5 * k - naF w c9 10) = (aoV w c9 - 20).tdiv (2 * s + 5 * k - naF w c9 10) from by unfold qdiv; exact wrp_id (by omega) (by omega)]
                  refine qG.ret rfl rfl ?_
                  subst hQ9
                  exact congrArg (Prod.mk (0 : Nat)) (by first | exact (airV_n (by omega)).symm | (rw [airV_y (by omega) (by omega) (by omega)]; exact (by unfold aiV; first | (rw [if_pos hs0]; done) | (rw [if_neg hs0, if_pos (by omega)]; done) | (rw [if_neg hs0, if_neg (by omega), if_pos (by omega)]; done) | (rw [if_neg hs0, if_neg (by omega), if_neg (by omega)]; done))))
          exact L49 _ (0) (2 * s + 5 * k) rfl (⟨by omega, by show _ = _ - (0 : Int); omega⟩)
theorem K_X12_airQ {d : Nat} (hd : 2 ≤ d) (c s k : Int) (w : qW) (hI : yInv zgf zga zra zSp w) : qG none d 273 0 (qini 273 [(2, 95), (0, c), (0, s), (0, k)]) [] w 142 (fun (r : qV) (_ : qW) (_ : Nat) => r = (0, airV w c s k)) := K_X12_airQ0 hd c s k w hI
