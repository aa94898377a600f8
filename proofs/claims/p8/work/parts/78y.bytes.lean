/-! the tape's bytes, on both sides -/
theorem low8 {x : Int} {s : Nat} (hs : s ≤ 24) : qand (qshr x (s : Int)) 255 = qand (qush x (s : Int)) 255 := by
  unfold qand qshr qush
  rw [Int32.ofInt_toInt, Int32.ofInt_toInt]
  have a : ∀ i, i < 8 → (Int32.ofInt x >>> (Int32.ofInt (s : Int) &&& 31)).toBitVec.getLsbD i = (Int32.ofInt x).toBitVec.getLsbD (s + i) := fun i hi => by
    rw [Int32.toBitVec_shiftRight, BitVec.sshiftRight', shs32 s (by omega), BitVec.getLsbD_sshiftRight]
    simp [show s + i < 32 by omega, show i < 32 by omega]
  have b : ∀ i, i < 8 → ((Int32.ofInt x).toUInt32 >>> ((Int32.ofInt (s : Int)).toUInt32 &&& Int32.toUInt32 31)).toInt32.toBitVec.getLsbD i = (Int32.ofInt x).toBitVec.getLsbD (s + i) := fun i hi => by
    show ((Int32.ofInt x).toUInt32 >>> ((Int32.ofInt (s : Int)).toUInt32 &&& Int32.toUInt32 31)).toBitVec.getLsbD i = _
    rw [UInt32.toBitVec_shiftRight, BitVec.ushiftRight_eq', ush32 s (by omega), BitVec.getLsbD_ushiftRight]
    rfl
  generalize Int32.ofInt x >>> (Int32.ofInt (s : Int) &&& 31) = z1 at a ⊢
  generalize ((Int32.ofInt x).toUInt32 >>> ((Int32.ofInt (s : Int)).toUInt32 &&& Int32.toUInt32 31)).toInt32 = z2 at b ⊢
  show (z1 &&& Int32.ofInt 255).toBitVec.toInt = (z2 &&& Int32.ofInt 255).toBitVec.toInt
  refine congrArg BitVec.toInt ?_
  rw [Int32.toBitVec_and, Int32.toBitVec_and]
  apply BitVec.eq_of_getLsbD_eq
  intro i hi
  rw [BitVec.getLsbD_and, BitVec.getLsbD_and]
  by_cases h8 : i < 8
  · rw [a i h8, b i h8]
  · have c : (Int32.ofInt 255).toBitVec.getLsbD i = false := Nat.testBit_lt_two_pow (Nat.lt_of_lt_of_le (show (Int32.ofInt 255).toBitVec.toNat < 2 ^ 8 by decide) (Nat.pow_le_pow_right (by decide) (by omega)))
    rw [c, Bool.and_false, Bool.and_false]
theorem and255 (x : Int) : qand x 255 = x % 256 := by
  have h := qand_r (x := x) (b := 255) (by decide)
  have h : qand x 255 = (((x % 4294967296).toNat &&& 255 : Nat) : Int) := h
  rw [h, show (x % 4294967296).toNat &&& 255 = (x % 4294967296).toNat % 256 from Nat.and_two_pow_sub_one_eq_mod _ 8]
  omega
theorem byte_eq {x : Int} {s : Nat} (hs : s ≤ 24) : qand (qshr x (s : Int)) 255 = qi2b (qush x (s : Int)) % 256 := by
  rw [low8 hs, and255]
  unfold qi2b
  omega
noncomputable def apB (v : Int) (n : Nat) (w : qW) (r : qV) (w1 : qW) (n1 : Nat) : Prop := r = (0, ((n + 4 : Nat) : Int)) ∧ n1 = 142 ∧ w1 8 1 = ((n + 4 : Nat) : Int) ∧ (w1 9 n = qi2b (qush v ((24 : Nat) : Int)) ∧ w1 9 (n + 1) = qi2b (qush v ((16 : Nat) : Int)) ∧ w1 9 (n + 2) = qi2b (qush v ((8 : Nat) : Int)) ∧ w1 9 (n + 3) = qi2b (qush v ((0 : Nat) : Int))) ∧ ∀ q k, ¬ (q = 9 ∧ n ≤ k ∧ k < n + 4) → ¬ (q = 8 ∧ k = 1) → w1 q k = w q k
noncomputable def vF (a b c e f : Int) (i : Nat) : Int := if i < 4 then a else if i < 8 then b else if i < 12 then c else if i < 16 then e else f
theorem vF_a {a b c e f : Int} {i : Nat} (h : i < 4) : vF a b c e f i = a := if_pos h
theorem vF_b {a b c e f : Int} {i : Nat} (h : ¬ i < 4) (h2 : i < 8) : vF a b c e f i = b := by unfold vF; rw [if_neg h, if_pos h2]
theorem vF_c {a b c e f : Int} {i : Nat} (h : ¬ i < 8) (h2 : i < 12) : vF a b c e f i = c := by unfold vF; rw [if_neg (by omega), if_neg h, if_pos h2]
theorem vF_e {a b c e f : Int} {i : Nat} (h : ¬ i < 12) (h2 : i < 16) : vF a b c e f i = e := by unfold vF; rw [if_neg (by omega), if_neg (by omega), if_neg h, if_pos h2]
theorem vF_f {a b c e f : Int} {i : Nat} (h : ¬ i < 16) : vF a b c e f i = f := by unfold vF; rw [if_neg (by omega), if_neg (by omega), if_neg (by omega), if_neg h]
theorem K_appendB {d : Nat} (hd : 0 ≤ d) (v : Int) (n : Nat) (hb : n + 4 ≤ 600) (w : qW) (h80 : w 8 0 = 9) (hn : w 8 1 = (n : Int)) : qG none d 130 0 [(2, 8), (0, v), (9, 0)] [] w 142 (apB v n w) := by
  generalize hQ9 : (apB v n w) = Q9
  obtain ⟨N6, hN6⟩ : ∃ N : Int, N = 600 := ⟨_, rfl⟩
  refine qG.blk 3 (pc' := 4) (ls' := [(2, 8), (0, v), (0, 24)]) (st' := [(0, 24)]) (w' := w) (n' := 142) rfl ?_
  refine qG.br (P := (24 : Int) < 0) (pc1 := 46) (pc2 := 7) (st1 := []) rfl (fun h1 => ?_) (fun h1 => ?_)
  · exact absurd h1 (by decide)
  · skip
    refine qG.blk 2 (pc' := 11) (ls' := [(2, 8), (0, v), (0, 24)]) (st' := [(0, w 8 1)]) (w' := w) (n' := 142) rfl ?_
    rw [show w 8 1 = ((n : Nat) : Int) from hn]
    refine qG.blk 1 (pc' := 14) (ls' := [(2, 8), (0, v), (0, 24)]) (st' := [(0, 600), (0, ((n : Nat) : Int))]) (w' := w) (n' := 142) rfl ?_
    rw [show (600 : Int) = N6 from hN6.symm]
    refine qG.br (P := ((n : Nat) : Int) < N6) (pc1 := 17) (pc2 := 40) (st1 := []) rfl (fun h2 => ?_) (fun h2 => ?_)
    · skip
      refine qG.blk 2 (pc' := 21) (ls' := [(2, 8), (0, v), (0, 24)]) (st' := [(2, w 8 0)]) (w' := w) (n' := 142) rfl ?_
      rw [show w 8 0 = 9 from h80]
      refine qG.blk 2 (pc' := 25) (ls' := [(2, 8), (0, v), (0, 24)]) (st' := [(0, w 8 1), (2, 9)]) (w' := w) (n' := 142) rfl ?_
      rw [show w 8 1 = ((n : Nat) : Int) from hn]
      refine qG.blk 4 (pc' := 29) (ls' := [(2, 8), (0, v), (0, 24)]) (st' := [(0, qi2b (qush v 24)), (0, ((n : Nat) : Int)), (2, 9)]) (w' := w) (n' := 142) rfl ?_
      refine qG.cst (m := 600) rfl rfl (by have q9 := qi2b_in (qush v 24); have q8 := qi2b_in (qush v 16); have q7 := qi2b_in (qush v 8); have q6 := qi2b_in (qush v 0); exact ⟨⟨by omega, by omega⟩, by omega, by omega⟩) (by decide) ?_
      show qG none d 130 30 [(2, 8), (0, v), (0, 24)] [] (qup w 9 n (qi2b (qush v 24))) 142 Q9
      refine qG.blk 3 (pc' := 35) (ls' := [(2, 8), (0, v), (0, 24)]) (st' := [(0, w 8 1), (2, 8)]) (w' := (qup w 9 n (qi2b (qush v 24)))) (n' := 142) rfl ?_
      rw [show w 8 1 = ((n : Nat) : Int) from hn]
      refine qG.blk 2 (pc' := 37) (ls' := [(2, 8), (0, v), (0, 24)]) (st' := [(0, wrp (((n : Nat) : Int) + 1)), (2, 8)]) (w' := (qup w 9 n (qi2b (qush v 24)))) (n' := 142) rfl ?_
      rw [show wrp (((n : Nat) : Int) + 1) = ((n + 1 : Nat) : Int) from by rw [wrp_id (by omega) (by omega)]; omega]
      refine qG.blk 2 (pc' := 43) (ls' := [(2, 8), (0, v), (0, wrp (24 + (-8)))]) (st' := []) (w' := (qup (qup w 9 n (qi2b (qush v 24))) 8 1 ((n + 1 : Nat) : Int))) (n' := 142) rfl ?_
      rw [show wrp (24 + (-8)) = 16 from wrp_id (by omega) (by omega)]
      refine qG.blk 2 (pc' := 4) (ls' := [(2, 8), (0, v), (0, 16)]) (st' := [(0, 16)]) (w' := (qup (qup w 9 n (qi2b (qush v 24))) 8 1 ((n + 1 : Nat) : Int))) (n' := 142) rfl ?_
      refine qG.br (P := (16 : Int) < 0) (pc1 := 46) (pc2 := 7) (st1 := []) rfl (fun h3 => ?_) (fun h3 => ?_)
      · exact absurd h3 (by decide)
      · skip
        refine qG.blk 3 (pc' := 14) (ls' := [(2, 8), (0, v), (0, 16)]) (st' := [(0, 600), (0, ((n + 1 : Nat) : Int))]) (w' := (qup (qup w 9 n (qi2b (qush v 24))) 8 1 ((n + 1 : Nat) : Int))) (n' := 142) rfl ?_
        rw [show (600 : Int) = N6 from hN6.symm]
        refine qG.br (P := ((n + 1 : Nat) : Int) < N6) (pc1 := 17) (pc2 := 40) (st1 := []) rfl (fun h4 => ?_) (fun h4 => ?_)
        · skip
          refine qG.blk 2 (pc' := 21) (ls' := [(2, 8), (0, v), (0, 16)]) (st' := [(2, w 8 0)]) (w' := (qup (qup w 9 n (qi2b (qush v 24))) 8 1 ((n + 1 : Nat) : Int))) (n' := 142) rfl ?_
          rw [show w 8 0 = 9 from h80]
          refine qG.blk 6 (pc' := 29) (ls' := [(2, 8), (0, v), (0, 16)]) (st' := [(0, qi2b (qush v 16)), (0, ((n + 1 : Nat) : Int)), (2, 9)]) (w' := (qup (qup w 9 n (qi2b (qush v 24))) 8 1 ((n + 1 : Nat) : Int))) (n' := 142) rfl ?_
          refine qG.cst (m := 600) rfl rfl (by have q9 := qi2b_in (qush v 24); have q8 := qi2b_in (qush v 16); have q7 := qi2b_in (qush v 8); have q6 := qi2b_in (qush v 0); exact ⟨⟨by omega, by omega⟩, by omega, by omega⟩) (by decide) ?_
          show qG none d 130 30 [(2, 8), (0, v), (0, 16)] [] (qup (qup (qup w 9 n (qi2b (qush v 24))) 8 1 ((n + 1 : Nat) : Int)) 9 (n + 1) (qi2b (qush v 16))) 142 Q9
          refine qG.blk 5 (pc' := 37) (ls' := [(2, 8), (0, v), (0, 16)]) (st' := [(0, wrp (((n + 1 : Nat) : Int) + 1)), (2, 8)]) (w' := (qup (qup (qup w 9 n (qi2b (qush v 24))) 8 1 ((n + 1 : Nat) : Int)) 9 (n + 1) (qi2b (qush v 16)))) (n' := 142) rfl ?_
          rw [show wrp (((n + 1 : Nat) : Int) + 1) = ((n + 1 + 1 : Nat) : Int) from by rw [wrp_id (by omega) (by omega)]; omega]
          refine qG.blk 2 (pc' := 43) (ls' := [(2, 8), (0, v), (0, wrp (16 + (-8)))]) (st' := []) (w' := (qup (qup (qup (qup w 9 n (qi2b (qush v 24))) 8 1 ((n + 1 : Nat) : Int)) 9 (n + 1) (qi2b (qush v 16))) 8 1 ((n + 1 + 1 : Nat) : Int))) (n' := 142) rfl ?_
          rw [show wrp (16 + (-8)) = 8 from wrp_id (by omega) (by omega)]
          refine qG.blk 2 (pc' := 4) (ls' := [(2, 8), (0, v), (0, 8)]) (st' := [(0, 8)]) (w' := (qup (qup (qup (qup w 9 n (qi2b (qush v 24))) 8 1 ((n + 1 : Nat) : Int)) 9 (n + 1) (qi2b (qush v 16))) 8 1 ((n + 1 + 1 : Nat) : Int))) (n' := 142) rfl ?_
          refine qG.br (P := (8 : Int) < 0) (pc1 := 46) (pc2 := 7) (st1 := []) rfl (fun h5 => ?_) (fun h5 => ?_)
          · exact absurd h5 (by decide)
          · skip
            refine qG.blk 3 (pc' := 14) (ls' := [(2, 8), (0, v), (0, 8)]) (st' := [(0, 600), (0, ((n + 1 + 1 : Nat) : Int))]) (w' := (qup (qup (qup (qup w 9 n (qi2b (qush v 24))) 8 1 ((n + 1 : Nat) : Int)) 9 (n + 1) (qi2b (qush v 16))) 8 1 ((n + 1 + 1 : Nat) : Int))) (n' := 142) rfl ?_
            rw [show (600 : Int) = N6 from hN6.symm]
            refine qG.br (P := ((n + 1 + 1 : Nat) : Int) < N6) (pc1 := 17) (pc2 := 40) (st1 := []) rfl (fun h6 => ?_) (fun h6 => ?_)
            · skip
              refine qG.blk 2 (pc' := 21) (ls' := [(2, 8), (0, v), (0, 8)]) (st' := [(2, w 8 0)]) (w' := (qup (qup (qup (qup w 9 n (qi2b (qush v 24))) 8 1 ((n + 1 : Nat) : Int)) 9 (n + 1) (qi2b (qush v 16))) 8 1 ((n + 1 + 1 : Nat) : Int))) (n' := 142) rfl ?_
              rw [show w 8 0 = 9 from h80]
              refine qG.blk 6 (pc' := 29) (ls' := [(2, 8), (0, v), (0, 8)]) (st' := [(0, qi2b (qush v 8)), (0, ((n + 1 + 1 : Nat) : Int)), (2, 9)]) (w' := (qup (qup (qup (qup w 9 n (qi2b (qush v 24))) 8 1 ((n + 1 : Nat) : Int)) 9 (n + 1) (qi2b (qush v 16))) 8 1 ((n + 1 + 1 : Nat) : Int))) (n' := 142) rfl ?_
              refine qG.cst (m := 600) rfl rfl (by have q9 := qi2b_in (qush v 24); have q8 := qi2b_in (qush v 16); have q7 := qi2b_in (qush v 8); have q6 := qi2b_in (qush v 0); exact ⟨⟨by omega, by omega⟩, by omega, by omega⟩) (by decide) ?_
              show qG none d 130 30 [(2, 8), (0, v), (0, 8)] [] (qup (qup (qup (qup (qup w 9 n (qi2b (qush v 24))) 8 1 ((n + 1 : Nat) : Int)) 9 (n + 1) (qi2b (qush v 16))) 8 1 ((n + 1 + 1 : Nat) : Int)) 9 (n + 1 + 1) (qi2b (qush v 8))) 142 Q9
              refine qG.blk 5 (pc' := 37) (ls' := [(2, 8), (0, v), (0, 8)]) (st' := [(0, wrp (((n + 1 + 1 : Nat) : Int) + 1)), (2, 8)]) (w' := (qup (qup (qup (qup (qup w 9 n (qi2b (qush v 24))) 8 1 ((n + 1 : Nat) : Int)) 9 (n + 1) (qi2b (qush v 16))) 8 1 ((n + 1 + 1 : Nat) : Int)) 9 (n + 1 + 1) (qi2b (qush v 8)))) (n' := 142) rfl ?_
              rw [show wrp (((n + 1 + 1 : Nat) : Int) + 1) = ((n + 1 + 1 + 1 : Nat) : Int) from by rw [wrp_id (by omega) (by omega)]; omega]
              refine qG.blk 2 (pc' := 43) (ls' := [(2, 8), (0, v), (0, wrp (8 + (-8)))]) (st' := []) (w' := (qup (qup (qup (qup (qup (qup w 9 n (qi2b (qush v 24))) 8 1 ((n + 1 : Nat) : Int)) 9 (n + 1) (qi2b (qush v 16))) 8 1 ((n + 1 + 1 : Nat) : Int)) 9 (n + 1 + 1) (qi2b (qush v 8))) 8 1 ((n + 1 + 1 + 1 : Nat) : Int))) (n' := 142) rfl ?_
              rw [show wrp (8 + (-8)) = 0 from wrp_id (by omega) (by omega)]
              refine qG.blk 2 (pc' := 4) (ls' := [(2, 8), (0, v), (0, 0)]) (st' := [(0, 0)]) (w' := (qup (qup (qup (qup (qup (qup w 9 n (qi2b (qush v 24))) 8 1 ((n + 1 : Nat) : Int)) 9 (n + 1) (qi2b (qush v 16))) 8 1 ((n + 1 + 1 : Nat) : Int)) 9 (n + 1 + 1) (qi2b (qush v 8))) 8 1 ((n + 1 + 1 + 1 : Nat) : Int))) (n' := 142) rfl ?_
              refine qG.br (P := (0 : Int) < 0) (pc1 := 46) (pc2 := 7) (st1 := []) rfl (fun h7 => ?_) (fun h7 => ?_)
              · exact absurd h7 (by decide)
              · skip
                refine qG.blk 3 (pc' := 14) (ls' := [(2, 8), (0, v), (0, 0)]) (st' := [(0, 600), (0, ((n + 1 + 1 + 1 : Nat) : Int))]) (w' := (qup (qup (qup (qup (qup (qup w 9 n (qi2b (qush v 24))) 8 1 ((n + 1 : Nat) : Int)) 9 (n + 1) (qi2b (qush v 16))) 8 1 ((n + 1 + 1 : Nat) : Int)) 9 (n + 1 + 1) (qi2b (qush v 8))) 8 1 ((n + 1 + 1 + 1 : Nat) : Int))) (n' := 142) rfl ?_
                rw [show (600 : Int) = N6 from hN6.symm]
                refine qG.br (P := ((n + 1 + 1 + 1 : Nat) : Int) < N6) (pc1 := 17) (pc2 := 40) (st1 := []) rfl (fun h8 => ?_) (fun h8 => ?_)
                · skip
                  refine qG.blk 2 (pc' := 21) (ls' := [(2, 8), (0, v), (0, 0)]) (st' := [(2, w 8 0)]) (w' := (qup (qup (qup (qup (qup (qup w 9 n (qi2b (qush v 24))) 8 1 ((n + 1 : Nat) : Int)) 9 (n + 1) (qi2b (qush v 16))) 8 1 ((n + 1 + 1 : Nat) : Int)) 9 (n + 1 + 1) (qi2b (qush v 8))) 8 1 ((n + 1 + 1 + 1 : Nat) : Int))) (n' := 142) rfl ?_
                  rw [show w 8 0 = 9 from h80]
                  refine qG.blk 6 (pc' := 29) (ls' := [(2, 8), (0, v), (0, 0)]) (st' := [(0, qi2b (qush v 0)), (0, ((n + 1 + 1 + 1 : Nat) : Int)), (2, 9)]) (w' := (qup (qup (qup (qup (qup (qup w 9 n (qi2b (qush v 24))) 8 1 ((n + 1 : Nat) : Int)) 9 (n + 1) (qi2b (qush v 16))) 8 1 ((n + 1 + 1 : Nat) : Int)) 9 (n + 1 + 1) (qi2b (qush v 8))) 8 1 ((n + 1 + 1 + 1 : Nat) : Int))) (n' := 142) rfl ?_
                  refine qG.cst (m := 600) rfl rfl (by have q9 := qi2b_in (qush v 24); have q8 := qi2b_in (qush v 16); have q7 := qi2b_in (qush v 8); have q6 := qi2b_in (qush v 0); exact ⟨⟨by omega, by omega⟩, by omega, by omega⟩) (by decide) ?_
                  show qG none d 130 30 [(2, 8), (0, v), (0, 0)] [] (qup (qup (qup (qup (qup (qup (qup w 9 n (qi2b (qush v 24))) 8 1 ((n + 1 : Nat) : Int)) 9 (n + 1) (qi2b (qush v 16))) 8 1 ((n + 1 + 1 : Nat) : Int)) 9 (n + 1 + 1) (qi2b (qush v 8))) 8 1 ((n + 1 + 1 + 1 : Nat) : Int)) 9 (n + 1 + 1 + 1) (qi2b (qush v 0))) 142 Q9
                  refine qG.blk 5 (pc' := 37) (ls' := [(2, 8), (0, v), (0, 0)]) (st' := [(0, wrp (((n + 1 + 1 + 1 : Nat) : Int) + 1)), (2, 8)]) (w' := (qup (qup (qup (qup (qup (qup (qup w 9 n (qi2b (qush v 24))) 8 1 ((n + 1 : Nat) : Int)) 9 (n + 1) (qi2b (qush v 16))) 8 1 ((n + 1 + 1 : Nat) : Int)) 9 (n + 1 + 1) (qi2b (qush v 8))) 8 1 ((n + 1 + 1 + 1 : Nat) : Int)) 9 (n + 1 + 1 + 1) (qi2b (qush v 0)))) (n' := 142) rfl ?_
                  rw [show wrp (((n + 1 + 1 + 1 : Nat) : Int) + 1) = ((n + 1 + 1 + 1 + 1 : Nat) : Int) from by rw [wrp_id (by omega) (by omega)]; omega]
                  refine qG.blk 2 (pc' := 43) (ls' := [(2, 8), (0, v), (0, wrp (0 + (-8)))]) (st' := []) (w' := (qup (qup (qup (qup (qup (qup (qup (qup w 9 n (qi2b (qush v 24))) 8 1 ((n + 1 : Nat) : Int)) 9 (n + 1) (qi2b (qush v 16))) 8 1 ((n + 1 + 1 : Nat) : Int)) 9 (n + 1 + 1) (qi2b (qush v 8))) 8 1 ((n + 1 + 1 + 1 : Nat) : Int)) 9 (n + 1 + 1 + 1) (qi2b (qush v 0))) 8 1 ((n + 1 + 1 + 1 + 1 : Nat) : Int))) (n' := 142) rfl ?_
                  rw [show wrp (0 + (-8)) = (-8) from wrp_id (by omega) (by omega)]
                  refine qG.blk 2 (pc' := 4) (ls' := [(2, 8), (0, v), (0, (-8))]) (st' := [(0, (-8))]) (w' := (qup (qup (qup (qup (qup (qup (qup (qup w 9 n (qi2b (qush v 24))) 8 1 ((n + 1 : Nat) : Int)) 9 (n + 1) (qi2b (qush v 16))) 8 1 ((n + 1 + 1 : Nat) : Int)) 9 (n + 1 + 1) (qi2b (qush v 8))) 8 1 ((n + 1 + 1 + 1 : Nat) : Int)) 9 (n + 1 + 1 + 1) (qi2b (qush v 0))) 8 1 ((n + 1 + 1 + 1 + 1 : Nat) : Int))) (n' := 142) rfl ?_
                  refine qG.br (P := ((-8) : Int) < 0) (pc1 := 46) (pc2 := 7) (st1 := []) rfl (fun h9 => ?_) (fun h9 => ?_)
                  · skip
                    refine qG.blk 2 (pc' := 50) (ls' := [(2, 8), (0, v), (0, (-8))]) (st' := [(0, ((n + 1 + 1 + 1 + 1 : Nat) : Int))]) (w' := (qup (qup (qup (qup (qup (qup (qup (qup w 9 n (qi2b (qush v 24))) 8 1 ((n + 1 : Nat) : Int)) 9 (n + 1) (qi2b (qush v 16))) 8 1 ((n + 1 + 1 : Nat) : Int)) 9 (n + 1 + 1) (qi2b (qush v 8))) 8 1 ((n + 1 + 1 + 1 : Nat) : Int)) 9 (n + 1 + 1 + 1) (qi2b (qush v 0))) 8 1 ((n + 1 + 1 + 1 + 1 : Nat) : Int))) (n' := 142) rfl ?_
                    refine qG.ret rfl rfl ?_
                    subst hQ9
                    exact ⟨rfl, rfl, (by simp (disch := omega) only [qup_ne, qup_k]), ⟨(by simp (disch := omega) only [qup_ne, qup_k, qup_j] <;> rfl), (by simp (disch := omega) only [qup_ne, qup_k, qup_j] <;> rfl), (by simp (disch := omega) only [qup_ne, qup_k, qup_j] <;> rfl), (by simp (disch := omega) only [qup_ne, qup_k, qup_j] <;> rfl)⟩, fun q k h9 h8 => by rw [qup_f h8, qup_f (by omega), qup_f h8, qup_f (by omega), qup_f h8, qup_f (by omega), qup_f h8, qup_f (by omega)]⟩
                  · exact absurd h9 (by decide)
                · exfalso; omega
            · exfalso; omega
        · exfalso; omega
    · exfalso; omega
noncomputable def fbX (a b c e f : Int) (n : Nat) (w : qW) (r : qV) (w1 : qW) : Prop := (¬ n + 20 ≤ 600 ∧ r = (0, -1) ∧ w1 = w) ∨ (n + 20 ≤ 600 ∧ r = (0, ((n + 20 : Nat) : Int)) ∧ w1 8 1 = ((n + 20 : Nat) : Int) ∧ (∀ i, i < 20 → w1 9 (n + i) = qi2b (qush (vF a b c e f i) ((24 - 8 * (i % 4) : Nat) : Int))) ∧ ∀ q k, ¬ (q = 9 ∧ n ≤ k ∧ k < n + 20) → ¬ (q = 8 ∧ k = 1) → w1 q k = w q k)
noncomputable def fbR (a b c e f : Int) (n : Nat) (w : qW) (r : qV) (w1 : qW) : Prop := (¬ n + 20 ≤ 600 ∧ r = (0, -1) ∧ w1 = w) ∨ (n + 20 ≤ 600 ∧ r = (0, ((n + 20 : Nat) : Int)) ∧ w1 95 25 = ((n + 20 : Nat) : Int) ∧ (∀ i, i < 20 → w1 114 (n + i) = qand (qshr (vF a b c e f i) ((24 - 8 * (i % 4) : Nat) : Int)) 255) ∧ ∀ q k, ¬ (q = 114 ∧ n ≤ k ∧ k < n + 20) → ¬ (q = 95 ∧ k = 25) → w1 q k = w q k)
theorem fb20 {a b c e f : Int} {n : Nat} {w1a w2a w3a w4a w5a : qW} (hb_1 : w1a 9 n = qi2b (qush a ((24 : Nat) : Int)) ∧ w1a 9 (n + 1) = qi2b (qush a ((16 : Nat) : Int)) ∧ w1a 9 (n + 2) = qi2b (qush a ((8 : Nat) : Int)) ∧ w1a 9 (n + 3) = qi2b (qush a ((0 : Nat) : Int))) (hb_2 : w2a 9 (n + 4) = qi2b (qush b ((24 : Nat) : Int)) ∧ w2a 9 ((n + 4) + 1) = qi2b (qush b ((16 : Nat) : Int)) ∧ w2a 9 ((n + 4) + 2) = qi2b (qush b ((8 : Nat) : Int)) ∧ w2a 9 ((n + 4) + 3) = qi2b (qush b ((0 : Nat) : Int))) (hb_3 : w3a 9 (n + 8) = qi2b (qush c ((24 : Nat) : Int)) ∧ w3a 9 ((n + 8) + 1) = qi2b (qush c ((16 : Nat) : Int)) ∧ w3a 9 ((n + 8) + 2) = qi2b (qush c ((8 : Nat) : Int)) ∧ w3a 9 ((n + 8) + 3) = qi2b (qush c ((0 : Nat) : Int))) (hb_4 : w4a 9 (n + 12) = qi2b (qush e ((24 : Nat) : Int)) ∧ w4a 9 ((n + 12) + 1) = qi2b (qush e ((16 : Nat) : Int)) ∧ w4a 9 ((n + 12) + 2) = qi2b (qush e ((8 : Nat) : Int)) ∧ w4a 9 ((n + 12) + 3) = qi2b (qush e ((0 : Nat) : Int))) (hb_5 : w5a 9 (n + 16) = qi2b (qush f ((24 : Nat) : Int)) ∧ w5a 9 ((n + 16) + 1) = qi2b (qush f ((16 : Nat) : Int)) ∧ w5a 9 ((n + 16) + 2) = qi2b (qush f ((8 : Nat) : Int)) ∧ w5a 9 ((n + 16) + 3) = qi2b (qush f ((0 : Nat) : Int))) (hf_2 : ∀ q k, ¬ (q = 9 ∧ n + 4 ≤ k ∧ k < n + 4 + 4) → ¬ (q = 8 ∧ k = 1) → w2a q k = w1a q k) (hf_3 : ∀ q k, ¬ (q = 9 ∧ n + 8 ≤ k ∧ k < n + 8 + 4) → ¬ (q = 8 ∧ k = 1) → w3a q k = w2a q k) (hf_4 : ∀ q k, ¬ (q = 9 ∧ n + 12 ≤ k ∧ k < n + 12 + 4) → ¬ (q = 8 ∧ k = 1) → w4a q k = w3a q k) (hf_5 : ∀ q k, ¬ (q = 9 ∧ n + 16 ≤ k ∧ k < n + 16 + 4) → ¬ (q = 8 ∧ k = 1) → w5a q k = w4a q k) : ∀ i, i < 20 → w5a 9 (n + i) = qi2b (qush (vF a b c e f i) ((24 - 8 * (i % 4) : Nat) : Int)) := by
  intro i hi
  match i, hi with
  | 0, _ => rw [vF_a (by omega)]; exact (hf_5 9 (n + 0) (by omega) (by omega)).trans <| (hf_4 9 (n + 0) (by omega) (by omega)).trans <| (hf_3 9 (n + 0) (by omega) (by omega)).trans <| (hf_2 9 (n + 0) (by omega) (by omega)).trans <| (show w1a 9 (n + 0) = _ from hb_1.1)
  | 1, _ => rw [vF_a (by omega)]; exact (hf_5 9 (n + 1) (by omega) (by omega)).trans <| (hf_4 9 (n + 1) (by omega) (by omega)).trans <| (hf_3 9 (n + 1) (by omega) (by omega)).trans <| (hf_2 9 (n + 1) (by omega) (by omega)).trans <| (show w1a 9 (n + 1) = _ from hb_1.2.1)
  | 2, _ => rw [vF_a (by omega)]; exact (hf_5 9 (n + 2) (by omega) (by omega)).trans <| (hf_4 9 (n + 2) (by omega) (by omega)).trans <| (hf_3 9 (n + 2) (by omega) (by omega)).trans <| (hf_2 9 (n + 2) (by omega) (by omega)).trans <| (show w1a 9 (n + 2) = _ from hb_1.2.2.1)
  | 3, _ => rw [vF_a (by omega)]; exact (hf_5 9 (n + 3) (by omega) (by omega)).trans <| (hf_4 9 (n + 3) (by omega) (by omega)).trans <| (hf_3 9 (n + 3) (by omega) (by omega)).trans <| (hf_2 9 (n + 3) (by omega) (by omega)).trans <| (show w1a 9 (n + 3) = _ from hb_1.2.2.2)
  | 4, _ => rw [vF_b (by omega) (by omega)]; exact (hf_5 9 (n + 4) (by omega) (by omega)).trans <| (hf_4 9 (n + 4) (by omega) (by omega)).trans <| (hf_3 9 (n + 4) (by omega) (by omega)).trans <| (show w2a 9 (n + 4) = _ from hb_2.1)
  | 5, _ => rw [vF_b (by omega) (by omega)]; exact (hf_5 9 (n + 5) (by omega) (by omega)).trans <| (hf_4 9 (n + 5) (by omega) (by omega)).trans <| (hf_3 9 (n + 5) (by omega) (by omega)).trans <| (show w2a 9 (n + 5) = _ from hb_2.2.1)
  | 6, _ => rw [vF_b (by omega) (by omega)]; exact (hf_5 9 (n + 6) (by omega) (by omega)).trans <| (hf_4 9 (n + 6) (by omega) (by omega)).trans <| (hf_3 9 (n + 6) (by omega) (by omega)).trans <| (show w2a 9 (n + 6) = _ from hb_2.2.2.1)
  | 7, _ => rw [vF_b (by omega) (by omega)]; exact (hf_5 9 (n + 7) (by omega) (by omega)).trans <| (hf_4 9 (n + 7) (by omega) (by omega)).trans <| (hf_3 9 (n + 7) (by omega) (by omega)).trans <| (show w2a 9 (n + 7) = _ from hb_2.2.2.2)
  | 8, _ => rw [vF_c (by omega) (by omega)]; exact (hf_5 9 (n + 8) (by omega) (by omega)).trans <| (hf_4 9 (n + 8) (by omega) (by omega)).trans <| (show w3a 9 (n + 8) = _ from hb_3.1)
  | 9, _ => rw [vF_c (by omega) (by omega)]; exact (hf_5 9 (n + 9) (by omega) (by omega)).trans <| (hf_4 9 (n + 9) (by omega) (by omega)).trans <| (show w3a 9 (n + 9) = _ from hb_3.2.1)
  | 10, _ => rw [vF_c (by omega) (by omega)]; exact (hf_5 9 (n + 10) (by omega) (by omega)).trans <| (hf_4 9 (n + 10) (by omega) (by omega)).trans <| (show w3a 9 (n + 10) = _ from hb_3.2.2.1)
  | 11, _ => rw [vF_c (by omega) (by omega)]; exact (hf_5 9 (n + 11) (by omega) (by omega)).trans <| (hf_4 9 (n + 11) (by omega) (by omega)).trans <| (show w3a 9 (n + 11) = _ from hb_3.2.2.2)
  | 12, _ => rw [vF_e (by omega) (by omega)]; exact (hf_5 9 (n + 12) (by omega) (by omega)).trans <| (show w4a 9 (n + 12) = _ from hb_4.1)
  | 13, _ => rw [vF_e (by omega) (by omega)]; exact (hf_5 9 (n + 13) (by omega) (by omega)).trans <| (show w4a 9 (n + 13) = _ from hb_4.2.1)
  | 14, _ => rw [vF_e (by omega) (by omega)]; exact (hf_5 9 (n + 14) (by omega) (by omega)).trans <| (show w4a 9 (n + 14) = _ from hb_4.2.2.1)
  | 15, _ => rw [vF_e (by omega) (by omega)]; exact (hf_5 9 (n + 15) (by omega) (by omega)).trans <| (show w4a 9 (n + 15) = _ from hb_4.2.2.2)
  | 16, _ => rw [vF_f (by omega)]; exact  (show w5a 9 (n + 16) = _ from hb_5.1)
  | 17, _ => rw [vF_f (by omega)]; exact  (show w5a 9 (n + 17) = _ from hb_5.2.1)
  | 18, _ => rw [vF_f (by omega)]; exact  (show w5a 9 (n + 18) = _ from hb_5.2.2.1)
  | 19, _ => rw [vF_f (by omega)]; exact  (show w5a 9 (n + 19) = _ from hb_5.2.2.2)
  | i + 20, hi => exact absurd hi (by omega)
theorem K_X11_feedB {d : Nat} (hd : 1 ≤ d) (a b c e f : Int) (n : Nat) (hn9 : n ≤ 600) (w : qW) (hI : yInv zgf zga zra zSp w) (hn : w 8 1 = (n : Int)) : qG none d 167 0 [(2, 1), (0, a), (0, b), (0, c), (0, e), (0, f)] [] w 142 (fun (r : qV) (w1 : qW) (_ : Nat) => fbX a b c e f n w r w1) := by
  generalize hQ9 : (fun (r : qV) (w1 : qW) (_ : Nat) => fbX a b c e f n w r w1) = Q9
  obtain ⟨d, rfl⟩ : ∃ d9, d = d9 + 1 := ⟨d - 1, by omega⟩
  refine qG.blk 2 (pc' := 4) (ls' := [(2, 1), (0, a), (0, b), (0, c), (0, e), (0, f)]) (st' := [(2, w 1 3)]) (w' := w) (n' := 142) rfl ?_
  rw [show w 1 3 = 8 from zref hI rfl rfl]
  refine qG.blk 1 (pc' := 6) (ls' := [(2, 1), (0, a), (0, b), (0, c), (0, e), (0, f)]) (st' := [(0, 20), (2, 8)]) (w' := w) (n' := 142) rfl ?_
  refine qG.call (t := 129) (na := 2) (sk := 1) (md := 1) (ls1 := [(2, 8), (0, 20)]) (r1 := []) rfl rfl rfl rfl rfl (K_hasRoom (Nat.zero_le _) n hn9 w hn) ?_
  rintro _ w7 _ ⟨rfl, hw7, rfl⟩
  rw [hw7]
  show qG none (d + 1) 167 9 [(2, 1), (0, a), (0, b), (0, c), (0, e), (0, f)] [(0, (if n + 20 ≤ 600 then 1 else 0))] w 142 Q9
  refine qG.br (P := (if n + 20 ≤ 600 then 1 else 0) = 0) (pc1 := 12) (pc2 := 14) (st1 := []) rfl (fun hr => ?_) (fun hr => ?_)
  · skip
    have hr : ¬ n + 20 ≤ 600 := ite01.mp hr
    refine qG.blk 1 (pc' := 13) (ls' := [(2, 1), (0, a), (0, b), (0, c), (0, e), (0, f)]) (st' := [(0, (-1))]) (w' := w) (n' := 142) rfl ?_
    refine qG.ret rfl rfl ?_
    subst hQ9
    first | exact .inl ⟨hr, rfl, rfl⟩ | exact .inr ⟨hr, rfl, hn_5, fb20 hb_1 hb_2 hb_3 hb_4 hb_5 hf_2 hf_3 hf_4 hf_5, fun q k h9 h8 => (hf_5 q k (by omega) h8).trans ((hf_4 q k (by omega) h8).trans ((hf_3 q k (by omega) h8).trans ((hf_2 q k (by omega) h8).trans (hf_1 q k (by omega) h8))))⟩
  · skip
    have hr : n + 20 ≤ 600 := Decidable.of_not_not (fun z => hr (ite01.mpr z))
    refine qG.blk 2 (pc' := 18) (ls' := [(2, 1), (0, a), (0, b), (0, c), (0, e), (0, f)]) (st' := [(2, w 1 3)]) (w' := w) (n' := 142) rfl ?_
    rw [show w 1 3 = 8 from zref hI rfl rfl]
    refine qG.blk 1 (pc' := 19) (ls' := [(2, 1), (0, a), (0, b), (0, c), (0, e), (0, f)]) (st' := [(0, a), (2, 8)]) (w' := w) (n' := 142) rfl ?_
    have h80_0 : w 8 0 = 9 := zref hI rfl rfl
    have h13_0 : w 1 3 = 8 := zref hI rfl rfl
    have hn_0 := hn
    refine qG.call (t := 130) (na := 2) (sk := 1) (md := 1) (ls1 := [(2, 8), (0, a), (9, 0)]) (r1 := []) rfl rfl rfl rfl rfl (K_appendB (Nat.zero_le _) a n (by omega) w h80_0 hn_0) ?_
    rintro _ w1a _ ⟨rfl, rfl, hn_1, hb_1, hf_1⟩
    have h80_1 : w1a 8 0 = 9 := (hf_1 8 0 (by omega) (by omega)).trans h80_0
    have h13_1 : w1a 1 3 = 8 := (hf_1 1 3 (by omega) (by omega)).trans h13_0
    show qG none (d + 1) 167 22 [(2, 1), (0, a), (0, b), (0, c), (0, e), (0, f)] [(0, ((n + 4 : Nat) : Int))] w1a 142 Q9
    refine qG.blk 3 (pc' := 27) (ls' := [(2, 1), (0, a), (0, b), (0, c), (0, e), (0, f)]) (st' := [(2, w1a 1 3)]) (w' := w1a) (n' := 142) rfl ?_
    rw [show w1a 1 3 = 8 from h13_1]
    refine qG.blk 1 (pc' := 28) (ls' := [(2, 1), (0, a), (0, b), (0, c), (0, e), (0, f)]) (st' := [(0, b), (2, 8)]) (w' := w1a) (n' := 142) rfl ?_
    refine qG.call (t := 130) (na := 2) (sk := 1) (md := 1) (ls1 := [(2, 8), (0, b), (9, 0)]) (r1 := []) rfl rfl rfl rfl rfl (K_appendB (Nat.zero_le _) b (n + 4) (by omega) w1a h80_1 hn_1) ?_
    rintro _ w2a _ ⟨rfl, rfl, hn_2, hb_2, hf_2⟩
    rw [show n + 4 + 4 = n + 8 from rfl] at hn_2
    have h80_2 : w2a 8 0 = 9 := (hf_2 8 0 (by omega) (by omega)).trans h80_1
    have h13_2 : w2a 1 3 = 8 := (hf_2 1 3 (by omega) (by omega)).trans h13_1
    show qG none (d + 1) 167 31 [(2, 1), (0, a), (0, b), (0, c), (0, e), (0, f)] [(0, ((n + 8 : Nat) : Int))] w2a 142 Q9
    refine qG.blk 3 (pc' := 36) (ls' := [(2, 1), (0, a), (0, b), (0, c), (0, e), (0, f)]) (st' := [(2, w2a 1 3)]) (w' := w2a) (n' := 142) rfl ?_
    rw [show w2a 1 3 = 8 from h13_2]
    refine qG.blk 1 (pc' := 37) (ls' := [(2, 1), (0, a), (0, b), (0, c), (0, e), (0, f)]) (st' := [(0, c), (2, 8)]) (w' := w2a) (n' := 142) rfl ?_
    refine qG.call (t := 130) (na := 2) (sk := 1) (md := 1) (ls1 := [(2, 8), (0, c), (9, 0)]) (r1 := []) rfl rfl rfl rfl rfl (K_appendB (Nat.zero_le _) c (n + 8) (by omega) w2a h80_2 hn_2) ?_
    rintro _ w3a _ ⟨rfl, rfl, hn_3, hb_3, hf_3⟩
    rw [show n + 8 + 4 = n + 12 from rfl] at hn_3
    have h80_3 : w3a 8 0 = 9 := (hf_3 8 0 (by omega) (by omega)).trans h80_2
    have h13_3 : w3a 1 3 = 8 := (hf_3 1 3 (by omega) (by omega)).trans h13_2
    show qG none (d + 1) 167 40 [(2, 1), (0, a), (0, b), (0, c), (0, e), (0, f)] [(0, ((n + 12 : Nat) : Int))] w3a 142 Q9
    refine qG.blk 3 (pc' := 45) (ls' := [(2, 1), (0, a), (0, b), (0, c), (0, e), (0, f)]) (st' := [(2, w3a 1 3)]) (w' := w3a) (n' := 142) rfl ?_
    rw [show w3a 1 3 = 8 from h13_3]
    refine qG.blk 1 (pc' := 47) (ls' := [(2, 1), (0, a), (0, b), (0, c), (0, e), (0, f)]) (st' := [(0, e), (2, 8)]) (w' := w3a) (n' := 142) rfl ?_
    refine qG.call (t := 130) (na := 2) (sk := 1) (md := 1) (ls1 := [(2, 8), (0, e), (9, 0)]) (r1 := []) rfl rfl rfl rfl rfl (K_appendB (Nat.zero_le _) e (n + 12) (by omega) w3a h80_3 hn_3) ?_
    rintro _ w4a _ ⟨rfl, rfl, hn_4, hb_4, hf_4⟩
    rw [show n + 12 + 4 = n + 16 from rfl] at hn_4
    have h80_4 : w4a 8 0 = 9 := (hf_4 8 0 (by omega) (by omega)).trans h80_3
    have h13_4 : w4a 1 3 = 8 := (hf_4 1 3 (by omega) (by omega)).trans h13_3
    show qG none (d + 1) 167 50 [(2, 1), (0, a), (0, b), (0, c), (0, e), (0, f)] [(0, ((n + 16 : Nat) : Int))] w4a 142 Q9
    refine qG.blk 3 (pc' := 55) (ls' := [(2, 1), (0, a), (0, b), (0, c), (0, e), (0, f)]) (st' := [(2, w4a 1 3)]) (w' := w4a) (n' := 142) rfl ?_
    rw [show w4a 1 3 = 8 from h13_4]
    refine qG.blk 1 (pc' := 57) (ls' := [(2, 1), (0, a), (0, b), (0, c), (0, e), (0, f)]) (st' := [(0, f), (2, 8)]) (w' := w4a) (n' := 142) rfl ?_
    refine qG.call (t := 130) (na := 2) (sk := 1) (md := 1) (ls1 := [(2, 8), (0, f), (9, 0)]) (r1 := []) rfl rfl rfl rfl rfl (K_appendB (Nat.zero_le _) f (n + 16) (by omega) w4a h80_4 hn_4) ?_
    rintro _ w5a _ ⟨rfl, rfl, hn_5, hb_5, hf_5⟩
    rw [show n + 16 + 4 = n + 20 from rfl] at hn_5
    have h80_5 : w5a 8 0 = 9 := (hf_5 8 0 (by omega) (by omega)).trans h80_4
    have h13_5 : w5a 1 3 = 8 := (hf_5 1 3 (by omega) (by omega)).trans h13_4
    show qG none (d + 1) 167 60 [(2, 1), (0, a), (0, b), (0, c), (0, e), (0, f)] [(0, ((n + 20 : Nat) : Int))] w5a 142 Q9
    refine qG.ret rfl rfl ?_
    subst hQ9
    first | exact .inl ⟨hr, rfl, rfl⟩ | exact .inr ⟨hr, rfl, hn_5, fb20 hb_1 hb_2 hb_3 hb_4 hb_5 hf_2 hf_3 hf_4 hf_5, fun q k h9 h8 => (hf_5 q k (by omega) h8).trans ((hf_4 q k (by omega) h8).trans ((hf_3 q k (by omega) h8).trans ((hf_2 q k (by omega) h8).trans (hf_1 q k (by omega) h8))))⟩
theorem K_X12_feedB {d : Nat} (hd : 0 ≤ d) (a b c e f : Int) (n : Nat) (hn9 : n ≤ 600) (w : qW) (hI : yInv zgf zga zra zSp w) (hn : w 95 25 = (n : Int)) : qG none d 222 0 [(2, 95), (0, a), (0, b), (0, c), (0, e), (0, f), (9, 0), (9, 0)] [] w 142 (fun (r : qV) (w1 : qW) (_ : Nat) => fbR a b c e f n w r w1) := by
  generalize hQ9 : (fun (r : qV) (w1 : qW) (_ : Nat) => fbR a b c e f n w r w1) = Q9
  refine qG.blk 2 (pc' := 4) (ls' := [(2, 95), (0, a), (0, b), (0, c), (0, e), (0, f), (9, 0), (9, 0)]) (st' := [(0, w 95 25)]) (w' := w) (n' := 142) rfl ?_
  rw [show w 95 25 = ((n : Nat) : Int) from hn]
  refine qG.blk 2 (pc' := 7) (ls' := [(2, 95), (0, a), (0, b), (0, c), (0, e), (0, f), (9, 0), (9, 0)]) (st' := [(0, wrp (((n : Nat) : Int) + 20))]) (w' := w) (n' := 142) rfl ?_
  rw [show wrp (((n : Nat) : Int) + 20) = ((n + 20 : Nat) : Int) from by rw [wrp_id (by omega) (by omega)]; omega]
  refine qG.blk 1 (pc' := 10) (ls' := [(2, 95), (0, a), (0, b), (0, c), (0, e), (0, f), (9, 0), (9, 0)]) (st' := [(0, 600), (0, ((n + 20 : Nat) : Int))]) (w' := w) (n' := 142) rfl ?_
  refine qG.br (P := 600 < ((n + 20 : Nat) : Int)) (pc1 := 13) (pc2 := 15) (st1 := []) rfl (fun hr => ?_) (fun hr => ?_)
  · skip
    refine qG.blk 1 (pc' := 14) (ls' := [(2, 95), (0, a), (0, b), (0, c), (0, e), (0, f), (9, 0), (9, 0)]) (st' := [(0, (-1))]) (w' := w) (n' := 142) rfl ?_
    refine qG.ret rfl rfl ?_
    subst hQ9
    first | exact .inl ⟨by omega, rfl, rfl⟩ | exact .inr ⟨by omega, congrArg (Prod.mk (0 : Nat)) (by omega), hI18.2.1.trans (by omega), (fun j hj => hI18.2.2.1 j (by omega)), hI18.2.2.2⟩
  · skip
    refine qG.blk 2 (pc' := 18) (ls' := [(2, 95), (0, a), (0, b), (0, c), (0, e), (0, f), (0, 0), (9, 0)]) (st' := []) (w' := w) (n' := 142) rfl ?_
    have L18 : ∀ (m9 : Nat) (i : Nat) (w9 : qW) (q7 : qV), 20 - i = m9 → (i ≤ 20 ∧ w9 95 25 = ((n + i : Nat) : Int) ∧ (∀ j, j < i → w9 114 (n + j) = qand (qshr (vF a b c e f j) ((24 - 8 * (j % 4) : Nat) : Int)) 255) ∧ ∀ q k, ¬ (q = 114 ∧ n ≤ k ∧ k < n + 20) → ¬ (q = 95 ∧ k = 25) → w9 q k = w q k) → qG none d 222 18 [(2, 95), (0, a), (0, b), (0, c), (0, e), (0, f), (0, ((i : Nat) : Int)), q7] [] w9 142 Q9 := by
      intro m9
      induction m9 using Nat.strongRecOn with
      | ind m9 ih18 =>
      intro i w9 q7 hm18 hI18
      refine qG.blk 2 (pc' := 22) (ls' := [(2, 95), (0, a), (0, b), (0, c), (0, e), (0, f), (0, ((i : Nat) : Int)), q7]) (st' := [(0, 20), (0, ((i : Nat) : Int))]) (w' := w9) (n' := 142) rfl ?_
      refine qG.br (P := ((i : Nat) : Int) < 20) (pc1 := 25) (pc2 := 115) (st1 := []) rfl (fun h1 => ?_) (fun h1 => ?_)
      · skip
        refine qG.blk 2 (pc' := 28) (ls' := [(2, 95), (0, a), (0, b), (0, c), (0, e), (0, f), (0, ((i : Nat) : Int)), q7]) (st' := [(0, 4), (0, ((i : Nat) : Int))]) (w' := w9) (n' := 142) rfl ?_
        refine qG.br (P := ((i : Nat) : Int) < 4) (pc1 := 31) (pc2 := 35) (st1 := []) rfl (fun h2 => ?_) (fun h2 => ?_)
        · skip
          refine qG.blk 5 (pc' := 77) (ls' := [(2, 95), (0, a), (0, b), (0, c), (0, e), (0, f), (0, ((i : Nat) : Int)), (0, a)]) (st' := [(2, w9 95 20)]) (w' := w9) (n' := 142) rfl ?_
          rw [show w9 95 20 = 114 from (hI18.2.2.2 95 20 (by omega) (by omega)).trans (zref hI rfl rfl)]
          refine qG.blk 2 (pc' := 81) (ls' := [(2, 95), (0, a), (0, b), (0, c), (0, e), (0, f), (0, ((i : Nat) : Int)), (0, a)]) (st' := [(0, w9 95 25), (2, 114)]) (w' := w9) (n' := 142) rfl ?_
          rw [show w9 95 25 = ((n + i : Nat) : Int) from hI18.2.1]
          refine qG.blk 5 (pc' := 90) (ls' := [(2, 95), (0, a), (0, b), (0, c), (0, e), (0, f), (0, ((i : Nat) : Int)), (0, a)]) (st' := [(0, 4), (0, ((i : Nat) : Int)), (0, 8), (0, 24), (0, a), (0, ((n + i : Nat) : Int)), (2, 114)]) (w' := w9) (n' := 142) rfl ?_
          refine qG.gn (P := 4 = 0) (pc' := 91) (ls' := [(2, 95), (0, a), (0, b), (0, c), (0, e), (0, f), (0, ((i : Nat) : Int)), (0, a)]) (st' := [(0, qrem ((i : Nat) : Int) 4), (0, 8), (0, 24), (0, a), (0, ((n + i : Nat) : Int)), (2, 114)]) (w' := w9) (n' := 142) rfl (by decide) ?_
          rw [show qrem ((i : Nat) : Int) 4 = ((i % 4 : Nat) : Int) from qrem_n (m := 4) (by omega)]
          refine qG.blk 1 (pc' := 92) (ls' := [(2, 95), (0, a), (0, b), (0, c), (0, e), (0, f), (0, ((i : Nat) : Int)), (0, a)]) (st' := [(0, wrp (8 * ((i % 4 : Nat) : Int))), (0, 24), (0, a), (0, ((n + i : Nat) : Int)), (2, 114)]) (w' := w9) (n' := 142) rfl ?_
          rw [show wrp (8 * ((i % 4 : Nat) : Int)) = ((8 * (i % 4) : Nat) : Int) from by rw [wrp_id (by omega) (by omega)]; omega]
          refine qG.blk 1 (pc' := 93) (ls' := [(2, 95), (0, a), (0, b), (0, c), (0, e), (0, f), (0, ((i : Nat) : Int)), (0, a)]) (st' := [(0, wrp (24 - ((8 * (i % 4) : Nat) : Int))), (0, a), (0, ((n + i : Nat) : Int)), (2, 114)]) (w' := w9) (n' := 142) rfl ?_
          rw [show wrp (24 - ((8 * (i % 4) : Nat) : Int)) = ((24 - 8 * (i % 4) : Nat) : Int) from by rw [wrp_id (by omega) (by omega)]; omega]
          refine qG.blk 3 (pc' := 98) (ls' := [(2, 95), (0, a), (0, b), (0, c), (0, e), (0, f), (0, ((i : Nat) : Int)), (0, a)]) (st' := [(0, qand (qshr a ((24 - 8 * (i % 4) : Nat) : Int)) 255), (0, ((n + i : Nat) : Int)), (2, 114)]) (w' := w9) (n' := 142) rfl ?_
          refine qG.ist (m := 600) rfl rfl (by omega) (by decide) ?_
          show qG none d 222 99 [(2, 95), (0, a), (0, b), (0, c), (0, e), (0, f), (0, ((i : Nat) : Int)), (0, a)] [] (qup w9 114 (n + i) (qand (qshr a ((24 - 8 * (i % 4) : Nat) : Int)) 255)) 142 Q9
          refine qG.blk 3 (pc' := 104) (ls' := [(2, 95), (0, a), (0, b), (0, c), (0, e), (0, f), (0, ((i : Nat) : Int)), (0, a)]) (st' := [(0, w9 95 25), (2, 95)]) (w' := (qup w9 114 (n + i) (qand (qshr a ((24 - 8 * (i % 4) : Nat) : Int)) 255))) (n' := 142) rfl ?_
          rw [show w9 95 25 = ((n + i : Nat) : Int) from hI18.2.1]
          refine qG.blk 2 (pc' := 106) (ls' := [(2, 95), (0, a), (0, b), (0, c), (0, e), (0, f), (0, ((i : Nat) : Int)), (0, a)]) (st' := [(0, wrp (((n + i : Nat) : Int) + 1)), (2, 95)]) (w' := (qup w9 114 (n + i) (qand (qshr a ((24 - 8 * (i % 4) : Nat) : Int)) 255))) (n' := 142) rfl ?_
          rw [show wrp (((n + i : Nat) : Int) + 1) = ((n + i + 1 : Nat) : Int) from by rw [wrp_id (by omega) (by omega)]; omega]
          refine qG.blk 2 (pc' := 112) (ls' := [(2, 95), (0, a), (0, b), (0, c), (0, e), (0, f), (0, wrp (((i : Nat) : Int) + 1)), (0, a)]) (st' := []) (w' := (qup (qup w9 114 (n + i) (qand (qshr a ((24 - 8 * (i % 4) : Nat) : Int)) 255)) 95 25 ((n + i + 1 : Nat) : Int))) (n' := 142) rfl ?_
          rw [show wrp (((i : Nat) : Int) + 1) = ((i + 1 : Nat) : Int) from wrp_id (by omega) (by omega)]
          refine qG.blk 1 (pc' := 18) (ls' := [(2, 95), (0, a), (0, b), (0, c), (0, e), (0, f), (0, ((i + 1 : Nat) : Int)), (0, a)]) (st' := []) (w' := (qup (qup w9 114 (n + i) (qand (qshr a ((24 - 8 * (i % 4) : Nat) : Int)) 255)) 95 25 ((n + i + 1 : Nat) : Int))) (n' := 142) rfl ?_
          exact ih18 _ (by omega) (i + 1) ((qup (qup w9 114 (n + i) (qand (qshr a ((24 - 8 * (i % 4) : Nat) : Int)) 255)) 95 25 ((n + i + 1 : Nat) : Int))) ((0, a)) rfl (⟨by omega, (by rw [qup_k]; omega), (fun j hj => if e9 : j = i then (by rw [e9, qup_ne (by decide), qup_k]; first | rw [vF_a (by omega)] | rw [vF_b (by omega) (by omega)] | rw [vF_c (by omega) (by omega)] | rw [vF_e (by omega) (by omega)] | rw [vF_f (by omega)]) else (by rw [qup_ne (by decide), qup_j (by omega)]; exact hI18.2.2.1 j (by omega))), fun q k h1 h2 => by rw [qup_f h2, qup_f (by omega)]; exact hI18.2.2.2 q k h1 h2⟩)
        · skip
          refine qG.blk 2 (pc' := 39) (ls' := [(2, 95), (0, a), (0, b), (0, c), (0, e), (0, f), (0, ((i : Nat) : Int)), q7]) (st' := [(0, 8), (0, ((i : Nat) : Int))]) (w' := w9) (n' := 142) rfl ?_
          refine qG.br (P := ((i : Nat) : Int) < 8) (pc1 := 42) (pc2 := 46) (st1 := []) rfl (fun h3 => ?_) (fun h3 => ?_)
          · skip
            refine qG.blk 5 (pc' := 77) (ls' := [(2, 95), (0, a), (0, b), (0, c), (0, e), (0, f), (0, ((i : Nat) : Int)), (0, b)]) (st' := [(2, w9 95 20)]) (w' := w9) (n' := 142) rfl ?_
            rw [show w9 95 20 = 114 from (hI18.2.2.2 95 20 (by omega) (by omega)).trans (zref hI rfl rfl)]
            refine qG.blk 2 (pc' := 81) (ls' := [(2, 95), (0, a), (0, b), (0, c), (0, e), (0, f), (0, ((i : Nat) : Int)), (0, b)]) (st' := [(0, w9 95 25), (2, 114)]) (w' := w9) (n' := 142) rfl ?_
            rw [show w9 95 25 = ((n + i : Nat) : Int) from hI18.2.1]
            refine qG.blk 5 (pc' := 90) (ls' := [(2, 95), (0, a), (0, b), (0, c), (0, e), (0, f), (0, ((i : Nat) : Int)), (0, b)]) (st' := [(0, 4), (0, ((i : Nat) : Int)), (0, 8), (0, 24), (0, b), (0, ((n + i : Nat) : Int)), (2, 114)]) (w' := w9) (n' := 142) rfl ?_
            refine qG.gn (P := 4 = 0) (pc' := 91) (ls' := [(2, 95), (0, a), (0, b), (0, c), (0, e), (0, f), (0, ((i : Nat) : Int)), (0, b)]) (st' := [(0, qrem ((i : Nat) : Int) 4), (0, 8), (0, 24), (0, b), (0, ((n + i : Nat) : Int)), (2, 114)]) (w' := w9) (n' := 142) rfl (by decide) ?_
            rw [show qrem ((i : Nat) : Int) 4 = ((i % 4 : Nat) : Int) from qrem_n (m := 4) (by omega)]
            refine qG.blk 1 (pc' := 92) (ls' := [(2, 95), (0, a), (0, b), (0, c), (0, e), (0, f), (0, ((i : Nat) : Int)), (0, b)]) (st' := [(0, wrp (8 * ((i % 4 : Nat) : Int))), (0, 24), (0, b), (0, ((n + i : Nat) : Int)), (2, 114)]) (w' := w9) (n' := 142) rfl ?_
            rw [show wrp (8 * ((i % 4 : Nat) : Int)) = ((8 * (i % 4) : Nat) : Int) from by rw [wrp_id (by omega) (by omega)]; omega]
            refine qG.blk 1 (pc' := 93) (ls' := [(2, 95), (0, a), (0, b), (0, c), (0, e), (0, f), (0, ((i : Nat) : Int)), (0, b)]) (st' := [(0, wrp (24 - ((8 * (i % 4) : Nat) : Int))), (0, b), (0, ((n + i : Nat) : Int)), (2, 114)]) (w' := w9) (n' := 142) rfl ?_
            rw [show wrp (24 - ((8 * (i % 4) : Nat) : Int)) = ((24 - 8 * (i % 4) : Nat) : Int) from by rw [wrp_id (by omega) (by omega)]; omega]
            refine qG.blk 3 (pc' := 98) (ls' := [(2, 95), (0, a), (0, b), (0, c), (0, e), (0, f), (0, ((i : Nat) : Int)), (0, b)]) (st' := [(0, qand (qshr b ((24 - 8 * (i % 4) : Nat) : Int)) 255), (0, ((n + i : Nat) : Int)), (2, 114)]) (w' := w9) (n' := 142) rfl ?_
            refine qG.ist (m := 600) rfl rfl (by omega) (by decide) ?_
            show qG none d 222 99 [(2, 95), (0, a), (0, b), (0, c), (0, e), (0, f), (0, ((i : Nat) : Int)), (0, b)] [] (qup w9 114 (n + i) (qand (qshr b ((24 - 8 * (i % 4) : Nat) : Int)) 255)) 142 Q9
            refine qG.blk 3 (pc' := 104) (ls' := [(2, 95), (0, a), (0, b), (0, c), (0, e), (0, f), (0, ((i : Nat) : Int)), (0, b)]) (st' := [(0, w9 95 25), (2, 95)]) (w' := (qup w9 114 (n + i) (qand (qshr b ((24 - 8 * (i % 4) : Nat) : Int)) 255))) (n' := 142) rfl ?_
            rw [show w9 95 25 = ((n + i : Nat) : Int) from hI18.2.1]
            refine qG.blk 2 (pc' := 106) (ls' := [(2, 95), (0, a), (0, b), (0, c), (0, e), (0, f), (0, ((i : Nat) : Int)), (0, b)]) (st' := [(0, wrp (((n + i : Nat) : Int) + 1)), (2, 95)]) (w' := (qup w9 114 (n + i) (qand (qshr b ((24 - 8 * (i % 4) : Nat) : Int)) 255))) (n' := 142) rfl ?_
            rw [show wrp (((n + i : Nat) : Int) + 1) = ((n + i + 1 : Nat) : Int) from by rw [wrp_id (by omega) (by omega)]; omega]
            refine qG.blk 2 (pc' := 112) (ls' := [(2, 95), (0, a), (0, b), (0, c), (0, e), (0, f), (0, wrp (((i : Nat) : Int) + 1)), (0, b)]) (st' := []) (w' := (qup (qup w9 114 (n + i) (qand (qshr b ((24 - 8 * (i % 4) : Nat) : Int)) 255)) 95 25 ((n + i + 1 : Nat) : Int))) (n' := 142) rfl ?_
            rw [show wrp (((i : Nat) : Int) + 1) = ((i + 1 : Nat) : Int) from wrp_id (by omega) (by omega)]
            refine qG.blk 1 (pc' := 18) (ls' := [(2, 95), (0, a), (0, b), (0, c), (0, e), (0, f), (0, ((i + 1 : Nat) : Int)), (0, b)]) (st' := []) (w' := (qup (qup w9 114 (n + i) (qand (qshr b ((24 - 8 * (i % 4) : Nat) : Int)) 255)) 95 25 ((n + i + 1 : Nat) : Int))) (n' := 142) rfl ?_
            exact ih18 _ (by omega) (i + 1) ((qup (qup w9 114 (n + i) (qand (qshr b ((24 - 8 * (i % 4) : Nat) : Int)) 255)) 95 25 ((n + i + 1 : Nat) : Int))) ((0, b)) rfl (⟨by omega, (by rw [qup_k]; omega), (fun j hj => if e9 : j = i then (by rw [e9, qup_ne (by decide), qup_k]; first | rw [vF_a (by omega)] | rw [vF_b (by omega) (by omega)] | rw [vF_c (by omega) (by omega)] | rw [vF_e (by omega) (by omega)] | rw [vF_f (by omega)]) else (by rw [qup_ne (by decide), qup_j (by omega)]; exact hI18.2.2.1 j (by omega))), fun q k h1 h2 => by rw [qup_f h2, qup_f (by omega)]; exact hI18.2.2.2 q k h1 h2⟩)
          · skip
            refine qG.blk 2 (pc' := 50) (ls' := [(2, 95), (0, a), (0, b), (0, c), (0, e), (0, f), (0, ((i : Nat) : Int)), q7]) (st' := [(0, 12), (0, ((i : Nat) : Int))]) (w' := w9) (n' := 142) rfl ?_
            refine qG.br (P := ((i : Nat) : Int) < 12) (pc1 := 53) (pc2 := 57) (st1 := []) rfl (fun h4 => ?_) (fun h4 => ?_)
            · skip
              refine qG.blk 5 (pc' := 77) (ls' := [(2, 95), (0, a), (0, b), (0, c), (0, e), (0, f), (0, ((i : Nat) : Int)), (0, c)]) (st' := [(2, w9 95 20)]) (w' := w9) (n' := 142) rfl ?_
              rw [show w9 95 20 = 114 from (hI18.2.2.2 95 20 (by omega) (by omega)).trans (zref hI rfl rfl)]
              refine qG.blk 2 (pc' := 81) (ls' := [(2, 95), (0, a), (0, b), (0, c), (0, e), (0, f), (0, ((i : Nat) : Int)), (0, c)]) (st' := [(0, w9 95 25), (2, 114)]) (w' := w9) (n' := 142) rfl ?_
              rw [show w9 95 25 = ((n + i : Nat) : Int) from hI18.2.1]
              refine qG.blk 5 (pc' := 90) (ls' := [(2, 95), (0, a), (0, b), (0, c), (0, e), (0, f), (0, ((i : Nat) : Int)), (0, c)]) (st' := [(0, 4), (0, ((i : Nat) : Int)), (0, 8), (0, 24), (0, c), (0, ((n + i : Nat) : Int)), (2, 114)]) (w' := w9) (n' := 142) rfl ?_
              refine qG.gn (P := 4 = 0) (pc' := 91) (ls' := [(2, 95), (0, a), (0, b), (0, c), (0, e), (0, f), (0, ((i : Nat) : Int)), (0, c)]) (st' := [(0, qrem ((i : Nat) : Int) 4), (0, 8), (0, 24), (0, c), (0, ((n + i : Nat) : Int)), (2, 114)]) (w' := w9) (n' := 142) rfl (by decide) ?_
              rw [show qrem ((i : Nat) : Int) 4 = ((i % 4 : Nat) : Int) from qrem_n (m := 4) (by omega)]
              refine qG.blk 1 (pc' := 92) (ls' := [(2, 95), (0, a), (0, b), (0, c), (0, e), (0, f), (0, ((i : Nat) : Int)), (0, c)]) (st' := [(0, wrp (8 * ((i % 4 : Nat) : Int))), (0, 24), (0, c), (0, ((n + i : Nat) : Int)), (2, 114)]) (w' := w9) (n' := 142) rfl ?_
              rw [show wrp (8 * ((i % 4 : Nat) : Int)) = ((8 * (i % 4) : Nat) : Int) from by rw [wrp_id (by omega) (by omega)]; omega]
              refine qG.blk 1 (pc' := 93) (ls' := [(2, 95), (0, a), (0, b), (0, c), (0, e), (0, f), (0, ((i : Nat) : Int)), (0, c)]) (st' := [(0, wrp (24 - ((8 * (i % 4) : Nat) : Int))), (0, c), (0, ((n + i : Nat) : Int)), (2, 114)]) (w' := w9) (n' := 142) rfl ?_
              rw [show wrp (24 - ((8 * (i % 4) : Nat) : Int)) = ((24 - 8 * (i % 4) : Nat) : Int) from by rw [wrp_id (by omega) (by omega)]; omega]
              refine qG.blk 3 (pc' := 98) (ls' := [(2, 95), (0, a), (0, b), (0, c), (0, e), (0, f), (0, ((i : Nat) : Int)), (0, c)]) (st' := [(0, qand (qshr c ((24 - 8 * (i % 4) : Nat) : Int)) 255), (0, ((n + i : Nat) : Int)), (2, 114)]) (w' := w9) (n' := 142) rfl ?_
              refine qG.ist (m := 600) rfl rfl (by omega) (by decide) ?_
              show qG none d 222 99 [(2, 95), (0, a), (0, b), (0, c), (0, e), (0, f), (0, ((i : Nat) : Int)), (0, c)] [] (qup w9 114 (n + i) (qand (qshr c ((24 - 8 * (i % 4) : Nat) : Int)) 255)) 142 Q9
              refine qG.blk 3 (pc' := 104) (ls' := [(2, 95), (0, a), (0, b), (0, c), (0, e), (0, f), (0, ((i : Nat) : Int)), (0, c)]) (st' := [(0, w9 95 25), (2, 95)]) (w' := (qup w9 114 (n + i) (qand (qshr c ((24 - 8 * (i % 4) : Nat) : Int)) 255))) (n' := 142) rfl ?_
              rw [show w9 95 25 = ((n + i : Nat) : Int) from hI18.2.1]
              refine qG.blk 2 (pc' := 106) (ls' := [(2, 95), (0, a), (0, b), (0, c), (0, e), (0, f), (0, ((i : Nat) : Int)), (0, c)]) (st' := [(0, wrp (((n + i : Nat) : Int) + 1)), (2, 95)]) (w' := (qup w9 114 (n + i) (qand (qshr c ((24 - 8 * (i % 4) : Nat) : Int)) 255))) (n' := 142) rfl ?_
              rw [show wrp (((n + i : Nat) : Int) + 1) = ((n + i + 1 : Nat) : Int) from by rw [wrp_id (by omega) (by omega)]; omega]
              refine qG.blk 2 (pc' := 112) (ls' := [(2, 95), (0, a), (0, b), (0, c), (0, e), (0, f), (0, wrp (((i : Nat) : Int) + 1)), (0, c)]) (st' := []) (w' := (qup (qup w9 114 (n + i) (qand (qshr c ((24 - 8 * (i % 4) : Nat) : Int)) 255)) 95 25 ((n + i + 1 : Nat) : Int))) (n' := 142) rfl ?_
              rw [show wrp (((i : Nat) : Int) + 1) = ((i + 1 : Nat) : Int) from wrp_id (by omega) (by omega)]
              refine qG.blk 1 (pc' := 18) (ls' := [(2, 95), (0, a), (0, b), (0, c), (0, e), (0, f), (0, ((i + 1 : Nat) : Int)), (0, c)]) (st' := []) (w' := (qup (qup w9 114 (n + i) (qand (qshr c ((24 - 8 * (i % 4) : Nat) : Int)) 255)) 95 25 ((n + i + 1 : Nat) : Int))) (n' := 142) rfl ?_
              exact ih18 _ (by omega) (i + 1) ((qup (qup w9 114 (n + i) (qand (qshr c ((24 - 8 * (i % 4) : Nat) : Int)) 255)) 95 25 ((n + i + 1 : Nat) : Int))) ((0, c)) rfl (⟨by omega, (by rw [qup_k]; omega), (fun j hj => if e9 : j = i then (by rw [e9, qup_ne (by decide), qup_k]; first | rw [vF_a (by omega)] | rw [vF_b (by omega) (by omega)] | rw [vF_c (by omega) (by omega)] | rw [vF_e (by omega) (by omega)] | rw [vF_f (by omega)]) else (by rw [qup_ne (by decide), qup_j (by omega)]; exact hI18.2.2.1 j (by omega))), fun q k h1 h2 => by rw [qup_f h2, qup_f (by omega)]; exact hI18.2.2.2 q k h1 h2⟩)
            · skip
              refine qG.blk 2 (pc' := 61) (ls' := [(2, 95), (0, a), (0, b), (0, c), (0, e), (0, f), (0, ((i : Nat) : Int)), q7]) (st' := [(0, 16), (0, ((i : Nat) : Int))]) (w' := w9) (n' := 142) rfl ?_
              refine qG.br (P := ((i : Nat) : Int) < 16) (pc1 := 64) (pc2 := 69) (st1 := []) rfl (fun h5 => ?_) (fun h5 => ?_)
              · skip
                refine qG.blk 5 (pc' := 77) (ls' := [(2, 95), (0, a), (0, b), (0, c), (0, e), (0, f), (0, ((i : Nat) : Int)), (0, e)]) (st' := [(2, w9 95 20)]) (w' := w9) (n' := 142) rfl ?_
                rw [show w9 95 20 = 114 from (hI18.2.2.2 95 20 (by omega) (by omega)).trans (zref hI rfl rfl)]
                refine qG.blk 2 (pc' := 81) (ls' := [(2, 95), (0, a), (0, b), (0, c), (0, e), (0, f), (0, ((i : Nat) : Int)), (0, e)]) (st' := [(0, w9 95 25), (2, 114)]) (w' := w9) (n' := 142) rfl ?_
                rw [show w9 95 25 = ((n + i : Nat) : Int) from hI18.2.1]
                refine qG.blk 5 (pc' := 90) (ls' := [(2, 95), (0, a), (0, b), (0, c), (0, e), (0, f), (0, ((i : Nat) : Int)), (0, e)]) (st' := [(0, 4), (0, ((i : Nat) : Int)), (0, 8), (0, 24), (0, e), (0, ((n + i : Nat) : Int)), (2, 114)]) (w' := w9) (n' := 142) rfl ?_
                refine qG.gn (P := 4 = 0) (pc' := 91) (ls' := [(2, 95), (0, a), (0, b), (0, c), (0, e), (0, f), (0, ((i : Nat) : Int)), (0, e)]) (st' := [(0, qrem ((i : Nat) : Int) 4), (0, 8), (0, 24), (0, e), (0, ((n + i : Nat) : Int)), (2, 114)]) (w' := w9) (n' := 142) rfl (by decide) ?_
                rw [show qrem ((i : Nat) : Int) 4 = ((i % 4 : Nat) : Int) from qrem_n (m := 4) (by omega)]
                refine qG.blk 1 (pc' := 92) (ls' := [(2, 95), (0, a), (0, b), (0, c), (0, e), (0, f), (0, ((i : Nat) : Int)), (0, e)]) (st' := [(0, wrp (8 * ((i % 4 : Nat) : Int))), (0, 24), (0, e), (0, ((n + i : Nat) : Int)), (2, 114)]) (w' := w9) (n' := 142) rfl ?_
                rw [show wrp (8 * ((i % 4 : Nat) : Int)) = ((8 * (i % 4) : Nat) : Int) from by rw [wrp_id (by omega) (by omega)]; omega]
                refine qG.blk 1 (pc' := 93) (ls' := [(2, 95), (0, a), (0, b), (0, c), (0, e), (0, f), (0, ((i : Nat) : Int)), (0, e)]) (st' := [(0, wrp (24 - ((8 * (i % 4) : Nat) : Int))), (0, e), (0, ((n + i : Nat) : Int)), (2, 114)]) (w' := w9) (n' := 142) rfl ?_
                rw [show wrp (24 - ((8 * (i % 4) : Nat) : Int)) = ((24 - 8 * (i % 4) : Nat) : Int) from by rw [wrp_id (by omega) (by omega)]; omega]
                refine qG.blk 3 (pc' := 98) (ls' := [(2, 95), (0, a), (0, b), (0, c), (0, e), (0, f), (0, ((i : Nat) : Int)), (0, e)]) (st' := [(0, qand (qshr e ((24 - 8 * (i % 4) : Nat) : Int)) 255), (0, ((n + i : Nat) : Int)), (2, 114)]) (w' := w9) (n' := 142) rfl ?_
                refine qG.ist (m := 600) rfl rfl (by omega) (by decide) ?_
                show qG none d 222 99 [(2, 95), (0, a), (0, b), (0, c), (0, e), (0, f), (0, ((i : Nat) : Int)), (0, e)] [] (qup w9 114 (n + i) (qand (qshr e ((24 - 8 * (i % 4) : Nat) : Int)) 255)) 142 Q9
                refine qG.blk 3 (pc' := 104) (ls' := [(2, 95), (0, a), (0, b), (0, c), (0, e), (0, f), (0, ((i : Nat) : Int)), (0, e)]) (st' := [(0, w9 95 25), (2, 95)]) (w' := (qup w9 114 (n + i) (qand (qshr e ((24 - 8 * (i % 4) : Nat) : Int)) 255))) (n' := 142) rfl ?_
                rw [show w9 95 25 = ((n + i : Nat) : Int) from hI18.2.1]
                refine qG.blk 2 (pc' := 106) (ls' := [(2, 95), (0, a), (0, b), (0, c), (0, e), (0, f), (0, ((i : Nat) : Int)), (0, e)]) (st' := [(0, wrp (((n + i : Nat) : Int) + 1)), (2, 95)]) (w' := (qup w9 114 (n + i) (qand (qshr e ((24 - 8 * (i % 4) : Nat) : Int)) 255))) (n' := 142) rfl ?_
                rw [show wrp (((n + i : Nat) : Int) + 1) = ((n + i + 1 : Nat) : Int) from by rw [wrp_id (by omega) (by omega)]; omega]
                refine qG.blk 2 (pc' := 112) (ls' := [(2, 95), (0, a), (0, b), (0, c), (0, e), (0, f), (0, wrp (((i : Nat) : Int) + 1)), (0, e)]) (st' := []) (w' := (qup (qup w9 114 (n + i) (qand (qshr e ((24 - 8 * (i % 4) : Nat) : Int)) 255)) 95 25 ((n + i + 1 : Nat) : Int))) (n' := 142) rfl ?_
                rw [show wrp (((i : Nat) : Int) + 1) = ((i + 1 : Nat) : Int) from wrp_id (by omega) (by omega)]
                refine qG.blk 1 (pc' := 18) (ls' := [(2, 95), (0, a), (0, b), (0, c), (0, e), (0, f), (0, ((i + 1 : Nat) : Int)), (0, e)]) (st' := []) (w' := (qup (qup w9 114 (n + i) (qand (qshr e ((24 - 8 * (i % 4) : Nat) : Int)) 255)) 95 25 ((n + i + 1 : Nat) : Int))) (n' := 142) rfl ?_
                exact ih18 _ (by omega) (i + 1) ((qup (qup w9 114 (n + i) (qand (qshr e ((24 - 8 * (i % 4) : Nat) : Int)) 255)) 95 25 ((n + i + 1 : Nat) : Int))) ((0, e)) rfl (⟨by omega, (by rw [qup_k]; omega), (fun j hj => if e9 : j = i then (by rw [e9, qup_ne (by decide), qup_k]; first | rw [vF_a (by omega)] | rw [vF_b (by omega) (by omega)] | rw [vF_c (by omega) (by omega)] | rw [vF_e (by omega) (by omega)] | rw [vF_f (by omega)]) else (by rw [qup_ne (by decide), qup_j (by omega)]; exact hI18.2.2.1 j (by omega))), fun q k h1 h2 => by rw [qup_f h2, qup_f (by omega)]; exact hI18.2.2.2 q k h1 h2⟩)
              · skip
                refine qG.blk 4 (pc' := 77) (ls' := [(2, 95), (0, a), (0, b), (0, c), (0, e), (0, f), (0, ((i : Nat) : Int)), (0, f)]) (st' := [(2, w9 95 20)]) (w' := w9) (n' := 142) rfl ?_
                rw [show w9 95 20 = 114 from (hI18.2.2.2 95 20 (by omega) (by omega)).trans (zref hI rfl rfl)]
                refine qG.blk 2 (pc' := 81) (ls' := [(2, 95), (0, a), (0, b), (0, c), (0, e), (0, f), (0, ((i : Nat) : Int)), (0, f)]) (st' := [(0, w9 95 25), (2, 114)]) (w' := w9) (n' := 142) rfl ?_
                rw [show w9 95 25 = ((n + i : Nat) : Int) from hI18.2.1]
                refine qG.blk 5 (pc' := 90) (ls' := [(2, 95), (0, a), (0, b), (0, c), (0, e), (0, f), (0, ((i : Nat) : Int)), (0, f)]) (st' := [(0, 4), (0, ((i : Nat) : Int)), (0, 8), (0, 24), (0, f), (0, ((n + i : Nat) : Int)), (2, 114)]) (w' := w9) (n' := 142) rfl ?_
                refine qG.gn (P := 4 = 0) (pc' := 91) (ls' := [(2, 95), (0, a), (0, b), (0, c), (0, e), (0, f), (0, ((i : Nat) : Int)), (0, f)]) (st' := [(0, qrem ((i : Nat) : Int) 4), (0, 8), (0, 24), (0, f), (0, ((n + i : Nat) : Int)), (2, 114)]) (w' := w9) (n' := 142) rfl (by decide) ?_
                rw [show qrem ((i : Nat) : Int) 4 = ((i % 4 : Nat) : Int) from qrem_n (m := 4) (by omega)]
                refine qG.blk 1 (pc' := 92) (ls' := [(2, 95), (0, a), (0, b), (0, c), (0, e), (0, f), (0, ((i : Nat) : Int)), (0, f)]) (st' := [(0, wrp (8 * ((i % 4 : Nat) : Int))), (0, 24), (0, f), (0, ((n + i : Nat) : Int)), (2, 114)]) (w' := w9) (n' := 142) rfl ?_
                rw [show wrp (8 * ((i % 4 : Nat) : Int)) = ((8 * (i % 4) : Nat) : Int) from by rw [wrp_id (by omega) (by omega)]; omega]
                refine qG.blk 1 (pc' := 93) (ls' := [(2, 95), (0, a), (0, b), (0, c), (0, e), (0, f), (0, ((i : Nat) : Int)), (0, f)]) (st' := [(0, wrp (24 - ((8 * (i % 4) : Nat) : Int))), (0, f), (0, ((n + i : Nat) : Int)), (2, 114)]) (w' := w9) (n' := 142) rfl ?_
                rw [show wrp (24 - ((8 * (i % 4) : Nat) : Int)) = ((24 - 8 * (i % 4) : Nat) : Int) from by rw [wrp_id (by omega) (by omega)]; omega]
                refine qG.blk 3 (pc' := 98) (ls' := [(2, 95), (0, a), (0, b), (0, c), (0, e), (0, f), (0, ((i : Nat) : Int)), (0, f)]) (st' := [(0, qand (qshr f ((24 - 8 * (i % 4) : Nat) : Int)) 255), (0, ((n + i : Nat) : Int)), (2, 114)]) (w' := w9) (n' := 142) rfl ?_
                refine qG.ist (m := 600) rfl rfl (by omega) (by decide) ?_
                show qG none d 222 99 [(2, 95), (0, a), (0, b), (0, c), (0, e), (0, f), (0, ((i : Nat) : Int)), (0, f)] [] (qup w9 114 (n + i) (qand (qshr f ((24 - 8 * (i % 4) : Nat) : Int)) 255)) 142 Q9
                refine qG.blk 3 (pc' := 104) (ls' := [(2, 95), (0, a), (0, b), (0, c), (0, e), (0, f), (0, ((i : Nat) : Int)), (0, f)]) (st' := [(0, w9 95 25), (2, 95)]) (w' := (qup w9 114 (n + i) (qand (qshr f ((24 - 8 * (i % 4) : Nat) : Int)) 255))) (n' := 142) rfl ?_
                rw [show w9 95 25 = ((n + i : Nat) : Int) from hI18.2.1]
                refine qG.blk 2 (pc' := 106) (ls' := [(2, 95), (0, a), (0, b), (0, c), (0, e), (0, f), (0, ((i : Nat) : Int)), (0, f)]) (st' := [(0, wrp (((n + i : Nat) : Int) + 1)), (2, 95)]) (w' := (qup w9 114 (n + i) (qand (qshr f ((24 - 8 * (i % 4) : Nat) : Int)) 255))) (n' := 142) rfl ?_
                rw [show wrp (((n + i : Nat) : Int) + 1) = ((n + i + 1 : Nat) : Int) from by rw [wrp_id (by omega) (by omega)]; omega]
                refine qG.blk 2 (pc' := 112) (ls' := [(2, 95), (0, a), (0, b), (0, c), (0, e), (0, f), (0, wrp (((i : Nat) : Int) + 1)), (0, f)]) (st' := []) (w' := (qup (qup w9 114 (n + i) (qand (qshr f ((24 - 8 * (i % 4) : Nat) : Int)) 255)) 95 25 ((n + i + 1 : Nat) : Int))) (n' := 142) rfl ?_
                rw [show wrp (((i : Nat) : Int) + 1) = ((i + 1 : Nat) : Int) from wrp_id (by omega) (by omega)]
                refine qG.blk 1 (pc' := 18) (ls' := [(2, 95), (0, a), (0, b), (0, c), (0, e), (0, f), (0, ((i + 1 : Nat) : Int)), (0, f)]) (st' := []) (w' := (qup (qup w9 114 (n + i) (qand (qshr f ((24 - 8 * (i % 4) : Nat) : Int)) 255)) 95 25 ((n + i + 1 : Nat) : Int))) (n' := 142) rfl ?_
                exact ih18 _ (by omega) (i + 1) ((qup (qup w9 114 (n + i) (qand (qshr f ((24 - 8 * (i % 4) : Nat) : Int)) 255)) 95 25 ((n + i + 1 : Nat) : Int))) ((0, f)) rfl (⟨by omega, (by rw [qup_k]; omega), (fun j hj => if e9 : j = i then (by rw [e9, qup_ne (by decide), qup_k]; first | rw [vF_a (by omega)] | rw [vF_b (by omega) (by omega)] | rw [vF_c (by omega) (by omega)] | rw [vF_e (by omega) (by omega)] | rw [vF_f (by omega)]) else (by rw [qup_ne (by decide), qup_j (by omega)]; exact hI18.2.2.1 j (by omega))), fun q k h1 h2 => by rw [qup_f h2, qup_f (by omega)]; exact hI18.2.2.2 q k h1 h2⟩)
      · skip
        refine qG.blk 2 (pc' := 119) (ls' := [(2, 95), (0, a), (0, b), (0, c), (0, e), (0, f), (0, ((i : Nat) : Int)), q7]) (st' := [(0, w9 95 25)]) (w' := w9) (n' := 142) rfl ?_
        rw [show w9 95 25 = ((n + i : Nat) : Int) from hI18.2.1]
        refine qG.ret rfl rfl ?_
        subst hQ9
        first | exact .inl ⟨by omega, rfl, rfl⟩ | exact .inr ⟨by omega, congrArg (Prod.mk (0 : Nat)) (by omega), hI18.2.1.trans (by omega), (fun j hj => hI18.2.2.1 j (by omega)), hI18.2.2.2⟩
    exact L18 _ (0) (w) ((9, 0)) rfl (⟨by omega, hn, fun j hj => absurd hj (Nat.not_lt_zero j), fun _ _ _ _ => rfl⟩)
/-- as long, and the same bytes -/
noncomputable def JM (w : qW) : Prop := w 8 1 = w 95 25 ∧ ∀ j : Nat, (j : Int) < w 95 25 → w 114 j = w 9 j % 256

noncomputable def jmM (m : List Nat) : Bool := spo m 9 && (spo m 114 && (!ymo 8 1 m && !ymo 95 25 m))
theorem JM.aw {m : List Nat} {w w1 : qW} (h : JM w) (a : AW m w w1) (hm : jmM m = true) : JM w1 := by
  unfold jmM at hm
  simp only [Bool.and_eq_true, Bool.not_eq_true'] at hm
  obtain ⟨m1, m2, m3, m4⟩ := hm
  refine ⟨?_, fun j hj => ?_⟩
  · rw [a.2 8 1 (fun _ => m3), a.2 95 25 (fun _ => m4)]; exact h.1
  · rw [a.2 95 25 (fun _ => m4)] at hj
    rw [a.a (by decide) m1, a.a (by decide) m2]; exact h.2 j hj
theorem JM.feed {w w1 w2 : qW} {a b c e f : Int} {n : Nat} {r r2 : qV} (h : JM w) (hn : w 8 1 = (n : Int)) (hX : fbX a b c e f n w r w1) (hR : fbR a b c e f n w1 r2 w2) : JM w2 ∧ r = r2 := by
  rcases hX with ⟨c1, rfl, rfl⟩ | ⟨c1, rfl, x1, x2, x3⟩ <;> rcases hR with ⟨c2, rfl, rfl⟩ | ⟨c2, rfl, y1, y2, y3⟩
  · exact ⟨h, rfl⟩
  · exact absurd c2 c1
  · exact absurd c1 c2
  · refine ⟨⟨?_, fun j hj => ?_⟩, rfl⟩
    · rw [y1, y3 8 1 (by omega) (by omega), x1]
    · rw [y1] at hj
      by_cases hjn : j < n
      · rw [y3 114 j (by omega) (by omega), y3 9 j (by omega) (by omega), x3 114 j (by omega) (by omega), x3 9 j (by omega) (by omega)]
        exact h.2 j (by rw [← h.1, hn]; omega)
      · obtain ⟨i, rfl⟩ : ∃ i, j = n + i := ⟨j - n, by omega⟩
        rw [y2 i (by omega), y3 9 (n + i) (by omega) (by omega), x2 i (by omega)]
        exact byte_eq (by omega)
theorem JM.fin {w w1 w2 : qW} {v : Int} {n : Nat} {r r2 : qV} (h : JM w) (hn : w 8 1 = (n : Int)) (hX : enX v n w r w1) (hR : enR v n w1 r2 w2) : JM w2 ∧ r = r2 := by
  rcases hX with ⟨c1, rfl, rfl⟩ | ⟨c1, rfl, rfl⟩ <;> rcases hR with ⟨c2, rfl, rfl⟩ | ⟨c2, rfl, rfl⟩
  · exact ⟨h, rfl⟩
  · exact absurd c2 c1
  · exact absurd c1 c2
  · refine ⟨⟨by simp (disch := decide) only [qup_ne, qup_k], fun j hj => ?_⟩, rfl⟩
    rw [qup_k] at hj
    rw [qup_ne (by decide), qup_ne (by decide), qup_ne (by decide), qup_ne (by decide)]
    exact h.2 j (by rw [← h.1, hn]; omega)
theorem JM.zero {w2 : qW} (hX : w2 8 1 = 0) (hR : w2 95 25 = 0) : JM w2 := ⟨hX.trans hR.symm, fun j hj => absurd hj (by rw [hR]; omega)⟩
