/-! the law's call for the way on the fresh pair -/
/-- the first row of those that go on, after i poses -/
def lbG : Nat → Int
  | 0 => 0
  | i + 1 => if i < 32 then qor (lbG i) (qshl 1 (i : Int)) else lbG i
theorem lbd : ∀ i : Nat, i < 1820 → qdiv (i : Int) 32 = ((i / 32 : Nat) : Int) ∧ qrem (i : Int) 32 = ((i % 32 : Nat) : Int) := by decide +kernel
def lbI (w : qW) (i : Nat) (w9 : qW) : Prop := w9 119 0 = lbG i ∧ (∀ p j, p ≠ 119 → w9 p j = w p j) ∧ yInv zgf zga zra zSp w9
theorem lbI.go {w w9 : qW} {i : Nat} (h : lbI w i w9) : lbI w (i + 1) (qup w9 119 (i / 32) (qor (w9 119 (i / 32)) (qshl 1 ((i % 32 : Nat) : Int)))) := by
  refine ⟨?_, fun p j hp => by rw [qup_ne hp]; exact h.2.1 p j hp, zup_a h.2.2 (b := (-2147483648, 2147483647)) rfl rfl (y32_i _)⟩
  show _ = (if i < 32 then qor (lbG i) (qshl 1 (i : Int)) else lbG i)
  by_cases z : i < 32
  · rw [if_pos z, show i / 32 = 0 by omega, show i % 32 = i by omega, qup_k, h.1]
  · rw [if_neg z, qup_j (show 0 ≠ i / 32 by omega)]
    exact h.1
theorem lb0 {w : qW} {j : Nat} (h : 0 < j → w 119 0 = 0) : qup w 119 j 0 119 0 = 0 := by
  by_cases z : j = 0
  · rw [z, qup_k]
  · rw [qup_j (fun y => z y.symm)]; exact h (by omega)
theorem K_leadsBack {d : Nat} (hd : 1 ≤ d) (N : Nat) (hN9 : N ≤ 1820) (w : qW) (hI : yInv zgf zga zra zSp w) (hN : w 95 8 = (N : Int)) (hs : w 95 37 = 0) : qG none d 260 0 [(2, 95), (9, 0), (9, 0), (9, 0), (9, 0)] [] w 142 (fun (r : qV) (w1 : qW) (n1 : Nat) => r = (9, 0) ∧ n1 = 142 ∧ lbI w N w1) := by
  generalize hQ9 : (fun (r : qV) (w1 : qW) (n1 : Nat) => r = (9, 0) ∧ n1 = 142 ∧ lbI w N w1) = Q9
  obtain ⟨d, rfl⟩ : ∃ d9, d = d9 + 1 := ⟨d - 1, by omega⟩
  refine qG.blk 2 (pc' := 4) (ls' := [(2, 95), (9, 0), (9, 0), (9, 0), (9, 0)]) (st' := [(0, w 95 37)]) (w' := w) (n' := 142) rfl ?_
  rw [show w 95 37 = 0 from hs]
  refine qG.blk 2 (pc' := 6) (ls' := [(2, 95), (0, 0), (9, 0), (9, 0), (9, 0)]) (st' := [(0, 0)]) (w' := w) (n' := 142) rfl ?_
  refine qG.br (P := (0 : Int) < 0) (pc1 := 177) (pc2 := 9) (st1 := []) rfl (fun h1 => ?_) (fun h1 => ?_)
  · exact absurd h1 (by decide)
  · skip
    refine qG.blk 2 (pc' := 11) (ls' := [(2, 95), (0, 0), (0, 0), (9, 0), (9, 0)]) (st' := []) (w' := w) (n' := 142) rfl ?_
    have L11 : ∀ (m9 : Nat) (j : Nat) (w9 : qW), 57 - j = m9 → (j ≤ 57 ∧ (0 < j → w9 119 0 = 0) ∧ (∀ p i, p ≠ 119 → w9 p i = w p i) ∧ yInv zgf zga zra zSp w9) → qG none (d + 1) 260 11 [(2, 95), (0, 0), (0, ((j : Nat) : Int)), (9, 0), (9, 0)] [] w9 142 Q9 := by
      intro m9
      induction m9 using Nat.strongRecOn with
      | ind m9 ih11 =>
      intro j w9 hm11 hI11
      refine qG.blk 2 (pc' := 14) (ls' := [(2, 95), (0, 0), (0, ((j : Nat) : Int)), (9, 0), (9, 0)]) (st' := [(0, 57), (0, ((j : Nat) : Int))]) (w' := w9) (n' := 142) rfl ?_
      refine qG.br (P := ((j : Nat) : Int) < 57) (pc1 := 17) (pc2 := 35) (st1 := []) rfl (fun h2 => ?_) (fun h2 => ?_)
      · skip
        refine qG.blk 2 (pc' := 21) (ls' := [(2, 95), (0, 0), (0, ((j : Nat) : Int)), (9, 0), (9, 0)]) (st' := [(2, w9 95 47)]) (w' := w9) (n' := 142) rfl ?_
        rw [show w9 95 47 = 119 from zref hI11.2.2.2 rfl rfl]
        refine qG.blk 5 (pc' := 27) (ls' := [(2, 95), (0, 0), (0, ((j : Nat) : Int)), (9, 0), (9, 0)]) (st' := [(0, wrp (0 + ((j : Nat) : Int))), (2, 119)]) (w' := w9) (n' := 142) rfl ?_
        rw [show wrp (0 + ((j : Nat) : Int)) = ((j : Nat) : Int) from by rw [wrp_id (by omega) (by omega)]; omega]
        refine qG.blk 1 (pc' := 28) (ls' := [(2, 95), (0, 0), (0, ((j : Nat) : Int)), (9, 0), (9, 0)]) (st' := [(0, 0), (0, ((j : Nat) : Int)), (2, 119)]) (w' := w9) (n' := 142) rfl ?_
        refine qG.ist (m := 51300) rfl rfl (by omega) (by decide) ?_
        show qG none (d + 1) 260 29 [(2, 95), (0, 0), (0, ((j : Nat) : Int)), (9, 0), (9, 0)] [] (qup w9 119 j 0) 142 Q9
        refine qG.blk 1 (pc' := 32) (ls' := [(2, 95), (0, 0), (0, wrp (((j : Nat) : Int) + 1)), (9, 0), (9, 0)]) (st' := []) (w' := (qup w9 119 j 0)) (n' := 142) rfl ?_
        rw [show wrp (((j : Nat) : Int) + 1) = ((j + 1 : Nat) : Int) from wrp_id (by omega) (by omega)]
        refine qG.blk 1 (pc' := 11) (ls' := [(2, 95), (0, 0), (0, ((j + 1 : Nat) : Int)), (9, 0), (9, 0)]) (st' := []) (w' := (qup w9 119 j 0)) (n' := 142) rfl ?_
        exact ih11 _ (by omega) (j + 1) ((qup w9 119 j 0)) rfl (⟨by omega, fun _ => lb0 hI11.2.1, fun p i hp => by rw [qup_ne hp]; exact hI11.2.2.1 p i hp, zup_a hI11.2.2.2 (b := (-2147483648, 2147483647)) rfl rfl ⟨by decide, by decide⟩⟩)
      · skip
        refine qG.blk 2 (pc' := 37) (ls' := [(2, 95), (0, 0), (0, 0), (9, 0), (9, 0)]) (st' := []) (w' := w9) (n' := 142) rfl ?_
        have L37 : ∀ (m9 : Nat) (i : Nat) (w8 : qW) (x3 x4 : qV), N - i = m9 → (i ≤ N ∧ lbI w i w8) → qG none (d + 1) 260 37 [(2, 95), (0, 0), (0, ((i : Nat) : Int)), x3, x4] [] w8 142 Q9 := by
          intro m9
          induction m9 using Nat.strongRecOn with
          | ind m9 ih37 =>
          intro i w8 x3 x4 hm37 hI37
          refine qG.blk 3 (pc' := 42) (ls' := [(2, 95), (0, 0), (0, ((i : Nat) : Int)), x3, x4]) (st' := [(0, w8 95 8), (0, ((i : Nat) : Int))]) (w' := w8) (n' := 142) rfl ?_
          rw [show w8 95 8 = ((N : Nat) : Int) from (hI37.2.2.1 95 8 (by decide)).trans hN]
          refine qG.br (P := ((i : Nat) : Int) < ((N : Nat) : Int)) (pc1 := 45) (pc2 := 171) (st1 := []) rfl (fun h3 => ?_) (fun h3 => ?_)
          · skip
            refine qG.blk 3 (pc' := 50) (ls' := [(2, 95), (0, 0), (0, ((i : Nat) : Int)), x3, x4]) (st' := [(0, w8 95 37), (0, 0)]) (w' := w8) (n' := 142) rfl ?_
            rw [show w8 95 37 = 0 from (hI37.2.2.1 95 37 (by decide)).trans hs]
            refine qG.br (P := (0 : Int) = 0) (pc1 := 53) (pc2 := 57) (st1 := []) rfl (fun h4 => ?_) (fun h4 => ?_)
            · skip
              refine qG.blk 8 (pc' := 68) (ls' := [(2, 95), (0, 0), (0, ((i : Nat) : Int)), (0, 1), (0, 0)]) (st' := [(2, w8 95 6), (0, 0)]) (w' := w8) (n' := 142) rfl ?_
              rw [show w8 95 6 = 102 from zref hI37.2.2.2 rfl rfl]
              refine qG.blk 1 (pc' := 69) (ls' := [(2, 95), (0, 0), (0, ((i : Nat) : Int)), (0, 1), (0, 0)]) (st' := [(0, ((i : Nat) : Int)), (2, 102), (0, 0)]) (w' := w8) (n' := 142) rfl ?_
              refine qG.ild (m := 1820) rfl rfl (by omega) (by decide) ?_
              show qG none (d + 1) 260 70 [(2, 95), (0, 0), (0, ((i : Nat) : Int)), (0, 1), (0, 0)] [(0, w8 102 i), (0, 0)] w8 142 Q9
              refine qG.br (P := 0 < w8 102 i) (pc1 := 73) (pc2 := 138) (st1 := []) rfl (fun h5 => ?_) (fun h5 => ?_)
              · skip
                refine qG.blk 1 (pc' := 74) (ls' := [(2, 95), (0, 0), (0, ((i : Nat) : Int)), (0, 1), (0, 0)]) (st' := [(0, 1)]) (w' := w8) (n' := 142) rfl ?_
                refine qG.br (P := (1 : Int) = 0) (pc1 := 77) (pc2 := 138) (st1 := []) rfl (fun h6 => ?_) (fun h6 => ?_)
                · exact absurd h6 (by decide)
                · skip
                  refine qG.blk 1 (pc' := 139) (ls' := [(2, 95), (0, 0), (0, ((i : Nat) : Int)), (0, 1), (0, 0)]) (st' := [(0, 1)]) (w' := w8) (n' := 142) rfl ?_
                  refine qG.br (P := (1 : Int) = 0) (pc1 := 165) (pc2 := 142) (st1 := []) rfl (fun h7 => ?_) (fun h7 => ?_)
                  · exact absurd h7 (by decide)
                  · skip
                    refine qG.blk 2 (pc' := 146) (ls' := [(2, 95), (0, 0), (0, ((i : Nat) : Int)), (0, 1), (0, 0)]) (st' := [(2, w8 95 47)]) (w' := w8) (n' := 142) rfl ?_
                    rw [show w8 95 47 = 119 from zref hI37.2.2.2 rfl rfl]
                    refine qG.blk 5 (pc' := 153) (ls' := [(2, 95), (0, 0), (0, ((i : Nat) : Int)), (0, 1), (0, 0)]) (st' := [(0, 32), (0, ((i : Nat) : Int)), (0, 0), (2, 119)]) (w' := w8) (n' := 142) rfl ?_
                    refine qG.gn (P := (32 : Int) = 0) (pc' := 154) (ls' := [(2, 95), (0, 0), (0, ((i : Nat) : Int)), (0, 1), (0, 0)]) (st' := [(0, qdiv ((i : Nat) : Int) 32), (0, 0), (2, 119)]) (w' := w8) (n' := 142) rfl (by decide) ?_
                    rw [show qdiv ((i : Nat) : Int) 32 = ((i / 32 : Nat) : Int) from (lbd i (by omega)).1]
                    refine qG.blk 1 (pc' := 155) (ls' := [(2, 95), (0, 0), (0, ((i : Nat) : Int)), (0, 1), (0, 0)]) (st' := [(0, wrp (0 + ((i / 32 : Nat) : Int))), (2, 119)]) (w' := w8) (n' := 142) rfl ?_
                    rw [show wrp (0 + ((i / 32 : Nat) : Int)) = ((i / 32 : Nat) : Int) from by rw [wrp_id (by omega) (by omega)]; omega]
                    refine qG.blk 1 (pc' := 156) (ls' := [(2, 95), (0, 0), (0, ((i : Nat) : Int)), (0, 1), (0, 0)]) (st' := [(0, ((i / 32 : Nat) : Int)), (2, 119), (0, ((i / 32 : Nat) : Int)), (2, 119)]) (w' := w8) (n' := 142) rfl ?_
                    refine qG.ild (m := 51300) rfl rfl (by omega) (by decide) ?_
                    show qG none (d + 1) 260 157 [(2, 95), (0, 0), (0, ((i : Nat) : Int)), (0, 1), (0, 0)] [(0, w8 119 (i / 32)), (0, ((i / 32 : Nat) : Int)), (2, 119)] w8 142 Q9
                    refine qG.blk 3 (pc' := 161) (ls' := [(2, 95), (0, 0), (0, ((i : Nat) : Int)), (0, 1), (0, 0)]) (st' := [(0, 32), (0, ((i : Nat) : Int)), (0, 1), (0, w8 119 (i / 32)), (0, ((i / 32 : Nat) : Int)), (2, 119)]) (w' := w8) (n' := 142) rfl ?_
                    refine qG.gn (P := (32 : Int) = 0) (pc' := 162) (ls' := [(2, 95), (0, 0), (0, ((i : Nat) : Int)), (0, 1), (0, 0)]) (st' := [(0, qrem ((i : Nat) : Int) 32), (0, 1), (0, w8 119 (i / 32)), (0, ((i / 32 : Nat) : Int)), (2, 119)]) (w' := w8) (n' := 142) rfl (by decide) ?_
                    rw [show qrem ((i : Nat) : Int) 32 = ((i % 32 : Nat) : Int) from (lbd i (by omega)).2]
                    refine qG.blk 2 (pc' := 164) (ls' := [(2, 95), (0, 0), (0, ((i : Nat) : Int)), (0, 1), (0, 0)]) (st' := [(0, qor (w8 119 (i / 32)) (qshl 1 ((i % 32 : Nat) : Int))), (0, ((i / 32 : Nat) : Int)), (2, 119)]) (w' := w8) (n' := 142) rfl ?_
                    refine qG.ist (m := 51300) rfl rfl (by omega) (by decide) ?_
                    show qG none (d + 1) 260 165 [(2, 95), (0, 0), (0, ((i : Nat) : Int)), (0, 1), (0, 0)] [] (qup w8 119 (i / 32) (qor (w8 119 (i / 32)) (qshl 1 ((i % 32 : Nat) : Int)))) 142 Q9
                    refine qG.blk 1 (pc' := 168) (ls' := [(2, 95), (0, 0), (0, wrp (((i : Nat) : Int) + 1)), (0, 1), (0, 0)]) (st' := []) (w' := (qup w8 119 (i / 32) (qor (w8 119 (i / 32)) (qshl 1 ((i % 32 : Nat) : Int))))) (n' := 142) rfl ?_
                    rw [show wrp (((i : Nat) : Int) + 1) = ((i + 1 : Nat) : Int) from wrp_id (by omega) (by omega)]
                    refine qG.blk 1 (pc' := 37) (ls' := [(2, 95), (0, 0), (0, ((i + 1 : Nat) : Int)), (0, 1), (0, 0)]) (st' := []) (w' := (qup w8 119 (i / 32) (qor (w8 119 (i / 32)) (qshl 1 ((i % 32 : Nat) : Int))))) (n' := 142) rfl ?_
                    exact ih37 _ (by omega) (i + 1) ((qup w8 119 (i / 32) (qor (w8 119 (i / 32)) (qshl 1 ((i % 32 : Nat) : Int))))) ((0, 1)) ((0, 0)) rfl (⟨by omega, hI37.2.go⟩)
              · skip
                refine qG.blk 1 (pc' := 139) (ls' := [(2, 95), (0, 0), (0, ((i : Nat) : Int)), (0, 1), (0, 0)]) (st' := [(0, 1)]) (w' := w8) (n' := 142) rfl ?_
                refine qG.br (P := (1 : Int) = 0) (pc1 := 165) (pc2 := 142) (st1 := []) rfl (fun h8 => ?_) (fun h8 => ?_)
                · exact absurd h8 (by decide)
                · skip
                  refine qG.blk 2 (pc' := 146) (ls' := [(2, 95), (0, 0), (0, ((i : Nat) : Int)), (0, 1), (0, 0)]) (st' := [(2, w8 95 47)]) (w' := w8) (n' := 142) rfl ?_
                  rw [show w8 95 47 = 119 from zref hI37.2.2.2 rfl rfl]
                  refine qG.blk 5 (pc' := 153) (ls' := [(2, 95), (0, 0), (0, ((i : Nat) : Int)), (0, 1), (0, 0)]) (st' := [(0, 32), (0, ((i : Nat) : Int)), (0, 0), (2, 119)]) (w' := w8) (n' := 142) rfl ?_
                  refine qG.gn (P := (32 : Int) = 0) (pc' := 154) (ls' := [(2, 95), (0, 0), (0, ((i : Nat) : Int)), (0, 1), (0, 0)]) (st' := [(0, qdiv ((i : Nat) : Int) 32), (0, 0), (2, 119)]) (w' := w8) (n' := 142) rfl (by decide) ?_
                  rw [show qdiv ((i : Nat) : Int) 32 = ((i / 32 : Nat) : Int) from (lbd i (by omega)).1]
                  refine qG.blk 1 (pc' := 155) (ls' := [(2, 95), (0, 0), (0, ((i : Nat) : Int)), (0, 1), (0, 0)]) (st' := [(0, wrp (0 + ((i / 32 : Nat) : Int))), (2, 119)]) (w' := w8) (n' := 142) rfl ?_
                  rw [show wrp (0 + ((i / 32 : Nat) : Int)) = ((i / 32 : Nat) : Int) from by rw [wrp_id (by omega) (by omega)]; omega]
                  refine qG.blk 1 (pc' := 156) (ls' := [(2, 95), (0, 0), (0, ((i : Nat) : Int)), (0, 1), (0, 0)]) (st' := [(0, ((i / 32 : Nat) : Int)), (2, 119), (0, ((i / 32 : Nat) : Int)), (2, 119)]) (w' := w8) (n' := 142) rfl ?_
                  refine qG.ild (m := 51300) rfl rfl (by omega) (by decide) ?_
                  show qG none (d + 1) 260 157 [(2, 95), (0, 0), (0, ((i : Nat) : Int)), (0, 1), (0, 0)] [(0, w8 119 (i / 32)), (0, ((i / 32 : Nat) : Int)), (2, 119)] w8 142 Q9
                  refine qG.blk 3 (pc' := 161) (ls' := [(2, 95), (0, 0), (0, ((i : Nat) : Int)), (0, 1), (0, 0)]) (st' := [(0, 32), (0, ((i : Nat) : Int)), (0, 1), (0, w8 119 (i / 32)), (0, ((i / 32 : Nat) : Int)), (2, 119)]) (w' := w8) (n' := 142) rfl ?_
                  refine qG.gn (P := (32 : Int) = 0) (pc' := 162) (ls' := [(2, 95), (0, 0), (0, ((i : Nat) : Int)), (0, 1), (0, 0)]) (st' := [(0, qrem ((i : Nat) : Int) 32), (0, 1), (0, w8 119 (i / 32)), (0, ((i / 32 : Nat) : Int)), (2, 119)]) (w' := w8) (n' := 142) rfl (by decide) ?_
                  rw [show qrem ((i : Nat) : Int) 32 = ((i % 32 : Nat) : Int) from (lbd i (by omega)).2]
                  refine qG.blk 2 (pc' := 164) (ls' := [(2, 95), (0, 0), (0, ((i : Nat) : Int)), (0, 1), (0, 0)]) (st' := [(0, qor (w8 119 (i / 32)) (qshl 1 ((i % 32 : Nat) : Int))), (0, ((i / 32 : Nat) : Int)), (2, 119)]) (w' := w8) (n' := 142) rfl ?_
                  refine qG.ist (m := 51300) rfl rfl (by omega) (by decide) ?_
                  show qG none (d + 1) 260 165 [(2, 95), (0, 0), (0, ((i : Nat) : Int)), (0, 1), (0, 0)] [] (qup w8 119 (i / 32) (qor (w8 119 (i / 32)) (qshl 1 ((i % 32 : Nat) : Int)))) 142 Q9
                  refine qG.blk 1 (pc' := 168) (ls' := [(2, 95), (0, 0), (0, wrp (((i : Nat) : Int) + 1)), (0, 1), (0, 0)]) (st' := []) (w' := (qup w8 119 (i / 32) (qor (w8 119 (i / 32)) (qshl 1 ((i % 32 : Nat) : Int))))) (n' := 142) rfl ?_
                  rw [show wrp (((i : Nat) : Int) + 1) = ((i + 1 : Nat) : Int) from wrp_id (by omega) (by omega)]
                  refine qG.blk 1 (pc' := 37) (ls' := [(2, 95), (0, 0), (0, ((i + 1 : Nat) : Int)), (0, 1), (0, 0)]) (st' := []) (w' := (qup w8 119 (i / 32) (qor (w8 119 (i / 32)) (qshl 1 ((i % 32 : Nat) : Int))))) (n' := 142) rfl ?_
                  exact ih37 _ (by omega) (i + 1) ((qup w8 119 (i / 32) (qor (w8 119 (i / 32)) (qshl 1 ((i % 32 : Nat) : Int))))) ((0, 1)) ((0, 0)) rfl (⟨by omega, hI37.2.go⟩)
            · exact absurd h4 (by decide)
          · skip
            refine qG.blk 1 (pc' := 174) (ls' := [(2, 95), (0, wrp (0 + (-1))), (0, ((i : Nat) : Int)), x3, x4]) (st' := []) (w' := w8) (n' := 142) rfl ?_
            rw [show wrp (0 + (-1)) = (-1) from by decide]
            refine qG.blk 2 (pc' := 6) (ls' := [(2, 95), (0, (-1)), (0, ((i : Nat) : Int)), x3, x4]) (st' := [(0, (-1))]) (w' := w8) (n' := 142) rfl ?_
            refine qG.br (P := ((-1) : Int) < 0) (pc1 := 177) (pc2 := 9) (st1 := []) rfl (fun h9 => ?_) (fun h9 => ?_)
            · skip
              refine qG.retv rfl rfl ?_
              subst hQ9
              exact ⟨rfl, rfl, (by have e9 : i = N := (by omega); rw [← e9]; exact hI37.2)⟩
            · exact absurd h9 (by decide)
        exact L37 _ (0) (w9) ((9, 0)) ((9, 0)) rfl (⟨by omega, hI11.2.1 (by omega), hI11.2.2.1, hI11.2.2.2⟩)
    exact L11 _ (0) (w) rfl (⟨by omega, fun z => absurd z (by decide), fun p i _ => rfl, hI⟩)
theorem args1r {as : List qV} {a : Int} (h : yamc [(2, a, a)] as) : as = [(2, a)] := by
  match as, h with
  | [(a1, a2)], h =>
    obtain ⟨⟨x1, x2, x3⟩, -⟩ := h
    have x1 : a1 = 2 := x1
    have x2 : a ≤ a2 := x2
    have x3 : a2 ≤ a := x3
    rw [x1, show a2 = a by omega]
theorem lbv_1 : lbG 16 = 65535 := by decide +kernel
def C_lbF_1 : Nat × yC := (260, (2, [(2, 95, 95)], (9, 0, 0), [119], [], [(95, 37, 0), (95, 8, 16)], [(119, 0, 65535)], 0, []))
theorem T_lbF_1 {w0 : qW} : yCOK w0 zgf zga zra zSp zgh C_lbF_1.1 C_lbF_1.2 := by
  intro d as w hd hm hI hn hp
  obtain rfl := args1r hm
  have hs : w 95 37 = 0 := hp (95, 37, 0) List.mem_cons_self (by decide)
  have hN : w 95 8 = ((16 : Nat) : Int) := hp (95, 8, 16) (List.mem_cons_of_mem _ List.mem_cons_self) (by decide)
  have hd : 1 ≤ d := Nat.le_trans (by decide : 1 ≤ 2) hd
  refine qG.mono (K_leadsBack hd 16 (by decide) w hI hN hs) (fun v w1 n1 hh => ?_)
  obtain ⟨rfl, rfl, h1, h2, h3⟩ := hh
  refine ⟨⟨rfl, Int.le_refl 0, Int.le_refl 0⟩, h3, rfl, fun p j hpj => ?_, fun e he => ?_, fun z => (by cases z)⟩
  · by_cases hq : p < 1000
    · have hpj := hpj hq
      exact h2 p j (fun z => (by rw [z] at hpj; cases hpj))
    · exact h2 p j (by omega)
  · rcases List.mem_cons.mp he with rfl | he
    · exact ⟨by decide, h1.trans lbv_1⟩
    · cases he
theorem lbv_2 : lbG 28 = 268435455 := by decide +kernel
def C_lbF_2 : Nat × yC := (260, (2, [(2, 95, 95)], (9, 0, 0), [119], [], [(95, 37, 0), (95, 8, 28)], [(119, 0, 268435455)], 0, []))
theorem T_lbF_2 {w0 : qW} : yCOK w0 zgf zga zra zSp zgh C_lbF_2.1 C_lbF_2.2 := by
  intro d as w hd hm hI hn hp
  obtain rfl := args1r hm
  have hs : w 95 37 = 0 := hp (95, 37, 0) List.mem_cons_self (by decide)
  have hN : w 95 8 = ((28 : Nat) : Int) := hp (95, 8, 28) (List.mem_cons_of_mem _ List.mem_cons_self) (by decide)
  have hd : 1 ≤ d := Nat.le_trans (by decide : 1 ≤ 2) hd
  refine qG.mono (K_leadsBack hd 28 (by decide) w hI hN hs) (fun v w1 n1 hh => ?_)
  obtain ⟨rfl, rfl, h1, h2, h3⟩ := hh
  refine ⟨⟨rfl, Int.le_refl 0, Int.le_refl 0⟩, h3, rfl, fun p j hpj => ?_, fun e he => ?_, fun z => (by cases z)⟩
  · by_cases hq : p < 1000
    · have hpj := hpj hq
      exact h2 p j (fun z => (by rw [z] at hpj; cases hpj))
    · exact h2 p j (by omega)
  · rcases List.mem_cons.mp he with rfl | he
    · exact ⟨by decide, h1.trans lbv_2⟩
    · cases he
theorem lbv_3 : lbG 72 = (-1) := by decide +kernel
def C_lbF_3 : Nat × yC := (260, (2, [(2, 95, 95)], (9, 0, 0), [119], [], [(95, 37, 0), (95, 8, 72)], [(119, 0, (-1))], 0, []))
theorem T_lbF_3 {w0 : qW} : yCOK w0 zgf zga zra zSp zgh C_lbF_3.1 C_lbF_3.2 := by
  intro d as w hd hm hI hn hp
  obtain rfl := args1r hm
  have hs : w 95 37 = 0 := hp (95, 37, 0) List.mem_cons_self (by decide)
  have hN : w 95 8 = ((72 : Nat) : Int) := hp (95, 8, 72) (List.mem_cons_of_mem _ List.mem_cons_self) (by decide)
  have hd : 1 ≤ d := Nat.le_trans (by decide : 1 ≤ 2) hd
  refine qG.mono (K_leadsBack hd 72 (by decide) w hI hN hs) (fun v w1 n1 hh => ?_)
  obtain ⟨rfl, rfl, h1, h2, h3⟩ := hh
  refine ⟨⟨rfl, Int.le_refl 0, Int.le_refl 0⟩, h3, rfl, fun p j hpj => ?_, fun e he => ?_, fun z => (by cases z)⟩
  · by_cases hq : p < 1000
    · have hpj := hpj hq
      exact h2 p j (fun z => (by rw [z] at hpj; cases hpj))
    · exact h2 p j (by omega)
  · rcases List.mem_cons.mp he with rfl | he
    · exact ⟨by decide, h1.trans lbv_3⟩
    · cases he
theorem lbv_4 : lbG 180 = (-1) := by decide +kernel
def C_lbF_4 : Nat × yC := (260, (2, [(2, 95, 95)], (9, 0, 0), [119], [], [(95, 37, 0), (95, 8, 180)], [(119, 0, (-1))], 0, []))
theorem T_lbF_4 {w0 : qW} : yCOK w0 zgf zga zra zSp zgh C_lbF_4.1 C_lbF_4.2 := by
  intro d as w hd hm hI hn hp
  obtain rfl := args1r hm
  have hs : w 95 37 = 0 := hp (95, 37, 0) List.mem_cons_self (by decide)
  have hN : w 95 8 = ((180 : Nat) : Int) := hp (95, 8, 180) (List.mem_cons_of_mem _ List.mem_cons_self) (by decide)
  have hd : 1 ≤ d := Nat.le_trans (by decide : 1 ≤ 2) hd
  refine qG.mono (K_leadsBack hd 180 (by decide) w hI hN hs) (fun v w1 n1 hh => ?_)
  obtain ⟨rfl, rfl, h1, h2, h3⟩ := hh
  refine ⟨⟨rfl, Int.le_refl 0, Int.le_refl 0⟩, h3, rfl, fun p j hpj => ?_, fun e he => ?_, fun z => (by cases z)⟩
  · by_cases hq : p < 1000
    · have hpj := hpj hq
      exact h2 p j (fun z => (by rw [z] at hpj; cases hpj))
    · exact h2 p j (by omega)
  · rcases List.mem_cons.mp he with rfl | he
    · exact ⟨by decide, h1.trans lbv_4⟩
    · cases he
def C_wyF_1 : Nat × yC := (261, (9, [(2, 95, 95), (0, 0, 2), (0, 0, 3), (0, 1, 1), (0, 0, 0)], (0, 1, 1), [101, 102, 103, 117, 119, 9095, 10095, 38095, 39095, 40095, 41095, 42095, 43095, 44095, 47095], [96, 99, 106, 107], [(95, 9, (-1))], [], 0, []))
theorem T_wyF_1 {w0 : qW} (hF : zF w0) : yCOK w0 zgf zga zra zSp zgh C_wyF_1.1 C_wyF_1.2 := yctr (bv := zbv) (bb := zbb) (ct := yctl [C_hdF_1, C_lbF_1]) (an := fun k pc => bif Nat.beq k 253 then (bif Nat.beq pc 6 then some ([none, none, none, none], [], []) else none) else none) (fk := fun k pc => bif Nat.beq k 257 then (bif Nat.beq pc 0 then some 1 else none) else none) (f := 100000) zgh0 (zbv_ok hF) (zbb_ok1 hF) zSp_ok (fun w hw => yctl_ok (P := fun t c => yCOK w zgf zga zra zSp zgh t c) (ylcons ((yCOK.sub (T_hdF_1 hF) (fun p hp j => hw p (yneed (by decide +kernel) hp) j)) : yCOK w zgf zga zra zSp zgh C_hdF_1.1 C_hdF_1.2) (ylcons (T_lbF_1 : yCOK w zgf zga zra zSp zgh C_lbF_1.1 C_lbF_1.2) ylnil))) (by decide +kernel)
def C_wyF_2 : Nat × yC := (261, (9, [(2, 95, 95), (0, 0, 2), (0, 0, 3), (0, 2, 2), (0, 0, 0)], (0, 3, 3), [101, 102, 103, 117, 119, 9095, 10095, 38095, 39095, 40095, 41095, 42095, 43095, 44095, 47095], [96, 99, 106, 107], [(95, 9, (-1))], [], 0, []))
theorem T_wyF_2 {w0 : qW} (hF : zF w0) : yCOK w0 zgf zga zra zSp zgh C_wyF_2.1 C_wyF_2.2 := yctr (bv := zbv) (bb := zbb) (ct := yctl [C_hdF_2, C_lbF_2]) (an := fun k pc => bif Nat.beq k 253 then (bif Nat.beq pc 6 then some ([none, none, none, none], [], []) else none) else none) (fk := fun k pc => bif Nat.beq k 257 then (bif Nat.beq pc 0 then some 1 else none) else none) (f := 100000) zgh0 (zbv_ok hF) (zbb_ok1 hF) zSp_ok (fun w hw => yctl_ok (P := fun t c => yCOK w zgf zga zra zSp zgh t c) (ylcons ((yCOK.sub (T_hdF_2 hF) (fun p hp j => hw p (yneed (by decide +kernel) hp) j)) : yCOK w zgf zga zra zSp zgh C_hdF_2.1 C_hdF_2.2) (ylcons (T_lbF_2 : yCOK w zgf zga zra zSp zgh C_lbF_2.1 C_lbF_2.2) ylnil))) (by decide +kernel)
def C_wyF_3 : Nat × yC := (261, (9, [(2, 95, 95), (0, 0, 2), (0, 0, 3), (0, 3, 3), (0, 0, 0)], (0, 7, 7), [101, 102, 103, 117, 119, 9095, 10095, 38095, 39095, 40095, 41095, 42095, 43095, 44095, 47095], [96, 99, 106, 107], [(95, 9, (-1))], [], 0, []))
theorem T_wyF_3 {w0 : qW} (hF : zF w0) : yCOK w0 zgf zga zra zSp zgh C_wyF_3.1 C_wyF_3.2 := yctr (bv := zbv) (bb := zbb) (ct := yctl [C_hdF_3, C_lbF_3]) (an := fun k pc => bif Nat.beq k 253 then (bif Nat.beq pc 6 then some ([none, none, none, none], [], []) else none) else none) (fk := fun k pc => bif Nat.beq k 257 then (bif Nat.beq pc 0 then some 1 else none) else none) (f := 100000) zgh0 (zbv_ok hF) (zbb_ok1 hF) zSp_ok (fun w hw => yctl_ok (P := fun t c => yCOK w zgf zga zra zSp zgh t c) (ylcons ((yCOK.sub (T_hdF_3 hF) (fun p hp j => hw p (yneed (by decide +kernel) hp) j)) : yCOK w zgf zga zra zSp zgh C_hdF_3.1 C_hdF_3.2) (ylcons (T_lbF_3 : yCOK w zgf zga zra zSp zgh C_lbF_3.1 C_lbF_3.2) ylnil))) (by decide +kernel)
def C_wyF_4 : Nat × yC := (261, (9, [(2, 95, 95), (0, 0, 2), (0, 0, 3), (0, 4, 4), (0, 0, 0)], (0, 15, 15), [101, 102, 103, 117, 119, 9095, 10095, 38095, 39095, 40095, 41095, 42095, 43095, 44095, 47095], [96, 99, 106, 107], [(95, 9, (-1))], [], 0, []))
theorem T_wyF_4 {w0 : qW} (hF : zF w0) : yCOK w0 zgf zga zra zSp zgh C_wyF_4.1 C_wyF_4.2 := yctr (bv := zbv) (bb := zbb) (ct := yctl [C_hdF_4, C_lbF_4]) (an := fun k pc => bif Nat.beq k 253 then (bif Nat.beq pc 6 then some ([none, none, none, none], [], []) else none) else none) (fk := fun k pc => bif Nat.beq k 257 then (bif Nat.beq pc 0 then some 1 else none) else none) (f := 100000) zgh0 (zbv_ok hF) (zbb_ok1 hF) zSp_ok (fun w hw => yctl_ok (P := fun t c => yCOK w zgf zga zra zSp zgh t c) (ylcons ((yCOK.sub (T_hdF_4 hF) (fun p hp j => hw p (yneed (by decide +kernel) hp) j)) : yCOK w zgf zga zra zSp zgh C_hdF_4.1 C_hdF_4.2) (ylcons (T_lbF_4 : yCOK w zgf zga zra zSp zgh C_lbF_4.1 C_lbF_4.2) ylnil))) (by decide +kernel)
theorem O_11 {xs : Nat → Int} (hxs : ∀ j, qi32 (xs j)) {w : qW} (hF : zF w) : qG (some (6, xs)) 200 305 33 [(3, 0), (2, 1), (2, 95), (0, 0)] [(0, 11)] w 142 (fun v _ n' => v = (0, 1) ∧ n' ≤ 142) := zlawx (ex := [(95, 9, (-1))]) (gf := zgf) (ga := zga) (ra := zra) (gh := zgh) (ct := yctl [C_ffF_64_1, C_fuF_27_1, C_wyF_1, C_ffF_64_2, C_fuF_27_2, C_wyF_2, C_ffF_64_3, C_fuF_27_3, C_wyF_3, C_ffF_64_4, C_fuF_27_4, C_wyF_4, C_ffF_69_1, C_ffF_69_2, C_ffF_69_3, C_ffF_69_4, C_ffF_74_1, C_ffF_74_2, C_ffF_74_3, C_ffF_74_4]) (an := fun _ _ => none) (fk := fun k pc => bif Nat.beq k 38 then (bif Nat.beq pc 0 then some 3 else none) else none) (f := 100000) (by decide +kernel) hxs hF (zinv1 hF) zgh0 (yctl_ok (P := fun t c => yCOK w zgf zga zra zSp zgh t c) (ylcons ((yCOK.sub (T_ffF_64_1 hF) (fun _ _ _ => rfl)) : yCOK w zgf zga zra zSp zgh C_ffF_64_1.1 C_ffF_64_1.2) (ylcons (T_fuF_27_1 : yCOK w zgf zga zra zSp zgh C_fuF_27_1.1 C_fuF_27_1.2) (ylcons ((yCOK.sub (T_wyF_1 hF) (fun _ _ _ => rfl)) : yCOK w zgf zga zra zSp zgh C_wyF_1.1 C_wyF_1.2) (ylcons ((yCOK.sub (T_ffF_64_2 hF) (fun _ _ _ => rfl)) : yCOK w zgf zga zra zSp zgh C_ffF_64_2.1 C_ffF_64_2.2) (ylcons (T_fuF_27_2 : yCOK w zgf zga zra zSp zgh C_fuF_27_2.1 C_fuF_27_2.2) (ylcons ((yCOK.sub (T_wyF_2 hF) (fun _ _ _ => rfl)) : yCOK w zgf zga zra zSp zgh C_wyF_2.1 C_wyF_2.2) (ylcons ((yCOK.sub (T_ffF_64_3 hF) (fun _ _ _ => rfl)) : yCOK w zgf zga zra zSp zgh C_ffF_64_3.1 C_ffF_64_3.2) (ylcons (T_fuF_27_3 : yCOK w zgf zga zra zSp zgh C_fuF_27_3.1 C_fuF_27_3.2) (ylcons ((yCOK.sub (T_wyF_3 hF) (fun _ _ _ => rfl)) : yCOK w zgf zga zra zSp zgh C_wyF_3.1 C_wyF_3.2) (ylcons ((yCOK.sub (T_ffF_64_4 hF) (fun _ _ _ => rfl)) : yCOK w zgf zga zra zSp zgh C_ffF_64_4.1 C_ffF_64_4.2) (ylcons (T_fuF_27_4 : yCOK w zgf zga zra zSp zgh C_fuF_27_4.1 C_fuF_27_4.2) (ylcons ((yCOK.sub (T_wyF_4 hF) (fun _ _ _ => rfl)) : yCOK w zgf zga zra zSp zgh C_wyF_4.1 C_wyF_4.2) (ylcons ((yCOK.sub (T_ffF_69_1 hF) (fun _ _ _ => rfl)) : yCOK w zgf zga zra zSp zgh C_ffF_69_1.1 C_ffF_69_1.2) (ylcons ((yCOK.sub (T_ffF_69_2 hF) (fun _ _ _ => rfl)) : yCOK w zgf zga zra zSp zgh C_ffF_69_2.1 C_ffF_69_2.2) (ylcons ((yCOK.sub (T_ffF_69_3 hF) (fun _ _ _ => rfl)) : yCOK w zgf zga zra zSp zgh C_ffF_69_3.1 C_ffF_69_3.2) (ylcons ((yCOK.sub (T_ffF_69_4 hF) (fun _ _ _ => rfl)) : yCOK w zgf zga zra zSp zgh C_ffF_69_4.1 C_ffF_69_4.2) (ylcons ((yCOK.sub (T_ffF_74_1 hF) (fun _ _ _ => rfl)) : yCOK w zgf zga zra zSp zgh C_ffF_74_1.1 C_ffF_74_1.2) (ylcons ((yCOK.sub (T_ffF_74_2 hF) (fun _ _ _ => rfl)) : yCOK w zgf zga zra zSp zgh C_ffF_74_2.1 C_ffF_74_2.2) (ylcons ((yCOK.sub (T_ffF_74_3 hF) (fun _ _ _ => rfl)) : yCOK w zgf zga zra zSp zgh C_ffF_74_3.1 C_ffF_74_3.2) (ylcons ((yCOK.sub (T_ffF_74_4 hF) (fun _ _ _ => rfl)) : yCOK w zgf zga zra zSp zgh C_ffF_74_4.1 C_ffF_74_4.2) ylnil))))))))))))))))))))) (by decide +kernel)
