/-! the class's shows run -/
theorem ushr_b {m j : Nat} (hm : m < 1024) (hj : j < 10) : qand (qush (m : Int) (j : Int)) 1 = qand (qshr (m : Int) (j : Int)) 1 := by
  have q : qand ((m / 2 ^ j : Nat) : Int) 1 = ((m / 2 ^ j &&& 1 : Nat) : Int) := qand_n (a := m / 2 ^ j) (b := 1) (by have := Nat.div_le_self m (2 ^ j); omega) (by omega)
  rw [hb_bit (by omega) (by omega), qush_n (by omega) (by omega), q, Nat.and_one_is_mod, Nat.testBit_eq_decide_div_mod_eq]
  by_cases h : m / 2 ^ j % 2 = 1
  · rw [h, if_pos (decide_eq_true rfl)]; rfl
  · rw [if_neg (fun z => h (of_decide_eq_true z)), show m / 2 ^ j % 2 = 0 by omega]; rfl
theorem K_sideOf64 {d : Nat} (hd : 0 ≤ d) (dd : Nat) (hd10 : dd < 10) (w : qW) (hI : yInv zgf zga zra zSp w) (hE : JE w) : qG none d 26 0 [(2, 64), (0, ((dd : Nat) : Int))] [] w 142 (fun (r : qV) (w1 : qW) (n1 : Nat) => r = (0, w 97 (10 * 0 + dd)) ∧ w1 = w ∧ n1 = 142) := by
  generalize hQ9 : (fun (r : qV) (w1 : qW) (n1 : Nat) => r = (0, w 97 (10 * 0 + dd)) ∧ w1 = w ∧ n1 = 142) = Q9
  refine qG.blk 1 (pc' := 1) (ls' := [(2, 64), (0, ((dd : Nat) : Int))]) (st' := [(0, ((dd : Nat) : Int))]) (w' := w) (n' := 142) rfl ?_
  refine qG.br (P := ((dd : Nat) : Int) < 0) (pc1 := 19) (pc2 := 4) (st1 := []) rfl (fun hq1 => ?_) (fun hq1 => ?_)
  · exfalso; omega
  · skip
    refine qG.blk 2 (pc' := 7) (ls' := [(2, 64), (0, ((dd : Nat) : Int))]) (st' := [(0, 10), (0, ((dd : Nat) : Int))]) (w' := w) (n' := 142) rfl ?_
    refine qG.br (P := ((dd : Nat) : Int) < 10) (pc1 := 10) (pc2 := 19) (st1 := []) rfl (fun hq7 => ?_) (fun hq7 => ?_)
    · skip
      refine qG.blk 2 (pc' := 14) (ls' := [(2, 64), (0, ((dd : Nat) : Int))]) (st' := [(2, w 64 3)]) (w' := w) (n' := 142) rfl ?_
      rw [show w 64 3 = 66 from zref hI rfl rfl]
      refine qG.blk 1 (pc' := 15) (ls' := [(2, 64), (0, ((dd : Nat) : Int))]) (st' := [(0, ((dd : Nat) : Int)), (2, 66)]) (w' := w) (n' := 142) rfl ?_
      refine qG.ar (P := 0 ≤ ((dd : Nat) : Int) ∧ ((dd : Nat) : Int) < ((10 : Nat) : Int)) (P2 := 0 < (66 : Int) ∧ (66 : Int) ≤ ((142 : Nat) : Int)) (pc' := 16) (ls' := [(2, 64), (0, ((dd : Nat) : Int))]) (st' := [(0, w 66 dd)]) (w' := w) (n' := 142) rfl (by omega) (by decide) ?_
      rw [show w 66 dd = w 97 (10 * 0 + dd) from (hE 0 dd (by decide) (by omega)).1.1]
      refine qG.blk 1 (pc' := 20) (ls' := [(2, 64), (0, ((dd : Nat) : Int))]) (st' := [(0, w 97 (10 * 0 + dd))]) (w' := w) (n' := 142) rfl ?_
      refine qG.ret rfl rfl ?_
      subst hQ9
      exact ⟨rfl, rfl, rfl⟩
    · exfalso; omega
theorem K_sideOf69 {d : Nat} (hd : 0 ≤ d) (dd : Nat) (hd10 : dd < 10) (w : qW) (hI : yInv zgf zga zra zSp w) (hE : JE w) : qG none d 26 0 [(2, 69), (0, ((dd : Nat) : Int))] [] w 142 (fun (r : qV) (w1 : qW) (n1 : Nat) => r = (0, w 97 (10 * 1 + dd)) ∧ w1 = w ∧ n1 = 142) := by
  generalize hQ9 : (fun (r : qV) (w1 : qW) (n1 : Nat) => r = (0, w 97 (10 * 1 + dd)) ∧ w1 = w ∧ n1 = 142) = Q9
  refine qG.blk 1 (pc' := 1) (ls' := [(2, 69), (0, ((dd : Nat) : Int))]) (st' := [(0, ((dd : Nat) : Int))]) (w' := w) (n' := 142) rfl ?_
  refine qG.br (P := ((dd : Nat) : Int) < 0) (pc1 := 19) (pc2 := 4) (st1 := []) rfl (fun hq1 => ?_) (fun hq1 => ?_)
  · exfalso; omega
  · skip
    refine qG.blk 2 (pc' := 7) (ls' := [(2, 69), (0, ((dd : Nat) : Int))]) (st' := [(0, 10), (0, ((dd : Nat) : Int))]) (w' := w) (n' := 142) rfl ?_
    refine qG.br (P := ((dd : Nat) : Int) < 10) (pc1 := 10) (pc2 := 19) (st1 := []) rfl (fun hq7 => ?_) (fun hq7 => ?_)
    · skip
      refine qG.blk 2 (pc' := 14) (ls' := [(2, 69), (0, ((dd : Nat) : Int))]) (st' := [(2, w 69 3)]) (w' := w) (n' := 142) rfl ?_
      rw [show w 69 3 = 71 from zref hI rfl rfl]
      refine qG.blk 1 (pc' := 15) (ls' := [(2, 69), (0, ((dd : Nat) : Int))]) (st' := [(0, ((dd : Nat) : Int)), (2, 71)]) (w' := w) (n' := 142) rfl ?_
      refine qG.ar (P := 0 ≤ ((dd : Nat) : Int) ∧ ((dd : Nat) : Int) < ((10 : Nat) : Int)) (P2 := 0 < (71 : Int) ∧ (71 : Int) ≤ ((142 : Nat) : Int)) (pc' := 16) (ls' := [(2, 69), (0, ((dd : Nat) : Int))]) (st' := [(0, w 71 dd)]) (w' := w) (n' := 142) rfl (by omega) (by decide) ?_
      rw [show w 71 dd = w 97 (10 * 1 + dd) from (hE 1 dd (by decide) (by omega)).1.1]
      refine qG.blk 1 (pc' := 20) (ls' := [(2, 69), (0, ((dd : Nat) : Int))]) (st' := [(0, w 97 (10 * 1 + dd))]) (w' := w) (n' := 142) rfl ?_
      refine qG.ret rfl rfl ?_
      subst hQ9
      exact ⟨rfl, rfl, rfl⟩
    · exfalso; omega
theorem K_sideOf74 {d : Nat} (hd : 0 ≤ d) (dd : Nat) (hd10 : dd < 10) (w : qW) (hI : yInv zgf zga zra zSp w) (hE : JE w) : qG none d 26 0 [(2, 74), (0, ((dd : Nat) : Int))] [] w 142 (fun (r : qV) (w1 : qW) (n1 : Nat) => r = (0, w 97 (10 * 2 + dd)) ∧ w1 = w ∧ n1 = 142) := by
  generalize hQ9 : (fun (r : qV) (w1 : qW) (n1 : Nat) => r = (0, w 97 (10 * 2 + dd)) ∧ w1 = w ∧ n1 = 142) = Q9
  refine qG.blk 1 (pc' := 1) (ls' := [(2, 74), (0, ((dd : Nat) : Int))]) (st' := [(0, ((dd : Nat) : Int))]) (w' := w) (n' := 142) rfl ?_
  refine qG.br (P := ((dd : Nat) : Int) < 0) (pc1 := 19) (pc2 := 4) (st1 := []) rfl (fun hq1 => ?_) (fun hq1 => ?_)
  · exfalso; omega
  · skip
    refine qG.blk 2 (pc' := 7) (ls' := [(2, 74), (0, ((dd : Nat) : Int))]) (st' := [(0, 10), (0, ((dd : Nat) : Int))]) (w' := w) (n' := 142) rfl ?_
    refine qG.br (P := ((dd : Nat) : Int) < 10) (pc1 := 10) (pc2 := 19) (st1 := []) rfl (fun hq7 => ?_) (fun hq7 => ?_)
    · skip
      refine qG.blk 2 (pc' := 14) (ls' := [(2, 74), (0, ((dd : Nat) : Int))]) (st' := [(2, w 74 3)]) (w' := w) (n' := 142) rfl ?_
      rw [show w 74 3 = 76 from zref hI rfl rfl]
      refine qG.blk 1 (pc' := 15) (ls' := [(2, 74), (0, ((dd : Nat) : Int))]) (st' := [(0, ((dd : Nat) : Int)), (2, 76)]) (w' := w) (n' := 142) rfl ?_
      refine qG.ar (P := 0 ≤ ((dd : Nat) : Int) ∧ ((dd : Nat) : Int) < ((10 : Nat) : Int)) (P2 := 0 < (76 : Int) ∧ (76 : Int) ≤ ((142 : Nat) : Int)) (pc' := 16) (ls' := [(2, 74), (0, ((dd : Nat) : Int))]) (st' := [(0, w 76 dd)]) (w' := w) (n' := 142) rfl (by omega) (by decide) ?_
      rw [show w 76 dd = w 97 (10 * 2 + dd) from (hE 2 dd (by decide) (by omega)).1.1]
      refine qG.blk 1 (pc' := 20) (ls' := [(2, 74), (0, ((dd : Nat) : Int))]) (st' := [(0, w 97 (10 * 2 + dd))]) (w' := w) (n' := 142) rfl ?_
      refine qG.ret rfl rfl ?_
      subst hQ9
      exact ⟨rfl, rfl, rfl⟩
    · exfalso; omega
/-- the class's show p behind i steps -/
noncomputable def CHP (p c : Nat) (w : qW) (K N : Nat → Int) (i : Nat) (w1 : qW) : Prop := w1 p 4 = oF K N i ∧ w1 p 5 = caF K N i ∧ w1 p 6 = sdF K i ∧ w1 p 7 = asF w c K N i ∧ w1 p 8 = moF K N i ∧ w1 p 9 = tuF K i ∧ (∀ t, t < i → w1 (p + 3) t = vwF w c K N t) ∧ ∀ q j, q ≠ p + 3 → ¬ (q = p ∧ 4 ≤ j ∧ j ≤ 9) → w1 q j = w q j
/-- kinds and numbers of a told show -/
noncomputable def KNr (K N : Nat → Int) (L : Nat) : Prop := ∀ i, i < L → (0 ≤ K i ∧ K i ≤ 5) ∧ (K i = 0 ∨ K i = 1 → 0 ≤ N i ∧ N i ≤ 9)
