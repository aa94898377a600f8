/-! what first answers -/
def ahR (Y : Nat → Int) (a b : Nat) : Bool := decide (Y a < Y b ∨ (Y a = Y b ∧ a < b))
theorem K_isWriter {d : Nat} (hd : 0 ≤ d) (a : Nat) (n : Nat) (hn9 : n ≤ 20) (w : qW) (hI : yInv zgf zga zra zSp w) (hn : w 61 2 = (n : Int)) (ha : a < n) : qG none d 159 0 [(2, 61), (0, ((a : Nat) : Int))] [] w 142 (fun (r : qV) (w1 : qW) (n1 : Nat) => r = (0, 1) ∧ w1 = w ∧ n1 = 142) := by
  generalize hQ9 : (fun (r : qV) (w1 : qW) (n1 : Nat) => r = (0, 1) ∧ w1 = w ∧ n1 = 142) = Q9
  refine qG.blk 1 (pc' := 1) (ls' := [(2, 61), (0, ((a : Nat) : Int))]) (st' := [(0, ((a : Nat) : Int))]) (w' := w) (n' := 142) rfl ?_
  refine qG.br (P := ((a : Nat) : Int) < 0) (pc1 := 22) (pc2 := 4) (st1 := []) rfl (fun h1 => ?_) (fun h1 => ?_)
  · skip
    refine qG.blk 1 (pc' := 23) (ls' := [(2, 61), (0, ((a : Nat) : Int))]) (st' := [(0, 0)]) (w' := w) (n' := 142) rfl ?_
    refine qG.ret rfl (by first | rfl | exact decide_eq_true (by omega)) ?_
    subst hQ9
    first | exact ⟨rfl, rfl, rfl⟩ | (exfalso; omega)
  · skip
    refine qG.blk 3 (pc' := 9) (ls' := [(2, 61), (0, ((a : Nat) : Int))]) (st' := [(0, w 61 2), (0, ((a : Nat) : Int))]) (w' := w) (n' := 142) rfl ?_
    rw [show w 61 2 = ((n : Nat) : Int) from hn]
    refine qG.br (P := ((a : Nat) : Int) < ((n : Nat) : Int)) (pc1 := 12) (pc2 := 22) (st1 := []) rfl (fun h2 => ?_) (fun h2 => ?_)
    · skip
      refine qG.blk 2 (pc' := 15) (ls' := [(2, 61), (0, ((a : Nat) : Int))]) (st' := [(0, 20), (0, ((a : Nat) : Int))]) (w' := w) (n' := 142) rfl ?_
      refine qG.br (P := ((a : Nat) : Int) < 20) (pc1 := 18) (pc2 := 22) (st1 := []) rfl (fun h3 => ?_) (fun h3 => ?_)
      · skip
        refine qG.blk 2 (pc' := 23) (ls' := [(2, 61), (0, ((a : Nat) : Int))]) (st' := [(0, 1)]) (w' := w) (n' := 142) rfl ?_
        refine qG.ret rfl (by first | rfl | exact decide_eq_true (by omega)) ?_
        subst hQ9
        first | exact ⟨rfl, rfl, rfl⟩ | (exfalso; omega)
      · skip
        refine qG.blk 1 (pc' := 23) (ls' := [(2, 61), (0, ((a : Nat) : Int))]) (st' := [(0, 0)]) (w' := w) (n' := 142) rfl ?_
        refine qG.ret rfl (by first | rfl | exact decide_eq_true (by omega)) ?_
        subst hQ9
        first | exact ⟨rfl, rfl, rfl⟩ | (exfalso; omega)
    · skip
      refine qG.blk 1 (pc' := 23) (ls' := [(2, 61), (0, ((a : Nat) : Int))]) (st' := [(0, 0)]) (w' := w) (n' := 142) rfl ?_
      refine qG.ret rfl (by first | rfl | exact decide_eq_true (by omega)) ?_
      subst hQ9
      first | exact ⟨rfl, rfl, rfl⟩ | (exfalso; omega)
theorem K_wroteBefore {d : Nat} (hd : 1 ≤ d) (a b : Nat) (n : Nat) (hn9 : n ≤ 20) (w : qW) (hI : yInv zgf zga zra zSp w) (hn : w 61 2 = (n : Int)) (ha : a < n) (hb : b < n) : qG none d 160 0 [(2, 61), (0, ((a : Nat) : Int)), (0, ((b : Nat) : Int))] [] w 142 (fun (r : qV) (w1 : qW) (n1 : Nat) => r = (0, if ahR (w 62) a b = true then 1 else 0) ∧ w1 = w ∧ n1 = 142) := by
  generalize hQ9 : (fun (r : qV) (w1 : qW) (n1 : Nat) => r = (0, if ahR (w 62) a b = true then 1 else 0) ∧ w1 = w ∧ n1 = 142) = Q9
  obtain ⟨d, rfl⟩ : ∃ d9, d = d9 + 1 := ⟨d - 1, by omega⟩
  refine qG.blk 2 (pc' := 2) (ls' := [(2, 61), (0, ((a : Nat) : Int)), (0, ((b : Nat) : Int))]) (st' := [(0, ((a : Nat) : Int)), (2, 61)]) (w' := w) (n' := 142) rfl ?_
  refine qG.call (t := 159) (na := 2) (sk := 1) (md := 1) (ls1 := [(2, 61), (0, ((a : Nat) : Int))]) (r1 := []) rfl rfl rfl rfl rfl (K_isWriter (by omega) a n hn9 w hI hn (by omega)) ?_
  rintro _ w7 _ ⟨rfl, hw7, rfl⟩
  rw [hw7]
  show qG none (d + 1) 160 5 [(2, 61), (0, ((a : Nat) : Int)), (0, ((b : Nat) : Int))] [(0, 1)] w 142 Q9
  refine qG.br (P := (1 : Int) = 0) (pc1 := 16) (pc2 := 8) (st1 := []) rfl (fun h1 => ?_) (fun h1 => ?_)
  · exact absurd h1 (by decide)
  · skip
    refine qG.blk 2 (pc' := 10) (ls' := [(2, 61), (0, ((a : Nat) : Int)), (0, ((b : Nat) : Int))]) (st' := [(0, ((b : Nat) : Int)), (2, 61)]) (w' := w) (n' := 142) rfl ?_
    refine qG.call (t := 159) (na := 2) (sk := 1) (md := 1) (ls1 := [(2, 61), (0, ((b : Nat) : Int))]) (r1 := []) rfl rfl rfl rfl rfl (K_isWriter (by omega) b n hn9 w hI hn (by omega)) ?_
    rintro _ w7 _ ⟨rfl, hw7, rfl⟩
    rw [hw7]
    show qG none (d + 1) 160 13 [(2, 61), (0, ((a : Nat) : Int)), (0, ((b : Nat) : Int))] [(0, 1)] w 142 Q9
    refine qG.br (P := (1 : Int) = 0) (pc1 := 16) (pc2 := 18) (st1 := []) rfl (fun h2 => ?_) (fun h2 => ?_)
    · exact absurd h2 (by decide)
    · skip
      refine qG.blk 2 (pc' := 22) (ls' := [(2, 61), (0, ((a : Nat) : Int)), (0, ((b : Nat) : Int))]) (st' := [(2, w 61 0)]) (w' := w) (n' := 142) rfl ?_
      rw [show w 61 0 = 62 from zref hI rfl rfl]
      refine qG.blk 1 (pc' := 23) (ls' := [(2, 61), (0, ((a : Nat) : Int)), (0, ((b : Nat) : Int))]) (st' := [(0, ((a : Nat) : Int)), (2, 62)]) (w' := w) (n' := 142) rfl ?_
      refine qG.ar (P := 0 ≤ ((a : Nat) : Int) ∧ ((a : Nat) : Int) < ((20 : Nat) : Int)) (P2 := 0 < (62 : Int) ∧ (62 : Int) ≤ ((142 : Nat) : Int)) (pc' := 24) (ls' := [(2, 61), (0, ((a : Nat) : Int)), (0, ((b : Nat) : Int))]) (st' := [(0, w 62 a)]) (w' := w) (n' := 142) rfl (by omega) (by decide) ?_
      refine qG.blk 2 (pc' := 28) (ls' := [(2, 61), (0, ((a : Nat) : Int)), (0, ((b : Nat) : Int))]) (st' := [(2, w 61 0), (0, w 62 a)]) (w' := w) (n' := 142) rfl ?_
      rw [show w 61 0 = 62 from zref hI rfl rfl]
      refine qG.blk 1 (pc' := 29) (ls' := [(2, 61), (0, ((a : Nat) : Int)), (0, ((b : Nat) : Int))]) (st' := [(0, ((b : Nat) : Int)), (2, 62), (0, w 62 a)]) (w' := w) (n' := 142) rfl ?_
      refine qG.ar (P := 0 ≤ ((b : Nat) : Int) ∧ ((b : Nat) : Int) < ((20 : Nat) : Int)) (P2 := 0 < (62 : Int) ∧ (62 : Int) ≤ ((142 : Nat) : Int)) (pc' := 30) (ls' := [(2, 61), (0, ((a : Nat) : Int)), (0, ((b : Nat) : Int))]) (st' := [(0, w 62 b), (0, w 62 a)]) (w' := w) (n' := 142) rfl (by omega) (by decide) ?_
      refine qG.br (P := w 62 a < w 62 b) (pc1 := 53) (pc2 := 33) (st1 := []) rfl (fun h1 => ?_) (fun h1 => ?_)
      · skip
        refine qG.blk 2 (pc' := 58) (ls' := [(2, 61), (0, ((a : Nat) : Int)), (0, ((b : Nat) : Int))]) (st' := [(0, 1)]) (w' := w) (n' := 142) rfl ?_
        refine qG.ret rfl (by first | rfl | exact decide_eq_true (by omega)) ?_
        subst hQ9
        exact ⟨congrArg (Prod.mk (0 : Nat)) (by unfold ahR; first | exact (if_pos (decide_eq_true (by omega))).symm | exact (if_neg (by rw [decide_eq_true_eq]; omega)).symm), rfl, rfl⟩
      · skip
        refine qG.blk 2 (pc' := 37) (ls' := [(2, 61), (0, ((a : Nat) : Int)), (0, ((b : Nat) : Int))]) (st' := [(2, w 61 0)]) (w' := w) (n' := 142) rfl ?_
        rw [show w 61 0 = 62 from zref hI rfl rfl]
        refine qG.blk 1 (pc' := 38) (ls' := [(2, 61), (0, ((a : Nat) : Int)), (0, ((b : Nat) : Int))]) (st' := [(0, ((a : Nat) : Int)), (2, 62)]) (w' := w) (n' := 142) rfl ?_
        refine qG.ar (P := 0 ≤ ((a : Nat) : Int) ∧ ((a : Nat) : Int) < ((20 : Nat) : Int)) (P2 := 0 < (62 : Int) ∧ (62 : Int) ≤ ((142 : Nat) : Int)) (pc' := 39) (ls' := [(2, 61), (0, ((a : Nat) : Int)), (0, ((b : Nat) : Int))]) (st' := [(0, w 62 a)]) (w' := w) (n' := 142) rfl (by omega) (by decide) ?_
        refine qG.blk 2 (pc' := 43) (ls' := [(2, 61), (0, ((a : Nat) : Int)), (0, ((b : Nat) : Int))]) (st' := [(2, w 61 0), (0, w 62 a)]) (w' := w) (n' := 142) rfl ?_
        rw [show w 61 0 = 62 from zref hI rfl rfl]
        refine qG.blk 1 (pc' := 44) (ls' := [(2, 61), (0, ((a : Nat) : Int)), (0, ((b : Nat) : Int))]) (st' := [(0, ((b : Nat) : Int)), (2, 62), (0, w 62 a)]) (w' := w) (n' := 142) rfl ?_
        refine qG.ar (P := 0 ≤ ((b : Nat) : Int) ∧ ((b : Nat) : Int) < ((20 : Nat) : Int)) (P2 := 0 < (62 : Int) ∧ (62 : Int) ≤ ((142 : Nat) : Int)) (pc' := 45) (ls' := [(2, 61), (0, ((a : Nat) : Int)), (0, ((b : Nat) : Int))]) (st' := [(0, w 62 b), (0, w 62 a)]) (w' := w) (n' := 142) rfl (by omega) (by decide) ?_
        refine qG.br (P := w 62 a = w 62 b) (pc1 := 48) (pc2 := 57) (st1 := []) rfl (fun h2 => ?_) (fun h2 => ?_)
        · skip
          refine qG.blk 2 (pc' := 50) (ls' := [(2, 61), (0, ((a : Nat) : Int)), (0, ((b : Nat) : Int))]) (st' := [(0, ((b : Nat) : Int)), (0, ((a : Nat) : Int))]) (w' := w) (n' := 142) rfl ?_
          refine qG.br (P := ((a : Nat) : Int) < ((b : Nat) : Int)) (pc1 := 53) (pc2 := 57) (st1 := []) rfl (fun h3 => ?_) (fun h3 => ?_)
          · skip
            refine qG.blk 2 (pc' := 58) (ls' := [(2, 61), (0, ((a : Nat) : Int)), (0, ((b : Nat) : Int))]) (st' := [(0, 1)]) (w' := w) (n' := 142) rfl ?_
            refine qG.ret rfl (by first | rfl | exact decide_eq_true (by omega)) ?_
            subst hQ9
            exact ⟨congrArg (Prod.mk (0 : Nat)) (by unfold ahR; first | exact (if_pos (decide_eq_true (by omega))).symm | exact (if_neg (by rw [decide_eq_true_eq]; omega)).symm), rfl, rfl⟩
          · skip
            refine qG.blk 1 (pc' := 58) (ls' := [(2, 61), (0, ((a : Nat) : Int)), (0, ((b : Nat) : Int))]) (st' := [(0, 0)]) (w' := w) (n' := 142) rfl ?_
            refine qG.ret rfl (by first | rfl | exact decide_eq_true (by omega)) ?_
            subst hQ9
            exact ⟨congrArg (Prod.mk (0 : Nat)) (by unfold ahR; first | exact (if_pos (decide_eq_true (by omega))).symm | exact (if_neg (by rw [decide_eq_true_eq]; omega)).symm), rfl, rfl⟩
        · skip
          refine qG.blk 1 (pc' := 58) (ls' := [(2, 61), (0, ((a : Nat) : Int)), (0, ((b : Nat) : Int))]) (st' := [(0, 0)]) (w' := w) (n' := 142) rfl ?_
          refine qG.ret rfl (by first | rfl | exact decide_eq_true (by omega)) ?_
          subst hQ9
          exact ⟨congrArg (Prod.mk (0 : Nat)) (by unfold ahR; first | exact (if_pos (decide_eq_true (by omega))).symm | exact (if_neg (by rw [decide_eq_true_eq]; omega)).symm), rfl, rfl⟩
