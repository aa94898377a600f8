/-! what the class tells of a show -/
/-- waits are 0 .. 20 -/
def KNw (K N : Nat → Int) (L : Nat) : Prop := ∀ i, i < L → K i = 2 → 0 ≤ N i ∧ N i ≤ 20
theorem sc_s {K N : Nat → Int} {L i : Nat} (h : KNw K N L) (hi : i < L) : ((scF K N (i + 1) : Nat) : Int) = ((scF K N i : Nat) : Int) + (if K i = 2 then N i else 1) := by
  show ((scF K N i + dN (K i) (N i) : Nat) : Int) = _
  unfold dN
  by_cases e : K i = 2
  · have q := h i hi e
    rw [if_pos e, if_pos e]; omega
  · rw [if_neg e, if_neg e]; omega
theorem sc_le {K N : Nat → Int} {L : Nat} (h : KNw K N L) : ∀ i, i ≤ L → scF K N i ≤ 20 * i
  | 0, _ => Nat.le_refl _
  | i + 1, hi => by
    have ih := sc_le h i (by omega)
    have q := sc_s h (show i < L by omega)
    by_cases e : K i = 2
    · have z := h i (by omega) e
      rw [if_pos e] at q; omega
    · rw [if_neg e] at q; omega
theorem K_secs4 {d : Nat} (hd : 0 ≤ d) (i : Nat) (L : Nat) (hL : L ≤ 40) (w : qW) (hI : yInv zgf zga zra zSp w) (hs : w 4 2 = (L : Int)) (hi : i < L) : qG none d 114 0 [(2, 4), (0, ((i : Nat) : Int))] [] w 142 (fun (r : qV) (w1 : qW) (n1 : Nat) => r = (0, if w 5 i = 2 then w 6 i else 1) ∧ w1 = w ∧ n1 = 142) := by
  generalize hQ9 : (fun (r : qV) (w1 : qW) (n1 : Nat) => r = (0, if w 5 i = 2 then w 6 i else 1) ∧ w1 = w ∧ n1 = 142) = Q9
  refine qG.blk 1 (pc' := 1) (ls' := [(2, 4), (0, ((i : Nat) : Int))]) (st' := [(0, ((i : Nat) : Int))]) (w' := w) (n' := 142) rfl ?_
  refine qG.br (P := ((i : Nat) : Int) < 0) (pc1 := 18) (pc2 := 4) (st1 := []) rfl (fun hq1 => ?_) (fun hq1 => ?_)
  · exfalso; omega
  · skip
    refine qG.blk 3 (pc' := 9) (ls' := [(2, 4), (0, ((i : Nat) : Int))]) (st' := [(0, w 4 2), (0, ((i : Nat) : Int))]) (w' := w) (n' := 142) rfl ?_
    rw [show w 4 2 = ((L : Nat) : Int) from hs]
    refine qG.br (P := ((i : Nat) : Int) < ((L : Nat) : Int)) (pc1 := 12) (pc2 := 18) (st1 := []) rfl (fun hq9 => ?_) (fun hq9 => ?_)
    · skip
      refine qG.blk 2 (pc' := 15) (ls' := [(2, 4), (0, ((i : Nat) : Int))]) (st' := [(0, 40), (0, ((i : Nat) : Int))]) (w' := w) (n' := 142) rfl ?_
      refine qG.br (P := ((i : Nat) : Int) < 40) (pc1 := 20) (pc2 := 18) (st1 := []) rfl (fun hq15 => ?_) (fun hq15 => ?_)
      · skip
        refine qG.blk 2 (pc' := 24) (ls' := [(2, 4), (0, ((i : Nat) : Int))]) (st' := [(2, w 4 0)]) (w' := w) (n' := 142) rfl ?_
        rw [show w 4 0 = 5 from zref hI rfl rfl]
        refine qG.blk 1 (pc' := 25) (ls' := [(2, 4), (0, ((i : Nat) : Int))]) (st' := [(0, ((i : Nat) : Int)), (2, 5)]) (w' := w) (n' := 142) rfl ?_
        refine qG.ar (P := 0 ≤ ((i : Nat) : Int) ∧ ((i : Nat) : Int) < ((40 : Nat) : Int)) (P2 := 0 < (5 : Int) ∧ (5 : Int) ≤ ((142 : Nat) : Int)) (pc' := 26) (ls' := [(2, 4), (0, ((i : Nat) : Int))]) (st' := [(0, w 5 i)]) (w' := w) (n' := 142) rfl (by omega) (by decide) ?_
        refine qG.blk 1 (pc' := 27) (ls' := [(2, 4), (0, ((i : Nat) : Int))]) (st' := [(0, 2), (0, w 5 i)]) (w' := w) (n' := 142) rfl ?_
        refine qG.br (P := w 5 i = 2) (pc1 := 30) (pc2 := 39) (st1 := []) rfl (fun hk => ?_) (fun hk => ?_)
        · skip
          refine qG.blk 2 (pc' := 34) (ls' := [(2, 4), (0, ((i : Nat) : Int))]) (st' := [(2, w 4 1)]) (w' := w) (n' := 142) rfl ?_
          rw [show w 4 1 = 6 from zref hI rfl rfl]
          refine qG.blk 1 (pc' := 35) (ls' := [(2, 4), (0, ((i : Nat) : Int))]) (st' := [(0, ((i : Nat) : Int)), (2, 6)]) (w' := w) (n' := 142) rfl ?_
          refine qG.ar (P := 0 ≤ ((i : Nat) : Int) ∧ ((i : Nat) : Int) < ((40 : Nat) : Int)) (P2 := 0 < (6 : Int) ∧ (6 : Int) ≤ ((142 : Nat) : Int)) (pc' := 36) (ls' := [(2, 4), (0, ((i : Nat) : Int))]) (st' := [(0, w 6 i)]) (w' := w) (n' := 142) rfl (by omega) (by decide) ?_
          refine qG.blk 1 (pc' := 40) (ls' := [(2, 4), (0, ((i : Nat) : Int))]) (st' := [(0, w 6 i)]) (w' := w) (n' := 142) rfl ?_
          refine qG.ret rfl rfl ?_
          subst hQ9
          first | exact ⟨congrArg (Prod.mk 0) (if_pos hk).symm, rfl, rfl⟩ | exact ⟨congrArg (Prod.mk 0) (if_neg hk).symm, rfl, rfl⟩
        · skip
          refine qG.blk 1 (pc' := 40) (ls' := [(2, 4), (0, ((i : Nat) : Int))]) (st' := [(0, 1)]) (w' := w) (n' := 142) rfl ?_
          refine qG.ret rfl rfl ?_
          subst hQ9
          first | exact ⟨congrArg (Prod.mk 0) (if_pos hk).symm, rfl, rfl⟩ | exact ⟨congrArg (Prod.mk 0) (if_neg hk).symm, rfl, rfl⟩
      · exfalso; omega
    · exfalso; omega
theorem K_secs79 {d : Nat} (hd : 0 ≤ d) (i : Nat) (L : Nat) (hL : L ≤ 40) (w : qW) (hI : yInv zgf zga zra zSp w) (hs : w 79 2 = (L : Int)) (hi : i < L) : qG none d 114 0 [(2, 79), (0, ((i : Nat) : Int))] [] w 142 (fun (r : qV) (w1 : qW) (n1 : Nat) => r = (0, if w 80 i = 2 then w 81 i else 1) ∧ w1 = w ∧ n1 = 142) := by
  generalize hQ9 : (fun (r : qV) (w1 : qW) (n1 : Nat) => r = (0, if w 80 i = 2 then w 81 i else 1) ∧ w1 = w ∧ n1 = 142) = Q9
  refine qG.blk 1 (pc' := 1) (ls' := [(2, 79), (0, ((i : Nat) : Int))]) (st' := [(0, ((i : Nat) : Int))]) (w' := w) (n' := 142) rfl ?_
  refine qG.br (P := ((i : Nat) : Int) < 0) (pc1 := 18) (pc2 := 4) (st1 := []) rfl (fun hq1 => ?_) (fun hq1 => ?_)
  · exfalso; omega
  · skip
    refine qG.blk 3 (pc' := 9) (ls' := [(2, 79), (0, ((i : Nat) : Int))]) (st' := [(0, w 79 2), (0, ((i : Nat) : Int))]) (w' := w) (n' := 142) rfl ?_
    rw [show w 79 2 = ((L : Nat) : Int) from hs]
    refine qG.br (P := ((i : Nat) : Int) < ((L : Nat) : Int)) (pc1 := 12) (pc2 := 18) (st1 := []) rfl (fun hq9 => ?_) (fun hq9 => ?_)
    · skip
      refine qG.blk 2 (pc' := 15) (ls' := [(2, 79), (0, ((i : Nat) : Int))]) (st' := [(0, 40), (0, ((i : Nat) : Int))]) (w' := w) (n' := 142) rfl ?_
      refine qG.br (P := ((i : Nat) : Int) < 40) (pc1 := 20) (pc2 := 18) (st1 := []) rfl (fun hq15 => ?_) (fun hq15 => ?_)
      · skip
        refine qG.blk 2 (pc' := 24) (ls' := [(2, 79), (0, ((i : Nat) : Int))]) (st' := [(2, w 79 0)]) (w' := w) (n' := 142) rfl ?_
        rw [show w 79 0 = 80 from zref hI rfl rfl]
        refine qG.blk 1 (pc' := 25) (ls' := [(2, 79), (0, ((i : Nat) : Int))]) (st' := [(0, ((i : Nat) : Int)), (2, 80)]) (w' := w) (n' := 142) rfl ?_
        refine qG.ar (P := 0 ≤ ((i : Nat) : Int) ∧ ((i : Nat) : Int) < ((40 : Nat) : Int)) (P2 := 0 < (80 : Int) ∧ (80 : Int) ≤ ((142 : Nat) : Int)) (pc' := 26) (ls' := [(2, 79), (0, ((i : Nat) : Int))]) (st' := [(0, w 80 i)]) (w' := w) (n' := 142) rfl (by omega) (by decide) ?_
        refine qG.blk 1 (pc' := 27) (ls' := [(2, 79), (0, ((i : Nat) : Int))]) (st' := [(0, 2), (0, w 80 i)]) (w' := w) (n' := 142) rfl ?_
        refine qG.br (P := w 80 i = 2) (pc1 := 30) (pc2 := 39) (st1 := []) rfl (fun hk => ?_) (fun hk => ?_)
        · skip
          refine qG.blk 2 (pc' := 34) (ls' := [(2, 79), (0, ((i : Nat) : Int))]) (st' := [(2, w 79 1)]) (w' := w) (n' := 142) rfl ?_
          rw [show w 79 1 = 81 from zref hI rfl rfl]
          refine qG.blk 1 (pc' := 35) (ls' := [(2, 79), (0, ((i : Nat) : Int))]) (st' := [(0, ((i : Nat) : Int)), (2, 81)]) (w' := w) (n' := 142) rfl ?_
          refine qG.ar (P := 0 ≤ ((i : Nat) : Int) ∧ ((i : Nat) : Int) < ((40 : Nat) : Int)) (P2 := 0 < (81 : Int) ∧ (81 : Int) ≤ ((142 : Nat) : Int)) (pc' := 36) (ls' := [(2, 79), (0, ((i : Nat) : Int))]) (st' := [(0, w 81 i)]) (w' := w) (n' := 142) rfl (by omega) (by decide) ?_
          refine qG.blk 1 (pc' := 40) (ls' := [(2, 79), (0, ((i : Nat) : Int))]) (st' := [(0, w 81 i)]) (w' := w) (n' := 142) rfl ?_
          refine qG.ret rfl rfl ?_
          subst hQ9
          first | exact ⟨congrArg (Prod.mk 0) (if_pos hk).symm, rfl, rfl⟩ | exact ⟨congrArg (Prod.mk 0) (if_neg hk).symm, rfl, rfl⟩
        · skip
          refine qG.blk 1 (pc' := 40) (ls' := [(2, 79), (0, ((i : Nat) : Int))]) (st' := [(0, 1)]) (w' := w) (n' := 142) rfl ?_
          refine qG.ret rfl rfl ?_
          subst hQ9
          first | exact ⟨congrArg (Prod.mk 0) (if_pos hk).symm, rfl, rfl⟩ | exact ⟨congrArg (Prod.mk 0) (if_neg hk).symm, rfl, rfl⟩
      · exfalso; omega
    · exfalso; omega
theorem K_secs83 {d : Nat} (hd : 0 ≤ d) (i : Nat) (L : Nat) (hL : L ≤ 40) (w : qW) (hI : yInv zgf zga zra zSp w) (hs : w 83 2 = (L : Int)) (hi : i < L) : qG none d 114 0 [(2, 83), (0, ((i : Nat) : Int))] [] w 142 (fun (r : qV) (w1 : qW) (n1 : Nat) => r = (0, if w 84 i = 2 then w 85 i else 1) ∧ w1 = w ∧ n1 = 142) := by
  generalize hQ9 : (fun (r : qV) (w1 : qW) (n1 : Nat) => r = (0, if w 84 i = 2 then w 85 i else 1) ∧ w1 = w ∧ n1 = 142) = Q9
  refine qG.blk 1 (pc' := 1) (ls' := [(2, 83), (0, ((i : Nat) : Int))]) (st' := [(0, ((i : Nat) : Int))]) (w' := w) (n' := 142) rfl ?_
  refine qG.br (P := ((i : Nat) : Int) < 0) (pc1 := 18) (pc2 := 4) (st1 := []) rfl (fun hq1 => ?_) (fun hq1 => ?_)
  · exfalso; omega
  · skip
    refine qG.blk 3 (pc' := 9) (ls' := [(2, 83), (0, ((i : Nat) : Int))]) (st' := [(0, w 83 2), (0, ((i : Nat) : Int))]) (w' := w) (n' := 142) rfl ?_
    rw [show w 83 2 = ((L : Nat) : Int) from hs]
    refine qG.br (P := ((i : Nat) : Int) < ((L : Nat) : Int)) (pc1 := 12) (pc2 := 18) (st1 := []) rfl (fun hq9 => ?_) (fun hq9 => ?_)
    · skip
      refine qG.blk 2 (pc' := 15) (ls' := [(2, 83), (0, ((i : Nat) : Int))]) (st' := [(0, 40), (0, ((i : Nat) : Int))]) (w' := w) (n' := 142) rfl ?_
      refine qG.br (P := ((i : Nat) : Int) < 40) (pc1 := 20) (pc2 := 18) (st1 := []) rfl (fun hq15 => ?_) (fun hq15 => ?_)
      · skip
        refine qG.blk 2 (pc' := 24) (ls' := [(2, 83), (0, ((i : Nat) : Int))]) (st' := [(2, w 83 0)]) (w' := w) (n' := 142) rfl ?_
        rw [show w 83 0 = 84 from zref hI rfl rfl]
        refine qG.blk 1 (pc' := 25) (ls' := [(2, 83), (0, ((i : Nat) : Int))]) (st' := [(0, ((i : Nat) : Int)), (2, 84)]) (w' := w) (n' := 142) rfl ?_
        refine qG.ar (P := 0 ≤ ((i : Nat) : Int) ∧ ((i : Nat) : Int) < ((40 : Nat) : Int)) (P2 := 0 < (84 : Int) ∧ (84 : Int) ≤ ((142 : Nat) : Int)) (pc' := 26) (ls' := [(2, 83), (0, ((i : Nat) : Int))]) (st' := [(0, w 84 i)]) (w' := w) (n' := 142) rfl (by omega) (by decide) ?_
        refine qG.blk 1 (pc' := 27) (ls' := [(2, 83), (0, ((i : Nat) : Int))]) (st' := [(0, 2), (0, w 84 i)]) (w' := w) (n' := 142) rfl ?_
        refine qG.br (P := w 84 i = 2) (pc1 := 30) (pc2 := 39) (st1 := []) rfl (fun hk => ?_) (fun hk => ?_)
        · skip
          refine qG.blk 2 (pc' := 34) (ls' := [(2, 83), (0, ((i : Nat) : Int))]) (st' := [(2, w 83 1)]) (w' := w) (n' := 142) rfl ?_
          rw [show w 83 1 = 85 from zref hI rfl rfl]
          refine qG.blk 1 (pc' := 35) (ls' := [(2, 83), (0, ((i : Nat) : Int))]) (st' := [(0, ((i : Nat) : Int)), (2, 85)]) (w' := w) (n' := 142) rfl ?_
          refine qG.ar (P := 0 ≤ ((i : Nat) : Int) ∧ ((i : Nat) : Int) < ((40 : Nat) : Int)) (P2 := 0 < (85 : Int) ∧ (85 : Int) ≤ ((142 : Nat) : Int)) (pc' := 36) (ls' := [(2, 83), (0, ((i : Nat) : Int))]) (st' := [(0, w 85 i)]) (w' := w) (n' := 142) rfl (by omega) (by decide) ?_
          refine qG.blk 1 (pc' := 40) (ls' := [(2, 83), (0, ((i : Nat) : Int))]) (st' := [(0, w 85 i)]) (w' := w) (n' := 142) rfl ?_
          refine qG.ret rfl rfl ?_
          subst hQ9
          first | exact ⟨congrArg (Prod.mk 0) (if_pos hk).symm, rfl, rfl⟩ | exact ⟨congrArg (Prod.mk 0) (if_neg hk).symm, rfl, rfl⟩
        · skip
          refine qG.blk 1 (pc' := 40) (ls' := [(2, 83), (0, ((i : Nat) : Int))]) (st' := [(0, 1)]) (w' := w) (n' := 142) rfl ?_
          refine qG.ret rfl rfl ?_
          subst hQ9
          first | exact ⟨congrArg (Prod.mk 0) (if_pos hk).symm, rfl, rfl⟩ | exact ⟨congrArg (Prod.mk 0) (if_neg hk).symm, rfl, rfl⟩
      · exfalso; omega
    · exfalso; omega
theorem K_secs87 {d : Nat} (hd : 0 ≤ d) (i : Nat) (L : Nat) (hL : L ≤ 40) (w : qW) (hI : yInv zgf zga zra zSp w) (hs : w 87 2 = (L : Int)) (hi : i < L) : qG none d 114 0 [(2, 87), (0, ((i : Nat) : Int))] [] w 142 (fun (r : qV) (w1 : qW) (n1 : Nat) => r = (0, if w 88 i = 2 then w 89 i else 1) ∧ w1 = w ∧ n1 = 142) := by
  generalize hQ9 : (fun (r : qV) (w1 : qW) (n1 : Nat) => r = (0, if w 88 i = 2 then w 89 i else 1) ∧ w1 = w ∧ n1 = 142) = Q9
  refine qG.blk 1 (pc' := 1) (ls' := [(2, 87), (0, ((i : Nat) : Int))]) (st' := [(0, ((i : Nat) : Int))]) (w' := w) (n' := 142) rfl ?_
  refine qG.br (P := ((i : Nat) : Int) < 0) (pc1 := 18) (pc2 := 4) (st1 := []) rfl (fun hq1 => ?_) (fun hq1 => ?_)
  · exfalso; omega
  · skip
    refine qG.blk 3 (pc' := 9) (ls' := [(2, 87), (0, ((i : Nat) : Int))]) (st' := [(0, w 87 2), (0, ((i : Nat) : Int))]) (w' := w) (n' := 142) rfl ?_
    rw [show w 87 2 = ((L : Nat) : Int) from hs]
    refine qG.br (P := ((i : Nat) : Int) < ((L : Nat) : Int)) (pc1 := 12) (pc2 := 18) (st1 := []) rfl (fun hq9 => ?_) (fun hq9 => ?_)
    · skip
      refine qG.blk 2 (pc' := 15) (ls' := [(2, 87), (0, ((i : Nat) : Int))]) (st' := [(0, 40), (0, ((i : Nat) : Int))]) (w' := w) (n' := 142) rfl ?_
      refine qG.br (P := ((i : Nat) : Int) < 40) (pc1 := 20) (pc2 := 18) (st1 := []) rfl (fun hq15 => ?_) (fun hq15 => ?_)
      · skip
        refine qG.blk 2 (pc' := 24) (ls' := [(2, 87), (0, ((i : Nat) : Int))]) (st' := [(2, w 87 0)]) (w' := w) (n' := 142) rfl ?_
        rw [show w 87 0 = 88 from zref hI rfl rfl]
        refine qG.blk 1 (pc' := 25) (ls' := [(2, 87), (0, ((i : Nat) : Int))]) (st' := [(0, ((i : Nat) : Int)), (2, 88)]) (w' := w) (n' := 142) rfl ?_
        refine qG.ar (P := 0 ≤ ((i : Nat) : Int) ∧ ((i : Nat) : Int) < ((40 : Nat) : Int)) (P2 := 0 < (88 : Int) ∧ (88 : Int) ≤ ((142 : Nat) : Int)) (pc' := 26) (ls' := [(2, 87), (0, ((i : Nat) : Int))]) (st' := [(0, w 88 i)]) (w' := w) (n' := 142) rfl (by omega) (by decide) ?_
        refine qG.blk 1 (pc' := 27) (ls' := [(2, 87), (0, ((i : Nat) : Int))]) (st' := [(0, 2), (0, w 88 i)]) (w' := w) (n' := 142) rfl ?_
        refine qG.br (P := w 88 i = 2) (pc1 := 30) (pc2 := 39) (st1 := []) rfl (fun hk => ?_) (fun hk => ?_)
        · skip
          refine qG.blk 2 (pc' := 34) (ls' := [(2, 87), (0, ((i : Nat) : Int))]) (st' := [(2, w 87 1)]) (w' := w) (n' := 142) rfl ?_
          rw [show w 87 1 = 89 from zref hI rfl rfl]
          refine qG.blk 1 (pc' := 35) (ls' := [(2, 87), (0, ((i : Nat) : Int))]) (st' := [(0, ((i : Nat) : Int)), (2, 89)]) (w' := w) (n' := 142) rfl ?_
          refine qG.ar (P := 0 ≤ ((i : Nat) : Int) ∧ ((i : Nat) : Int) < ((40 : Nat) : Int)) (P2 := 0 < (89 : Int) ∧ (89 : Int) ≤ ((142 : Nat) : Int)) (pc' := 36) (ls' := [(2, 87), (0, ((i : Nat) : Int))]) (st' := [(0, w 89 i)]) (w' := w) (n' := 142) rfl (by omega) (by decide) ?_
          refine qG.blk 1 (pc' := 40) (ls' := [(2, 87), (0, ((i : Nat) : Int))]) (st' := [(0, w 89 i)]) (w' := w) (n' := 142) rfl ?_
          refine qG.ret rfl rfl ?_
          subst hQ9
          first | exact ⟨congrArg (Prod.mk 0) (if_pos hk).symm, rfl, rfl⟩ | exact ⟨congrArg (Prod.mk 0) (if_neg hk).symm, rfl, rfl⟩
        · skip
          refine qG.blk 1 (pc' := 40) (ls' := [(2, 87), (0, ((i : Nat) : Int))]) (st' := [(0, 1)]) (w' := w) (n' := 142) rfl ?_
          refine qG.ret rfl rfl ?_
          subst hQ9
          first | exact ⟨congrArg (Prod.mk 0) (if_pos hk).symm, rfl, rfl⟩ | exact ⟨congrArg (Prod.mk 0) (if_neg hk).symm, rfl, rfl⟩
      · exfalso; omega
    · exfalso; omega
theorem K_secs91 {d : Nat} (hd : 0 ≤ d) (i : Nat) (L : Nat) (hL : L ≤ 40) (w : qW) (hI : yInv zgf zga zra zSp w) (hs : w 91 2 = (L : Int)) (hi : i < L) : qG none d 114 0 [(2, 91), (0, ((i : Nat) : Int))] [] w 142 (fun (r : qV) (w1 : qW) (n1 : Nat) => r = (0, if w 92 i = 2 then w 93 i else 1) ∧ w1 = w ∧ n1 = 142) := by
  generalize hQ9 : (fun (r : qV) (w1 : qW) (n1 : Nat) => r = (0, if w 92 i = 2 then w 93 i else 1) ∧ w1 = w ∧ n1 = 142) = Q9
  refine qG.blk 1 (pc' := 1) (ls' := [(2, 91), (0, ((i : Nat) : Int))]) (st' := [(0, ((i : Nat) : Int))]) (w' := w) (n' := 142) rfl ?_
  refine qG.br (P := ((i : Nat) : Int) < 0) (pc1 := 18) (pc2 := 4) (st1 := []) rfl (fun hq1 => ?_) (fun hq1 => ?_)
  · exfalso; omega
  · skip
    refine qG.blk 3 (pc' := 9) (ls' := [(2, 91), (0, ((i : Nat) : Int))]) (st' := [(0, w 91 2), (0, ((i : Nat) : Int))]) (w' := w) (n' := 142) rfl ?_
    rw [show w 91 2 = ((L : Nat) : Int) from hs]
    refine qG.br (P := ((i : Nat) : Int) < ((L : Nat) : Int)) (pc1 := 12) (pc2 := 18) (st1 := []) rfl (fun hq9 => ?_) (fun hq9 => ?_)
    · skip
      refine qG.blk 2 (pc' := 15) (ls' := [(2, 91), (0, ((i : Nat) : Int))]) (st' := [(0, 40), (0, ((i : Nat) : Int))]) (w' := w) (n' := 142) rfl ?_
      refine qG.br (P := ((i : Nat) : Int) < 40) (pc1 := 20) (pc2 := 18) (st1 := []) rfl (fun hq15 => ?_) (fun hq15 => ?_)
      · skip
        refine qG.blk 2 (pc' := 24) (ls' := [(2, 91), (0, ((i : Nat) : Int))]) (st' := [(2, w 91 0)]) (w' := w) (n' := 142) rfl ?_
        rw [show w 91 0 = 92 from zref hI rfl rfl]
        refine qG.blk 1 (pc' := 25) (ls' := [(2, 91), (0, ((i : Nat) : Int))]) (st' := [(0, ((i : Nat) : Int)), (2, 92)]) (w' := w) (n' := 142) rfl ?_
        refine qG.ar (P := 0 ≤ ((i : Nat) : Int) ∧ ((i : Nat) : Int) < ((40 : Nat) : Int)) (P2 := 0 < (92 : Int) ∧ (92 : Int) ≤ ((142 : Nat) : Int)) (pc' := 26) (ls' := [(2, 91), (0, ((i : Nat) : Int))]) (st' := [(0, w 92 i)]) (w' := w) (n' := 142) rfl (by omega) (by decide) ?_
        refine qG.blk 1 (pc' := 27) (ls' := [(2, 91), (0, ((i : Nat) : Int))]) (st' := [(0, 2), (0, w 92 i)]) (w' := w) (n' := 142) rfl ?_
        refine qG.br (P := w 92 i = 2) (pc1 := 30) (pc2 := 39) (st1 := []) rfl (fun hk => ?_) (fun hk => ?_)
        · skip
          refine qG.blk 2 (pc' := 34) (ls' := [(2, 91), (0, ((i : Nat) : Int))]) (st' := [(2, w 91 1)]) (w' := w) (n' := 142) rfl ?_
          rw [show w 91 1 = 93 from zref hI rfl rfl]
          refine qG.blk 1 (pc' := 35) (ls' := [(2, 91), (0, ((i : Nat) : Int))]) (st' := [(0, ((i : Nat) : Int)), (2, 93)]) (w' := w) (n' := 142) rfl ?_
          refine qG.ar (P := 0 ≤ ((i : Nat) : Int) ∧ ((i : Nat) : Int) < ((40 : Nat) : Int)) (P2 := 0 < (93 : Int) ∧ (93 : Int) ≤ ((142 : Nat) : Int)) (pc' := 36) (ls' := [(2, 91), (0, ((i : Nat) : Int))]) (st' := [(0, w 93 i)]) (w' := w) (n' := 142) rfl (by omega) (by decide) ?_
          refine qG.blk 1 (pc' := 40) (ls' := [(2, 91), (0, ((i : Nat) : Int))]) (st' := [(0, w 93 i)]) (w' := w) (n' := 142) rfl ?_
          refine qG.ret rfl rfl ?_
          subst hQ9
          first | exact ⟨congrArg (Prod.mk 0) (if_pos hk).symm, rfl, rfl⟩ | exact ⟨congrArg (Prod.mk 0) (if_neg hk).symm, rfl, rfl⟩
        · skip
          refine qG.blk 1 (pc' := 40) (ls' := [(2, 91), (0, ((i : Nat) : Int))]) (st' := [(0, 1)]) (w' := w) (n' := 142) rfl ?_
          refine qG.ret rfl rfl ?_
          subst hQ9
          first | exact ⟨congrArg (Prod.mk 0) (if_pos hk).symm, rfl, rfl⟩ | exact ⟨congrArg (Prod.mk 0) (if_neg hk).symm, rfl, rfl⟩
      · exfalso; omega
    · exfalso; omega
theorem K_vwOf4 {d : Nat} (hd : 0 ≤ d) (i : Nat) (L : Nat) (hL : L ≤ 40) (w : qW) (hI : yInv zgf zga zra zSp w) (hs : w 4 2 = (L : Int)) (hi : i < L) : qG none d 115 0 [(2, 4), (0, ((i : Nat) : Int))] [] w 142 (fun (r : qV) (w1 : qW) (n1 : Nat) => r = (0, w 7 i) ∧ w1 = w ∧ n1 = 142) := by
  generalize hQ9 : (fun (r : qV) (w1 : qW) (n1 : Nat) => r = (0, w 7 i) ∧ w1 = w ∧ n1 = 142) = Q9
  refine qG.blk 1 (pc' := 1) (ls' := [(2, 4), (0, ((i : Nat) : Int))]) (st' := [(0, ((i : Nat) : Int))]) (w' := w) (n' := 142) rfl ?_
  refine qG.br (P := ((i : Nat) : Int) < 0) (pc1 := 27) (pc2 := 4) (st1 := []) rfl (fun hq1 => ?_) (fun hq1 => ?_)
  · exfalso; omega
  · skip
    refine qG.blk 3 (pc' := 9) (ls' := [(2, 4), (0, ((i : Nat) : Int))]) (st' := [(0, w 4 2), (0, ((i : Nat) : Int))]) (w' := w) (n' := 142) rfl ?_
    rw [show w 4 2 = ((L : Nat) : Int) from hs]
    refine qG.br (P := ((i : Nat) : Int) < ((L : Nat) : Int)) (pc1 := 12) (pc2 := 27) (st1 := []) rfl (fun hq9 => ?_) (fun hq9 => ?_)
    · skip
      refine qG.blk 2 (pc' := 15) (ls' := [(2, 4), (0, ((i : Nat) : Int))]) (st' := [(0, 40), (0, ((i : Nat) : Int))]) (w' := w) (n' := 142) rfl ?_
      refine qG.br (P := ((i : Nat) : Int) < 40) (pc1 := 18) (pc2 := 27) (st1 := []) rfl (fun hq15 => ?_) (fun hq15 => ?_)
      · skip
        refine qG.blk 2 (pc' := 22) (ls' := [(2, 4), (0, ((i : Nat) : Int))]) (st' := [(2, w 4 3)]) (w' := w) (n' := 142) rfl ?_
        rw [show w 4 3 = 7 from zref hI rfl rfl]
        refine qG.blk 1 (pc' := 23) (ls' := [(2, 4), (0, ((i : Nat) : Int))]) (st' := [(0, ((i : Nat) : Int)), (2, 7)]) (w' := w) (n' := 142) rfl ?_
        refine qG.ar (P := 0 ≤ ((i : Nat) : Int) ∧ ((i : Nat) : Int) < ((40 : Nat) : Int)) (P2 := 0 < (7 : Int) ∧ (7 : Int) ≤ ((142 : Nat) : Int)) (pc' := 24) (ls' := [(2, 4), (0, ((i : Nat) : Int))]) (st' := [(0, w 7 i)]) (w' := w) (n' := 142) rfl (by omega) (by decide) ?_
        refine qG.blk 1 (pc' := 28) (ls' := [(2, 4), (0, ((i : Nat) : Int))]) (st' := [(0, w 7 i)]) (w' := w) (n' := 142) rfl ?_
        refine qG.ret rfl rfl ?_
        subst hQ9
        exact ⟨rfl, rfl, rfl⟩
      · exfalso; omega
    · exfalso; omega
theorem K_vwOf79 {d : Nat} (hd : 0 ≤ d) (i : Nat) (L : Nat) (hL : L ≤ 40) (w : qW) (hI : yInv zgf zga zra zSp w) (hs : w 79 2 = (L : Int)) (hi : i < L) : qG none d 115 0 [(2, 79), (0, ((i : Nat) : Int))] [] w 142 (fun (r : qV) (w1 : qW) (n1 : Nat) => r = (0, w 82 i) ∧ w1 = w ∧ n1 = 142) := by
  generalize hQ9 : (fun (r : qV) (w1 : qW) (n1 : Nat) => r = (0, w 82 i) ∧ w1 = w ∧ n1 = 142) = Q9
  refine qG.blk 1 (pc' := 1) (ls' := [(2, 79), (0, ((i : Nat) : Int))]) (st' := [(0, ((i : Nat) : Int))]) (w' := w) (n' := 142) rfl ?_
  refine qG.br (P := ((i : Nat) : Int) < 0) (pc1 := 27) (pc2 := 4) (st1 := []) rfl (fun hq1 => ?_) (fun hq1 => ?_)
  · exfalso; omega
  · skip
    refine qG.blk 3 (pc' := 9) (ls' := [(2, 79), (0, ((i : Nat) : Int))]) (st' := [(0, w 79 2), (0, ((i : Nat) : Int))]) (w' := w) (n' := 142) rfl ?_
    rw [show w 79 2 = ((L : Nat) : Int) from hs]
    refine qG.br (P := ((i : Nat) : Int) < ((L : Nat) : Int)) (pc1 := 12) (pc2 := 27) (st1 := []) rfl (fun hq9 => ?_) (fun hq9 => ?_)
    · skip
      refine qG.blk 2 (pc' := 15) (ls' := [(2, 79), (0, ((i : Nat) : Int))]) (st' := [(0, 40), (0, ((i : Nat) : Int))]) (w' := w) (n' := 142) rfl ?_
      refine qG.br (P := ((i : Nat) : Int) < 40) (pc1 := 18) (pc2 := 27) (st1 := []) rfl (fun hq15 => ?_) (fun hq15 => ?_)
      · skip
        refine qG.blk 2 (pc' := 22) (ls' := [(2, 79), (0, ((i : Nat) : Int))]) (st' := [(2, w 79 3)]) (w' := w) (n' := 142) rfl ?_
        rw [show w 79 3 = 82 from zref hI rfl rfl]
        refine qG.blk 1 (pc' := 23) (ls' := [(2, 79), (0, ((i : Nat) : Int))]) (st' := [(0, ((i : Nat) : Int)), (2, 82)]) (w' := w) (n' := 142) rfl ?_
        refine qG.ar (P := 0 ≤ ((i : Nat) : Int) ∧ ((i : Nat) : Int) < ((40 : Nat) : Int)) (P2 := 0 < (82 : Int) ∧ (82 : Int) ≤ ((142 : Nat) : Int)) (pc' := 24) (ls' := [(2, 79), (0, ((i : Nat) : Int))]) (st' := [(0, w 82 i)]) (w' := w) (n' := 142) rfl (by omega) (by decide) ?_
        refine qG.blk 1 (pc' := 28) (ls' := [(2, 79), (0, ((i : Nat) : Int))]) (st' := [(0, w 82 i)]) (w' := w) (n' := 142) rfl ?_
        refine qG.ret rfl rfl ?_
        subst hQ9
        exact ⟨rfl, rfl, rfl⟩
      · exfalso; omega
    · exfalso; omega
theorem K_vwOf83 {d : Nat} (hd : 0 ≤ d) (i : Nat) (L : Nat) (hL : L ≤ 40) (w : qW) (hI : yInv zgf zga zra zSp w) (hs : w 83 2 = (L : Int)) (hi : i < L) : qG none d 115 0 [(2, 83), (0, ((i : Nat) : Int))] [] w 142 (fun (r : qV) (w1 : qW) (n1 : Nat) => r = (0, w 86 i) ∧ w1 = w ∧ n1 = 142) := by
  generalize hQ9 : (fun (r : qV) (w1 : qW) (n1 : Nat) => r = (0, w 86 i) ∧ w1 = w ∧ n1 = 142) = Q9
  refine qG.blk 1 (pc' := 1) (ls' := [(2, 83), (0, ((i : Nat) : Int))]) (st' := [(0, ((i : Nat) : Int))]) (w' := w) (n' := 142) rfl ?_
  refine qG.br (P := ((i : Nat) : Int) < 0) (pc1 := 27) (pc2 := 4) (st1 := []) rfl (fun hq1 => ?_) (fun hq1 => ?_)
  · exfalso; omega
  · skip
    refine qG.blk 3 (pc' := 9) (ls' := [(2, 83), (0, ((i : Nat) : Int))]) (st' := [(0, w 83 2), (0, ((i : Nat) : Int))]) (w' := w) (n' := 142) rfl ?_
    rw [show w 83 2 = ((L : Nat) : Int) from hs]
    refine qG.br (P := ((i : Nat) : Int) < ((L : Nat) : Int)) (pc1 := 12) (pc2 := 27) (st1 := []) rfl (fun hq9 => ?_) (fun hq9 => ?_)
    · skip
      refine qG.blk 2 (pc' := 15) (ls' := [(2, 83), (0, ((i : Nat) : Int))]) (st' := [(0, 40), (0, ((i : Nat) : Int))]) (w' := w) (n' := 142) rfl ?_
      refine qG.br (P := ((i : Nat) : Int) < 40) (pc1 := 18) (pc2 := 27) (st1 := []) rfl (fun hq15 => ?_) (fun hq15 => ?_)
      · skip
        refine qG.blk 2 (pc' := 22) (ls' := [(2, 83), (0, ((i : Nat) : Int))]) (st' := [(2, w 83 3)]) (w' := w) (n' := 142) rfl ?_
        rw [show w 83 3 = 86 from zref hI rfl rfl]
        refine qG.blk 1 (pc' := 23) (ls' := [(2, 83), (0, ((i : Nat) : Int))]) (st' := [(0, ((i : Nat) : Int)), (2, 86)]) (w' := w) (n' := 142) rfl ?_
        refine qG.ar (P := 0 ≤ ((i : Nat) : Int) ∧ ((i : Nat) : Int) < ((40 : Nat) : Int)) (P2 := 0 < (86 : Int) ∧ (86 : Int) ≤ ((142 : Nat) : Int)) (pc' := 24) (ls' := [(2, 83), (0, ((i : Nat) : Int))]) (st' := [(0, w 86 i)]) (w' := w) (n' := 142) rfl (by omega) (by decide) ?_
        refine qG.blk 1 (pc' := 28) (ls' := [(2, 83), (0, ((i : Nat) : Int))]) (st' := [(0, w 86 i)]) (w' := w) (n' := 142) rfl ?_
        refine qG.ret rfl rfl ?_
        subst hQ9
        exact ⟨rfl, rfl, rfl⟩
      · exfalso; omega
    · exfalso; omega
theorem K_vwOf87 {d : Nat} (hd : 0 ≤ d) (i : Nat) (L : Nat) (hL : L ≤ 40) (w : qW) (hI : yInv zgf zga zra zSp w) (hs : w 87 2 = (L : Int)) (hi : i < L) : qG none d 115 0 [(2, 87), (0, ((i : Nat) : Int))] [] w 142 (fun (r : qV) (w1 : qW) (n1 : Nat) => r = (0, w 90 i) ∧ w1 = w ∧ n1 = 142) := by
  generalize hQ9 : (fun (r : qV) (w1 : qW) (n1 : Nat) => r = (0, w 90 i) ∧ w1 = w ∧ n1 = 142) = Q9
  refine qG.blk 1 (pc' := 1) (ls' := [(2, 87), (0, ((i : Nat) : Int))]) (st' := [(0, ((i : Nat) : Int))]) (w' := w) (n' := 142) rfl ?_
  refine qG.br (P := ((i : Nat) : Int) < 0) (pc1 := 27) (pc2 := 4) (st1 := []) rfl (fun hq1 => ?_) (fun hq1 => ?_)
  · exfalso; omega
  · skip
    refine qG.blk 3 (pc' := 9) (ls' := [(2, 87), (0, ((i : Nat) : Int))]) (st' := [(0, w 87 2), (0, ((i : Nat) : Int))]) (w' := w) (n' := 142) rfl ?_
    rw [show w 87 2 = ((L : Nat) : Int) from hs]
    refine qG.br (P := ((i : Nat) : Int) < ((L : Nat) : Int)) (pc1 := 12) (pc2 := 27) (st1 := []) rfl (fun hq9 => ?_) (fun hq9 => ?_)
    · skip
      refine qG.blk 2 (pc' := 15) (ls' := [(2, 87), (0, ((i : Nat) : Int))]) (st' := [(0, 40), (0, ((i : Nat) : Int))]) (w' := w) (n' := 142) rfl ?_
      refine qG.br (P := ((i : Nat) : Int) < 40) (pc1 := 18) (pc2 := 27) (st1 := []) rfl (fun hq15 => ?_) (fun hq15 => ?_)
      · skip
        refine qG.blk 2 (pc' := 22) (ls' := [(2, 87), (0, ((i : Nat) : Int))]) (st' := [(2, w 87 3)]) (w' := w) (n' := 142) rfl ?_
        rw [show w 87 3 = 90 from zref hI rfl rfl]
        refine qG.blk 1 (pc' := 23) (ls' := [(2, 87), (0, ((i : Nat) : Int))]) (st' := [(0, ((i : Nat) : Int)), (2, 90)]) (w' := w) (n' := 142) rfl ?_
        refine qG.ar (P := 0 ≤ ((i : Nat) : Int) ∧ ((i : Nat) : Int) < ((40 : Nat) : Int)) (P2 := 0 < (90 : Int) ∧ (90 : Int) ≤ ((142 : Nat) : Int)) (pc' := 24) (ls' := [(2, 87), (0, ((i : Nat) : Int))]) (st' := [(0, w 90 i)]) (w' := w) (n' := 142) rfl (by omega) (by decide) ?_
        refine qG.blk 1 (pc' := 28) (ls' := [(2, 87), (0, ((i : Nat) : Int))]) (st' := [(0, w 90 i)]) (w' := w) (n' := 142) rfl ?_
        refine qG.ret rfl rfl ?_
        subst hQ9
        exact ⟨rfl, rfl, rfl⟩
      · exfalso; omega
    · exfalso; omega
theorem K_vwOf91 {d : Nat} (hd : 0 ≤ d) (i : Nat) (L : Nat) (hL : L ≤ 40) (w : qW) (hI : yInv zgf zga zra zSp w) (hs : w 91 2 = (L : Int)) (hi : i < L) : qG none d 115 0 [(2, 91), (0, ((i : Nat) : Int))] [] w 142 (fun (r : qV) (w1 : qW) (n1 : Nat) => r = (0, w 94 i) ∧ w1 = w ∧ n1 = 142) := by
  generalize hQ9 : (fun (r : qV) (w1 : qW) (n1 : Nat) => r = (0, w 94 i) ∧ w1 = w ∧ n1 = 142) = Q9
  refine qG.blk 1 (pc' := 1) (ls' := [(2, 91), (0, ((i : Nat) : Int))]) (st' := [(0, ((i : Nat) : Int))]) (w' := w) (n' := 142) rfl ?_
  refine qG.br (P := ((i : Nat) : Int) < 0) (pc1 := 27) (pc2 := 4) (st1 := []) rfl (fun hq1 => ?_) (fun hq1 => ?_)
  · exfalso; omega
  · skip
    refine qG.blk 3 (pc' := 9) (ls' := [(2, 91), (0, ((i : Nat) : Int))]) (st' := [(0, w 91 2), (0, ((i : Nat) : Int))]) (w' := w) (n' := 142) rfl ?_
    rw [show w 91 2 = ((L : Nat) : Int) from hs]
    refine qG.br (P := ((i : Nat) : Int) < ((L : Nat) : Int)) (pc1 := 12) (pc2 := 27) (st1 := []) rfl (fun hq9 => ?_) (fun hq9 => ?_)
    · skip
      refine qG.blk 2 (pc' := 15) (ls' := [(2, 91), (0, ((i : Nat) : Int))]) (st' := [(0, 40), (0, ((i : Nat) : Int))]) (w' := w) (n' := 142) rfl ?_
      refine qG.br (P := ((i : Nat) : Int) < 40) (pc1 := 18) (pc2 := 27) (st1 := []) rfl (fun hq15 => ?_) (fun hq15 => ?_)
      · skip
        refine qG.blk 2 (pc' := 22) (ls' := [(2, 91), (0, ((i : Nat) : Int))]) (st' := [(2, w 91 3)]) (w' := w) (n' := 142) rfl ?_
        rw [show w 91 3 = 94 from zref hI rfl rfl]
        refine qG.blk 1 (pc' := 23) (ls' := [(2, 91), (0, ((i : Nat) : Int))]) (st' := [(0, ((i : Nat) : Int)), (2, 94)]) (w' := w) (n' := 142) rfl ?_
        refine qG.ar (P := 0 ≤ ((i : Nat) : Int) ∧ ((i : Nat) : Int) < ((40 : Nat) : Int)) (P2 := 0 < (94 : Int) ∧ (94 : Int) ≤ ((142 : Nat) : Int)) (pc' := 24) (ls' := [(2, 91), (0, ((i : Nat) : Int))]) (st' := [(0, w 94 i)]) (w' := w) (n' := 142) rfl (by omega) (by decide) ?_
        refine qG.blk 1 (pc' := 28) (ls' := [(2, 91), (0, ((i : Nat) : Int))]) (st' := [(0, w 94 i)]) (w' := w) (n' := 142) rfl ?_
        refine qG.ret rfl rfl ?_
        subst hQ9
        exact ⟨rfl, rfl, rfl⟩
      · exfalso; omega
    · exfalso; omega
