/-! what the class tells of a show -/
/-- waits are 0 .. 20 -/
def KNw (K N : Nat → Int) (L : Nat) : Prop := ∀ i, i < L → K i = 2 → 0 ≤ N i ∧ N i ≤ 20
theorem sc_s {K N : Nat → Int} {L i : Nat} (h : KNw K N L) (hi : i < L) : ((scF K N (i + 1) : Nat) : Int) = ((scF K N i : Nat) : Int) + (if K i = 2 then N i else 1) := by
  show ((scF K N i + dN (K i) (N i) : Nat) : Int) = _
  unfold dN
  by_cases e : K i = 2
  · have q := h i hi e
    rw [if_pos e, if_pos e]; omega
  · rw [if_neg e, if_neg e]; omega
theorem sc_le {K N : Nat → Int} {L : Nat} (h : KNw K N L) : ∀ i, i ≤ L → scF K N i ≤ 20 * i
  | 0, _ => Nat.le_refl _
  | i + 1, hi => by
    have ih := sc_le h i (by omega)
    have q := sc_s h (show i < L by omega)
    by_cases e : K i = 2
    · have z := h i (by omega) e
      rw [if_pos e] at q; omega
    · rw [if_neg e] at q; omega
theorem K_secs4 {d : Nat} (hd : 0 ≤ d) (i : Nat) (L : Nat) (hL : L ≤ 40) (w : qW) (hI : yInv zgf zga zra zSp w) (hs : w 4 2 = (L : Int)) (hi : i < L) : qG none d 114 0 [(2, 4), (0, ((i : Nat) : Int))] [] w 142 (fun (r : qV) (w1 : qW) (n1 : Nat) => r = (0, if w 5 i = 2 then w 6 i else 1) ∧ w1 = w ∧ n1 = 142) := by
  generalize hQ9 : (fun (r : qV) (w1 : qW) (n1 : Nat) => r = (0, if w 5 i = 2 then w 6 i else 1) ∧ w1 = w ∧ n1 = 142) = Q9
  refine qG.blk 1 (pc' := 1) (ls' := [(2, 4), (0, ((i : Nat) : Int))]) (st' := [(0, ((i : Nat) : Int))]) (w' := w) (n' := 142) rfl ?_
  refine qG.br (P := ((i : Nat) : Int) < 0) (pc1 := 18) (pc2 := 4) (st1 := []) rfl (fun hq1 => ?_) (fun hq1 => ?_)
  · exfalso; omega
  · skip
    refine qG.blk 3 (pc' := 9) (ls' := [(2, 4), (0, ((i : Nat) : Int))]) (st' := [(0, w 4 2), (0, ((i : Nat) : Int))]) (w' := w) (n' := 142) rfl ?_
    rw [show w 4 2 = ((L : Nat) : Int) from hs]
    refine qG.br (P := ((i : Nat) : Int) < ((L : Nat) : Int)) (pc1 := 12) (pc2 := 18) (st1 := []) rfl (fun hq9 => ?_) (fun hq9 => ?_)
    · skip
      refine qG.blk 2 (pc' := 15) (ls' := [(2, 4), (0, ((i : Nat) : Int))]) (st' := [(0, 40), (0, ((i : Nat) : Int))]) (w' := w) (n' := 142) rfl ?_
      refine qG.br (P := ((i : Nat) : Int) < 40) (pc1 := 20) (pc2 := 18) (st1 := []) rfl (fun hq15 => ?_) (fun hq15 => ?_)
      · skip
        refine qG.blk 2 (pc' := 24) (ls' := [(2, 4), (0, ((i : Nat) : Int))]) (st' := [(2, w 4 0)]) (w' := w) (n' := 142) rfl ?_
        rw [show w 4 0 = 5 from zref hI rfl rfl]
        refine qG.blk 1 (pc' := 25) (ls' := [(2, 4), (0, ((i : Nat) : Int))]) (st' := [(0, ((i : Nat) : Int)), (2, 5)]) (w' := w) (n' := 142) rfl ?_
        refine qG.ar (P := 0 ≤ ((i : Nat) : Int) ∧ ((i : Nat) : Int) < ((40 : Nat) : Int)) (P2 := 0 < (5 : Int) ∧ (5 : Int) ≤ ((142 : Nat) : Int)) (pc' := 26) (ls' := [(2, 4), (0, ((i : Nat) : Int))]) (st' := [(0, w 5 i)]) (w' := w) (n' := 142) rfl (by omega) (by decide) ?_
        refine qG.blk 1 (pc' := 27) (ls' := [(2, 4), (0, ((i : Nat) : Int))]) (st' := [(0, 2), (0, w 5 i)]) (w' := w) (n' := 142) rfl ?_
        refine qG.br (P := w 5 i = 2) (pc1 := 30) (pc2 := 39) (st1 := []) rfl (fun hk => ?_) (fun hk => ?_)
        · skip
          refine qG.blk 2 (pc' := 34) (ls' := [(2, 4), (0, ((i : Nat) : Int))]) (st' := [(2, w 4 1)]) (w' := w) (n' := 142) rfl ?_
          rw [show w 4 1 = 6 from zref hI rfl rfl]
          refine qG.blk 1 (pc' := 35) (ls' := [(2, 4), (0, ((i : Nat) : Int))]) (st' := [(0, ((i : Nat) : Int)), (2, 6)]) (w' := w) (n' := 142) rfl ?_
          refine qG.ar (P := 0 ≤ ((i : Nat) : Int) ∧ ((i : Nat) : Int) < ((40 : Nat) : Int)) (P2 := 0 < (6 : Int) ∧ (6 : Int) ≤ ((142 : Nat) : Int)) (pc' := 36) (ls' := [(2, 4), (0, ((i : Nat) : Int))]) (st' := [(0, w 6 i)]) (w' := w) (n' := 142) rfl (by omega) (by decide) ?_
          refine qG.blk 1 (pc' := 40) (ls' := [(2, 4), (0, ((i : Nat) : Int))]) (st' := [(0, w 6 i)]) (w' := w) (n' := 142) rfl ?_
          refine qG.ret rfl rfl ?_
          subst hQ9
          first | exact ⟨congrArg (Prod.mk 0) (if_pos hk).symm, rfl, rfl⟩ | exact ⟨congrArg (Prod.mk 0) (if_neg hk).symm, rfl, rfl⟩
        · skip
          refine qG.blk 1 (pc' := 40) (ls' := [(2, 4), (0, ((i : Nat) : Int))]) (st' := [(0, 1)]) (w' := w) (n' := 142) rfl ?_
          refine qG.ret rfl rfl ?_
          subst hQ9
          first | exact ⟨congrArg (Prod.mk 0) (if_pos hk).symm, rfl, rfl⟩ | exact ⟨congrArg (Prod.mk 0) (if_neg hk).symm, rfl, rfl⟩
      · exfalso; omega
    · exfalso; omega
theorem K_allSec4 {d : Nat} (hd : 1 ≤ d) (L : Nat) (hL : L ≤ 40) (w : qW) (hI : yInv zgf zga zra zSp w) (hs : w 4 2 = (L : Int)) (hKW : KNw (w 5) (w 6) L) : qG none d 116 0 [(2, 4), (9, 0), (9, 0)] [] w 142 (fun (r : qV) (w1 : qW) (n1 : Nat) => r = (0, ((scF (w 5) (w 6) L : Nat) : Int)) ∧ w1 = w ∧ n1 = 142) := by
  generalize hQ9 : (fun (r : qV) (w1 : qW) (n1 : Nat) => r = (0, ((scF (w 5) (w 6) L : Nat) : Int)) ∧ w1 = w ∧ n1 = 142) = Q9
  obtain ⟨d, rfl⟩ : ∃ d9, d = d9 + 1 := ⟨d - 1, by omega⟩
  refine qG.blk 4 (pc' := 4) (ls' := [(2, 4), (0, 0), (0, 0)]) (st' := []) (w' := w) (n' := 142) rfl ?_
  have L4 : ∀ (m9 : Nat) (i : Nat), L - i = m9 → (i ≤ L) → qG none (d + 1) 116 4 [(2, 4), (0, ((scF (w 5) (w 6) i : Nat) : Int)), (0, ((i : Nat) : Int))] [] w 142 Q9 := by
    intro m9
    induction m9 using Nat.strongRecOn with
    | ind m9 ih4 =>
    intro i hm4 hI4
    refine qG.blk 3 (pc' := 9) (ls' := [(2, 4), (0, ((scF (w 5) (w 6) i : Nat) : Int)), (0, ((i : Nat) : Int))]) (st' := [(0, w 4 2), (0, ((i : Nat) : Int))]) (w' := w) (n' := 142) rfl ?_
    rw [show w 4 2 = ((L : Nat) : Int) from hs]
    refine qG.br (P := ((i : Nat) : Int) < ((L : Nat) : Int)) (pc1 := 12) (pc2 := 26) (st1 := []) rfl (fun hq9 => ?_) (fun hq9 => ?_)
    · skip
      refine qG.blk 3 (pc' := 15) (ls' := [(2, 4), (0, ((scF (w 5) (w 6) i : Nat) : Int)), (0, ((i : Nat) : Int))]) (st' := [(0, ((i : Nat) : Int)), (2, 4), (0, ((scF (w 5) (w 6) i : Nat) : Int))]) (w' := w) (n' := 142) rfl ?_
      refine qG.call (t := 114) (na := 2) (sk := 1) (md := 1) (ls1 := [(2, 4), (0, ((i : Nat) : Int))]) (r1 := [(0, ((scF (w 5) (w 6) i : Nat) : Int))]) rfl rfl rfl rfl rfl (K_secs4 (Nat.zero_le _) i L hL w hI hs (by omega)) ?_
      rintro _ w7 _ ⟨rfl, hw7, rfl⟩
      rw [hw7]
      show qG none (d + 1) 116 18 [(2, 4), (0, ((scF (w 5) (w 6) i : Nat) : Int)), (0, ((i : Nat) : Int))] [(0, (if w 5 i = 2 then w 6 i else 1)), (0, ((scF (w 5) (w 6) i : Nat) : Int))] w 142 Q9
      refine qG.blk 1 (pc' := 19) (ls' := [(2, 4), (0, ((scF (w 5) (w 6) i : Nat) : Int)), (0, ((i : Nat) : Int))]) (st' := [(0, wrp (((scF (w 5) (w 6) i : Nat) : Int) + (if w 5 i = 2 then w 6 i else 1)))]) (w' := w) (n' := 142) rfl ?_
      rw [show wrp (((scF (w 5) (w 6) i : Nat) : Int) + (if w 5 i = 2 then w 6 i else 1)) = ((scF (w 5) (w 6) (i + 1) : Nat) : Int) from (by have q := sc_s hKW (show i < L by omega); have z := sc_le hKW (i + 1) (by omega); rw [wrp_id (by omega) (by omega)]; omega)]
      refine qG.blk 2 (pc' := 23) (ls' := [(2, 4), (0, ((scF (w 5) (w 6) (i + 1) : Nat) : Int)), (0, wrp (((i : Nat) : Int) + 1))]) (st' := []) (w' := w) (n' := 142) rfl ?_
      rw [show wrp (((i : Nat) : Int) + 1) = ((i + 1 : Nat) : Int) from wrp_id (by omega) (by omega)]
      refine qG.blk 1 (pc' := 4) (ls' := [(2, 4), (0, ((scF (w 5) (w 6) (i + 1) : Nat) : Int)), (0, ((i + 1 : Nat) : Int))]) (st' := []) (w' := w) (n' := 142) rfl ?_
      exact ih4 _ (by omega) (i + 1) rfl (by omega)
    · skip
      refine qG.blk 1 (pc' := 27) (ls' := [(2, 4), (0, ((scF (w 5) (w 6) i : Nat) : Int)), (0, ((i : Nat) : Int))]) (st' := [(0, ((scF (w 5) (w 6) i : Nat) : Int))]) (w' := w) (n' := 142) rfl ?_
      refine qG.ret rfl rfl ?_
      subst hQ9
      exact ⟨by rw [show L = i by omega], rfl, rfl⟩
  exact L4 _ (0) rfl (Nat.zero_le _)
theorem K_secs79 {d : Nat} (hd : 0 ≤ d) (i : Nat) (L : Nat) (hL : L ≤ 40) (w : qW) (hI : yInv zgf zga zra zSp w) (hs : w 79 2 = (L : Int)) (hi : i < L) : qG none d 114 0 [(2, 79), (0, ((i : Nat) : Int))] [] w 142 (fun (r : qV) (w1 : qW) (n1 : Nat) => r = (0, if w 80 i = 2 then w 81 i else 1) ∧ w1 = w ∧ n1 = 142) := by
  generalize hQ9 : (fun (r : qV) (w1 : qW) (n1 : Nat) => r = (0, if w 80 i = 2 then w 81 i else 1) ∧ w1 = w ∧ n1 = 142) = Q9
  refine qG.blk 1 (pc' := 1) (ls' := [(2, 79), (0, ((i : Nat) : Int))]) (st' := [(0, ((i : Nat) : Int))]) (w' := w) (n' := 142) rfl ?_
  refine qG.br (P := ((i : Nat) : Int) < 0) (pc1 := 18) (pc2 := 4) (st1 := []) rfl (fun hq1 => ?_) (fun hq1 => ?_)
  · exfalso; omega
  · skip
    refine qG.blk 3 (pc' := 9) (ls' := [(2, 79), (0, ((i : Nat) : Int))]) (st' := [(0, w 79 2), (0, ((i : Nat) : Int))]) (w' := w) (n' := 142) rfl ?_
    rw [show w 79 2 = ((L : Nat) : Int) from hs]
    refine qG.br (P := ((i : Nat) : Int) < ((L : Nat) : Int)) (pc1 := 12) (pc2 := 18) (st1 := []) rfl (fun hq9 => ?_) (fun hq9 => ?_)
    · skip
      refine qG.blk 2 (pc' := 15) (ls' := [(2, 79), (0, ((i : Nat) : Int))]) (st' := [(0, 40), (0, ((i : Nat) : Int))]) (w' := w) (n' := 142) rfl ?_
      refine qG.br (P := ((i : Nat) : Int) < 40) (pc1 := 20) (pc2 := 18) (st1 := []) rfl (fun hq15 => ?_) (fun hq15 => ?_)
      · skip
        refine qG.blk 2 (pc' := 24) (ls' := [(2, 79), (0, ((i : Nat) : Int))]) (st' := [(2, w 79 0)]) (w' := w) (n' := 142) rfl ?_
        rw [show w 79 0 = 80 from zref hI rfl rfl]
        refine qG.blk 1 (pc' := 25) (ls' := [(2, 79), (0, ((i : Nat) : Int))]) (st' := [(0, ((i : Nat) : Int)), (2, 80)]) (w' := w) (n' := 142) rfl ?_
        refine qG.ar (P := 0 ≤ ((i : Nat) : Int) ∧ ((i : Nat) : Int) < ((40 : Nat) : Int)) (P2 := 0 < (80 : Int) ∧ (80 : Int) ≤ ((142 : Nat) : Int)) (pc' := 26) (ls' := [(2, 79), (0, ((i : Nat) : Int))]) (st' := [(0, w 80 i)]) (w' := w) (n' := 142) rfl (by omega) (by decide) ?_
        refine qG.blk 1 (pc' := 27) (ls' := [(2, 79), (0, ((i : Nat) : Int))]) (st' := [(0, 2), (0, w 80 i)]) (w' := w) (n' := 142) rfl ?_
        refine qG.br (P := w 80 i = 2) (pc1 := 30) (pc2 := 39) (st1 := []) rfl (fun hk => ?_) (fun hk => ?_)
        · skip
          refine qG.blk 2 (pc' := 34) (ls' := [(2, 79), (0, ((i : Nat) : Int))]) (st' := [(2, w 79 1)]) (w' := w) (n' := 142) rfl ?_
          rw [show w 79 1 = 81 from zref hI rfl rfl]
          refine qG.blk 1 (pc' := 35) (ls' := [(2, 79), (0, ((i : Nat) : Int))]) (st' := [(0, ((i : Nat) : Int)), (2, 81)]) (w' := w) (n' := 142) rfl ?_
          refine qG.ar (P := 0 ≤ ((i : Nat) : Int) ∧ ((i : Nat) : Int) < ((40 : Nat) : Int)) (P2 := 0 < (81 : Int) ∧ (81 : Int) ≤ ((142 : Nat) : Int)) (pc' := 36) (ls' := [(2, 79), (0, ((i : Nat) : Int))]) (st' := [(0, w 81 i)]) (w' := w) (n' := 142) rfl (by omega) (by decide) ?_
          refine qG.blk 1 (pc' := 40) (ls' := [(2, 79), (0, ((i : Nat) : Int))]) (st' := [(0, w 81 i)]) (w' := w) (n' := 142) rfl ?_
          refine qG.ret rfl rfl ?_
          subst hQ9
          first | exact ⟨congrArg (Prod.mk 0) (if_pos hk).symm, rfl, rfl⟩ | exact ⟨congrArg (Prod.mk 0) (if_neg hk).symm, rfl, rfl⟩
        · skip
          refine qG.blk 1 (pc' := 40) (ls' := [(2, 79), (0, ((i : Nat) : Int))]) (st' := [(0, 1)]) (w' := w) (n' := 142) rfl ?_
          refine qG.ret rfl rfl ?_
          subst hQ9
          first | exact ⟨congrArg (Prod.mk 0) (if_pos hk).symm, rfl, rfl⟩ | exact ⟨congrArg (Prod.mk 0) (if_neg hk).symm, rfl, rfl⟩
      · exfalso; omega
    · exfalso; omega
theorem K_allSec79 {d : Nat} (hd : 1 ≤ d) (L : Nat) (hL : L ≤ 40) (w : qW) (hI : yInv zgf zga zra zSp w) (hs : w 79 2 = (L : Int)) (hKW : KNw (w 80) (w 81) L) : qG none d 116 0 [(2, 79), (9, 0), (9, 0)] [] w 142 (fun (r : qV) (w1 : qW) (n1 : Nat) => r = (0, ((scF (w 80) (w 81) L : Nat) : Int)) ∧ w1 = w ∧ n1 = 142) := by
  generalize hQ9 : (fun (r : qV) (w1 : qW) (n1 : Nat) => r = (0, ((scF (w 80) (w 81) L : Nat) : Int)) ∧ w1 = w ∧ n1 = 142) = Q9
  obtain ⟨d, rfl⟩ : ∃ d9, d = d9 + 1 := ⟨d - 1, by omega⟩
  refine qG.blk 4 (pc' := 4) (ls' := [(2, 79), (0, 0), (0, 0)]) (st' := []) (w' := w) (n' := 142) rfl ?_
  have L4 : ∀ (m9 : Nat) (i : Nat), L - i = m9 → (i ≤ L) → qG none (d + 1) 116 4 [(2, 79), (0, ((scF (w 80) (w 81) i : Nat) : Int)), (0, ((i : Nat) : Int))] [] w 142 Q9 := by
    intro m9
    induction m9 using Nat.strongRecOn with
    | ind m9 ih4 =>
    intro i hm4 hI4
    refine qG.blk 3 (pc' := 9) (ls' := [(2, 79), (0, ((scF (w 80) (w 81) i : Nat) : Int)), (0, ((i : Nat) : Int))]) (st' := [(0, w 79 2), (0, ((i : Nat) : Int))]) (w' := w) (n' := 142) rfl ?_
    rw [show w 79 2 = ((L : Nat) : Int) from hs]
    refine qG.br (P := ((i : Nat) : Int) < ((L : Nat) : Int)) (pc1 := 12) (pc2 := 26) (st1 := []) rfl (fun hq9 => ?_) (fun hq9 => ?_)
    · skip
      refine qG.blk 3 (pc' := 15) (ls' := [(2, 79), (0, ((scF (w 80) (w 81) i : Nat) : Int)), (0, ((i : Nat) : Int))]) (st' := [(0, ((i : Nat) : Int)), (2, 79), (0, ((scF (w 80) (w 81) i : Nat) : Int))]) (w' := w) (n' := 142) rfl ?_
      refine qG.call (t := 114) (na := 2) (sk := 1) (md := 1) (ls1 := [(2, 79), (0, ((i : Nat) : Int))]) (r1 := [(0, ((scF (w 80) (w 81) i : Nat) : Int))]) rfl rfl rfl rfl rfl (K_secs79 (Nat.zero_le _) i L hL w hI hs (by omega)) ?_
      rintro _ w7 _ ⟨rfl, hw7, rfl⟩
      rw [hw7]
      show qG none (d + 1) 116 18 [(2, 79), (0, ((scF (w 80) (w 81) i : Nat) : Int)), (0, ((i : Nat) : Int))] [(0, (if w 80 i = 2 then w 81 i else 1)), (0, ((scF (w 80) (w 81) i : Nat) : Int))] w 142 Q9
      refine qG.blk 1 (pc' := 19) (ls' := [(2, 79), (0, ((scF (w 80) (w 81) i : Nat) : Int)), (0, ((i : Nat) : Int))]) (st' := [(0, wrp (((scF (w 80) (w 81) i : Nat) : Int) + (if w 80 i = 2 then w 81 i else 1)))]) (w' := w) (n' := 142) rfl ?_
      rw [show wrp (((scF (w 80) (w 81) i : Nat) : Int) + (if w 80 i = 2 then w 81 i else 1)) = ((scF (w 80) (w 81) (i + 1) : Nat) : Int) from (by have q := sc_s hKW (show i < L by omega); have z := sc_le hKW (i + 1) (by omega); rw [wrp_id (by omega) (by omega)]; omega)]
      refine qG.blk 2 (pc' := 23) (ls' := [(2, 79), (0, ((scF (w 80) (w 81) (i + 1) : Nat) : Int)), (0, wrp (((i : Nat) : Int) + 1))]) (st' := []) (w' := w) (n' := 142) rfl ?_
      rw [show wrp (((i : Nat) : Int) + 1) = ((i + 1 : Nat) : Int) from wrp_id (by omega) (by omega)]
      refine qG.blk 1 (pc' := 4) (ls' := [(2, 79), (0, ((scF (w 80) (w 81) (i + 1) : Nat) : Int)), (0, ((i + 1 : Nat) : Int))]) (st' := []) (w' := w) (n' := 142) rfl ?_
      exact ih4 _ (by omega) (i + 1) rfl (by omega)
    · skip
      refine qG.blk 1 (pc' := 27) (ls' := [(2, 79), (0, ((scF (w 80) (w 81) i : Nat) : Int)), (0, ((i : Nat) : Int))]) (st' := [(0, ((scF (w 80) (w 81) i : Nat) : Int))]) (w' := w) (n' := 142) rfl ?_
      refine qG.ret rfl rfl ?_
      subst hQ9
      exact ⟨by rw [show L = i by omega], rfl, rfl⟩
  exact L4 _ (0) rfl (Nat.zero_le _)
theorem K_secs83 {d : Nat} (hd : 0 ≤ d) (i : Nat) (L : Nat) (hL : L ≤ 40) (w : qW) (hI : yInv zgf zga zra zSp w) (hs : w 83 2 = (L : Int)) (hi : i < L) : qG none d 114 0 [(2, 83), (0, ((i : Nat) : Int))] [] w 142 (fun (r : qV) (w1 : qW) (n1 : Nat) => r = (0, if w 84 i = 2 then w 85 i else 1) ∧ w1 = w ∧ n1 = 142) := by
  generalize hQ9 : (fun (r : qV) (w1 : qW) (n1 : Nat) => r = (0, if w 84 i = 2 then w 85 i else 1) ∧ w1 = w ∧ n1 = 142) = Q9
  refine qG.blk 1 (pc' := 1) (ls' := [(2, 83), (0, ((i : Nat) : Int))]) (st' := [(0, ((i : Nat) : Int))]) (w' := w) (n' := 142) rfl ?_
  refine qG.br (P := ((i : Nat) : Int) < 0) (pc1 := 18) (pc2 := 4) (st1 := []) rfl (fun hq1 => ?_) (fun hq1 => ?_)
  · exfalso; omega
  · skip
    refine qG.blk 3 (pc' := 9) (ls' := [(2, 83), (0, ((i : Nat) : Int))]) (st' := [(0, w 83 2), (0, ((i : Nat) : Int))]) (w' := w) (n' := 142) rfl ?_
    rw [show w 83 2 = ((L : Nat) : Int) from hs]
    refine qG.br (P := ((i : Nat) : Int) < ((L : Nat) : Int)) (pc1 := 12) (pc2 := 18) (st1 := []) rfl (fun hq9 => ?_) (fun hq9 => ?_)
    · skip
      refine qG.blk 2 (pc' := 15) (ls' := [(2, 83), (0, ((i : Nat) : Int))]) (st' := [(0, 40), (0, ((i : Nat) : Int))]) (w' := w) (n' := 142) rfl ?_
      refine qG.br (P := ((i : Nat) : Int) < 40) (pc1 := 20) (pc2 := 18) (st1 := []) rfl (fun hq15 => ?_) (fun hq15 => ?_)
      · skip
        refine qG.blk 2 (pc' := 24) (ls' := [(2, 83), (0, ((i : Nat) : Int))]) (st' := [(2, w 83 0)]) (w' := w) (n' := 142) rfl ?_
        rw [show w 83 0 = 84 from zref hI rfl rfl]
        refine qG.blk 1 (pc' := 25) (ls' := [(2, 83), (0, ((i : Nat) : Int))]) (st' := [(0, ((i : Nat) : Int)), (2, 84)]) (w' := w) (n' := 142) rfl ?_
        refine qG.ar (P := 0 ≤ ((i : Nat) : Int) ∧ ((i : Nat) : Int) < ((40 : Nat) : Int)) (P2 := 0 < (84 : Int) ∧ (84 : Int) ≤ ((142 : Nat) : Int)) (pc' := 26) (ls' := [(2, 83), (0, ((i : Nat) : Int))]) (st' := [(0, w 84 i)]) (w' := w) (n' := 142) rfl (by omega) (by decide) ?_
        refine qG.blk 1 (pc' := 27) (ls' := [(2, 83), (0, ((i : Nat) : Int))]) (st' := [(0, 2), (0, w 84 i)]) (w' := w) (n' := 142) rfl ?_
        refine qG.br (P := w 84 i = 2) (pc1 := 30) (pc2 := 39) (st1 := []) rfl (fun hk => ?_) (fun hk => ?_)
        · skip
          refine qG.blk 2 (pc' := 34) (ls' := [(2, 83), (0, ((i : Nat) : Int))]) (st' := [(2, w 83 1)]) (w' := w) (n' := 142) rfl ?_
          rw [show w 83 1 = 85 from zref hI rfl rfl]
          refine qG.blk 1 (pc' := 35) (ls' := [(2, 83), (0, ((i : Nat) : Int))]) (st' := [(0, ((i : Nat) : Int)), (2, 85)]) (w' := w) (n' := 142) rfl ?_
          refine qG.ar (P := 0 ≤ ((i : Nat) : Int) ∧ ((i : Nat) : Int) < ((40 : Nat) : Int)) (P2 := 0 < (85 : Int) ∧ (85 : Int) ≤ ((142 : Nat) : Int)) (pc' := 36) (ls' := [(2, 83), (0, ((i : Nat) : Int))]) (st' := [(0, w 85 i)]) (w' := w) (n' := 142) rfl (by omega) (by decide) ?_
          refine qG.blk 1 (pc' := 40) (ls' := [(2, 83), (0, ((i : Nat) : Int))]) (st' := [(0, w 85 i)]) (w' := w) (n' := 142) rfl ?_
          refine qG.ret rfl rfl ?_
          subst hQ9
          first | exact ⟨congrArg (Prod.mk 0) (if_pos hk).symm, rfl, rfl⟩ | exact ⟨congrArg (Prod.mk 0) (if_neg hk).symm, rfl, rfl⟩
        · skip
          refine qG.blk 1 (pc' := 40) (ls' := [(2, 83), (0, ((i : Nat) : Int))]) (st' := [(0, 1)]) (w' := w) (n' := 142) rfl ?_
          refine qG.ret rfl rfl ?_
          subst hQ9
          first | exact ⟨congrArg (Prod.mk 0) (if_pos hk).symm, rfl, rfl⟩ | exact ⟨congrArg (Prod.mk 0) (if_neg hk).symm, rfl, rfl⟩
      · exfalso; omega
    · exfalso; omega
theorem K_allSec83 {d : Nat} (hd : 1 ≤ d) (L : Nat) (hL : L ≤ 40) (w : qW) (hI : yInv zgf zga zra zSp w) (hs : w 83 2 = (L : Int)) (hKW : KNw (w 84) (w 85) L) : qG none d 116 0 [(2, 83), (9, 0), (9, 0)] [] w 142 (fun (r : qV) (w1 : qW) (n1 : Nat) => r = (0, ((scF (w 84) (w 85) L : Nat) : Int)) ∧ w1 = w ∧ n1 = 142) := by
  generalize hQ9 : (fun (r : qV) (w1 : qW) (n1 : Nat) => r = (0, ((scF (w 84) (w 85) L : Nat) : Int)) ∧ w1 = w ∧ n1 = 142) = Q9
  obtain ⟨d, rfl⟩ : ∃ d9, d = d9 + 1 := ⟨d - 1, by omega⟩
  refine qG.blk 4 (pc' := 4) (ls' := [(2, 83), (0, 0), (0, 0)]) (st' := []) (w' := w) (n' := 142) rfl ?_
  have L4 : ∀ (m9 : Nat) (i : Nat), L - i = m9 → (i ≤ L) → qG none (d + 1) 116 4 [(2, 83), (0, ((scF (w 84) (w 85) i : Nat) : Int)), (0, ((i : Nat) : Int))] [] w 142 Q9 := by
    intro m9
    induction m9 using Nat.strongRecOn with
    | ind m9 ih4 =>
    intro i hm4 hI4
    refine qG.blk 3 (pc' := 9) (ls' := [(2, 83), (0, ((scF (w 84) (w 85) i : Nat) : Int)), (0, ((i : Nat) : Int))]) (st' := [(0, w 83 2), (0, ((i : Nat) : Int))]) (w' := w) (n' := 142) rfl ?_
    rw [show w 83 2 = ((L : Nat) : Int) from hs]
    refine qG.br (P := ((i : Nat) : Int) < ((L : Nat) : Int)) (pc1 := 12) (pc2 := 26) (st1 := []) rfl (fun hq9 => ?_) (fun hq9 => ?_)
    · skip
      refine qG.blk 3 (pc' := 15) (ls' := [(2, 83), (0, ((scF (w 84) (w 85) i : Nat) : Int)), (0, ((i : Nat) : Int))]) (st' := [(0, ((i : Nat) : Int)), (2, 83), (0, ((scF (w 84) (w 85) i : Nat) : Int))]) (w' := w) (n' := 142) rfl ?_
      refine qG.call (t := 114) (na := 2) (sk := 1) (md := 1) (ls1 := [(2, 83), (0, ((i : Nat) : Int))]) (r1 := [(0, ((scF (w 84) (w 85) i : Nat) : Int))]) rfl rfl rfl rfl rfl (K_secs83 (Nat.zero_le _) i L hL w hI hs (by omega)) ?_
      rintro _ w7 _ ⟨rfl, hw7, rfl⟩
      rw [hw7]
      show qG none (d + 1) 116 18 [(2, 83), (0, ((scF (w 84) (w 85) i : Nat) : Int)), (0, ((i : Nat) : Int))] [(0, (if w 84 i = 2 then w 85 i else 1)), (0, ((scF (w 84) (w 85) i : Nat) : Int))] w 142 Q9
      refine qG.blk 1 (pc' := 19) (ls' := [(2, 83), (0, ((scF (w 84) (w 85) i : Nat) : Int)), (0, ((i : Nat) : Int))]) (st' := [(0, wrp (((scF (w 84) (w 85) i : Nat) : Int) + (if w 84 i = 2 then w 85 i else 1)))]) (w' := w) (n' := 142) rfl ?_
      rw [show wrp (((scF (w 84) (w 85) i : Nat) : Int) + (if w 84 i = 2 then w 85 i else 1)) = ((scF (w 84) (w 85) (i + 1) : Nat) : Int) from (by have q := sc_s hKW (show i < L by omega); have z := sc_le hKW (i + 1) (by omega); rw [wrp_id (by omega) (by omega)]; omega)]
      refine qG.blk 2 (pc' := 23) (ls' := [(2, 83), (0, ((scF (w 84) (w 85) (i + 1) : Nat) : Int)), (0, wrp (((i : Nat) : Int) + 1))]) (st' := []) (w' := w) (n' := 142) rfl ?_
      rw [show wrp (((i : Nat) : Int) + 1) = ((i + 1 : Nat) : Int) from wrp_id (by omega) (by omega)]
      refine qG.blk 1 (pc' := 4) (ls' := [(2, 83), (0, ((scF (w 84) (w 85) (i + 1) : Nat) : Int)), (0, ((i + 1 : Nat) : Int))]) (st' := []) (w' := w) (n' := 142) rfl ?_
      exact ih4 _ (by omega) (i + 1) rfl (by omega)
    · skip
      refine qG.blk 1 (pc' := 27) (ls' := [(2, 83), (0, ((scF (w 84) (w 85) i : Nat) : Int)), (0, ((i : Nat) : Int))]) (st' := [(0, ((scF (w 84) (w 85) i : Nat) : Int))]) (w' := w) (n' := 142) rfl ?_
      refine qG.ret rfl rfl ?_
      subst hQ9
      exact ⟨by rw [show L = i by omega], rfl, rfl⟩
  exact L4 _ (0) rfl (Nat.zero_le _)
theorem K_secs87 {d : Nat} (hd : 0 ≤ d) (i : Nat) (L : Nat) (hL : L ≤ 40) (w : qW) (hI : yInv zgf zga zra zSp w) (hs : w 87 2 = (L : Int)) (hi : i < L) : qG none d 114 0 [(2, 87), (0, ((i : Nat) : Int))] [] w 142 (fun (r : qV) (w1 : qW) (n1 : Nat) => r = (0, if w 88 i = 2 then w 89 i else 1) ∧ w1 = w ∧ n1 = 142) := by
  generalize hQ9 : (fun (r : qV) (w1 : qW) (n1 : Nat) => r = (0, if w 88 i = 2 then w 89 i else 1) ∧ w1 = w ∧ n1 = 142) = Q9
  refine qG.blk 1 (pc' := 1) (ls' := [(2, 87), (0, ((i : Nat) : Int))]) (st' := [(0, ((i : Nat) : Int))]) (w' := w) (n' := 142) rfl ?_
  refine qG.br (P := ((i : Nat) : Int) < 0) (pc1 := 18) (pc2 := 4) (st1 := []) rfl (fun hq1 => ?_) (fun hq1 => ?_)
  · exfalso; omega
  · skip
    refine qG.blk 3 (pc' := 9) (ls' := [(2, 87), (0, ((i : Nat) : Int))]) (st' := [(0, w 87 2), (0, ((i : Nat) : Int))]) (w' := w) (n' := 142) rfl ?_
    rw [show w 87 2 = ((L : Nat) : Int) from hs]
    refine qG.br (P := ((i : Nat) : Int) < ((L : Nat) : Int)) (pc1 := 12) (pc2 := 18) (st1 := []) rfl (fun hq9 => ?_) (fun hq9 => ?_)
    · skip
      refine qG.blk 2 (pc' := 15) (ls' := [(2, 87), (0, ((i : Nat) : Int))]) (st' := [(0, 40), (0, ((i : Nat) : Int))]) (w' := w) (n' := 142) rfl ?_
      refine qG.br (P := ((i : Nat) : Int) < 40) (pc1 := 20) (pc2 := 18) (st1 := []) rfl (fun hq15 => ?_) (fun hq15 => ?_)
      · skip
        refine qG.blk 2 (pc' := 24) (ls' := [(2, 87), (0, ((i : Nat) : Int))]) (st' := [(2, w 87 0)]) (w' := w) (n' := 142) rfl ?_
        rw [show w 87 0 = 88 from zref hI rfl rfl]
        refine qG.blk 1 (pc' := 25) (ls' := [(2, 87), (0, ((i : Nat) : Int))]) (st' := [(0, ((i : Nat) : Int)), (2, 88)]) (w' := w) (n' := 142) rfl ?_
        refine qG.ar (P := 0 ≤ ((i : Nat) : Int) ∧ ((i : Nat) : Int) < ((40 : Nat) : Int)) (P2 := 0 < (88 : Int) ∧ (88 : Int) ≤ ((142 : Nat) : Int)) (pc' := 26) (ls' := [(2, 87), (0, ((i : Nat) : Int))]) (st' := [(0, w 88 i)]) (w' := w) (n' := 142) rfl (by omega) (by decide) ?_
        refine qG.blk 1 (pc' := 27) (ls' := [(2, 87), (0, ((i : Nat) : Int))]) (st' := [(0, 2), (0, w 88 i)]) (w' := w) (n' := 142) rfl ?_
        refine qG.br (P := w 88 i = 2) (pc1 := 30) (pc2 := 39) (st1 := []) rfl (fun hk => ?_) (fun hk => ?_)
        · skip
          refine qG.blk 2 (pc' := 34) (ls' := [(2, 87), (0, ((i : Nat) : Int))]) (st' := [(2, w 87 1)]) (w' := w) (n' := 142) rfl ?_
          rw [show w 87 1 = 89 from zref hI rfl rfl]
          refine qG.blk 1 (pc' := 35) (ls' := [(2, 87), (0, ((i : Nat) : Int))]) (st' := [(0, ((i : Nat) : Int)), (2, 89)]) (w' := w) (n' := 142) rfl ?_
          refine qG.ar (P := 0 ≤ ((i : Nat) : Int) ∧ ((i : Nat) : Int) < ((40 : Nat) : Int)) (P2 := 0 < (89 : Int) ∧ (89 : Int) ≤ ((142 : Nat) : Int)) (pc' := 36) (ls' := [(2, 87), (0, ((i : Nat) : Int))]) (st' := [(0, w 89 i)]) (w' := w) (n' := 142) rfl (by omega) (by decide) ?_
          refine qG.blk 1 (pc' := 40) (ls' := [(2, 87), (0, ((i : Nat) : Int))]) (st' := [(0, w 89 i)]) (w' := w) (n' := 142) rfl ?_
          refine qG.ret rfl rfl ?_
          subst hQ9
          first | exact ⟨congrArg (Prod.mk 0) (if_pos hk).symm, rfl, rfl⟩ | exact ⟨congrArg (Prod.mk 0) (if_neg hk).symm, rfl, rfl⟩
        · skip
          refine qG.blk 1 (pc' := 40) (ls' := [(2, 87), (0, ((i : Nat) : Int))]) (st' := [(0, 1)]) (w' := w) (n' := 142) rfl ?_
          refine qG.ret rfl rfl ?_
          subst hQ9
          first | exact ⟨congrArg (Prod.mk 0) (if_pos hk).symm, rfl, rfl⟩ | exact ⟨congrArg (Prod.mk 0) (if_neg hk).symm, rfl, rfl⟩
      · exfalso; omega
    · exfalso; omega
theorem K_allSec87 {d : Nat} (hd : 1 ≤ d) (L : Nat) (hL : L ≤ 40) (w : qW) (hI : yInv zgf zga zra zSp w) (hs : w 87 2 = (L : Int)) (hKW : KNw (w 88) (w 89) L) : qG none d 116 0 [(2, 87), (9, 0), (9, 0)] [] w 142 (fun (r : qV) (w1 : qW) (n1 : Nat) => r = (0, ((scF (w 88) (w 89) L : Nat) : Int)) ∧ w1 = w ∧ n1 = 142) := by
  generalize hQ9 : (fun (r : qV) (w1 : qW) (n1 : Nat) => r = (0, ((scF (w 88) (w 89) L : Nat) : Int)) ∧ w1 = w ∧ n1 = 142) = Q9
  obtain ⟨d, rfl⟩ : ∃ d9, d = d9 + 1 := ⟨d - 1, by omega⟩
  refine qG.blk 4 (pc' := 4) (ls' := [(2, 87), (0, 0), (0, 0)]) (st' := []) (w' := w) (n' := 142) rfl ?_
  have L4 : ∀ (m9 : Nat) (i : Nat), L - i = m9 → (i ≤ L) → qG none (d + 1) 116 4 [(2, 87), (0, ((scF (w 88) (w 89) i : Nat) : Int)), (0, ((i : Nat) : Int))] [] w 142 Q9 := by
    intro m9
    induction m9 using Nat.strongRecOn with
    | ind m9 ih4 =>
    intro i hm4 hI4
    refine qG.blk 3 (pc' := 9) (ls' := [(2, 87), (0, ((scF (w 88) (w 89) i : Nat) : Int)), (0, ((i : Nat) : Int))]) (st' := [(0, w 87 2), (0, ((i : Nat) : Int))]) (w' := w) (n' := 142) rfl ?_
    rw [show w 87 2 = ((L : Nat) : Int) from hs]
    refine qG.br (P := ((i : Nat) : Int) < ((L : Nat) : Int)) (pc1 := 12) (pc2 := 26) (st1 := []) rfl (fun hq9 => ?_) (fun hq9 => ?_)
    · skip
      refine qG.blk 3 (pc' := 15) (ls' := [(2, 87), (0, ((scF (w 88) (w 89) i : Nat) : Int)), (0, ((i : Nat) : Int))]) (st' := [(0, ((i : Nat) : Int)), (2, 87), (0, ((scF (w 88) (w 89) i : Nat) : Int))]) (w' := w) (n' := 142) rfl ?_
      refine qG.call (t := 114) (na := 2) (sk := 1) (md := 1) (ls1 := [(2, 87), (0, ((i : Nat) : Int))]) (r1 := [(0, ((scF (w 88) (w 89) i : Nat) : Int))]) rfl rfl rfl rfl rfl (K_secs87 (Nat.zero_le _) i L hL w hI hs (by omega)) ?_
      rintro _ w7 _ ⟨rfl, hw7, rfl⟩
      rw [hw7]
      show qG none (d + 1) 116 18 [(2, 87), (0, ((scF (w 88) (w 89) i : Nat) : Int)), (0, ((i : Nat) : Int))] [(0, (if w 88 i = 2 then w 89 i else 1)), (0, ((scF (w 88) (w 89) i : Nat) : Int))] w 142 Q9
      refine qG.blk 1 (pc' := 19) (ls' := [(2, 87), (0, ((scF (w 88) (w 89) i : Nat) : Int)), (0, ((i : Nat) : Int))]) (st' := [(0, wrp (((scF (w 88) (w 89) i : Nat) : Int) + (if w 88 i = 2 then w 89 i else 1)))]) (w' := w) (n' := 142) rfl ?_
      rw [show wrp (((scF (w 88) (w 89) i : Nat) : Int) + (if w 88 i = 2 then w 89 i else 1)) = ((scF (w 88) (w 89) (i + 1) : Nat) : Int) from (by have q := sc_s hKW (show i < L by omega); have z := sc_le hKW (i + 1) (by omega); rw [wrp_id (by omega) (by omega)]; omega)]
      refine qG.blk 2 (pc' := 23) (ls' := [(2, 87), (0, ((scF (w 88) (w 89) (i + 1) : Nat) : Int)), (0, wrp (((i : Nat) : Int) + 1))]) (st' := []) (w' := w) (n' := 142) rfl ?_
      rw [show wrp (((i : Nat) : Int) + 1) = ((i + 1 : Nat) : Int) from wrp_id (by omega) (by omega)]
      refine qG.blk 1 (pc' := 4) (ls' := [(2, 87), (0, ((scF (w 88) (w 89) (i + 1) : Nat) : Int)), (0, ((i + 1 : Nat) : Int))]) (st' := []) (w' := w) (n' := 142) rfl ?_
      exact ih4 _ (by omega) (i + 1) rfl (by omega)
    · skip
      refine qG.blk 1 (pc' := 27) (ls' := [(2, 87), (0, ((scF (w 88) (w 89) i : Nat) : Int)), (0, ((i : Nat) : Int))]) (st' := [(0, ((scF (w 88) (w 89) i : Nat) : Int))]) (w' := w) (n' := 142) rfl ?_
      refine qG.ret rfl rfl ?_
      subst hQ9
      exact ⟨by rw [show L = i by omega], rfl, rfl⟩
  exact L4 _ (0) rfl (Nat.zero_le _)
theorem K_secs91 {d : Nat} (hd : 0 ≤ d) (i : Nat) (L : Nat) (hL : L ≤ 40) (w : qW) (hI : yInv zgf zga zra zSp w) (hs : w 91 2 = (L : Int)) (hi : i < L) : qG none d 114 0 [(2, 91), (0, ((i : Nat) : Int))] [] w 142 (fun (r : qV) (w1 : qW) (n1 : Nat) => r = (0, if w 92 i = 2 then w 93 i else 1) ∧ w1 = w ∧ n1 = 142) := by
  generalize hQ9 : (fun (r : qV) (w1 : qW) (n1 : Nat) => r = (0, if w 92 i = 2 then w 93 i else 1) ∧ w1 = w ∧ n1 = 142) = Q9
  refine qG.blk 1 (pc' := 1) (ls' := [(2, 91), (0, ((i : Nat) : Int))]) (st' := [(0, ((i : Nat) : Int))]) (w' := w) (n' := 142) rfl ?_
  refine qG.br (P := ((i : Nat) : Int) < 0) (pc1 := 18) (pc2 := 4) (st1 := []) rfl (fun hq1 => ?_) (fun hq1 => ?_)
  · exfalso; omega
  · skip
    refine qG.blk 3 (pc' := 9) (ls' := [(2, 91), (0, ((i : Nat) : Int))]) (st' := [(0, w 91 2), (0, ((i : Nat) : Int))]) (w' := w) (n' := 142) rfl ?_
    rw [show w 91 2 = ((L : Nat) : Int) from hs]
    refine qG.br (P := ((i : Nat) : Int) < ((L : Nat) : Int)) (pc1 := 12) (pc2 := 18) (st1 := []) rfl (fun hq9 => ?_) (fun hq9 => ?_)
    · skip
      refine qG.blk 2 (pc' := 15) (ls' := [(2, 91), (0, ((i : Nat) : Int))]) (st' := [(0, 40), (0, ((i : Nat) : Int))]) (w' := w) (n' := 142) rfl ?_
      refine qG.br (P := ((i : Nat) : Int) < 40) (pc1 := 20) (pc2 := 18) (st1 := []) rfl (fun hq15 => ?_) (fun hq15 => ?_)
      · skip
        refine qG.blk 2 (pc' := 24) (ls' := [(2, 91), (0, ((i : Nat) : Int))]) (st' := [(2, w 91 0)]) (w' := w) (n' := 142) rfl ?_
        rw [show w 91 0 = 92 from zref hI rfl rfl]
        refine qG.blk 1 (pc' := 25) (ls' := [(2, 91), (0, ((i : Nat) : Int))]) (st' := [(0, ((i : Nat) : Int)), (2, 92)]) (w' := w) (n' := 142) rfl ?_
        refine qG.ar (P := 0 ≤ ((i : Nat) : Int) ∧ ((i : Nat) : Int) < ((40 : Nat) : Int)) (P2 := 0 < (92 : Int) ∧ (92 : Int) ≤ ((142 : Nat) : Int)) (pc' := 26) (ls' := [(2, 91), (0, ((i : Nat) : Int))]) (st' := [(0, w 92 i)]) (w' := w) (n' := 142) rfl (by omega) (by decide) ?_
        refine qG.blk 1 (pc' := 27) (ls' := [(2, 91), (0, ((i : Nat) : Int))]) (st' := [(0, 2), (0, w 92 i)]) (w' := w) (n' := 142) rfl ?_
        refine qG.br (P := w 92 i = 2) (pc1 := 30) (pc2 := 39) (st1 := []) rfl (fun hk => ?_) (fun hk => ?_)
        · skip
          refine qG.blk 2 (pc' := 34) (ls' := [(2, 91), (0, ((i : Nat) : Int))]) (st' := [(2, w 91 1)]) (w' := w) (n' := 142) rfl ?_
          rw [show w 91 1 = 93 from zref hI rfl rfl]
          refine qG.blk 1 (pc' := 35) (ls' := [(2, 91), (0, ((i : Nat) : Int))]) (st' := [(0, ((i : Nat) : Int)), (2, 93)]) (w' := w) (n' := 142) rfl ?_
          refine qG.ar (P := 0 ≤ ((i : Nat) : Int) ∧ ((i : Nat) : Int) < ((40 : Nat) : Int)) (P2 := 0 < (93 : Int) ∧ (93 : Int) ≤ ((142 : Nat) : Int)) (pc' := 36) (ls' := [(2, 91), (0, ((i : Nat) : Int))]) (st' := [(0, w 93 i)]) (w' := w) (n' := 142) rfl (by omega) (by decide) ?_
          refine qG.blk 1 (pc' := 40) (ls' := [(2, 91), (0, ((i : Nat) : Int))]) (st' := [(0, w 93 i)]) (w' := w) (n' := 142) rfl ?_
          refine qG.ret rfl rfl ?_
          subst hQ9
          first | exact ⟨congrArg (Prod.mk 0) (if_pos hk).symm, rfl, rfl⟩ | exact ⟨congrArg (Prod.mk 0) (if_neg hk).symm, rfl, rfl⟩
        · skip
          refine qG.blk 1 (pc' := 40) (ls' := [(2, 91), (0, ((i : Nat) : Int))]) (st' := [(0, 1)]) (w' := w) (n' := 142) rfl ?_
          refine qG.ret rfl rfl ?_
          subst hQ9
          first | exact ⟨congrArg (Prod.mk 0) (if_pos hk).symm, rfl, rfl⟩ | exact ⟨congrArg (Prod.mk 0) (if_neg hk).symm, rfl, rfl⟩
      · exfalso; omega
    · exfalso; omega
theorem K_allSec91 {d : Nat} (hd : 1 ≤ d) (L : Nat) (hL : L ≤ 40) (w : qW) (hI : yInv zgf zga zra zSp w) (hs : w 91 2 = (L : Int)) (hKW : KNw (w 92) (w 93) L) : qG none d 116 0 [(2, 91), (9, 0), (9, 0)] [] w 142 (fun (r : qV) (w1 : qW) (n1 : Nat) => r = (0, ((scF (w 92) (w 93) L : Nat) : Int)) ∧ w1 = w ∧ n1 = 142) := by
  generalize hQ9 : (fun (r : qV) (w1 : qW) (n1 : Nat) => r = (0, ((scF (w 92) (w 93) L : Nat) : Int)) ∧ w1 = w ∧ n1 = 142) = Q9
  obtain ⟨d, rfl⟩ : ∃ d9, d = d9 + 1 := ⟨d - 1, by omega⟩
  refine qG.blk 4 (pc' := 4) (ls' := [(2, 91), (0, 0), (0, 0)]) (st' := []) (w' := w) (n' := 142) rfl ?_
  have L4 : ∀ (m9 : Nat) (i : Nat), L - i = m9 → (i ≤ L) → qG none (d + 1) 116 4 [(2, 91), (0, ((scF (w 92) (w 93) i : Nat) : Int)), (0, ((i : Nat) : Int))] [] w 142 Q9 := by
    intro m9
    induction m9 using Nat.strongRecOn with
    | ind m9 ih4 =>
    intro i hm4 hI4
    refine qG.blk 3 (pc' := 9) (ls' := [(2, 91), (0, ((scF (w 92) (w 93) i : Nat) : Int)), (0, ((i : Nat) : Int))]) (st' := [(0, w 91 2), (0, ((i : Nat) : Int))]) (w' := w) (n' := 142) rfl ?_
    rw [show w 91 2 = ((L : Nat) : Int) from hs]
    refine qG.br (P := ((i : Nat) : Int) < ((L : Nat) : Int)) (pc1 := 12) (pc2 := 26) (st1 := []) rfl (fun hq9 => ?_) (fun hq9 => ?_)
    · skip
      refine qG.blk 3 (pc' := 15) (ls' := [(2, 91), (0, ((scF (w 92) (w 93) i : Nat) : Int)), (0, ((i : Nat) : Int))]) (st' := [(0, ((i : Nat) : Int)), (2, 91), (0, ((scF (w 92) (w 93) i : Nat) : Int))]) (w' := w) (n' := 142) rfl ?_
      refine qG.call (t := 114) (na := 2) (sk := 1) (md := 1) (ls1 := [(2, 91), (0, ((i : Nat) : Int))]) (r1 := [(0, ((scF (w 92) (w 93) i : Nat) : Int))]) rfl rfl rfl rfl rfl (K_secs91 (Nat.zero_le _) i L hL w hI hs (by omega)) ?_
      rintro _ w7 _ ⟨rfl, hw7, rfl⟩
      rw [hw7]
      show qG none (d + 1) 116 18 [(2, 91), (0, ((scF (w 92) (w 93) i : Nat) : Int)), (0, ((i : Nat) : Int))] [(0, (if w 92 i = 2 then w 93 i else 1)), (0, ((scF (w 92) (w 93) i : Nat) : Int))] w 142 Q9
      refine qG.blk 1 (pc' := 19) (ls' := [(2, 91), (0, ((scF (w 92) (w 93) i : Nat) : Int)), (0, ((i : Nat) : Int))]) (st' := [(0, wrp (((scF (w 92) (w 93) i : Nat) : Int) + (if w 92 i = 2 then w 93 i else 1)))]) (w' := w) (n' := 142) rfl ?_
      rw [show wrp (((scF (w 92) (w 93) i : Nat) : Int) + (if w 92 i = 2 then w 93 i else 1)) = ((scF (w 92) (w 93) (i + 1) : Nat) : Int) from (by have q := sc_s hKW (show i < L by omega); have z := sc_le hKW (i + 1) (by omega); rw [wrp_id (by omega) (by omega)]; omega)]
      refine qG.blk 2 (pc' := 23) (ls' := [(2, 91), (0, ((scF (w 92) (w 93) (i + 1) : Nat) : Int)), (0, wrp (((i : Nat) : Int) + 1))]) (st' := []) (w' := w) (n' := 142) rfl ?_
      rw [show wrp (((i : Nat) : Int) + 1) = ((i + 1 : Nat) : Int) from wrp_id (by omega) (by omega)]
      refine qG.blk 1 (pc' := 4) (ls' := [(2, 91), (0, ((scF (w 92) (w 93) (i + 1) : Nat) : Int)), (0, ((i + 1 : Nat) : Int))]) (st' := []) (w' := w) (n' := 142) rfl ?_
      exact ih4 _ (by omega) (i + 1) rfl (by omega)
    · skip
      refine qG.blk 1 (pc' := 27) (ls' := [(2, 91), (0, ((scF (w 92) (w 93) i : Nat) : Int)), (0, ((i : Nat) : Int))]) (st' := [(0, ((scF (w 92) (w 93) i : Nat) : Int))]) (w' := w) (n' := 142) rfl ?_
      refine qG.ret rfl rfl ?_
      subst hQ9
      exact ⟨by rw [show L = i by omega], rfl, rfl⟩
  exact L4 _ (0) rfl (Nat.zero_le _)
theorem K_vwOf4 {d : Nat} (hd : 0 ≤ d) (i : Nat) (L : Nat) (hL : L ≤ 40) (w : qW) (hI : yInv zgf zga zra zSp w) (hs : w 4 2 = (L : Int)) (hi : i < L) : qG none d 115 0 [(2, 4), (0, ((i : Nat) : Int))] [] w 142 (fun (r : qV) (w1 : qW) (n1 : Nat) => r = (0, w 7 i) ∧ w1 = w ∧ n1 = 142) := by
  generalize hQ9 : (fun (r : qV) (w1 : qW) (n1 : Nat) => r = (0, w 7 i) ∧ w1 = w ∧ n1 = 142) = Q9
  refine qG.blk 1 (pc' := 1) (ls' := [(2, 4), (0, ((i : Nat) : Int))]) (st' := [(0, ((i : Nat) : Int))]) (w' := w) (n' := 142) rfl ?_
  refine qG.br (P := ((i : Nat) : Int) < 0) (pc1 := 27) (pc2 := 4) (st1 := []) rfl (fun hq1 => ?_) (fun hq1 => ?_)
  · exfalso; omega
  · skip
    refine qG.blk 3 (pc' := 9) (ls' := [(2, 4), (0, ((i : Nat) : Int))]) (st' := [(0, w 4 2), (0, ((i : Nat) : Int))]) (w' := w) (n' := 142) rfl ?_
    rw [show w 4 2 = ((L : Nat) : Int) from hs]
    refine qG.br (P := ((i : Nat) : Int) < ((L : Nat) : Int)) (pc1 := 12) (pc2 := 27) (st1 := []) rfl (fun hq9 => ?_) (fun hq9 => ?_)
    · skip
      refine qG.blk 2 (pc' := 15) (ls' := [(2, 4), (0, ((i : Nat) : Int))]) (st' := [(0, 40), (0, ((i : Nat) : Int))]) (w' := w) (n' := 142) rfl ?_
      refine qG.br (P := ((i : Nat) : Int) < 40) (pc1 := 18) (pc2 := 27) (st1 := []) rfl (fun hq15 => ?_) (fun hq15 => ?_)
      · skip
        refine qG.blk 2 (pc' := 22) (ls' := [(2, 4), (0, ((i : Nat) : Int))]) (st' := [(2, w 4 3)]) (w' := w) (n' := 142) rfl ?_
        rw [show w 4 3 = 7 from zref hI rfl rfl]
        refine qG.blk 1 (pc' := 23) (ls' := [(2, 4), (0, ((i : Nat) : Int))]) (st' := [(0, ((i : Nat) : Int)), (2, 7)]) (w' := w) (n' := 142) rfl ?_
        refine qG.ar (P := 0 ≤ ((i : Nat) : Int) ∧ ((i : Nat) : Int) < ((40 : Nat) : Int)) (P2 := 0 < (7 : Int) ∧ (7 : Int) ≤ ((142 : Nat) : Int)) (pc' := 24) (ls' := [(2, 4), (0, ((i : Nat) : Int))]) (st' := [(0, w 7 i)]) (w' := w) (n' := 142) rfl (by omega) (by decide) ?_
        refine qG.blk 1 (pc' := 28) (ls' := [(2, 4), (0, ((i : Nat) : Int))]) (st' := [(0, w 7 i)]) (w' := w) (n' := 142) rfl ?_
        refine qG.ret rfl rfl ?_
        subst hQ9
        exact ⟨rfl, rfl, rfl⟩
      · exfalso; omega
    · exfalso; omega
theorem K_vwOf79 {d : Nat} (hd : 0 ≤ d) (i : Nat) (L : Nat) (hL : L ≤ 40) (w : qW) (hI : yInv zgf zga zra zSp w) (hs : w 79 2 = (L : Int)) (hi : i < L) : qG none d 115 0 [(2, 79), (0, ((i : Nat) : Int))] [] w 142 (fun (r : qV) (w1 : qW) (n1 : Nat) => r = (0, w 82 i) ∧ w1 = w ∧ n1 = 142) := by
  generalize hQ9 : (fun (r : qV) (w1 : qW) (n1 : Nat) => r = (0, w 82 i) ∧ w1 = w ∧ n1 = 142) = Q9
  refine qG.blk 1 (pc' := 1) (ls' := [(2, 79), (0, ((i : Nat) : Int))]) (st' := [(0, ((i : Nat) : Int))]) (w' := w) (n' := 142) rfl ?_
  refine qG.br (P := ((i : Nat) : Int) < 0) (pc1 := 27) (pc2 := 4) (st1 := []) rfl (fun hq1 => ?_) (fun hq1 => ?_)
  · exfalso; omega
  · skip
    refine qG.blk 3 (pc' := 9) (ls' := [(2, 79), (0, ((i : Nat) : Int))]) (st' := [(0, w 79 2), (0, ((i : Nat) : Int))]) (w' := w) (n' := 142) rfl ?_
    rw [show w 79 2 = ((L : Nat) : Int) from hs]
    refine qG.br (P := ((i : Nat) : Int) < ((L : Nat) : Int)) (pc1 := 12) (pc2 := 27) (st1 := []) rfl (fun hq9 => ?_) (fun hq9 => ?_)
    · skip
      refine qG.blk 2 (pc' := 15) (ls' := [(2, 79), (0, ((i : Nat) : Int))]) (st' := [(0, 40), (0, ((i : Nat) : Int))]) (w' := w) (n' := 142) rfl ?_
      refine qG.br (P := ((i : Nat) : Int) < 40) (pc1 := 18) (pc2 := 27) (st1 := []) rfl (fun hq15 => ?_) (fun hq15 => ?_)
      · skip
        refine qG.blk 2 (pc' := 22) (ls' := [(2, 79), (0, ((i : Nat) : Int))]) (st' := [(2, w 79 3)]) (w' := w) (n' := 142) rfl ?_
        rw [show w 79 3 = 82 from zref hI rfl rfl]
        refine qG.blk 1 (pc' := 23) (ls' := [(2, 79), (0, ((i : Nat) : Int))]) (st' := [(0, ((i : Nat) : Int)), (2, 82)]) (w' := w) (n' := 142) rfl ?_
        refine qG.ar (P := 0 ≤ ((i : Nat) : Int) ∧ ((i : Nat) : Int) < ((40 : Nat) : Int)) (P2 := 0 < (82 : Int) ∧ (82 : Int) ≤ ((142 : Nat) : Int)) (pc' := 24) (ls' := [(2, 79), (0, ((i : Nat) : Int))]) (st' := [(0, w 82 i)]) (w' := w) (n' := 142) rfl (by omega) (by decide) ?_
        refine qG.blk 1 (pc' := 28) (ls' := [(2, 79), (0, ((i : Nat) : Int))]) (st' := [(0, w 82 i)]) (w' := w) (n' := 142) rfl ?_
        refine qG.ret rfl rfl ?_
        subst hQ9
        exact ⟨rfl, rfl, rfl⟩
      · exfalso; omega
    · exfalso; omega
theorem K_vwOf83 {d : Nat} (hd : 0 ≤ d) (i : Nat) (L : Nat) (hL : L ≤ 40) (w : qW) (hI : yInv zgf zga zra zSp w) (hs : w 83 2 = (L : Int)) (hi : i < L) : qG none d 115 0 [(2, 83), (0, ((i : Nat) : Int))] [] w 142 (fun (r : qV) (w1 : qW) (n1 : Nat) => r = (0, w 86 i) ∧ w1 = w ∧ n1 = 142) := by
  generalize hQ9 : (fun (r : qV) (w1 : qW) (n1 : Nat) => r = (0, w 86 i) ∧ w1 = w ∧ n1 = 142) = Q9
  refine qG.blk 1 (pc' := 1) (ls' := [(2, 83), (0, ((i : Nat) : Int))]) (st' := [(0, ((i : Nat) : Int))]) (w' := w) (n' := 142) rfl ?_
  refine qG.br (P := ((i : Nat) : Int) < 0) (pc1 := 27) (pc2 := 4) (st1 := []) rfl (fun hq1 => ?_) (fun hq1 => ?_)
  · exfalso; omega
  · skip
    refine qG.blk 3 (pc' := 9) (ls' := [(2, 83), (0, ((i : Nat) : Int))]) (st' := [(0, w 83 2), (0, ((i : Nat) : Int))]) (w' := w) (n' := 142) rfl ?_
    rw [show w 83 2 = ((L : Nat) : Int) from hs]
    refine qG.br (P := ((i : Nat) : Int) < ((L : Nat) : Int)) (pc1 := 12) (pc2 := 27) (st1 := []) rfl (fun hq9 => ?_) (fun hq9 => ?_)
    · skip
      refine qG.blk 2 (pc' := 15) (ls' := [(2, 83), (0, ((i : Nat) : Int))]) (st' := [(0, 40), (0, ((i : Nat) : Int))]) (w' := w) (n' := 142) rfl ?_
      refine qG.br (P := ((i : Nat) : Int) < 40) (pc1 := 18) (pc2 := 27) (st1 := []) rfl (fun hq15 => ?_) (fun hq15 => ?_)
      · skip
        refine qG.blk 2 (pc' := 22) (ls' := [(2, 83), (0, ((i : Nat) : Int))]) (st' := [(2, w 83 3)]) (w' := w) (n' := 142) rfl ?_
        rw [show w 83 3 = 86 from zref hI rfl rfl]
        refine qG.blk 1 (pc' := 23) (ls' := [(2, 83), (0, ((i : Nat) : Int))]) (st' := [(0, ((i : Nat) : Int)), (2, 86)]) (w' := w) (n' := 142) rfl ?_
        refine qG.ar (P := 0 ≤ ((i : Nat) : Int) ∧ ((i : Nat) : Int) < ((40 : Nat) : Int)) (P2 := 0 < (86 : Int) ∧ (86 : Int) ≤ ((142 : Nat) : Int)) (pc' := 24) (ls' := [(2, 83), (0, ((i : Nat) : Int))]) (st' := [(0, w 86 i)]) (w' := w) (n' := 142) rfl (by omega) (by decide) ?_
        refine qG.blk 1 (pc' := 28) (ls' := [(2, 83), (0, ((i : Nat) : Int))]) (st' := [(0, w 86 i)]) (w' := w) (n' := 142) rfl ?_
        refine qG.ret rfl rfl ?_
        subst hQ9
        exact ⟨rfl, rfl, rfl⟩
      · exfalso; omega
    · exfalso; omega
theorem K_vwOf87 {d : Nat} (hd : 0 ≤ d) (i : Nat) (L : Nat) (hL : L ≤ 40) (w : qW) (hI : yInv zgf zga zra zSp w) (hs : w 87 2 = (L : Int)) (hi : i < L) : qG none d 115 0 [(2, 87), (0, ((i : Nat) : Int))] [] w 142 (fun (r : qV) (w1 : qW) (n1 : Nat) => r = (0, w 90 i) ∧ w1 = w ∧ n1 = 142) := by
  generalize hQ9 : (fun (r : qV) (w1 : qW) (n1 : Nat) => r = (0, w 90 i) ∧ w1 = w ∧ n1 = 142) = Q9
  refine qG.blk 1 (pc' := 1) (ls' := [(2, 87), (0, ((i : Nat) : Int))]) (st' := [(0, ((i : Nat) : Int))]) (w' := w) (n' := 142) rfl ?_
  refine qG.br (P := ((i : Nat) : Int) < 0) (pc1 := 27) (pc2 := 4) (st1 := []) rfl (fun hq1 => ?_) (fun hq1 => ?_)
  · exfalso; omega
  · skip
    refine qG.blk 3 (pc' := 9) (ls' := [(2, 87), (0, ((i : Nat) : Int))]) (st' := [(0, w 87 2), (0, ((i : Nat) : Int))]) (w' := w) (n' := 142) rfl ?_
    rw [show w 87 2 = ((L : Nat) : Int) from hs]
    refine qG.br (P := ((i : Nat) : Int) < ((L : Nat) : Int)) (pc1 := 12) (pc2 := 27) (st1 := []) rfl (fun hq9 => ?_) (fun hq9 => ?_)
    · skip
      refine qG.blk 2 (pc' := 15) (ls' := [(2, 87), (0, ((i : Nat) : Int))]) (st' := [(0, 40), (0, ((i : Nat) : Int))]) (w' := w) (n' := 142) rfl ?_
      refine qG.br (P := ((i : Nat) : Int) < 40) (pc1 := 18) (pc2 := 27) (st1 := []) rfl (fun hq15 => ?_) (fun hq15 => ?_)
      · skip
        refine qG.blk 2 (pc' := 22) (ls' := [(2, 87), (0, ((i : Nat) : Int))]) (st' := [(2, w 87 3)]) (w' := w) (n' := 142) rfl ?_
        rw [show w 87 3 = 90 from zref hI rfl rfl]
        refine qG.blk 1 (pc' := 23) (ls' := [(2, 87), (0, ((i : Nat) : Int))]) (st' := [(0, ((i : Nat) : Int)), (2, 90)]) (w' := w) (n' := 142) rfl ?_
        refine qG.ar (P := 0 ≤ ((i : Nat) : Int) ∧ ((i : Nat) : Int) < ((40 : Nat) : Int)) (P2 := 0 < (90 : Int) ∧ (90 : Int) ≤ ((142 : Nat) : Int)) (pc' := 24) (ls' := [(2, 87), (0, ((i : Nat) : Int))]) (st' := [(0, w 90 i)]) (w' := w) (n' := 142) rfl (by omega) (by decide) ?_
        refine qG.blk 1 (pc' := 28) (ls' := [(2, 87), (0, ((i : Nat) : Int))]) (st' := [(0, w 90 i)]) (w' := w) (n' := 142) rfl ?_
        refine qG.ret rfl rfl ?_
        subst hQ9
        exact ⟨rfl, rfl, rfl⟩
      · exfalso; omega
    · exfalso; omega
theorem K_vwOf91 {d : Nat} (hd : 0 ≤ d) (i : Nat) (L : Nat) (hL : L ≤ 40) (w : qW) (hI : yInv zgf zga zra zSp w) (hs : w 91 2 = (L : Int)) (hi : i < L) : qG none d 115 0 [(2, 91), (0, ((i : Nat) : Int))] [] w 142 (fun (r : qV) (w1 : qW) (n1 : Nat) => r = (0, w 94 i) ∧ w1 = w ∧ n1 = 142) := by
  generalize hQ9 : (fun (r : qV) (w1 : qW) (n1 : Nat) => r = (0, w 94 i) ∧ w1 = w ∧ n1 = 142) = Q9
  refine qG.blk 1 (pc' := 1) (ls' := [(2, 91), (0, ((i : Nat) : Int))]) (st' := [(0, ((i : Nat) : Int))]) (w' := w) (n' := 142) rfl ?_
  refine qG.br (P := ((i : Nat) : Int) < 0) (pc1 := 27) (pc2 := 4) (st1 := []) rfl (fun hq1 => ?_) (fun hq1 => ?_)
  · exfalso; omega
  · skip
    refine qG.blk 3 (pc' := 9) (ls' := [(2, 91), (0, ((i : Nat) : Int))]) (st' := [(0, w 91 2), (0, ((i : Nat) : Int))]) (w' := w) (n' := 142) rfl ?_
    rw [show w 91 2 = ((L : Nat) : Int) from hs]
    refine qG.br (P := ((i : Nat) : Int) < ((L : Nat) : Int)) (pc1 := 12) (pc2 := 27) (st1 := []) rfl (fun hq9 => ?_) (fun hq9 => ?_)
    · skip
      refine qG.blk 2 (pc' := 15) (ls' := [(2, 91), (0, ((i : Nat) : Int))]) (st' := [(0, 40), (0, ((i : Nat) : Int))]) (w' := w) (n' := 142) rfl ?_
      refine qG.br (P := ((i : Nat) : Int) < 40) (pc1 := 18) (pc2 := 27) (st1 := []) rfl (fun hq15 => ?_) (fun hq15 => ?_)
      · skip
        refine qG.blk 2 (pc' := 22) (ls' := [(2, 91), (0, ((i : Nat) : Int))]) (st' := [(2, w 91 3)]) (w' := w) (n' := 142) rfl ?_
        rw [show w 91 3 = 94 from zref hI rfl rfl]
        refine qG.blk 1 (pc' := 23) (ls' := [(2, 91), (0, ((i : Nat) : Int))]) (st' := [(0, ((i : Nat) : Int)), (2, 94)]) (w' := w) (n' := 142) rfl ?_
        refine qG.ar (P := 0 ≤ ((i : Nat) : Int) ∧ ((i : Nat) : Int) < ((40 : Nat) : Int)) (P2 := 0 < (94 : Int) ∧ (94 : Int) ≤ ((142 : Nat) : Int)) (pc' := 24) (ls' := [(2, 91), (0, ((i : Nat) : Int))]) (st' := [(0, w 94 i)]) (w' := w) (n' := 142) rfl (by omega) (by decide) ?_
        refine qG.blk 1 (pc' := 28) (ls' := [(2, 91), (0, ((i : Nat) : Int))]) (st' := [(0, w 94 i)]) (w' := w) (n' := 142) rfl ?_
        refine qG.ret rfl rfl ?_
        subst hQ9
        exact ⟨rfl, rfl, rfl⟩
      · exfalso; omega
    · exfalso; omega
