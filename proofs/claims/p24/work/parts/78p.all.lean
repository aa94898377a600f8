/-! all, on both sides -/
theorem AW.pp {p : Nat} {w w1 w2 : qW} (hp : p = 56 ∨ p = 137) (h : AW [p] w w1) (h2 : AW [p] w1 w2) : AW [p] w w2 := by
  rcases hp with rfl | rfl <;> exact h.tr h2 (by decide +kernel)
theorem stepF_d {f g : Nat → Int} {M : Nat} (h : 1000000000 < mxF (fun j => f j * g j) M) (j : Nat) : stepF f g M j = f j * g j / 1000 := by
  unfold stepF
  rw [if_pos h]
theorem stepF_k {f g : Nat → Int} {M : Nat} (h : ¬ 1000000000 < mxF (fun j => f j * g j) M) (j : Nat) : stepF f g M j = f j * g j := by
  unfold stepF
  rw [if_neg h]
theorem mxF_0 (f : Nat → Int) : ∀ k, 0 ≤ mxF f k
  | 0 => Int.le_refl 0
  | k + 1 => by
    have ih := mxF_0 f k
    show 0 ≤ (if mxF f k < f k then f k else mxF f k)
    split <;> omega
theorem K_shrinkW {d : Nat} (hd : 1 ≤ d) (M : Nat) (hM9 : M ≤ 12) (w : qW) (hI : yInv zgf zga zra zSp w) (hM4 : w 45 0 = (M : Int)) (u : Nat → Int) (hu : ∀ j, j < M → 0 ≤ u j ∧ u j ≤ 891000000000) (hw : ∀ j, w 56 j = u j) : qG none d 69 0 [(2, 45), (9, 0), (9, 0), (9, 0)] [] w 142 (fun (r : qV) (w1 : qW) (n1 : Nat) => r = (9, 0) ∧ n1 = 142 ∧ AW [56] w w1 ∧ ((1000000000 < mxF u M ∧ ∀ j, j < M → w1 56 j = u j / 1000) ∨ (¬ 1000000000 < mxF u M ∧ ∀ j, j < M → w1 56 j = u j))) := by
  generalize hQ9 : (fun (r : qV) (w1 : qW) (n1 : Nat) => r = (9, 0) ∧ n1 = 142 ∧ AW [56] w w1 ∧ ((1000000000 < mxF u M ∧ ∀ j, j < M → w1 56 j = u j / 1000) ∨ (¬ 1000000000 < mxF u M ∧ ∀ j, j < M → w1 56 j = u j))) = Q9
  obtain ⟨d, rfl⟩ : ∃ d9, d = d9 + 1 := ⟨d - 1, by omega⟩
  refine qG.blk 4 (pc' := 4) (ls' := [(2, 45), (1, 0), (9, 0), (0, 0)]) (st' := []) (w' := w) (n' := 142) rfl ?_
  have L4 : ∀ (m9 : Nat) (k : Nat), M - k = m9 → (k ≤ M) → qG none (d + 1) 69 4 [(2, 45), (1, mxF u k), (9, 0), (0, ((k : Nat) : Int))] [] w 142 Q9 := by
    intro m9
    induction m9 using Nat.strongRecOn with
    | ind m9 ih4 =>
    intro k hm4 hI4
    refine qG.blk 3 (pc' := 9) (ls' := [(2, 45), (1, mxF u k), (9, 0), (0, ((k : Nat) : Int))]) (st' := [(0, w 45 0), (0, ((k : Nat) : Int))]) (w' := w) (n' := 142) rfl ?_
    rw [show w 45 0 = ((M : Nat) : Int) from hM4]
    refine qG.br (P := ((k : Nat) : Int) < ((M : Nat) : Int)) (pc1 := 12) (pc2 := 35) (st1 := []) rfl (fun hkM => ?_) (fun hkM => ?_)
    · skip
      refine qG.blk 2 (pc' := 15) (ls' := [(2, 45), (1, mxF u k), (9, 0), (0, ((k : Nat) : Int))]) (st' := [(0, 12), (0, ((k : Nat) : Int))]) (w' := w) (n' := 142) rfl ?_
      refine qG.br (P := ((k : Nat) : Int) < 12) (pc1 := 18) (pc2 := 35) (st1 := []) rfl (fun hk12 => ?_) (fun hk12 => ?_)
      · skip
        refine qG.blk 3 (pc' := 23) (ls' := [(2, 45), (1, mxF u k), (9, 0), (0, ((k : Nat) : Int))]) (st' := [(2, w 45 13), (1, mxF u k)]) (w' := w) (n' := 142) rfl ?_
        rw [show w 45 13 = 56 from zref hI rfl rfl]
        refine qG.blk 1 (pc' := 24) (ls' := [(2, 45), (1, mxF u k), (9, 0), (0, ((k : Nat) : Int))]) (st' := [(0, ((k : Nat) : Int)), (2, 56), (1, mxF u k)]) (w' := w) (n' := 142) rfl ?_
        refine qG.ar (P := 0 ≤ ((k : Nat) : Int) ∧ ((k : Nat) : Int) < ((12 : Nat) : Int)) (P2 := 0 < (56 : Int) ∧ (56 : Int) ≤ ((142 : Nat) : Int)) (pc' := 25) (ls' := [(2, 45), (1, mxF u k), (9, 0), (0, ((k : Nat) : Int))]) (st' := [(1, w 56 k), (1, mxF u k)]) (w' := w) (n' := 142) rfl (by omega) (by decide) ?_
        rw [show w 56 k = u k from hw k]
        refine qG.mth rfl rfl rfl rfl (pc' := 28) (ls' := [(2, 45), (1, mxF u k), (9, 0), (0, ((k : Nat) : Int))]) (st' := [(1, (if u k < mxF u k then mxF u k else u k))]) (w' := w) (n' := 142) rfl ?_
        rw [show (if u k < mxF u k then mxF u k else u k) = mxF u (k + 1) from by show (if u k < mxF u k then mxF u k else u k) = (if mxF u k < u k then u k else mxF u k); (repeat' split) <;> omega]
        refine qG.blk 2 (pc' := 32) (ls' := [(2, 45), (1, mxF u (k + 1)), (9, 0), (0, wrp (((k : Nat) : Int) + 1))]) (st' := []) (w' := w) (n' := 142) rfl ?_
        rw [show wrp (((k : Nat) : Int) + 1) = ((k + 1 : Nat) : Int) from wrp_id (by omega) (by omega)]
        refine qG.blk 1 (pc' := 4) (ls' := [(2, 45), (1, mxF u (k + 1)), (9, 0), (0, ((k + 1 : Nat) : Int))]) (st' := []) (w' := w) (n' := 142) rfl ?_
        exact ih4 _ (by omega) (k + 1) rfl (by omega)
      · exfalso; omega
    · skip
      have hek : k = M := by omega
      rw [hek]
      refine qG.blk 2 (pc' := 37) (ls' := [(2, 45), (1, mxF u M), (9, 0), (0, 0)]) (st' := []) (w' := w) (n' := 142) rfl ?_
      have L37 : ∀ (m9 : Nat) (k : Nat) (w9 : qW), M - k = m9 → (k ≤ M ∧ PV 56 w w9 k (fun j => u j / 1000) u ∧ (0 < k → 1000000000 < mxF u M)) → qG none (d + 1) 69 37 [(2, 45), (1, mxF u M), (9, 0), (0, ((k : Nat) : Int))] [] w9 142 Q9 := by
        intro m9
        induction m9 using Nat.strongRecOn with
        | ind m9 ih37 =>
        intro k w9 hm37 hI37
        refine qG.blk 3 (pc' := 42) (ls' := [(2, 45), (1, mxF u M), (9, 0), (0, ((k : Nat) : Int))]) (st' := [(0, w9 45 0), (0, ((k : Nat) : Int))]) (w' := w9) (n' := 142) rfl ?_
        rw [show w9 45 0 = ((M : Nat) : Int) from (hI37.2.1.1.2 45 0 (fun _ => rfl)).trans hM4]
        refine qG.br (P := ((k : Nat) : Int) < ((M : Nat) : Int)) (pc1 := 45) (pc2 := 77) (st1 := []) rfl (fun hkN => ?_) (fun hkN => ?_)
        · skip
          refine qG.blk 2 (pc' := 48) (ls' := [(2, 45), (1, mxF u M), (9, 0), (0, ((k : Nat) : Int))]) (st' := [(0, 12), (0, ((k : Nat) : Int))]) (w' := w9) (n' := 142) rfl ?_
          refine qG.br (P := ((k : Nat) : Int) < 12) (pc1 := 51) (pc2 := 77) (st1 := []) rfl (fun hk13 => ?_) (fun hk13 => ?_)
          · skip
            refine qG.blk 3 (pc' := 56) (ls' := [(2, 45), (1, mxF u M), (9, 0), (0, ((k : Nat) : Int))]) (st' := [(0, qcmp (mxF u M) 1000000000)]) (w' := w9) (n' := 142) rfl ?_
            refine qG.br (P := 0 < qcmp (mxF u M) 1000000000) (pc1 := 59) (pc2 := 77) (st1 := []) rfl (fun hmx => ?_) (fun hmx => ?_)
            · skip
              rw [qcmp_p] at hmx
              refine qG.blk 2 (pc' := 63) (ls' := [(2, 45), (1, mxF u M), (9, 0), (0, ((k : Nat) : Int))]) (st' := [(2, w9 45 13)]) (w' := w9) (n' := 142) rfl ?_
              rw [show w9 45 13 = 56 from zref hI37.2.1.1.1 rfl rfl]
              refine qG.blk 2 (pc' := 65) (ls' := [(2, 45), (1, mxF u M), (9, 0), (0, ((k : Nat) : Int))]) (st' := [(0, ((k : Nat) : Int)), (2, 56), (0, ((k : Nat) : Int)), (2, 56)]) (w' := w9) (n' := 142) rfl ?_
              refine qG.ar (P := 0 ≤ ((k : Nat) : Int) ∧ ((k : Nat) : Int) < ((12 : Nat) : Int)) (P2 := 0 < (56 : Int) ∧ (56 : Int) ≤ ((142 : Nat) : Int)) (pc' := 66) (ls' := [(2, 45), (1, mxF u M), (9, 0), (0, ((k : Nat) : Int))]) (st' := [(1, w9 56 k), (0, ((k : Nat) : Int)), (2, 56)]) (w' := w9) (n' := 142) rfl (by omega) (by decide) ?_
              rw [show w9 56 k = u k from hI37.2.1.2.2 k (Nat.le_refl k)]
              refine qG.blk 1 (pc' := 69) (ls' := [(2, 45), (1, mxF u M), (9, 0), (0, ((k : Nat) : Int))]) (st' := [(1, 1000), (1, u k), (0, ((k : Nat) : Int)), (2, 56)]) (w' := w9) (n' := 142) rfl ?_
              refine qG.gn (P := 1000 = 0) (pc' := 70) (ls' := [(2, 45), (1, mxF u M), (9, 0), (0, ((k : Nat) : Int))]) (st' := [(1, qldiv (u k) 1000), (0, ((k : Nat) : Int)), (2, 56)]) (w' := w9) (n' := 142) rfl (by decide) ?_
              rw [show qldiv (u k) 1000 = u k / 1000 from qldiv_k (hu k (by omega)).1 (hu k (by omega)).2]
              refine qG.ar (P := 0 ≤ ((k : Nat) : Int) ∧ ((k : Nat) : Int) < ((12 : Nat) : Int)) (P2 := 0 < (56 : Int) ∧ (56 : Int) ≤ ((142 : Nat) : Int)) (pc' := 71) (ls' := [(2, 45), (1, mxF u M), (9, 0), (0, ((k : Nat) : Int))]) (st' := []) (w' := (qup w9 56 k (u k / 1000))) (n' := 142) rfl (by omega) (by decide) ?_
              refine qG.blk 1 (pc' := 74) (ls' := [(2, 45), (1, mxF u M), (9, 0), (0, wrp (((k : Nat) : Int) + 1))]) (st' := []) (w' := (qup w9 56 k (u k / 1000))) (n' := 142) rfl ?_
              rw [show wrp (((k : Nat) : Int) + 1) = ((k + 1 : Nat) : Int) from wrp_id (by omega) (by omega)]
              refine qG.blk 1 (pc' := 37) (ls' := [(2, 45), (1, mxF u M), (9, 0), (0, ((k + 1 : Nat) : Int))]) (st' := []) (w' := (qup w9 56 k (u k / 1000))) (n' := 142) rfl ?_
              exact ih37 _ (by omega) (k + 1) ((qup w9 56 k (u k / 1000))) rfl (⟨by omega, PV.up (.inl rfl) hI37.2.1 rfl (by have q := hu k (by omega); omega) (by have q := hu k (by omega); omega), fun _ => hmx⟩)
            · skip
              rw [qcmp_p] at hmx
              refine qG.retv rfl rfl ?_
              subst hQ9
              refine ⟨rfl, rfl, hI37.2.1.1, ?_⟩; first | exact .inr ⟨hmx, fun j hj => (by by_cases z : 0 < k; exact absurd (hI37.2.2 z) hmx; exact (hI37.2.1.2.2 j (by omega)))⟩ | (by_cases z : 1000000000 < mxF u M; exact .inl ⟨z, fun j hj => hI37.2.1.2.1 j (by omega)⟩; refine .inr ⟨z, fun j hj => ?_⟩; by_cases z2 : 0 < k; exact absurd (hI37.2.2 z2) z; exact hI37.2.1.2.2 j (by omega))
          · exfalso; omega
        · skip
          refine qG.retv rfl rfl ?_
          subst hQ9
          refine ⟨rfl, rfl, hI37.2.1.1, ?_⟩; first | exact .inr ⟨hmx, fun j hj => (by by_cases z : 0 < k; exact absurd (hI37.2.2 z) hmx; exact (hI37.2.1.2.2 j (by omega)))⟩ | (by_cases z : 1000000000 < mxF u M; exact .inl ⟨z, fun j hj => hI37.2.1.2.1 j (by omega)⟩; refine .inr ⟨z, fun j hj => ?_⟩; by_cases z2 : 0 < k; exact absurd (hI37.2.2 z2) z; exact hI37.2.1.2.2 j (by omega))
      exact L37 _ (0) (w) rfl (⟨by omega, ⟨AW.rf hI, fun j hj => absurd hj (Nat.not_lt_zero j), fun j _ => hw j⟩, fun z => absurd z (Nat.lt_irrefl 0)⟩)
  exact L4 _ (0) rfl (by omega)
theorem K_guessRun {d : Nat} (hd : 4 ≤ d) (a b m : Int) (M N : Nat) (w : qW) (hI : yInv zgf zga zra zSp w) (hJ : JQ w) (hM : w 95 55 = (M : Int)) (hN : w 95 57 = (N : Int))  : qG none d 66 0 [(2, 45), (0, a), (0, b), (0, m), (9, 0)] [] w 142 (fun (r : qV) (_ : qW) (n1 : Nat) => r = (0, allV w a b m) ∧ n1 = 142) := by
  generalize hQ9 : (fun (r : qV) (_ : qW) (n1 : Nat) => r = (0, allV w a b m) ∧ n1 = 142) = Q9
  have h55 := zfld hI (j := 55) (b := (0, 12)) rfl
  have a55 : (0 : Int) ≤ w 95 55 := h55.1
  have b55 : w 95 55 ≤ (12 : Int) := h55.2
  have h57 := zfld hI (j := 57) (b := (0, 60)) rfl
  have b57 : w 95 57 ≤ (60 : Int) := h57.2
  have j45 := hJ.1.1.1
  have j457 := hJ.1.1.2.1
  have hR := rgN_of hI
  obtain ⟨d, rfl⟩ : ∃ d9, d = d9 + 1 := ⟨d - 1, by omega⟩
  refine qG.blk 2 (pc' := 2) (ls' := [(2, 45), (0, a), (0, b), (0, m), (9, 0)]) (st' := [(0, a), (2, 45)]) (w' := w) (n' := 142) rfl ?_
  refine qG.call (t := 60) (na := 2) (sk := 1) (md := 1) (ls1 := [(2, 45), (0, a)]) (r1 := []) rfl rfl rfl rfl rfl (K_X4_isNight (Nat.zero_le _) a w hI) ?_
  rintro _ w7 _ ⟨rfl, hw7, rfl⟩
  rw [hw7]
  show qG none (d + 1) 66 5 [(2, 45), (0, a), (0, b), (0, m), (9, 0)] [(0, isInV a 0 (w 45 7 - 1))] w 142 Q9
  refine qG.br (P := isInV a 0 (w 45 7 - 1) = 0) (pc1 := 29) (pc2 := 8) (st1 := []) rfl (fun h1 => ?_) (fun h1 => ?_)
  · skip
    rw [isIn_b] at h1
    refine qG.blk 1 (pc' := 30) (ls' := [(2, 45), (0, a), (0, b), (0, m), (9, 0)]) (st' := [(0, (-1))]) (w' := w) (n' := 142) rfl ?_
    refine qG.ret rfl rfl ?_
    subst hQ9
    exact ⟨congrArg (Prod.mk (0 : Nat)) (by first | exact (allV_n (by omega)).symm | (unfold allV; rw [if_pos (by omega), hM, Int.toNat_natCast, Int.toNat_natCast, Int.toNat_natCast, show (((b9 : Nat) : Int) + 1 - ((a9 : Nat) : Int)).toNat = n - a9 by omega]; done)), rfl⟩
  · skip
    rw [isIn_p] at h1
    obtain ⟨a9, rfl⟩ : ∃ q : Nat, a = (q : Int) := ⟨a.toNat, by omega⟩
    refine qG.blk 2 (pc' := 10) (ls' := [(2, 45), (0, ((a9 : Nat) : Int)), (0, b), (0, m), (9, 0)]) (st' := [(0, b), (2, 45)]) (w' := w) (n' := 142) rfl ?_
    refine qG.call (t := 60) (na := 2) (sk := 1) (md := 1) (ls1 := [(2, 45), (0, b)]) (r1 := []) rfl rfl rfl rfl rfl (K_X4_isNight (Nat.zero_le _) b w hI) ?_
    rintro _ w7 _ ⟨rfl, hw7, rfl⟩
    rw [hw7]
    show qG none (d + 1) 66 13 [(2, 45), (0, ((a9 : Nat) : Int)), (0, b), (0, m), (9, 0)] [(0, isInV b 0 (w 45 7 - 1))] w 142 Q9
    refine qG.br (P := isInV b 0 (w 45 7 - 1) = 0) (pc1 := 29) (pc2 := 16) (st1 := []) rfl (fun h2 => ?_) (fun h2 => ?_)
    · skip
      rw [isIn_b] at h2
      refine qG.blk 1 (pc' := 30) (ls' := [(2, 45), (0, ((a9 : Nat) : Int)), (0, b), (0, m), (9, 0)]) (st' := [(0, (-1))]) (w' := w) (n' := 142) rfl ?_
      refine qG.ret rfl rfl ?_
      subst hQ9
      exact ⟨congrArg (Prod.mk (0 : Nat)) (by first | exact (allV_n (by omega)).symm | (unfold allV; rw [if_pos (by omega), hM, Int.toNat_natCast, Int.toNat_natCast, Int.toNat_natCast, show (((b9 : Nat) : Int) + 1 - ((a9 : Nat) : Int)).toNat = n - a9 by omega]; done)), rfl⟩
    · skip
      rw [isIn_p] at h2
      obtain ⟨b9, rfl⟩ : ∃ q : Nat, b = (q : Int) := ⟨b.toNat, by omega⟩
      refine qG.blk 2 (pc' := 18) (ls' := [(2, 45), (0, ((a9 : Nat) : Int)), (0, ((b9 : Nat) : Int)), (0, m), (9, 0)]) (st' := [(0, ((b9 : Nat) : Int)), (0, ((a9 : Nat) : Int))]) (w' := w) (n' := 142) rfl ?_
      refine qG.br (P := ((b9 : Nat) : Int) < ((a9 : Nat) : Int)) (pc1 := 29) (pc2 := 21) (st1 := []) rfl (fun h3 => ?_) (fun h3 => ?_)
      · skip
        refine qG.blk 1 (pc' := 30) (ls' := [(2, 45), (0, ((a9 : Nat) : Int)), (0, ((b9 : Nat) : Int)), (0, m), (9, 0)]) (st' := [(0, (-1))]) (w' := w) (n' := 142) rfl ?_
        refine qG.ret rfl rfl ?_
        subst hQ9
        exact ⟨congrArg (Prod.mk (0 : Nat)) (by first | exact (allV_n (by omega)).symm | (unfold allV; rw [if_pos (by omega), hM, Int.toNat_natCast, Int.toNat_natCast, Int.toNat_natCast, show (((b9 : Nat) : Int) + 1 - ((a9 : Nat) : Int)).toNat = n - a9 by omega]; done)), rfl⟩
      · skip
        refine qG.blk 2 (pc' := 23) (ls' := [(2, 45), (0, ((a9 : Nat) : Int)), (0, ((b9 : Nat) : Int)), (0, m), (9, 0)]) (st' := [(0, m), (2, 45)]) (w' := w) (n' := 142) rfl ?_
        refine qG.call (t := 59) (na := 2) (sk := 1) (md := 1) (ls1 := [(2, 45), (0, m)]) (r1 := []) rfl rfl rfl rfl rfl (K_X4_isMaster (Nat.zero_le _) m w hI) ?_
        rintro _ w7 _ ⟨rfl, hw7, rfl⟩
        rw [hw7]
        show qG none (d + 1) 66 26 [(2, 45), (0, ((a9 : Nat) : Int)), (0, ((b9 : Nat) : Int)), (0, m), (9, 0)] [(0, isInV m 0 (w 45 0 - 1))] w 142 Q9
        refine qG.br (P := isInV m 0 (w 45 0 - 1) = 0) (pc1 := 29) (pc2 := 31) (st1 := []) rfl (fun h4 => ?_) (fun h4 => ?_)
        · skip
          rw [isIn_b] at h4
          refine qG.blk 1 (pc' := 30) (ls' := [(2, 45), (0, ((a9 : Nat) : Int)), (0, ((b9 : Nat) : Int)), (0, m), (9, 0)]) (st' := [(0, (-1))]) (w' := w) (n' := 142) rfl ?_
          refine qG.ret rfl rfl ?_
          subst hQ9
          exact ⟨congrArg (Prod.mk (0 : Nat)) (by first | exact (allV_n (by omega)).symm | (unfold allV; rw [if_pos (by omega), hM, Int.toNat_natCast, Int.toNat_natCast, Int.toNat_natCast, show (((b9 : Nat) : Int) + 1 - ((a9 : Nat) : Int)).toNat = n - a9 by omega]; done)), rfl⟩
        · skip
          rw [isIn_p] at h4
          obtain ⟨g9, rfl⟩ : ∃ q : Nat, m = (q : Int) := ⟨m.toNat, by omega⟩
          refine qG.blk 1 (pc' := 32) (ls' := [(2, 45), (0, ((a9 : Nat) : Int)), (0, ((b9 : Nat) : Int)), (0, ((g9 : Nat) : Int)), (9, 0)]) (st' := [(2, 45)]) (w' := w) (n' := 142) rfl ?_
          refine qG.call (t := 67) (na := 1) (sk := 1) (md := 1) (ls1 := [(2, 45), (9, 0)]) (r1 := []) rfl rfl rfl rfl rfl (K_startW (by omega) w hI) ?_
          rintro _ w1 _ ⟨rfl, rfl, hA1, hS1⟩
          show qG none (d + 1) 66 35 [(2, 45), (0, ((a9 : Nat) : Int)), (0, ((b9 : Nat) : Int)), (0, ((g9 : Nat) : Int)), (9, 0)] [] w1 142 Q9
          refine qG.blk 2 (pc' := 38) (ls' := [(2, 45), (0, ((a9 : Nat) : Int)), (0, ((b9 : Nat) : Int)), (0, ((g9 : Nat) : Int)), (0, ((a9 : Nat) : Int))]) (st' := []) (w' := w1) (n' := 142) rfl ?_
          have L38 : ∀ (m9 : Nat) (n : Nat) (w8 : qW), b9 + 1 - n = m9 → ((a9 ≤ n ∧ n ≤ b9 + 1) ∧ n ≤ 60 ∧ AW [56] w w8 ∧ ∀ j, j < M → w8 56 j = prF w a9 M (n - a9) j) → qG none (d + 1) 66 38 [(2, 45), (0, ((a9 : Nat) : Int)), (0, ((b9 : Nat) : Int)), (0, ((g9 : Nat) : Int)), (0, ((n : Nat) : Int))] [] w8 142 Q9 := by
            intro m9
            induction m9 using Nat.strongRecOn with
            | ind m9 ih38 =>
            intro n w8 hm38 hI38
            refine qG.blk 2 (pc' := 41) (ls' := [(2, 45), (0, ((a9 : Nat) : Int)), (0, ((b9 : Nat) : Int)), (0, ((g9 : Nat) : Int)), (0, ((n : Nat) : Int))]) (st' := [(0, ((b9 : Nat) : Int)), (0, ((n : Nat) : Int))]) (w' := w8) (n' := 142) rfl ?_
            refine qG.br (P := ((b9 : Nat) : Int) < ((n : Nat) : Int)) (pc1 := 60) (pc2 := 44) (st1 := []) rfl (fun h5 => ?_) (fun h5 => ?_)
            · skip
              refine qG.blk 2 (pc' := 62) (ls' := [(2, 45), (0, ((a9 : Nat) : Int)), (0, ((b9 : Nat) : Int)), (0, ((g9 : Nat) : Int)), (0, ((n : Nat) : Int))]) (st' := [(0, ((g9 : Nat) : Int)), (2, 45)]) (w' := w8) (n' := 142) rfl ?_
              have hM8 : w8 45 0 = (M : Int) := (hI38.2.2.1.2 45 0 (fun _ => rfl)).trans (hJ.1.1.1.trans hM)
              have hen : n = b9 + 1 := by omega
              refine qG.call (t := 70) (na := 2) (sk := 1) (md := 1) (ls1 := [(2, 45), (0, ((g9 : Nat) : Int)), (9, 0), (9, 0), (9, 0)]) (r1 := []) rfl rfl rfl rfl rfl (K_oddsOf (by omega) g9 M (by omega) (by omega) w8 hI38.2.2.1.1 hM8 (prF w a9 M (n - a9)) (prF_in hR a9 M (n - a9)) hI38.2.2.2) ?_
              rintro _ w7 _ ⟨rfl, hw7, rfl⟩
              rw [hw7]
              show qG none (d + 1) 66 65 [(2, 45), (0, ((a9 : Nat) : Int)), (0, ((b9 : Nat) : Int)), (0, ((g9 : Nat) : Int)), (0, ((n : Nat) : Int))] [(0, odV (prF w a9 M (n - a9)) M g9)] w8 142 Q9
              refine qG.ret rfl rfl ?_
              subst hQ9
              exact ⟨congrArg (Prod.mk (0 : Nat)) (by first | exact (allV_n (by omega)).symm | (unfold allV; rw [if_pos (by omega), hM, Int.toNat_natCast, Int.toNat_natCast, Int.toNat_natCast, show (((b9 : Nat) : Int) + 1 - ((a9 : Nat) : Int)).toNat = n - a9 by omega]; done)), rfl⟩
            · skip
              refine qG.blk 2 (pc' := 47) (ls' := [(2, 45), (0, ((a9 : Nat) : Int)), (0, ((b9 : Nat) : Int)), (0, ((g9 : Nat) : Int)), (0, ((n : Nat) : Int))]) (st' := [(0, ((n : Nat) : Int)), (2, 45)]) (w' := w8) (n' := 142) rfl ?_
              have hJ8 := hJ.aw hI38.2.2.1 (by decide +kernel)
              have hM8 := (hI38.2.2.1.2 95 55 (fun _ => rfl)).trans hM
              have hN8 := (hI38.2.2.1.2 95 57 (fun _ => rfl)).trans hN
              refine qG.call (t := 68) (na := 2) (sk := 1) (md := 1) (ls1 := [(2, 45), (0, ((n : Nat) : Int)), (9, 0)]) (r1 := []) rfl rfl rfl rfl rfl (K_mulW (by omega) n M N w8 hI38.2.2.1.1 hJ8 hM8 hN8 (by omega) (w8 56) (fun j hj => by rw [hI38.2.2.2 j hj]; exact prF_in hR a9 M (n - a9) j hj) (fun _ => rfl)) ?_
              rintro _ w2 _ ⟨rfl, rfl, hA2, hS2⟩
              have hu : ∀ j, j < M → w2 56 j = prF w a9 M (n - a9) j * wgV w n j := fun j hj => by rw [hS2 j hj, hI38.2.2.2 j hj]; rw [wg_aw (.inl rfl) hI38.2.2.1 n j]
              have hub : ∀ j, j < M → 0 ≤ w2 56 j ∧ w2 56 j ≤ 891000000000 := fun j hj => by rw [hu j hj]; have q1 := prF_in hR a9 M (n - a9) j hj; have q2 := wgV_in hR n j; exact mul_b q1.1 q1.2 q2.1 q2.2
              have hA28 := AW.pp (.inl rfl) hI38.2.2.1 hA2
              have hM2 : w2 45 0 = (M : Int) := (hA28.2 45 0 (fun _ => rfl)).trans (hJ.1.1.1.trans hM)
              show qG none (d + 1) 66 50 [(2, 45), (0, ((a9 : Nat) : Int)), (0, ((b9 : Nat) : Int)), (0, ((g9 : Nat) : Int)), (0, ((n : Nat) : Int))] [] w2 142 Q9
              refine qG.blk 1 (pc' := 51) (ls' := [(2, 45), (0, ((a9 : Nat) : Int)), (0, ((b9 : Nat) : Int)), (0, ((g9 : Nat) : Int)), (0, ((n : Nat) : Int))]) (st' := [(2, 45)]) (w' := w2) (n' := 142) rfl ?_
              refine qG.call (t := 69) (na := 1) (sk := 1) (md := 1) (ls1 := [(2, 45), (9, 0), (9, 0), (9, 0)]) (r1 := []) rfl rfl rfl rfl rfl (K_shrinkW (by omega) M (by omega) w2 hA2.1 hM2 (w2 56) hub (fun _ => rfl)) ?_
              rintro _ w3 _ ⟨rfl, rfl, hA3, hS3⟩
              have hA38 := AW.pp (.inl rfl) hA28 hA3
              have hmc : mxF (w2 56) M = mxF (fun j => prF w a9 M (n - a9) j * wgV w n j) M := mxF_cg M hu
              have hst : ∀ j, j < M → w3 56 j = prF w a9 M (n + 1 - a9) j := fun j hj => (by rw [show n + 1 - a9 = (n - a9) + 1 by omega]; show w3 56 j = stepF (prF w a9 M (n - a9)) (fun j => wgV w (a9 + (n - a9)) j) M j; rw [show a9 + (n - a9) = n by omega]; rcases hS3 with ⟨z, z2⟩ | ⟨z, z2⟩; (rw [hmc] at z; rw [z2 j hj, hu j hj, stepF_d z]); (rw [hmc] at z; rw [z2 j hj, hu j hj, stepF_k z]))
              show qG none (d + 1) 66 54 [(2, 45), (0, ((a9 : Nat) : Int)), (0, ((b9 : Nat) : Int)), (0, ((g9 : Nat) : Int)), (0, ((n : Nat) : Int))] [] w3 142 Q9
              refine qG.blk 1 (pc' := 57) (ls' := [(2, 45), (0, ((a9 : Nat) : Int)), (0, ((b9 : Nat) : Int)), (0, ((g9 : Nat) : Int)), (0, wrp (((n : Nat) : Int) + 1))]) (st' := []) (w' := w3) (n' := 142) rfl ?_
              rw [show wrp (((n : Nat) : Int) + 1) = ((n + 1 : Nat) : Int) from wrp_id (by omega) (by omega)]
              refine qG.blk 1 (pc' := 38) (ls' := [(2, 45), (0, ((a9 : Nat) : Int)), (0, ((b9 : Nat) : Int)), (0, ((g9 : Nat) : Int)), (0, ((n + 1 : Nat) : Int))]) (st' := []) (w' := w3) (n' := 142) rfl ?_
              exact ih38 _ (by omega) (n + 1) (w3) rfl (⟨⟨by omega, by omega⟩, by omega, hA38, hst⟩)
          exact L38 _ (a9) (w1) rfl (⟨⟨by omega, by omega⟩, by omega, hA1, fun j hj => by rw [hS1 j (by omega), Nat.sub_self]; rfl⟩)
theorem K_X11_all {d : Nat} (hd : 5 ≤ d) (a b m : Int) (M N : Nat) (w : qW) (hI : yInv zgf zga zra zSp w) (hJ : JQ w) (hM : w 95 55 = (M : Int)) (hN : w 95 57 = (N : Int))  : qG none d 190 0 [(2, 1), (0, a), (0, b), (0, m)] [] w 142 (fun (r : qV) (_ : qW) (_ : Nat) => r = (0, allV w a b m)) := by
  generalize hQ9 : (fun (r : qV) (_ : qW) (_ : Nat) => r = (0, allV w a b m)) = Q9
  obtain ⟨d, rfl⟩ : ∃ d9, d = d9 + 1 := ⟨d - 1, by omega⟩
  refine qG.blk 2 (pc' := 4) (ls' := [(2, 1), (0, a), (0, b), (0, m)]) (st' := [(2, w 1 7)]) (w' := w) (n' := 142) rfl ?_
  rw [show w 1 7 = 45 from zref hI rfl rfl]
  refine qG.blk 3 (pc' := 7) (ls' := [(2, 1), (0, a), (0, b), (0, m)]) (st' := [(0, m), (0, b), (0, a), (2, 45)]) (w' := w) (n' := 142) rfl ?_
  refine qG.call (t := 66) (na := 4) (sk := 1) (md := 1) (ls1 := [(2, 45), (0, a), (0, b), (0, m), (9, 0)]) (r1 := []) rfl rfl rfl rfl rfl (K_guessRun (by omega) a b m M N w hI hJ hM hN) ?_
  rintro _ w8 _ ⟨rfl, rfl⟩
  show qG none (d + 1) 190 10 [(2, 1), (0, a), (0, b), (0, m)] [(0, allV w a b m)] w8 142 Q9
  refine qG.ret rfl rfl ?_
  subst hQ9
  exact rfl
theorem mx_1 {f : Nat → Int} {k : Nat} (h : 1000000000 < mxF f k) : 1000000000 < mxF f (k + 1) := by
  show 1000000000 < (if mxF f k < f k then f k else mxF f k)
  split <;> omega
theorem mx_2 {f : Nat → Int} {k : Nat} (h : 1000000000 < f k) : 1000000000 < mxF f (k + 1) := by
  show 1000000000 < (if mxF f k < f k then f k else mxF f k)
  split <;> omega
theorem mx_3 {f : Nat → Int} {k : Nat} (h : ¬ 1000000000 < mxF f k) (h2 : ¬ 1000000000 < f k) : ¬ 1000000000 < mxF f (k + 1) := by
  show ¬ 1000000000 < (if mxF f k < f k then f k else mxF f k)
  split <;> omega
theorem pr_s {w : qW} {a M n : Nat} (hn : a ≤ n) (j : Nat) : prF w a M (n + 1 - a) j = stepF (prF w a M (n - a)) (fun j => wgV w n j) M j := by
  rw [show n + 1 - a = (n - a) + 1 by omega]
  show stepF (prF w a M (n - a)) (fun j => wgV w (a + (n - a)) j) M j = _
  rw [show a + (n - a) = n by omega]
theorem K_X12_all9 {d : Nat} (hd : 4 ≤ d) (a b m : Int) (M N : Nat) (w : qW) (hI : yInv zgf zga zra zSp w) (hM : w 95 55 = (M : Int)) (hN : w 95 57 = (N : Int))  : qG none d 287 0 [(2, 95), (0, a), (0, b), (0, m), (9, 0), (9, 0), (9, 0)] [] w 142 (fun (r : qV) (_ : qW) (_ : Nat) => r = (0, allV w a b m)) := by
  generalize hQ9 : (fun (r : qV) (_ : qW) (_ : Nat) => r = (0, allV w a b m)) = Q9
  have h55 := zfld hI (j := 55) (b := (0, 12)) rfl
  have a55 : (0 : Int) ≤ w 95 55 := h55.1
  have b55 : w 95 55 ≤ (12 : Int) := h55.2
  have h57 := zfld hI (j := 57) (b := (0, 60)) rfl
  have b57 : w 95 57 ≤ (60 : Int) := h57.2
  have hR := rgN_of hI
  have a57 : (0 : Int) ≤ w 95 57 := h57.1
  obtain ⟨d, rfl⟩ : ∃ d9, d = d9 + 1 := ⟨d - 1, by omega⟩
  refine qG.blk 6 (pc' := 8) (ls' := [(2, 95), (0, a), (0, b), (0, m), (9, 0), (9, 0), (9, 0)]) (st' := [(0, wrp ((w 95 57) - 1)), (0, 0), (0, a)]) (w' := w) (n' := 142) rfl ?_
  rw [show wrp ((w 95 57) - 1) = w 95 57 - 1 from wrp_id (by omega) (by omega)]
  refine qG.call (t := 206) (na := 3) (sk := 0) (md := 0) (ls1 := [(0, a), (0, 0), (0, w 95 57 - 1)]) (r1 := []) rfl rfl rfl rfl rfl (K_isIn (Nat.zero_le _) _ _ _ _) ?_
  rintro _ w7 _ ⟨rfl, hw7, rfl⟩
  rw [hw7]
  show qG none (d + 1) 287 11 [(2, 95), (0, a), (0, b), (0, m), (9, 0), (9, 0), (9, 0)] [(0, isInV a 0 (w 95 57 - 1))] w 142 Q9
  refine qG.br (P := isInV a 0 (w 95 57 - 1) = 0) (pc1 := 36) (pc2 := 14) (st1 := []) rfl (fun h1 => ?_) (fun h1 => ?_)
  · skip
    rw [isIn_b] at h1
    refine qG.blk 1 (pc' := 37) (ls' := [(2, 95), (0, a), (0, b), (0, m), (9, 0), (9, 0), (9, 0)]) (st' := [(0, (-1))]) (w' := w) (n' := 142) rfl ?_
    refine qG.ret rfl rfl ?_
    subst hQ9
    exact congrArg (Prod.mk (0 : Nat)) (by first | exact (allV_n (by omega)).symm | (unfold allV odV; rw [if_pos (by omega), hM, Int.toNat_natCast, Int.toNat_natCast, Int.toNat_natCast, show (((b9 : Nat) : Int) + 1 - ((a9 : Nat) : Int)).toNat = n - a9 by omega]; first | (rw [if_pos hs0]; done) | (rw [if_neg hs0]; done) | (rw [if_pos hs0]; rfl) | (rw [if_neg hs0]; rfl)))
  · skip
    rw [isIn_p] at h1
    obtain ⟨a9, rfl⟩ : ∃ q : Nat, a = (q : Int) := ⟨a.toNat, by omega⟩
    refine qG.blk 6 (pc' := 22) (ls' := [(2, 95), (0, ((a9 : Nat) : Int)), (0, b), (0, m), (9, 0), (9, 0), (9, 0)]) (st' := [(0, wrp ((w 95 57) - 1)), (0, ((a9 : Nat) : Int)), (0, b)]) (w' := w) (n' := 142) rfl ?_
    rw [show wrp ((w 95 57) - 1) = w 95 57 - 1 from wrp_id (by omega) (by omega)]
    refine qG.call (t := 206) (na := 3) (sk := 0) (md := 0) (ls1 := [(0, b), (0, ((a9 : Nat) : Int)), (0, w 95 57 - 1)]) (r1 := []) rfl rfl rfl rfl rfl (K_isIn (Nat.zero_le _) _ _ _ _) ?_
    rintro _ w7 _ ⟨rfl, hw7, rfl⟩
    rw [hw7]
    show qG none (d + 1) 287 25 [(2, 95), (0, ((a9 : Nat) : Int)), (0, b), (0, m), (9, 0), (9, 0), (9, 0)] [(0, isInV b ((a9 : Nat) : Int) (w 95 57 - 1))] w 142 Q9
    refine qG.br (P := isInV b ((a9 : Nat) : Int) (w 95 57 - 1) = 0) (pc1 := 36) (pc2 := 28) (st1 := []) rfl (fun h2 => ?_) (fun h2 => ?_)
    · skip
      rw [isIn_b] at h2
      refine qG.blk 1 (pc' := 37) (ls' := [(2, 95), (0, ((a9 : Nat) : Int)), (0, b), (0, m), (9, 0), (9, 0), (9, 0)]) (st' := [(0, (-1))]) (w' := w) (n' := 142) rfl ?_
      refine qG.ret rfl rfl ?_
      subst hQ9
      exact congrArg (Prod.mk (0 : Nat)) (by first | exact (allV_n (by omega)).symm | (unfold allV odV; rw [if_pos (by omega), hM, Int.toNat_natCast, Int.toNat_natCast, Int.toNat_natCast, show (((b9 : Nat) : Int) + 1 - ((a9 : Nat) : Int)).toNat = n - a9 by omega]; first | (rw [if_pos hs0]; done) | (rw [if_neg hs0]; done) | (rw [if_pos hs0]; rfl) | (rw [if_neg hs0]; rfl)))
    · skip
      rw [isIn_p] at h2
      obtain ⟨b9, rfl⟩ : ∃ q : Nat, b = (q : Int) := ⟨b.toNat, by omega⟩
      refine qG.blk 2 (pc' := 30) (ls' := [(2, 95), (0, ((a9 : Nat) : Int)), (0, ((b9 : Nat) : Int)), (0, m), (9, 0), (9, 0), (9, 0)]) (st' := [(0, m), (2, 95)]) (w' := w) (n' := 142) rfl ?_
      refine qG.call (t := 279) (na := 2) (sk := 1) (md := 1) (ls1 := [(2, 95), (0, m)]) (r1 := []) rfl rfl rfl rfl rfl (K_isMaster (by omega) m w hI) ?_
      rintro _ w7 _ ⟨rfl, hw7, rfl⟩
      rw [hw7]
      show qG none (d + 1) 287 33 [(2, 95), (0, ((a9 : Nat) : Int)), (0, ((b9 : Nat) : Int)), (0, m), (9, 0), (9, 0), (9, 0)] [(0, isInV m 0 (w 95 55 - 1))] w 142 Q9
      refine qG.br (P := isInV m 0 (w 95 55 - 1) = 0) (pc1 := 36) (pc2 := 38) (st1 := []) rfl (fun h3 => ?_) (fun h3 => ?_)
      · skip
        rw [isIn_b] at h3
        refine qG.blk 1 (pc' := 37) (ls' := [(2, 95), (0, ((a9 : Nat) : Int)), (0, ((b9 : Nat) : Int)), (0, m), (9, 0), (9, 0), (9, 0)]) (st' := [(0, (-1))]) (w' := w) (n' := 142) rfl ?_
        refine qG.ret rfl rfl ?_
        subst hQ9
        exact congrArg (Prod.mk (0 : Nat)) (by first | exact (allV_n (by omega)).symm | (unfold allV odV; rw [if_pos (by omega), hM, Int.toNat_natCast, Int.toNat_natCast, Int.toNat_natCast, show (((b9 : Nat) : Int) + 1 - ((a9 : Nat) : Int)).toNat = n - a9 by omega]; first | (rw [if_pos hs0]; done) | (rw [if_neg hs0]; done) | (rw [if_pos hs0]; rfl) | (rw [if_neg hs0]; rfl)))
      · skip
        rw [isIn_p] at h3
        obtain ⟨g9, rfl⟩ : ∃ q : Nat, m = (q : Int) := ⟨m.toNat, by omega⟩
        refine qG.blk 2 (pc' := 41) (ls' := [(2, 95), (0, ((a9 : Nat) : Int)), (0, ((b9 : Nat) : Int)), (0, ((g9 : Nat) : Int)), (0, 0), (9, 0), (9, 0)]) (st' := []) (w' := w) (n' := 142) rfl ?_
        have L41 : ∀ (m9 : Nat) (k : Nat) (w9 : qW), M - k = m9 → (k ≤ M ∧ AW [137] w w9 ∧ (∀ j : Nat, j < k → w9 137 j = 1)) → qG none (d + 1) 287 41 [(2, 95), (0, ((a9 : Nat) : Int)), (0, ((b9 : Nat) : Int)), (0, ((g9 : Nat) : Int)), (0, ((k : Nat) : Int)), (9, 0), (9, 0)] [] w9 142 Q9 := by
          intro m9
          induction m9 using Nat.strongRecOn with
          | ind m9 ih41 =>
          intro k w9 hm41 hI41
          refine qG.blk 3 (pc' := 47) (ls' := [(2, 95), (0, ((a9 : Nat) : Int)), (0, ((b9 : Nat) : Int)), (0, ((g9 : Nat) : Int)), (0, ((k : Nat) : Int)), (9, 0), (9, 0)]) (st' := [(0, w9 95 55), (0, ((k : Nat) : Int))]) (w' := w9) (n' := 142) rfl ?_
          rw [show w9 95 55 = ((M : Nat) : Int) from (hI41.2.1.2 95 55 (fun _ => rfl)).trans hM]
          refine qG.br (P := ((k : Nat) : Int) < ((M : Nat) : Int)) (pc1 := 50) (pc2 := 64) (st1 := []) rfl (fun h1 => ?_) (fun h1 => ?_)
          · skip
            refine qG.blk 2 (pc' := 54) (ls' := [(2, 95), (0, ((a9 : Nat) : Int)), (0, ((b9 : Nat) : Int)), (0, ((g9 : Nat) : Int)), (0, ((k : Nat) : Int)), (9, 0), (9, 0)]) (st' := [(2, w9 95 70)]) (w' := w9) (n' := 142) rfl ?_
            rw [show w9 95 70 = 137 from zref hI41.2.1.1 rfl rfl]
            refine qG.blk 2 (pc' := 57) (ls' := [(2, 95), (0, ((a9 : Nat) : Int)), (0, ((b9 : Nat) : Int)), (0, ((g9 : Nat) : Int)), (0, ((k : Nat) : Int)), (9, 0), (9, 0)]) (st' := [(1, 1), (0, ((k : Nat) : Int)), (2, 137)]) (w' := w9) (n' := 142) rfl ?_
            refine qG.ar (P := 0 ≤ ((k : Nat) : Int) ∧ ((k : Nat) : Int) < ((12 : Nat) : Int)) (P2 := 0 < (137 : Int) ∧ (137 : Int) ≤ ((142 : Nat) : Int)) (pc' := 58) (ls' := [(2, 95), (0, ((a9 : Nat) : Int)), (0, ((b9 : Nat) : Int)), (0, ((g9 : Nat) : Int)), (0, ((k : Nat) : Int)), (9, 0), (9, 0)]) (st' := []) (w' := (qup w9 137 k 1)) (n' := 142) rfl (by omega) (by decide) ?_
            refine qG.blk 1 (pc' := 61) (ls' := [(2, 95), (0, ((a9 : Nat) : Int)), (0, ((b9 : Nat) : Int)), (0, ((g9 : Nat) : Int)), (0, wrp (((k : Nat) : Int) + 1)), (9, 0), (9, 0)]) (st' := []) (w' := (qup w9 137 k 1)) (n' := 142) rfl ?_
            rw [show wrp (((k : Nat) : Int) + 1) = ((k + 1 : Nat) : Int) from wrp_id (by omega) (by omega)]
            refine qG.blk 1 (pc' := 41) (ls' := [(2, 95), (0, ((a9 : Nat) : Int)), (0, ((b9 : Nat) : Int)), (0, ((g9 : Nat) : Int)), (0, ((k + 1 : Nat) : Int)), (9, 0), (9, 0)]) (st' := []) (w' := (qup w9 137 k 1)) (n' := 142) rfl ?_
            exact ih41 _ (by omega) (k + 1) ((qup w9 137 k 1)) rfl ((by have q := PV.up (f := fun _ => 1) (g := w9 137) (k := k) (v := 1) (.inr rfl) ⟨hI41.2.1, hI41.2.2, fun _ _ => rfl⟩ rfl (by decide) (by decide); exact ⟨by omega, q.1, q.2.1⟩))
          · skip
            refine qG.blk 2 (pc' := 67) (ls' := [(2, 95), (0, ((a9 : Nat) : Int)), (0, ((b9 : Nat) : Int)), (0, ((g9 : Nat) : Int)), (0, ((a9 : Nat) : Int)), (9, 0), (9, 0)]) (st' := []) (w' := w9) (n' := 142) rfl ?_
            have L67 : ∀ (m9 : Nat) (n : Nat) (w8 : qW) (x5 x6 : qV), b9 + 1 - n = m9 → ((a9 ≤ n ∧ n ≤ b9 + 1) ∧ AW [137] w w8 ∧ ∀ j : Nat, j < M → w8 137 j = prF w a9 M (n - a9) j) → qG none (d + 1) 287 67 [(2, 95), (0, ((a9 : Nat) : Int)), (0, ((b9 : Nat) : Int)), (0, ((g9 : Nat) : Int)), (0, ((n : Nat) : Int)), x5, x6] [] w8 142 Q9 := by
              intro m9
              induction m9 using Nat.strongRecOn with
              | ind m9 ih67 =>
              intro n w8 x5 x6 hm67 hI67
              refine qG.blk 2 (pc' := 70) (ls' := [(2, 95), (0, ((a9 : Nat) : Int)), (0, ((b9 : Nat) : Int)), (0, ((g9 : Nat) : Int)), (0, ((n : Nat) : Int)), x5, x6]) (st' := [(0, ((b9 : Nat) : Int)), (0, ((n : Nat) : Int))]) (w' := w8) (n' := 142) rfl ?_
              refine qG.br (P := ((b9 : Nat) : Int) < ((n : Nat) : Int)) (pc1 := 213) (pc2 := 73) (st1 := []) rfl (fun h67 => ?_) (fun h67 => ?_)
              · skip
                refine qG.blk 4 (pc' := 219) (ls' := [(2, 95), (0, ((a9 : Nat) : Int)), (0, ((b9 : Nat) : Int)), (0, ((g9 : Nat) : Int)), (1, 0), (9, 0), (0, 0)]) (st' := []) (w' := w8) (n' := 142) rfl ?_
                have L219 : ∀ (m9 : Nat) (k : Nat), M - k = m9 → (k ≤ M) → qG none (d + 1) 287 219 [(2, 95), (0, ((a9 : Nat) : Int)), (0, ((b9 : Nat) : Int)), (0, ((g9 : Nat) : Int)), (1, smF (prF w a9 M (n - a9)) k), (9, 0), (0, ((k : Nat) : Int))] [] w8 142 Q9 := by
                  intro m9
                  induction m9 using Nat.strongRecOn with
                  | ind m9 ih219 =>
                  intro k hm219 hI219
                  have hsk := smF_in k (fun j hj => prF_in hR a9 M (n - a9) j (by omega))
                  have hbk : (1000000000 : Int) * (k : Int) ≤ 12000000000 := by omega
                  refine qG.blk 3 (pc' := 225) (ls' := [(2, 95), (0, ((a9 : Nat) : Int)), (0, ((b9 : Nat) : Int)), (0, ((g9 : Nat) : Int)), (1, smF (prF w a9 M (n - a9)) k), (9, 0), (0, ((k : Nat) : Int))]) (st' := [(0, w8 95 55), (0, ((k : Nat) : Int))]) (w' := w8) (n' := 142) rfl ?_
                  rw [show w8 95 55 = ((M : Nat) : Int) from (hI67.2.1.2 95 55 (fun _ => rfl)).trans hM]
                  refine qG.br (P := ((k : Nat) : Int) < ((M : Nat) : Int)) (pc1 := 228) (pc2 := 246) (st1 := []) rfl (fun hkM => ?_) (fun hkM => ?_)
                  · skip
                    refine qG.blk 3 (pc' := 234) (ls' := [(2, 95), (0, ((a9 : Nat) : Int)), (0, ((b9 : Nat) : Int)), (0, ((g9 : Nat) : Int)), (1, smF (prF w a9 M (n - a9)) k), (9, 0), (0, ((k : Nat) : Int))]) (st' := [(2, w8 95 70), (1, smF (prF w a9 M (n - a9)) k)]) (w' := w8) (n' := 142) rfl ?_
                    rw [show w8 95 70 = 137 from zref hI67.2.1.1 rfl rfl]
                    refine qG.blk 1 (pc' := 236) (ls' := [(2, 95), (0, ((a9 : Nat) : Int)), (0, ((b9 : Nat) : Int)), (0, ((g9 : Nat) : Int)), (1, smF (prF w a9 M (n - a9)) k), (9, 0), (0, ((k : Nat) : Int))]) (st' := [(0, ((k : Nat) : Int)), (2, 137), (1, smF (prF w a9 M (n - a9)) k)]) (w' := w8) (n' := 142) rfl ?_
                    refine qG.ar (P := 0 ≤ ((k : Nat) : Int) ∧ ((k : Nat) : Int) < ((12 : Nat) : Int)) (P2 := 0 < (137 : Int) ∧ (137 : Int) ≤ ((142 : Nat) : Int)) (pc' := 237) (ls' := [(2, 95), (0, ((a9 : Nat) : Int)), (0, ((b9 : Nat) : Int)), (0, ((g9 : Nat) : Int)), (1, smF (prF w a9 M (n - a9)) k), (9, 0), (0, ((k : Nat) : Int))]) (st' := [(1, w8 137 k), (1, smF (prF w a9 M (n - a9)) k)]) (w' := w8) (n' := 142) rfl (by omega) (by decide) ?_
                    rw [show w8 137 k = prF w a9 M (n - a9) k from hI67.2.2 k (by omega)]
                    refine qG.blk 1 (pc' := 238) (ls' := [(2, 95), (0, ((a9 : Nat) : Int)), (0, ((b9 : Nat) : Int)), (0, ((g9 : Nat) : Int)), (1, smF (prF w a9 M (n - a9)) k), (9, 0), (0, ((k : Nat) : Int))]) (st' := [(1, wrl ((smF (prF w a9 M (n - a9)) k) + (prF w a9 M (n - a9) k)))]) (w' := w8) (n' := 142) rfl ?_
                    rw [show wrl ((smF (prF w a9 M (n - a9)) k) + (prF w a9 M (n - a9) k)) = smF (prF w a9 M (n - a9)) (k + 1) from wrl_id (by have q := prF_in hR a9 M (n - a9) k (by omega); omega) (by have q := prF_in hR a9 M (n - a9) k (by omega); omega)]
                    refine qG.blk 2 (pc' := 243) (ls' := [(2, 95), (0, ((a9 : Nat) : Int)), (0, ((b9 : Nat) : Int)), (0, ((g9 : Nat) : Int)), (1, smF (prF w a9 M (n - a9)) (k + 1)), (9, 0), (0, wrp (((k : Nat) : Int) + 1))]) (st' := []) (w' := w8) (n' := 142) rfl ?_
                    rw [show wrp (((k : Nat) : Int) + 1) = ((k + 1 : Nat) : Int) from wrp_id (by omega) (by omega)]
                    refine qG.blk 1 (pc' := 219) (ls' := [(2, 95), (0, ((a9 : Nat) : Int)), (0, ((b9 : Nat) : Int)), (0, ((g9 : Nat) : Int)), (1, smF (prF w a9 M (n - a9)) (k + 1)), (9, 0), (0, ((k + 1 : Nat) : Int))]) (st' := []) (w' := w8) (n' := 142) rfl ?_
                    exact ih219 _ (by omega) (k + 1) rfl (by omega)
                  · skip
                    have hek : k = M := by omega
                    rw [hek]
                    have hsM := smF_in M (prF_in hR a9 M (n - a9))
                    have hbM : (1000000000 : Int) * (M : Int) ≤ 12000000000 := by omega
                    refine qG.blk 3 (pc' := 250) (ls' := [(2, 95), (0, ((a9 : Nat) : Int)), (0, ((b9 : Nat) : Int)), (0, ((g9 : Nat) : Int)), (1, smF (prF w a9 M (n - a9)) M), (9, 0), (0, ((M : Nat) : Int))]) (st' := [(0, qcmp (smF (prF w a9 M (n - a9)) M) 0)]) (w' := w8) (n' := 142) rfl ?_
                    refine qG.br (P := qcmp (smF (prF w a9 M (n - a9)) M) 0 = 0) (pc1 := 253) (pc2 := 257) (st1 := []) rfl (fun hs0 => ?_) (fun hs0 => ?_)
                    · skip
                      rw [qcmp_z] at hs0
                      have hen : n = b9 + 1 := by omega
                      refine qG.blk 2 (pc' := 271) (ls' := [(2, 95), (0, ((a9 : Nat) : Int)), (0, ((b9 : Nat) : Int)), (0, ((g9 : Nat) : Int)), (1, smF (prF w a9 M (n - a9)) M), (9, 0), (0, ((M : Nat) : Int))]) (st' := [(0, (-1))]) (w' := w8) (n' := 142) rfl ?_
                      refine qG.ret rfl rfl ?_
                      subst hQ9
                      exact congrArg (Prod.mk (0 : Nat)) (by first | exact (allV_n (by omega)).symm | (unfold allV odV; rw [if_pos (by omega), hM, Int.toNat_natCast, Int.toNat_natCast, Int.toNat_natCast, show (((b9 : Nat) : Int) + 1 - ((a9 : Nat) : Int)).toNat = n - a9 by omega]; first | (rw [if_pos hs0]; done) | (rw [if_neg hs0]; done) | (rw [if_pos hs0]; rfl) | (rw [if_neg hs0]; rfl)))
                    · skip
                      rw [qcmp_z] at hs0
                      have hen : n = b9 + 1 := by omega
                      have hum := prF_in hR a9 M (n - a9) g9 (by omega)
                      have hoi := odV_in (f := prF w a9 M (n - a9)) (M := M) (m := g9) (by omega) (fun j hj => (prF_in hR a9 M (n - a9) j hj).1) hs0
                      refine qG.blk 3 (pc' := 264) (ls' := [(2, 95), (0, ((a9 : Nat) : Int)), (0, ((b9 : Nat) : Int)), (0, ((g9 : Nat) : Int)), (1, smF (prF w a9 M (n - a9)) M), (9, 0), (0, ((M : Nat) : Int))]) (st' := [(2, w8 95 70), (1, 1000)]) (w' := w8) (n' := 142) rfl ?_
                      rw [show w8 95 70 = 137 from zref hI67.2.1.1 rfl rfl]
                      refine qG.blk 1 (pc' := 265) (ls' := [(2, 95), (0, ((a9 : Nat) : Int)), (0, ((b9 : Nat) : Int)), (0, ((g9 : Nat) : Int)), (1, smF (prF w a9 M (n - a9)) M), (9, 0), (0, ((M : Nat) : Int))]) (st' := [(0, ((g9 : Nat) : Int)), (2, 137), (1, 1000)]) (w' := w8) (n' := 142) rfl ?_
                      refine qG.ar (P := 0 ≤ ((g9 : Nat) : Int) ∧ ((g9 : Nat) : Int) < ((12 : Nat) : Int)) (P2 := 0 < (137 : Int) ∧ (137 : Int) ≤ ((142 : Nat) : Int)) (pc' := 266) (ls' := [(2, 95), (0, ((a9 : Nat) : Int)), (0, ((b9 : Nat) : Int)), (0, ((g9 : Nat) : Int)), (1, smF (prF w a9 M (n - a9)) M), (9, 0), (0, ((M : Nat) : Int))]) (st' := [(1, w8 137 g9), (1, 1000)]) (w' := w8) (n' := 142) rfl (by omega) (by decide) ?_
                      rw [show w8 137 g9 = prF w a9 M (n - a9) g9 from hI67.2.2 g9 (by omega)]
                      refine qG.blk 1 (pc' := 267) (ls' := [(2, 95), (0, ((a9 : Nat) : Int)), (0, ((b9 : Nat) : Int)), (0, ((g9 : Nat) : Int)), (1, smF (prF w a9 M (n - a9)) M), (9, 0), (0, ((M : Nat) : Int))]) (st' := [(1, wrl (1000 * (prF w a9 M (n - a9) g9)))]) (w' := w8) (n' := 142) rfl ?_
                      rw [show wrl (1000 * (prF w a9 M (n - a9) g9)) = 1000 * prF w a9 M (n - a9) g9 from wrl_id (by omega) (by omega)]
                      refine qG.blk 1 (pc' := 269) (ls' := [(2, 95), (0, ((a9 : Nat) : Int)), (0, ((b9 : Nat) : Int)), (0, ((g9 : Nat) : Int)), (1, smF (prF w a9 M (n - a9)) M), (9, 0), (0, ((M : Nat) : Int))]) (st' := [(1, smF (prF w a9 M (n - a9)) M), (1, 1000 * prF w a9 M (n - a9) g9)]) (w' := w8) (n' := 142) rfl ?_
                      refine qG.gn (P := smF (prF w a9 M (n - a9)) M = 0) (pc' := 270) (ls' := [(2, 95), (0, ((a9 : Nat) : Int)), (0, ((b9 : Nat) : Int)), (0, ((g9 : Nat) : Int)), (1, smF (prF w a9 M (n - a9)) M), (9, 0), (0, ((M : Nat) : Int))]) (st' := [(1, qldiv (1000 * prF w a9 M (n - a9) g9) (smF (prF w a9 M (n - a9)) M))]) (w' := w8) (n' := 142) rfl (by exact hs0) ?_
                      rw [show qldiv (1000 * prF w a9 M (n - a9) g9) (smF (prF w a9 M (n - a9)) M) = (1000 * prF w a9 M (n - a9) g9).tdiv (smF (prF w a9 M (n - a9)) M) from by unfold qldiv; exact wrl_id (by omega) (by omega)]
                      refine qG.blk 1 (pc' := 271) (ls' := [(2, 95), (0, ((a9 : Nat) : Int)), (0, ((b9 : Nat) : Int)), (0, ((g9 : Nat) : Int)), (1, smF (prF w a9 M (n - a9)) M), (9, 0), (0, ((M : Nat) : Int))]) (st' := [(0, wrp ((1000 * prF w a9 M (n - a9) g9).tdiv (smF (prF w a9 M (n - a9)) M)))]) (w' := w8) (n' := 142) rfl ?_
                      rw [show wrp ((1000 * prF w a9 M (n - a9) g9).tdiv (smF (prF w a9 M (n - a9)) M)) = (1000 * prF w a9 M (n - a9) g9).tdiv (smF (prF w a9 M (n - a9)) M) from wrp_id (by omega) (by omega)]
                      refine qG.ret rfl rfl ?_
                      subst hQ9
                      exact congrArg (Prod.mk (0 : Nat)) (by first | exact (allV_n (by omega)).symm | (unfold allV odV; rw [if_pos (by omega), hM, Int.toNat_natCast, Int.toNat_natCast, Int.toNat_natCast, show (((b9 : Nat) : Int) + 1 - ((a9 : Nat) : Int)).toNat = n - a9 by omega]; first | (rw [if_pos hs0]; done) | (rw [if_neg hs0]; done) | (rw [if_pos hs0]; rfl) | (rw [if_neg hs0]; rfl)))
                exact L219 _ (0) rfl (by omega)
              · skip
                refine qG.blk 4 (pc' := 79) (ls' := [(2, 95), (0, ((a9 : Nat) : Int)), (0, ((b9 : Nat) : Int)), (0, ((g9 : Nat) : Int)), (0, ((n : Nat) : Int)), (0, 0), (0, 0)]) (st' := []) (w' := w8) (n' := 142) rfl ?_
                have L79 : ∀ (m9 : Nat) (k : Nat) (w7a : qW) (x5 : Int), M - k = m9 → (k ≤ M ∧ PV 137 w w7a k (fun j => prF w a9 M (n - a9) j * wgV w n j) (w8 137) ∧ ((x5 = 0 ∧ ¬ 1000000000 < mxF (fun j => prF w a9 M (n - a9) j * wgV w n j) k) ∨ (x5 = 1 ∧ 1000000000 < mxF (fun j => prF w a9 M (n - a9) j * wgV w n j) k))) → qG none (d + 1) 287 79 [(2, 95), (0, ((a9 : Nat) : Int)), (0, ((b9 : Nat) : Int)), (0, ((g9 : Nat) : Int)), (0, ((n : Nat) : Int)), (0, x5), (0, ((k : Nat) : Int))] [] w7a 142 Q9 := by
                  intro m9
                  induction m9 using Nat.strongRecOn with
                  | ind m9 ih79 =>
                  intro k w7a x5 hm79 hI79
                  refine qG.blk 3 (pc' := 85) (ls' := [(2, 95), (0, ((a9 : Nat) : Int)), (0, ((b9 : Nat) : Int)), (0, ((g9 : Nat) : Int)), (0, ((n : Nat) : Int)), (0, x5), (0, ((k : Nat) : Int))]) (st' := [(0, w7a 95 55), (0, ((k : Nat) : Int))]) (w' := w7a) (n' := 142) rfl ?_
                  rw [show w7a 95 55 = ((M : Nat) : Int) from (hI79.2.1.1.2 95 55 (fun _ => rfl)).trans hM]
                  refine qG.br (P := ((k : Nat) : Int) < ((M : Nat) : Int)) (pc1 := 88) (pc2 := 139) (st1 := []) rfl (fun h2 => ?_) (fun h2 => ?_)
                  · skip
                    refine qG.blk 2 (pc' := 92) (ls' := [(2, 95), (0, ((a9 : Nat) : Int)), (0, ((b9 : Nat) : Int)), (0, ((g9 : Nat) : Int)), (0, ((n : Nat) : Int)), (0, x5), (0, ((k : Nat) : Int))]) (st' := [(2, w7a 95 70)]) (w' := w7a) (n' := 142) rfl ?_
                    rw [show w7a 95 70 = 137 from zref hI79.2.1.1.1 rfl rfl]
                    refine qG.blk 2 (pc' := 95) (ls' := [(2, 95), (0, ((a9 : Nat) : Int)), (0, ((b9 : Nat) : Int)), (0, ((g9 : Nat) : Int)), (0, ((n : Nat) : Int)), (0, x5), (0, ((k : Nat) : Int))]) (st' := [(0, ((k : Nat) : Int)), (2, 137), (0, ((k : Nat) : Int)), (2, 137)]) (w' := w7a) (n' := 142) rfl ?_
                    refine qG.ar (P := 0 ≤ ((k : Nat) : Int) ∧ ((k : Nat) : Int) < ((12 : Nat) : Int)) (P2 := 0 < (137 : Int) ∧ (137 : Int) ≤ ((142 : Nat) : Int)) (pc' := 96) (ls' := [(2, 95), (0, ((a9 : Nat) : Int)), (0, ((b9 : Nat) : Int)), (0, ((g9 : Nat) : Int)), (0, ((n : Nat) : Int)), (0, x5), (0, ((k : Nat) : Int))]) (st' := [(1, w7a 137 k), (0, ((k : Nat) : Int)), (2, 137)]) (w' := w7a) (n' := 142) rfl (by omega) (by decide) ?_
                    rw [show w7a 137 k = prF w a9 M (n - a9) k from (hI79.2.1.2.2 k (Nat.le_refl k)).trans (hI67.2.2 k (by omega))]
                    refine qG.blk 3 (pc' := 101) (ls' := [(2, 95), (0, ((a9 : Nat) : Int)), (0, ((b9 : Nat) : Int)), (0, ((g9 : Nat) : Int)), (0, ((n : Nat) : Int)), (0, x5), (0, ((k : Nat) : Int))]) (st' := [(0, ((k : Nat) : Int)), (0, ((n : Nat) : Int)), (2, 95), (1, prF w a9 M (n - a9) k), (0, ((k : Nat) : Int)), (2, 137)]) (w' := w7a) (n' := 142) rfl ?_
                    have hwg := wg_aw (.inr rfl) hI79.2.1.1 n k
                    have hq1 := prF_in hR a9 M (n - a9) k (by omega)
                    have hq2 := wgV_in hR n k
                    have hmb := mul_b hq1.1 hq1.2 hq2.1 hq2.2
                    refine qG.call (t := 285) (na := 3) (sk := 1) (md := 1) (ls1 := [(2, 95), (0, ((n : Nat) : Int)), (0, ((k : Nat) : Int)), (9, 0), (9, 0)]) (r1 := [(1, prF w a9 M (n - a9) k), (0, ((k : Nat) : Int)), (2, 137)]) rfl rfl rfl rfl rfl (K_weight (by omega) n k M N w7a hI79.2.1.1.1 ((hI79.2.1.1.2 95 55 (fun _ => rfl)).trans hM) ((hI79.2.1.1.2 95 57 (fun _ => rfl)).trans hN) (by omega) (by omega)) ?_
                    rintro _ w7 _ ⟨rfl, hw7, rfl⟩
                    rw [hw7, hwg]
                    show qG none (d + 1) 287 104 [(2, 95), (0, ((a9 : Nat) : Int)), (0, ((b9 : Nat) : Int)), (0, ((g9 : Nat) : Int)), (0, ((n : Nat) : Int)), (0, x5), (0, ((k : Nat) : Int))] [(0, wgV w n k), (1, prF w a9 M (n - a9) k), (0, ((k : Nat) : Int)), (2, 137)] w7a 142 Q9
                    refine qG.blk 2 (pc' := 106) (ls' := [(2, 95), (0, ((a9 : Nat) : Int)), (0, ((b9 : Nat) : Int)), (0, ((g9 : Nat) : Int)), (0, ((n : Nat) : Int)), (0, x5), (0, ((k : Nat) : Int))]) (st' := [(1, wrl ((prF w a9 M (n - a9) k) * (wgV w n k))), (0, ((k : Nat) : Int)), (2, 137)]) (w' := w7a) (n' := 142) rfl ?_
                    rw [show wrl ((prF w a9 M (n - a9) k) * (wgV w n k)) = prF w a9 M (n - a9) k * wgV w n k from wrl_id (by omega) (by omega)]
                    refine qG.ar (P := 0 ≤ ((k : Nat) : Int) ∧ ((k : Nat) : Int) < ((12 : Nat) : Int)) (P2 := 0 < (137 : Int) ∧ (137 : Int) ≤ ((142 : Nat) : Int)) (pc' := 107) (ls' := [(2, 95), (0, ((a9 : Nat) : Int)), (0, ((b9 : Nat) : Int)), (0, ((g9 : Nat) : Int)), (0, ((n : Nat) : Int)), (0, x5), (0, ((k : Nat) : Int))]) (st' := []) (w' := (qup w7a 137 k (prF w a9 M (n - a9) k * wgV w n k))) (n' := 142) rfl (by omega) (by decide) ?_
                    refine qG.blk 1 (pc' := 109) (ls' := [(2, 95), (0, ((a9 : Nat) : Int)), (0, ((b9 : Nat) : Int)), (0, ((g9 : Nat) : Int)), (0, ((n : Nat) : Int)), (0, x5), (0, ((k : Nat) : Int))]) (st' := [(0, x5)]) (w' := (qup w7a 137 k (prF w a9 M (n - a9) k * wgV w n k))) (n' := 142) rfl ?_
                    refine qG.br (P := x5 = 0) (pc1 := 112) (pc2 := 126) (st1 := []) rfl (fun h5 => ?_) (fun h5 => ?_)
                    · skip
                      refine qG.blk 2 (pc' := 116) (ls' := [(2, 95), (0, ((a9 : Nat) : Int)), (0, ((b9 : Nat) : Int)), (0, ((g9 : Nat) : Int)), (0, ((n : Nat) : Int)), (0, x5), (0, ((k : Nat) : Int))]) (st' := [(2, w7a 95 70)]) (w' := (qup w7a 137 k (prF w a9 M (n - a9) k * wgV w n k))) (n' := 142) rfl ?_
                      rw [show w7a 95 70 = 137 from zref hI79.2.1.1.1 rfl rfl]
                      refine qG.blk 1 (pc' := 118) (ls' := [(2, 95), (0, ((a9 : Nat) : Int)), (0, ((b9 : Nat) : Int)), (0, ((g9 : Nat) : Int)), (0, ((n : Nat) : Int)), (0, x5), (0, ((k : Nat) : Int))]) (st' := [(0, ((k : Nat) : Int)), (2, 137)]) (w' := (qup w7a 137 k (prF w a9 M (n - a9) k * wgV w n k))) (n' := 142) rfl ?_
                      refine qG.ar (P := 0 ≤ ((k : Nat) : Int) ∧ ((k : Nat) : Int) < ((12 : Nat) : Int)) (P2 := 0 < (137 : Int) ∧ (137 : Int) ≤ ((142 : Nat) : Int)) (pc' := 119) (ls' := [(2, 95), (0, ((a9 : Nat) : Int)), (0, ((b9 : Nat) : Int)), (0, ((g9 : Nat) : Int)), (0, ((n : Nat) : Int)), (0, x5), (0, ((k : Nat) : Int))]) (st' := [(1, (qup w7a 137 k (prF w a9 M (n - a9) k * wgV w n k)) 137 k)]) (w' := (qup w7a 137 k (prF w a9 M (n - a9) k * wgV w n k))) (n' := 142) rfl (by omega) (by decide) ?_
                      rw [qup_k]
                      refine qG.blk 2 (pc' := 123) (ls' := [(2, 95), (0, ((a9 : Nat) : Int)), (0, ((b9 : Nat) : Int)), (0, ((g9 : Nat) : Int)), (0, ((n : Nat) : Int)), (0, x5), (0, ((k : Nat) : Int))]) (st' := [(0, qcmp (prF w a9 M (n - a9) k * wgV w n k) 1000000000)]) (w' := (qup w7a 137 k (prF w a9 M (n - a9) k * wgV w n k))) (n' := 142) rfl ?_
                      refine qG.br (P := 0 < qcmp (prF w a9 M (n - a9) k * wgV w n k) 1000000000) (pc1 := 126) (pc2 := 130) (st1 := []) rfl (fun hc => ?_) (fun hc => ?_)
                      · skip
                        refine qG.blk 4 (pc' := 136) (ls' := [(2, 95), (0, ((a9 : Nat) : Int)), (0, ((b9 : Nat) : Int)), (0, ((g9 : Nat) : Int)), (0, ((n : Nat) : Int)), (0, 1), (0, wrp (((k : Nat) : Int) + 1))]) (st' := []) (w' := (qup w7a 137 k (prF w a9 M (n - a9) k * wgV w n k))) (n' := 142) rfl ?_
                        rw [show wrp (((k : Nat) : Int) + 1) = ((k + 1 : Nat) : Int) from wrp_id (by omega) (by omega)]
                        refine qG.blk 1 (pc' := 79) (ls' := [(2, 95), (0, ((a9 : Nat) : Int)), (0, ((b9 : Nat) : Int)), (0, ((g9 : Nat) : Int)), (0, ((n : Nat) : Int)), (0, 1), (0, ((k + 1 : Nat) : Int))]) (st' := []) (w' := (qup w7a 137 k (prF w a9 M (n - a9) k * wgV w n k))) (n' := 142) rfl ?_
                        exact ih79 _ (by omega) (k + 1) ((qup w7a 137 k (prF w a9 M (n - a9) k * wgV w n k))) (1) rfl (⟨by omega, PV.up (.inr rfl) hI79.2.1 rfl (by omega) (by omega), by first | exact .inr ⟨rfl, mx_1 ((hI79.2.2.resolve_left (fun z => h5 z.1)).2)⟩ | exact .inr ⟨rfl, mx_2 (f := (fun j => prF w a9 M (n - a9) j * wgV w n j)) (qcmp_p.mp hc)⟩ | exact .inl ⟨rfl, mx_3 (f := (fun j => prF w a9 M (n - a9) j * wgV w n j)) ((hI79.2.2.resolve_right (fun z => by omega)).2) (fun z => hc (qcmp_p.mpr z))⟩⟩)
                      · skip
                        refine qG.blk 3 (pc' := 136) (ls' := [(2, 95), (0, ((a9 : Nat) : Int)), (0, ((b9 : Nat) : Int)), (0, ((g9 : Nat) : Int)), (0, ((n : Nat) : Int)), (0, 0), (0, wrp (((k : Nat) : Int) + 1))]) (st' := []) (w' := (qup w7a 137 k (prF w a9 M (n - a9) k * wgV w n k))) (n' := 142) rfl ?_
                        rw [show wrp (((k : Nat) : Int) + 1) = ((k + 1 : Nat) : Int) from wrp_id (by omega) (by omega)]
                        refine qG.blk 1 (pc' := 79) (ls' := [(2, 95), (0, ((a9 : Nat) : Int)), (0, ((b9 : Nat) : Int)), (0, ((g9 : Nat) : Int)), (0, ((n : Nat) : Int)), (0, 0), (0, ((k + 1 : Nat) : Int))]) (st' := []) (w' := (qup w7a 137 k (prF w a9 M (n - a9) k * wgV w n k))) (n' := 142) rfl ?_
                        exact ih79 _ (by omega) (k + 1) ((qup w7a 137 k (prF w a9 M (n - a9) k * wgV w n k))) (0) rfl (⟨by omega, PV.up (.inr rfl) hI79.2.1 rfl (by omega) (by omega), by first | exact .inr ⟨rfl, mx_1 ((hI79.2.2.resolve_left (fun z => h5 z.1)).2)⟩ | exact .inr ⟨rfl, mx_2 (f := (fun j => prF w a9 M (n - a9) j * wgV w n j)) (qcmp_p.mp hc)⟩ | exact .inl ⟨rfl, mx_3 (f := (fun j => prF w a9 M (n - a9) j * wgV w n j)) ((hI79.2.2.resolve_right (fun z => by omega)).2) (fun z => hc (qcmp_p.mpr z))⟩⟩)
                    · skip
                      refine qG.blk 4 (pc' := 136) (ls' := [(2, 95), (0, ((a9 : Nat) : Int)), (0, ((b9 : Nat) : Int)), (0, ((g9 : Nat) : Int)), (0, ((n : Nat) : Int)), (0, 1), (0, wrp (((k : Nat) : Int) + 1))]) (st' := []) (w' := (qup w7a 137 k (prF w a9 M (n - a9) k * wgV w n k))) (n' := 142) rfl ?_
                      rw [show wrp (((k : Nat) : Int) + 1) = ((k + 1 : Nat) : Int) from wrp_id (by omega) (by omega)]
                      refine qG.blk 1 (pc' := 79) (ls' := [(2, 95), (0, ((a9 : Nat) : Int)), (0, ((b9 : Nat) : Int)), (0, ((g9 : Nat) : Int)), (0, ((n : Nat) : Int)), (0, 1), (0, ((k + 1 : Nat) : Int))]) (st' := []) (w' := (qup w7a 137 k (prF w a9 M (n - a9) k * wgV w n k))) (n' := 142) rfl ?_
                      exact ih79 _ (by omega) (k + 1) ((qup w7a 137 k (prF w a9 M (n - a9) k * wgV w n k))) (1) rfl (⟨by omega, PV.up (.inr rfl) hI79.2.1 rfl (by omega) (by omega), by first | exact .inr ⟨rfl, mx_1 ((hI79.2.2.resolve_left (fun z => h5 z.1)).2)⟩ | exact .inr ⟨rfl, mx_2 (f := (fun j => prF w a9 M (n - a9) j * wgV w n j)) (qcmp_p.mp hc)⟩ | exact .inl ⟨rfl, mx_3 (f := (fun j => prF w a9 M (n - a9) j * wgV w n j)) ((hI79.2.2.resolve_right (fun z => by omega)).2) (fun z => hc (qcmp_p.mpr z))⟩⟩)
                  · skip
                    have L139 : ∀ (m9 : Nat) (p : Nat) (w6 : qW) (x5 : Int) (x6 : qV), p = m9 → (AW [137] w w6 ∧ ((p = 1 ∧ (∀ j : Nat, j < M → w6 137 j = (fun j => prF w a9 M (n - a9) j * wgV w n j) j) ∧ ((x5 = 0 ∧ ¬ 1000000000 < mxF (fun j => prF w a9 M (n - a9) j * wgV w n j) M) ∨ (x5 = 1 ∧ 1000000000 < mxF (fun j => prF w a9 M (n - a9) j * wgV w n j) M))) ∨ (p = 0 ∧ x5 = 0 ∧ 1000000000 < mxF (fun j => prF w a9 M (n - a9) j * wgV w n j) M ∧ ∀ j : Nat, j < M → w6 137 j = (fun j => prF w a9 M (n - a9) j * wgV w n j) j / 1000))) → qG none (d + 1) 287 139 [(2, 95), (0, ((a9 : Nat) : Int)), (0, ((b9 : Nat) : Int)), (0, ((g9 : Nat) : Int)), (0, ((n : Nat) : Int)), (0, x5), x6] [] w6 142 Q9 := by
                      intro m9
                      induction m9 using Nat.strongRecOn with
                      | ind m9 ih139 =>
                      intro p w6 x5 x6 hm139 hI139
                      refine qG.blk 1 (pc' := 141) (ls' := [(2, 95), (0, ((a9 : Nat) : Int)), (0, ((b9 : Nat) : Int)), (0, ((g9 : Nat) : Int)), (0, ((n : Nat) : Int)), (0, x5), x6]) (st' := [(0, x5)]) (w' := w6) (n' := 142) rfl ?_
                      refine qG.br (P := x5 = 0) (pc1 := 207) (pc2 := 144) (st1 := []) rfl (fun h5b => ?_) (fun h5b => ?_)
                      · skip
                        refine qG.blk 1 (pc' := 210) (ls' := [(2, 95), (0, ((a9 : Nat) : Int)), (0, ((b9 : Nat) : Int)), (0, ((g9 : Nat) : Int)), (0, wrp (((n : Nat) : Int) + 1)), (0, x5), x6]) (st' := []) (w' := w6) (n' := 142) rfl ?_
                        rw [show wrp (((n : Nat) : Int) + 1) = ((n + 1 : Nat) : Int) from wrp_id (by omega) (by omega)]
                        refine qG.blk 1 (pc' := 67) (ls' := [(2, 95), (0, ((a9 : Nat) : Int)), (0, ((b9 : Nat) : Int)), (0, ((g9 : Nat) : Int)), (0, ((n + 1 : Nat) : Int)), (0, x5), x6]) (st' := []) (w' := w6) (n' := 142) rfl ?_
                        exact ih67 _ (by omega) (n + 1) (w6) ((0, x5)) (x6) rfl (⟨⟨by omega, by omega⟩, hI139.1, fun j hj => (by rw [pr_s hI67.1.1]; rcases hI139.2 with ⟨-, z2, z3⟩ | ⟨-, -, z3, z4⟩; (rcases z3 with ⟨-, z5⟩ | ⟨z5, -⟩; rw [z2 j hj, stepF_k z5]; (exfalso; omega)); rw [z4 j hj, stepF_d z3])⟩)
                      · skip
                        have hp9 := hI139.2.resolve_right (fun z => h5b z.2.1)
                        have hmx9 := (hp9.2.2.resolve_left (fun z => h5b z.1)).2
                        refine qG.blk 4 (pc' := 150) (ls' := [(2, 95), (0, ((a9 : Nat) : Int)), (0, ((b9 : Nat) : Int)), (0, ((g9 : Nat) : Int)), (0, ((n : Nat) : Int)), (0, 0), (0, 0)]) (st' := []) (w' := w6) (n' := 142) rfl ?_
                        have L150 : ∀ (m9 : Nat) (k : Nat) (w5 : qW) (x5b : Int), M - k = m9 → (k ≤ M ∧ PV 137 w w5 k (fun j => (fun j => prF w a9 M (n - a9) j * wgV w n j) j / 1000) (w6 137) ∧ x5b = 0) → qG none (d + 1) 287 150 [(2, 95), (0, ((a9 : Nat) : Int)), (0, ((b9 : Nat) : Int)), (0, ((g9 : Nat) : Int)), (0, ((n : Nat) : Int)), (0, x5b), (0, ((k : Nat) : Int))] [] w5 142 Q9 := by
                          intro m9
                          induction m9 using Nat.strongRecOn with
                          | ind m9 ih150 =>
                          intro k w5 x5b hm150 hI150
                          have hq1 := fun (h : k < M) => prF_in hR a9 M (n - a9) k h
                          have hq2 := wgV_in hR n k
                          have hmb := fun (h : k < M) => mul_b (hq1 h).1 (hq1 h).2 hq2.1 hq2.2
                          refine qG.blk 3 (pc' := 156) (ls' := [(2, 95), (0, ((a9 : Nat) : Int)), (0, ((b9 : Nat) : Int)), (0, ((g9 : Nat) : Int)), (0, ((n : Nat) : Int)), (0, x5b), (0, ((k : Nat) : Int))]) (st' := [(0, w5 95 55), (0, ((k : Nat) : Int))]) (w' := w5) (n' := 142) rfl ?_
                          rw [show w5 95 55 = ((M : Nat) : Int) from (hI150.2.1.1.2 95 55 (fun _ => rfl)).trans hM]
                          refine qG.br (P := ((k : Nat) : Int) < ((M : Nat) : Int)) (pc1 := 159) (pc2 := 204) (st1 := []) rfl (fun hkD => ?_) (fun hkD => ?_)
                          · skip
                            have hmb := hmb (by omega)
                            refine qG.blk 2 (pc' := 163) (ls' := [(2, 95), (0, ((a9 : Nat) : Int)), (0, ((b9 : Nat) : Int)), (0, ((g9 : Nat) : Int)), (0, ((n : Nat) : Int)), (0, x5b), (0, ((k : Nat) : Int))]) (st' := [(2, w5 95 70)]) (w' := w5) (n' := 142) rfl ?_
                            rw [show w5 95 70 = 137 from zref hI150.2.1.1.1 rfl rfl]
                            refine qG.blk 2 (pc' := 166) (ls' := [(2, 95), (0, ((a9 : Nat) : Int)), (0, ((b9 : Nat) : Int)), (0, ((g9 : Nat) : Int)), (0, ((n : Nat) : Int)), (0, x5b), (0, ((k : Nat) : Int))]) (st' := [(0, ((k : Nat) : Int)), (2, 137), (0, ((k : Nat) : Int)), (2, 137)]) (w' := w5) (n' := 142) rfl ?_
                            refine qG.ar (P := 0 ≤ ((k : Nat) : Int) ∧ ((k : Nat) : Int) < ((12 : Nat) : Int)) (P2 := 0 < (137 : Int) ∧ (137 : Int) ≤ ((142 : Nat) : Int)) (pc' := 167) (ls' := [(2, 95), (0, ((a9 : Nat) : Int)), (0, ((b9 : Nat) : Int)), (0, ((g9 : Nat) : Int)), (0, ((n : Nat) : Int)), (0, x5b), (0, ((k : Nat) : Int))]) (st' := [(1, w5 137 k), (0, ((k : Nat) : Int)), (2, 137)]) (w' := w5) (n' := 142) rfl (by omega) (by decide) ?_
                            rw [show w5 137 k = prF w a9 M (n - a9) k * wgV w n k from (hI150.2.1.2.2 k (Nat.le_refl k)).trans (hp9.2.1 k (by omega))]
                            refine qG.blk 1 (pc' := 170) (ls' := [(2, 95), (0, ((a9 : Nat) : Int)), (0, ((b9 : Nat) : Int)), (0, ((g9 : Nat) : Int)), (0, ((n : Nat) : Int)), (0, x5b), (0, ((k : Nat) : Int))]) (st' := [(1, 1000), (1, prF w a9 M (n - a9) k * wgV w n k), (0, ((k : Nat) : Int)), (2, 137)]) (w' := w5) (n' := 142) rfl ?_
                            refine qG.gn (P := 1000 = 0) (pc' := 171) (ls' := [(2, 95), (0, ((a9 : Nat) : Int)), (0, ((b9 : Nat) : Int)), (0, ((g9 : Nat) : Int)), (0, ((n : Nat) : Int)), (0, x5b), (0, ((k : Nat) : Int))]) (st' := [(1, qldiv (prF w a9 M (n - a9) k * wgV w n k) 1000), (0, ((k : Nat) : Int)), (2, 137)]) (w' := w5) (n' := 142) rfl (by decide) ?_
                            rw [show qldiv (prF w a9 M (n - a9) k * wgV w n k) 1000 = prF w a9 M (n - a9) k * wgV w n k / 1000 from qldiv_k hmb.1 hmb.2]
                            refine qG.ar (P := 0 ≤ ((k : Nat) : Int) ∧ ((k : Nat) : Int) < ((12 : Nat) : Int)) (P2 := 0 < (137 : Int) ∧ (137 : Int) ≤ ((142 : Nat) : Int)) (pc' := 172) (ls' := [(2, 95), (0, ((a9 : Nat) : Int)), (0, ((b9 : Nat) : Int)), (0, ((g9 : Nat) : Int)), (0, ((n : Nat) : Int)), (0, x5b), (0, ((k : Nat) : Int))]) (st' := []) (w' := (qup w5 137 k (prF w a9 M (n - a9) k * wgV w n k / 1000))) (n' := 142) rfl (by omega) (by decide) ?_
                            refine qG.blk 1 (pc' := 174) (ls' := [(2, 95), (0, ((a9 : Nat) : Int)), (0, ((b9 : Nat) : Int)), (0, ((g9 : Nat) : Int)), (0, ((n : Nat) : Int)), (0, x5b), (0, ((k : Nat) : Int))]) (st' := [(0, x5b)]) (w' := (qup w5 137 k (prF w a9 M (n - a9) k * wgV w n k / 1000))) (n' := 142) rfl ?_
                            refine qG.br (P := x5b = 0) (pc1 := 177) (pc2 := 191) (st1 := []) rfl (fun h5c => ?_) (fun h5c => ?_)
                            · skip
                              refine qG.blk 2 (pc' := 181) (ls' := [(2, 95), (0, ((a9 : Nat) : Int)), (0, ((b9 : Nat) : Int)), (0, ((g9 : Nat) : Int)), (0, ((n : Nat) : Int)), (0, x5b), (0, ((k : Nat) : Int))]) (st' := [(2, w5 95 70)]) (w' := (qup w5 137 k (prF w a9 M (n - a9) k * wgV w n k / 1000))) (n' := 142) rfl ?_
                              rw [show w5 95 70 = 137 from zref hI150.2.1.1.1 rfl rfl]
                              refine qG.blk 1 (pc' := 183) (ls' := [(2, 95), (0, ((a9 : Nat) : Int)), (0, ((b9 : Nat) : Int)), (0, ((g9 : Nat) : Int)), (0, ((n : Nat) : Int)), (0, x5b), (0, ((k : Nat) : Int))]) (st' := [(0, ((k : Nat) : Int)), (2, 137)]) (w' := (qup w5 137 k (prF w a9 M (n - a9) k * wgV w n k / 1000))) (n' := 142) rfl ?_
                              refine qG.ar (P := 0 ≤ ((k : Nat) : Int) ∧ ((k : Nat) : Int) < ((12 : Nat) : Int)) (P2 := 0 < (137 : Int) ∧ (137 : Int) ≤ ((142 : Nat) : Int)) (pc' := 184) (ls' := [(2, 95), (0, ((a9 : Nat) : Int)), (0, ((b9 : Nat) : Int)), (0, ((g9 : Nat) : Int)), (0, ((n : Nat) : Int)), (0, x5b), (0, ((k : Nat) : Int))]) (st' := [(1, (qup w5 137 k (prF w a9 M (n - a9) k * wgV w n k / 1000)) 137 k)]) (w' := (qup w5 137 k (prF w a9 M (n - a9) k * wgV w n k / 1000))) (n' := 142) rfl (by omega) (by decide) ?_
                              rw [qup_k]
                              refine qG.blk 2 (pc' := 188) (ls' := [(2, 95), (0, ((a9 : Nat) : Int)), (0, ((b9 : Nat) : Int)), (0, ((g9 : Nat) : Int)), (0, ((n : Nat) : Int)), (0, x5b), (0, ((k : Nat) : Int))]) (st' := [(0, qcmp (prF w a9 M (n - a9) k * wgV w n k / 1000) 1000000000)]) (w' := (qup w5 137 k (prF w a9 M (n - a9) k * wgV w n k / 1000))) (n' := 142) rfl ?_
                              refine qG.br (P := 0 < qcmp (prF w a9 M (n - a9) k * wgV w n k / 1000) 1000000000) (pc1 := 191) (pc2 := 195) (st1 := []) rfl (fun hc2 => ?_) (fun hc2 => ?_)
                              · skip
                                refine qG.blk 4 (pc' := 201) (ls' := [(2, 95), (0, ((a9 : Nat) : Int)), (0, ((b9 : Nat) : Int)), (0, ((g9 : Nat) : Int)), (0, ((n : Nat) : Int)), (0, 1), (0, wrp (((k : Nat) : Int) + 1))]) (st' := []) (w' := (qup w5 137 k (prF w a9 M (n - a9) k * wgV w n k / 1000))) (n' := 142) rfl ?_
                                rw [show wrp (((k : Nat) : Int) + 1) = ((k + 1 : Nat) : Int) from wrp_id (by omega) (by omega)]
                                refine qG.blk 1 (pc' := 150) (ls' := [(2, 95), (0, ((a9 : Nat) : Int)), (0, ((b9 : Nat) : Int)), (0, ((g9 : Nat) : Int)), (0, ((n : Nat) : Int)), (0, 1), (0, ((k + 1 : Nat) : Int))]) (st' := []) (w' := (qup w5 137 k (prF w a9 M (n - a9) k * wgV w n k / 1000))) (n' := 142) rfl ?_
                                exact ih150 _ (by omega) (k + 1) ((qup w5 137 k (prF w a9 M (n - a9) k * wgV w n k / 1000))) (1) rfl (⟨by omega, PV.up (.inr rfl) hI150.2.1 rfl (by omega) (by omega), by first | rfl | (exfalso; rw [qcmp_p] at hc2; omega) | (exfalso; omega)⟩)
                              · skip
                                refine qG.blk 3 (pc' := 201) (ls' := [(2, 95), (0, ((a9 : Nat) : Int)), (0, ((b9 : Nat) : Int)), (0, ((g9 : Nat) : Int)), (0, ((n : Nat) : Int)), (0, 0), (0, wrp (((k : Nat) : Int) + 1))]) (st' := []) (w' := (qup w5 137 k (prF w a9 M (n - a9) k * wgV w n k / 1000))) (n' := 142) rfl ?_
                                rw [show wrp (((k : Nat) : Int) + 1) = ((k + 1 : Nat) : Int) from wrp_id (by omega) (by omega)]
                                refine qG.blk 1 (pc' := 150) (ls' := [(2, 95), (0, ((a9 : Nat) : Int)), (0, ((b9 : Nat) : Int)), (0, ((g9 : Nat) : Int)), (0, ((n : Nat) : Int)), (0, 0), (0, ((k + 1 : Nat) : Int))]) (st' := []) (w' := (qup w5 137 k (prF w a9 M (n - a9) k * wgV w n k / 1000))) (n' := 142) rfl ?_
                                exact ih150 _ (by omega) (k + 1) ((qup w5 137 k (prF w a9 M (n - a9) k * wgV w n k / 1000))) (0) rfl (⟨by omega, PV.up (.inr rfl) hI150.2.1 rfl (by omega) (by omega), by first | rfl | (exfalso; rw [qcmp_p] at hc2; omega) | (exfalso; omega)⟩)
                            · skip
                              refine qG.blk 4 (pc' := 201) (ls' := [(2, 95), (0, ((a9 : Nat) : Int)), (0, ((b9 : Nat) : Int)), (0, ((g9 : Nat) : Int)), (0, ((n : Nat) : Int)), (0, 1), (0, wrp (((k : Nat) : Int) + 1))]) (st' := []) (w' := (qup w5 137 k (prF w a9 M (n - a9) k * wgV w n k / 1000))) (n' := 142) rfl ?_
                              rw [show wrp (((k : Nat) : Int) + 1) = ((k + 1 : Nat) : Int) from wrp_id (by omega) (by omega)]
                              refine qG.blk 1 (pc' := 150) (ls' := [(2, 95), (0, ((a9 : Nat) : Int)), (0, ((b9 : Nat) : Int)), (0, ((g9 : Nat) : Int)), (0, ((n : Nat) : Int)), (0, 1), (0, ((k + 1 : Nat) : Int))]) (st' := []) (w' := (qup w5 137 k (prF w a9 M (n - a9) k * wgV w n k / 1000))) (n' := 142) rfl ?_
                              exact ih150 _ (by omega) (k + 1) ((qup w5 137 k (prF w a9 M (n - a9) k * wgV w n k / 1000))) (1) rfl (⟨by omega, PV.up (.inr rfl) hI150.2.1 rfl (by omega) (by omega), by first | rfl | (exfalso; rw [qcmp_p] at hc2; omega) | (exfalso; omega)⟩)
                          · skip
                            refine qG.blk 1 (pc' := 139) (ls' := [(2, 95), (0, ((a9 : Nat) : Int)), (0, ((b9 : Nat) : Int)), (0, ((g9 : Nat) : Int)), (0, ((n : Nat) : Int)), (0, x5b), (0, ((k : Nat) : Int))]) (st' := []) (w' := w5) (n' := 142) rfl ?_
                            exact ih139 _ (by omega) (0) (w5) (x5b) ((0, ((k : Nat) : Int))) rfl (⟨hI150.2.1.1, .inr ⟨rfl, hI150.2.2, hmx9, fun j hj => hI150.2.1.2.1 j (by omega)⟩⟩)
                        exact L150 _ (0) (w6) (0) rfl (⟨by omega, ⟨hI139.1, fun j hj => absurd hj (Nat.not_lt_zero j), fun j _ => rfl⟩, rfl⟩)
                    exact L139 _ (1) (w7a) (x5) ((0, ((k : Nat) : Int))) rfl (⟨hI79.2.1.1, .inl ⟨rfl, fun j hj => hI79.2.1.2.1 j (by omega), (show k = M by omega) ▸ hI79.2.2⟩⟩)
                exact L79 _ (0) (w8) (0) rfl (⟨by omega, ⟨hI67.2.1, fun j hj => absurd hj (Nat.not_lt_zero j), fun j _ => rfl⟩, .inl ⟨rfl, by show ¬ (1000000000 : Int) < 0; decide⟩⟩)
            exact L67 _ (a9) (w9) ((9, 0)) ((9, 0)) rfl (⟨⟨by omega, by omega⟩, hI41.2.1, fun j hj => by rw [hI41.2.2 j (by omega), Nat.sub_self]; rfl⟩)
        exact L41 _ (0) (w) rfl (⟨by omega, AW.rf hI, fun j hj => absurd hj (Nat.not_lt_zero j)⟩)
theorem allV_aw {w w9 : qW} (h : AW [56] w w9) (a b m : Int) : allV w9 a b m = allV w a b m := by
  have e : ∀ n m, wgV w9 n m = wgV w n m := fun n m => wg_aw (.inl rfl) h n m
  have e2 : ∀ a M i, prF w9 a M i = prF w a M i := by
    intro a M i
    induction i with
    | zero => rfl
    | succ i ih =>
      show stepF (prF w9 a M i) (fun j => wgV w9 (a + i) j) M = stepF (prF w a M i) (fun j => wgV w (a + i) j) M
      rw [ih]
      simp only [e]
  unfold allV
  rw [h.2 95 55 (fun _ => rfl), h.2 95 57 (fun _ => rfl), e2]
theorem K_X11_allQ {d : Nat} (hd : 5 ≤ d) (a b m : Int) (w : qW) (hI : yInv zgf zga zra zSp w) (hJ : JQ w) : qG none d 190 0 (qini 190 [(2, 1), (0, a), (0, b), (0, m)]) [] w 142 (fun (r : qV) (_ : qW) (_ : Nat) => r = (0, allV w a b m)) := by
  have h55 := zfld hI (j := 55) (b := (0, 12)) rfl
  have a55 : (0 : Int) ≤ w 95 55 := h55.1
  have h57 := zfld hI (j := 57) (b := (0, 60)) rfl
  have a57 : (0 : Int) ≤ w 95 57 := h57.1
  obtain ⟨M, hM⟩ : ∃ M : Nat, w 95 55 = (M : Int) := ⟨(w 95 55).toNat, by omega⟩
  obtain ⟨N, hN⟩ : ∃ N : Nat, w 95 57 = (N : Int) := ⟨(w 95 57).toNat, by omega⟩
  exact K_X11_all hd a b m M N w hI hJ hM hN
theorem K_X12_allQ {d : Nat} (hd : 4 ≤ d) (a b m : Int) (w : qW) (hI : yInv zgf zga zra zSp w) : qG none d 287 0 [(2, 95), (0, a), (0, b), (0, m), (9, 0), (9, 0), (9, 0)] [] w 142 (fun (r : qV) (_ : qW) (_ : Nat) => r = (0, allV w a b m)) := by
  have h55 := zfld hI (j := 55) (b := (0, 12)) rfl
  have a55 : (0 : Int) ≤ w 95 55 := h55.1
  have h57 := zfld hI (j := 57) (b := (0, 60)) rfl
  have a57 : (0 : Int) ≤ w 95 57 := h57.1
  obtain ⟨M, hM⟩ : ∃ M : Nat, w 95 55 = (M : Int) := ⟨(w 95 55).toNat, by omega⟩
  obtain ⟨N, hN⟩ : ∃ N : Nat, w 95 57 = (N : Int) := ⟨(w 95 57).toNat, by omega⟩
  exact K_X12_all9 hd a b m M N w hI hM hN
