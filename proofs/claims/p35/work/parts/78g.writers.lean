/-! the writers on both sides -/
def wriC (y c : Int) (n : Nat) : Prop := ((0 ≤ y ∧ y ≤ 99) ∧ 0 ≤ c ∧ c ≤ 1073741823) ∧ n < 20
def wriE (p j q1 q2 : Nat) (y c : Int) (n : Nat) (w : qW) (r : qV) (w1 : qW) : Prop := (¬ wriC y c n ∧ r = (0, -1) ∧ w1 = w) ∨ (wriC y c n ∧ r = (0, ((n : Nat) : Int)) ∧ w1 = qup (qup (qup w q1 n y) q2 n c) p j ((n + 1 : Nat) : Int))
def truE (p j : Nat) (c : Int) (w : qW) (r : qV) (w1 : qW) : Prop := (¬ (0 ≤ c ∧ c ≤ 1073741823) ∧ r = (0, 0) ∧ w1 = w) ∨ ((0 ≤ c ∧ c ≤ 1073741823) ∧ r = (0, 1) ∧ w1 = qup w p j c)
theorem K_X10_add {d : Nat} (hd : 0 ≤ d) (y c : Int) (n : Nat) (hn9 : n ≤ 20) (w : qW) (hI : yInv zgf zga zra zSp w) (hn : w 61 2 = (n : Int)) : qG none d 155 0 [(2, 61), (0, y), (0, c)] [] w 142 (fun (r : qV) (w1 : qW) (n1 : Nat) => n1 = 142 ∧ wriE 61 2 62 63 y c n w r w1) := by
  generalize hQ9 : (fun (r : qV) (w1 : qW) (n1 : Nat) => n1 = 142 ∧ wriE 61 2 62 63 y c n w r w1) = Q9
  obtain ⟨N6, hN6⟩ : ∃ N : Int, N = 1073741823 := ⟨_, rfl⟩
  refine qG.blk 1 (pc' := 1) (ls' := [(2, 61), (0, y), (0, c)]) (st' := [(0, y)]) (w' := w) (n' := 142) rfl ?_
  refine qG.br (P := y < 0) (pc1 := 29) (pc2 := 4) (st1 := []) rfl (fun h1 => ?_) (fun h1 => ?_)
  · skip
    refine qG.blk 1 (pc' := 30) (ls' := [(2, 61), (0, y), (0, c)]) (st' := [(0, (-1))]) (w' := w) (n' := 142) rfl ?_
    refine qG.ret rfl rfl ?_
    subst hQ9
    refine ⟨rfl, ?_⟩; (first | exact .inl ⟨by unfold wriC; omega, rfl, rfl⟩ | exact .inr ⟨by unfold wriC; omega, rfl, rfl⟩)
  · skip
    refine qG.blk 2 (pc' := 7) (ls' := [(2, 61), (0, y), (0, c)]) (st' := [(0, 99), (0, y)]) (w' := w) (n' := 142) rfl ?_
    refine qG.br (P := 99 < y) (pc1 := 29) (pc2 := 10) (st1 := []) rfl (fun h2 => ?_) (fun h2 => ?_)
    · skip
      refine qG.blk 1 (pc' := 30) (ls' := [(2, 61), (0, y), (0, c)]) (st' := [(0, (-1))]) (w' := w) (n' := 142) rfl ?_
      refine qG.ret rfl rfl ?_
      subst hQ9
      refine ⟨rfl, ?_⟩; (first | exact .inl ⟨by unfold wriC; omega, rfl, rfl⟩ | exact .inr ⟨by unfold wriC; omega, rfl, rfl⟩)
    · skip
      refine qG.blk 1 (pc' := 11) (ls' := [(2, 61), (0, y), (0, c)]) (st' := [(0, c)]) (w' := w) (n' := 142) rfl ?_
      refine qG.br (P := c < 0) (pc1 := 29) (pc2 := 14) (st1 := []) rfl (fun h3 => ?_) (fun h3 => ?_)
      · skip
        refine qG.blk 1 (pc' := 30) (ls' := [(2, 61), (0, y), (0, c)]) (st' := [(0, (-1))]) (w' := w) (n' := 142) rfl ?_
        refine qG.ret rfl rfl ?_
        subst hQ9
        refine ⟨rfl, ?_⟩; (first | exact .inl ⟨by unfold wriC; omega, rfl, rfl⟩ | exact .inr ⟨by unfold wriC; omega, rfl, rfl⟩)
      · skip
        refine qG.blk 2 (pc' := 17) (ls' := [(2, 61), (0, y), (0, c)]) (st' := [(0, 1073741823), (0, c)]) (w' := w) (n' := 142) rfl ?_
        rw [show (1073741823 : Int) = N6 from hN6.symm]
        refine qG.br (P := N6 < c) (pc1 := 29) (pc2 := 20) (st1 := []) rfl (fun h4 => ?_) (fun h4 => ?_)
        · skip
          refine qG.blk 1 (pc' := 30) (ls' := [(2, 61), (0, y), (0, c)]) (st' := [(0, (-1))]) (w' := w) (n' := 142) rfl ?_
          refine qG.ret rfl rfl ?_
          subst hQ9
          refine ⟨rfl, ?_⟩; (first | exact .inl ⟨by unfold wriC; omega, rfl, rfl⟩ | exact .inr ⟨by unfold wriC; omega, rfl, rfl⟩)
        · skip
          refine qG.blk 2 (pc' := 24) (ls' := [(2, 61), (0, y), (0, c)]) (st' := [(0, w 61 2)]) (w' := w) (n' := 142) rfl ?_
          rw [show w 61 2 = ((n : Nat) : Int) from hn]
          refine qG.blk 1 (pc' := 26) (ls' := [(2, 61), (0, y), (0, c)]) (st' := [(0, 20), (0, ((n : Nat) : Int))]) (w' := w) (n' := 142) rfl ?_
          refine qG.br (P := ((n : Nat) : Int) < 20) (pc1 := 31) (pc2 := 29) (st1 := []) rfl (fun hc => ?_) (fun hc => ?_)
          · skip
            refine qG.blk 2 (pc' := 35) (ls' := [(2, 61), (0, y), (0, c)]) (st' := [(2, w 61 0)]) (w' := w) (n' := 142) rfl ?_
            rw [show w 61 0 = 62 from zref hI rfl rfl]
            refine qG.blk 2 (pc' := 39) (ls' := [(2, 61), (0, y), (0, c)]) (st' := [(0, w 61 2), (2, 62)]) (w' := w) (n' := 142) rfl ?_
            rw [show w 61 2 = ((n : Nat) : Int) from hn]
            refine qG.blk 1 (pc' := 40) (ls' := [(2, 61), (0, y), (0, c)]) (st' := [(0, y), (0, ((n : Nat) : Int)), (2, 62)]) (w' := w) (n' := 142) rfl ?_
            refine qG.ar (P := 0 ≤ ((n : Nat) : Int) ∧ ((n : Nat) : Int) < ((20 : Nat) : Int)) (P2 := 0 < (62 : Int) ∧ (62 : Int) ≤ ((142 : Nat) : Int)) (pc' := 41) (ls' := [(2, 61), (0, y), (0, c)]) (st' := []) (w' := (qup w 62 n y)) (n' := 142) rfl (by omega) (by decide) ?_
            refine qG.blk 2 (pc' := 45) (ls' := [(2, 61), (0, y), (0, c)]) (st' := [(2, w 61 1)]) (w' := (qup w 62 n y)) (n' := 142) rfl ?_
            rw [show w 61 1 = 63 from zref hI rfl rfl]
            refine qG.blk 2 (pc' := 49) (ls' := [(2, 61), (0, y), (0, c)]) (st' := [(0, w 61 2), (2, 63)]) (w' := (qup w 62 n y)) (n' := 142) rfl ?_
            rw [show w 61 2 = ((n : Nat) : Int) from hn]
            refine qG.blk 1 (pc' := 50) (ls' := [(2, 61), (0, y), (0, c)]) (st' := [(0, c), (0, ((n : Nat) : Int)), (2, 63)]) (w' := (qup w 62 n y)) (n' := 142) rfl ?_
            refine qG.ar (P := 0 ≤ ((n : Nat) : Int) ∧ ((n : Nat) : Int) < ((20 : Nat) : Int)) (P2 := 0 < (63 : Int) ∧ (63 : Int) ≤ ((142 : Nat) : Int)) (pc' := 51) (ls' := [(2, 61), (0, y), (0, c)]) (st' := []) (w' := (qup (qup w 62 n y) 63 n c)) (n' := 142) rfl (by omega) (by decide) ?_
            refine qG.blk 3 (pc' := 56) (ls' := [(2, 61), (0, y), (0, c)]) (st' := [(0, w 61 2), (2, 61)]) (w' := (qup (qup w 62 n y) 63 n c)) (n' := 142) rfl ?_
            rw [show w 61 2 = ((n : Nat) : Int) from hn]
            refine qG.blk 2 (pc' := 58) (ls' := [(2, 61), (0, y), (0, c)]) (st' := [(0, wrp (((n : Nat) : Int) + 1)), (2, 61)]) (w' := (qup (qup w 62 n y) 63 n c)) (n' := 142) rfl ?_
            rw [show wrp (((n : Nat) : Int) + 1) = ((n + 1 : Nat) : Int) from by rw [wrp_id (by omega) (by omega)]; omega]
            refine qG.blk 5 (pc' := 67) (ls' := [(2, 61), (0, y), (0, c)]) (st' := [(0, wrp (((n + 1 : Nat) : Int) - 1))]) (w' := (qup (qup (qup w 62 n y) 63 n c) 61 2 ((n + 1 : Nat) : Int))) (n' := 142) rfl ?_
            rw [show wrp (((n + 1 : Nat) : Int) - 1) = ((n : Nat) : Int) from by rw [wrp_id (by omega) (by omega)]; omega]
            refine qG.ret rfl rfl ?_
            subst hQ9
            refine ⟨rfl, ?_⟩; (first | exact .inl ⟨by unfold wriC; omega, rfl, rfl⟩ | exact .inr ⟨by unfold wriC; omega, rfl, rfl⟩)
          · skip
            refine qG.blk 1 (pc' := 30) (ls' := [(2, 61), (0, y), (0, c)]) (st' := [(0, (-1))]) (w' := w) (n' := 142) rfl ?_
            refine qG.ret rfl rfl ?_
            subst hQ9
            refine ⟨rfl, ?_⟩; (first | exact .inl ⟨by unfold wriC; omega, rfl, rfl⟩ | exact .inr ⟨by unfold wriC; omega, rfl, rfl⟩)
theorem K_X10_putTruth {d : Nat} (hd : 0 ≤ d) (c : Int) (w : qW) (hI : yInv zgf zga zra zSp w) : qG none d 156 0 [(2, 61), (0, c)] [] w 142 (fun (r : qV) (w1 : qW) (n1 : Nat) => n1 = 142 ∧ truE 61 3 c w r w1) := by
  generalize hQ9 : (fun (r : qV) (w1 : qW) (n1 : Nat) => n1 = 142 ∧ truE 61 3 c w r w1) = Q9
  obtain ⟨N6, hN6⟩ : ∃ N : Int, N = 1073741823 := ⟨_, rfl⟩
  refine qG.blk 1 (pc' := 1) (ls' := [(2, 61), (0, c)]) (st' := [(0, c)]) (w' := w) (n' := 142) rfl ?_
  refine qG.br (P := c < 0) (pc1 := 10) (pc2 := 4) (st1 := []) rfl (fun h1 => ?_) (fun h1 => ?_)
  · skip
    refine qG.blk 1 (pc' := 11) (ls' := [(2, 61), (0, c)]) (st' := [(0, 0)]) (w' := w) (n' := 142) rfl ?_
    refine qG.ret rfl (by first | rfl | exact decide_eq_true (by omega)) ?_
    subst hQ9
    exact ⟨rfl, by first | exact .inl ⟨by omega, rfl, rfl⟩ | exact .inr ⟨by omega, rfl, rfl⟩⟩
  · skip
    refine qG.blk 2 (pc' := 7) (ls' := [(2, 61), (0, c)]) (st' := [(0, 1073741823), (0, c)]) (w' := w) (n' := 142) rfl ?_
    rw [show (1073741823 : Int) = N6 from hN6.symm]
    refine qG.br (P := N6 < c) (pc1 := 10) (pc2 := 12) (st1 := []) rfl (fun h2 => ?_) (fun h2 => ?_)
    · skip
      refine qG.blk 1 (pc' := 11) (ls' := [(2, 61), (0, c)]) (st' := [(0, 0)]) (w' := w) (n' := 142) rfl ?_
      refine qG.ret rfl (by first | rfl | exact decide_eq_true (by omega)) ?_
      subst hQ9
      exact ⟨rfl, by first | exact .inl ⟨by omega, rfl, rfl⟩ | exact .inr ⟨by omega, rfl, rfl⟩⟩
    · skip
      refine qG.blk 4 (pc' := 18) (ls' := [(2, 61), (0, c)]) (st' := [(0, 1)]) (w' := (qup w 61 3 c)) (n' := 142) rfl ?_
      refine qG.ret rfl (by first | rfl | exact decide_eq_true (by omega)) ?_
      subst hQ9
      exact ⟨rfl, by first | exact .inl ⟨by omega, rfl, rfl⟩ | exact .inr ⟨by omega, rfl, rfl⟩⟩
theorem K_X12_areClaims {d : Nat} (hd : 1 ≤ d) (c : Int) (w : qW) : qG none d 292 0 [(0, c)] [] w 142 (fun (r : qV) (w1 : qW) (n1 : Nat) => r = (0, isInV c 0 1073741823) ∧ w1 = w ∧ n1 = 142) := by
  generalize hQ9 : (fun (r : qV) (w1 : qW) (n1 : Nat) => r = (0, isInV c 0 1073741823) ∧ w1 = w ∧ n1 = 142) = Q9
  obtain ⟨d, rfl⟩ : ∃ d9, d = d9 + 1 := ⟨d - 1, by omega⟩
  refine qG.blk 3 (pc' := 5) (ls' := [(0, c)]) (st' := [(0, 1073741823), (0, 0), (0, c)]) (w' := w) (n' := 142) rfl ?_
  refine qG.call (t := 206) (na := 3) (sk := 0) (md := 0) (ls1 := [(0, c), (0, 0), (0, 1073741823)]) (r1 := []) rfl rfl rfl rfl rfl (K_isIn (Nat.zero_le _) _ _ _ _) ?_
  rintro _ w7 _ ⟨rfl, hw7, rfl⟩
  rw [hw7]
  show qG none (d + 1) 292 8 [(0, c)] [(0, isInV (c) (0) (1073741823))] w 142 Q9
  refine qG.ret rfl (by have q9 := isInV_01 c 0 1073741823; exact decide_eq_true (by omega)) ?_
  subst hQ9
  exact ⟨rfl, rfl, rfl⟩
theorem K_X11_writer {d : Nat} (hd : 1 ≤ d) (y c : Int) (n : Nat) (hn9 : n ≤ 20) (w : qW) (hI : yInv zgf zga zra zSp w) (hn : w 61 2 = (n : Int)) : qG none d 194 0 [(2, 1), (0, y), (0, c)] [] w 142 (fun (r : qV) (w1 : qW) (n1 : Nat) => n1 = 142 ∧ wriE 61 2 62 63 y c n w r w1) := by
  generalize hQ9 : (fun (r : qV) (w1 : qW) (n1 : Nat) => n1 = 142 ∧ wriE 61 2 62 63 y c n w r w1) = Q9
  obtain ⟨d, rfl⟩ : ∃ d9, d = d9 + 1 := ⟨d - 1, by omega⟩
  refine qG.blk 2 (pc' := 4) (ls' := [(2, 1), (0, y), (0, c)]) (st' := [(2, w 1 9)]) (w' := w) (n' := 142) rfl ?_
  rw [show w 1 9 = 61 from zref hI rfl rfl]
  refine qG.blk 2 (pc' := 6) (ls' := [(2, 1), (0, y), (0, c)]) (st' := [(0, c), (0, y), (2, 61)]) (w' := w) (n' := 142) rfl ?_
  refine qG.call (t := 155) (na := 3) (sk := 1) (md := 1) (ls1 := [(2, 61), (0, y), (0, c)]) (r1 := []) rfl rfl rfl rfl rfl (K_X10_add (by omega) y c n hn9 w hI hn) ?_
  rintro ⟨_, x9⟩ w1 _ ⟨rfl, hE⟩
  have hk9 : ∃ y, ((_ : Nat), x9) = ((0 : Nat), y) := (by rcases hE with ⟨-, h, -⟩ | ⟨-, h, -⟩ <;> exact ⟨_, h⟩)
  obtain ⟨y9, hy9⟩ := hk9
  obtain ⟨rfl, rfl⟩ := Prod.mk.inj hy9
  show qG none (d + 1) 194 9 [(2, 1), (0, y), (0, c)] [(0, x9)] w1 142 Q9
  refine qG.ret rfl rfl ?_
  subst hQ9
  exact ⟨rfl, hE⟩
theorem K_X11_truthE {d : Nat} (hd : 1 ≤ d) (c : Int) (w : qW) (hI : yInv zgf zga zra zSp w) : qG none d 195 0 [(2, 1), (0, c)] [] w 142 (fun (r : qV) (w1 : qW) (n1 : Nat) => n1 = 142 ∧ truE 61 3 c w r w1) := by
  generalize hQ9 : (fun (r : qV) (w1 : qW) (n1 : Nat) => n1 = 142 ∧ truE 61 3 c w r w1) = Q9
  obtain ⟨d, rfl⟩ : ∃ d9, d = d9 + 1 := ⟨d - 1, by omega⟩
  refine qG.blk 2 (pc' := 4) (ls' := [(2, 1), (0, c)]) (st' := [(2, w 1 9)]) (w' := w) (n' := 142) rfl ?_
  rw [show w 1 9 = 61 from zref hI rfl rfl]
  refine qG.blk 1 (pc' := 5) (ls' := [(2, 1), (0, c)]) (st' := [(0, c), (2, 61)]) (w' := w) (n' := 142) rfl ?_
  refine qG.call (t := 156) (na := 2) (sk := 1) (md := 1) (ls1 := [(2, 61), (0, c)]) (r1 := []) rfl rfl rfl rfl rfl (K_X10_putTruth (by omega) c w hI) ?_
  rintro ⟨_, x9⟩ w1 _ ⟨rfl, hE⟩
  have hk9 : ∃ y, ((_ : Nat), x9) = ((0 : Nat), y) := (by rcases hE with ⟨-, h, -⟩ | ⟨-, h, -⟩ <;> exact ⟨_, h⟩)
  obtain ⟨y9, hy9⟩ := hk9
  obtain ⟨rfl, rfl⟩ := Prod.mk.inj hy9
  show qG none (d + 1) 195 8 [(2, 1), (0, c)] [(0, x9)] w1 142 Q9
  refine qG.ret rfl (by rcases hE with ⟨-, h, -⟩ | ⟨-, h, -⟩ <;> (obtain ⟨-, rfl⟩ := Prod.mk.inj h; rfl)) ?_
  subst hQ9
  exact ⟨rfl, hE⟩
theorem K_X12_writer {d : Nat} (hd : 2 ≤ d) (y c : Int) (n : Nat) (hn9 : n ≤ 20) (w : qW) (hI : yInv zgf zga zra zSp w) (hn : w 95 76 = (n : Int)) : qG none d 294 0 [(2, 95), (0, y), (0, c)] [] w 142 (fun (r : qV) (w1 : qW) (n1 : Nat) => n1 = 142 ∧ wriE 95 76 141 142 y c n w r w1) := by
  generalize hQ9 : (fun (r : qV) (w1 : qW) (n1 : Nat) => n1 = 142 ∧ wriE 95 76 141 142 y c n w r w1) = Q9
  obtain ⟨d, rfl⟩ : ∃ d9, d = d9 + 1 := ⟨d - 1, by omega⟩
  refine qG.blk 3 (pc' := 4) (ls' := [(2, 95), (0, y), (0, c)]) (st' := [(0, 99), (0, 0), (0, y)]) (w' := w) (n' := 142) rfl ?_
  refine qG.call (t := 206) (na := 3) (sk := 0) (md := 0) (ls1 := [(0, y), (0, 0), (0, 99)]) (r1 := []) rfl rfl rfl rfl rfl (K_isIn (Nat.zero_le _) _ _ _ _) ?_
  rintro _ w7 _ ⟨rfl, hw7, rfl⟩
  rw [hw7]
  show qG none (d + 1) 294 7 [(2, 95), (0, y), (0, c)] [(0, isInV (y) (0) (99))] w 142 Q9
  refine qG.br (P := isInV (y) (0) (99) = 0) (pc1 := 26) (pc2 := 10) (st1 := []) rfl (fun h1 => ?_) (fun h1 => ?_)
  · skip
    rw [isIn_b] at h1
    refine qG.blk 1 (pc' := 27) (ls' := [(2, 95), (0, y), (0, c)]) (st' := [(0, (-1))]) (w' := w) (n' := 142) rfl ?_
    refine qG.ret rfl rfl ?_
    subst hQ9
    refine ⟨rfl, ?_⟩; (first | exact .inl ⟨by unfold wriC; omega, rfl, rfl⟩ | exact .inr ⟨by unfold wriC; omega, rfl, rfl⟩)
  · skip
    rw [isIn_p] at h1
    refine qG.blk 1 (pc' := 11) (ls' := [(2, 95), (0, y), (0, c)]) (st' := [(0, c)]) (w' := w) (n' := 142) rfl ?_
    refine qG.call (t := 292) (na := 1) (sk := 0) (md := 0) (ls1 := [(0, c)]) (r1 := []) rfl rfl rfl rfl rfl (K_X12_areClaims (by omega) _ _) ?_
    rintro _ w7 _ ⟨rfl, hw7, rfl⟩
    rw [hw7]
    show qG none (d + 1) 294 14 [(2, 95), (0, y), (0, c)] [(0, isInV c 0 1073741823)] w 142 Q9
    refine qG.br (P := isInV c 0 1073741823 = 0) (pc1 := 26) (pc2 := 17) (st1 := []) rfl (fun h2 => ?_) (fun h2 => ?_)
    · skip
      rw [isIn_b] at h2
      refine qG.blk 1 (pc' := 27) (ls' := [(2, 95), (0, y), (0, c)]) (st' := [(0, (-1))]) (w' := w) (n' := 142) rfl ?_
      refine qG.ret rfl rfl ?_
      subst hQ9
      refine ⟨rfl, ?_⟩; (first | exact .inl ⟨by unfold wriC; omega, rfl, rfl⟩ | exact .inr ⟨by unfold wriC; omega, rfl, rfl⟩)
    · skip
      rw [isIn_p] at h2
      refine qG.blk 2 (pc' := 21) (ls' := [(2, 95), (0, y), (0, c)]) (st' := [(0, w 95 76)]) (w' := w) (n' := 142) rfl ?_
      rw [show w 95 76 = ((n : Nat) : Int) from hn]
      refine qG.blk 1 (pc' := 23) (ls' := [(2, 95), (0, y), (0, c)]) (st' := [(0, 20), (0, ((n : Nat) : Int))]) (w' := w) (n' := 142) rfl ?_
      refine qG.br (P := ((n : Nat) : Int) = 20) (pc1 := 26) (pc2 := 28) (st1 := []) rfl (fun h7 => ?_) (fun h7 => ?_)
      · skip
        refine qG.blk 1 (pc' := 27) (ls' := [(2, 95), (0, y), (0, c)]) (st' := [(0, (-1))]) (w' := w) (n' := 142) rfl ?_
        refine qG.ret rfl rfl ?_
        subst hQ9
        refine ⟨rfl, ?_⟩; (first | exact .inl ⟨by unfold wriC; omega, rfl, rfl⟩ | exact .inr ⟨by unfold wriC; omega, rfl, rfl⟩)
      · skip
        refine qG.blk 2 (pc' := 32) (ls' := [(2, 95), (0, y), (0, c)]) (st' := [(2, w 95 78)]) (w' := w) (n' := 142) rfl ?_
        rw [show w 95 78 = 141 from zref hI rfl rfl]
        refine qG.blk 2 (pc' := 36) (ls' := [(2, 95), (0, y), (0, c)]) (st' := [(0, w 95 76), (2, 141)]) (w' := w) (n' := 142) rfl ?_
        rw [show w 95 76 = ((n : Nat) : Int) from hn]
        refine qG.blk 1 (pc' := 37) (ls' := [(2, 95), (0, y), (0, c)]) (st' := [(0, y), (0, ((n : Nat) : Int)), (2, 141)]) (w' := w) (n' := 142) rfl ?_
        refine qG.ar (P := 0 ≤ ((n : Nat) : Int) ∧ ((n : Nat) : Int) < ((20 : Nat) : Int)) (P2 := 0 < (141 : Int) ∧ (141 : Int) ≤ ((142 : Nat) : Int)) (pc' := 38) (ls' := [(2, 95), (0, y), (0, c)]) (st' := []) (w' := (qup w 141 n y)) (n' := 142) rfl (by omega) (by decide) ?_
        refine qG.blk 2 (pc' := 42) (ls' := [(2, 95), (0, y), (0, c)]) (st' := [(2, w 95 79)]) (w' := (qup w 141 n y)) (n' := 142) rfl ?_
        rw [show w 95 79 = 142 from zref hI rfl rfl]
        refine qG.blk 2 (pc' := 46) (ls' := [(2, 95), (0, y), (0, c)]) (st' := [(0, w 95 76), (2, 142)]) (w' := (qup w 141 n y)) (n' := 142) rfl ?_
        rw [show w 95 76 = ((n : Nat) : Int) from hn]
        refine qG.blk 1 (pc' := 47) (ls' := [(2, 95), (0, y), (0, c)]) (st' := [(0, c), (0, ((n : Nat) : Int)), (2, 142)]) (w' := (qup w 141 n y)) (n' := 142) rfl ?_
        refine qG.ar (P := 0 ≤ ((n : Nat) : Int) ∧ ((n : Nat) : Int) < ((20 : Nat) : Int)) (P2 := 0 < (142 : Int) ∧ (142 : Int) ≤ ((142 : Nat) : Int)) (pc' := 48) (ls' := [(2, 95), (0, y), (0, c)]) (st' := []) (w' := (qup (qup w 141 n y) 142 n c)) (n' := 142) rfl (by omega) (by decide) ?_
        refine qG.blk 3 (pc' := 53) (ls' := [(2, 95), (0, y), (0, c)]) (st' := [(0, w 95 76), (2, 95)]) (w' := (qup (qup w 141 n y) 142 n c)) (n' := 142) rfl ?_
        rw [show w 95 76 = ((n : Nat) : Int) from hn]
        refine qG.blk 2 (pc' := 55) (ls' := [(2, 95), (0, y), (0, c)]) (st' := [(0, wrp (((n : Nat) : Int) + 1)), (2, 95)]) (w' := (qup (qup w 141 n y) 142 n c)) (n' := 142) rfl ?_
        rw [show wrp (((n : Nat) : Int) + 1) = ((n + 1 : Nat) : Int) from by rw [wrp_id (by omega) (by omega)]; omega]
        refine qG.blk 5 (pc' := 64) (ls' := [(2, 95), (0, y), (0, c)]) (st' := [(0, wrp (((n + 1 : Nat) : Int) - 1))]) (w' := (qup (qup (qup w 141 n y) 142 n c) 95 76 ((n + 1 : Nat) : Int))) (n' := 142) rfl ?_
        rw [show wrp (((n + 1 : Nat) : Int) - 1) = ((n : Nat) : Int) from by rw [wrp_id (by omega) (by omega)]; omega]
        refine qG.ret rfl rfl ?_
        subst hQ9
        refine ⟨rfl, ?_⟩; (first | exact .inl ⟨by unfold wriC; omega, rfl, rfl⟩ | exact .inr ⟨by unfold wriC; omega, rfl, rfl⟩)
theorem K_X12_truthE {d : Nat} (hd : 2 ≤ d) (c : Int) (w : qW) (hI : yInv zgf zga zra zSp w) : qG none d 295 0 [(2, 95), (0, c)] [] w 142 (fun (r : qV) (w1 : qW) (n1 : Nat) => n1 = 142 ∧ truE 95 77 c w r w1) := by
  generalize hQ9 : (fun (r : qV) (w1 : qW) (n1 : Nat) => n1 = 142 ∧ truE 95 77 c w r w1) = Q9
  obtain ⟨d, rfl⟩ : ∃ d9, d = d9 + 1 := ⟨d - 1, by omega⟩
  refine qG.blk 1 (pc' := 1) (ls' := [(2, 95), (0, c)]) (st' := [(0, c)]) (w' := w) (n' := 142) rfl ?_
  refine qG.call (t := 292) (na := 1) (sk := 0) (md := 0) (ls1 := [(0, c)]) (r1 := []) rfl rfl rfl rfl rfl (K_X12_areClaims (by omega) _ _) ?_
  rintro _ w7 _ ⟨rfl, hw7, rfl⟩
  rw [hw7]
  show qG none (d + 1) 295 4 [(2, 95), (0, c)] [(0, isInV c 0 1073741823)] w 142 Q9
  refine qG.br (P := isInV c 0 1073741823 = 0) (pc1 := 7) (pc2 := 9) (st1 := []) rfl (fun h1 => ?_) (fun h1 => ?_)
  · skip
    rw [isIn_b] at h1
    refine qG.blk 1 (pc' := 8) (ls' := [(2, 95), (0, c)]) (st' := [(0, 0)]) (w' := w) (n' := 142) rfl ?_
    refine qG.ret rfl (by first | rfl | exact decide_eq_true (by omega)) ?_
    subst hQ9
    exact ⟨rfl, by first | exact .inl ⟨by omega, rfl, rfl⟩ | exact .inr ⟨by omega, rfl, rfl⟩⟩
  · skip
    rw [isIn_p] at h1
    refine qG.blk 4 (pc' := 15) (ls' := [(2, 95), (0, c)]) (st' := [(0, 1)]) (w' := (qup w 95 77 c)) (n' := 142) rfl ?_
    refine qG.ret rfl (by first | rfl | exact decide_eq_true (by omega)) ?_
    subst hQ9
    exact ⟨rfl, by first | exact .inl ⟨by omega, rfl, rfl⟩ | exact .inr ⟨by omega, rfl, rfl⟩⟩
def JW (w : qW) : Prop := w 61 2 = w 95 76 ∧ w 61 3 = w 95 77 ∧ (∀ j, w 62 j = w 141 j) ∧ ∀ j, w 63 j = w 142 j
def jwM (m : List Nat) : Bool := spo m 62 && (spo m 63 && (spo m 141 && (spo m 142 && (!ymo 61 2 m && (!ymo 61 3 m && (!ymo 95 76 m && !ymo 95 77 m))))))
theorem JW.aw {m : List Nat} {w w1 : qW} (h : JW w) (a : AW m w w1) (hm : jwM m = true) : JW w1 := by
  unfold jwM at hm
  simp only [Bool.and_eq_true, Bool.not_eq_true'] at hm
  obtain ⟨m1, m2, m4, m5, m7, m8, m9, m10⟩ := hm
  refine ⟨?_, ?_, fun j => ?_, fun j => ?_⟩
  · rw [a.2 61 2 (fun _ => m7), a.2 95 76 (fun _ => m9)]; exact h.1
  · rw [a.2 61 3 (fun _ => m8), a.2 95 77 (fun _ => m10)]; exact h.2.1
  · rw [a.a (by decide) m1, a.a (by decide) m4]; exact h.2.2.1 j
  · rw [a.a (by decide) m2, a.a (by decide) m5]; exact h.2.2.2 j
theorem JW.writer {w w1 w2 : qW} {y c : Int} {n : Nat} {r r2 : qV} (h : JW w) (hX : wriE 61 2 62 63 y c n w r w1) (hR : wriE 95 76 141 142 y c n w1 r2 w2) : JW w2 ∧ r = r2 := by
  rcases hX with ⟨c1, rfl, rfl⟩ | ⟨c1, rfl, rfl⟩ <;> rcases hR with ⟨c2, rfl, rfl⟩ | ⟨c2, rfl, rfl⟩
  · exact ⟨h, rfl⟩
  · exact absurd c2 c1
  · exact absurd c1 c2
  · refine ⟨⟨?_, ?_, fun j => ?_, fun j => ?_⟩, rfl⟩
    · simp (disch := decide) only [qup_ne, qup_k]
    · simp (disch := decide) only [qup_ne, qup_j]; exact h.2.1
    · simp (disch := decide) only [qup_ne, qup_if]; rw [h.2.2.1 j]
    · simp (disch := decide) only [qup_ne, qup_if]; rw [h.2.2.2 j]
theorem JW.truth {w w1 w2 : qW} {c : Int} {r r2 : qV} (h : JW w) (hX : truE 61 3 c w r w1) (hR : truE 95 77 c w1 r2 w2) : JW w2 ∧ r = r2 := by
  rcases hX with ⟨c1, rfl, rfl⟩ | ⟨c1, rfl, rfl⟩ <;> rcases hR with ⟨c2, rfl, rfl⟩ | ⟨c2, rfl, rfl⟩
  · exact ⟨h, rfl⟩
  · exact absurd c2 c1
  · exact absurd c1 c2
  · refine ⟨⟨?_, ?_, fun j => ?_, fun j => ?_⟩, rfl⟩
    · simp (disch := decide) only [qup_ne, qup_j]; exact h.1
    · simp (disch := decide) only [qup_ne, qup_k]
    · simp (disch := decide) only [qup_ne]; exact h.2.2.1 j
    · simp (disch := decide) only [qup_ne]; exact h.2.2.2 j
