/-! where masters were told to have been, on both sides -/
def wasC (m t y M : Int) (n : Nat) : Prop := (0 ≤ m ∧ m < M) ∧ (0 ≤ t ∧ t ≤ 9) ∧ (0 ≤ y ∧ y ≤ 99) ∧ n < 200
def wasX (m t y : Int) (n : Nat) (w : qW) (r : qV) (w1 : qW) : Prop := (¬ wasC m t y (w 45 0) n ∧ r = (0, 0) ∧ w1 = w) ∨ (wasC m t y (w 45 0) n ∧ ∃ m9 t9 y9 : Nat, m = (m9 : Int) ∧ t = (t9 : Int) ∧ y = (y9 : Int) ∧ ((hbit (w 50 (m9 * 100 + y9)) t9 = true ∧ r = (0, 0) ∧ w1 = w) ∨ (¬ hbit (w 50 (m9 * 100 + y9)) t9 = true ∧ r = (0, 1) ∧ w1 = qup (qup w 50 (m9 * 100 + y9) (qor (w 50 (m9 * 100 + y9)) (qshl 1 ((t9 : Nat) : Int)))) 45 6 ((n + 1 : Nat) : Int))))
def wasK (m t y : Int) (n : Nat) (w : qW) : Prop := ∃ k : Nat, k < n ∧ w 129 k = m ∧ w 130 k = t ∧ w 131 k = y
def wasR (m t y : Int) (n : Nat) (w : qW) (r : qV) (w1 : qW) : Prop := (¬ wasC m t y (w 95 55) n ∧ r = (0, 0) ∧ w1 = w) ∨ (wasC m t y (w 95 55) n ∧ ((wasK m t y n w ∧ r = (0, 0) ∧ w1 = w) ∨ (¬ wasK m t y n w ∧ r = (0, 1) ∧ w1 = qup (qup (qup (qup w 129 n m) 130 n t) 131 n y) 95 56 ((n + 1 : Nat) : Int))))
theorem K_tellStay {d : Nat} (hd : 1 ≤ d) (m t y : Int) (n : Nat) (hn9 : n ≤ 200) (w : qW) (hI : yInv zgf zga zra zSp w) (hn : w 45 6 = (n : Int)) : qG none d 62 0 [(2, 45), (0, m), (0, t), (0, y), (9, 0)] [] w 142 (fun (r : qV) (w1 : qW) (n1 : Nat) => n1 = 142 ∧ wasX m t y n w r w1) := by
  generalize hQ9 : (fun (r : qV) (w1 : qW) (n1 : Nat) => n1 = 142 ∧ wasX m t y n w r w1) = Q9
  have q12 := hI.1 45 0 (0, 12) rfl rfl
  have b12 : w 45 0 ≤ (12 : Int) := q12.2
  obtain ⟨N6, hN6⟩ : ∃ N : Int, N = 200 := ⟨_, rfl⟩
  obtain ⟨d, rfl⟩ : ∃ d9, d = d9 + 1 := ⟨d - 1, by omega⟩
  refine qG.blk 2 (pc' := 2) (ls' := [(2, 45), (0, m), (0, t), (0, y), (9, 0)]) (st' := [(0, m), (2, 45)]) (w' := w) (n' := 142) rfl ?_
  refine qG.call (t := 59) (na := 2) (sk := 1) (md := 1) (ls1 := [(2, 45), (0, m)]) (r1 := []) rfl rfl rfl rfl rfl (K_X4_isMaster (Nat.zero_le _) m w hI) ?_
  rintro _ w7 _ ⟨rfl, hw7, rfl⟩
  rw [hw7]
  show qG none (d + 1) 62 5 [(2, 45), (0, m), (0, t), (0, y), (9, 0)] [(0, isInV m 0 (w 45 0 - 1))] w 142 Q9
  refine qG.br (P := isInV m 0 (w 45 0 - 1) = 0) (pc1 := 32) (pc2 := 8) (st1 := []) rfl (fun h1 => ?_) (fun h1 => ?_)
  · skip
    rw [isIn_b] at h1
    refine qG.blk 1 (pc' := 33) (ls' := [(2, 45), (0, m), (0, t), (0, y), (9, 0)]) (st' := [(0, 0)]) (w' := w) (n' := 142) rfl ?_
    refine qG.ret rfl (by first | rfl | exact decide_eq_true (by omega)) ?_
    subst hQ9
    refine ⟨rfl, ?_⟩; first | exact .inl ⟨by unfold wasC; omega, rfl, rfl⟩ | exact .inr ⟨by unfold wasC; omega, m9, t9, y9, rfl, rfl, rfl, .inl ⟨hb, rfl, rfl⟩⟩ | exact .inr ⟨by unfold wasC; omega, m9, t9, y9, rfl, rfl, rfl, .inr ⟨hb, rfl, rfl⟩⟩
  · skip
    rw [isIn_p] at h1
    obtain ⟨m9, rfl⟩ : ∃ q : Nat, m = (q : Int) := ⟨m.toNat, by omega⟩
    refine qG.blk 1 (pc' := 9) (ls' := [(2, 45), (0, ((m9 : Nat) : Int)), (0, t), (0, y), (9, 0)]) (st' := [(0, t)]) (w' := w) (n' := 142) rfl ?_
    refine qG.call (t := 56) (na := 1) (sk := 0) (md := 0) (ls1 := [(0, t)]) (r1 := []) rfl rfl rfl rfl rfl (K_X4_isTown (Nat.zero_le _) _ _) ?_
    rintro _ w7 _ ⟨rfl, hw7, rfl⟩
    rw [hw7]
    show qG none (d + 1) 62 12 [(2, 45), (0, ((m9 : Nat) : Int)), (0, t), (0, y), (9, 0)] [(0, isInV t 0 9)] w 142 Q9
    refine qG.br (P := isInV t 0 9 = 0) (pc1 := 32) (pc2 := 15) (st1 := []) rfl (fun h2 => ?_) (fun h2 => ?_)
    · skip
      rw [isIn_b] at h2
      refine qG.blk 1 (pc' := 33) (ls' := [(2, 45), (0, ((m9 : Nat) : Int)), (0, t), (0, y), (9, 0)]) (st' := [(0, 0)]) (w' := w) (n' := 142) rfl ?_
      refine qG.ret rfl (by first | rfl | exact decide_eq_true (by omega)) ?_
      subst hQ9
      refine ⟨rfl, ?_⟩; first | exact .inl ⟨by unfold wasC; omega, rfl, rfl⟩ | exact .inr ⟨by unfold wasC; omega, m9, t9, y9, rfl, rfl, rfl, .inl ⟨hb, rfl, rfl⟩⟩ | exact .inr ⟨by unfold wasC; omega, m9, t9, y9, rfl, rfl, rfl, .inr ⟨hb, rfl, rfl⟩⟩
    · skip
      rw [isIn_p] at h2
      obtain ⟨t9, rfl⟩ : ∃ q : Nat, t = (q : Int) := ⟨t.toNat, by omega⟩
      refine qG.blk 1 (pc' := 16) (ls' := [(2, 45), (0, ((m9 : Nat) : Int)), (0, ((t9 : Nat) : Int)), (0, y), (9, 0)]) (st' := [(0, y)]) (w' := w) (n' := 142) rfl ?_
      refine qG.call (t := 55) (na := 1) (sk := 0) (md := 0) (ls1 := [(0, y)]) (r1 := []) rfl rfl rfl rfl rfl (K_X4_isYear (Nat.zero_le _) _ _) ?_
      rintro _ w7 _ ⟨rfl, hw7, rfl⟩
      rw [hw7]
      show qG none (d + 1) 62 19 [(2, 45), (0, ((m9 : Nat) : Int)), (0, ((t9 : Nat) : Int)), (0, y), (9, 0)] [(0, isInV y 0 99)] w 142 Q9
      refine qG.br (P := isInV y 0 99 = 0) (pc1 := 32) (pc2 := 22) (st1 := []) rfl (fun h3 => ?_) (fun h3 => ?_)
      · skip
        rw [isIn_b] at h3
        refine qG.blk 1 (pc' := 33) (ls' := [(2, 45), (0, ((m9 : Nat) : Int)), (0, ((t9 : Nat) : Int)), (0, y), (9, 0)]) (st' := [(0, 0)]) (w' := w) (n' := 142) rfl ?_
        refine qG.ret rfl (by first | rfl | exact decide_eq_true (by omega)) ?_
        subst hQ9
        refine ⟨rfl, ?_⟩; first | exact .inl ⟨by unfold wasC; omega, rfl, rfl⟩ | exact .inr ⟨by unfold wasC; omega, m9, t9, y9, rfl, rfl, rfl, .inl ⟨hb, rfl, rfl⟩⟩ | exact .inr ⟨by unfold wasC; omega, m9, t9, y9, rfl, rfl, rfl, .inr ⟨hb, rfl, rfl⟩⟩
      · skip
        rw [isIn_p] at h3
        obtain ⟨y9, rfl⟩ : ∃ q : Nat, y = (q : Int) := ⟨y.toNat, by omega⟩
        refine qG.blk 2 (pc' := 26) (ls' := [(2, 45), (0, ((m9 : Nat) : Int)), (0, ((t9 : Nat) : Int)), (0, ((y9 : Nat) : Int)), (9, 0)]) (st' := [(0, w 45 6)]) (w' := w) (n' := 142) rfl ?_
        rw [show w 45 6 = ((n : Nat) : Int) from hn]
        refine qG.blk 1 (pc' := 29) (ls' := [(2, 45), (0, ((m9 : Nat) : Int)), (0, ((t9 : Nat) : Int)), (0, ((y9 : Nat) : Int)), (9, 0)]) (st' := [(0, 200), (0, ((n : Nat) : Int))]) (w' := w) (n' := 142) rfl ?_
        rw [show (200 : Int) = N6 from hN6.symm]
        refine qG.br (P := ((n : Nat) : Int) < N6) (pc1 := 34) (pc2 := 32) (st1 := []) rfl (fun h4 => ?_) (fun h4 => ?_)
        · skip
          refine qG.blk 3 (pc' := 38) (ls' := [(2, 45), (0, ((m9 : Nat) : Int)), (0, ((t9 : Nat) : Int)), (0, ((y9 : Nat) : Int)), (9, 0)]) (st' := [(0, wrp (((m9 : Nat) : Int) * 100))]) (w' := w) (n' := 142) rfl ?_
          rw [show wrp (((m9 : Nat) : Int) * 100) = ((m9 * 100 : Nat) : Int) from by rw [wrp_id (by omega) (by omega)]; omega]
          refine qG.blk 2 (pc' := 40) (ls' := [(2, 45), (0, ((m9 : Nat) : Int)), (0, ((t9 : Nat) : Int)), (0, ((y9 : Nat) : Int)), (9, 0)]) (st' := [(0, wrp (((m9 * 100 : Nat) : Int) + ((y9 : Nat) : Int)))]) (w' := w) (n' := 142) rfl ?_
          rw [show wrp (((m9 * 100 : Nat) : Int) + ((y9 : Nat) : Int)) = ((m9 * 100 + y9 : Nat) : Int) from by rw [wrp_id (by omega) (by omega)]; omega]
          refine qG.blk 3 (pc' := 46) (ls' := [(2, 45), (0, ((m9 : Nat) : Int)), (0, ((t9 : Nat) : Int)), (0, ((y9 : Nat) : Int)), (0, ((m9 * 100 + y9 : Nat) : Int))]) (st' := [(2, w 45 5)]) (w' := w) (n' := 142) rfl ?_
          rw [show w 45 5 = 50 from zref hI rfl rfl]
          refine qG.blk 1 (pc' := 48) (ls' := [(2, 45), (0, ((m9 : Nat) : Int)), (0, ((t9 : Nat) : Int)), (0, ((y9 : Nat) : Int)), (0, ((m9 * 100 + y9 : Nat) : Int))]) (st' := [(0, ((m9 * 100 + y9 : Nat) : Int)), (2, 50)]) (w' := w) (n' := 142) rfl ?_
          refine qG.ild (m := 1200) rfl rfl (by omega) (by decide) ?_
          show qG none (d + 1) 62 49 [(2, 45), (0, ((m9 : Nat) : Int)), (0, ((t9 : Nat) : Int)), (0, ((y9 : Nat) : Int)), (0, ((m9 * 100 + y9 : Nat) : Int))] [(0, w 50 (m9 * 100 + y9))] w 142 Q9
          refine qG.blk 4 (pc' := 53) (ls' := [(2, 45), (0, ((m9 : Nat) : Int)), (0, ((t9 : Nat) : Int)), (0, ((y9 : Nat) : Int)), (0, ((m9 * 100 + y9 : Nat) : Int))]) (st' := [(0, qand (qush (w 50 (m9 * 100 + y9)) ((t9 : Nat) : Int)) 1)]) (w' := w) (n' := 142) rfl ?_
          rw [show qand (qush (w 50 (m9 * 100 + y9)) ((t9 : Nat) : Int)) 1 = (if hbit (w 50 (m9 * 100 + y9)) t9 = true then 1 else 0) from ush_b (by omega)]
          refine qG.br (P := (if hbit (w 50 (m9 * 100 + y9)) t9 = true then 1 else 0) = 0) (pc1 := 58) (pc2 := 56) (st1 := []) rfl (fun hb9 => ?_) (fun hb9 => ?_)
          · skip
            have hb : ¬ hbit (w 50 (m9 * 100 + y9)) t9 = true := ite01.mp hb9
            refine qG.blk 2 (pc' := 62) (ls' := [(2, 45), (0, ((m9 : Nat) : Int)), (0, ((t9 : Nat) : Int)), (0, ((y9 : Nat) : Int)), (0, ((m9 * 100 + y9 : Nat) : Int))]) (st' := [(2, w 45 5)]) (w' := w) (n' := 142) rfl ?_
            rw [show w 45 5 = 50 from zref hI rfl rfl]
            refine qG.blk 2 (pc' := 65) (ls' := [(2, 45), (0, ((m9 : Nat) : Int)), (0, ((t9 : Nat) : Int)), (0, ((y9 : Nat) : Int)), (0, ((m9 * 100 + y9 : Nat) : Int))]) (st' := [(0, ((m9 * 100 + y9 : Nat) : Int)), (2, 50), (0, ((m9 * 100 + y9 : Nat) : Int)), (2, 50)]) (w' := w) (n' := 142) rfl ?_
            refine qG.ild (m := 1200) rfl rfl (by omega) (by decide) ?_
            show qG none (d + 1) 62 66 [(2, 45), (0, ((m9 : Nat) : Int)), (0, ((t9 : Nat) : Int)), (0, ((y9 : Nat) : Int)), (0, ((m9 * 100 + y9 : Nat) : Int))] [(0, w 50 (m9 * 100 + y9)), (0, ((m9 * 100 + y9 : Nat) : Int)), (2, 50)] w 142 Q9
            refine qG.blk 4 (pc' := 70) (ls' := [(2, 45), (0, ((m9 : Nat) : Int)), (0, ((t9 : Nat) : Int)), (0, ((y9 : Nat) : Int)), (0, ((m9 * 100 + y9 : Nat) : Int))]) (st' := [(0, qor (w 50 (m9 * 100 + y9)) (qshl 1 ((t9 : Nat) : Int))), (0, ((m9 * 100 + y9 : Nat) : Int)), (2, 50)]) (w' := w) (n' := 142) rfl ?_
            refine qG.ist (m := 1200) rfl rfl (by omega) (by decide) ?_
            show qG none (d + 1) 62 71 [(2, 45), (0, ((m9 : Nat) : Int)), (0, ((t9 : Nat) : Int)), (0, ((y9 : Nat) : Int)), (0, ((m9 * 100 + y9 : Nat) : Int))] [] (qup w 50 (m9 * 100 + y9) (qor (w 50 (m9 * 100 + y9)) (qshl 1 ((t9 : Nat) : Int)))) 142 Q9
            refine qG.blk 3 (pc' := 76) (ls' := [(2, 45), (0, ((m9 : Nat) : Int)), (0, ((t9 : Nat) : Int)), (0, ((y9 : Nat) : Int)), (0, ((m9 * 100 + y9 : Nat) : Int))]) (st' := [(0, w 45 6), (2, 45)]) (w' := (qup w 50 (m9 * 100 + y9) (qor (w 50 (m9 * 100 + y9)) (qshl 1 ((t9 : Nat) : Int))))) (n' := 142) rfl ?_
            rw [show w 45 6 = ((n : Nat) : Int) from hn]
            refine qG.blk 2 (pc' := 78) (ls' := [(2, 45), (0, ((m9 : Nat) : Int)), (0, ((t9 : Nat) : Int)), (0, ((y9 : Nat) : Int)), (0, ((m9 * 100 + y9 : Nat) : Int))]) (st' := [(0, wrp (((n : Nat) : Int) + 1)), (2, 45)]) (w' := (qup w 50 (m9 * 100 + y9) (qor (w 50 (m9 * 100 + y9)) (qshl 1 ((t9 : Nat) : Int))))) (n' := 142) rfl ?_
            rw [show wrp (((n : Nat) : Int) + 1) = ((n + 1 : Nat) : Int) from by rw [wrp_id (by omega) (by omega)]; omega]
            refine qG.blk 2 (pc' := 82) (ls' := [(2, 45), (0, ((m9 : Nat) : Int)), (0, ((t9 : Nat) : Int)), (0, ((y9 : Nat) : Int)), (0, ((m9 * 100 + y9 : Nat) : Int))]) (st' := [(0, 1)]) (w' := (qup (qup w 50 (m9 * 100 + y9) (qor (w 50 (m9 * 100 + y9)) (qshl 1 ((t9 : Nat) : Int)))) 45 6 ((n + 1 : Nat) : Int))) (n' := 142) rfl ?_
            refine qG.ret rfl (by first | rfl | exact decide_eq_true (by omega)) ?_
            subst hQ9
            refine ⟨rfl, ?_⟩; first | exact .inl ⟨by unfold wasC; omega, rfl, rfl⟩ | exact .inr ⟨by unfold wasC; omega, m9, t9, y9, rfl, rfl, rfl, .inl ⟨hb, rfl, rfl⟩⟩ | exact .inr ⟨by unfold wasC; omega, m9, t9, y9, rfl, rfl, rfl, .inr ⟨hb, rfl, rfl⟩⟩
          · skip
            have hb : hbit (w 50 (m9 * 100 + y9)) t9 = true := Decidable.of_not_not (fun z => hb9 (ite01.mpr z))
            refine qG.blk 1 (pc' := 57) (ls' := [(2, 45), (0, ((m9 : Nat) : Int)), (0, ((t9 : Nat) : Int)), (0, ((y9 : Nat) : Int)), (0, ((m9 * 100 + y9 : Nat) : Int))]) (st' := [(0, 0)]) (w' := w) (n' := 142) rfl ?_
            refine qG.ret rfl (by first | rfl | exact decide_eq_true (by omega)) ?_
            subst hQ9
            refine ⟨rfl, ?_⟩; first | exact .inl ⟨by unfold wasC; omega, rfl, rfl⟩ | exact .inr ⟨by unfold wasC; omega, m9, t9, y9, rfl, rfl, rfl, .inl ⟨hb, rfl, rfl⟩⟩ | exact .inr ⟨by unfold wasC; omega, m9, t9, y9, rfl, rfl, rfl, .inr ⟨hb, rfl, rfl⟩⟩
        · skip
          refine qG.blk 1 (pc' := 33) (ls' := [(2, 45), (0, ((m9 : Nat) : Int)), (0, ((t9 : Nat) : Int)), (0, ((y9 : Nat) : Int)), (9, 0)]) (st' := [(0, 0)]) (w' := w) (n' := 142) rfl ?_
          refine qG.ret rfl (by first | rfl | exact decide_eq_true (by omega)) ?_
          subst hQ9
          refine ⟨rfl, ?_⟩; first | exact .inl ⟨by unfold wasC; omega, rfl, rfl⟩ | exact .inr ⟨by unfold wasC; omega, m9, t9, y9, rfl, rfl, rfl, .inl ⟨hb, rfl, rfl⟩⟩ | exact .inr ⟨by unfold wasC; omega, m9, t9, y9, rfl, rfl, rfl, .inr ⟨hb, rfl, rfl⟩⟩
theorem K_X11_was {d : Nat} (hd : 2 ≤ d) (m t y : Int) (n : Nat) (hn9 : n ≤ 200) (w : qW) (hI : yInv zgf zga zra zSp w) (hn : w 45 6 = (n : Int)) : qG none d 186 0 [(2, 1), (0, m), (0, t), (0, y)] [] w 142 (fun (r : qV) (w1 : qW) (n1 : Nat) => n1 = 142 ∧ wasX m t y n w r w1) := by
  generalize hQ9 : (fun (r : qV) (w1 : qW) (n1 : Nat) => n1 = 142 ∧ wasX m t y n w r w1) = Q9
  obtain ⟨d, rfl⟩ : ∃ d9, d = d9 + 1 := ⟨d - 1, by omega⟩
  refine qG.blk 2 (pc' := 4) (ls' := [(2, 1), (0, m), (0, t), (0, y)]) (st' := [(2, w 1 7)]) (w' := w) (n' := 142) rfl ?_
  rw [show w 1 7 = 45 from zref hI rfl rfl]
  refine qG.blk 3 (pc' := 7) (ls' := [(2, 1), (0, m), (0, t), (0, y)]) (st' := [(0, y), (0, t), (0, m), (2, 45)]) (w' := w) (n' := 142) rfl ?_
  refine qG.call (t := 62) (na := 4) (sk := 1) (md := 1) (ls1 := [(2, 45), (0, m), (0, t), (0, y), (9, 0)]) (r1 := []) rfl rfl rfl rfl rfl (K_tellStay (by omega) m t y n hn9 w hI hn) ?_
  rintro ⟨_, x9⟩ w1 _ ⟨rfl, hE⟩
  have hk9 : ∃ y, ((_ : Nat), x9) = ((0 : Nat), y) ∧ (y = 0 ∨ y = 1) := (by rcases hE with ⟨-, h, -⟩ | ⟨-, -, -, -, -, -, -, ⟨-, h, -⟩ | ⟨-, h, -⟩⟩ <;> first | exact ⟨_, h, .inl rfl⟩ | exact ⟨_, h, .inr rfl⟩)
  obtain ⟨y9, hy9, hz9⟩ := hk9
  obtain ⟨rfl, rfl⟩ := Prod.mk.inj hy9
  show qG none (d + 1) 186 10 [(2, 1), (0, m), (0, t), (0, y)] [(0, x9)] w1 142 Q9
  refine qG.ret rfl (by exact decide_eq_true (by omega)) ?_
  subst hQ9
  exact ⟨rfl, hE⟩
theorem K_X12_was {d : Nat} (hd : 2 ≤ d) (m t y : Int) (n : Nat) (hn9 : n ≤ 200) (w : qW) (hI : yInv zgf zga zra zSp w) (hn : w 95 56 = (n : Int)) : qG none d 281 0 [(2, 95), (0, m), (0, t), (0, y), (9, 0)] [] w 142 (fun (r : qV) (w1 : qW) (n1 : Nat) => n1 = 142 ∧ wasR m t y n w r w1) := by
  generalize hQ9 : (fun (r : qV) (w1 : qW) (n1 : Nat) => n1 = 142 ∧ wasR m t y n w r w1) = Q9
  have h55 := zfld hI (j := 55) (b := (0, 12)) rfl
  have b55 : w 95 55 ≤ (12 : Int) := h55.2
  obtain ⟨d, rfl⟩ : ∃ d9, d = d9 + 1 := ⟨d - 1, by omega⟩
  refine qG.blk 2 (pc' := 2) (ls' := [(2, 95), (0, m), (0, t), (0, y), (9, 0)]) (st' := [(0, m), (2, 95)]) (w' := w) (n' := 142) rfl ?_
  refine qG.call (t := 279) (na := 2) (sk := 1) (md := 1) (ls1 := [(2, 95), (0, m)]) (r1 := []) rfl rfl rfl rfl rfl (K_isMaster (by omega) m w hI) ?_
  rintro _ w7 _ ⟨rfl, hw7, rfl⟩
  rw [hw7]
  show qG none (d + 1) 281 5 [(2, 95), (0, m), (0, t), (0, y), (9, 0)] [(0, isInV m 0 (w 95 55 - 1))] w 142 Q9
  refine qG.br (P := isInV m 0 (w 95 55 - 1) = 0) (pc1 := 38) (pc2 := 8) (st1 := []) rfl (fun h1 => ?_) (fun h1 => ?_)
  · skip
    rw [isIn_b] at h1
    refine qG.blk 1 (pc' := 39) (ls' := [(2, 95), (0, m), (0, t), (0, y), (9, 0)]) (st' := [(0, 0)]) (w' := w) (n' := 142) rfl ?_
    refine qG.ret rfl (by first | rfl | exact decide_eq_true (by omega)) ?_
    subst hQ9
    refine ⟨rfl, ?_⟩; first | exact .inl ⟨by unfold wasC; omega, rfl, rfl⟩ | exact .inr ⟨by unfold wasC; omega, .inl ⟨⟨k, by omega, hq1, hq2, hq3⟩, rfl, rfl⟩⟩ | exact .inr ⟨by unfold wasC; omega, .inr ⟨(fun z => by obtain ⟨i, hi, z⟩ := z; exact hI43.2 i (by omega) z), rfl, rfl⟩⟩
  · skip
    rw [isIn_p] at h1
    refine qG.blk 3 (pc' := 12) (ls' := [(2, 95), (0, m), (0, t), (0, y), (9, 0)]) (st' := [(0, 9), (0, 0), (0, t)]) (w' := w) (n' := 142) rfl ?_
    refine qG.call (t := 206) (na := 3) (sk := 0) (md := 0) (ls1 := [(0, t), (0, 0), (0, 9)]) (r1 := []) rfl rfl rfl rfl rfl (K_isIn (Nat.zero_le _) _ _ _ _) ?_
    rintro _ w7 _ ⟨rfl, hw7, rfl⟩
    rw [hw7]
    show qG none (d + 1) 281 15 [(2, 95), (0, m), (0, t), (0, y), (9, 0)] [(0, isInV (t) (0) (9))] w 142 Q9
    refine qG.br (P := isInV (t) (0) (9) = 0) (pc1 := 38) (pc2 := 18) (st1 := []) rfl (fun h2 => ?_) (fun h2 => ?_)
    · skip
      rw [isIn_b] at h2
      refine qG.blk 1 (pc' := 39) (ls' := [(2, 95), (0, m), (0, t), (0, y), (9, 0)]) (st' := [(0, 0)]) (w' := w) (n' := 142) rfl ?_
      refine qG.ret rfl (by first | rfl | exact decide_eq_true (by omega)) ?_
      subst hQ9
      refine ⟨rfl, ?_⟩; first | exact .inl ⟨by unfold wasC; omega, rfl, rfl⟩ | exact .inr ⟨by unfold wasC; omega, .inl ⟨⟨k, by omega, hq1, hq2, hq3⟩, rfl, rfl⟩⟩ | exact .inr ⟨by unfold wasC; omega, .inr ⟨(fun z => by obtain ⟨i, hi, z⟩ := z; exact hI43.2 i (by omega) z), rfl, rfl⟩⟩
    · skip
      rw [isIn_p] at h2
      refine qG.blk 3 (pc' := 22) (ls' := [(2, 95), (0, m), (0, t), (0, y), (9, 0)]) (st' := [(0, 99), (0, 0), (0, y)]) (w' := w) (n' := 142) rfl ?_
      refine qG.call (t := 206) (na := 3) (sk := 0) (md := 0) (ls1 := [(0, y), (0, 0), (0, 99)]) (r1 := []) rfl rfl rfl rfl rfl (K_isIn (Nat.zero_le _) _ _ _ _) ?_
      rintro _ w7 _ ⟨rfl, hw7, rfl⟩
      rw [hw7]
      show qG none (d + 1) 281 25 [(2, 95), (0, m), (0, t), (0, y), (9, 0)] [(0, isInV (y) (0) (99))] w 142 Q9
      refine qG.br (P := isInV (y) (0) (99) = 0) (pc1 := 38) (pc2 := 28) (st1 := []) rfl (fun h3 => ?_) (fun h3 => ?_)
      · skip
        rw [isIn_b] at h3
        refine qG.blk 1 (pc' := 39) (ls' := [(2, 95), (0, m), (0, t), (0, y), (9, 0)]) (st' := [(0, 0)]) (w' := w) (n' := 142) rfl ?_
        refine qG.ret rfl (by first | rfl | exact decide_eq_true (by omega)) ?_
        subst hQ9
        refine ⟨rfl, ?_⟩; first | exact .inl ⟨by unfold wasC; omega, rfl, rfl⟩ | exact .inr ⟨by unfold wasC; omega, .inl ⟨⟨k, by omega, hq1, hq2, hq3⟩, rfl, rfl⟩⟩ | exact .inr ⟨by unfold wasC; omega, .inr ⟨(fun z => by obtain ⟨i, hi, z⟩ := z; exact hI43.2 i (by omega) z), rfl, rfl⟩⟩
      · skip
        rw [isIn_p] at h3
        refine qG.blk 2 (pc' := 32) (ls' := [(2, 95), (0, m), (0, t), (0, y), (9, 0)]) (st' := [(0, w 95 56)]) (w' := w) (n' := 142) rfl ?_
        rw [show w 95 56 = ((n : Nat) : Int) from hn]
        refine qG.blk 1 (pc' := 35) (ls' := [(2, 95), (0, m), (0, t), (0, y), (9, 0)]) (st' := [(0, 200), (0, ((n : Nat) : Int))]) (w' := w) (n' := 142) rfl ?_
        refine qG.br (P := ((n : Nat) : Int) = 200) (pc1 := 38) (pc2 := 40) (st1 := []) rfl (fun h4 => ?_) (fun h4 => ?_)
        · skip
          refine qG.blk 1 (pc' := 39) (ls' := [(2, 95), (0, m), (0, t), (0, y), (9, 0)]) (st' := [(0, 0)]) (w' := w) (n' := 142) rfl ?_
          refine qG.ret rfl (by first | rfl | exact decide_eq_true (by omega)) ?_
          subst hQ9
          refine ⟨rfl, ?_⟩; first | exact .inl ⟨by unfold wasC; omega, rfl, rfl⟩ | exact .inr ⟨by unfold wasC; omega, .inl ⟨⟨k, by omega, hq1, hq2, hq3⟩, rfl, rfl⟩⟩ | exact .inr ⟨by unfold wasC; omega, .inr ⟨(fun z => by obtain ⟨i, hi, z⟩ := z; exact hI43.2 i (by omega) z), rfl, rfl⟩⟩
        · skip
          refine qG.blk 2 (pc' := 43) (ls' := [(2, 95), (0, m), (0, t), (0, y), (0, 0)]) (st' := []) (w' := w) (n' := 142) rfl ?_
          have L43 : ∀ (m9 : Nat) (k : Nat), n - k = m9 → (k ≤ n ∧ ∀ i : Nat, i < k → ¬ (w 129 i = m ∧ w 130 i = t ∧ w 131 i = y)) → qG none (d + 1) 281 43 [(2, 95), (0, m), (0, t), (0, y), (0, ((k : Nat) : Int))] [] w 142 Q9 := by
            intro m9
            induction m9 using Nat.strongRecOn with
            | ind m9 ih43 =>
            intro k hm43 hI43
            refine qG.blk 3 (pc' := 49) (ls' := [(2, 95), (0, m), (0, t), (0, y), (0, ((k : Nat) : Int))]) (st' := [(0, w 95 56), (0, ((k : Nat) : Int))]) (w' := w) (n' := 142) rfl ?_
            rw [show w 95 56 = ((n : Nat) : Int) from hn]
            refine qG.br (P := ((k : Nat) : Int) < ((n : Nat) : Int)) (pc1 := 52) (pc2 := 93) (st1 := []) rfl (fun h5 => ?_) (fun h5 => ?_)
            · skip
              refine qG.blk 2 (pc' := 56) (ls' := [(2, 95), (0, m), (0, t), (0, y), (0, ((k : Nat) : Int))]) (st' := [(2, w 95 62)]) (w' := w) (n' := 142) rfl ?_
              rw [show w 95 62 = 129 from zref hI rfl rfl]
              refine qG.blk 1 (pc' := 58) (ls' := [(2, 95), (0, m), (0, t), (0, y), (0, ((k : Nat) : Int))]) (st' := [(0, ((k : Nat) : Int)), (2, 129)]) (w' := w) (n' := 142) rfl ?_
              refine qG.ild (m := 200) rfl rfl (by omega) (by decide) ?_
              show qG none (d + 1) 281 59 [(2, 95), (0, m), (0, t), (0, y), (0, ((k : Nat) : Int))] [(0, w 129 k)] w 142 Q9
              refine qG.blk 1 (pc' := 60) (ls' := [(2, 95), (0, m), (0, t), (0, y), (0, ((k : Nat) : Int))]) (st' := [(0, m), (0, w 129 k)]) (w' := w) (n' := 142) rfl ?_
              refine qG.br (P := w 129 k = m) (pc1 := 63) (pc2 := 87) (st1 := []) rfl (fun hq1 => ?_) (fun hq1 => ?_)
              · skip
                refine qG.blk 2 (pc' := 67) (ls' := [(2, 95), (0, m), (0, t), (0, y), (0, ((k : Nat) : Int))]) (st' := [(2, w 95 63)]) (w' := w) (n' := 142) rfl ?_
                rw [show w 95 63 = 130 from zref hI rfl rfl]
                refine qG.blk 1 (pc' := 69) (ls' := [(2, 95), (0, m), (0, t), (0, y), (0, ((k : Nat) : Int))]) (st' := [(0, ((k : Nat) : Int)), (2, 130)]) (w' := w) (n' := 142) rfl ?_
                refine qG.ild (m := 200) rfl rfl (by omega) (by decide) ?_
                show qG none (d + 1) 281 70 [(2, 95), (0, m), (0, t), (0, y), (0, ((k : Nat) : Int))] [(0, w 130 k)] w 142 Q9
                refine qG.blk 1 (pc' := 71) (ls' := [(2, 95), (0, m), (0, t), (0, y), (0, ((k : Nat) : Int))]) (st' := [(0, t), (0, w 130 k)]) (w' := w) (n' := 142) rfl ?_
                refine qG.br (P := w 130 k = t) (pc1 := 74) (pc2 := 87) (st1 := []) rfl (fun hq2 => ?_) (fun hq2 => ?_)
                · skip
                  refine qG.blk 2 (pc' := 78) (ls' := [(2, 95), (0, m), (0, t), (0, y), (0, ((k : Nat) : Int))]) (st' := [(2, w 95 64)]) (w' := w) (n' := 142) rfl ?_
                  rw [show w 95 64 = 131 from zref hI rfl rfl]
                  refine qG.blk 1 (pc' := 80) (ls' := [(2, 95), (0, m), (0, t), (0, y), (0, ((k : Nat) : Int))]) (st' := [(0, ((k : Nat) : Int)), (2, 131)]) (w' := w) (n' := 142) rfl ?_
                  refine qG.ild (m := 200) rfl rfl (by omega) (by decide) ?_
                  show qG none (d + 1) 281 81 [(2, 95), (0, m), (0, t), (0, y), (0, ((k : Nat) : Int))] [(0, w 131 k)] w 142 Q9
                  refine qG.blk 1 (pc' := 82) (ls' := [(2, 95), (0, m), (0, t), (0, y), (0, ((k : Nat) : Int))]) (st' := [(0, y), (0, w 131 k)]) (w' := w) (n' := 142) rfl ?_
                  refine qG.br (P := w 131 k = y) (pc1 := 85) (pc2 := 87) (st1 := []) rfl (fun hq3 => ?_) (fun hq3 => ?_)
                  · skip
                    refine qG.blk 1 (pc' := 86) (ls' := [(2, 95), (0, m), (0, t), (0, y), (0, ((k : Nat) : Int))]) (st' := [(0, 0)]) (w' := w) (n' := 142) rfl ?_
                    refine qG.ret rfl (by first | rfl | exact decide_eq_true (by omega)) ?_
                    subst hQ9
                    refine ⟨rfl, ?_⟩; first | exact .inl ⟨by unfold wasC; omega, rfl, rfl⟩ | exact .inr ⟨by unfold wasC; omega, .inl ⟨⟨k, by omega, hq1, hq2, hq3⟩, rfl, rfl⟩⟩ | exact .inr ⟨by unfold wasC; omega, .inr ⟨(fun z => by obtain ⟨i, hi, z⟩ := z; exact hI43.2 i (by omega) z), rfl, rfl⟩⟩
                  · skip
                    refine qG.blk 1 (pc' := 90) (ls' := [(2, 95), (0, m), (0, t), (0, y), (0, wrp (((k : Nat) : Int) + 1))]) (st' := []) (w' := w) (n' := 142) rfl ?_
                    rw [show wrp (((k : Nat) : Int) + 1) = ((k + 1 : Nat) : Int) from wrp_id (by omega) (by omega)]
                    refine qG.blk 1 (pc' := 43) (ls' := [(2, 95), (0, m), (0, t), (0, y), (0, ((k + 1 : Nat) : Int))]) (st' := []) (w' := w) (n' := 142) rfl ?_
                    exact ih43 _ (by omega) (k + 1) rfl (⟨by omega, fun i hi z => (by by_cases e : i = k; (subst e; first | exact hq1 z.1 | exact hq2 z.2.1 | exact hq3 z.2.2); exact hI43.2 i (by omega) z)⟩)
                · skip
                  refine qG.blk 1 (pc' := 90) (ls' := [(2, 95), (0, m), (0, t), (0, y), (0, wrp (((k : Nat) : Int) + 1))]) (st' := []) (w' := w) (n' := 142) rfl ?_
                  rw [show wrp (((k : Nat) : Int) + 1) = ((k + 1 : Nat) : Int) from wrp_id (by omega) (by omega)]
                  refine qG.blk 1 (pc' := 43) (ls' := [(2, 95), (0, m), (0, t), (0, y), (0, ((k + 1 : Nat) : Int))]) (st' := []) (w' := w) (n' := 142) rfl ?_
                  exact ih43 _ (by omega) (k + 1) rfl (⟨by omega, fun i hi z => (by by_cases e : i = k; (subst e; first | exact hq1 z.1 | exact hq2 z.2.1 | exact hq3 z.2.2); exact hI43.2 i (by omega) z)⟩)
              · skip
                refine qG.blk 1 (pc' := 90) (ls' := [(2, 95), (0, m), (0, t), (0, y), (0, wrp (((k : Nat) : Int) + 1))]) (st' := []) (w' := w) (n' := 142) rfl ?_
                rw [show wrp (((k : Nat) : Int) + 1) = ((k + 1 : Nat) : Int) from wrp_id (by omega) (by omega)]
                refine qG.blk 1 (pc' := 43) (ls' := [(2, 95), (0, m), (0, t), (0, y), (0, ((k + 1 : Nat) : Int))]) (st' := []) (w' := w) (n' := 142) rfl ?_
                exact ih43 _ (by omega) (k + 1) rfl (⟨by omega, fun i hi z => (by by_cases e : i = k; (subst e; first | exact hq1 z.1 | exact hq2 z.2.1 | exact hq3 z.2.2); exact hI43.2 i (by omega) z)⟩)
            · skip
              refine qG.blk 2 (pc' := 97) (ls' := [(2, 95), (0, m), (0, t), (0, y), (0, ((k : Nat) : Int))]) (st' := [(2, w 95 62)]) (w' := w) (n' := 142) rfl ?_
              rw [show w 95 62 = 129 from zref hI rfl rfl]
              refine qG.blk 2 (pc' := 101) (ls' := [(2, 95), (0, m), (0, t), (0, y), (0, ((k : Nat) : Int))]) (st' := [(0, w 95 56), (2, 129)]) (w' := w) (n' := 142) rfl ?_
              rw [show w 95 56 = ((n : Nat) : Int) from hn]
              refine qG.blk 1 (pc' := 102) (ls' := [(2, 95), (0, m), (0, t), (0, y), (0, ((k : Nat) : Int))]) (st' := [(0, m), (0, ((n : Nat) : Int)), (2, 129)]) (w' := w) (n' := 142) rfl ?_
              refine qG.ist (m := 200) rfl rfl (by omega) (by decide) ?_
              show qG none (d + 1) 281 103 [(2, 95), (0, m), (0, t), (0, y), (0, ((k : Nat) : Int))] [] (qup w 129 n m) 142 Q9
              refine qG.blk 2 (pc' := 107) (ls' := [(2, 95), (0, m), (0, t), (0, y), (0, ((k : Nat) : Int))]) (st' := [(2, w 95 63)]) (w' := (qup w 129 n m)) (n' := 142) rfl ?_
              rw [show w 95 63 = 130 from zref hI rfl rfl]
              refine qG.blk 2 (pc' := 111) (ls' := [(2, 95), (0, m), (0, t), (0, y), (0, ((k : Nat) : Int))]) (st' := [(0, w 95 56), (2, 130)]) (w' := (qup w 129 n m)) (n' := 142) rfl ?_
              rw [show w 95 56 = ((n : Nat) : Int) from hn]
              refine qG.blk 1 (pc' := 112) (ls' := [(2, 95), (0, m), (0, t), (0, y), (0, ((k : Nat) : Int))]) (st' := [(0, t), (0, ((n : Nat) : Int)), (2, 130)]) (w' := (qup w 129 n m)) (n' := 142) rfl ?_
              refine qG.ist (m := 200) rfl rfl (by omega) (by decide) ?_
              show qG none (d + 1) 281 113 [(2, 95), (0, m), (0, t), (0, y), (0, ((k : Nat) : Int))] [] (qup (qup w 129 n m) 130 n t) 142 Q9
              refine qG.blk 2 (pc' := 117) (ls' := [(2, 95), (0, m), (0, t), (0, y), (0, ((k : Nat) : Int))]) (st' := [(2, w 95 64)]) (w' := (qup (qup w 129 n m) 130 n t)) (n' := 142) rfl ?_
              rw [show w 95 64 = 131 from zref hI rfl rfl]
              refine qG.blk 2 (pc' := 121) (ls' := [(2, 95), (0, m), (0, t), (0, y), (0, ((k : Nat) : Int))]) (st' := [(0, w 95 56), (2, 131)]) (w' := (qup (qup w 129 n m) 130 n t)) (n' := 142) rfl ?_
              rw [show w 95 56 = ((n : Nat) : Int) from hn]
              refine qG.blk 1 (pc' := 122) (ls' := [(2, 95), (0, m), (0, t), (0, y), (0, ((k : Nat) : Int))]) (st' := [(0, y), (0, ((n : Nat) : Int)), (2, 131)]) (w' := (qup (qup w 129 n m) 130 n t)) (n' := 142) rfl ?_
              refine qG.ist (m := 200) rfl rfl (by omega) (by decide) ?_
              show qG none (d + 1) 281 123 [(2, 95), (0, m), (0, t), (0, y), (0, ((k : Nat) : Int))] [] (qup (qup (qup w 129 n m) 130 n t) 131 n y) 142 Q9
              refine qG.blk 3 (pc' := 128) (ls' := [(2, 95), (0, m), (0, t), (0, y), (0, ((k : Nat) : Int))]) (st' := [(0, w 95 56), (2, 95)]) (w' := (qup (qup (qup w 129 n m) 130 n t) 131 n y)) (n' := 142) rfl ?_
              rw [show w 95 56 = ((n : Nat) : Int) from hn]
              refine qG.blk 2 (pc' := 130) (ls' := [(2, 95), (0, m), (0, t), (0, y), (0, ((k : Nat) : Int))]) (st' := [(0, wrp (((n : Nat) : Int) + 1)), (2, 95)]) (w' := (qup (qup (qup w 129 n m) 130 n t) 131 n y)) (n' := 142) rfl ?_
              rw [show wrp (((n : Nat) : Int) + 1) = ((n + 1 : Nat) : Int) from by rw [wrp_id (by omega) (by omega)]; omega]
              refine qG.blk 2 (pc' := 134) (ls' := [(2, 95), (0, m), (0, t), (0, y), (0, ((k : Nat) : Int))]) (st' := [(0, 1)]) (w' := (qup (qup (qup (qup w 129 n m) 130 n t) 131 n y) 95 56 ((n + 1 : Nat) : Int))) (n' := 142) rfl ?_
              refine qG.ret rfl (by first | rfl | exact decide_eq_true (by omega)) ?_
              subst hQ9
              refine ⟨rfl, ?_⟩; first | exact .inl ⟨by unfold wasC; omega, rfl, rfl⟩ | exact .inr ⟨by unfold wasC; omega, .inl ⟨⟨k, by omega, hq1, hq2, hq3⟩, rfl, rfl⟩⟩ | exact .inr ⟨by unfold wasC; omega, .inr ⟨(fun z => by obtain ⟨i, hi, z⟩ := z; exact hI43.2 i (by omega) z), rfl, rfl⟩⟩
          exact L43 _ (0) rfl (⟨by omega, fun i hi => absurd hi (Nat.not_lt_zero i)⟩)
def JT (w : qW) : Prop := w 45 6 = w 95 56 ∧ ∀ m t y : Nat, m < 12 → t < 10 → y < 100 → (hbit (w 50 (m * 100 + y)) t = true ↔ ∃ k : Nat, (k : Int) < w 95 56 ∧ w 129 k = (m : Int) ∧ w 130 k = (t : Int) ∧ w 131 k = (y : Int))
theorem JT.fr {w w2 : qW} (h : JT w) (a : w2 45 6 = w 45 6) (b : w2 95 56 = w 95 56) (c : ∀ k, w2 50 k = w 50 k) (d1 : ∀ k, w2 129 k = w 129 k) (d2 : ∀ k, w2 130 k = w 130 k) (d3 : ∀ k, w2 131 k = w 131 k) : JT w2 := by
  refine ⟨by rw [a, b]; exact h.1, fun m t y hm ht hy => ?_⟩
  rw [c, b, h.2 m t y hm ht hy]
  constructor
  · rintro ⟨k, z1, z2, z3, z4⟩
    exact ⟨k, z1, by rw [d1]; exact z2, by rw [d2]; exact z3, by rw [d3]; exact z4⟩
  · rintro ⟨k, z1, z2, z3, z4⟩
    exact ⟨k, z1, by rw [← d1]; exact z2, by rw [← d2]; exact z3, by rw [← d3]; exact z4⟩
def JS (w : qW) : Prop := JN w ∧ JT w
def jsM (m : List Nat) : Bool := jnM m && (spo m 50 && (spo m 129 && (spo m 130 && (spo m 131 && (!ymo 45 6 m && !ymo 95 56 m)))))
theorem JS.aw {m : List Nat} {w w1 : qW} (h : JS w) (a : AW m w w1) (hm : jsM m = true) : JS w1 := by
  unfold jsM at hm
  simp only [Bool.and_eq_true, Bool.not_eq_true'] at hm
  obtain ⟨m0, m1, m2, m3, m4, m5, m6⟩ := hm
  exact ⟨h.1.aw a m0, h.2.fr (a.2 45 6 (fun _ => m5)) (a.2 95 56 (fun _ => m6)) (fun k => a.a (by decide) m1 k) (fun k => a.a (by decide) m2 k) (fun k => a.a (by decide) m3 k) (fun k => a.a (by decide) m4 k)⟩
theorem JS.master {w w1 w2 : qW} {s g a b : Int} {n : Nat} {r r2 : qV} (h : JS w) (hX : masE 45 0 46 47 48 [46, 47, 48] s g a b n w r w1) (hR : masE 95 55 125 126 127 [125, 126, 127, 128] s g a b n w1 r2 w2) : JS w2 ∧ r = r2 := by
  have q := JN.master h.1 hX hR
  refine ⟨⟨q.1, ?_⟩, q.2⟩
  have e1 : ∀ p k, p ∉ [45, 46, 47, 48] ∨ (p = 45 ∧ k = 6) → w1 p k = w p k := fun p k hp => by
    rcases hX with ⟨-, -, rfl⟩ | ⟨-, -, -, -, -, -, s1⟩
    · rfl
    · rcases hp with hp | ⟨rfl, rfl⟩
      · simp only [List.mem_cons, List.not_mem_nil, or_false, not_or] at hp
        exact s1 p k (by simp only [List.mem_cons, List.not_mem_nil, or_false, not_or]; exact hp.2) (fun z => hp.1 z.1)
      · exact s1 45 6 (by decide) (by decide)
  have e2 : ∀ p k, p ∉ [95, 125, 126, 127, 128] ∨ (p = 95 ∧ k = 56) → w2 p k = w1 p k := fun p k hp => by
    rcases hR with ⟨-, -, rfl⟩ | ⟨-, -, -, -, -, -, s1⟩
    · rfl
    · rcases hp with hp | ⟨rfl, rfl⟩
      · simp only [List.mem_cons, List.not_mem_nil, or_false, not_or] at hp
        exact s1 p k (by simp only [List.mem_cons, List.not_mem_nil, or_false, not_or]; exact hp.2) (fun z => hp.1 z.1)
      · exact s1 95 56 (by decide) (by decide)
  have e : ∀ p k, (p = 50 ∨ p = 129 ∨ p = 130 ∨ p = 131) → w2 p k = w p k := fun p k hp => by
    rcases hp with rfl | rfl | rfl | rfl <;> exact (e2 _ k (.inl (by decide))).trans (e1 _ k (.inl (by decide)))
  exact h.2.fr ((e2 45 6 (.inl (by decide))).trans (e1 45 6 (.inr ⟨rfl, rfl⟩))) ((e2 95 56 (.inr ⟨rfl, rfl⟩)).trans (e1 95 56 (.inl (by decide)))) (fun k => e 50 k (.inl rfl)) (fun k => e 129 k (.inr (.inl rfl))) (fun k => e 130 k (.inr (.inr (.inl rfl)))) (fun k => e 131 k (.inr (.inr (.inr rfl))))
theorem JS.night {w w1 w2 : qW} {y t g e a : Int} {n : Nat} {r r2 : qV} (h : JS w) (hX : nigE 45 7 51 52 53 54 55 y t g e a n w r w1) (hR : nigE 95 57 132 133 134 135 136 y t g e a n w1 r2 w2) : JS w2 ∧ r = r2 := by
  have q := JN.night h.1 hX hR
  refine ⟨⟨q.1, ?_⟩, q.2⟩
  have e1 : ∀ p k, p ∉ [45, 51, 52, 53, 54, 55] ∨ (p = 45 ∧ k = 6) → w1 p k = w p k := fun p k hp => by
    rcases hX with ⟨-, -, rfl⟩ | ⟨-, -, -, -, -, -, -, -, s1⟩
    · rfl
    · rcases hp with hp | ⟨rfl, rfl⟩
      · simp only [List.mem_cons, List.not_mem_nil, or_false, not_or] at hp
        exact s1 p k (by simp only [List.mem_cons, List.not_mem_nil, or_false, not_or]; exact hp.2) (fun z => hp.1 z.1)
      · exact s1 45 6 (by decide) (by decide)
  have e2 : ∀ p k, p ∉ [95, 132, 133, 134, 135, 136] ∨ (p = 95 ∧ k = 56) → w2 p k = w1 p k := fun p k hp => by
    rcases hR with ⟨-, -, rfl⟩ | ⟨-, -, -, -, -, -, -, -, s1⟩
    · rfl
    · rcases hp with hp | ⟨rfl, rfl⟩
      · simp only [List.mem_cons, List.not_mem_nil, or_false, not_or] at hp
        exact s1 p k (by simp only [List.mem_cons, List.not_mem_nil, or_false, not_or]; exact hp.2) (fun z => hp.1 z.1)
      · exact s1 95 56 (by decide) (by decide)
  have e : ∀ p k, (p = 50 ∨ p = 129 ∨ p = 130 ∨ p = 131) → w2 p k = w p k := fun p k hp => by
    rcases hp with rfl | rfl | rfl | rfl <;> exact (e2 _ k (.inl (by decide))).trans (e1 _ k (.inl (by decide)))
  exact h.2.fr ((e2 45 6 (.inl (by decide))).trans (e1 45 6 (.inr ⟨rfl, rfl⟩))) ((e2 95 56 (.inr ⟨rfl, rfl⟩)).trans (e1 95 56 (.inl (by decide)))) (fun k => e 50 k (.inl rfl)) (fun k => e 129 k (.inr (.inl rfl))) (fun k => e 130 k (.inr (.inr (.inl rfl)))) (fun k => e 131 k (.inr (.inr (.inr rfl))))
theorem JT.was {w w1 w2 : qW} {m t y : Int} {n : Nat} {r r2 : qV} (hM : w 45 0 = w 95 55) (h12 : w 45 0 ≤ 12) (h : JT w) (hn : w 45 6 = (n : Int)) (hX : wasX m t y n w r w1) (hR : wasR m t y n w1 r2 w2) : JT w2 ∧ r = r2 := by
  have hT : w 95 56 = (n : Int) := h.1.symm.trans hn
  -- what was told is the same on both sides
  have key : ∀ m9 t9 y9 : Nat, m = (m9 : Int) → t = (t9 : Int) → y = (y9 : Int) → wasC m t y (w 45 0) n → (hbit (w 50 (m9 * 100 + y9)) t9 = true ↔ wasK m t y n w) := by
    rintro m9 t9 y9 rfl rfl rfl c
    unfold wasC at c
    rw [h.2 m9 t9 y9 (by omega) (by omega) (by omega), hT]
    constructor
    · rintro ⟨k, z1, z2⟩; exact ⟨k, by omega, z2⟩
    · rintro ⟨k, z1, z2⟩; exact ⟨k, by omega, z2⟩
  rcases hX with ⟨c1, rfl, rfl⟩ | ⟨c1, m9, t9, y9, em, et, ey, ⟨b1, rfl, rfl⟩ | ⟨b1, rfl, rfl⟩⟩
  · rcases hR with ⟨c2, rfl, rfl⟩ | ⟨c2, -⟩
    · exact ⟨h, rfl⟩
    · rw [← hM] at c2; exact absurd c2 c1
  · rcases hR with ⟨c2, rfl, rfl⟩ | ⟨c2, ⟨b2, rfl, rfl⟩ | ⟨b2, rfl, rfl⟩⟩
    · exact ⟨h, rfl⟩
    · exact ⟨h, rfl⟩
    · exact absurd ((key m9 t9 y9 em et ey c1).mp b1) b2
  · have hK : ∀ j, qup (qup w 50 (m9 * 100 + y9) (qor (w 50 (m9 * 100 + y9)) (qshl 1 ((t9 : Nat) : Int)))) 45 6 ((n + 1 : Nat) : Int) 129 j = w 129 j ∧ qup (qup w 50 (m9 * 100 + y9) (qor (w 50 (m9 * 100 + y9)) (qshl 1 ((t9 : Nat) : Int)))) 45 6 ((n + 1 : Nat) : Int) 130 j = w 130 j ∧ qup (qup w 50 (m9 * 100 + y9) (qor (w 50 (m9 * 100 + y9)) (qshl 1 ((t9 : Nat) : Int)))) 45 6 ((n + 1 : Nat) : Int) 131 j = w 131 j := fun j => by
      refine ⟨?_, ?_, ?_⟩ <;> simp (disch := decide) only [qup_ne]
    have h55 : qup (qup w 50 (m9 * 100 + y9) (qor (w 50 (m9 * 100 + y9)) (qshl 1 ((t9 : Nat) : Int)))) 45 6 ((n + 1 : Nat) : Int) 95 55 = w 95 55 := by simp (disch := decide) only [qup_ne]
    have hnk : ¬ wasK m t y n w := fun z => b1 ((key m9 t9 y9 em et ey c1).mpr z)
    rcases hR with ⟨c2, rfl, rfl⟩ | ⟨c2, ⟨b2, rfl, rfl⟩ | ⟨b2, rfl, ew⟩⟩
    · rw [h55, ← hM] at c2; exact absurd c1 c2
    · obtain ⟨k, z1, z2, z3, z4⟩ := b2
      rw [(hK k).1] at z2
      rw [(hK k).2.1] at z3
      rw [(hK k).2.2] at z4
      exact absurd ⟨k, z1, z2, z3, z4⟩ hnk
    · have g50 : ∀ k, w2 50 k = if k = m9 * 100 + y9 then qor (w 50 (m9 * 100 + y9)) (qshl 1 ((t9 : Nat) : Int)) else w 50 k := fun k => by rw [ew]; simp (disch := decide) only [qup_ne, qup_if]
      have q1 : ∀ k, w2 129 k = if k = n then m else w 129 k := fun k => by rw [ew]; simp (disch := decide) only [qup_ne, qup_if]
      have q2 : ∀ k, w2 130 k = if k = n then t else w 130 k := fun k => by rw [ew]; simp (disch := decide) only [qup_ne, qup_if]
      have q3 : ∀ k, w2 131 k = if k = n then y else w 131 k := fun k => by rw [ew]; simp (disch := decide) only [qup_ne, qup_if]
      have g95 : w2 95 56 = ((n + 1 : Nat) : Int) := by rw [ew]; exact qup_k
      have g45 : w2 45 6 = ((n + 1 : Nat) : Int) := by rw [ew]; simp (disch := decide) only [qup_ne, qup_k]
      refine ⟨⟨g45.trans g95.symm, fun m' t' y' hm' ht' hy' => ?_⟩, rfl⟩
      unfold wasC at c1
      have old := h.2 m' t' y' hm' ht' hy'
      rw [hT] at old
      have lhs : hbit (w2 50 (m' * 100 + y')) t' = true ↔ (hbit (w 50 (m' * 100 + y')) t' = true ∨ (m' = m9 ∧ y' = y9 ∧ t' = t9)) := by
        rw [g50]
        by_cases e : m' * 100 + y' = m9 * 100 + y9
        · have e1 : m' = m9 := by omega
          have e2 : y' = y9 := by omega
          rw [if_pos e, hbit_or (by omega), hbit_1 t9 (by omega) t' (by omega), Bool.or_eq_true, decide_eq_true_eq, e1, e2]
          constructor
          · rintro (z | z)
            · exact .inl z
            · exact .inr ⟨rfl, rfl, z.symm⟩
          · rintro (z | z)
            · exact .inl z
            · exact .inr z.2.2.symm
        · rw [if_neg e]
          constructor
          · exact .inl
          · rintro (z | ⟨z1, z2, -⟩)
            · exact z
            · exact absurd (by rw [z1, z2]) e
      refine lhs.trans ?_
      rw [old, g95]
      constructor
      · rintro (⟨k, z1, z2, z3, z4⟩ | ⟨z1, z2, z3⟩)
        · exact ⟨k, by omega, by rw [q1, if_neg (by omega)]; exact z2, by rw [q2, if_neg (by omega)]; exact z3, by rw [q3, if_neg (by omega)]; exact z4⟩
        · exact ⟨n, by omega, by rw [q1, if_pos rfl]; omega, by rw [q2, if_pos rfl]; omega, by rw [q3, if_pos rfl]; omega⟩
      · rintro ⟨k, z1, z2, z3, z4⟩
        rw [q1] at z2
        rw [q2] at z3
        rw [q3] at z4
        by_cases e : k = n
        · rw [if_pos e] at z2 z3 z4
          exact .inr ⟨by omega, by omega, by omega⟩
        · rw [if_neg e] at z2 z3 z4
          exact .inl ⟨k, by omega, z2, z3, z4⟩
theorem JS.was {w w1 w2 : qW} {m t y : Int} {n : Nat} {r r2 : qV} {m1 m2 : List Nat} (h12 : w 45 0 ≤ 12) (hn : w 45 6 = (n : Int)) (h : JS w) (hX : wasX m t y n w r w1) (a1 : AW m1 w w1) (hm1 : jnM m1 = true) (hR : wasR m t y n w1 r2 w2) (a2 : AW m2 w1 w2) (hm2 : jnM m2 = true) : JS w2 ∧ r = r2 := by
  have q := JT.was h.1.1 h12 h.2 hn hX hR
  exact ⟨⟨(h.1.aw a1 hm1).aw a2 hm2, q.1⟩, q.2⟩
