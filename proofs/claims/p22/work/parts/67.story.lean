/-! the reference's writers exactly: many, isAhead, copied, story -/
theorem K_many {d : Nat} (hd : 0 ≤ d) (v : Int) (w : qW) : qG none d 293 0 [(0, v), (9, 0), (9, 0)] [] w 142 (fun (r : qV) (w1 : qW) (n1 : Nat) => r = (0, bitsF v 30) ∧ w1 = w ∧ n1 = 142) := by
  generalize hQ9 : (fun (r : qV) (w1 : qW) (n1 : Nat) => r = (0, bitsF v 30) ∧ w1 = w ∧ n1 = 142) = Q9
  refine qG.blk 4 (pc' := 4) (ls' := [(0, v), (0, 0), (0, 0)]) (st' := []) (w' := w) (n' := 142) rfl ?_
  have L4 : ∀ (m9 : Nat) (j : Nat), 30 - j = m9 → (j ≤ 30) → qG none d 293 4 [(0, v), (0, bitsF v j), (0, ((j : Nat) : Int))] [] w 142 Q9 := by
    intro m9
    induction m9 using Nat.strongRecOn with
    | ind m9 ih4 =>
    intro j hm4 hI4
    have hb := bitsF_in v j
    have hq := qand_1 (qshr v (j : Int))
    refine qG.blk 2 (pc' := 7) (ls' := [(0, v), (0, bitsF v j), (0, ((j : Nat) : Int))]) (st' := [(0, 30), (0, ((j : Nat) : Int))]) (w' := w) (n' := 142) rfl ?_
    refine qG.br (P := ((j : Nat) : Int) < 30) (pc1 := 10) (pc2 := 24) (st1 := []) rfl (fun h1 => ?_) (fun h1 => ?_)
    · skip
      refine qG.blk 7 (pc' := 17) (ls' := [(0, v), (0, bitsF v j), (0, ((j : Nat) : Int))]) (st' := [(0, wrp ((bitsF v j) + (qand (qshr v ((j : Nat) : Int)) 1)))]) (w' := w) (n' := 142) rfl ?_
      rw [show wrp ((bitsF v j) + (qand (qshr v ((j : Nat) : Int)) 1)) = (bitsF v j) + (qand (qshr v ((j : Nat) : Int)) 1) from wrp_id (by omega) (by omega)]
      refine qG.blk 2 (pc' := 21) (ls' := [(0, v), (0, (bitsF v j) + (qand (qshr v ((j : Nat) : Int)) 1)), (0, wrp (((j : Nat) : Int) + 1))]) (st' := []) (w' := w) (n' := 142) rfl ?_
      rw [show wrp (((j : Nat) : Int) + 1) = ((j + 1 : Nat) : Int) from wrp_id (by omega) (by omega)]
      refine qG.blk 1 (pc' := 4) (ls' := [(0, v), (0, (bitsF v j) + (qand (qshr v ((j : Nat) : Int)) 1)), (0, ((j + 1 : Nat) : Int))]) (st' := []) (w' := w) (n' := 142) rfl ?_
      exact ih4 _ (by omega) (j + 1) rfl (by omega)
    · skip
      refine qG.blk 1 (pc' := 25) (ls' := [(0, v), (0, bitsF v j), (0, ((j : Nat) : Int))]) (st' := [(0, bitsF v j)]) (w' := w) (n' := 142) rfl ?_
      refine qG.ret rfl rfl ?_
      subst hQ9
      exact ⟨by rw [show j = 30 by omega], rfl, rfl⟩
  exact L4 _ (0) rfl (by omega)
noncomputable def ahB (w : qW) (a b : Nat) : Bool := decide (w 141 a < w 141 b ∨ (w 141 a = w 141 b ∧ a < b))
theorem ahB_y {w : qW} {a b : Nat} (h : w 141 a < w 141 b ∨ (w 141 a = w 141 b ∧ a < b)) : ahB w a b = true := decide_eq_true h
theorem ahB_n {w : qW} {a b : Nat} (h : ¬ (w 141 a < w 141 b ∨ (w 141 a = w 141 b ∧ a < b))) : ¬ ahB w a b = true := fun z => h (of_decide_eq_true z)
theorem K_isAhead {d : Nat} (hd : 0 ≤ d) (a b : Nat) (ha : a < 20) (hb : b < 20) (w : qW) (hI : yInv zgf zga zra zSp w) : qG none d 296 0 [(2, 95), (0, ((a : Nat) : Int)), (0, ((b : Nat) : Int))] [] w 142 (fun (r : qV) (w1 : qW) (n1 : Nat) => r = (0, if ahB w a b = true then 1 else 0) ∧ w1 = w ∧ n1 = 142) := by
  generalize hQ9 : (fun (r : qV) (w1 : qW) (n1 : Nat) => r = (0, if ahB w a b = true then 1 else 0) ∧ w1 = w ∧ n1 = 142) = Q9
  refine qG.blk 2 (pc' := 4) (ls' := [(2, 95), (0, ((a : Nat) : Int)), (0, ((b : Nat) : Int))]) (st' := [(2, w 95 78)]) (w' := w) (n' := 142) rfl ?_
  rw [show w 95 78 = 141 from zref hI rfl rfl]
  refine qG.blk 1 (pc' := 5) (ls' := [(2, 95), (0, ((a : Nat) : Int)), (0, ((b : Nat) : Int))]) (st' := [(0, ((a : Nat) : Int)), (2, 141)]) (w' := w) (n' := 142) rfl ?_
  refine qG.ar (P := 0 ≤ ((a : Nat) : Int) ∧ ((a : Nat) : Int) < ((20 : Nat) : Int)) (P2 := 0 < (141 : Int) ∧ (141 : Int) ≤ ((142 : Nat) : Int)) (pc' := 6) (ls' := [(2, 95), (0, ((a : Nat) : Int)), (0, ((b : Nat) : Int))]) (st' := [(0, w 141 a)]) (w' := w) (n' := 142) rfl (by omega) (by decide) ?_
  refine qG.blk 2 (pc' := 10) (ls' := [(2, 95), (0, ((a : Nat) : Int)), (0, ((b : Nat) : Int))]) (st' := [(2, w 95 78), (0, w 141 a)]) (w' := w) (n' := 142) rfl ?_
  rw [show w 95 78 = 141 from zref hI rfl rfl]
  refine qG.blk 1 (pc' := 11) (ls' := [(2, 95), (0, ((a : Nat) : Int)), (0, ((b : Nat) : Int))]) (st' := [(0, ((b : Nat) : Int)), (2, 141), (0, w 141 a)]) (w' := w) (n' := 142) rfl ?_
  refine qG.ar (P := 0 ≤ ((b : Nat) : Int) ∧ ((b : Nat) : Int) < ((20 : Nat) : Int)) (P2 := 0 < (141 : Int) ∧ (141 : Int) ≤ ((142 : Nat) : Int)) (pc' := 12) (ls' := [(2, 95), (0, ((a : Nat) : Int)), (0, ((b : Nat) : Int))]) (st' := [(0, w 141 b), (0, w 141 a)]) (w' := w) (n' := 142) rfl (by omega) (by decide) ?_
  refine qG.br (P := w 141 a < w 141 b) (pc1 := 35) (pc2 := 15) (st1 := []) rfl (fun h1 => ?_) (fun h1 => ?_)
  · skip
    refine qG.blk 2 (pc' := 40) (ls' := [(2, 95), (0, ((a : Nat) : Int)), (0, ((b : Nat) : Int))]) (st' := [(0, 1)]) (w' := w) (n' := 142) rfl ?_
    refine qG.ret rfl (by first | rfl | exact decide_eq_true (by omega)) ?_
    subst hQ9
    exact ⟨by first | (rw [if_pos (ahB_y (by omega))]; done) | (rw [if_neg (ahB_n (by omega))]; done), rfl, rfl⟩
  · skip
    refine qG.blk 2 (pc' := 19) (ls' := [(2, 95), (0, ((a : Nat) : Int)), (0, ((b : Nat) : Int))]) (st' := [(2, w 95 78)]) (w' := w) (n' := 142) rfl ?_
    rw [show w 95 78 = 141 from zref hI rfl rfl]
    refine qG.blk 1 (pc' := 20) (ls' := [(2, 95), (0, ((a : Nat) : Int)), (0, ((b : Nat) : Int))]) (st' := [(0, ((a : Nat) : Int)), (2, 141)]) (w' := w) (n' := 142) rfl ?_
    refine qG.ar (P := 0 ≤ ((a : Nat) : Int) ∧ ((a : Nat) : Int) < ((20 : Nat) : Int)) (P2 := 0 < (141 : Int) ∧ (141 : Int) ≤ ((142 : Nat) : Int)) (pc' := 21) (ls' := [(2, 95), (0, ((a : Nat) : Int)), (0, ((b : Nat) : Int))]) (st' := [(0, w 141 a)]) (w' := w) (n' := 142) rfl (by omega) (by decide) ?_
    refine qG.blk 2 (pc' := 25) (ls' := [(2, 95), (0, ((a : Nat) : Int)), (0, ((b : Nat) : Int))]) (st' := [(2, w 95 78), (0, w 141 a)]) (w' := w) (n' := 142) rfl ?_
    rw [show w 95 78 = 141 from zref hI rfl rfl]
    refine qG.blk 1 (pc' := 26) (ls' := [(2, 95), (0, ((a : Nat) : Int)), (0, ((b : Nat) : Int))]) (st' := [(0, ((b : Nat) : Int)), (2, 141), (0, w 141 a)]) (w' := w) (n' := 142) rfl ?_
    refine qG.ar (P := 0 ≤ ((b : Nat) : Int) ∧ ((b : Nat) : Int) < ((20 : Nat) : Int)) (P2 := 0 < (141 : Int) ∧ (141 : Int) ≤ ((142 : Nat) : Int)) (pc' := 27) (ls' := [(2, 95), (0, ((a : Nat) : Int)), (0, ((b : Nat) : Int))]) (st' := [(0, w 141 b), (0, w 141 a)]) (w' := w) (n' := 142) rfl (by omega) (by decide) ?_
    refine qG.br (P := w 141 a = w 141 b) (pc1 := 30) (pc2 := 39) (st1 := []) rfl (fun h2 => ?_) (fun h2 => ?_)
    · skip
      refine qG.blk 2 (pc' := 32) (ls' := [(2, 95), (0, ((a : Nat) : Int)), (0, ((b : Nat) : Int))]) (st' := [(0, ((b : Nat) : Int)), (0, ((a : Nat) : Int))]) (w' := w) (n' := 142) rfl ?_
      refine qG.br (P := ((a : Nat) : Int) < ((b : Nat) : Int)) (pc1 := 35) (pc2 := 39) (st1 := []) rfl (fun h3 => ?_) (fun h3 => ?_)
      · skip
        refine qG.blk 2 (pc' := 40) (ls' := [(2, 95), (0, ((a : Nat) : Int)), (0, ((b : Nat) : Int))]) (st' := [(0, 1)]) (w' := w) (n' := 142) rfl ?_
        refine qG.ret rfl (by first | rfl | exact decide_eq_true (by omega)) ?_
        subst hQ9
        exact ⟨by first | (rw [if_pos (ahB_y (by omega))]; done) | (rw [if_neg (ahB_n (by omega))]; done), rfl, rfl⟩
      · skip
        refine qG.blk 1 (pc' := 40) (ls' := [(2, 95), (0, ((a : Nat) : Int)), (0, ((b : Nat) : Int))]) (st' := [(0, 0)]) (w' := w) (n' := 142) rfl ?_
        refine qG.ret rfl (by first | rfl | exact decide_eq_true (by omega)) ?_
        subst hQ9
        exact ⟨by first | (rw [if_pos (ahB_y (by omega))]; done) | (rw [if_neg (ahB_n (by omega))]; done), rfl, rfl⟩
    · skip
      refine qG.blk 1 (pc' := 40) (ls' := [(2, 95), (0, ((a : Nat) : Int)), (0, ((b : Nat) : Int))]) (st' := [(0, 0)]) (w' := w) (n' := 142) rfl ?_
      refine qG.ret rfl (by first | rfl | exact decide_eq_true (by omega)) ?_
      subst hQ9
      exact ⟨by first | (rw [if_pos (ahB_y (by omega))]; done) | (rw [if_neg (ahB_n (by omega))]; done), rfl, rfl⟩
/-- how many false claims o shares with x, if he is ahead of him -/
noncomputable def cmF (w : qW) (x q : Nat) : Int := if ahB w q x = true then bitsF (qand (qand (w 142 q) (w 142 x)) (qxor (w 95 77) (-1))) 30 else 0
/-- from whom x copied, as far as the first i writers go: whom, how many -/
noncomputable def cpS (w : qW) (x : Nat) : Nat → Int × Int
  | 0 => (-1, 0)
  | i + 1 => if cmF w x i = 0 then cpS w x i else if cmF w x i < (cpS w x i).2 then cpS w x i else if cmF w x i = (cpS w x i).2 ∧ ahB w i (cpS w x i).1.toNat = true then cpS w x i else ((i : Int), cmF w x i)
theorem cmF_in (w : qW) (x q : Nat) : 0 ≤ cmF w x q ∧ cmF w x q ≤ 30 := by
  have := bitsF_in (qand (qand (w 142 q) (w 142 x)) (qxor (w 95 77) (-1))) 30
  unfold cmF; split <;> omega
theorem cpS_in (w : qW) (x : Nat) : ∀ i, ((cpS w x i).1 = -1 ∧ (cpS w x i).2 = 0) ∨ (0 ≤ (cpS w x i).1 ∧ (cpS w x i).1 < i ∧ 1 ≤ (cpS w x i).2 ∧ (cpS w x i).2 ≤ 30 ∧ ahB w (cpS w x i).1.toNat x = true)
  | 0 => .inl ⟨rfl, rfl⟩
  | i + 1 => by
    have ih := cpS_in w x i
    have hc := cmF_in w x i
    have keep : ((cpS w x i).1 = -1 ∧ (cpS w x i).2 = 0) ∨ (0 ≤ (cpS w x i).1 ∧ (cpS w x i).1 < (i + 1 : Nat) ∧ 1 ≤ (cpS w x i).2 ∧ (cpS w x i).2 ≤ 30 ∧ ahB w (cpS w x i).1.toNat x = true) := by
      rcases ih with h | h
      · exact .inl h
      · exact .inr ⟨h.1, by omega, h.2.2⟩
    unfold cpS
    split
    · exact keep
    split
    · exact keep
    split
    · exact keep
    · rename_i h0 h1 h2
      refine .inr ⟨by show (0 : Int) ≤ (i : Int); omega, by show (i : Int) < ((i + 1 : Nat) : Int); omega, by show 1 ≤ cmF w x i; omega, hc.2, ?_⟩
      show ahB w ((i : Int)).toNat x = true
      rw [Int.toNat_natCast]
      unfold cmF at h0
      split at h0
      · assumption
      · exact absurd rfl h0
theorem cpS_s {w : qW} {x i : Nat} : cpS w x (i + 1) = if cmF w x i = 0 then cpS w x i else if cmF w x i < (cpS w x i).2 then cpS w x i else if cmF w x i = (cpS w x i).2 ∧ ahB w i (cpS w x i).1.toNat = true then cpS w x i else ((i : Int), cmF w x i) := rfl
noncomputable def cpF (w : qW) (x : Nat) : Int := (cpS w x (w 95 76).toNat).1
theorem K_copied {d : Nat} (hd : 1 ≤ d) (x : Nat) (hx : x < 20) (w : qW) (hI : yInv zgf zga zra zSp w) : qG none d 298 0 [(2, 95), (0, ((x : Nat) : Int)), (9, 0), (9, 0), (9, 0), (9, 0)] [] w 142 (fun (r : qV) (w1 : qW) (n1 : Nat) => r = (0, cpF w x) ∧ w1 = w ∧ n1 = 142) := by
  generalize hQ9 : (fun (r : qV) (w1 : qW) (n1 : Nat) => r = (0, cpF w x) ∧ w1 = w ∧ n1 = 142) = Q9
  have h76 := zfld hI (j := 76) (b := (0, 20)) rfl
  have a76 : (0 : Int) ≤ w 95 76 := h76.1
  have b76 : w 95 76 ≤ (20 : Int) := h76.2
  obtain ⟨d, rfl⟩ : ∃ d9, d = d9 + 1 := ⟨d - 1, by omega⟩
  refine qG.blk 6 (pc' := 7) (ls' := [(2, 95), (0, ((x : Nat) : Int)), (0, (-1)), (0, 0), (0, 0), (9, 0)]) (st' := []) (w' := w) (n' := 142) rfl ?_
  have L7 : ∀ (m9 : Nat) (i : Nat) (q5 : qV), (w 95 76).toNat - i = m9 → ((i : Int) ≤ w 95 76) → qG none (d + 1) 298 7 [(2, 95), (0, ((x : Nat) : Int)), (0, (cpS w x i).1), (0, (cpS w x i).2), (0, ((i : Nat) : Int)), q5] [] w 142 Q9 := by
    intro m9
    induction m9 using Nat.strongRecOn with
    | ind m9 ih7 =>
    intro i q5 hm7 hI7
    have hci := cmF_in w x i
    have hst := cpS_in w x i
    refine qG.blk 3 (pc' := 13) (ls' := [(2, 95), (0, ((x : Nat) : Int)), (0, (cpS w x i).1), (0, (cpS w x i).2), (0, ((i : Nat) : Int)), q5]) (st' := [(0, w 95 76), (0, ((i : Nat) : Int))]) (w' := w) (n' := 142) rfl ?_
    refine qG.br (P := ((i : Nat) : Int) < w 95 76) (pc1 := 16) (pc2 := 98) (st1 := []) rfl (fun h1 => ?_) (fun h1 => ?_)
    · skip
      refine qG.blk 3 (pc' := 20) (ls' := [(2, 95), (0, ((x : Nat) : Int)), (0, (cpS w x i).1), (0, (cpS w x i).2), (0, ((i : Nat) : Int)), q5]) (st' := [(0, ((x : Nat) : Int)), (0, ((i : Nat) : Int)), (2, 95)]) (w' := w) (n' := 142) rfl ?_
      refine qG.call (t := 296) (na := 3) (sk := 1) (md := 1) (ls1 := [(2, 95), (0, ((i : Nat) : Int)), (0, ((x : Nat) : Int))]) (r1 := []) rfl rfl rfl rfl rfl (K_isAhead (by omega) i x (by omega) hx w hI) ?_
      rintro _ w7 _ ⟨rfl, hw7, rfl⟩
      rw [hw7]
      show qG none (d + 1) 298 23 [(2, 95), (0, ((x : Nat) : Int)), (0, (cpS w x i).1), (0, (cpS w x i).2), (0, ((i : Nat) : Int)), q5] [(0, (if ahB w i x = true then 1 else 0))] w 142 Q9
      refine qG.br (P := (if ahB w i x = true then 1 else 0) = 0) (pc1 := 53) (pc2 := 26) (st1 := []) rfl (fun hah0 => ?_) (fun hah0 => ?_)
      · skip
        refine qG.blk 2 (pc' := 56) (ls' := [(2, 95), (0, ((x : Nat) : Int)), (0, (cpS w x i).1), (0, (cpS w x i).2), (0, ((i : Nat) : Int)), (0, 0)]) (st' := []) (w' := w) (n' := 142) rfl ?_
        have ecm : (0 : Int) = cmF w x i := by unfold cmF; first | (rw [if_pos (Decidable.of_not_not (fun z => hah0 (ite01.mpr z)))]; done) | (rw [if_neg (ite01.mp hah0)]; done)
        rw [ecm]
        refine qG.blk 1 (pc' := 58) (ls' := [(2, 95), (0, ((x : Nat) : Int)), (0, (cpS w x i).1), (0, (cpS w x i).2), (0, ((i : Nat) : Int)), (0, cmF w x i)]) (st' := [(0, cmF w x i)]) (w' := w) (n' := 142) rfl ?_
        refine qG.br (P := cmF w x i = 0) (pc1 := 92) (pc2 := 61) (st1 := []) rfl (fun hc0 => ?_) (fun hc0 => ?_)
        · skip
          refine qG.blk 1 (pc' := 95) (ls' := [(2, 95), (0, ((x : Nat) : Int)), (0, (cpS w x i).1), (0, (cpS w x i).2), (0, wrp (((i : Nat) : Int) + 1)), (0, cmF w x i)]) (st' := []) (w' := w) (n' := 142) rfl ?_
          rw [show wrp (((i : Nat) : Int) + 1) = ((i + 1 : Nat) : Int) from wrp_id (by omega) (by omega)]
          refine qG.blk 1 (pc' := 7) (ls' := [(2, 95), (0, ((x : Nat) : Int)), (0, (cpS w x i).1), (0, (cpS w x i).2), (0, ((i + 1 : Nat) : Int)), (0, cmF w x i)]) (st' := []) (w' := w) (n' := 142) rfl ?_
          have e9 : cpS w x (i + 1) = ((cpS w x i).1, (cpS w x i).2) := by rw [cpS_s]; first | (rw [if_pos hc0]; done) | (rw [if_neg hc0, if_pos hc1]; done) | (rw [if_neg hc0, if_neg hc1, if_pos ⟨hc2, Decidable.of_not_not (fun z => hc3 (ite01.mpr z))⟩]; done) | (rw [if_neg hc0, if_neg hc1, if_neg (fun z => absurd z.2 (ite01.mp hc3))]; done) | (rw [if_neg hc0, if_neg hc1, if_neg (fun z => hc2 z.1)]; done)
          have e91 : (cpS w x (i + 1)).1 = (cpS w x i).1 := by rw [e9]
          have e92 : (cpS w x (i + 1)).2 = (cpS w x i).2 := by rw [e9]
          have := ih7 _ (by omega) (i + 1) ((0, cmF w x i)) rfl (by omega)
          rw [e91, e92] at this
          exact this
        · skip
          refine qG.blk 2 (pc' := 64) (ls' := [(2, 95), (0, ((x : Nat) : Int)), (0, (cpS w x i).1), (0, (cpS w x i).2), (0, ((i : Nat) : Int)), (0, cmF w x i)]) (st' := [(0, (cpS w x i).2), (0, cmF w x i)]) (w' := w) (n' := 142) rfl ?_
          refine qG.br (P := cmF w x i < (cpS w x i).2) (pc1 := 92) (pc2 := 67) (st1 := []) rfl (fun hc1 => ?_) (fun hc1 => ?_)
          · skip
            refine qG.blk 1 (pc' := 95) (ls' := [(2, 95), (0, ((x : Nat) : Int)), (0, (cpS w x i).1), (0, (cpS w x i).2), (0, wrp (((i : Nat) : Int) + 1)), (0, cmF w x i)]) (st' := []) (w' := w) (n' := 142) rfl ?_
            rw [show wrp (((i : Nat) : Int) + 1) = ((i + 1 : Nat) : Int) from wrp_id (by omega) (by omega)]
            refine qG.blk 1 (pc' := 7) (ls' := [(2, 95), (0, ((x : Nat) : Int)), (0, (cpS w x i).1), (0, (cpS w x i).2), (0, ((i + 1 : Nat) : Int)), (0, cmF w x i)]) (st' := []) (w' := w) (n' := 142) rfl ?_
            have e9 : cpS w x (i + 1) = ((cpS w x i).1, (cpS w x i).2) := by rw [cpS_s]; first | (rw [if_pos hc0]; done) | (rw [if_neg hc0, if_pos hc1]; done) | (rw [if_neg hc0, if_neg hc1, if_pos ⟨hc2, Decidable.of_not_not (fun z => hc3 (ite01.mpr z))⟩]; done) | (rw [if_neg hc0, if_neg hc1, if_neg (fun z => absurd z.2 (ite01.mp hc3))]; done) | (rw [if_neg hc0, if_neg hc1, if_neg (fun z => hc2 z.1)]; done)
            have e91 : (cpS w x (i + 1)).1 = (cpS w x i).1 := by rw [e9]
            have e92 : (cpS w x (i + 1)).2 = (cpS w x i).2 := by rw [e9]
            have := ih7 _ (by omega) (i + 1) ((0, cmF w x i)) rfl (by omega)
            rw [e91, e92] at this
            exact this
          · skip
            refine qG.blk 2 (pc' := 70) (ls' := [(2, 95), (0, ((x : Nat) : Int)), (0, (cpS w x i).1), (0, (cpS w x i).2), (0, ((i : Nat) : Int)), (0, cmF w x i)]) (st' := [(0, (cpS w x i).2), (0, cmF w x i)]) (w' := w) (n' := 142) rfl ?_
            refine qG.br (P := cmF w x i = (cpS w x i).2) (pc1 := 73) (pc2 := 86) (st1 := []) rfl (fun hc2 => ?_) (fun hc2 => ?_)
            · skip
              refine qG.blk 3 (pc' := 77) (ls' := [(2, 95), (0, ((x : Nat) : Int)), (0, (cpS w x i).1), (0, (cpS w x i).2), (0, ((i : Nat) : Int)), (0, cmF w x i)]) (st' := [(0, (cpS w x i).1), (0, ((i : Nat) : Int)), (2, 95)]) (w' := w) (n' := 142) rfl ?_
              have hfd := (cpS_in w x i).resolve_left (fun z => by omega)
              refine qG.call (t := 296) (na := 3) (sk := 1) (md := 1) (ls1 := [(2, 95), (0, ((i : Nat) : Int)), (0, (cpS w x i).1)]) (r1 := []) rfl rfl rfl rfl rfl ((by have := K_isAhead (d := d) (by omega) i (cpS w x i).1.toNat (by omega) (by omega) w hI; rwa [Int.toNat_of_nonneg hfd.1] at this)) ?_
              rintro _ w7 _ ⟨rfl, hw7, rfl⟩
              rw [hw7]
              show qG none (d + 1) 298 80 [(2, 95), (0, ((x : Nat) : Int)), (0, (cpS w x i).1), (0, (cpS w x i).2), (0, ((i : Nat) : Int)), (0, cmF w x i)] [(0, (if ahB w i (cpS w x i).1.toNat = true then 1 else 0))] w 142 Q9
              refine qG.br (P := (if ahB w i (cpS w x i).1.toNat = true then 1 else 0) = 0) (pc1 := 86) (pc2 := 83) (st1 := []) rfl (fun hc3 => ?_) (fun hc3 => ?_)
              · skip
                refine qG.blk 5 (pc' := 95) (ls' := [(2, 95), (0, ((x : Nat) : Int)), (0, ((i : Nat) : Int)), (0, cmF w x i), (0, wrp (((i : Nat) : Int) + 1)), (0, cmF w x i)]) (st' := []) (w' := w) (n' := 142) rfl ?_
                rw [show wrp (((i : Nat) : Int) + 1) = ((i + 1 : Nat) : Int) from wrp_id (by omega) (by omega)]
                refine qG.blk 1 (pc' := 7) (ls' := [(2, 95), (0, ((x : Nat) : Int)), (0, ((i : Nat) : Int)), (0, cmF w x i), (0, ((i + 1 : Nat) : Int)), (0, cmF w x i)]) (st' := []) (w' := w) (n' := 142) rfl ?_
                have e9 : cpS w x (i + 1) = (((i : Nat) : Int), cmF w x i) := by rw [cpS_s]; first | (rw [if_pos hc0]; done) | (rw [if_neg hc0, if_pos hc1]; done) | (rw [if_neg hc0, if_neg hc1, if_pos ⟨hc2, Decidable.of_not_not (fun z => hc3 (ite01.mpr z))⟩]; done) | (rw [if_neg hc0, if_neg hc1, if_neg (fun z => absurd z.2 (ite01.mp hc3))]; done) | (rw [if_neg hc0, if_neg hc1, if_neg (fun z => hc2 z.1)]; done)
                have e91 : (cpS w x (i + 1)).1 = ((i : Nat) : Int) := by rw [e9]
                have e92 : (cpS w x (i + 1)).2 = cmF w x i := by rw [e9]
                have := ih7 _ (by omega) (i + 1) ((0, cmF w x i)) rfl (by omega)
                rw [e91, e92] at this
                exact this
              · skip
                refine qG.blk 2 (pc' := 95) (ls' := [(2, 95), (0, ((x : Nat) : Int)), (0, (cpS w x i).1), (0, (cpS w x i).2), (0, wrp (((i : Nat) : Int) + 1)), (0, cmF w x i)]) (st' := []) (w' := w) (n' := 142) rfl ?_
                rw [show wrp (((i : Nat) : Int) + 1) = ((i + 1 : Nat) : Int) from wrp_id (by omega) (by omega)]
                refine qG.blk 1 (pc' := 7) (ls' := [(2, 95), (0, ((x : Nat) : Int)), (0, (cpS w x i).1), (0, (cpS w x i).2), (0, ((i + 1 : Nat) : Int)), (0, cmF w x i)]) (st' := []) (w' := w) (n' := 142) rfl ?_
                have e9 : cpS w x (i + 1) = ((cpS w x i).1, (cpS w x i).2) := by rw [cpS_s]; first | (rw [if_pos hc0]; done) | (rw [if_neg hc0, if_pos hc1]; done) | (rw [if_neg hc0, if_neg hc1, if_pos ⟨hc2, Decidable.of_not_not (fun z => hc3 (ite01.mpr z))⟩]; done) | (rw [if_neg hc0, if_neg hc1, if_neg (fun z => absurd z.2 (ite01.mp hc3))]; done) | (rw [if_neg hc0, if_neg hc1, if_neg (fun z => hc2 z.1)]; done)
                have e91 : (cpS w x (i + 1)).1 = (cpS w x i).1 := by rw [e9]
                have e92 : (cpS w x (i + 1)).2 = (cpS w x i).2 := by rw [e9]
                have := ih7 _ (by omega) (i + 1) ((0, cmF w x i)) rfl (by omega)
                rw [e91, e92] at this
                exact this
            · skip
              refine qG.blk 5 (pc' := 95) (ls' := [(2, 95), (0, ((x : Nat) : Int)), (0, ((i : Nat) : Int)), (0, cmF w x i), (0, wrp (((i : Nat) : Int) + 1)), (0, cmF w x i)]) (st' := []) (w' := w) (n' := 142) rfl ?_
              rw [show wrp (((i : Nat) : Int) + 1) = ((i + 1 : Nat) : Int) from wrp_id (by omega) (by omega)]
              refine qG.blk 1 (pc' := 7) (ls' := [(2, 95), (0, ((x : Nat) : Int)), (0, ((i : Nat) : Int)), (0, cmF w x i), (0, ((i + 1 : Nat) : Int)), (0, cmF w x i)]) (st' := []) (w' := w) (n' := 142) rfl ?_
              have e9 : cpS w x (i + 1) = (((i : Nat) : Int), cmF w x i) := by rw [cpS_s]; first | (rw [if_pos hc0]; done) | (rw [if_neg hc0, if_pos hc1]; done) | (rw [if_neg hc0, if_neg hc1, if_pos ⟨hc2, Decidable.of_not_not (fun z => hc3 (ite01.mpr z))⟩]; done) | (rw [if_neg hc0, if_neg hc1, if_neg (fun z => absurd z.2 (ite01.mp hc3))]; done) | (rw [if_neg hc0, if_neg hc1, if_neg (fun z => hc2 z.1)]; done)
              have e91 : (cpS w x (i + 1)).1 = ((i : Nat) : Int) := by rw [e9]
              have e92 : (cpS w x (i + 1)).2 = cmF w x i := by rw [e9]
              have := ih7 _ (by omega) (i + 1) ((0, cmF w x i)) rfl (by omega)
              rw [e91, e92] at this
              exact this
      · skip
        refine qG.blk 2 (pc' := 30) (ls' := [(2, 95), (0, ((x : Nat) : Int)), (0, (cpS w x i).1), (0, (cpS w x i).2), (0, ((i : Nat) : Int)), q5]) (st' := [(2, w 95 79)]) (w' := w) (n' := 142) rfl ?_
        rw [show w 95 79 = 142 from zref hI rfl rfl]
        refine qG.blk 1 (pc' := 32) (ls' := [(2, 95), (0, ((x : Nat) : Int)), (0, (cpS w x i).1), (0, (cpS w x i).2), (0, ((i : Nat) : Int)), q5]) (st' := [(0, ((i : Nat) : Int)), (2, 142)]) (w' := w) (n' := 142) rfl ?_
        refine qG.ar (P := 0 ≤ ((i : Nat) : Int) ∧ ((i : Nat) : Int) < ((20 : Nat) : Int)) (P2 := 0 < (142 : Int) ∧ (142 : Int) ≤ ((142 : Nat) : Int)) (pc' := 33) (ls' := [(2, 95), (0, ((x : Nat) : Int)), (0, (cpS w x i).1), (0, (cpS w x i).2), (0, ((i : Nat) : Int)), q5]) (st' := [(0, w 142 i)]) (w' := w) (n' := 142) rfl (by omega) (by decide) ?_
        refine qG.blk 2 (pc' := 37) (ls' := [(2, 95), (0, ((x : Nat) : Int)), (0, (cpS w x i).1), (0, (cpS w x i).2), (0, ((i : Nat) : Int)), q5]) (st' := [(2, w 95 79), (0, w 142 i)]) (w' := w) (n' := 142) rfl ?_
        rw [show w 95 79 = 142 from zref hI rfl rfl]
        refine qG.blk 1 (pc' := 38) (ls' := [(2, 95), (0, ((x : Nat) : Int)), (0, (cpS w x i).1), (0, (cpS w x i).2), (0, ((i : Nat) : Int)), q5]) (st' := [(0, ((x : Nat) : Int)), (2, 142), (0, w 142 i)]) (w' := w) (n' := 142) rfl ?_
        refine qG.ar (P := 0 ≤ ((x : Nat) : Int) ∧ ((x : Nat) : Int) < ((20 : Nat) : Int)) (P2 := 0 < (142 : Int) ∧ (142 : Int) ≤ ((142 : Nat) : Int)) (pc' := 39) (ls' := [(2, 95), (0, ((x : Nat) : Int)), (0, (cpS w x i).1), (0, (cpS w x i).2), (0, ((i : Nat) : Int)), q5]) (st' := [(0, w 142 x), (0, w 142 i)]) (w' := w) (n' := 142) rfl (by omega) (by decide) ?_
        refine qG.blk 6 (pc' := 47) (ls' := [(2, 95), (0, ((x : Nat) : Int)), (0, (cpS w x i).1), (0, (cpS w x i).2), (0, ((i : Nat) : Int)), q5]) (st' := [(0, qand (qand (w 142 i) (w 142 x)) (qxor (w 95 77) (-1)))]) (w' := w) (n' := 142) rfl ?_
        refine qG.call (t := 293) (na := 1) (sk := 0) (md := 0) (ls1 := [(0, qand (qand (w 142 i) (w 142 x)) (qxor (w 95 77) (-1))), (9, 0), (9, 0)]) (r1 := []) rfl rfl rfl rfl rfl (K_many (by omega) _ w) ?_
        rintro _ w7 _ ⟨rfl, hw7, rfl⟩
        rw [hw7]
        show qG none (d + 1) 298 50 [(2, 95), (0, ((x : Nat) : Int)), (0, (cpS w x i).1), (0, (cpS w x i).2), (0, ((i : Nat) : Int)), q5] [(0, bitsF (qand (qand (w 142 i) (w 142 x)) (qxor (w 95 77) (-1))) 30)] w 142 Q9
        refine qG.blk 2 (pc' := 56) (ls' := [(2, 95), (0, ((x : Nat) : Int)), (0, (cpS w x i).1), (0, (cpS w x i).2), (0, ((i : Nat) : Int)), (0, bitsF (qand (qand (w 142 i) (w 142 x)) (qxor (w 95 77) (-1))) 30)]) (st' := []) (w' := w) (n' := 142) rfl ?_
        have ecm : (bitsF (qand (qand (w 142 i) (w 142 x)) (qxor (w 95 77) (-1))) 30 : Int) = cmF w x i := by unfold cmF; first | (rw [if_pos (Decidable.of_not_not (fun z => hah0 (ite01.mpr z)))]; done) | (rw [if_neg (ite01.mp hah0)]; done)
        rw [ecm]
        refine qG.blk 1 (pc' := 58) (ls' := [(2, 95), (0, ((x : Nat) : Int)), (0, (cpS w x i).1), (0, (cpS w x i).2), (0, ((i : Nat) : Int)), (0, cmF w x i)]) (st' := [(0, cmF w x i)]) (w' := w) (n' := 142) rfl ?_
        refine qG.br (P := cmF w x i = 0) (pc1 := 92) (pc2 := 61) (st1 := []) rfl (fun hc0 => ?_) (fun hc0 => ?_)
        · skip
          refine qG.blk 1 (pc' := 95) (ls' := [(2, 95), (0, ((x : Nat) : Int)), (0, (cpS w x i).1), (0, (cpS w x i).2), (0, wrp (((i : Nat) : Int) + 1)), (0, cmF w x i)]) (st' := []) (w' := w) (n' := 142) rfl ?_
          rw [show wrp (((i : Nat) : Int) + 1) = ((i + 1 : Nat) : Int) from wrp_id (by omega) (by omega)]
          refine qG.blk 1 (pc' := 7) (ls' := [(2, 95), (0, ((x : Nat) : Int)), (0, (cpS w x i).1), (0, (cpS w x i).2), (0, ((i + 1 : Nat) : Int)), (0, cmF w x i)]) (st' := []) (w' := w) (n' := 142) rfl ?_
          have e9 : cpS w x (i + 1) = ((cpS w x i).1, (cpS w x i).2) := by rw [cpS_s]; first | (rw [if_pos hc0]; done) | (rw [if_neg hc0, if_pos hc1]; done) | (rw [if_neg hc0, if_neg hc1, if_pos ⟨hc2, Decidable.of_not_not (fun z => hc3 (ite01.mpr z))⟩]; done) | (rw [if_neg hc0, if_neg hc1, if_neg (fun z => absurd z.2 (ite01.mp hc3))]; done) | (rw [if_neg hc0, if_neg hc1, if_neg (fun z => hc2 z.1)]; done)
          have e91 : (cpS w x (i + 1)).1 = (cpS w x i).1 := by rw [e9]
          have e92 : (cpS w x (i + 1)).2 = (cpS w x i).2 := by rw [e9]
          have := ih7 _ (by omega) (i + 1) ((0, cmF w x i)) rfl (by omega)
          rw [e91, e92] at this
          exact this
        · skip
          refine qG.blk 2 (pc' := 64) (ls' := [(2, 95), (0, ((x : Nat) : Int)), (0, (cpS w x i).1), (0, (cpS w x i).2), (0, ((i : Nat) : Int)), (0, cmF w x i)]) (st' := [(0, (cpS w x i).2), (0, cmF w x i)]) (w' := w) (n' := 142) rfl ?_
          refine qG.br (P := cmF w x i < (cpS w x i).2) (pc1 := 92) (pc2 := 67) (st1 := []) rfl (fun hc1 => ?_) (fun hc1 => ?_)
          · skip
            refine qG.blk 1 (pc' := 95) (ls' := [(2, 95), (0, ((x : Nat) : Int)), (0, (cpS w x i).1), (0, (cpS w x i).2), (0, wrp (((i : Nat) : Int) + 1)), (0, cmF w x i)]) (st' := []) (w' := w) (n' := 142) rfl ?_
            rw [show wrp (((i : Nat) : Int) + 1) = ((i + 1 : Nat) : Int) from wrp_id (by omega) (by omega)]
            refine qG.blk 1 (pc' := 7) (ls' := [(2, 95), (0, ((x : Nat) : Int)), (0, (cpS w x i).1), (0, (cpS w x i).2), (0, ((i + 1 : Nat) : Int)), (0, cmF w x i)]) (st' := []) (w' := w) (n' := 142) rfl ?_
            have e9 : cpS w x (i + 1) = ((cpS w x i).1, (cpS w x i).2) := by rw [cpS_s]; first | (rw [if_pos hc0]; done) | (rw [if_neg hc0, if_pos hc1]; done) | (rw [if_neg hc0, if_neg hc1, if_pos ⟨hc2, Decidable.of_not_not (fun z => hc3 (ite01.mpr z))⟩]; done) | (rw [if_neg hc0, if_neg hc1, if_neg (fun z => absurd z.2 (ite01.mp hc3))]; done) | (rw [if_neg hc0, if_neg hc1, if_neg (fun z => hc2 z.1)]; done)
            have e91 : (cpS w x (i + 1)).1 = (cpS w x i).1 := by rw [e9]
            have e92 : (cpS w x (i + 1)).2 = (cpS w x i).2 := by rw [e9]
            have := ih7 _ (by omega) (i + 1) ((0, cmF w x i)) rfl (by omega)
            rw [e91, e92] at this
            exact this
          · skip
            refine qG.blk 2 (pc' := 70) (ls' := [(2, 95), (0, ((x : Nat) : Int)), (0, (cpS w x i).1), (0, (cpS w x i).2), (0, ((i : Nat) : Int)), (0, cmF w x i)]) (st' := [(0, (cpS w x i).2), (0, cmF w x i)]) (w' := w) (n' := 142) rfl ?_
            refine qG.br (P := cmF w x i = (cpS w x i).2) (pc1 := 73) (pc2 := 86) (st1 := []) rfl (fun hc2 => ?_) (fun hc2 => ?_)
            · skip
              refine qG.blk 3 (pc' := 77) (ls' := [(2, 95), (0, ((x : Nat) : Int)), (0, (cpS w x i).1), (0, (cpS w x i).2), (0, ((i : Nat) : Int)), (0, cmF w x i)]) (st' := [(0, (cpS w x i).1), (0, ((i : Nat) : Int)), (2, 95)]) (w' := w) (n' := 142) rfl ?_
              have hfd := (cpS_in w x i).resolve_left (fun z => by omega)
              refine qG.call (t := 296) (na := 3) (sk := 1) (md := 1) (ls1 := [(2, 95), (0, ((i : Nat) : Int)), (0, (cpS w x i).1)]) (r1 := []) rfl rfl rfl rfl rfl ((by have := K_isAhead (d := d) (by omega) i (cpS w x i).1.toNat (by omega) (by omega) w hI; rwa [Int.toNat_of_nonneg hfd.1] at this)) ?_
              rintro _ w7 _ ⟨rfl, hw7, rfl⟩
              rw [hw7]
              show qG none (d + 1) 298 80 [(2, 95), (0, ((x : Nat) : Int)), (0, (cpS w x i).1), (0, (cpS w x i).2), (0, ((i : Nat) : Int)), (0, cmF w x i)] [(0, (if ahB w i (cpS w x i).1.toNat = true then 1 else 0))] w 142 Q9
              refine qG.br (P := (if ahB w i (cpS w x i).1.toNat = true then 1 else 0) = 0) (pc1 := 86) (pc2 := 83) (st1 := []) rfl (fun hc3 => ?_) (fun hc3 => ?_)
              · skip
                refine qG.blk 5 (pc' := 95) (ls' := [(2, 95), (0, ((x : Nat) : Int)), (0, ((i : Nat) : Int)), (0, cmF w x i), (0, wrp (((i : Nat) : Int) + 1)), (0, cmF w x i)]) (st' := []) (w' := w) (n' := 142) rfl ?_
                rw [show wrp (((i : Nat) : Int) + 1) = ((i + 1 : Nat) : Int) from wrp_id (by omega) (by omega)]
                refine qG.blk 1 (pc' := 7) (ls' := [(2, 95), (0, ((x : Nat) : Int)), (0, ((i : Nat) : Int)), (0, cmF w x i), (0, ((i + 1 : Nat) : Int)), (0, cmF w x i)]) (st' := []) (w' := w) (n' := 142) rfl ?_
                have e9 : cpS w x (i + 1) = (((i : Nat) : Int), cmF w x i) := by rw [cpS_s]; first | (rw [if_pos hc0]; done) | (rw [if_neg hc0, if_pos hc1]; done) | (rw [if_neg hc0, if_neg hc1, if_pos ⟨hc2, Decidable.of_not_not (fun z => hc3 (ite01.mpr z))⟩]; done) | (rw [if_neg hc0, if_neg hc1, if_neg (fun z => absurd z.2 (ite01.mp hc3))]; done) | (rw [if_neg hc0, if_neg hc1, if_neg (fun z => hc2 z.1)]; done)
                have e91 : (cpS w x (i + 1)).1 = ((i : Nat) : Int) := by rw [e9]
                have e92 : (cpS w x (i + 1)).2 = cmF w x i := by rw [e9]
                have := ih7 _ (by omega) (i + 1) ((0, cmF w x i)) rfl (by omega)
                rw [e91, e92] at this
                exact this
              · skip
                refine qG.blk 2 (pc' := 95) (ls' := [(2, 95), (0, ((x : Nat) : Int)), (0, (cpS w x i).1), (0, (cpS w x i).2), (0, wrp (((i : Nat) : Int) + 1)), (0, cmF w x i)]) (st' := []) (w' := w) (n' := 142) rfl ?_
                rw [show wrp (((i : Nat) : Int) + 1) = ((i + 1 : Nat) : Int) from wrp_id (by omega) (by omega)]
                refine qG.blk 1 (pc' := 7) (ls' := [(2, 95), (0, ((x : Nat) : Int)), (0, (cpS w x i).1), (0, (cpS w x i).2), (0, ((i + 1 : Nat) : Int)), (0, cmF w x i)]) (st' := []) (w' := w) (n' := 142) rfl ?_
                have e9 : cpS w x (i + 1) = ((cpS w x i).1, (cpS w x i).2) := by rw [cpS_s]; first | (rw [if_pos hc0]; done) | (rw [if_neg hc0, if_pos hc1]; done) | (rw [if_neg hc0, if_neg hc1, if_pos ⟨hc2, Decidable.of_not_not (fun z => hc3 (ite01.mpr z))⟩]; done) | (rw [if_neg hc0, if_neg hc1, if_neg (fun z => absurd z.2 (ite01.mp hc3))]; done) | (rw [if_neg hc0, if_neg hc1, if_neg (fun z => hc2 z.1)]; done)
                have e91 : (cpS w x (i + 1)).1 = (cpS w x i).1 := by rw [e9]
                have e92 : (cpS w x (i + 1)).2 = (cpS w x i).2 := by rw [e9]
                have := ih7 _ (by omega) (i + 1) ((0, cmF w x i)) rfl (by omega)
                rw [e91, e92] at this
                exact this
            · skip
              refine qG.blk 5 (pc' := 95) (ls' := [(2, 95), (0, ((x : Nat) : Int)), (0, ((i : Nat) : Int)), (0, cmF w x i), (0, wrp (((i : Nat) : Int) + 1)), (0, cmF w x i)]) (st' := []) (w' := w) (n' := 142) rfl ?_
              rw [show wrp (((i : Nat) : Int) + 1) = ((i + 1 : Nat) : Int) from wrp_id (by omega) (by omega)]
              refine qG.blk 1 (pc' := 7) (ls' := [(2, 95), (0, ((x : Nat) : Int)), (0, ((i : Nat) : Int)), (0, cmF w x i), (0, ((i + 1 : Nat) : Int)), (0, cmF w x i)]) (st' := []) (w' := w) (n' := 142) rfl ?_
              have e9 : cpS w x (i + 1) = (((i : Nat) : Int), cmF w x i) := by rw [cpS_s]; first | (rw [if_pos hc0]; done) | (rw [if_neg hc0, if_pos hc1]; done) | (rw [if_neg hc0, if_neg hc1, if_pos ⟨hc2, Decidable.of_not_not (fun z => hc3 (ite01.mpr z))⟩]; done) | (rw [if_neg hc0, if_neg hc1, if_neg (fun z => absurd z.2 (ite01.mp hc3))]; done) | (rw [if_neg hc0, if_neg hc1, if_neg (fun z => hc2 z.1)]; done)
              have e91 : (cpS w x (i + 1)).1 = ((i : Nat) : Int) := by rw [e9]
              have e92 : (cpS w x (i + 1)).2 = cmF w x i := by rw [e9]
              have := ih7 _ (by omega) (i + 1) ((0, cmF w x i)) rfl (by omega)
              rw [e91, e92] at this
              exact this
    · skip
      refine qG.blk 1 (pc' := 99) (ls' := [(2, 95), (0, ((x : Nat) : Int)), (0, (cpS w x i).1), (0, (cpS w x i).2), (0, ((i : Nat) : Int)), q5]) (st' := [(0, (cpS w x i).1)]) (w' := w) (n' := 142) rfl ?_
      refine qG.ret rfl rfl ?_
      subst hQ9
      exact ⟨by unfold cpF; rw [show (w 95 76).toNat = i by omega], rfl, rfl⟩
  exact L7 _ (0) ((9, 0)) rfl (by omega)
/-- the line: the last of it, how many are in it -/
noncomputable def lnF (w : qW) : Nat → Nat → Int → Nat × Int
  | 0, x, n => (x, n)
  | f + 1, x, n => if cpF w x = -1 then (x, n) else lnF w f (cpF w x).toNat (n + 1)
theorem cpF_in {w : qW} (hI : yInv zgf zga zra zSp w) {x : Nat} (h : cpF w x ≠ -1) : 0 ≤ cpF w x ∧ cpF w x < w 95 76 ∧ (cpF w x).toNat < 20 ∧ ahB w (cpF w x).toNat x = true := by
  have h76 := zfld hI (j := 76) (b := (0, 20)) rfl
  have a76 : (0 : Int) ≤ w 95 76 := h76.1
  have b76 : w 95 76 ≤ (20 : Int) := h76.2
  have hc := (cpS_in w x (w 95 76).toNat).resolve_left (fun z => h z.1)
  have h1 : 0 ≤ cpF w x := hc.1
  have h2 : cpF w x < ((w 95 76).toNat : Int) := hc.2.1
  exact ⟨h1, by omega, by omega, hc.2.2.2.2⟩
noncomputable def keyF (w : qW) (x : Nat) : Nat := 20 * (w 141 x).toNat + x
theorem keyF_dec {w : qW} (hI : yInv zgf zga zra zSp w) {a b : Nat} (ha : a < 20) (h : ahB w a b = true) : keyF w a < keyF w b := by
  have h1 := hI.2.1 141 a (0, 99) rfl rfl
  have h2 := hI.2.1 141 b (0, 99) rfl rfl
  have a1 : (0 : Int) ≤ w 141 a := h1.1
  have a2 : (0 : Int) ≤ w 141 b := h2.1
  have := of_decide_eq_true h
  unfold keyF
  omega
noncomputable def stF (w : qW) (x : Nat) (what : Int) : Int := if what < 3 then (if what = 0 then bitsF (qand (w 142 x) (w 95 77)) 30 else if what = 1 then bitsF (qand (w 142 x) (qxor (w 95 77) (-1))) 30 else if what = 2 then cpF w x else -1) else if what = 3 then ((lnF w 3000 x 1).1 : Int) else if what = 4 then (lnF w 3000 x 1).2 else -1
theorem K_storyB {d : Nat} (hd : 2 ≤ d) (w : qW) (x : Nat) (what : Int) (hx : x < 20) (hxw : (x : Int) < w 95 76) (hI : yInv zgf zga zra zSp w) : qG none d 299 0 [(2, 95), (0, ((x : Nat) : Int)), (0, what), (9, 0), (9, 0)] [] w 142 (fun (r : qV) (w1 : qW) (n1 : Nat) => r = (0, stF w x what) ∧ w1 = w ∧ n1 = 142) := by
  generalize hQ9 : (fun (r : qV) (w1 : qW) (n1 : Nat) => r = (0, stF w x what) ∧ w1 = w ∧ n1 = 142) = Q9
  have h76 := zfld hI (j := 76) (b := (0, 20)) rfl
  have a76 : (0 : Int) ≤ w 95 76 := h76.1
  have b76 : w 95 76 ≤ (20 : Int) := h76.2
  obtain ⟨d, rfl⟩ : ∃ d9, d = d9 + 1 := ⟨d - 1, by omega⟩
  refine qG.blk 6 (pc' := 8) (ls' := [(2, 95), (0, ((x : Nat) : Int)), (0, what), (9, 0), (9, 0)]) (st' := [(0, wrp ((w 95 76) - 1)), (0, 0), (0, ((x : Nat) : Int))]) (w' := w) (n' := 142) rfl ?_
  rw [show wrp ((w 95 76) - 1) = w 95 76 - 1 from wrp_id (by omega) (by omega)]
  refine qG.call (t := 206) (na := 3) (sk := 0) (md := 0) (ls1 := [(0, ((x : Nat) : Int)), (0, 0), (0, w 95 76 - 1)]) (r1 := []) rfl rfl rfl rfl rfl (K_isIn (by omega) _ _ _ _) ?_
  rintro _ w7 _ ⟨rfl, hw7, rfl⟩
  rw [hw7]
  show qG none (d + 1) 299 11 [(2, 95), (0, ((x : Nat) : Int)), (0, what), (9, 0), (9, 0)] [(0, isInV ((x : Nat) : Int) 0 (w 95 76 - 1))] w 142 Q9
  refine qG.br (P := isInV ((x : Nat) : Int) 0 (w 95 76 - 1) = 0) (pc1 := 14) (pc2 := 16) (st1 := []) rfl (fun hin => ?_) (fun hin => ?_)
  · exfalso; unfold isInV at hin; (repeat' split at hin) <;> omega
  · skip
    refine qG.blk 2 (pc' := 18) (ls' := [(2, 95), (0, ((x : Nat) : Int)), (0, what), (9, 0), (9, 0)]) (st' := [(0, 3), (0, what)]) (w' := w) (n' := 142) rfl ?_
    refine qG.br (P := what < 3) (pc1 := 21) (pc2 := 81) (st1 := []) rfl (fun hw3 => ?_) (fun hw3 => ?_)
    · skip
      refine qG.blk 1 (pc' := 22) (ls' := [(2, 95), (0, ((x : Nat) : Int)), (0, what), (9, 0), (9, 0)]) (st' := [(0, what)]) (w' := w) (n' := 142) rfl ?_
      refine qG.br (P := what = 0) (pc1 := 25) (pc2 := 42) (st1 := []) rfl (fun hw0 => ?_) (fun hw0 => ?_)
      · skip
        refine qG.blk 2 (pc' := 29) (ls' := [(2, 95), (0, ((x : Nat) : Int)), (0, what), (9, 0), (9, 0)]) (st' := [(2, w 95 79)]) (w' := w) (n' := 142) rfl ?_
        rw [show w 95 79 = 142 from zref hI rfl rfl]
        refine qG.blk 1 (pc' := 30) (ls' := [(2, 95), (0, ((x : Nat) : Int)), (0, what), (9, 0), (9, 0)]) (st' := [(0, ((x : Nat) : Int)), (2, 142)]) (w' := w) (n' := 142) rfl ?_
        refine qG.ar (P := 0 ≤ ((x : Nat) : Int) ∧ ((x : Nat) : Int) < ((20 : Nat) : Int)) (P2 := 0 < (142 : Int) ∧ (142 : Int) ≤ ((142 : Nat) : Int)) (pc' := 31) (ls' := [(2, 95), (0, ((x : Nat) : Int)), (0, what), (9, 0), (9, 0)]) (st' := [(0, w 142 x)]) (w' := w) (n' := 142) rfl (by omega) (by decide) ?_
        refine qG.blk 3 (pc' := 36) (ls' := [(2, 95), (0, ((x : Nat) : Int)), (0, what), (9, 0), (9, 0)]) (st' := [(0, qand (w 142 x) (w 95 77))]) (w' := w) (n' := 142) rfl ?_
        refine qG.call (t := 293) (na := 1) (sk := 0) (md := 0) (ls1 := [(0, qand (w 142 x) (w 95 77)), (9, 0), (9, 0)]) (r1 := []) rfl rfl rfl rfl rfl (K_many (by omega) _ w) ?_
        rintro _ w7 _ ⟨rfl, hw7, rfl⟩
        rw [hw7]
        show qG none (d + 1) 299 39 [(2, 95), (0, ((x : Nat) : Int)), (0, what), (9, 0), (9, 0)] [(0, bitsF (qand (w 142 x) (w 95 77)) 30)] w 142 Q9
        refine qG.blk 1 (pc' := 80) (ls' := [(2, 95), (0, ((x : Nat) : Int)), (0, what), (9, 0), (9, 0)]) (st' := [(0, bitsF (qand (w 142 x) (w 95 77)) 30)]) (w' := w) (n' := 142) rfl ?_
        refine qG.ret rfl rfl ?_
        subst hQ9
        refine ⟨?_, rfl, rfl⟩
        unfold stF
        first
        | (rw [if_pos hw3, if_pos hw0]; done)
        | (rw [if_pos hw3, if_neg hw0, if_pos hw1]; done)
        | (rw [if_pos hw3, if_neg hw0, if_neg hw1, if_pos hw2]; done)
        | (rw [if_pos hw3, if_neg hw0, if_neg hw1, if_neg hw2]; done)
        | (have hl : lnF w 3000 x 1 = (y, (m : Int)) := (by rw [hI86.2.2.2]; obtain ⟨f, rfl⟩ : ∃ f9, f = f9 + 1 := ⟨f - 1, by omega⟩; exact if_pos hcn); rw [if_neg hw3, hl]; first | (rw [if_pos hx3]; done) | (rw [if_neg hx3, if_pos hx4]; done) | (rw [if_neg hx3, if_neg hx4]; done))
      · skip
        refine qG.blk 2 (pc' := 44) (ls' := [(2, 95), (0, ((x : Nat) : Int)), (0, what), (9, 0), (9, 0)]) (st' := [(0, 1), (0, what)]) (w' := w) (n' := 142) rfl ?_
        refine qG.br (P := what = 1) (pc1 := 47) (pc2 := 66) (st1 := []) rfl (fun hw1 => ?_) (fun hw1 => ?_)
        · skip
          refine qG.blk 2 (pc' := 51) (ls' := [(2, 95), (0, ((x : Nat) : Int)), (0, what), (9, 0), (9, 0)]) (st' := [(2, w 95 79)]) (w' := w) (n' := 142) rfl ?_
          rw [show w 95 79 = 142 from zref hI rfl rfl]
          refine qG.blk 1 (pc' := 52) (ls' := [(2, 95), (0, ((x : Nat) : Int)), (0, what), (9, 0), (9, 0)]) (st' := [(0, ((x : Nat) : Int)), (2, 142)]) (w' := w) (n' := 142) rfl ?_
          refine qG.ar (P := 0 ≤ ((x : Nat) : Int) ∧ ((x : Nat) : Int) < ((20 : Nat) : Int)) (P2 := 0 < (142 : Int) ∧ (142 : Int) ≤ ((142 : Nat) : Int)) (pc' := 53) (ls' := [(2, 95), (0, ((x : Nat) : Int)), (0, what), (9, 0), (9, 0)]) (st' := [(0, w 142 x)]) (w' := w) (n' := 142) rfl (by omega) (by decide) ?_
          refine qG.blk 5 (pc' := 60) (ls' := [(2, 95), (0, ((x : Nat) : Int)), (0, what), (9, 0), (9, 0)]) (st' := [(0, qand (w 142 x) (qxor (w 95 77) (-1)))]) (w' := w) (n' := 142) rfl ?_
          refine qG.call (t := 293) (na := 1) (sk := 0) (md := 0) (ls1 := [(0, qand (w 142 x) (qxor (w 95 77) (-1))), (9, 0), (9, 0)]) (r1 := []) rfl rfl rfl rfl rfl (K_many (by omega) _ w) ?_
          rintro _ w7 _ ⟨rfl, hw7, rfl⟩
          rw [hw7]
          show qG none (d + 1) 299 63 [(2, 95), (0, ((x : Nat) : Int)), (0, what), (9, 0), (9, 0)] [(0, bitsF (qand (w 142 x) (qxor (w 95 77) (-1))) 30)] w 142 Q9
          refine qG.blk 1 (pc' := 80) (ls' := [(2, 95), (0, ((x : Nat) : Int)), (0, what), (9, 0), (9, 0)]) (st' := [(0, bitsF (qand (w 142 x) (qxor (w 95 77) (-1))) 30)]) (w' := w) (n' := 142) rfl ?_
          refine qG.ret rfl rfl ?_
          subst hQ9
          refine ⟨?_, rfl, rfl⟩
          unfold stF
          first
          | (rw [if_pos hw3, if_pos hw0]; done)
          | (rw [if_pos hw3, if_neg hw0, if_pos hw1]; done)
          | (rw [if_pos hw3, if_neg hw0, if_neg hw1, if_pos hw2]; done)
          | (rw [if_pos hw3, if_neg hw0, if_neg hw1, if_neg hw2]; done)
          | (have hl : lnF w 3000 x 1 = (y, (m : Int)) := (by rw [hI86.2.2.2]; obtain ⟨f, rfl⟩ : ∃ f9, f = f9 + 1 := ⟨f - 1, by omega⟩; exact if_pos hcn); rw [if_neg hw3, hl]; first | (rw [if_pos hx3]; done) | (rw [if_neg hx3, if_pos hx4]; done) | (rw [if_neg hx3, if_neg hx4]; done))
        · skip
          refine qG.blk 2 (pc' := 68) (ls' := [(2, 95), (0, ((x : Nat) : Int)), (0, what), (9, 0), (9, 0)]) (st' := [(0, 2), (0, what)]) (w' := w) (n' := 142) rfl ?_
          refine qG.br (P := what = 2) (pc1 := 71) (pc2 := 79) (st1 := []) rfl (fun hw2 => ?_) (fun hw2 => ?_)
          · skip
            refine qG.blk 2 (pc' := 73) (ls' := [(2, 95), (0, ((x : Nat) : Int)), (0, what), (9, 0), (9, 0)]) (st' := [(0, ((x : Nat) : Int)), (2, 95)]) (w' := w) (n' := 142) rfl ?_
            refine qG.call (t := 298) (na := 2) (sk := 1) (md := 1) (ls1 := [(2, 95), (0, ((x : Nat) : Int)), (9, 0), (9, 0), (9, 0), (9, 0)]) (r1 := []) rfl rfl rfl rfl rfl (K_copied (by omega) x (by omega) w hI) ?_
            rintro _ w7 _ ⟨rfl, hw7, rfl⟩
            rw [hw7]
            show qG none (d + 1) 299 76 [(2, 95), (0, ((x : Nat) : Int)), (0, what), (9, 0), (9, 0)] [(0, cpF w x)] w 142 Q9
            refine qG.blk 1 (pc' := 80) (ls' := [(2, 95), (0, ((x : Nat) : Int)), (0, what), (9, 0), (9, 0)]) (st' := [(0, cpF w x)]) (w' := w) (n' := 142) rfl ?_
            refine qG.ret rfl rfl ?_
            subst hQ9
            refine ⟨?_, rfl, rfl⟩
            unfold stF
            first
            | (rw [if_pos hw3, if_pos hw0]; done)
            | (rw [if_pos hw3, if_neg hw0, if_pos hw1]; done)
            | (rw [if_pos hw3, if_neg hw0, if_neg hw1, if_pos hw2]; done)
            | (rw [if_pos hw3, if_neg hw0, if_neg hw1, if_neg hw2]; done)
            | (have hl : lnF w 3000 x 1 = (y, (m : Int)) := (by rw [hI86.2.2.2]; obtain ⟨f, rfl⟩ : ∃ f9, f = f9 + 1 := ⟨f - 1, by omega⟩; exact if_pos hcn); rw [if_neg hw3, hl]; first | (rw [if_pos hx3]; done) | (rw [if_neg hx3, if_pos hx4]; done) | (rw [if_neg hx3, if_neg hx4]; done))
          · skip
            refine qG.blk 1 (pc' := 80) (ls' := [(2, 95), (0, ((x : Nat) : Int)), (0, what), (9, 0), (9, 0)]) (st' := [(0, (-1))]) (w' := w) (n' := 142) rfl ?_
            refine qG.ret rfl rfl ?_
            subst hQ9
            refine ⟨?_, rfl, rfl⟩
            unfold stF
            first
            | (rw [if_pos hw3, if_pos hw0]; done)
            | (rw [if_pos hw3, if_neg hw0, if_pos hw1]; done)
            | (rw [if_pos hw3, if_neg hw0, if_neg hw1, if_pos hw2]; done)
            | (rw [if_pos hw3, if_neg hw0, if_neg hw1, if_neg hw2]; done)
            | (have hl : lnF w 3000 x 1 = (y, (m : Int)) := (by rw [hI86.2.2.2]; obtain ⟨f, rfl⟩ : ∃ f9, f = f9 + 1 := ⟨f - 1, by omega⟩; exact if_pos hcn); rw [if_neg hw3, hl]; first | (rw [if_pos hx3]; done) | (rw [if_neg hx3, if_pos hx4]; done) | (rw [if_neg hx3, if_neg hx4]; done))
    · skip
      refine qG.blk 4 (pc' := 86) (ls' := [(2, 95), (0, ((x : Nat) : Int)), (0, what), (0, 1), (0, ((x : Nat) : Int))]) (st' := []) (w' := w) (n' := 142) rfl ?_
      have hk0 : keyF w x ≤ 1999 := by
        have h1 := hI.2.1 141 x (0, 99) rfl rfl
        have a1 : (0 : Int) ≤ w 141 x := h1.1
        have a2 : w 141 x ≤ (99 : Int) := h1.2
        unfold keyF; omega
      have L86 : ∀ (m9 : Nat) (f y m : Nat), keyF w y = m9 → (y < 20 ∧ m + keyF w y ≤ 2100 ∧ keyF w y < f ∧ lnF w 3000 x 1 = lnF w f y (m : Int)) → qG none (d + 1) 299 86 [(2, 95), (0, ((x : Nat) : Int)), (0, what), (0, ((m : Nat) : Int)), (0, ((y : Nat) : Int))] [] w 142 Q9 := by
        intro m9
        induction m9 using Nat.strongRecOn with
        | ind m9 ih86 =>
        intro f y m hm86 hI86
        refine qG.blk 2 (pc' := 89) (ls' := [(2, 95), (0, ((x : Nat) : Int)), (0, what), (0, ((m : Nat) : Int)), (0, ((y : Nat) : Int))]) (st' := [(0, ((y : Nat) : Int)), (2, 95)]) (w' := w) (n' := 142) rfl ?_
        refine qG.call (t := 298) (na := 2) (sk := 1) (md := 1) (ls1 := [(2, 95), (0, ((y : Nat) : Int)), (9, 0), (9, 0), (9, 0), (9, 0)]) (r1 := []) rfl rfl rfl rfl rfl (K_copied (by omega) y (by omega) w hI) ?_
        rintro _ w7 _ ⟨rfl, hw7, rfl⟩
        rw [hw7]
        show qG none (d + 1) 299 92 [(2, 95), (0, ((x : Nat) : Int)), (0, what), (0, ((m : Nat) : Int)), (0, ((y : Nat) : Int))] [(0, cpF w y)] w 142 Q9
        refine qG.blk 1 (pc' := 93) (ls' := [(2, 95), (0, ((x : Nat) : Int)), (0, what), (0, ((m : Nat) : Int)), (0, ((y : Nat) : Int))]) (st' := [(0, (-1)), (0, cpF w y)]) (w' := w) (n' := 142) rfl ?_
        refine qG.br (P := cpF w y = (-1)) (pc1 := 110) (pc2 := 96) (st1 := []) rfl (fun hcn => ?_) (fun hcn => ?_)
        · skip
          refine qG.blk 2 (pc' := 112) (ls' := [(2, 95), (0, ((x : Nat) : Int)), (0, what), (0, ((m : Nat) : Int)), (0, ((y : Nat) : Int))]) (st' := [(0, 3), (0, what)]) (w' := w) (n' := 142) rfl ?_
          refine qG.br (P := what = 3) (pc1 := 115) (pc2 := 120) (st1 := []) rfl (fun hx3 => ?_) (fun hx3 => ?_)
          · skip
            refine qG.blk 2 (pc' := 130) (ls' := [(2, 95), (0, ((x : Nat) : Int)), (0, what), (0, ((m : Nat) : Int)), (0, ((y : Nat) : Int))]) (st' := [(0, ((y : Nat) : Int))]) (w' := w) (n' := 142) rfl ?_
            refine qG.ret rfl rfl ?_
            subst hQ9
            refine ⟨?_, rfl, rfl⟩
            unfold stF
            first
            | (rw [if_pos hw3, if_pos hw0]; done)
            | (rw [if_pos hw3, if_neg hw0, if_pos hw1]; done)
            | (rw [if_pos hw3, if_neg hw0, if_neg hw1, if_pos hw2]; done)
            | (rw [if_pos hw3, if_neg hw0, if_neg hw1, if_neg hw2]; done)
            | (have hl : lnF w 3000 x 1 = (y, (m : Int)) := (by rw [hI86.2.2.2]; obtain ⟨f, rfl⟩ : ∃ f9, f = f9 + 1 := ⟨f - 1, by omega⟩; exact if_pos hcn); rw [if_neg hw3, hl]; first | (rw [if_pos hx3]; done) | (rw [if_neg hx3, if_pos hx4]; done) | (rw [if_neg hx3, if_neg hx4]; done))
          · skip
            refine qG.blk 2 (pc' := 122) (ls' := [(2, 95), (0, ((x : Nat) : Int)), (0, what), (0, ((m : Nat) : Int)), (0, ((y : Nat) : Int))]) (st' := [(0, 4), (0, what)]) (w' := w) (n' := 142) rfl ?_
            refine qG.br (P := what = 4) (pc1 := 125) (pc2 := 129) (st1 := []) rfl (fun hx4 => ?_) (fun hx4 => ?_)
            · skip
              refine qG.blk 2 (pc' := 130) (ls' := [(2, 95), (0, ((x : Nat) : Int)), (0, what), (0, ((m : Nat) : Int)), (0, ((y : Nat) : Int))]) (st' := [(0, ((m : Nat) : Int))]) (w' := w) (n' := 142) rfl ?_
              refine qG.ret rfl rfl ?_
              subst hQ9
              refine ⟨?_, rfl, rfl⟩
              unfold stF
              first
              | (rw [if_pos hw3, if_pos hw0]; done)
              | (rw [if_pos hw3, if_neg hw0, if_pos hw1]; done)
              | (rw [if_pos hw3, if_neg hw0, if_neg hw1, if_pos hw2]; done)
              | (rw [if_pos hw3, if_neg hw0, if_neg hw1, if_neg hw2]; done)
              | (have hl : lnF w 3000 x 1 = (y, (m : Int)) := (by rw [hI86.2.2.2]; obtain ⟨f, rfl⟩ : ∃ f9, f = f9 + 1 := ⟨f - 1, by omega⟩; exact if_pos hcn); rw [if_neg hw3, hl]; first | (rw [if_pos hx3]; done) | (rw [if_neg hx3, if_pos hx4]; done) | (rw [if_neg hx3, if_neg hx4]; done))
            · skip
              refine qG.blk 1 (pc' := 130) (ls' := [(2, 95), (0, ((x : Nat) : Int)), (0, what), (0, ((m : Nat) : Int)), (0, ((y : Nat) : Int))]) (st' := [(0, (-1))]) (w' := w) (n' := 142) rfl ?_
              refine qG.ret rfl rfl ?_
              subst hQ9
              refine ⟨?_, rfl, rfl⟩
              unfold stF
              first
              | (rw [if_pos hw3, if_pos hw0]; done)
              | (rw [if_pos hw3, if_neg hw0, if_pos hw1]; done)
              | (rw [if_pos hw3, if_neg hw0, if_neg hw1, if_pos hw2]; done)
              | (rw [if_pos hw3, if_neg hw0, if_neg hw1, if_neg hw2]; done)
              | (have hl : lnF w 3000 x 1 = (y, (m : Int)) := (by rw [hI86.2.2.2]; obtain ⟨f, rfl⟩ : ∃ f9, f = f9 + 1 := ⟨f - 1, by omega⟩; exact if_pos hcn); rw [if_neg hw3, hl]; first | (rw [if_pos hx3]; done) | (rw [if_neg hx3, if_pos hx4]; done) | (rw [if_neg hx3, if_neg hx4]; done))
        · skip
          have hcp := cpF_in hI hcn
          refine qG.blk 2 (pc' := 99) (ls' := [(2, 95), (0, ((x : Nat) : Int)), (0, what), (0, ((m : Nat) : Int)), (0, ((y : Nat) : Int))]) (st' := [(0, ((y : Nat) : Int)), (2, 95)]) (w' := w) (n' := 142) rfl ?_
          refine qG.call (t := 298) (na := 2) (sk := 1) (md := 1) (ls1 := [(2, 95), (0, ((y : Nat) : Int)), (9, 0), (9, 0), (9, 0), (9, 0)]) (r1 := []) rfl rfl rfl rfl rfl (K_copied (by omega) y (by omega) w hI) ?_
          rintro _ w7 _ ⟨rfl, hw7, rfl⟩
          rw [hw7]
          rw [show cpF w y = (((cpF w y).toNat : Nat) : Int) from (Int.toNat_of_nonneg hcp.1).symm]
          show qG none (d + 1) 299 102 [(2, 95), (0, ((x : Nat) : Int)), (0, what), (0, ((m : Nat) : Int)), (0, ((y : Nat) : Int))] [(0, (((cpF w y).toNat : Nat) : Int))] w 142 Q9
          refine qG.blk 2 (pc' := 107) (ls' := [(2, 95), (0, ((x : Nat) : Int)), (0, what), (0, wrp (((m : Nat) : Int) + 1)), (0, (((cpF w y).toNat : Nat) : Int))]) (st' := []) (w' := w) (n' := 142) rfl ?_
          rw [show wrp (((m : Nat) : Int) + 1) = ((m + 1 : Nat) : Int) from wrp_id (by omega) (by omega)]
          refine qG.blk 1 (pc' := 86) (ls' := [(2, 95), (0, ((x : Nat) : Int)), (0, what), (0, ((m + 1 : Nat) : Int)), (0, (((cpF w y).toNat : Nat) : Int))]) (st' := []) (w' := w) (n' := 142) rfl ?_
          obtain ⟨f, rfl⟩ : ∃ f9, f = f9 + 1 := ⟨f - 1, by omega⟩
          have hkd := keyF_dec hI hcp.2.2.1 hcp.2.2.2
          exact ih86 _ (by omega) f (cpF w y).toNat (m + 1) rfl ⟨hcp.2.2.1, by omega, by omega, by rw [hI86.2.2.2]; show (if cpF w y = -1 then ((y, (m : Int)) : Nat × Int) else lnF w f (cpF w y).toNat ((m : Int) + 1)) = _; rw [if_neg hcn]; rfl⟩
      exact L86 _ (3000) (x) (1) rfl (⟨by omega, by omega, by omega, rfl⟩)
theorem K_storyX {d : Nat} (hd : 2 ≤ d) (w : qW) (x what : Int) (hx : ¬ (0 ≤ x ∧ x < w 95 76)) (hI : yInv zgf zga zra zSp w) : qG none d 299 0 [(2, 95), (0, x), (0, what), (9, 0), (9, 0)] [] w 142 (fun (r : qV) (w1 : qW) (n1 : Nat) => r = (0, -1) ∧ w1 = w ∧ n1 = 142) := by
  generalize hQ9 : (fun (r : qV) (w1 : qW) (n1 : Nat) => r = (0, -1) ∧ w1 = w ∧ n1 = 142) = Q9
  have h76 := zfld hI (j := 76) (b := (0, 20)) rfl
  have a76 : (0 : Int) ≤ w 95 76 := h76.1
  have b76 : w 95 76 ≤ (20 : Int) := h76.2
  obtain ⟨d, rfl⟩ : ∃ d9, d = d9 + 1 := ⟨d - 1, by omega⟩
  refine qG.blk 6 (pc' := 8) (ls' := [(2, 95), (0, x), (0, what), (9, 0), (9, 0)]) (st' := [(0, wrp ((w 95 76) - 1)), (0, 0), (0, x)]) (w' := w) (n' := 142) rfl ?_
  rw [show wrp ((w 95 76) - 1) = w 95 76 - 1 from wrp_id (by omega) (by omega)]
  refine qG.call (t := 206) (na := 3) (sk := 0) (md := 0) (ls1 := [(0, x), (0, 0), (0, w 95 76 - 1)]) (r1 := []) rfl rfl rfl rfl rfl (K_isIn (by omega) _ _ _ _) ?_
  rintro _ w7 _ ⟨rfl, hw7, rfl⟩
  rw [hw7]
  show qG none (d + 1) 299 11 [(2, 95), (0, x), (0, what), (9, 0), (9, 0)] [(0, isInV x 0 (w 95 76 - 1))] w 142 Q9
  refine qG.br (P := isInV x 0 (w 95 76 - 1) = 0) (pc1 := 14) (pc2 := 16) (st1 := []) rfl (fun hin => ?_) (fun hin => ?_)
  · skip
    refine qG.blk 1 (pc' := 15) (ls' := [(2, 95), (0, x), (0, what), (9, 0), (9, 0)]) (st' := [(0, (-1))]) (w' := w) (n' := 142) rfl ?_
    refine qG.ret rfl rfl ?_
    subst hQ9
    exact ⟨rfl, rfl, rfl⟩
  · exfalso; unfold isInV at hin; (repeat' split at hin) <;> omega
theorem K_story {d : Nat} (hd : 2 ≤ d) (x what : Int) (w : qW) (hI : yInv zgf zga zra zSp w) : qG none d 299 0 [(2, 95), (0, x), (0, what), (9, 0), (9, 0)] [] w 142 (fun (r : qV) (w1 : qW) (n1 : Nat) => r = (0, if 0 ≤ x ∧ x < w 95 76 then stF w x.toNat what else -1) ∧ w1 = w ∧ n1 = 142) := by
  have h76 := zfld hI (j := 76) (b := (0, 20)) rfl
  have b76 : w 95 76 ≤ (20 : Int) := h76.2
  by_cases h : 0 ≤ x ∧ x < w 95 76
  · rw [if_pos h]
    have := K_storyB hd w x.toNat what (by omega) (by omega) hI
    rwa [show ((x.toNat : Nat) : Int) = x by omega] at this
  · rw [if_neg h]
    exact K_storyX hd w x what h hI
