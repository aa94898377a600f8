/-! the reference's through, sees, does, shows as functions of the state -/
theorem i32q (x : Int32) : yin (-2147483648, 2147483647) x.toInt := ⟨(i32_in x).1, by have := (i32_in x).2; show _ ≤ (2147483647 : Int); omega⟩
theorem qor_32 (x y : Int) : yin (-2147483648, 2147483647) (qor x y) := i32q _
theorem qand_32 (x y : Int) : yin (-2147483648, 2147483647) (qand x y) := i32q _
theorem wrp_32 (x : Int) : yin (-2147483648, 2147483647) (wrp x) := ⟨(wrp_in x).1, by have := (wrp_in x).2; show _ ≤ (2147483647 : Int); omega⟩
noncomputable def thrF (w : qW) (c dd : Nat) (lit : Int) : Int := if lit = 0 then w 98 (10 * c + dd) else if w 100 (10 * c + dd) = 0 then qor (w 98 (10 * c + dd)) (if w 97 (10 * c + dd) = 0 then qshl (qand (w 98 (10 * c + dd)) (qxor (w 96 c) (-1))) 8 else qshr (qand (w 98 (10 * c + dd)) (qxor (w 96 c) (-1))) 8) else w 98 (10 * c + dd)
theorem K_through {d : Nat} (hd : 0 ≤ d) (c dd : Nat) (lit : Int) (hc : c < 3) (hd2 : dd < 10) (w : qW) (hI : yInv zgf zga zra zSp w) : qG none d 250 0 [(2, 95), (0, ((c : Nat) : Int)), (0, ((dd : Nat) : Int)), (0, lit), (9, 0), (9, 0)] [] w 142 (fun (r : qV) (w1 : qW) (n1 : Nat) => r = (0, thrF w c dd lit) ∧ w1 = w ∧ n1 = 142) := by
  generalize hQ9 : (fun (r : qV) (w1 : qW) (n1 : Nat) => r = (0, thrF w c dd lit) ∧ w1 = w ∧ n1 = 142) = Q9
  refine qG.blk 2 (pc' := 4) (ls' := [(2, 95), (0, ((c : Nat) : Int)), (0, ((dd : Nat) : Int)), (0, lit), (9, 0), (9, 0)]) (st' := [(2, w 95 2)]) (w' := w) (n' := 142) rfl ?_
  rw [show w 95 2 = 98 from zref hI rfl rfl]
  refine qG.blk 3 (pc' := 8) (ls' := [(2, 95), (0, ((c : Nat) : Int)), (0, ((dd : Nat) : Int)), (0, lit), (9, 0), (9, 0)]) (st' := [(0, wrp (10 * ((c : Nat) : Int))), (2, 98)]) (w' := w) (n' := 142) rfl ?_
  rw [show wrp (10 * ((c : Nat) : Int)) = ((10 * c : Nat) : Int) from by rw [wrp_id (by omega) (by omega)]; omega]
  refine qG.blk 2 (pc' := 10) (ls' := [(2, 95), (0, ((c : Nat) : Int)), (0, ((dd : Nat) : Int)), (0, lit), (9, 0), (9, 0)]) (st' := [(0, wrp (((10 * c : Nat) : Int) + ((dd : Nat) : Int))), (2, 98)]) (w' := w) (n' := 142) rfl ?_
  rw [show wrp (((10 * c : Nat) : Int) + ((dd : Nat) : Int)) = ((10 * c + dd : Nat) : Int) from by rw [wrp_id (by omega) (by omega)]; omega]
  refine qG.ar (P := 0 ≤ ((10 * c + dd : Nat) : Int) ∧ ((10 * c + dd : Nat) : Int) < ((30 : Nat) : Int)) (P2 := 0 < (98 : Int) ∧ (98 : Int) ≤ ((142 : Nat) : Int)) (pc' := 11) (ls' := [(2, 95), (0, ((c : Nat) : Int)), (0, ((dd : Nat) : Int)), (0, lit), (9, 0), (9, 0)]) (st' := [(0, w 98 (10 * c + dd))]) (w' := w) (n' := 142) rfl (by omega) (by decide) ?_
  refine qG.blk 4 (pc' := 19) (ls' := [(2, 95), (0, ((c : Nat) : Int)), (0, ((dd : Nat) : Int)), (0, lit), (0, w 98 (10 * c + dd)), (9, 0)]) (st' := [(2, w 95 0), (0, w 98 (10 * c + dd))]) (w' := w) (n' := 142) rfl ?_
  rw [show w 95 0 = 96 from zref hI rfl rfl]
  refine qG.blk 1 (pc' := 20) (ls' := [(2, 95), (0, ((c : Nat) : Int)), (0, ((dd : Nat) : Int)), (0, lit), (0, w 98 (10 * c + dd)), (9, 0)]) (st' := [(0, ((c : Nat) : Int)), (2, 96), (0, w 98 (10 * c + dd))]) (w' := w) (n' := 142) rfl ?_
  refine qG.ar (P := 0 ≤ ((c : Nat) : Int) ∧ ((c : Nat) : Int) < ((3 : Nat) : Int)) (P2 := 0 < (96 : Int) ∧ (96 : Int) ≤ ((142 : Nat) : Int)) (pc' := 21) (ls' := [(2, 95), (0, ((c : Nat) : Int)), (0, ((dd : Nat) : Int)), (0, lit), (0, w 98 (10 * c + dd)), (9, 0)]) (st' := [(0, w 96 c), (0, w 98 (10 * c + dd))]) (w' := w) (n' := 142) rfl (by omega) (by decide) ?_
  refine qG.blk 5 (pc' := 27) (ls' := [(2, 95), (0, ((c : Nat) : Int)), (0, ((dd : Nat) : Int)), (0, lit), (0, w 98 (10 * c + dd)), (0, qand (w 98 (10 * c + dd)) (qxor (w 96 c) (-1)))]) (st' := [(0, lit)]) (w' := w) (n' := 142) rfl ?_
  refine qG.br (P := lit = 0) (pc1 := 44) (pc2 := 30) (st1 := []) rfl (fun hlit => ?_) (fun hlit => ?_)
  · skip
    refine qG.blk 1 (pc' := 46) (ls' := [(2, 95), (0, ((c : Nat) : Int)), (0, ((dd : Nat) : Int)), (0, lit), (0, w 98 (10 * c + dd)), (0, qand (w 98 (10 * c + dd)) (qxor (w 96 c) (-1)))]) (st' := [(0, w 98 (10 * c + dd))]) (w' := w) (n' := 142) rfl ?_
    refine qG.ret rfl rfl ?_
    subst hQ9
    exact ⟨by unfold thrF; simp only [*, if_true, if_false], rfl, rfl⟩
  · skip
    refine qG.blk 2 (pc' := 34) (ls' := [(2, 95), (0, ((c : Nat) : Int)), (0, ((dd : Nat) : Int)), (0, lit), (0, w 98 (10 * c + dd)), (0, qand (w 98 (10 * c + dd)) (qxor (w 96 c) (-1)))]) (st' := [(2, w 95 4)]) (w' := w) (n' := 142) rfl ?_
    rw [show w 95 4 = 100 from zref hI rfl rfl]
    refine qG.blk 3 (pc' := 38) (ls' := [(2, 95), (0, ((c : Nat) : Int)), (0, ((dd : Nat) : Int)), (0, lit), (0, w 98 (10 * c + dd)), (0, qand (w 98 (10 * c + dd)) (qxor (w 96 c) (-1)))]) (st' := [(0, wrp (10 * ((c : Nat) : Int))), (2, 100)]) (w' := w) (n' := 142) rfl ?_
    rw [show wrp (10 * ((c : Nat) : Int)) = ((10 * c : Nat) : Int) from by rw [wrp_id (by omega) (by omega)]; omega]
    refine qG.blk 2 (pc' := 40) (ls' := [(2, 95), (0, ((c : Nat) : Int)), (0, ((dd : Nat) : Int)), (0, lit), (0, w 98 (10 * c + dd)), (0, qand (w 98 (10 * c + dd)) (qxor (w 96 c) (-1)))]) (st' := [(0, wrp (((10 * c : Nat) : Int) + ((dd : Nat) : Int))), (2, 100)]) (w' := w) (n' := 142) rfl ?_
    rw [show wrp (((10 * c : Nat) : Int) + ((dd : Nat) : Int)) = ((10 * c + dd : Nat) : Int) from by rw [wrp_id (by omega) (by omega)]; omega]
    refine qG.ar (P := 0 ≤ ((10 * c + dd : Nat) : Int) ∧ ((10 * c + dd : Nat) : Int) < ((30 : Nat) : Int)) (P2 := 0 < (100 : Int) ∧ (100 : Int) ≤ ((142 : Nat) : Int)) (pc' := 41) (ls' := [(2, 95), (0, ((c : Nat) : Int)), (0, ((dd : Nat) : Int)), (0, lit), (0, w 98 (10 * c + dd)), (0, qand (w 98 (10 * c + dd)) (qxor (w 96 c) (-1)))]) (st' := [(0, w 100 (10 * c + dd))]) (w' := w) (n' := 142) rfl (by omega) (by decide) ?_
    refine qG.br (P := w 100 (10 * c + dd) = 0) (pc1 := 47) (pc2 := 44) (st1 := []) rfl (fun hfa => ?_) (fun hfa => ?_)
    · skip
      refine qG.blk 3 (pc' := 53) (ls' := [(2, 95), (0, ((c : Nat) : Int)), (0, ((dd : Nat) : Int)), (0, lit), (0, w 98 (10 * c + dd)), (0, qand (w 98 (10 * c + dd)) (qxor (w 96 c) (-1)))]) (st' := [(2, w 95 1), (0, w 98 (10 * c + dd))]) (w' := w) (n' := 142) rfl ?_
      rw [show w 95 1 = 97 from zref hI rfl rfl]
      refine qG.blk 3 (pc' := 57) (ls' := [(2, 95), (0, ((c : Nat) : Int)), (0, ((dd : Nat) : Int)), (0, lit), (0, w 98 (10 * c + dd)), (0, qand (w 98 (10 * c + dd)) (qxor (w 96 c) (-1)))]) (st' := [(0, wrp (10 * ((c : Nat) : Int))), (2, 97), (0, w 98 (10 * c + dd))]) (w' := w) (n' := 142) rfl ?_
      rw [show wrp (10 * ((c : Nat) : Int)) = ((10 * c : Nat) : Int) from by rw [wrp_id (by omega) (by omega)]; omega]
      refine qG.blk 2 (pc' := 59) (ls' := [(2, 95), (0, ((c : Nat) : Int)), (0, ((dd : Nat) : Int)), (0, lit), (0, w 98 (10 * c + dd)), (0, qand (w 98 (10 * c + dd)) (qxor (w 96 c) (-1)))]) (st' := [(0, wrp (((10 * c : Nat) : Int) + ((dd : Nat) : Int))), (2, 97), (0, w 98 (10 * c + dd))]) (w' := w) (n' := 142) rfl ?_
      rw [show wrp (((10 * c : Nat) : Int) + ((dd : Nat) : Int)) = ((10 * c + dd : Nat) : Int) from by rw [wrp_id (by omega) (by omega)]; omega]
      refine qG.ar (P := 0 ≤ ((10 * c + dd : Nat) : Int) ∧ ((10 * c + dd : Nat) : Int) < ((30 : Nat) : Int)) (P2 := 0 < (97 : Int) ∧ (97 : Int) ≤ ((142 : Nat) : Int)) (pc' := 60) (ls' := [(2, 95), (0, ((c : Nat) : Int)), (0, ((dd : Nat) : Int)), (0, lit), (0, w 98 (10 * c + dd)), (0, qand (w 98 (10 * c + dd)) (qxor (w 96 c) (-1)))]) (st' := [(0, w 97 (10 * c + dd)), (0, w 98 (10 * c + dd))]) (w' := w) (n' := 142) rfl (by omega) (by decide) ?_
      refine qG.br (P := w 97 (10 * c + dd) = 0) (pc1 := 63) (pc2 := 71) (st1 := [(0, w 98 (10 * c + dd))]) rfl (fun hsd => ?_) (fun hsd => ?_)
      · skip
        refine qG.blk 5 (pc' := 77) (ls' := [(2, 95), (0, ((c : Nat) : Int)), (0, ((dd : Nat) : Int)), (0, lit), (0, w 98 (10 * c + dd)), (0, qand (w 98 (10 * c + dd)) (qxor (w 96 c) (-1)))]) (st' := [(0, qor (w 98 (10 * c + dd)) (qshl (qand (w 98 (10 * c + dd)) (qxor (w 96 c) (-1))) 8))]) (w' := w) (n' := 142) rfl ?_
        refine qG.ret rfl rfl ?_
        subst hQ9
        exact ⟨by unfold thrF; simp only [*, if_true, if_false], rfl, rfl⟩
      · skip
        refine qG.blk 4 (pc' := 77) (ls' := [(2, 95), (0, ((c : Nat) : Int)), (0, ((dd : Nat) : Int)), (0, lit), (0, w 98 (10 * c + dd)), (0, qand (w 98 (10 * c + dd)) (qxor (w 96 c) (-1)))]) (st' := [(0, qor (w 98 (10 * c + dd)) (qshr (qand (w 98 (10 * c + dd)) (qxor (w 96 c) (-1))) 8))]) (w' := w) (n' := 142) rfl ?_
        refine qG.ret rfl rfl ?_
        subst hQ9
        exact ⟨by unfold thrF; simp only [*, if_true, if_false], rfl, rfl⟩
    · skip
      refine qG.blk 1 (pc' := 46) (ls' := [(2, 95), (0, ((c : Nat) : Int)), (0, ((dd : Nat) : Int)), (0, lit), (0, w 98 (10 * c + dd)), (0, qand (w 98 (10 * c + dd)) (qxor (w 96 c) (-1)))]) (st' := [(0, w 98 (10 * c + dd))]) (w' := w) (n' := 142) rfl ?_
      refine qG.ret rfl rfl ?_
      subst hQ9
      exact ⟨by unfold thrF; simp only [*, if_true, if_false], rfl, rfl⟩
noncomputable def seesF (w : qW) (c : Nat) : Nat → Int
  | 0 => 0
  | j + 1 => if qand (qshr (w 95 41) (j : Int)) 1 = 1 then (if w 97 (10 * c + j) = w 95 43 then qor (seesF w c j) (thrF w c j (if (j : Int) = w 95 42 then 1 else 0)) else seesF w c j) else seesF w c j
theorem seesF_s {w : qW} {c j : Nat} : seesF w c (j + 1) = if qand (qshr (w 95 41) (j : Int)) 1 = 1 then (if w 97 (10 * c + j) = w 95 43 then qor (seesF w c j) (thrF w c j (if (j : Int) = w 95 42 then 1 else 0)) else seesF w c j) else seesF w c j := rfl
theorem seesF_32 {w : qW} {c : Nat} : ∀ j, yin (-2147483648, 2147483647) (seesF w c j)
  | 0 => ⟨by show (-2147483648 : Int) ≤ 0; decide, by show (0 : Int) ≤ 2147483647; decide⟩
  | j + 1 => by
    unfold seesF
    split
    · split
      · exact qor_32 _ _
      · exact seesF_32 j
    · exact seesF_32 j
theorem K_sees {d : Nat} (hd : 1 ≤ d) (c : Nat) (hc : c < 3) (w : qW) (hI : yInv zgf zga zra zSp w) : qG none d 249 0 [(2, 95), (0, ((c : Nat) : Int)), (9, 0), (9, 0)] [] w 142 (fun (r : qV) (w1 : qW) (n1 : Nat) => r = (0, seesF w c 10) ∧ w1 = w ∧ n1 = 142) := by
  generalize hQ9 : (fun (r : qV) (w1 : qW) (n1 : Nat) => r = (0, seesF w c 10) ∧ w1 = w ∧ n1 = 142) = Q9
  obtain ⟨d, rfl⟩ : ∃ d9, d = d9 + 1 := ⟨d - 1, by omega⟩
  refine qG.blk 4 (pc' := 4) (ls' := [(2, 95), (0, ((c : Nat) : Int)), (0, 0), (0, 0)]) (st' := []) (w' := w) (n' := 142) rfl ?_
  have L4 : ∀ (m9 : Nat) (j : Nat), 10 - j = m9 → (j ≤ 10) → qG none (d + 1) 249 4 [(2, 95), (0, ((c : Nat) : Int)), (0, seesF w c j), (0, ((j : Nat) : Int))] [] w 142 Q9 := by
    intro m9
    induction m9 using Nat.strongRecOn with
    | ind m9 ih4 =>
    intro j hm4 hI4
    refine qG.blk 2 (pc' := 7) (ls' := [(2, 95), (0, ((c : Nat) : Int)), (0, seesF w c j), (0, ((j : Nat) : Int))]) (st' := [(0, 10), (0, ((j : Nat) : Int))]) (w' := w) (n' := 142) rfl ?_
    refine qG.br (P := ((j : Nat) : Int) < 10) (pc1 := 10) (pc2 := 68) (st1 := []) rfl (fun hj => ?_) (fun hj => ?_)
    · skip
      refine qG.blk 7 (pc' := 19) (ls' := [(2, 95), (0, ((c : Nat) : Int)), (0, seesF w c j), (0, ((j : Nat) : Int))]) (st' := [(0, 1), (0, qand (qshr (w 95 41) ((j : Nat) : Int)) 1)]) (w' := w) (n' := 142) rfl ?_
      refine qG.br (P := qand (qshr (w 95 41) ((j : Nat) : Int)) 1 = 1) (pc1 := 22) (pc2 := 62) (st1 := []) rfl (fun hbit => ?_) (fun hbit => ?_)
      · skip
        refine qG.blk 2 (pc' := 26) (ls' := [(2, 95), (0, ((c : Nat) : Int)), (0, seesF w c j), (0, ((j : Nat) : Int))]) (st' := [(2, w 95 1)]) (w' := w) (n' := 142) rfl ?_
        rw [show w 95 1 = 97 from zref hI rfl rfl]
        refine qG.blk 3 (pc' := 30) (ls' := [(2, 95), (0, ((c : Nat) : Int)), (0, seesF w c j), (0, ((j : Nat) : Int))]) (st' := [(0, wrp (10 * ((c : Nat) : Int))), (2, 97)]) (w' := w) (n' := 142) rfl ?_
        rw [show wrp (10 * ((c : Nat) : Int)) = ((10 * c : Nat) : Int) from by rw [wrp_id (by omega) (by omega)]; omega]
        refine qG.blk 2 (pc' := 32) (ls' := [(2, 95), (0, ((c : Nat) : Int)), (0, seesF w c j), (0, ((j : Nat) : Int))]) (st' := [(0, wrp (((10 * c : Nat) : Int) + ((j : Nat) : Int))), (2, 97)]) (w' := w) (n' := 142) rfl ?_
        rw [show wrp (((10 * c : Nat) : Int) + ((j : Nat) : Int)) = ((10 * c + j : Nat) : Int) from by rw [wrp_id (by omega) (by omega)]; omega]
        refine qG.ar (P := 0 ≤ ((10 * c + j : Nat) : Int) ∧ ((10 * c + j : Nat) : Int) < ((30 : Nat) : Int)) (P2 := 0 < (97 : Int) ∧ (97 : Int) ≤ ((142 : Nat) : Int)) (pc' := 33) (ls' := [(2, 95), (0, ((c : Nat) : Int)), (0, seesF w c j), (0, ((j : Nat) : Int))]) (st' := [(0, w 97 (10 * c + j))]) (w' := w) (n' := 142) rfl (by omega) (by decide) ?_
        refine qG.blk 2 (pc' := 37) (ls' := [(2, 95), (0, ((c : Nat) : Int)), (0, seesF w c j), (0, ((j : Nat) : Int))]) (st' := [(0, w 95 43), (0, w 97 (10 * c + j))]) (w' := w) (n' := 142) rfl ?_
        refine qG.br (P := w 97 (10 * c + j) = w 95 43) (pc1 := 40) (pc2 := 62) (st1 := []) rfl (fun hfr => ?_) (fun hfr => ?_)
        · skip
          refine qG.blk 7 (pc' := 49) (ls' := [(2, 95), (0, ((c : Nat) : Int)), (0, seesF w c j), (0, ((j : Nat) : Int))]) (st' := [(0, w 95 42), (0, ((j : Nat) : Int)), (0, ((j : Nat) : Int)), (0, ((c : Nat) : Int)), (2, 95), (0, seesF w c j)]) (w' := w) (n' := 142) rfl ?_
          refine qG.br (P := ((j : Nat) : Int) = w 95 42) (pc1 := 52) (pc2 := 56) (st1 := [(0, ((j : Nat) : Int)), (0, ((c : Nat) : Int)), (2, 95), (0, seesF w c j)]) rfl (fun hcd => ?_) (fun hcd => ?_)
          · skip
            refine qG.blk 2 (pc' := 57) (ls' := [(2, 95), (0, ((c : Nat) : Int)), (0, seesF w c j), (0, ((j : Nat) : Int))]) (st' := [(0, 1), (0, ((j : Nat) : Int)), (0, ((c : Nat) : Int)), (2, 95), (0, seesF w c j)]) (w' := w) (n' := 142) rfl ?_
            refine qG.call (t := 250) (na := 4) (sk := 1) (md := 1) (ls1 := [(2, 95), (0, ((c : Nat) : Int)), (0, ((j : Nat) : Int)), (0, 1), (9, 0), (9, 0)]) (r1 := [(0, seesF w c j)]) rfl rfl rfl rfl rfl (K_through (by omega) c j (1) hc (by omega) w hI) ?_
            rintro _ w7 _ ⟨rfl, hw7, rfl⟩
            rw [hw7]
            show qG none (d + 1) 249 60 [(2, 95), (0, ((c : Nat) : Int)), (0, seesF w c j), (0, ((j : Nat) : Int))] [(0, thrF w c j (1)), (0, seesF w c j)] w 142 Q9
            refine qG.blk 3 (pc' := 65) (ls' := [(2, 95), (0, ((c : Nat) : Int)), (0, qor (seesF w c j) (thrF w c j (1))), (0, wrp (((j : Nat) : Int) + 1))]) (st' := []) (w' := w) (n' := 142) rfl ?_
            rw [show wrp (((j : Nat) : Int) + 1) = ((j + 1 : Nat) : Int) from wrp_id (by omega) (by omega)]
            refine qG.blk 1 (pc' := 4) (ls' := [(2, 95), (0, ((c : Nat) : Int)), (0, qor (seesF w c j) (thrF w c j (1))), (0, ((j + 1 : Nat) : Int))]) (st' := []) (w' := w) (n' := 142) rfl ?_
            have e9 : seesF w c (j + 1) = qor (seesF w c j) (thrF w c j (1)) := by rw [seesF_s]; first | (rw [if_pos hbit, if_pos hfr, if_pos hcd]; done) | (rw [if_pos hbit, if_pos hfr, if_neg hcd]; done) | (rw [if_pos hbit, if_neg hfr]; done) | (rw [if_neg hbit]; done)
            exact e9 ▸ ih4 _ (by omega) (j + 1) rfl (by omega)
          · skip
            refine qG.blk 1 (pc' := 57) (ls' := [(2, 95), (0, ((c : Nat) : Int)), (0, seesF w c j), (0, ((j : Nat) : Int))]) (st' := [(0, 0), (0, ((j : Nat) : Int)), (0, ((c : Nat) : Int)), (2, 95), (0, seesF w c j)]) (w' := w) (n' := 142) rfl ?_
            refine qG.call (t := 250) (na := 4) (sk := 1) (md := 1) (ls1 := [(2, 95), (0, ((c : Nat) : Int)), (0, ((j : Nat) : Int)), (0, 0), (9, 0), (9, 0)]) (r1 := [(0, seesF w c j)]) rfl rfl rfl rfl rfl (K_through (by omega) c j (0) hc (by omega) w hI) ?_
            rintro _ w7 _ ⟨rfl, hw7, rfl⟩
            rw [hw7]
            show qG none (d + 1) 249 60 [(2, 95), (0, ((c : Nat) : Int)), (0, seesF w c j), (0, ((j : Nat) : Int))] [(0, thrF w c j (0)), (0, seesF w c j)] w 142 Q9
            refine qG.blk 3 (pc' := 65) (ls' := [(2, 95), (0, ((c : Nat) : Int)), (0, qor (seesF w c j) (thrF w c j (0))), (0, wrp (((j : Nat) : Int) + 1))]) (st' := []) (w' := w) (n' := 142) rfl ?_
            rw [show wrp (((j : Nat) : Int) + 1) = ((j + 1 : Nat) : Int) from wrp_id (by omega) (by omega)]
            refine qG.blk 1 (pc' := 4) (ls' := [(2, 95), (0, ((c : Nat) : Int)), (0, qor (seesF w c j) (thrF w c j (0))), (0, ((j + 1 : Nat) : Int))]) (st' := []) (w' := w) (n' := 142) rfl ?_
            have e9 : seesF w c (j + 1) = qor (seesF w c j) (thrF w c j (0)) := by rw [seesF_s]; first | (rw [if_pos hbit, if_pos hfr, if_pos hcd]; done) | (rw [if_pos hbit, if_pos hfr, if_neg hcd]; done) | (rw [if_pos hbit, if_neg hfr]; done) | (rw [if_neg hbit]; done)
            exact e9 ▸ ih4 _ (by omega) (j + 1) rfl (by omega)
        · skip
          refine qG.blk 1 (pc' := 65) (ls' := [(2, 95), (0, ((c : Nat) : Int)), (0, seesF w c j), (0, wrp (((j : Nat) : Int) + 1))]) (st' := []) (w' := w) (n' := 142) rfl ?_
          rw [show wrp (((j : Nat) : Int) + 1) = ((j + 1 : Nat) : Int) from wrp_id (by omega) (by omega)]
          refine qG.blk 1 (pc' := 4) (ls' := [(2, 95), (0, ((c : Nat) : Int)), (0, seesF w c j), (0, ((j + 1 : Nat) : Int))]) (st' := []) (w' := w) (n' := 142) rfl ?_
          have e9 : seesF w c (j + 1) = seesF w c j := by rw [seesF_s]; first | (rw [if_pos hbit, if_pos hfr, if_pos hcd]; done) | (rw [if_pos hbit, if_pos hfr, if_neg hcd]; done) | (rw [if_pos hbit, if_neg hfr]; done) | (rw [if_neg hbit]; done)
          exact e9 ▸ ih4 _ (by omega) (j + 1) rfl (by omega)
      · skip
        refine qG.blk 1 (pc' := 65) (ls' := [(2, 95), (0, ((c : Nat) : Int)), (0, seesF w c j), (0, wrp (((j : Nat) : Int) + 1))]) (st' := []) (w' := w) (n' := 142) rfl ?_
        rw [show wrp (((j : Nat) : Int) + 1) = ((j + 1 : Nat) : Int) from wrp_id (by omega) (by omega)]
        refine qG.blk 1 (pc' := 4) (ls' := [(2, 95), (0, ((c : Nat) : Int)), (0, seesF w c j), (0, ((j + 1 : Nat) : Int))]) (st' := []) (w' := w) (n' := 142) rfl ?_
        have e9 : seesF w c (j + 1) = seesF w c j := by rw [seesF_s]; first | (rw [if_pos hbit, if_pos hfr, if_pos hcd]; done) | (rw [if_pos hbit, if_pos hfr, if_neg hcd]; done) | (rw [if_pos hbit, if_neg hfr]; done) | (rw [if_neg hbit]; done)
        exact e9 ▸ ih4 _ (by omega) (j + 1) rfl (by omega)
    · skip
      refine qG.blk 1 (pc' := 69) (ls' := [(2, 95), (0, ((c : Nat) : Int)), (0, seesF w c j), (0, ((j : Nat) : Int))]) (st' := [(0, seesF w c j)]) (w' := w) (n' := 142) rfl ?_
      refine qG.ret rfl rfl ?_
      subst hQ9
      exact ⟨by rw [show j = 10 by omega], rfl, rfl⟩
  exact L4 _ (0) rfl (by omega)
/-- what a step does at once -/
noncomputable def dA (kind what : Int) (w : qW) : qW :=
  if kind = 0 then qup w 95 41 (qor (w 95 41) (qshl 1 what)) else if kind = 1 then qup w 95 41 (qand (w 95 41) (qxor (qshl 1 what) (-1))) else if kind = 3 then qup w 95 42 what else if kind = 4 then qup w 95 42 (-1)
  else if kind = 5 then qup (qup w 95 43 (1 - w 95 43)) 95 40 (wrp (w 95 40 + 1)) else w
/-- what is seen for n seconds -/
noncomputable def dB (v : Int) (s : Nat) (w : qW) : Nat → qW
  | 0 => w
  | i + 1 => qup (qup (dB v s w i) 116 (s + i) v) 95 37 ((s + i + 1 : Nat) : Int)
noncomputable def dC (v : Int) (w : qW) : qW := qup w 95 38 (qor (w 95 38) v)
noncomputable def dD (w : qW) : qW := qup w 95 39 (if w 95 39 < bitsF (w 95 41) 16 then bitsF (w 95 41) 16 else w 95 39)
noncomputable def dN (kind what : Int) : Nat := if kind = 2 then what.toNat else 1
/-- the state behind a step -/
noncomputable def doesW (w : qW) (c : Nat) (kind what : Int) : qW := dD (dC (seesF (dA kind what w) c 10) (dB (seesF (dA kind what w) c 10) (w 95 37).toNat (dA kind what w) (dN kind what)))
theorem dA_o {kind what : Int} {w : qW} {p j : Nat} (h : ¬ (p = 95 ∧ (j = 41 ∨ j = 42 ∨ j = 43 ∨ j = 40))) : dA kind what w p j = w p j := by
  have k : ∀ (v : qW) (q : Nat) (x : Int), (q = 41 ∨ q = 42 ∨ q = 43 ∨ q = 40) → qup v 95 q x p j = v p j := fun v q x hq => by
    by_cases hp : p = 95
    · subst hp
      exact qup_j (fun z => h ⟨rfl, by omega⟩)
    · rw [qup_ne hp]
  unfold dA
  (repeat' split) <;> first | rfl | (rw [k _ _ _ (by omega), k _ _ _ (by omega)]; done) | (rw [k _ _ _ (by omega)]; done)
theorem dB_o {v : Int} {s : Nat} {w : qW} {p j : Nat} (h1 : p ≠ 116) (h2 : ¬ (p = 95 ∧ j = 37)) : ∀ i, dB v s w i p j = w p j
  | 0 => rfl
  | i + 1 => by
    show qup (qup (dB v s w i) 116 (s + i) v) 95 37 _ p j = _
    by_cases hp : p = 95
    · subst hp
      rw [qup_j (fun z => h2 ⟨rfl, z⟩), qup_ne (by decide)]; exact dB_o h1 h2 i
    · rw [qup_ne hp, qup_ne h1]; exact dB_o h1 h2 i
theorem dB_s {v : Int} {s : Nat} {w : qW} (h : w 95 37 = (s : Int)) : ∀ i, dB v s w i 95 37 = ((s + i : Nat) : Int)
  | 0 => h
  | i + 1 => by show qup _ 95 37 _ 95 37 = _; rw [qup_k]; rfl
theorem dB_I {v : Int} {s : Nat} {w : qW} (hI : yInv zgf zga zra zSp w) (hv : yin (-2147483648, 2147483647) v) : ∀ i, s + i ≤ 800 → yInv zgf zga zra zSp (dB v s w i)
  | 0, _ => hI
  | i + 1, h => zup_f (zup_a (dB_I hI hv i (by omega)) (b := (-2147483648, 2147483647)) rfl rfl hv) (b := (0, 800)) rfl rfl rfl ⟨by show (0 : Int) ≤ _; omega, by show _ ≤ (800 : Int); omega⟩
theorem zfld {w : qW} (hI : yInv zgf zga zra zSp w) {j : Nat} {b : yI} (hg : zgf 95 j = some b) : yin b (w 95 j) := hI.1 95 j b hg rfl
theorem dA_I {kind what : Int} {w : qW} (hI : yInv zgf zga zra zSp w) (hw : yin (-2147483648, 2147483647) what) : yInv zgf zga zra zSp (dA kind what w) := by
  have h43 := zfld hI (j := 43) (b := (0, 1)) rfl
  have a1 : (0 : Int) ≤ w 95 43 := h43.1
  have a2 : w 95 43 ≤ (1 : Int) := h43.2
  unfold dA
  split
  · exact zup_f hI (b := (-2147483648, 2147483647)) rfl rfl rfl (qor_32 _ _)
  split
  · exact zup_f hI (b := (-2147483648, 2147483647)) rfl rfl rfl (qand_32 _ _)
  split
  · exact zup_f hI (b := (-2147483648, 2147483647)) rfl rfl rfl hw
  split
  · exact zup_f hI (b := (-2147483648, 2147483647)) rfl rfl rfl ⟨by decide, by decide⟩
  split
  · exact zup_f (zup_f hI (b := (0, 1)) rfl rfl rfl ⟨by show (0 : Int) ≤ _; omega, by show _ ≤ (1 : Int); omega⟩) (b := (-2147483648, 2147483647)) rfl rfl rfl (wrp_32 _)
  · exact hI
theorem dC_I {v : Int} {w : qW} (hI : yInv zgf zga zra zSp w) : yInv zgf zga zra zSp (dC v w) := zup_f hI (b := (-2147483648, 2147483647)) rfl rfl rfl (qor_32 _ _)
theorem dD_I {w : qW} (hI : yInv zgf zga zra zSp w) : yInv zgf zga zra zSp (dD w) := by
  have h39 := zfld hI (j := 39) (b := (0, 16)) rfl
  have hb := bitsF_in (w 95 41) 16
  refine zup_f hI (b := (0, 16)) rfl rfl rfl ?_
  split
  · exact ⟨hb.1, hb.2⟩
  · exact h39
theorem doesW_s {w : qW} {c : Nat} {kind what : Int} (hI : yInv zgf zga zra zSp w) : doesW w c kind what 95 37 = w 95 37 + (dN kind what : Nat) := by
  have h37 := zfld hI (j := 37) (b := (0, 800)) rfl
  have a1 : (0 : Int) ≤ w 95 37 := h37.1
  unfold doesW dD dC
  rw [qup_j (by decide), qup_j (by decide), dB_s (by rw [dA_o (by omega)]; omega)]
  omega
theorem doesW_I {w : qW} {c : Nat} {kind what : Int} (hI : yInv zgf zga zra zSp w) (hw : yin (-2147483648, 2147483647) what) (hs : w 95 37 + (dN kind what : Nat) ≤ 800) : yInv zgf zga zra zSp (doesW w c kind what) := by
  have h37 := zfld hI (j := 37) (b := (0, 800)) rfl
  have a1 : (0 : Int) ≤ w 95 37 := h37.1
  exact dD_I (dC_I (dB_I (dA_I hI hw) (seesF_32 10) _ (by omega)))
theorem doesW_o {w : qW} {c : Nat} {kind what : Int} {p j : Nat} (h1 : p ≠ 116) (h2 : ¬ (p = 95 ∧ 37 ≤ j ∧ j ≤ 43)) : doesW w c kind what p j = w p j := by
  have k : ∀ (v : qW) (q : Nat) (x : Int), (q = 38 ∨ q = 39) → qup v 95 q x p j = v p j := fun v q x hq => by
    by_cases hp : p = 95
    · subst hp
      exact qup_j (fun z => h2 ⟨rfl, by omega⟩)
    · rw [qup_ne hp]
  unfold doesW dD dC
  rw [k _ _ _ (by omega), k _ _ _ (by omega), dB_o h1 (by omega), dA_o (by omega)]
theorem K_doesB0 {d : Nat} (hd : 1 ≤ d) (c : Nat) (what : Int) (hw0 : -2147483648 ≤ what ∧ what ≤ 2147483647) (s : Nat) (v : Int) (hv : yin (-2147483648, 2147483647) v) (wA : qW) (hIA : yInv zgf zga zra zSp wA) (hs : wA 95 37 = (s : Int)) (hs8 : s + dN 0 what ≤ 800) : qG none d 252 85 [(2, 95), (0, ((c : Nat) : Int)), (0, 0), (0, what), (9, 0), (9, 0)] [(0, v)] wA 142 (fun (r : qV) (w1 : qW) (n1 : Nat) => r = (9, 0) ∧ w1 = dD (dC v (dB v s wA (dN 0 what))) ∧ n1 = 142) := by
  generalize hQ9 : (fun (r : qV) (w1 : qW) (n1 : Nat) => r = (9, 0) ∧ w1 = dD (dC v (dB v s wA (dN 0 what))) ∧ n1 = 142) = Q9
  obtain ⟨d, rfl⟩ : ∃ d9, d = d9 + 1 := ⟨d - 1, by omega⟩
  have hdn : dN 0 what = 1 := rfl
  refine qG.blk 3 (pc' := 90) (ls' := [(2, 95), (0, ((c : Nat) : Int)), (0, 0), (0, what), (0, v), (0, 0)]) (st' := []) (w' := wA) (n' := 142) rfl ?_
  have L90 : ∀ (m9 : Nat) (i : Nat) (wB : qW), dN 0 what - i = m9 → (i ≤ dN 0 what ∧ wB = dB v s wA i) → qG none (d + 1) 252 90 [(2, 95), (0, ((c : Nat) : Int)), (0, 0), (0, what), (0, v), (0, ((i : Nat) : Int))] [] wB 142 Q9 := by
    intro m9
    induction m9 using Nat.strongRecOn with
    | ind m9 ih90 =>
    intro i wB hm90 hI90
    obtain ⟨hi9, hwB⟩ := hI90
    refine qG.blk 3 (pc' := 94) (ls' := [(2, 95), (0, ((c : Nat) : Int)), (0, 0), (0, what), (0, v), (0, ((i : Nat) : Int))]) (st' := [(0, 2), (0, 0), (0, ((i : Nat) : Int))]) (w' := wB) (n' := 142) rfl ?_
    refine qG.br (P := (0 : Int) = 2) (pc1 := 97) (pc2 := 101) (st1 := [(0, ((i : Nat) : Int))]) rfl (fun h1 => ?_) (fun h1 => ?_)
    · exact absurd h1 (by decide)
    · skip
      refine qG.blk 1 (pc' := 102) (ls' := [(2, 95), (0, ((c : Nat) : Int)), (0, 0), (0, what), (0, v), (0, ((i : Nat) : Int))]) (st' := [(0, 1), (0, ((i : Nat) : Int))]) (w' := wB) (n' := 142) rfl ?_
      refine qG.br (P := ((i : Nat) : Int) < 1) (pc1 := 105) (pc2 := 132) (st1 := []) rfl (fun hlim => ?_) (fun hlim => ?_)
      · skip
        refine qG.blk 2 (pc' := 109) (ls' := [(2, 95), (0, ((c : Nat) : Int)), (0, 0), (0, what), (0, v), (0, ((i : Nat) : Int))]) (st' := [(2, wB 95 36)]) (w' := wB) (n' := 142) rfl ?_
        rw [show wB 95 36 = 116 from (congrFun (congrFun hwB 95) 36).trans ((dB_o (by decide) (by omega) i).trans (zref hIA rfl rfl))]
        refine qG.blk 2 (pc' := 113) (ls' := [(2, 95), (0, ((c : Nat) : Int)), (0, 0), (0, what), (0, v), (0, ((i : Nat) : Int))]) (st' := [(0, wB 95 37), (2, 116)]) (w' := wB) (n' := 142) rfl ?_
        rw [show wB 95 37 = ((s + i : Nat) : Int) from (congrFun (congrFun hwB 95) 37).trans (dB_s hs i)]
        refine qG.blk 1 (pc' := 115) (ls' := [(2, 95), (0, ((c : Nat) : Int)), (0, 0), (0, what), (0, v), (0, ((i : Nat) : Int))]) (st' := [(0, v), (0, ((s + i : Nat) : Int)), (2, 116)]) (w' := wB) (n' := 142) rfl ?_
        refine qG.ist (m := 900) rfl rfl (by omega) (by decide) ?_
        show qG none (d + 1) 252 116 [(2, 95), (0, ((c : Nat) : Int)), (0, 0), (0, what), (0, v), (0, ((i : Nat) : Int))] [] (qup wB 116 (s + i) v) 142 Q9
        refine qG.blk 3 (pc' := 121) (ls' := [(2, 95), (0, ((c : Nat) : Int)), (0, 0), (0, what), (0, v), (0, ((i : Nat) : Int))]) (st' := [(0, wB 95 37), (2, 95)]) (w' := (qup wB 116 (s + i) v)) (n' := 142) rfl ?_
        rw [show wB 95 37 = ((s + i : Nat) : Int) from (congrFun (congrFun hwB 95) 37).trans (dB_s hs i)]
        refine qG.blk 2 (pc' := 123) (ls' := [(2, 95), (0, ((c : Nat) : Int)), (0, 0), (0, what), (0, v), (0, ((i : Nat) : Int))]) (st' := [(0, wrp (((s + i : Nat) : Int) + 1)), (2, 95)]) (w' := (qup wB 116 (s + i) v)) (n' := 142) rfl ?_
        rw [show wrp (((s + i : Nat) : Int) + 1) = ((s + i + 1 : Nat) : Int) from by rw [wrp_id (by omega) (by omega)]; omega]
        refine qG.blk 2 (pc' := 129) (ls' := [(2, 95), (0, ((c : Nat) : Int)), (0, 0), (0, what), (0, v), (0, wrp (((i : Nat) : Int) + 1))]) (st' := []) (w' := (qup (qup wB 116 (s + i) v) 95 37 ((s + i + 1 : Nat) : Int))) (n' := 142) rfl ?_
        rw [show wrp (((i : Nat) : Int) + 1) = ((i + 1 : Nat) : Int) from wrp_id (by omega) (by omega)]
        refine qG.blk 1 (pc' := 90) (ls' := [(2, 95), (0, ((c : Nat) : Int)), (0, 0), (0, what), (0, v), (0, ((i + 1 : Nat) : Int))]) (st' := []) (w' := (qup (qup wB 116 (s + i) v) 95 37 ((s + i + 1 : Nat) : Int))) (n' := 142) rfl ?_
        exact ih90 _ (by omega) (i + 1) ((qup (qup wB 116 (s + i) v) 95 37 ((s + i + 1 : Nat) : Int))) rfl (⟨by omega, by rw [hwB]; rfl⟩)
      · skip
        refine qG.blk 8 (pc' := 147) (ls' := [(2, 95), (0, ((c : Nat) : Int)), (0, 0), (0, what), (0, v), (0, ((i : Nat) : Int))]) (st' := [(0, wB 95 41)]) (w' := (qup wB 95 38 (qor (wB 95 38) v))) (n' := 142) rfl ?_
        refine qG.call (t := 211) (na := 1) (sk := 0) (md := 0) (ls1 := [(0, wB 95 41), (9, 0), (9, 0)]) (r1 := []) rfl rfl rfl rfl rfl (K_bits (by omega) _ _) ?_
        rintro _ w7 _ ⟨rfl, hw7, rfl⟩
        rw [hw7]
        show qG none (d + 1) 252 150 [(2, 95), (0, ((c : Nat) : Int)), (0, 0), (0, what), (0, v), (0, ((i : Nat) : Int))] [(0, bitsF (wB 95 41) 16)] (qup wB 95 38 (qor (wB 95 38) v)) 142 Q9
        refine qG.blk 5 (pc' := 159) (ls' := [(2, 95), (0, ((c : Nat) : Int)), (0, 0), (0, what), (0, v), (0, bitsF (wB 95 41) 16)]) (st' := [(0, wB 95 39), (0, bitsF (wB 95 41) 16), (2, 95)]) (w' := (qup wB 95 38 (qor (wB 95 38) v))) (n' := 142) rfl ?_
        refine qG.br (P := wB 95 39 < bitsF (wB 95 41) 16) (pc1 := 162) (pc2 := 167) (st1 := [(2, 95)]) rfl (fun h2 => ?_) (fun h2 => ?_)
        · skip
          refine qG.blk 3 (pc' := 174) (ls' := [(2, 95), (0, ((c : Nat) : Int)), (0, 0), (0, what), (0, v), (0, bitsF (wB 95 41) 16)]) (st' := []) (w' := (qup (qup wB 95 38 (qor (wB 95 38) v)) 95 39 (bitsF (wB 95 41) 16))) (n' := 142) rfl ?_
          refine qG.retv rfl rfl ?_
          subst hQ9
          refine ⟨rfl, ?_, rfl⟩
          have hi : i = dN 0 what := by omega
          subst hwB
          subst hi
          unfold dD dC
          simp only [qup_k, qup_j (show (39 : Nat) ≠ 38 by decide), qup_j (show (41 : Nat) ≠ 38 by decide)] at *
          first | rw [if_pos (by omega)] | rw [if_neg (by omega)]
        · skip
          refine qG.blk 3 (pc' := 174) (ls' := [(2, 95), (0, ((c : Nat) : Int)), (0, 0), (0, what), (0, v), (0, bitsF (wB 95 41) 16)]) (st' := []) (w' := (qup (qup wB 95 38 (qor (wB 95 38) v)) 95 39 (wB 95 39))) (n' := 142) rfl ?_
          refine qG.retv rfl rfl ?_
          subst hQ9
          refine ⟨rfl, ?_, rfl⟩
          have hi : i = dN 0 what := by omega
          subst hwB
          subst hi
          unfold dD dC
          simp only [qup_k, qup_j (show (39 : Nat) ≠ 38 by decide), qup_j (show (41 : Nat) ≠ 38 by decide)] at *
          first | rw [if_pos (by omega)] | rw [if_neg (by omega)]
  exact L90 _ (0) (wA) rfl (⟨by omega, rfl⟩)
theorem K_does0 {d : Nat} (hd : 2 ≤ d) (c : Nat) (what : Int) (hc : c < 3) (hw0 : yin (-2147483648, 2147483647) what) (w : qW) (hI : yInv zgf zga zra zSp w) (hs8 : w 95 37 + (dN 0 what : Nat) ≤ 800) : qG none d 252 0 [(2, 95), (0, ((c : Nat) : Int)), (0, 0), (0, what), (9, 0), (9, 0)] [] w 142 (fun (r : qV) (w1 : qW) (n1 : Nat) => r = (9, 0) ∧ w1 = doesW w c 0 what ∧ n1 = 142) := by
  generalize hQ9 : (fun (r : qV) (w1 : qW) (n1 : Nat) => r = (9, 0) ∧ w1 = doesW w c 0 what ∧ n1 = 142) = Q9
  have h43 := zfld hI (j := 43) (b := (0, 1)) rfl
  have a43 : (0 : Int) ≤ w 95 43 := h43.1
  have b43 : w 95 43 ≤ (1 : Int) := h43.2
  have h37 := zfld hI (j := 37) (b := (0, 800)) rfl
  have a37 : (0 : Int) ≤ w 95 37 := h37.1
  have hIA : yInv zgf zga zra zSp (dA 0 what w) := dA_I hI hw0
  obtain ⟨d, rfl⟩ : ∃ d9, d = d9 + 1 := ⟨d - 1, by omega⟩
  refine qG.blk 1 (pc' := 1) (ls' := [(2, 95), (0, ((c : Nat) : Int)), (0, 0), (0, what), (9, 0), (9, 0)]) (st' := [(0, 0)]) (w' := w) (n' := 142) rfl ?_
  refine qG.br (P := (0 : Int) = 0) (pc1 := 4) (pc2 := 16) (st1 := []) rfl (fun h1 => ?_) (fun h1 => ?_)
  · skip
    refine qG.blk 10 (pc' := 18) (ls' := [(2, 95), (0, ((c : Nat) : Int)), (0, 0), (0, what), (9, 0), (9, 0)]) (st' := [(0, 1), (0, 0)]) (w' := (qup w 95 41 (qor (w 95 41) (qshl 1 what)))) (n' := 142) rfl ?_
    refine qG.br (P := (0 : Int) = 1) (pc1 := 21) (pc2 := 35) (st1 := []) rfl (fun h2 => ?_) (fun h2 => ?_)
    · exact absurd h2 (by decide)
    · skip
      refine qG.blk 2 (pc' := 37) (ls' := [(2, 95), (0, ((c : Nat) : Int)), (0, 0), (0, what), (9, 0), (9, 0)]) (st' := [(0, 3), (0, 0)]) (w' := (qup w 95 41 (qor (w 95 41) (qshl 1 what)))) (n' := 142) rfl ?_
      refine qG.br (P := (0 : Int) = 3) (pc1 := 40) (pc2 := 45) (st1 := []) rfl (fun h3 => ?_) (fun h3 => ?_)
      · exact absurd h3 (by decide)
      · skip
        refine qG.blk 2 (pc' := 47) (ls' := [(2, 95), (0, ((c : Nat) : Int)), (0, 0), (0, what), (9, 0), (9, 0)]) (st' := [(0, 4), (0, 0)]) (w' := (qup w 95 41 (qor (w 95 41) (qshl 1 what)))) (n' := 142) rfl ?_
        refine qG.br (P := (0 : Int) = 4) (pc1 := 50) (pc2 := 55) (st1 := []) rfl (fun h4 => ?_) (fun h4 => ?_)
        · exact absurd h4 (by decide)
        · skip
          refine qG.blk 2 (pc' := 57) (ls' := [(2, 95), (0, ((c : Nat) : Int)), (0, 0), (0, what), (9, 0), (9, 0)]) (st' := [(0, 5), (0, 0)]) (w' := (qup w 95 41 (qor (w 95 41) (qshl 1 what)))) (n' := 142) rfl ?_
          refine qG.br (P := (0 : Int) = 5) (pc1 := 60) (pc2 := 80) (st1 := []) rfl (fun h5 => ?_) (fun h5 => ?_)
          · exact absurd h5 (by decide)
          · skip
            refine qG.blk 2 (pc' := 82) (ls' := [(2, 95), (0, ((c : Nat) : Int)), (0, 0), (0, what), (9, 0), (9, 0)]) (st' := [(0, ((c : Nat) : Int)), (2, 95)]) (w' := (qup w 95 41 (qor (w 95 41) (qshl 1 what)))) (n' := 142) rfl ?_
            refine qG.call (t := 249) (na := 2) (sk := 1) (md := 1) (ls1 := [(2, 95), (0, ((c : Nat) : Int)), (9, 0), (9, 0)]) (r1 := []) rfl rfl rfl rfl rfl (K_sees (by omega) c hc ((qup w 95 41 (qor (w 95 41) (qshl 1 what)))) hIA) ?_
            rintro _ w7 _ ⟨rfl, hw7, rfl⟩
            rw [hw7]
            subst hQ9
            exact K_doesB0 (by omega) c what hw0 (w 95 37).toNat _ (seesF_32 10) (dA 0 what w) hIA (by rw [dA_o (by omega)]; omega) (by omega)
  · exact absurd h1 (by decide)
theorem K_doesB1 {d : Nat} (hd : 1 ≤ d) (c : Nat) (what : Int) (hw0 : -2147483648 ≤ what ∧ what ≤ 2147483647) (s : Nat) (v : Int) (hv : yin (-2147483648, 2147483647) v) (wA : qW) (hIA : yInv zgf zga zra zSp wA) (hs : wA 95 37 = (s : Int)) (hs8 : s + dN 1 what ≤ 800) : qG none d 252 85 [(2, 95), (0, ((c : Nat) : Int)), (0, 1), (0, what), (9, 0), (9, 0)] [(0, v)] wA 142 (fun (r : qV) (w1 : qW) (n1 : Nat) => r = (9, 0) ∧ w1 = dD (dC v (dB v s wA (dN 1 what))) ∧ n1 = 142) := by
  generalize hQ9 : (fun (r : qV) (w1 : qW) (n1 : Nat) => r = (9, 0) ∧ w1 = dD (dC v (dB v s wA (dN 1 what))) ∧ n1 = 142) = Q9
  obtain ⟨d, rfl⟩ : ∃ d9, d = d9 + 1 := ⟨d - 1, by omega⟩
  have hdn : dN 1 what = 1 := rfl
  refine qG.blk 3 (pc' := 90) (ls' := [(2, 95), (0, ((c : Nat) : Int)), (0, 1), (0, what), (0, v), (0, 0)]) (st' := []) (w' := wA) (n' := 142) rfl ?_
  have L90 : ∀ (m9 : Nat) (i : Nat) (wB : qW), dN 1 what - i = m9 → (i ≤ dN 1 what ∧ wB = dB v s wA i) → qG none (d + 1) 252 90 [(2, 95), (0, ((c : Nat) : Int)), (0, 1), (0, what), (0, v), (0, ((i : Nat) : Int))] [] wB 142 Q9 := by
    intro m9
    induction m9 using Nat.strongRecOn with
    | ind m9 ih90 =>
    intro i wB hm90 hI90
    obtain ⟨hi9, hwB⟩ := hI90
    refine qG.blk 3 (pc' := 94) (ls' := [(2, 95), (0, ((c : Nat) : Int)), (0, 1), (0, what), (0, v), (0, ((i : Nat) : Int))]) (st' := [(0, 2), (0, 1), (0, ((i : Nat) : Int))]) (w' := wB) (n' := 142) rfl ?_
    refine qG.br (P := (1 : Int) = 2) (pc1 := 97) (pc2 := 101) (st1 := [(0, ((i : Nat) : Int))]) rfl (fun h1 => ?_) (fun h1 => ?_)
    · exact absurd h1 (by decide)
    · skip
      refine qG.blk 1 (pc' := 102) (ls' := [(2, 95), (0, ((c : Nat) : Int)), (0, 1), (0, what), (0, v), (0, ((i : Nat) : Int))]) (st' := [(0, 1), (0, ((i : Nat) : Int))]) (w' := wB) (n' := 142) rfl ?_
      refine qG.br (P := ((i : Nat) : Int) < 1) (pc1 := 105) (pc2 := 132) (st1 := []) rfl (fun hlim => ?_) (fun hlim => ?_)
      · skip
        refine qG.blk 2 (pc' := 109) (ls' := [(2, 95), (0, ((c : Nat) : Int)), (0, 1), (0, what), (0, v), (0, ((i : Nat) : Int))]) (st' := [(2, wB 95 36)]) (w' := wB) (n' := 142) rfl ?_
        rw [show wB 95 36 = 116 from (congrFun (congrFun hwB 95) 36).trans ((dB_o (by decide) (by omega) i).trans (zref hIA rfl rfl))]
        refine qG.blk 2 (pc' := 113) (ls' := [(2, 95), (0, ((c : Nat) : Int)), (0, 1), (0, what), (0, v), (0, ((i : Nat) : Int))]) (st' := [(0, wB 95 37), (2, 116)]) (w' := wB) (n' := 142) rfl ?_
        rw [show wB 95 37 = ((s + i : Nat) : Int) from (congrFun (congrFun hwB 95) 37).trans (dB_s hs i)]
        refine qG.blk 1 (pc' := 115) (ls' := [(2, 95), (0, ((c : Nat) : Int)), (0, 1), (0, what), (0, v), (0, ((i : Nat) : Int))]) (st' := [(0, v), (0, ((s + i : Nat) : Int)), (2, 116)]) (w' := wB) (n' := 142) rfl ?_
        refine qG.ist (m := 900) rfl rfl (by omega) (by decide) ?_
        show qG none (d + 1) 252 116 [(2, 95), (0, ((c : Nat) : Int)), (0, 1), (0, what), (0, v), (0, ((i : Nat) : Int))] [] (qup wB 116 (s + i) v) 142 Q9
        refine qG.blk 3 (pc' := 121) (ls' := [(2, 95), (0, ((c : Nat) : Int)), (0, 1), (0, what), (0, v), (0, ((i : Nat) : Int))]) (st' := [(0, wB 95 37), (2, 95)]) (w' := (qup wB 116 (s + i) v)) (n' := 142) rfl ?_
        rw [show wB 95 37 = ((s + i : Nat) : Int) from (congrFun (congrFun hwB 95) 37).trans (dB_s hs i)]
        refine qG.blk 2 (pc' := 123) (ls' := [(2, 95), (0, ((c : Nat) : Int)), (0, 1), (0, what), (0, v), (0, ((i : Nat) : Int))]) (st' := [(0, wrp (((s + i : Nat) : Int) + 1)), (2, 95)]) (w' := (qup wB 116 (s + i) v)) (n' := 142) rfl ?_
        rw [show wrp (((s + i : Nat) : Int) + 1) = ((s + i + 1 : Nat) : Int) from by rw [wrp_id (by omega) (by omega)]; omega]
        refine qG.blk 2 (pc' := 129) (ls' := [(2, 95), (0, ((c : Nat) : Int)), (0, 1), (0, what), (0, v), (0, wrp (((i : Nat) : Int) + 1))]) (st' := []) (w' := (qup (qup wB 116 (s + i) v) 95 37 ((s + i + 1 : Nat) : Int))) (n' := 142) rfl ?_
        rw [show wrp (((i : Nat) : Int) + 1) = ((i + 1 : Nat) : Int) from wrp_id (by omega) (by omega)]
        refine qG.blk 1 (pc' := 90) (ls' := [(2, 95), (0, ((c : Nat) : Int)), (0, 1), (0, what), (0, v), (0, ((i + 1 : Nat) : Int))]) (st' := []) (w' := (qup (qup wB 116 (s + i) v) 95 37 ((s + i + 1 : Nat) : Int))) (n' := 142) rfl ?_
        exact ih90 _ (by omega) (i + 1) ((qup (qup wB 116 (s + i) v) 95 37 ((s + i + 1 : Nat) : Int))) rfl (⟨by omega, by rw [hwB]; rfl⟩)
      · skip
        refine qG.blk 8 (pc' := 147) (ls' := [(2, 95), (0, ((c : Nat) : Int)), (0, 1), (0, what), (0, v), (0, ((i : Nat) : Int))]) (st' := [(0, wB 95 41)]) (w' := (qup wB 95 38 (qor (wB 95 38) v))) (n' := 142) rfl ?_
        refine qG.call (t := 211) (na := 1) (sk := 0) (md := 0) (ls1 := [(0, wB 95 41), (9, 0), (9, 0)]) (r1 := []) rfl rfl rfl rfl rfl (K_bits (by omega) _ _) ?_
        rintro _ w7 _ ⟨rfl, hw7, rfl⟩
        rw [hw7]
        show qG none (d + 1) 252 150 [(2, 95), (0, ((c : Nat) : Int)), (0, 1), (0, what), (0, v), (0, ((i : Nat) : Int))] [(0, bitsF (wB 95 41) 16)] (qup wB 95 38 (qor (wB 95 38) v)) 142 Q9
        refine qG.blk 5 (pc' := 159) (ls' := [(2, 95), (0, ((c : Nat) : Int)), (0, 1), (0, what), (0, v), (0, bitsF (wB 95 41) 16)]) (st' := [(0, wB 95 39), (0, bitsF (wB 95 41) 16), (2, 95)]) (w' := (qup wB 95 38 (qor (wB 95 38) v))) (n' := 142) rfl ?_
        refine qG.br (P := wB 95 39 < bitsF (wB 95 41) 16) (pc1 := 162) (pc2 := 167) (st1 := [(2, 95)]) rfl (fun h2 => ?_) (fun h2 => ?_)
        · skip
          refine qG.blk 3 (pc' := 174) (ls' := [(2, 95), (0, ((c : Nat) : Int)), (0, 1), (0, what), (0, v), (0, bitsF (wB 95 41) 16)]) (st' := []) (w' := (qup (qup wB 95 38 (qor (wB 95 38) v)) 95 39 (bitsF (wB 95 41) 16))) (n' := 142) rfl ?_
          refine qG.retv rfl rfl ?_
          subst hQ9
          refine ⟨rfl, ?_, rfl⟩
          have hi : i = dN 1 what := by omega
          subst hwB
          subst hi
          unfold dD dC
          simp only [qup_k, qup_j (show (39 : Nat) ≠ 38 by decide), qup_j (show (41 : Nat) ≠ 38 by decide)] at *
          first | rw [if_pos (by omega)] | rw [if_neg (by omega)]
        · skip
          refine qG.blk 3 (pc' := 174) (ls' := [(2, 95), (0, ((c : Nat) : Int)), (0, 1), (0, what), (0, v), (0, bitsF (wB 95 41) 16)]) (st' := []) (w' := (qup (qup wB 95 38 (qor (wB 95 38) v)) 95 39 (wB 95 39))) (n' := 142) rfl ?_
          refine qG.retv rfl rfl ?_
          subst hQ9
          refine ⟨rfl, ?_, rfl⟩
          have hi : i = dN 1 what := by omega
          subst hwB
          subst hi
          unfold dD dC
          simp only [qup_k, qup_j (show (39 : Nat) ≠ 38 by decide), qup_j (show (41 : Nat) ≠ 38 by decide)] at *
          first | rw [if_pos (by omega)] | rw [if_neg (by omega)]
  exact L90 _ (0) (wA) rfl (⟨by omega, rfl⟩)
theorem K_does1 {d : Nat} (hd : 2 ≤ d) (c : Nat) (what : Int) (hc : c < 3) (hw0 : yin (-2147483648, 2147483647) what) (w : qW) (hI : yInv zgf zga zra zSp w) (hs8 : w 95 37 + (dN 1 what : Nat) ≤ 800) : qG none d 252 0 [(2, 95), (0, ((c : Nat) : Int)), (0, 1), (0, what), (9, 0), (9, 0)] [] w 142 (fun (r : qV) (w1 : qW) (n1 : Nat) => r = (9, 0) ∧ w1 = doesW w c 1 what ∧ n1 = 142) := by
  generalize hQ9 : (fun (r : qV) (w1 : qW) (n1 : Nat) => r = (9, 0) ∧ w1 = doesW w c 1 what ∧ n1 = 142) = Q9
  have h43 := zfld hI (j := 43) (b := (0, 1)) rfl
  have a43 : (0 : Int) ≤ w 95 43 := h43.1
  have b43 : w 95 43 ≤ (1 : Int) := h43.2
  have h37 := zfld hI (j := 37) (b := (0, 800)) rfl
  have a37 : (0 : Int) ≤ w 95 37 := h37.1
  have hIA : yInv zgf zga zra zSp (dA 1 what w) := dA_I hI hw0
  obtain ⟨d, rfl⟩ : ∃ d9, d = d9 + 1 := ⟨d - 1, by omega⟩
  refine qG.blk 1 (pc' := 1) (ls' := [(2, 95), (0, ((c : Nat) : Int)), (0, 1), (0, what), (9, 0), (9, 0)]) (st' := [(0, 1)]) (w' := w) (n' := 142) rfl ?_
  refine qG.br (P := (1 : Int) = 0) (pc1 := 4) (pc2 := 16) (st1 := []) rfl (fun h1 => ?_) (fun h1 => ?_)
  · exact absurd h1 (by decide)
  · skip
    refine qG.blk 2 (pc' := 18) (ls' := [(2, 95), (0, ((c : Nat) : Int)), (0, 1), (0, what), (9, 0), (9, 0)]) (st' := [(0, 1), (0, 1)]) (w' := w) (n' := 142) rfl ?_
    refine qG.br (P := (1 : Int) = 1) (pc1 := 21) (pc2 := 35) (st1 := []) rfl (fun h2 => ?_) (fun h2 => ?_)
    · skip
      refine qG.blk 12 (pc' := 37) (ls' := [(2, 95), (0, ((c : Nat) : Int)), (0, 1), (0, what), (9, 0), (9, 0)]) (st' := [(0, 3), (0, 1)]) (w' := (qup w 95 41 (qand (w 95 41) (qxor (qshl 1 what) (-1))))) (n' := 142) rfl ?_
      refine qG.br (P := (1 : Int) = 3) (pc1 := 40) (pc2 := 45) (st1 := []) rfl (fun h3 => ?_) (fun h3 => ?_)
      · exact absurd h3 (by decide)
      · skip
        refine qG.blk 2 (pc' := 47) (ls' := [(2, 95), (0, ((c : Nat) : Int)), (0, 1), (0, what), (9, 0), (9, 0)]) (st' := [(0, 4), (0, 1)]) (w' := (qup w 95 41 (qand (w 95 41) (qxor (qshl 1 what) (-1))))) (n' := 142) rfl ?_
        refine qG.br (P := (1 : Int) = 4) (pc1 := 50) (pc2 := 55) (st1 := []) rfl (fun h4 => ?_) (fun h4 => ?_)
        · exact absurd h4 (by decide)
        · skip
          refine qG.blk 2 (pc' := 57) (ls' := [(2, 95), (0, ((c : Nat) : Int)), (0, 1), (0, what), (9, 0), (9, 0)]) (st' := [(0, 5), (0, 1)]) (w' := (qup w 95 41 (qand (w 95 41) (qxor (qshl 1 what) (-1))))) (n' := 142) rfl ?_
          refine qG.br (P := (1 : Int) = 5) (pc1 := 60) (pc2 := 80) (st1 := []) rfl (fun h5 => ?_) (fun h5 => ?_)
          · exact absurd h5 (by decide)
          · skip
            refine qG.blk 2 (pc' := 82) (ls' := [(2, 95), (0, ((c : Nat) : Int)), (0, 1), (0, what), (9, 0), (9, 0)]) (st' := [(0, ((c : Nat) : Int)), (2, 95)]) (w' := (qup w 95 41 (qand (w 95 41) (qxor (qshl 1 what) (-1))))) (n' := 142) rfl ?_
            refine qG.call (t := 249) (na := 2) (sk := 1) (md := 1) (ls1 := [(2, 95), (0, ((c : Nat) : Int)), (9, 0), (9, 0)]) (r1 := []) rfl rfl rfl rfl rfl (K_sees (by omega) c hc ((qup w 95 41 (qand (w 95 41) (qxor (qshl 1 what) (-1))))) hIA) ?_
            rintro _ w7 _ ⟨rfl, hw7, rfl⟩
            rw [hw7]
            subst hQ9
            exact K_doesB1 (by omega) c what hw0 (w 95 37).toNat _ (seesF_32 10) (dA 1 what w) hIA (by rw [dA_o (by omega)]; omega) (by omega)
    · exact absurd h2 (by decide)
theorem K_doesB2 {d : Nat} (hd : 1 ≤ d) (c : Nat) (what : Int) (hw0 : -2147483648 ≤ what ∧ what ≤ 2147483647) (s : Nat) (v : Int) (hv : yin (-2147483648, 2147483647) v) (wA : qW) (hIA : yInv zgf zga zra zSp wA) (hs : wA 95 37 = (s : Int)) (hs8 : s + dN 2 what ≤ 800) : qG none d 252 85 [(2, 95), (0, ((c : Nat) : Int)), (0, 2), (0, what), (9, 0), (9, 0)] [(0, v)] wA 142 (fun (r : qV) (w1 : qW) (n1 : Nat) => r = (9, 0) ∧ w1 = dD (dC v (dB v s wA (dN 2 what))) ∧ n1 = 142) := by
  generalize hQ9 : (fun (r : qV) (w1 : qW) (n1 : Nat) => r = (9, 0) ∧ w1 = dD (dC v (dB v s wA (dN 2 what))) ∧ n1 = 142) = Q9
  obtain ⟨d, rfl⟩ : ∃ d9, d = d9 + 1 := ⟨d - 1, by omega⟩
  have hdn : dN 2 what = what.toNat := rfl
  refine qG.blk 3 (pc' := 90) (ls' := [(2, 95), (0, ((c : Nat) : Int)), (0, 2), (0, what), (0, v), (0, 0)]) (st' := []) (w' := wA) (n' := 142) rfl ?_
  have L90 : ∀ (m9 : Nat) (i : Nat) (wB : qW), dN 2 what - i = m9 → (i ≤ dN 2 what ∧ wB = dB v s wA i) → qG none (d + 1) 252 90 [(2, 95), (0, ((c : Nat) : Int)), (0, 2), (0, what), (0, v), (0, ((i : Nat) : Int))] [] wB 142 Q9 := by
    intro m9
    induction m9 using Nat.strongRecOn with
    | ind m9 ih90 =>
    intro i wB hm90 hI90
    obtain ⟨hi9, hwB⟩ := hI90
    refine qG.blk 3 (pc' := 94) (ls' := [(2, 95), (0, ((c : Nat) : Int)), (0, 2), (0, what), (0, v), (0, ((i : Nat) : Int))]) (st' := [(0, 2), (0, 2), (0, ((i : Nat) : Int))]) (w' := wB) (n' := 142) rfl ?_
    refine qG.br (P := (2 : Int) = 2) (pc1 := 97) (pc2 := 101) (st1 := [(0, ((i : Nat) : Int))]) rfl (fun h1 => ?_) (fun h1 => ?_)
    · skip
      refine qG.blk 2 (pc' := 102) (ls' := [(2, 95), (0, ((c : Nat) : Int)), (0, 2), (0, what), (0, v), (0, ((i : Nat) : Int))]) (st' := [(0, what), (0, ((i : Nat) : Int))]) (w' := wB) (n' := 142) rfl ?_
      refine qG.br (P := ((i : Nat) : Int) < what) (pc1 := 105) (pc2 := 132) (st1 := []) rfl (fun hlim => ?_) (fun hlim => ?_)
      · skip
        refine qG.blk 2 (pc' := 109) (ls' := [(2, 95), (0, ((c : Nat) : Int)), (0, 2), (0, what), (0, v), (0, ((i : Nat) : Int))]) (st' := [(2, wB 95 36)]) (w' := wB) (n' := 142) rfl ?_
        rw [show wB 95 36 = 116 from (congrFun (congrFun hwB 95) 36).trans ((dB_o (by decide) (by omega) i).trans (zref hIA rfl rfl))]
        refine qG.blk 2 (pc' := 113) (ls' := [(2, 95), (0, ((c : Nat) : Int)), (0, 2), (0, what), (0, v), (0, ((i : Nat) : Int))]) (st' := [(0, wB 95 37), (2, 116)]) (w' := wB) (n' := 142) rfl ?_
        rw [show wB 95 37 = ((s + i : Nat) : Int) from (congrFun (congrFun hwB 95) 37).trans (dB_s hs i)]
        refine qG.blk 1 (pc' := 115) (ls' := [(2, 95), (0, ((c : Nat) : Int)), (0, 2), (0, what), (0, v), (0, ((i : Nat) : Int))]) (st' := [(0, v), (0, ((s + i : Nat) : Int)), (2, 116)]) (w' := wB) (n' := 142) rfl ?_
        refine qG.ist (m := 900) rfl rfl (by omega) (by decide) ?_
        show qG none (d + 1) 252 116 [(2, 95), (0, ((c : Nat) : Int)), (0, 2), (0, what), (0, v), (0, ((i : Nat) : Int))] [] (qup wB 116 (s + i) v) 142 Q9
        refine qG.blk 3 (pc' := 121) (ls' := [(2, 95), (0, ((c : Nat) : Int)), (0, 2), (0, what), (0, v), (0, ((i : Nat) : Int))]) (st' := [(0, wB 95 37), (2, 95)]) (w' := (qup wB 116 (s + i) v)) (n' := 142) rfl ?_
        rw [show wB 95 37 = ((s + i : Nat) : Int) from (congrFun (congrFun hwB 95) 37).trans (dB_s hs i)]
        refine qG.blk 2 (pc' := 123) (ls' := [(2, 95), (0, ((c : Nat) : Int)), (0, 2), (0, what), (0, v), (0, ((i : Nat) : Int))]) (st' := [(0, wrp (((s + i : Nat) : Int) + 1)), (2, 95)]) (w' := (qup wB 116 (s + i) v)) (n' := 142) rfl ?_
        rw [show wrp (((s + i : Nat) : Int) + 1) = ((s + i + 1 : Nat) : Int) from by rw [wrp_id (by omega) (by omega)]; omega]
        refine qG.blk 2 (pc' := 129) (ls' := [(2, 95), (0, ((c : Nat) : Int)), (0, 2), (0, what), (0, v), (0, wrp (((i : Nat) : Int) + 1))]) (st' := []) (w' := (qup (qup wB 116 (s + i) v) 95 37 ((s + i + 1 : Nat) : Int))) (n' := 142) rfl ?_
        rw [show wrp (((i : Nat) : Int) + 1) = ((i + 1 : Nat) : Int) from wrp_id (by omega) (by omega)]
        refine qG.blk 1 (pc' := 90) (ls' := [(2, 95), (0, ((c : Nat) : Int)), (0, 2), (0, what), (0, v), (0, ((i + 1 : Nat) : Int))]) (st' := []) (w' := (qup (qup wB 116 (s + i) v) 95 37 ((s + i + 1 : Nat) : Int))) (n' := 142) rfl ?_
        exact ih90 _ (by omega) (i + 1) ((qup (qup wB 116 (s + i) v) 95 37 ((s + i + 1 : Nat) : Int))) rfl (⟨by omega, by rw [hwB]; rfl⟩)
      · skip
        refine qG.blk 8 (pc' := 147) (ls' := [(2, 95), (0, ((c : Nat) : Int)), (0, 2), (0, what), (0, v), (0, ((i : Nat) : Int))]) (st' := [(0, wB 95 41)]) (w' := (qup wB 95 38 (qor (wB 95 38) v))) (n' := 142) rfl ?_
        refine qG.call (t := 211) (na := 1) (sk := 0) (md := 0) (ls1 := [(0, wB 95 41), (9, 0), (9, 0)]) (r1 := []) rfl rfl rfl rfl rfl (K_bits (by omega) _ _) ?_
        rintro _ w7 _ ⟨rfl, hw7, rfl⟩
        rw [hw7]
        show qG none (d + 1) 252 150 [(2, 95), (0, ((c : Nat) : Int)), (0, 2), (0, what), (0, v), (0, ((i : Nat) : Int))] [(0, bitsF (wB 95 41) 16)] (qup wB 95 38 (qor (wB 95 38) v)) 142 Q9
        refine qG.blk 5 (pc' := 159) (ls' := [(2, 95), (0, ((c : Nat) : Int)), (0, 2), (0, what), (0, v), (0, bitsF (wB 95 41) 16)]) (st' := [(0, wB 95 39), (0, bitsF (wB 95 41) 16), (2, 95)]) (w' := (qup wB 95 38 (qor (wB 95 38) v))) (n' := 142) rfl ?_
        refine qG.br (P := wB 95 39 < bitsF (wB 95 41) 16) (pc1 := 162) (pc2 := 167) (st1 := [(2, 95)]) rfl (fun h2 => ?_) (fun h2 => ?_)
        · skip
          refine qG.blk 3 (pc' := 174) (ls' := [(2, 95), (0, ((c : Nat) : Int)), (0, 2), (0, what), (0, v), (0, bitsF (wB 95 41) 16)]) (st' := []) (w' := (qup (qup wB 95 38 (qor (wB 95 38) v)) 95 39 (bitsF (wB 95 41) 16))) (n' := 142) rfl ?_
          refine qG.retv rfl rfl ?_
          subst hQ9
          refine ⟨rfl, ?_, rfl⟩
          have hi : i = dN 2 what := by omega
          subst hwB
          subst hi
          unfold dD dC
          simp only [qup_k, qup_j (show (39 : Nat) ≠ 38 by decide), qup_j (show (41 : Nat) ≠ 38 by decide)] at *
          first | rw [if_pos (by omega)] | rw [if_neg (by omega)]
        · skip
          refine qG.blk 3 (pc' := 174) (ls' := [(2, 95), (0, ((c : Nat) : Int)), (0, 2), (0, what), (0, v), (0, bitsF (wB 95 41) 16)]) (st' := []) (w' := (qup (qup wB 95 38 (qor (wB 95 38) v)) 95 39 (wB 95 39))) (n' := 142) rfl ?_
          refine qG.retv rfl rfl ?_
          subst hQ9
          refine ⟨rfl, ?_, rfl⟩
          have hi : i = dN 2 what := by omega
          subst hwB
          subst hi
          unfold dD dC
          simp only [qup_k, qup_j (show (39 : Nat) ≠ 38 by decide), qup_j (show (41 : Nat) ≠ 38 by decide)] at *
          first | rw [if_pos (by omega)] | rw [if_neg (by omega)]
    · exact absurd h1 (by decide)
  exact L90 _ (0) (wA) rfl (⟨by omega, rfl⟩)
theorem K_does2 {d : Nat} (hd : 2 ≤ d) (c : Nat) (what : Int) (hc : c < 3) (hw0 : yin (-2147483648, 2147483647) what) (w : qW) (hI : yInv zgf zga zra zSp w) (hs8 : w 95 37 + (dN 2 what : Nat) ≤ 800) : qG none d 252 0 [(2, 95), (0, ((c : Nat) : Int)), (0, 2), (0, what), (9, 0), (9, 0)] [] w 142 (fun (r : qV) (w1 : qW) (n1 : Nat) => r = (9, 0) ∧ w1 = doesW w c 2 what ∧ n1 = 142) := by
  generalize hQ9 : (fun (r : qV) (w1 : qW) (n1 : Nat) => r = (9, 0) ∧ w1 = doesW w c 2 what ∧ n1 = 142) = Q9
  have h43 := zfld hI (j := 43) (b := (0, 1)) rfl
  have a43 : (0 : Int) ≤ w 95 43 := h43.1
  have b43 : w 95 43 ≤ (1 : Int) := h43.2
  have h37 := zfld hI (j := 37) (b := (0, 800)) rfl
  have a37 : (0 : Int) ≤ w 95 37 := h37.1
  have hIA : yInv zgf zga zra zSp (dA 2 what w) := dA_I hI hw0
  obtain ⟨d, rfl⟩ : ∃ d9, d = d9 + 1 := ⟨d - 1, by omega⟩
  refine qG.blk 1 (pc' := 1) (ls' := [(2, 95), (0, ((c : Nat) : Int)), (0, 2), (0, what), (9, 0), (9, 0)]) (st' := [(0, 2)]) (w' := w) (n' := 142) rfl ?_
  refine qG.br (P := (2 : Int) = 0) (pc1 := 4) (pc2 := 16) (st1 := []) rfl (fun h1 => ?_) (fun h1 => ?_)
  · exact absurd h1 (by decide)
  · skip
    refine qG.blk 2 (pc' := 18) (ls' := [(2, 95), (0, ((c : Nat) : Int)), (0, 2), (0, what), (9, 0), (9, 0)]) (st' := [(0, 1), (0, 2)]) (w' := w) (n' := 142) rfl ?_
    refine qG.br (P := (2 : Int) = 1) (pc1 := 21) (pc2 := 35) (st1 := []) rfl (fun h2 => ?_) (fun h2 => ?_)
    · exact absurd h2 (by decide)
    · skip
      refine qG.blk 2 (pc' := 37) (ls' := [(2, 95), (0, ((c : Nat) : Int)), (0, 2), (0, what), (9, 0), (9, 0)]) (st' := [(0, 3), (0, 2)]) (w' := w) (n' := 142) rfl ?_
      refine qG.br (P := (2 : Int) = 3) (pc1 := 40) (pc2 := 45) (st1 := []) rfl (fun h3 => ?_) (fun h3 => ?_)
      · exact absurd h3 (by decide)
      · skip
        refine qG.blk 2 (pc' := 47) (ls' := [(2, 95), (0, ((c : Nat) : Int)), (0, 2), (0, what), (9, 0), (9, 0)]) (st' := [(0, 4), (0, 2)]) (w' := w) (n' := 142) rfl ?_
        refine qG.br (P := (2 : Int) = 4) (pc1 := 50) (pc2 := 55) (st1 := []) rfl (fun h4 => ?_) (fun h4 => ?_)
        · exact absurd h4 (by decide)
        · skip
          refine qG.blk 2 (pc' := 57) (ls' := [(2, 95), (0, ((c : Nat) : Int)), (0, 2), (0, what), (9, 0), (9, 0)]) (st' := [(0, 5), (0, 2)]) (w' := w) (n' := 142) rfl ?_
          refine qG.br (P := (2 : Int) = 5) (pc1 := 60) (pc2 := 80) (st1 := []) rfl (fun h5 => ?_) (fun h5 => ?_)
          · exact absurd h5 (by decide)
          · skip
            refine qG.blk 2 (pc' := 82) (ls' := [(2, 95), (0, ((c : Nat) : Int)), (0, 2), (0, what), (9, 0), (9, 0)]) (st' := [(0, ((c : Nat) : Int)), (2, 95)]) (w' := w) (n' := 142) rfl ?_
            refine qG.call (t := 249) (na := 2) (sk := 1) (md := 1) (ls1 := [(2, 95), (0, ((c : Nat) : Int)), (9, 0), (9, 0)]) (r1 := []) rfl rfl rfl rfl rfl (K_sees (by omega) c hc (w) hIA) ?_
            rintro _ w7 _ ⟨rfl, hw7, rfl⟩
            rw [hw7]
            subst hQ9
            exact K_doesB2 (by omega) c what hw0 (w 95 37).toNat _ (seesF_32 10) (dA 2 what w) hIA (by rw [dA_o (by omega)]; omega) (by omega)
theorem K_doesB3 {d : Nat} (hd : 1 ≤ d) (c : Nat) (what : Int) (hw0 : -2147483648 ≤ what ∧ what ≤ 2147483647) (s : Nat) (v : Int) (hv : yin (-2147483648, 2147483647) v) (wA : qW) (hIA : yInv zgf zga zra zSp wA) (hs : wA 95 37 = (s : Int)) (hs8 : s + dN 3 what ≤ 800) : qG none d 252 85 [(2, 95), (0, ((c : Nat) : Int)), (0, 3), (0, what), (9, 0), (9, 0)] [(0, v)] wA 142 (fun (r : qV) (w1 : qW) (n1 : Nat) => r = (9, 0) ∧ w1 = dD (dC v (dB v s wA (dN 3 what))) ∧ n1 = 142) := by
  generalize hQ9 : (fun (r : qV) (w1 : qW) (n1 : Nat) => r = (9, 0) ∧ w1 = dD (dC v (dB v s wA (dN 3 what))) ∧ n1 = 142) = Q9
  obtain ⟨d, rfl⟩ : ∃ d9, d = d9 + 1 := ⟨d - 1, by omega⟩
  have hdn : dN 3 what = 1 := rfl
  refine qG.blk 3 (pc' := 90) (ls' := [(2, 95), (0, ((c : Nat) : Int)), (0, 3), (0, what), (0, v), (0, 0)]) (st' := []) (w' := wA) (n' := 142) rfl ?_
  have L90 : ∀ (m9 : Nat) (i : Nat) (wB : qW), dN 3 what - i = m9 → (i ≤ dN 3 what ∧ wB = dB v s wA i) → qG none (d + 1) 252 90 [(2, 95), (0, ((c : Nat) : Int)), (0, 3), (0, what), (0, v), (0, ((i : Nat) : Int))] [] wB 142 Q9 := by
    intro m9
    induction m9 using Nat.strongRecOn with
    | ind m9 ih90 =>
    intro i wB hm90 hI90
    obtain ⟨hi9, hwB⟩ := hI90
    refine qG.blk 3 (pc' := 94) (ls' := [(2, 95), (0, ((c : Nat) : Int)), (0, 3), (0, what), (0, v), (0, ((i : Nat) : Int))]) (st' := [(0, 2), (0, 3), (0, ((i : Nat) : Int))]) (w' := wB) (n' := 142) rfl ?_
    refine qG.br (P := (3 : Int) = 2) (pc1 := 97) (pc2 := 101) (st1 := [(0, ((i : Nat) : Int))]) rfl (fun h1 => ?_) (fun h1 => ?_)
    · exact absurd h1 (by decide)
    · skip
      refine qG.blk 1 (pc' := 102) (ls' := [(2, 95), (0, ((c : Nat) : Int)), (0, 3), (0, what), (0, v), (0, ((i : Nat) : Int))]) (st' := [(0, 1), (0, ((i : Nat) : Int))]) (w' := wB) (n' := 142) rfl ?_
      refine qG.br (P := ((i : Nat) : Int) < 1) (pc1 := 105) (pc2 := 132) (st1 := []) rfl (fun hlim => ?_) (fun hlim => ?_)
      · skip
        refine qG.blk 2 (pc' := 109) (ls' := [(2, 95), (0, ((c : Nat) : Int)), (0, 3), (0, what), (0, v), (0, ((i : Nat) : Int))]) (st' := [(2, wB 95 36)]) (w' := wB) (n' := 142) rfl ?_
        rw [show wB 95 36 = 116 from (congrFun (congrFun hwB 95) 36).trans ((dB_o (by decide) (by omega) i).trans (zref hIA rfl rfl))]
        refine qG.blk 2 (pc' := 113) (ls' := [(2, 95), (0, ((c : Nat) : Int)), (0, 3), (0, what), (0, v), (0, ((i : Nat) : Int))]) (st' := [(0, wB 95 37), (2, 116)]) (w' := wB) (n' := 142) rfl ?_
        rw [show wB 95 37 = ((s + i : Nat) : Int) from (congrFun (congrFun hwB 95) 37).trans (dB_s hs i)]
        refine qG.blk 1 (pc' := 115) (ls' := [(2, 95), (0, ((c : Nat) : Int)), (0, 3), (0, what), (0, v), (0, ((i : Nat) : Int))]) (st' := [(0, v), (0, ((s + i : Nat) : Int)), (2, 116)]) (w' := wB) (n' := 142) rfl ?_
        refine qG.ist (m := 900) rfl rfl (by omega) (by decide) ?_
        show qG none (d + 1) 252 116 [(2, 95), (0, ((c : Nat) : Int)), (0, 3), (0, what), (0, v), (0, ((i : Nat) : Int))] [] (qup wB 116 (s + i) v) 142 Q9
        refine qG.blk 3 (pc' := 121) (ls' := [(2, 95), (0, ((c : Nat) : Int)), (0, 3), (0, what), (0, v), (0, ((i : Nat) : Int))]) (st' := [(0, wB 95 37), (2, 95)]) (w' := (qup wB 116 (s + i) v)) (n' := 142) rfl ?_
        rw [show wB 95 37 = ((s + i : Nat) : Int) from (congrFun (congrFun hwB 95) 37).trans (dB_s hs i)]
        refine qG.blk 2 (pc' := 123) (ls' := [(2, 95), (0, ((c : Nat) : Int)), (0, 3), (0, what), (0, v), (0, ((i : Nat) : Int))]) (st' := [(0, wrp (((s + i : Nat) : Int) + 1)), (2, 95)]) (w' := (qup wB 116 (s + i) v)) (n' := 142) rfl ?_
        rw [show wrp (((s + i : Nat) : Int) + 1) = ((s + i + 1 : Nat) : Int) from by rw [wrp_id (by omega) (by omega)]; omega]
        refine qG.blk 2 (pc' := 129) (ls' := [(2, 95), (0, ((c : Nat) : Int)), (0, 3), (0, what), (0, v), (0, wrp (((i : Nat) : Int) + 1))]) (st' := []) (w' := (qup (qup wB 116 (s + i) v) 95 37 ((s + i + 1 : Nat) : Int))) (n' := 142) rfl ?_
        rw [show wrp (((i : Nat) : Int) + 1) = ((i + 1 : Nat) : Int) from wrp_id (by omega) (by omega)]
        refine qG.blk 1 (pc' := 90) (ls' := [(2, 95), (0, ((c : Nat) : Int)), (0, 3), (0, what), (0, v), (0, ((i + 1 : Nat) : Int))]) (st' := []) (w' := (qup (qup wB 116 (s + i) v) 95 37 ((s + i + 1 : Nat) : Int))) (n' := 142) rfl ?_
        exact ih90 _ (by omega) (i + 1) ((qup (qup wB 116 (s + i) v) 95 37 ((s + i + 1 : Nat) : Int))) rfl (⟨by omega, by rw [hwB]; rfl⟩)
      · skip
        refine qG.blk 8 (pc' := 147) (ls' := [(2, 95), (0, ((c : Nat) : Int)), (0, 3), (0, what), (0, v), (0, ((i : Nat) : Int))]) (st' := [(0, wB 95 41)]) (w' := (qup wB 95 38 (qor (wB 95 38) v))) (n' := 142) rfl ?_
        refine qG.call (t := 211) (na := 1) (sk := 0) (md := 0) (ls1 := [(0, wB 95 41), (9, 0), (9, 0)]) (r1 := []) rfl rfl rfl rfl rfl (K_bits (by omega) _ _) ?_
        rintro _ w7 _ ⟨rfl, hw7, rfl⟩
        rw [hw7]
        show qG none (d + 1) 252 150 [(2, 95), (0, ((c : Nat) : Int)), (0, 3), (0, what), (0, v), (0, ((i : Nat) : Int))] [(0, bitsF (wB 95 41) 16)] (qup wB 95 38 (qor (wB 95 38) v)) 142 Q9
        refine qG.blk 5 (pc' := 159) (ls' := [(2, 95), (0, ((c : Nat) : Int)), (0, 3), (0, what), (0, v), (0, bitsF (wB 95 41) 16)]) (st' := [(0, wB 95 39), (0, bitsF (wB 95 41) 16), (2, 95)]) (w' := (qup wB 95 38 (qor (wB 95 38) v))) (n' := 142) rfl ?_
        refine qG.br (P := wB 95 39 < bitsF (wB 95 41) 16) (pc1 := 162) (pc2 := 167) (st1 := [(2, 95)]) rfl (fun h2 => ?_) (fun h2 => ?_)
        · skip
          refine qG.blk 3 (pc' := 174) (ls' := [(2, 95), (0, ((c : Nat) : Int)), (0, 3), (0, what), (0, v), (0, bitsF (wB 95 41) 16)]) (st' := []) (w' := (qup (qup wB 95 38 (qor (wB 95 38) v)) 95 39 (bitsF (wB 95 41) 16))) (n' := 142) rfl ?_
          refine qG.retv rfl rfl ?_
          subst hQ9
          refine ⟨rfl, ?_, rfl⟩
          have hi : i = dN 3 what := by omega
          subst hwB
          subst hi
          unfold dD dC
          simp only [qup_k, qup_j (show (39 : Nat) ≠ 38 by decide), qup_j (show (41 : Nat) ≠ 38 by decide)] at *
          first | rw [if_pos (by omega)] | rw [if_neg (by omega)]
        · skip
          refine qG.blk 3 (pc' := 174) (ls' := [(2, 95), (0, ((c : Nat) : Int)), (0, 3), (0, what), (0, v), (0, bitsF (wB 95 41) 16)]) (st' := []) (w' := (qup (qup wB 95 38 (qor (wB 95 38) v)) 95 39 (wB 95 39))) (n' := 142) rfl ?_
          refine qG.retv rfl rfl ?_
          subst hQ9
          refine ⟨rfl, ?_, rfl⟩
          have hi : i = dN 3 what := by omega
          subst hwB
          subst hi
          unfold dD dC
          simp only [qup_k, qup_j (show (39 : Nat) ≠ 38 by decide), qup_j (show (41 : Nat) ≠ 38 by decide)] at *
          first | rw [if_pos (by omega)] | rw [if_neg (by omega)]
  exact L90 _ (0) (wA) rfl (⟨by omega, rfl⟩)
theorem K_does3 {d : Nat} (hd : 2 ≤ d) (c : Nat) (what : Int) (hc : c < 3) (hw0 : yin (-2147483648, 2147483647) what) (w : qW) (hI : yInv zgf zga zra zSp w) (hs8 : w 95 37 + (dN 3 what : Nat) ≤ 800) : qG none d 252 0 [(2, 95), (0, ((c : Nat) : Int)), (0, 3), (0, what), (9, 0), (9, 0)] [] w 142 (fun (r : qV) (w1 : qW) (n1 : Nat) => r = (9, 0) ∧ w1 = doesW w c 3 what ∧ n1 = 142) := by
  generalize hQ9 : (fun (r : qV) (w1 : qW) (n1 : Nat) => r = (9, 0) ∧ w1 = doesW w c 3 what ∧ n1 = 142) = Q9
  have h43 := zfld hI (j := 43) (b := (0, 1)) rfl
  have a43 : (0 : Int) ≤ w 95 43 := h43.1
  have b43 : w 95 43 ≤ (1 : Int) := h43.2
  have h37 := zfld hI (j := 37) (b := (0, 800)) rfl
  have a37 : (0 : Int) ≤ w 95 37 := h37.1
  have hIA : yInv zgf zga zra zSp (dA 3 what w) := dA_I hI hw0
  obtain ⟨d, rfl⟩ : ∃ d9, d = d9 + 1 := ⟨d - 1, by omega⟩
  refine qG.blk 1 (pc' := 1) (ls' := [(2, 95), (0, ((c : Nat) : Int)), (0, 3), (0, what), (9, 0), (9, 0)]) (st' := [(0, 3)]) (w' := w) (n' := 142) rfl ?_
  refine qG.br (P := (3 : Int) = 0) (pc1 := 4) (pc2 := 16) (st1 := []) rfl (fun h1 => ?_) (fun h1 => ?_)
  · exact absurd h1 (by decide)
  · skip
    refine qG.blk 2 (pc' := 18) (ls' := [(2, 95), (0, ((c : Nat) : Int)), (0, 3), (0, what), (9, 0), (9, 0)]) (st' := [(0, 1), (0, 3)]) (w' := w) (n' := 142) rfl ?_
    refine qG.br (P := (3 : Int) = 1) (pc1 := 21) (pc2 := 35) (st1 := []) rfl (fun h2 => ?_) (fun h2 => ?_)
    · exact absurd h2 (by decide)
    · skip
      refine qG.blk 2 (pc' := 37) (ls' := [(2, 95), (0, ((c : Nat) : Int)), (0, 3), (0, what), (9, 0), (9, 0)]) (st' := [(0, 3), (0, 3)]) (w' := w) (n' := 142) rfl ?_
      refine qG.br (P := (3 : Int) = 3) (pc1 := 40) (pc2 := 45) (st1 := []) rfl (fun h3 => ?_) (fun h3 => ?_)
      · skip
        refine qG.blk 5 (pc' := 47) (ls' := [(2, 95), (0, ((c : Nat) : Int)), (0, 3), (0, what), (9, 0), (9, 0)]) (st' := [(0, 4), (0, 3)]) (w' := (qup w 95 42 what)) (n' := 142) rfl ?_
        refine qG.br (P := (3 : Int) = 4) (pc1 := 50) (pc2 := 55) (st1 := []) rfl (fun h4 => ?_) (fun h4 => ?_)
        · exact absurd h4 (by decide)
        · skip
          refine qG.blk 2 (pc' := 57) (ls' := [(2, 95), (0, ((c : Nat) : Int)), (0, 3), (0, what), (9, 0), (9, 0)]) (st' := [(0, 5), (0, 3)]) (w' := (qup w 95 42 what)) (n' := 142) rfl ?_
          refine qG.br (P := (3 : Int) = 5) (pc1 := 60) (pc2 := 80) (st1 := []) rfl (fun h5 => ?_) (fun h5 => ?_)
          · exact absurd h5 (by decide)
          · skip
            refine qG.blk 2 (pc' := 82) (ls' := [(2, 95), (0, ((c : Nat) : Int)), (0, 3), (0, what), (9, 0), (9, 0)]) (st' := [(0, ((c : Nat) : Int)), (2, 95)]) (w' := (qup w 95 42 what)) (n' := 142) rfl ?_
            refine qG.call (t := 249) (na := 2) (sk := 1) (md := 1) (ls1 := [(2, 95), (0, ((c : Nat) : Int)), (9, 0), (9, 0)]) (r1 := []) rfl rfl rfl rfl rfl (K_sees (by omega) c hc ((qup w 95 42 what)) hIA) ?_
            rintro _ w7 _ ⟨rfl, hw7, rfl⟩
            rw [hw7]
            subst hQ9
            exact K_doesB3 (by omega) c what hw0 (w 95 37).toNat _ (seesF_32 10) (dA 3 what w) hIA (by rw [dA_o (by omega)]; omega) (by omega)
      · exact absurd h3 (by decide)
theorem K_doesB4 {d : Nat} (hd : 1 ≤ d) (c : Nat) (what : Int) (hw0 : -2147483648 ≤ what ∧ what ≤ 2147483647) (s : Nat) (v : Int) (hv : yin (-2147483648, 2147483647) v) (wA : qW) (hIA : yInv zgf zga zra zSp wA) (hs : wA 95 37 = (s : Int)) (hs8 : s + dN 4 what ≤ 800) : qG none d 252 85 [(2, 95), (0, ((c : Nat) : Int)), (0, 4), (0, what), (9, 0), (9, 0)] [(0, v)] wA 142 (fun (r : qV) (w1 : qW) (n1 : Nat) => r = (9, 0) ∧ w1 = dD (dC v (dB v s wA (dN 4 what))) ∧ n1 = 142) := by
  generalize hQ9 : (fun (r : qV) (w1 : qW) (n1 : Nat) => r = (9, 0) ∧ w1 = dD (dC v (dB v s wA (dN 4 what))) ∧ n1 = 142) = Q9
  obtain ⟨d, rfl⟩ : ∃ d9, d = d9 + 1 := ⟨d - 1, by omega⟩
  have hdn : dN 4 what = 1 := rfl
  refine qG.blk 3 (pc' := 90) (ls' := [(2, 95), (0, ((c : Nat) : Int)), (0, 4), (0, what), (0, v), (0, 0)]) (st' := []) (w' := wA) (n' := 142) rfl ?_
  have L90 : ∀ (m9 : Nat) (i : Nat) (wB : qW), dN 4 what - i = m9 → (i ≤ dN 4 what ∧ wB = dB v s wA i) → qG none (d + 1) 252 90 [(2, 95), (0, ((c : Nat) : Int)), (0, 4), (0, what), (0, v), (0, ((i : Nat) : Int))] [] wB 142 Q9 := by
    intro m9
    induction m9 using Nat.strongRecOn with
    | ind m9 ih90 =>
    intro i wB hm90 hI90
    obtain ⟨hi9, hwB⟩ := hI90
    refine qG.blk 3 (pc' := 94) (ls' := [(2, 95), (0, ((c : Nat) : Int)), (0, 4), (0, what), (0, v), (0, ((i : Nat) : Int))]) (st' := [(0, 2), (0, 4), (0, ((i : Nat) : Int))]) (w' := wB) (n' := 142) rfl ?_
    refine qG.br (P := (4 : Int) = 2) (pc1 := 97) (pc2 := 101) (st1 := [(0, ((i : Nat) : Int))]) rfl (fun h1 => ?_) (fun h1 => ?_)
    · exact absurd h1 (by decide)
    · skip
      refine qG.blk 1 (pc' := 102) (ls' := [(2, 95), (0, ((c : Nat) : Int)), (0, 4), (0, what), (0, v), (0, ((i : Nat) : Int))]) (st' := [(0, 1), (0, ((i : Nat) : Int))]) (w' := wB) (n' := 142) rfl ?_
      refine qG.br (P := ((i : Nat) : Int) < 1) (pc1 := 105) (pc2 := 132) (st1 := []) rfl (fun hlim => ?_) (fun hlim => ?_)
      · skip
        refine qG.blk 2 (pc' := 109) (ls' := [(2, 95), (0, ((c : Nat) : Int)), (0, 4), (0, what), (0, v), (0, ((i : Nat) : Int))]) (st' := [(2, wB 95 36)]) (w' := wB) (n' := 142) rfl ?_
        rw [show wB 95 36 = 116 from (congrFun (congrFun hwB 95) 36).trans ((dB_o (by decide) (by omega) i).trans (zref hIA rfl rfl))]
        refine qG.blk 2 (pc' := 113) (ls' := [(2, 95), (0, ((c : Nat) : Int)), (0, 4), (0, what), (0, v), (0, ((i : Nat) : Int))]) (st' := [(0, wB 95 37), (2, 116)]) (w' := wB) (n' := 142) rfl ?_
        rw [show wB 95 37 = ((s + i : Nat) : Int) from (congrFun (congrFun hwB 95) 37).trans (dB_s hs i)]
        refine qG.blk 1 (pc' := 115) (ls' := [(2, 95), (0, ((c : Nat) : Int)), (0, 4), (0, what), (0, v), (0, ((i : Nat) : Int))]) (st' := [(0, v), (0, ((s + i : Nat) : Int)), (2, 116)]) (w' := wB) (n' := 142) rfl ?_
        refine qG.ist (m := 900) rfl rfl (by omega) (by decide) ?_
        show qG none (d + 1) 252 116 [(2, 95), (0, ((c : Nat) : Int)), (0, 4), (0, what), (0, v), (0, ((i : Nat) : Int))] [] (qup wB 116 (s + i) v) 142 Q9
        refine qG.blk 3 (pc' := 121) (ls' := [(2, 95), (0, ((c : Nat) : Int)), (0, 4), (0, what), (0, v), (0, ((i : Nat) : Int))]) (st' := [(0, wB 95 37), (2, 95)]) (w' := (qup wB 116 (s + i) v)) (n' := 142) rfl ?_
        rw [show wB 95 37 = ((s + i : Nat) : Int) from (congrFun (congrFun hwB 95) 37).trans (dB_s hs i)]
        refine qG.blk 2 (pc' := 123) (ls' := [(2, 95), (0, ((c : Nat) : Int)), (0, 4), (0, what), (0, v), (0, ((i : Nat) : Int))]) (st' := [(0, wrp (((s + i : Nat) : Int) + 1)), (2, 95)]) (w' := (qup wB 116 (s + i) v)) (n' := 142) rfl ?_
        rw [show wrp (((s + i : Nat) : Int) + 1) = ((s + i + 1 : Nat) : Int) from by rw [wrp_id (by omega) (by omega)]; omega]
        refine qG.blk 2 (pc' := 129) (ls' := [(2, 95), (0, ((c : Nat) : Int)), (0, 4), (0, what), (0, v), (0, wrp (((i : Nat) : Int) + 1))]) (st' := []) (w' := (qup (qup wB 116 (s + i) v) 95 37 ((s + i + 1 : Nat) : Int))) (n' := 142) rfl ?_
        rw [show wrp (((i : Nat) : Int) + 1) = ((i + 1 : Nat) : Int) from wrp_id (by omega) (by omega)]
        refine qG.blk 1 (pc' := 90) (ls' := [(2, 95), (0, ((c : Nat) : Int)), (0, 4), (0, what), (0, v), (0, ((i + 1 : Nat) : Int))]) (st' := []) (w' := (qup (qup wB 116 (s + i) v) 95 37 ((s + i + 1 : Nat) : Int))) (n' := 142) rfl ?_
        exact ih90 _ (by omega) (i + 1) ((qup (qup wB 116 (s + i) v) 95 37 ((s + i + 1 : Nat) : Int))) rfl (⟨by omega, by rw [hwB]; rfl⟩)
      · skip
        refine qG.blk 8 (pc' := 147) (ls' := [(2, 95), (0, ((c : Nat) : Int)), (0, 4), (0, what), (0, v), (0, ((i : Nat) : Int))]) (st' := [(0, wB 95 41)]) (w' := (qup wB 95 38 (qor (wB 95 38) v))) (n' := 142) rfl ?_
        refine qG.call (t := 211) (na := 1) (sk := 0) (md := 0) (ls1 := [(0, wB 95 41), (9, 0), (9, 0)]) (r1 := []) rfl rfl rfl rfl rfl (K_bits (by omega) _ _) ?_
        rintro _ w7 _ ⟨rfl, hw7, rfl⟩
        rw [hw7]
        show qG none (d + 1) 252 150 [(2, 95), (0, ((c : Nat) : Int)), (0, 4), (0, what), (0, v), (0, ((i : Nat) : Int))] [(0, bitsF (wB 95 41) 16)] (qup wB 95 38 (qor (wB 95 38) v)) 142 Q9
        refine qG.blk 5 (pc' := 159) (ls' := [(2, 95), (0, ((c : Nat) : Int)), (0, 4), (0, what), (0, v), (0, bitsF (wB 95 41) 16)]) (st' := [(0, wB 95 39), (0, bitsF (wB 95 41) 16), (2, 95)]) (w' := (qup wB 95 38 (qor (wB 95 38) v))) (n' := 142) rfl ?_
        refine qG.br (P := wB 95 39 < bitsF (wB 95 41) 16) (pc1 := 162) (pc2 := 167) (st1 := [(2, 95)]) rfl (fun h2 => ?_) (fun h2 => ?_)
        · skip
          refine qG.blk 3 (pc' := 174) (ls' := [(2, 95), (0, ((c : Nat) : Int)), (0, 4), (0, what), (0, v), (0, bitsF (wB 95 41) 16)]) (st' := []) (w' := (qup (qup wB 95 38 (qor (wB 95 38) v)) 95 39 (bitsF (wB 95 41) 16))) (n' := 142) rfl ?_
          refine qG.retv rfl rfl ?_
          subst hQ9
          refine ⟨rfl, ?_, rfl⟩
          have hi : i = dN 4 what := by omega
          subst hwB
          subst hi
          unfold dD dC
          simp only [qup_k, qup_j (show (39 : Nat) ≠ 38 by decide), qup_j (show (41 : Nat) ≠ 38 by decide)] at *
          first | rw [if_pos (by omega)] | rw [if_neg (by omega)]
        · skip
          refine qG.blk 3 (pc' := 174) (ls' := [(2, 95), (0, ((c : Nat) : Int)), (0, 4), (0, what), (0, v), (0, bitsF (wB 95 41) 16)]) (st' := []) (w' := (qup (qup wB 95 38 (qor (wB 95 38) v)) 95 39 (wB 95 39))) (n' := 142) rfl ?_
          refine qG.retv rfl rfl ?_
          subst hQ9
          refine ⟨rfl, ?_, rfl⟩
          have hi : i = dN 4 what := by omega
          subst hwB
          subst hi
          unfold dD dC
          simp only [qup_k, qup_j (show (39 : Nat) ≠ 38 by decide), qup_j (show (41 : Nat) ≠ 38 by decide)] at *
          first | rw [if_pos (by omega)] | rw [if_neg (by omega)]
  exact L90 _ (0) (wA) rfl (⟨by omega, rfl⟩)
theorem K_does4 {d : Nat} (hd : 2 ≤ d) (c : Nat) (what : Int) (hc : c < 3) (hw0 : yin (-2147483648, 2147483647) what) (w : qW) (hI : yInv zgf zga zra zSp w) (hs8 : w 95 37 + (dN 4 what : Nat) ≤ 800) : qG none d 252 0 [(2, 95), (0, ((c : Nat) : Int)), (0, 4), (0, what), (9, 0), (9, 0)] [] w 142 (fun (r : qV) (w1 : qW) (n1 : Nat) => r = (9, 0) ∧ w1 = doesW w c 4 what ∧ n1 = 142) := by
  generalize hQ9 : (fun (r : qV) (w1 : qW) (n1 : Nat) => r = (9, 0) ∧ w1 = doesW w c 4 what ∧ n1 = 142) = Q9
  have h43 := zfld hI (j := 43) (b := (0, 1)) rfl
  have a43 : (0 : Int) ≤ w 95 43 := h43.1
  have b43 : w 95 43 ≤ (1 : Int) := h43.2
  have h37 := zfld hI (j := 37) (b := (0, 800)) rfl
  have a37 : (0 : Int) ≤ w 95 37 := h37.1
  have hIA : yInv zgf zga zra zSp (dA 4 what w) := dA_I hI hw0
  obtain ⟨d, rfl⟩ : ∃ d9, d = d9 + 1 := ⟨d - 1, by omega⟩
  refine qG.blk 1 (pc' := 1) (ls' := [(2, 95), (0, ((c : Nat) : Int)), (0, 4), (0, what), (9, 0), (9, 0)]) (st' := [(0, 4)]) (w' := w) (n' := 142) rfl ?_
  refine qG.br (P := (4 : Int) = 0) (pc1 := 4) (pc2 := 16) (st1 := []) rfl (fun h1 => ?_) (fun h1 => ?_)
  · exact absurd h1 (by decide)
  · skip
    refine qG.blk 2 (pc' := 18) (ls' := [(2, 95), (0, ((c : Nat) : Int)), (0, 4), (0, what), (9, 0), (9, 0)]) (st' := [(0, 1), (0, 4)]) (w' := w) (n' := 142) rfl ?_
    refine qG.br (P := (4 : Int) = 1) (pc1 := 21) (pc2 := 35) (st1 := []) rfl (fun h2 => ?_) (fun h2 => ?_)
    · exact absurd h2 (by decide)
    · skip
      refine qG.blk 2 (pc' := 37) (ls' := [(2, 95), (0, ((c : Nat) : Int)), (0, 4), (0, what), (9, 0), (9, 0)]) (st' := [(0, 3), (0, 4)]) (w' := w) (n' := 142) rfl ?_
      refine qG.br (P := (4 : Int) = 3) (pc1 := 40) (pc2 := 45) (st1 := []) rfl (fun h3 => ?_) (fun h3 => ?_)
      · exact absurd h3 (by decide)
      · skip
        refine qG.blk 2 (pc' := 47) (ls' := [(2, 95), (0, ((c : Nat) : Int)), (0, 4), (0, what), (9, 0), (9, 0)]) (st' := [(0, 4), (0, 4)]) (w' := w) (n' := 142) rfl ?_
        refine qG.br (P := (4 : Int) = 4) (pc1 := 50) (pc2 := 55) (st1 := []) rfl (fun h4 => ?_) (fun h4 => ?_)
        · skip
          refine qG.blk 5 (pc' := 57) (ls' := [(2, 95), (0, ((c : Nat) : Int)), (0, 4), (0, what), (9, 0), (9, 0)]) (st' := [(0, 5), (0, 4)]) (w' := (qup w 95 42 (-1))) (n' := 142) rfl ?_
          refine qG.br (P := (4 : Int) = 5) (pc1 := 60) (pc2 := 80) (st1 := []) rfl (fun h5 => ?_) (fun h5 => ?_)
          · exact absurd h5 (by decide)
          · skip
            refine qG.blk 2 (pc' := 82) (ls' := [(2, 95), (0, ((c : Nat) : Int)), (0, 4), (0, what), (9, 0), (9, 0)]) (st' := [(0, ((c : Nat) : Int)), (2, 95)]) (w' := (qup w 95 42 (-1))) (n' := 142) rfl ?_
            refine qG.call (t := 249) (na := 2) (sk := 1) (md := 1) (ls1 := [(2, 95), (0, ((c : Nat) : Int)), (9, 0), (9, 0)]) (r1 := []) rfl rfl rfl rfl rfl (K_sees (by omega) c hc ((qup w 95 42 (-1))) hIA) ?_
            rintro _ w7 _ ⟨rfl, hw7, rfl⟩
            rw [hw7]
            subst hQ9
            exact K_doesB4 (by omega) c what hw0 (w 95 37).toNat _ (seesF_32 10) (dA 4 what w) hIA (by rw [dA_o (by omega)]; omega) (by omega)
        · exact absurd h4 (by decide)
theorem K_doesB5 {d : Nat} (hd : 1 ≤ d) (c : Nat) (what : Int) (hw0 : -2147483648 ≤ what ∧ what ≤ 2147483647) (s : Nat) (v : Int) (hv : yin (-2147483648, 2147483647) v) (wA : qW) (hIA : yInv zgf zga zra zSp wA) (hs : wA 95 37 = (s : Int)) (hs8 : s + dN 5 what ≤ 800) : qG none d 252 85 [(2, 95), (0, ((c : Nat) : Int)), (0, 5), (0, what), (9, 0), (9, 0)] [(0, v)] wA 142 (fun (r : qV) (w1 : qW) (n1 : Nat) => r = (9, 0) ∧ w1 = dD (dC v (dB v s wA (dN 5 what))) ∧ n1 = 142) := by
  generalize hQ9 : (fun (r : qV) (w1 : qW) (n1 : Nat) => r = (9, 0) ∧ w1 = dD (dC v (dB v s wA (dN 5 what))) ∧ n1 = 142) = Q9
  obtain ⟨d, rfl⟩ : ∃ d9, d = d9 + 1 := ⟨d - 1, by omega⟩
  have hdn : dN 5 what = 1 := rfl
  refine qG.blk 3 (pc' := 90) (ls' := [(2, 95), (0, ((c : Nat) : Int)), (0, 5), (0, what), (0, v), (0, 0)]) (st' := []) (w' := wA) (n' := 142) rfl ?_
  have L90 : ∀ (m9 : Nat) (i : Nat) (wB : qW), dN 5 what - i = m9 → (i ≤ dN 5 what ∧ wB = dB v s wA i) → qG none (d + 1) 252 90 [(2, 95), (0, ((c : Nat) : Int)), (0, 5), (0, what), (0, v), (0, ((i : Nat) : Int))] [] wB 142 Q9 := by
    intro m9
    induction m9 using Nat.strongRecOn with
    | ind m9 ih90 =>
    intro i wB hm90 hI90
    obtain ⟨hi9, hwB⟩ := hI90
    refine qG.blk 3 (pc' := 94) (ls' := [(2, 95), (0, ((c : Nat) : Int)), (0, 5), (0, what), (0, v), (0, ((i : Nat) : Int))]) (st' := [(0, 2), (0, 5), (0, ((i : Nat) : Int))]) (w' := wB) (n' := 142) rfl ?_
    refine qG.br (P := (5 : Int) = 2) (pc1 := 97) (pc2 := 101) (st1 := [(0, ((i : Nat) : Int))]) rfl (fun h1 => ?_) (fun h1 => ?_)
    · exact absurd h1 (by decide)
    · skip
      refine qG.blk 1 (pc' := 102) (ls' := [(2, 95), (0, ((c : Nat) : Int)), (0, 5), (0, what), (0, v), (0, ((i : Nat) : Int))]) (st' := [(0, 1), (0, ((i : Nat) : Int))]) (w' := wB) (n' := 142) rfl ?_
      refine qG.br (P := ((i : Nat) : Int) < 1) (pc1 := 105) (pc2 := 132) (st1 := []) rfl (fun hlim => ?_) (fun hlim => ?_)
      · skip
        refine qG.blk 2 (pc' := 109) (ls' := [(2, 95), (0, ((c : Nat) : Int)), (0, 5), (0, what), (0, v), (0, ((i : Nat) : Int))]) (st' := [(2, wB 95 36)]) (w' := wB) (n' := 142) rfl ?_
        rw [show wB 95 36 = 116 from (congrFun (congrFun hwB 95) 36).trans ((dB_o (by decide) (by omega) i).trans (zref hIA rfl rfl))]
        refine qG.blk 2 (pc' := 113) (ls' := [(2, 95), (0, ((c : Nat) : Int)), (0, 5), (0, what), (0, v), (0, ((i : Nat) : Int))]) (st' := [(0, wB 95 37), (2, 116)]) (w' := wB) (n' := 142) rfl ?_
        rw [show wB 95 37 = ((s + i : Nat) : Int) from (congrFun (congrFun hwB 95) 37).trans (dB_s hs i)]
        refine qG.blk 1 (pc' := 115) (ls' := [(2, 95), (0, ((c : Nat) : Int)), (0, 5), (0, what), (0, v), (0, ((i : Nat) : Int))]) (st' := [(0, v), (0, ((s + i : Nat) : Int)), (2, 116)]) (w' := wB) (n' := 142) rfl ?_
        refine qG.ist (m := 900) rfl rfl (by omega) (by decide) ?_
        show qG none (d + 1) 252 116 [(2, 95), (0, ((c : Nat) : Int)), (0, 5), (0, what), (0, v), (0, ((i : Nat) : Int))] [] (qup wB 116 (s + i) v) 142 Q9
        refine qG.blk 3 (pc' := 121) (ls' := [(2, 95), (0, ((c : Nat) : Int)), (0, 5), (0, what), (0, v), (0, ((i : Nat) : Int))]) (st' := [(0, wB 95 37), (2, 95)]) (w' := (qup wB 116 (s + i) v)) (n' := 142) rfl ?_
        rw [show wB 95 37 = ((s + i : Nat) : Int) from (congrFun (congrFun hwB 95) 37).trans (dB_s hs i)]
        refine qG.blk 2 (pc' := 123) (ls' := [(2, 95), (0, ((c : Nat) : Int)), (0, 5), (0, what), (0, v), (0, ((i : Nat) : Int))]) (st' := [(0, wrp (((s + i : Nat) : Int) + 1)), (2, 95)]) (w' := (qup wB 116 (s + i) v)) (n' := 142) rfl ?_
        rw [show wrp (((s + i : Nat) : Int) + 1) = ((s + i + 1 : Nat) : Int) from by rw [wrp_id (by omega) (by omega)]; omega]
        refine qG.blk 2 (pc' := 129) (ls' := [(2, 95), (0, ((c : Nat) : Int)), (0, 5), (0, what), (0, v), (0, wrp (((i : Nat) : Int) + 1))]) (st' := []) (w' := (qup (qup wB 116 (s + i) v) 95 37 ((s + i + 1 : Nat) : Int))) (n' := 142) rfl ?_
        rw [show wrp (((i : Nat) : Int) + 1) = ((i + 1 : Nat) : Int) from wrp_id (by omega) (by omega)]
        refine qG.blk 1 (pc' := 90) (ls' := [(2, 95), (0, ((c : Nat) : Int)), (0, 5), (0, what), (0, v), (0, ((i + 1 : Nat) : Int))]) (st' := []) (w' := (qup (qup wB 116 (s + i) v) 95 37 ((s + i + 1 : Nat) : Int))) (n' := 142) rfl ?_
        exact ih90 _ (by omega) (i + 1) ((qup (qup wB 116 (s + i) v) 95 37 ((s + i + 1 : Nat) : Int))) rfl (⟨by omega, by rw [hwB]; rfl⟩)
      · skip
        refine qG.blk 8 (pc' := 147) (ls' := [(2, 95), (0, ((c : Nat) : Int)), (0, 5), (0, what), (0, v), (0, ((i : Nat) : Int))]) (st' := [(0, wB 95 41)]) (w' := (qup wB 95 38 (qor (wB 95 38) v))) (n' := 142) rfl ?_
        refine qG.call (t := 211) (na := 1) (sk := 0) (md := 0) (ls1 := [(0, wB 95 41), (9, 0), (9, 0)]) (r1 := []) rfl rfl rfl rfl rfl (K_bits (by omega) _ _) ?_
        rintro _ w7 _ ⟨rfl, hw7, rfl⟩
        rw [hw7]
        show qG none (d + 1) 252 150 [(2, 95), (0, ((c : Nat) : Int)), (0, 5), (0, what), (0, v), (0, ((i : Nat) : Int))] [(0, bitsF (wB 95 41) 16)] (qup wB 95 38 (qor (wB 95 38) v)) 142 Q9
        refine qG.blk 5 (pc' := 159) (ls' := [(2, 95), (0, ((c : Nat) : Int)), (0, 5), (0, what), (0, v), (0, bitsF (wB 95 41) 16)]) (st' := [(0, wB 95 39), (0, bitsF (wB 95 41) 16), (2, 95)]) (w' := (qup wB 95 38 (qor (wB 95 38) v))) (n' := 142) rfl ?_
        refine qG.br (P := wB 95 39 < bitsF (wB 95 41) 16) (pc1 := 162) (pc2 := 167) (st1 := [(2, 95)]) rfl (fun h2 => ?_) (fun h2 => ?_)
        · skip
          refine qG.blk 3 (pc' := 174) (ls' := [(2, 95), (0, ((c : Nat) : Int)), (0, 5), (0, what), (0, v), (0, bitsF (wB 95 41) 16)]) (st' := []) (w' := (qup (qup wB 95 38 (qor (wB 95 38) v)) 95 39 (bitsF (wB 95 41) 16))) (n' := 142) rfl ?_
          refine qG.retv rfl rfl ?_
          subst hQ9
          refine ⟨rfl, ?_, rfl⟩
          have hi : i = dN 5 what := by omega
          subst hwB
          subst hi
          unfold dD dC
          simp only [qup_k, qup_j (show (39 : Nat) ≠ 38 by decide), qup_j (show (41 : Nat) ≠ 38 by decide)] at *
          first | rw [if_pos (by omega)] | rw [if_neg (by omega)]
        · skip
          refine qG.blk 3 (pc' := 174) (ls' := [(2, 95), (0, ((c : Nat) : Int)), (0, 5), (0, what), (0, v), (0, bitsF (wB 95 41) 16)]) (st' := []) (w' := (qup (qup wB 95 38 (qor (wB 95 38) v)) 95 39 (wB 95 39))) (n' := 142) rfl ?_
          refine qG.retv rfl rfl ?_
          subst hQ9
          refine ⟨rfl, ?_, rfl⟩
          have hi : i = dN 5 what := by omega
          subst hwB
          subst hi
          unfold dD dC
          simp only [qup_k, qup_j (show (39 : Nat) ≠ 38 by decide), qup_j (show (41 : Nat) ≠ 38 by decide)] at *
          first | rw [if_pos (by omega)] | rw [if_neg (by omega)]
  exact L90 _ (0) (wA) rfl (⟨by omega, rfl⟩)
theorem K_does5 {d : Nat} (hd : 2 ≤ d) (c : Nat) (what : Int) (hc : c < 3) (hw0 : yin (-2147483648, 2147483647) what) (w : qW) (hI : yInv zgf zga zra zSp w) (hs8 : w 95 37 + (dN 5 what : Nat) ≤ 800) : qG none d 252 0 [(2, 95), (0, ((c : Nat) : Int)), (0, 5), (0, what), (9, 0), (9, 0)] [] w 142 (fun (r : qV) (w1 : qW) (n1 : Nat) => r = (9, 0) ∧ w1 = doesW w c 5 what ∧ n1 = 142) := by
  generalize hQ9 : (fun (r : qV) (w1 : qW) (n1 : Nat) => r = (9, 0) ∧ w1 = doesW w c 5 what ∧ n1 = 142) = Q9
  have h43 := zfld hI (j := 43) (b := (0, 1)) rfl
  have a43 : (0 : Int) ≤ w 95 43 := h43.1
  have b43 : w 95 43 ≤ (1 : Int) := h43.2
  have h37 := zfld hI (j := 37) (b := (0, 800)) rfl
  have a37 : (0 : Int) ≤ w 95 37 := h37.1
  have hIA : yInv zgf zga zra zSp (dA 5 what w) := dA_I hI hw0
  obtain ⟨d, rfl⟩ : ∃ d9, d = d9 + 1 := ⟨d - 1, by omega⟩
  refine qG.blk 1 (pc' := 1) (ls' := [(2, 95), (0, ((c : Nat) : Int)), (0, 5), (0, what), (9, 0), (9, 0)]) (st' := [(0, 5)]) (w' := w) (n' := 142) rfl ?_
  refine qG.br (P := (5 : Int) = 0) (pc1 := 4) (pc2 := 16) (st1 := []) rfl (fun h1 => ?_) (fun h1 => ?_)
  · exact absurd h1 (by decide)
  · skip
    refine qG.blk 2 (pc' := 18) (ls' := [(2, 95), (0, ((c : Nat) : Int)), (0, 5), (0, what), (9, 0), (9, 0)]) (st' := [(0, 1), (0, 5)]) (w' := w) (n' := 142) rfl ?_
    refine qG.br (P := (5 : Int) = 1) (pc1 := 21) (pc2 := 35) (st1 := []) rfl (fun h2 => ?_) (fun h2 => ?_)
    · exact absurd h2 (by decide)
    · skip
      refine qG.blk 2 (pc' := 37) (ls' := [(2, 95), (0, ((c : Nat) : Int)), (0, 5), (0, what), (9, 0), (9, 0)]) (st' := [(0, 3), (0, 5)]) (w' := w) (n' := 142) rfl ?_
      refine qG.br (P := (5 : Int) = 3) (pc1 := 40) (pc2 := 45) (st1 := []) rfl (fun h3 => ?_) (fun h3 => ?_)
      · exact absurd h3 (by decide)
      · skip
        refine qG.blk 2 (pc' := 47) (ls' := [(2, 95), (0, ((c : Nat) : Int)), (0, 5), (0, what), (9, 0), (9, 0)]) (st' := [(0, 4), (0, 5)]) (w' := w) (n' := 142) rfl ?_
        refine qG.br (P := (5 : Int) = 4) (pc1 := 50) (pc2 := 55) (st1 := []) rfl (fun h4 => ?_) (fun h4 => ?_)
        · exact absurd h4 (by decide)
        · skip
          refine qG.blk 2 (pc' := 57) (ls' := [(2, 95), (0, ((c : Nat) : Int)), (0, 5), (0, what), (9, 0), (9, 0)]) (st' := [(0, 5), (0, 5)]) (w' := w) (n' := 142) rfl ?_
          refine qG.br (P := (5 : Int) = 5) (pc1 := 60) (pc2 := 80) (st1 := []) rfl (fun h5 => ?_) (fun h5 => ?_)
          · skip
            refine qG.blk 5 (pc' := 67) (ls' := [(2, 95), (0, ((c : Nat) : Int)), (0, 5), (0, what), (9, 0), (9, 0)]) (st' := [(0, wrp (1 - (w 95 43))), (2, 95)]) (w' := w) (n' := 142) rfl ?_
            rw [show wrp (1 - (w 95 43)) = 1 - w 95 43 from wrp_id (by omega) (by omega)]
            refine qG.blk 6 (pc' := 77) (ls' := [(2, 95), (0, ((c : Nat) : Int)), (0, 5), (0, what), (9, 0), (9, 0)]) (st' := [(0, wrp ((w 95 40) + 1)), (2, 95)]) (w' := (qup w 95 43 (1 - w 95 43))) (n' := 142) rfl ?_
            refine qG.blk 3 (pc' := 82) (ls' := [(2, 95), (0, ((c : Nat) : Int)), (0, 5), (0, what), (9, 0), (9, 0)]) (st' := [(0, ((c : Nat) : Int)), (2, 95)]) (w' := (qup (qup w 95 43 (1 - w 95 43)) 95 40 (wrp ((w 95 40) + 1)))) (n' := 142) rfl ?_
            refine qG.call (t := 249) (na := 2) (sk := 1) (md := 1) (ls1 := [(2, 95), (0, ((c : Nat) : Int)), (9, 0), (9, 0)]) (r1 := []) rfl rfl rfl rfl rfl (K_sees (by omega) c hc ((qup (qup w 95 43 (1 - w 95 43)) 95 40 (wrp ((w 95 40) + 1)))) hIA) ?_
            rintro _ w7 _ ⟨rfl, hw7, rfl⟩
            rw [hw7]
            subst hQ9
            exact K_doesB5 (by omega) c what hw0 (w 95 37).toNat _ (seesF_32 10) (dA 5 what w) hIA (by rw [dA_o (by omega)]; omega) (by omega)
          · exact absurd h5 (by decide)
theorem K_does {d : Nat} (hd : 2 ≤ d) (c : Nat) (kind what : Int) (hc : c < 3) (hk : 0 ≤ kind ∧ kind ≤ 5) (hw0 : yin (-2147483648, 2147483647) what) (w : qW) (hI : yInv zgf zga zra zSp w) (hs8 : w 95 37 + (dN kind what : Nat) ≤ 800) : qG none d 252 0 [(2, 95), (0, ((c : Nat) : Int)), (0, kind), (0, what), (9, 0), (9, 0)] [] w 142 (fun (r : qV) (w1 : qW) (n1 : Nat) => r = (9, 0) ∧ w1 = doesW w c kind what ∧ n1 = 142) := by
  rcases (show kind = 0 ∨ kind = 1 ∨ kind = 2 ∨ kind = 3 ∨ kind = 4 ∨ kind = 5 by omega) with rfl | rfl | rfl | rfl | rfl | rfl
  · exact K_does0 hd c what hc hw0 w hI hs8
  · exact K_does1 hd c what hc hw0 w hI hs8
  · exact K_does2 hd c what hc hw0 w hI hs8
  · exact K_does3 hd c what hc hw0 w hI hs8
  · exact K_does4 hd c what hc hw0 w hI hs8
  · exact K_does5 hd c what hc hw0 w hI hs8
/-- a fresh look -/
noncomputable def begW (w : qW) : qW := qup (qup (qup (qup (qup (qup (qup w 95 37 0) 95 38 0) 95 39 0) 95 40 0) 95 41 0) 95 42 (-1)) 95 43 0
noncomputable def shW (w : qW) (c k : Nat) : Nat → qW
  | 0 => begW w
  | i + 1 => doesW (shW w c k i) c (w 104 (40 * k + i)) (w 105 (40 * k + i))
theorem begW_o {w : qW} {p j : Nat} (h2 : ¬ (p = 95 ∧ 37 ≤ j ∧ j ≤ 43)) : begW w p j = w p j := by
  have k : ∀ (v : qW) (q : Nat) (x : Int), (37 ≤ q ∧ q ≤ 43) → qup v 95 q x p j = v p j := fun v q x hq => by
    by_cases hp : p = 95
    · subst hp
      exact qup_j (fun z => h2 ⟨rfl, by omega⟩)
    · rw [qup_ne hp]
  unfold begW
  rw [k _ _ _ (by omega), k _ _ _ (by omega), k _ _ _ (by omega), k _ _ _ (by omega), k _ _ _ (by omega), k _ _ _ (by omega), k _ _ _ (by omega)]
theorem begW_37 {w : qW} : begW w 95 37 = 0 := by unfold begW; simp (disch := decide) only [qup_j, qup_k]
theorem begW_I {w : qW} (hI : yInv zgf zga zra zSp w) : yInv zgf zga zra zSp (begW w) :=
  zup_f (zup_f (zup_f (zup_f (zup_f (zup_f (zup_f hI (b := (0, 800)) rfl rfl rfl ⟨by decide, by decide⟩) (b := (-2147483648, 2147483647)) rfl rfl rfl ⟨by decide, by decide⟩) (b := (0, 16)) rfl rfl rfl ⟨by decide, by decide⟩) (b := (-2147483648, 2147483647)) rfl rfl rfl ⟨by decide, by decide⟩) (b := (-2147483648, 2147483647)) rfl rfl rfl ⟨by decide, by decide⟩) (b := (-2147483648, 2147483647)) rfl rfl rfl ⟨by decide, by decide⟩) (b := (0, 1)) rfl rfl rfl ⟨by decide, by decide⟩
/-- the steps of the shows that are told: a wait is 1 .. 20 -/
noncomputable def Sp1 (w : qW) : Prop := ∀ j, j < 160 → w 104 j = 2 → w 105 j ≤ 20
theorem shW_o {w : qW} {c k : Nat} {p j : Nat} (h1 : p ≠ 116) (h2 : ¬ (p = 95 ∧ 37 ≤ j ∧ j ≤ 43)) : ∀ i, shW w c k i p j = w p j
  | 0 => begW_o h2
  | i + 1 => (doesW_o h1 h2).trans (shW_o h1 h2 i)
theorem shW_I {w : qW} {c k : Nat} (hk : k < 4) (hI : yInv zgf zga zra zSp w) (hS : Sp1 w) : ∀ i, i ≤ 40 → yInv zgf zga zra zSp (shW w c k i) ∧ shW w c k i 95 37 ≤ 20 * i ∧ 0 ≤ shW w c k i 95 37
  | 0, _ => ⟨begW_I hI, by show begW w 95 37 ≤ _; rw [begW_37]; decide, by show 0 ≤ begW w 95 37; rw [begW_37]; decide⟩
  | i + 1, h => by
    obtain ⟨a, b, b0⟩ := shW_I (c := c) hk hI hS i (by omega)
    have hw := hI.2.1 105 (40 * k + i) (0, 9999) rfl rfl
    have w1 : (0 : Int) ≤ w 105 (40 * k + i) := hw.1
    have w2 : w 105 (40 * k + i) ≤ (9999 : Int) := hw.2
    have hn : (dN (w 104 (40 * k + i)) (w 105 (40 * k + i)) : Int) ≤ 20 := by
      unfold dN
      split
      · rename_i e
        have := hS (40 * k + i) (by omega) e
        omega
      · decide
    refine ⟨doesW_I a ⟨by show (-2147483648 : Int) ≤ _; omega, by show _ ≤ (2147483647 : Int); omega⟩ (by omega), ?_, ?_⟩
    · show doesW _ _ _ _ 95 37 ≤ _
      rw [doesW_s a]
      omega
    · show 0 ≤ doesW _ _ _ _ 95 37
      rw [doesW_s a]
      omega
theorem K_begins {d : Nat} (hd : 0 ≤ d) (w : qW) (hI : yInv zgf zga zra zSp w) : qG none d 251 0 [(2, 95)] [] w 142 (fun (r : qV) (w1 : qW) (n1 : Nat) => r = (9, 0) ∧ w1 = begW w ∧ n1 = 142) := by
  generalize hQ9 : (fun (r : qV) (w1 : qW) (n1 : Nat) => r = (9, 0) ∧ w1 = begW w ∧ n1 = 142) = Q9
  refine qG.blk 12 (pc' := 20) (ls' := [(2, 95)]) (st' := []) (w' := (qup (qup (qup (qup w 95 37 0) 95 38 0) 95 39 0) 95 40 0)) (n' := 142) rfl ?_
  refine qG.blk 9 (pc' := 35) (ls' := [(2, 95)]) (st' := []) (w' := (qup (qup (qup (qup (qup (qup (qup w 95 37 0) 95 38 0) 95 39 0) 95 40 0) 95 41 0) 95 42 (-1)) 95 43 0)) (n' := 142) rfl ?_
  refine qG.retv rfl rfl ?_
  subst hQ9
  exact ⟨rfl, rfl, rfl⟩
theorem K_shows {d : Nat} (hd : 3 ≤ d) (c k : Nat) (hc : c < 3) (hk : k < 4) (w : qW) (hI : yInv zgf zga zra zSp w) (hS : Sp1 w) : qG none d 253 0 [(2, 95), (0, ((c : Nat) : Int)), (0, ((k : Nat) : Int)), (9, 0)] [] w 142 (fun (r : qV) (w1 : qW) (n1 : Nat) => r = (9, 0) ∧ w1 = shW w c k (w 106 k).toNat ∧ n1 = 142) := by
  generalize hQ9 : (fun (r : qV) (w1 : qW) (n1 : Nat) => r = (9, 0) ∧ w1 = shW w c k (w 106 k).toNat ∧ n1 = 142) = Q9
  have h106 := hI.2.1 106 k (0, 40) rfl rfl
  have a106 : (0 : Int) ≤ w 106 k := h106.1
  have b106 : w 106 k ≤ (40 : Int) := h106.2
  obtain ⟨d, rfl⟩ : ∃ d9, d = d9 + 1 := ⟨d - 1, by omega⟩
  refine qG.blk 1 (pc' := 1) (ls' := [(2, 95), (0, ((c : Nat) : Int)), (0, ((k : Nat) : Int)), (9, 0)]) (st' := [(2, 95)]) (w' := w) (n' := 142) rfl ?_
  refine qG.call (t := 251) (na := 1) (sk := 1) (md := 1) (ls1 := [(2, 95)]) (r1 := []) rfl rfl rfl rfl rfl (K_begins (by omega) w hI) ?_
  rintro _ w7 _ ⟨rfl, hw7, rfl⟩
  rw [hw7]
  show qG none (d + 1) 253 4 [(2, 95), (0, ((c : Nat) : Int)), (0, ((k : Nat) : Int)), (9, 0)] [] (begW w) 142 Q9
  refine qG.blk 2 (pc' := 6) (ls' := [(2, 95), (0, ((c : Nat) : Int)), (0, ((k : Nat) : Int)), (0, 0)]) (st' := []) (w' := (begW w)) (n' := 142) rfl ?_
  have L6 : ∀ (m9 : Nat) (i : Nat) (wS : qW), 40 - i = m9 → ((i : Int) ≤ w 106 k ∧ yInv zgf zga zra zSp wS ∧ wS = shW w c k i) → qG none (d + 1) 253 6 [(2, 95), (0, ((c : Nat) : Int)), (0, ((k : Nat) : Int)), (0, ((i : Nat) : Int))] [] wS 142 Q9 := by
    intro m9
    induction m9 using Nat.strongRecOn with
    | ind m9 ih6 =>
    intro i wS hm6 hI6
    have hi40 : i ≤ 40 := by omega
    refine qG.blk 3 (pc' := 11) (ls' := [(2, 95), (0, ((c : Nat) : Int)), (0, ((k : Nat) : Int)), (0, ((i : Nat) : Int))]) (st' := [(2, wS 95 12), (0, ((i : Nat) : Int))]) (w' := wS) (n' := 142) rfl ?_
    rw [show wS 95 12 = 106 from zref hI6.2.1 rfl rfl]
    refine qG.blk 1 (pc' := 12) (ls' := [(2, 95), (0, ((c : Nat) : Int)), (0, ((k : Nat) : Int)), (0, ((i : Nat) : Int))]) (st' := [(0, ((k : Nat) : Int)), (2, 106), (0, ((i : Nat) : Int))]) (w' := wS) (n' := 142) rfl ?_
    refine qG.ar (P := 0 ≤ ((k : Nat) : Int) ∧ ((k : Nat) : Int) < ((4 : Nat) : Int)) (P2 := 0 < (106 : Int) ∧ (106 : Int) ≤ ((142 : Nat) : Int)) (pc' := 13) (ls' := [(2, 95), (0, ((c : Nat) : Int)), (0, ((k : Nat) : Int)), (0, ((i : Nat) : Int))]) (st' := [(0, wS 106 k), (0, ((i : Nat) : Int))]) (w' := wS) (n' := 142) rfl (by omega) (by decide) ?_
    rw [show wS 106 k = w 106 k from (congrFun (congrFun hI6.2.2 106) k).trans (shW_o (by decide) (by omega) i)]
    refine qG.br (P := ((i : Nat) : Int) < w 106 k) (pc1 := 16) (pc2 := 49) (st1 := []) rfl (fun hlt => ?_) (fun hlt => ?_)
    · skip
      have hkd := hI.2.1 104 (40 * k + i) (0, 5) rfl rfl
      have hwt := hI.2.1 105 (40 * k + i) (0, 9999) rfl rfl
      have w1 : (0 : Int) ≤ w 105 (40 * k + i) := hwt.1
      have w2 : w 105 (40 * k + i) ≤ (9999 : Int) := hwt.2
      have hsec := shW_I (c := c) hk hI hS i hi40
      have hsn : (dN (w 104 (40 * k + i)) (w 105 (40 * k + i)) : Int) ≤ 20 := by
          unfold dN
          split
          · rename_i e
            have := hS (40 * k + i) (by omega) e
            omega
          · decide
      refine qG.blk 4 (pc' := 22) (ls' := [(2, 95), (0, ((c : Nat) : Int)), (0, ((k : Nat) : Int)), (0, ((i : Nat) : Int))]) (st' := [(2, wS 95 10), (0, ((c : Nat) : Int)), (2, 95)]) (w' := wS) (n' := 142) rfl ?_
      rw [show wS 95 10 = 104 from zref hI6.2.1 rfl rfl]
      refine qG.blk 3 (pc' := 26) (ls' := [(2, 95), (0, ((c : Nat) : Int)), (0, ((k : Nat) : Int)), (0, ((i : Nat) : Int))]) (st' := [(0, wrp (40 * ((k : Nat) : Int))), (2, 104), (0, ((c : Nat) : Int)), (2, 95)]) (w' := wS) (n' := 142) rfl ?_
      rw [show wrp (40 * ((k : Nat) : Int)) = ((40 * k : Nat) : Int) from by rw [wrp_id (by omega) (by omega)]; omega]
      refine qG.blk 2 (pc' := 28) (ls' := [(2, 95), (0, ((c : Nat) : Int)), (0, ((k : Nat) : Int)), (0, ((i : Nat) : Int))]) (st' := [(0, wrp (((40 * k : Nat) : Int) + ((i : Nat) : Int))), (2, 104), (0, ((c : Nat) : Int)), (2, 95)]) (w' := wS) (n' := 142) rfl ?_
      rw [show wrp (((40 * k : Nat) : Int) + ((i : Nat) : Int)) = ((40 * k + i : Nat) : Int) from by rw [wrp_id (by omega) (by omega)]; omega]
      refine qG.ild (m := 160) rfl rfl (by omega) (by decide) ?_
      show qG none (d + 1) 253 29 [(2, 95), (0, ((c : Nat) : Int)), (0, ((k : Nat) : Int)), (0, ((i : Nat) : Int))] [(0, wS 104 (40 * k + i)), (0, ((c : Nat) : Int)), (2, 95)] wS 142 Q9
      rw [show wS 104 (40 * k + i) = w 104 (40 * k + i) from (congrFun (congrFun hI6.2.2 104) (40 * k + i)).trans (shW_o (by decide) (by omega) i)]
      refine qG.blk 2 (pc' := 33) (ls' := [(2, 95), (0, ((c : Nat) : Int)), (0, ((k : Nat) : Int)), (0, ((i : Nat) : Int))]) (st' := [(2, wS 95 11), (0, w 104 (40 * k + i)), (0, ((c : Nat) : Int)), (2, 95)]) (w' := wS) (n' := 142) rfl ?_
      rw [show wS 95 11 = 105 from zref hI6.2.1 rfl rfl]
      refine qG.blk 3 (pc' := 37) (ls' := [(2, 95), (0, ((c : Nat) : Int)), (0, ((k : Nat) : Int)), (0, ((i : Nat) : Int))]) (st' := [(0, wrp (40 * ((k : Nat) : Int))), (2, 105), (0, w 104 (40 * k + i)), (0, ((c : Nat) : Int)), (2, 95)]) (w' := wS) (n' := 142) rfl ?_
      rw [show wrp (40 * ((k : Nat) : Int)) = ((40 * k : Nat) : Int) from by rw [wrp_id (by omega) (by omega)]; omega]
      refine qG.blk 2 (pc' := 39) (ls' := [(2, 95), (0, ((c : Nat) : Int)), (0, ((k : Nat) : Int)), (0, ((i : Nat) : Int))]) (st' := [(0, wrp (((40 * k : Nat) : Int) + ((i : Nat) : Int))), (2, 105), (0, w 104 (40 * k + i)), (0, ((c : Nat) : Int)), (2, 95)]) (w' := wS) (n' := 142) rfl ?_
      rw [show wrp (((40 * k : Nat) : Int) + ((i : Nat) : Int)) = ((40 * k + i : Nat) : Int) from by rw [wrp_id (by omega) (by omega)]; omega]
      refine qG.ild (m := 160) rfl rfl (by omega) (by decide) ?_
      show qG none (d + 1) 253 40 [(2, 95), (0, ((c : Nat) : Int)), (0, ((k : Nat) : Int)), (0, ((i : Nat) : Int))] [(0, wS 105 (40 * k + i)), (0, w 104 (40 * k + i)), (0, ((c : Nat) : Int)), (2, 95)] wS 142 Q9
      rw [show wS 105 (40 * k + i) = w 105 (40 * k + i) from (congrFun (congrFun hI6.2.2 105) (40 * k + i)).trans (shW_o (by decide) (by omega) i)]
      refine qG.call (t := 252) (na := 4) (sk := 1) (md := 1) (ls1 := [(2, 95), (0, ((c : Nat) : Int)), (0, w 104 (40 * k + i)), (0, w 105 (40 * k + i)), (9, 0), (9, 0)]) (r1 := []) rfl rfl rfl rfl rfl (K_does (by omega) c _ _ hc ⟨hkd.1, hkd.2⟩ ⟨by show (-2147483648 : Int) ≤ _; omega, by show _ ≤ (2147483647 : Int); omega⟩ wS hI6.2.1 (by rw [hI6.2.2]; omega)) ?_
      rintro _ w7 _ ⟨rfl, hw7, rfl⟩
      rw [hw7, show doesW wS c (w 104 (40 * k + i)) (w 105 (40 * k + i)) = shW w c k (i + 1) from by rw [hI6.2.2]; rfl]
      show qG none (d + 1) 253 43 [(2, 95), (0, ((c : Nat) : Int)), (0, ((k : Nat) : Int)), (0, ((i : Nat) : Int))] [] (shW w c k (i + 1)) 142 Q9
      refine qG.blk 1 (pc' := 46) (ls' := [(2, 95), (0, ((c : Nat) : Int)), (0, ((k : Nat) : Int)), (0, wrp (((i : Nat) : Int) + 1))]) (st' := []) (w' := (shW w c k (i + 1))) (n' := 142) rfl ?_
      rw [show wrp (((i : Nat) : Int) + 1) = ((i + 1 : Nat) : Int) from wrp_id (by omega) (by omega)]
      refine qG.blk 1 (pc' := 6) (ls' := [(2, 95), (0, ((c : Nat) : Int)), (0, ((k : Nat) : Int)), (0, ((i + 1 : Nat) : Int))]) (st' := []) (w' := (shW w c k (i + 1))) (n' := 142) rfl ?_
      exact ih6 _ (by omega) (i + 1) ((shW w c k (i + 1))) rfl (⟨by omega, (shW_I hk hI hS (i + 1) (by omega)).1, rfl⟩)
    · skip
      refine qG.retv rfl rfl ?_
      subst hQ9
      exact ⟨rfl, by rw [hI6.2.2, show (w 106 k).toNat = i by omega], rfl⟩
  exact L6 _ (0) ((begW w)) rfl (⟨by omega, begW_I hI, rfl⟩)
