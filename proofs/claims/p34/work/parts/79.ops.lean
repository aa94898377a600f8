/-! each of the law's calls, on every state, with JW kept -/
theorem O_0 {L : Nat} {xs : Nat → Int} (hx : ∀ j, -2147483648 ≤ xs j ∧ xs j ≤ 2147483647) (i : Nat) (hi : i + 6 ≤ L) (hL : L ≤ 3072) {d : Nat} (hd : 70 ≤ d) (w : qW) (hP : SP w) (hJ : JW w) {Q9 : qV → qW → Nat → Prop} (H : ∀ w1, SP w1 → JW w1 → qG (some (L, xs)) d 305 1610 [(3, 0), (2, 1), (2, 95), (0, ((i : Nat) : Int))] [] w1 142 Q9) : qG (some (L, xs)) d 305 33 [(3, 0), (2, 1), (2, 95), (0, ((i : Nat) : Int))] [(0, 0)] w 142 Q9 := by
  obtain ⟨d, rfl⟩ : ∃ d9, d = d9 + 1 := ⟨d - 1, by omega⟩
  refine qG.blk 6 (pc' := 189) (ls' := [(3, 0), (2, 1), (2, 95), (0, ((i : Nat) : Int))]) (st' := [(0, wrp (((i : Nat) : Int) + 1)), (3, 0), (2, 1)]) (w' := w) (n' := 142) rfl ?_
  rw [show wrp (((i : Nat) : Int) + 1) = ((i + 1 : Nat) : Int) from by rw [wrp_id (by omega) (by omega)]; omega]
  refine qG.gd (P := 0 ≤ ((i + 1 : Nat) : Int) ∧ ((i + 1 : Nat) : Int) < ((L : Nat) : Int)) (pc' := 190) (ls' := [(3, 0), (2, 1), (2, 95), (0, ((i : Nat) : Int))]) (st' := [(0, xs (i + 1)), (2, 1)]) (w' := w) (n' := 142) rfl (by omega) ?_
  refine qG.blk 4 (pc' := 194) (ls' := [(3, 0), (2, 1), (2, 95), (0, ((i : Nat) : Int))]) (st' := [(0, wrp (((i : Nat) : Int) + 2)), (3, 0), (0, xs (i + 1)), (2, 1)]) (w' := w) (n' := 142) rfl ?_
  rw [show wrp (((i : Nat) : Int) + 2) = ((i + 2 : Nat) : Int) from by rw [wrp_id (by omega) (by omega)]; omega]
  refine qG.gd (P := 0 ≤ ((i + 2 : Nat) : Int) ∧ ((i + 2 : Nat) : Int) < ((L : Nat) : Int)) (pc' := 195) (ls' := [(3, 0), (2, 1), (2, 95), (0, ((i : Nat) : Int))]) (st' := [(0, xs (i + 2)), (0, xs (i + 1)), (2, 1)]) (w' := w) (n' := 142) rfl (by omega) ?_
  refine qG.blk 4 (pc' := 199) (ls' := [(3, 0), (2, 1), (2, 95), (0, ((i : Nat) : Int))]) (st' := [(0, wrp (((i : Nat) : Int) + 3)), (3, 0), (0, xs (i + 2)), (0, xs (i + 1)), (2, 1)]) (w' := w) (n' := 142) rfl ?_
  rw [show wrp (((i : Nat) : Int) + 3) = ((i + 3 : Nat) : Int) from by rw [wrp_id (by omega) (by omega)]; omega]
  refine qG.gd (P := 0 ≤ ((i + 3 : Nat) : Int) ∧ ((i + 3 : Nat) : Int) < ((L : Nat) : Int)) (pc' := 200) (ls' := [(3, 0), (2, 1), (2, 95), (0, ((i : Nat) : Int))]) (st' := [(0, xs (i + 3)), (0, xs (i + 2)), (0, xs (i + 1)), (2, 1)]) (w' := w) (n' := 142) rfl (by omega) ?_
  refine qG.br (P := xs (i + 3) = 0) (pc1 := 207) (pc2 := 203) (st1 := [(0, xs (i + 2)), (0, xs (i + 1)), (2, 1)]) rfl (fun h1 => ?_) (fun h1 => ?_)
  · skip
    refine qG.blk 1 (pc' := 208) (ls' := [(3, 0), (2, 1), (2, 95), (0, ((i : Nat) : Int))]) (st' := [(0, 0), (0, xs (i + 2)), (0, xs (i + 1)), (2, 1)]) (w' := w) (n' := 142) rfl ?_
    refine qG.call (t := 164) (na := 4) (sk := 1) (md := 1) (ls1 := [(2, 1), (0, xs (i + 1)), (0, xs (i + 2)), (0, 0)]) (r1 := []) rfl rfl rfl rfl rfl (SP.useA (c := C_X_works.2) (as := [(2, 1), (0, xs (i + 1)), (0, xs (i + 2)), (0, 0)]) T_X_works hP (show 2 ≤ d by omega) ⟨⟨rfl, by decide, by decide⟩, ⟨rfl, (hx (i + 1)).1, (hx (i + 1)).2⟩, ⟨rfl, (hx (i + 2)).1, (hx (i + 2)).2⟩, ⟨rfl, by decide, by decide⟩, trivial⟩ rfl rfl (by decide +kernel)) ?_
    rintro _ w2 _ ⟨x2, rfl, -, -, hP2, rfl, hB2, -⟩
    have hJ2 := hJ.aw hB2 (by decide +kernel)
    show qG (some (L, xs)) (d + 1) 305 211 [(3, 0), (2, 1), (2, 95), (0, ((i : Nat) : Int))] [(0, x2)] w2 142 Q9
    refine qG.blk 6 (pc' := 217) (ls' := [(3, 0), (2, 1), (2, 95), (0, ((i : Nat) : Int))]) (st' := [(0, wrp (((i : Nat) : Int) + 1)), (3, 0), (2, 95)]) (w' := w2) (n' := 142) rfl ?_
    rw [show wrp (((i : Nat) : Int) + 1) = ((i + 1 : Nat) : Int) from by rw [wrp_id (by omega) (by omega)]; omega]
    refine qG.gd (P := 0 ≤ ((i + 1 : Nat) : Int) ∧ ((i + 1 : Nat) : Int) < ((L : Nat) : Int)) (pc' := 218) (ls' := [(3, 0), (2, 1), (2, 95), (0, ((i : Nat) : Int))]) (st' := [(0, xs (i + 1)), (2, 95)]) (w' := w2) (n' := 142) rfl (by omega) ?_
    refine qG.blk 4 (pc' := 222) (ls' := [(3, 0), (2, 1), (2, 95), (0, ((i : Nat) : Int))]) (st' := [(0, wrp (((i : Nat) : Int) + 2)), (3, 0), (0, xs (i + 1)), (2, 95)]) (w' := w2) (n' := 142) rfl ?_
    rw [show wrp (((i : Nat) : Int) + 2) = ((i + 2 : Nat) : Int) from by rw [wrp_id (by omega) (by omega)]; omega]
    refine qG.gd (P := 0 ≤ ((i + 2 : Nat) : Int) ∧ ((i + 2 : Nat) : Int) < ((L : Nat) : Int)) (pc' := 223) (ls' := [(3, 0), (2, 1), (2, 95), (0, ((i : Nat) : Int))]) (st' := [(0, xs (i + 2)), (0, xs (i + 1)), (2, 95)]) (w' := w2) (n' := 142) rfl (by omega) ?_
    refine qG.blk 4 (pc' := 227) (ls' := [(3, 0), (2, 1), (2, 95), (0, ((i : Nat) : Int))]) (st' := [(0, wrp (((i : Nat) : Int) + 3)), (3, 0), (0, xs (i + 2)), (0, xs (i + 1)), (2, 95)]) (w' := w2) (n' := 142) rfl ?_
    rw [show wrp (((i : Nat) : Int) + 3) = ((i + 3 : Nat) : Int) from by rw [wrp_id (by omega) (by omega)]; omega]
    refine qG.gd (P := 0 ≤ ((i + 3 : Nat) : Int) ∧ ((i + 3 : Nat) : Int) < ((L : Nat) : Int)) (pc' := 228) (ls' := [(3, 0), (2, 1), (2, 95), (0, ((i : Nat) : Int))]) (st' := [(0, xs (i + 3)), (0, xs (i + 2)), (0, xs (i + 1)), (2, 95)]) (w' := w2) (n' := 142) rfl (by omega) ?_
    refine qG.br (P := xs (i + 3) = 0) (pc1 := 235) (pc2 := 231) (st1 := [(0, xs (i + 2)), (0, xs (i + 1)), (2, 95)]) rfl (fun h3 => ?_) (fun h3 => ?_)
    · skip
      refine qG.blk 1 (pc' := 236) (ls' := [(3, 0), (2, 1), (2, 95), (0, ((i : Nat) : Int))]) (st' := [(0, 0), (0, xs (i + 2)), (0, xs (i + 1)), (2, 95)]) (w' := w2) (n' := 142) rfl ?_
      refine qG.call (t := 214) (na := 4) (sk := 1) (md := 1) (ls1 := [(2, 95), (0, xs (i + 1)), (0, xs (i + 2)), (0, 0)]) (r1 := []) rfl rfl rfl rfl rfl (SP.useA (c := C_R_works.2) (as := [(2, 95), (0, xs (i + 1)), (0, xs (i + 2)), (0, 0)]) T_R_works hP2 (show 2 ≤ d by omega) ⟨⟨rfl, by decide, by decide⟩, ⟨rfl, (hx (i + 1)).1, (hx (i + 1)).2⟩, ⟨rfl, (hx (i + 2)).1, (hx (i + 2)).2⟩, ⟨rfl, by decide, by decide⟩, trivial⟩ rfl rfl (by decide +kernel)) ?_
      rintro _ w4 _ ⟨x4, rfl, -, -, hP4, rfl, hB4, -⟩
      have hJ4 := hJ2.aw hB4 (by decide +kernel)
      show qG (some (L, xs)) (d + 1) 305 239 [(3, 0), (2, 1), (2, 95), (0, ((i : Nat) : Int))] [(0, x4)] w4 142 Q9
      refine qG.blk 2 (pc' := 1610) (ls' := [(3, 0), (2, 1), (2, 95), (0, ((i : Nat) : Int))]) (st' := []) (w' := w4) (n' := 142) rfl ?_
      exact H _ hP4 hJ4
    · exfalso; exact h3 h1
  · skip
    refine qG.blk 2 (pc' := 208) (ls' := [(3, 0), (2, 1), (2, 95), (0, ((i : Nat) : Int))]) (st' := [(0, 1), (0, xs (i + 2)), (0, xs (i + 1)), (2, 1)]) (w' := w) (n' := 142) rfl ?_
    refine qG.call (t := 164) (na := 4) (sk := 1) (md := 1) (ls1 := [(2, 1), (0, xs (i + 1)), (0, xs (i + 2)), (0, 1)]) (r1 := []) rfl rfl rfl rfl rfl (SP.useA (c := C_X_works.2) (as := [(2, 1), (0, xs (i + 1)), (0, xs (i + 2)), (0, 1)]) T_X_works hP (show 2 ≤ d by omega) ⟨⟨rfl, by decide, by decide⟩, ⟨rfl, (hx (i + 1)).1, (hx (i + 1)).2⟩, ⟨rfl, (hx (i + 2)).1, (hx (i + 2)).2⟩, ⟨rfl, by decide, by decide⟩, trivial⟩ rfl rfl (by decide +kernel)) ?_
    rintro _ w5 _ ⟨x5, rfl, -, -, hP5, rfl, hB5, -⟩
    have hJ5 := hJ.aw hB5 (by decide +kernel)
    show qG (some (L, xs)) (d + 1) 305 211 [(3, 0), (2, 1), (2, 95), (0, ((i : Nat) : Int))] [(0, x5)] w5 142 Q9
    refine qG.blk 6 (pc' := 217) (ls' := [(3, 0), (2, 1), (2, 95), (0, ((i : Nat) : Int))]) (st' := [(0, wrp (((i : Nat) : Int) + 1)), (3, 0), (2, 95)]) (w' := w5) (n' := 142) rfl ?_
    rw [show wrp (((i : Nat) : Int) + 1) = ((i + 1 : Nat) : Int) from by rw [wrp_id (by omega) (by omega)]; omega]
    refine qG.gd (P := 0 ≤ ((i + 1 : Nat) : Int) ∧ ((i + 1 : Nat) : Int) < ((L : Nat) : Int)) (pc' := 218) (ls' := [(3, 0), (2, 1), (2, 95), (0, ((i : Nat) : Int))]) (st' := [(0, xs (i + 1)), (2, 95)]) (w' := w5) (n' := 142) rfl (by omega) ?_
    refine qG.blk 4 (pc' := 222) (ls' := [(3, 0), (2, 1), (2, 95), (0, ((i : Nat) : Int))]) (st' := [(0, wrp (((i : Nat) : Int) + 2)), (3, 0), (0, xs (i + 1)), (2, 95)]) (w' := w5) (n' := 142) rfl ?_
    rw [show wrp (((i : Nat) : Int) + 2) = ((i + 2 : Nat) : Int) from by rw [wrp_id (by omega) (by omega)]; omega]
    refine qG.gd (P := 0 ≤ ((i + 2 : Nat) : Int) ∧ ((i + 2 : Nat) : Int) < ((L : Nat) : Int)) (pc' := 223) (ls' := [(3, 0), (2, 1), (2, 95), (0, ((i : Nat) : Int))]) (st' := [(0, xs (i + 2)), (0, xs (i + 1)), (2, 95)]) (w' := w5) (n' := 142) rfl (by omega) ?_
    refine qG.blk 4 (pc' := 227) (ls' := [(3, 0), (2, 1), (2, 95), (0, ((i : Nat) : Int))]) (st' := [(0, wrp (((i : Nat) : Int) + 3)), (3, 0), (0, xs (i + 2)), (0, xs (i + 1)), (2, 95)]) (w' := w5) (n' := 142) rfl ?_
    rw [show wrp (((i : Nat) : Int) + 3) = ((i + 3 : Nat) : Int) from by rw [wrp_id (by omega) (by omega)]; omega]
    refine qG.gd (P := 0 ≤ ((i + 3 : Nat) : Int) ∧ ((i + 3 : Nat) : Int) < ((L : Nat) : Int)) (pc' := 228) (ls' := [(3, 0), (2, 1), (2, 95), (0, ((i : Nat) : Int))]) (st' := [(0, xs (i + 3)), (0, xs (i + 2)), (0, xs (i + 1)), (2, 95)]) (w' := w5) (n' := 142) rfl (by omega) ?_
    refine qG.br (P := xs (i + 3) = 0) (pc1 := 235) (pc2 := 231) (st1 := [(0, xs (i + 2)), (0, xs (i + 1)), (2, 95)]) rfl (fun h6 => ?_) (fun h6 => ?_)
    · exfalso; exact h1 h6
    · skip
      refine qG.blk 2 (pc' := 236) (ls' := [(3, 0), (2, 1), (2, 95), (0, ((i : Nat) : Int))]) (st' := [(0, 1), (0, xs (i + 2)), (0, xs (i + 1)), (2, 95)]) (w' := w5) (n' := 142) rfl ?_
      refine qG.call (t := 214) (na := 4) (sk := 1) (md := 1) (ls1 := [(2, 95), (0, xs (i + 1)), (0, xs (i + 2)), (0, 1)]) (r1 := []) rfl rfl rfl rfl rfl (SP.useA (c := C_R_works.2) (as := [(2, 95), (0, xs (i + 1)), (0, xs (i + 2)), (0, 1)]) T_R_works hP5 (show 2 ≤ d by omega) ⟨⟨rfl, by decide, by decide⟩, ⟨rfl, (hx (i + 1)).1, (hx (i + 1)).2⟩, ⟨rfl, (hx (i + 2)).1, (hx (i + 2)).2⟩, ⟨rfl, by decide, by decide⟩, trivial⟩ rfl rfl (by decide +kernel)) ?_
      rintro _ w7 _ ⟨x7, rfl, -, -, hP7, rfl, hB7, -⟩
      have hJ7 := hJ5.aw hB7 (by decide +kernel)
      show qG (some (L, xs)) (d + 1) 305 239 [(3, 0), (2, 1), (2, 95), (0, ((i : Nat) : Int))] [(0, x7)] w7 142 Q9
      refine qG.blk 2 (pc' := 1610) (ls' := [(3, 0), (2, 1), (2, 95), (0, ((i : Nat) : Int))]) (st' := []) (w' := w7) (n' := 142) rfl ?_
      exact H _ hP7 hJ7
theorem O_1 {L : Nat} {xs : Nat → Int} (hx : ∀ j, -2147483648 ≤ xs j ∧ xs j ≤ 2147483647) (i : Nat) (hi : i + 6 ≤ L) (hL : L ≤ 3072) {d : Nat} (hd : 70 ≤ d) (w : qW) (hP : SP w) (hJ : JW w) {Q9 : qV → qW → Nat → Prop} (H : ∀ w1, SP w1 → JW w1 → qG (some (L, xs)) d 305 1610 [(3, 0), (2, 1), (2, 95), (0, ((i : Nat) : Int))] [] w1 142 Q9) : qG (some (L, xs)) d 305 33 [(3, 0), (2, 1), (2, 95), (0, ((i : Nat) : Int))] [(0, 1)] w 142 Q9 := by
  obtain ⟨d, rfl⟩ : ∃ d9, d = d9 + 1 := ⟨d - 1, by omega⟩
  refine qG.blk 6 (pc' := 248) (ls' := [(3, 0), (2, 1), (2, 95), (0, ((i : Nat) : Int))]) (st' := [(0, wrp (((i : Nat) : Int) + 1)), (3, 0), (2, 1)]) (w' := w) (n' := 142) rfl ?_
  rw [show wrp (((i : Nat) : Int) + 1) = ((i + 1 : Nat) : Int) from by rw [wrp_id (by omega) (by omega)]; omega]
  refine qG.gd (P := 0 ≤ ((i + 1 : Nat) : Int) ∧ ((i + 1 : Nat) : Int) < ((L : Nat) : Int)) (pc' := 249) (ls' := [(3, 0), (2, 1), (2, 95), (0, ((i : Nat) : Int))]) (st' := [(0, xs (i + 1)), (2, 1)]) (w' := w) (n' := 142) rfl (by omega) ?_
  refine qG.blk 4 (pc' := 253) (ls' := [(3, 0), (2, 1), (2, 95), (0, ((i : Nat) : Int))]) (st' := [(0, wrp (((i : Nat) : Int) + 2)), (3, 0), (0, xs (i + 1)), (2, 1)]) (w' := w) (n' := 142) rfl ?_
  rw [show wrp (((i : Nat) : Int) + 2) = ((i + 2 : Nat) : Int) from by rw [wrp_id (by omega) (by omega)]; omega]
  refine qG.gd (P := 0 ≤ ((i + 2 : Nat) : Int) ∧ ((i + 2 : Nat) : Int) < ((L : Nat) : Int)) (pc' := 254) (ls' := [(3, 0), (2, 1), (2, 95), (0, ((i : Nat) : Int))]) (st' := [(0, xs (i + 2)), (0, xs (i + 1)), (2, 1)]) (w' := w) (n' := 142) rfl (by omega) ?_
  refine qG.blk 4 (pc' := 258) (ls' := [(3, 0), (2, 1), (2, 95), (0, ((i : Nat) : Int))]) (st' := [(0, wrp (((i : Nat) : Int) + 3)), (3, 0), (0, xs (i + 2)), (0, xs (i + 1)), (2, 1)]) (w' := w) (n' := 142) rfl ?_
  rw [show wrp (((i : Nat) : Int) + 3) = ((i + 3 : Nat) : Int) from by rw [wrp_id (by omega) (by omega)]; omega]
  refine qG.gd (P := 0 ≤ ((i + 3 : Nat) : Int) ∧ ((i + 3 : Nat) : Int) < ((L : Nat) : Int)) (pc' := 259) (ls' := [(3, 0), (2, 1), (2, 95), (0, ((i : Nat) : Int))]) (st' := [(0, xs (i + 3)), (0, xs (i + 2)), (0, xs (i + 1)), (2, 1)]) (w' := w) (n' := 142) rfl (by omega) ?_
  refine qG.blk 4 (pc' := 263) (ls' := [(3, 0), (2, 1), (2, 95), (0, ((i : Nat) : Int))]) (st' := [(0, wrp (((i : Nat) : Int) + 4)), (3, 0), (0, xs (i + 3)), (0, xs (i + 2)), (0, xs (i + 1)), (2, 1)]) (w' := w) (n' := 142) rfl ?_
  rw [show wrp (((i : Nat) : Int) + 4) = ((i + 4 : Nat) : Int) from by rw [wrp_id (by omega) (by omega)]; omega]
  refine qG.gd (P := 0 ≤ ((i + 4 : Nat) : Int) ∧ ((i + 4 : Nat) : Int) < ((L : Nat) : Int)) (pc' := 264) (ls' := [(3, 0), (2, 1), (2, 95), (0, ((i : Nat) : Int))]) (st' := [(0, xs (i + 4)), (0, xs (i + 3)), (0, xs (i + 2)), (0, xs (i + 1)), (2, 1)]) (w' := w) (n' := 142) rfl (by omega) ?_
  refine qG.br (P := xs (i + 4) = 0) (pc1 := 271) (pc2 := 267) (st1 := [(0, xs (i + 3)), (0, xs (i + 2)), (0, xs (i + 1)), (2, 1)]) rfl (fun h1 => ?_) (fun h1 => ?_)
  · skip
    refine qG.blk 1 (pc' := 272) (ls' := [(3, 0), (2, 1), (2, 95), (0, ((i : Nat) : Int))]) (st' := [(0, 0), (0, xs (i + 3)), (0, xs (i + 2)), (0, xs (i + 1)), (2, 1)]) (w' := w) (n' := 142) rfl ?_
    refine qG.call (t := 165) (na := 5) (sk := 1) (md := 1) (ls1 := [(2, 1), (0, xs (i + 1)), (0, xs (i + 2)), (0, xs (i + 3)), (0, 0)]) (r1 := []) rfl rfl rfl rfl rfl (SP.useA (c := C_X_wall.2) (as := [(2, 1), (0, xs (i + 1)), (0, xs (i + 2)), (0, xs (i + 3)), (0, 0)]) T_X_wall hP (show 3 ≤ d by omega) ⟨⟨rfl, by decide, by decide⟩, ⟨rfl, (hx (i + 1)).1, (hx (i + 1)).2⟩, ⟨rfl, (hx (i + 2)).1, (hx (i + 2)).2⟩, ⟨rfl, (hx (i + 3)).1, (hx (i + 3)).2⟩, ⟨rfl, by decide, by decide⟩, trivial⟩ rfl rfl (by decide +kernel)) ?_
    rintro _ w2 _ ⟨x2, rfl, -, -, hP2, rfl, hB2, -⟩
    have hJ2 := hJ.aw hB2 (by decide +kernel)
    show qG (some (L, xs)) (d + 1) 305 275 [(3, 0), (2, 1), (2, 95), (0, ((i : Nat) : Int))] [(0, x2)] w2 142 Q9
    refine qG.blk 6 (pc' := 281) (ls' := [(3, 0), (2, 1), (2, 95), (0, ((i : Nat) : Int))]) (st' := [(0, wrp (((i : Nat) : Int) + 1)), (3, 0), (2, 95)]) (w' := w2) (n' := 142) rfl ?_
    rw [show wrp (((i : Nat) : Int) + 1) = ((i + 1 : Nat) : Int) from by rw [wrp_id (by omega) (by omega)]; omega]
    refine qG.gd (P := 0 ≤ ((i + 1 : Nat) : Int) ∧ ((i + 1 : Nat) : Int) < ((L : Nat) : Int)) (pc' := 282) (ls' := [(3, 0), (2, 1), (2, 95), (0, ((i : Nat) : Int))]) (st' := [(0, xs (i + 1)), (2, 95)]) (w' := w2) (n' := 142) rfl (by omega) ?_
    refine qG.blk 4 (pc' := 286) (ls' := [(3, 0), (2, 1), (2, 95), (0, ((i : Nat) : Int))]) (st' := [(0, wrp (((i : Nat) : Int) + 2)), (3, 0), (0, xs (i + 1)), (2, 95)]) (w' := w2) (n' := 142) rfl ?_
    rw [show wrp (((i : Nat) : Int) + 2) = ((i + 2 : Nat) : Int) from by rw [wrp_id (by omega) (by omega)]; omega]
    refine qG.gd (P := 0 ≤ ((i + 2 : Nat) : Int) ∧ ((i + 2 : Nat) : Int) < ((L : Nat) : Int)) (pc' := 287) (ls' := [(3, 0), (2, 1), (2, 95), (0, ((i : Nat) : Int))]) (st' := [(0, xs (i + 2)), (0, xs (i + 1)), (2, 95)]) (w' := w2) (n' := 142) rfl (by omega) ?_
    refine qG.blk 4 (pc' := 291) (ls' := [(3, 0), (2, 1), (2, 95), (0, ((i : Nat) : Int))]) (st' := [(0, wrp (((i : Nat) : Int) + 3)), (3, 0), (0, xs (i + 2)), (0, xs (i + 1)), (2, 95)]) (w' := w2) (n' := 142) rfl ?_
    rw [show wrp (((i : Nat) : Int) + 3) = ((i + 3 : Nat) : Int) from by rw [wrp_id (by omega) (by omega)]; omega]
    refine qG.gd (P := 0 ≤ ((i + 3 : Nat) : Int) ∧ ((i + 3 : Nat) : Int) < ((L : Nat) : Int)) (pc' := 292) (ls' := [(3, 0), (2, 1), (2, 95), (0, ((i : Nat) : Int))]) (st' := [(0, xs (i + 3)), (0, xs (i + 2)), (0, xs (i + 1)), (2, 95)]) (w' := w2) (n' := 142) rfl (by omega) ?_
    refine qG.blk 4 (pc' := 296) (ls' := [(3, 0), (2, 1), (2, 95), (0, ((i : Nat) : Int))]) (st' := [(0, wrp (((i : Nat) : Int) + 4)), (3, 0), (0, xs (i + 3)), (0, xs (i + 2)), (0, xs (i + 1)), (2, 95)]) (w' := w2) (n' := 142) rfl ?_
    rw [show wrp (((i : Nat) : Int) + 4) = ((i + 4 : Nat) : Int) from by rw [wrp_id (by omega) (by omega)]; omega]
    refine qG.gd (P := 0 ≤ ((i + 4 : Nat) : Int) ∧ ((i + 4 : Nat) : Int) < ((L : Nat) : Int)) (pc' := 297) (ls' := [(3, 0), (2, 1), (2, 95), (0, ((i : Nat) : Int))]) (st' := [(0, xs (i + 4)), (0, xs (i + 3)), (0, xs (i + 2)), (0, xs (i + 1)), (2, 95)]) (w' := w2) (n' := 142) rfl (by omega) ?_
    refine qG.br (P := xs (i + 4) = 0) (pc1 := 304) (pc2 := 300) (st1 := [(0, xs (i + 3)), (0, xs (i + 2)), (0, xs (i + 1)), (2, 95)]) rfl (fun h3 => ?_) (fun h3 => ?_)
    · skip
      refine qG.blk 1 (pc' := 305) (ls' := [(3, 0), (2, 1), (2, 95), (0, ((i : Nat) : Int))]) (st' := [(0, 0), (0, xs (i + 3)), (0, xs (i + 2)), (0, xs (i + 1)), (2, 95)]) (w' := w2) (n' := 142) rfl ?_
      refine qG.call (t := 215) (na := 5) (sk := 1) (md := 1) (ls1 := [(2, 95), (0, xs (i + 1)), (0, xs (i + 2)), (0, xs (i + 3)), (0, 0), (9, 0), (9, 0)]) (r1 := []) rfl rfl rfl rfl rfl (SP.useA (c := C_R_wall.2) (as := [(2, 95), (0, xs (i + 1)), (0, xs (i + 2)), (0, xs (i + 3)), (0, 0)]) T_R_wall hP2 (show 2 ≤ d by omega) ⟨⟨rfl, by decide, by decide⟩, ⟨rfl, (hx (i + 1)).1, (hx (i + 1)).2⟩, ⟨rfl, (hx (i + 2)).1, (hx (i + 2)).2⟩, ⟨rfl, (hx (i + 3)).1, (hx (i + 3)).2⟩, ⟨rfl, by decide, by decide⟩, trivial⟩ rfl rfl (by decide +kernel)) ?_
      rintro _ w4 _ ⟨x4, rfl, -, -, hP4, rfl, hB4, -⟩
      have hJ4 := hJ2.aw hB4 (by decide +kernel)
      show qG (some (L, xs)) (d + 1) 305 308 [(3, 0), (2, 1), (2, 95), (0, ((i : Nat) : Int))] [(0, x4)] w4 142 Q9
      refine qG.blk 2 (pc' := 1610) (ls' := [(3, 0), (2, 1), (2, 95), (0, ((i : Nat) : Int))]) (st' := []) (w' := w4) (n' := 142) rfl ?_
      exact H _ hP4 hJ4
    · exfalso; exact h3 h1
  · skip
    refine qG.blk 2 (pc' := 272) (ls' := [(3, 0), (2, 1), (2, 95), (0, ((i : Nat) : Int))]) (st' := [(0, 1), (0, xs (i + 3)), (0, xs (i + 2)), (0, xs (i + 1)), (2, 1)]) (w' := w) (n' := 142) rfl ?_
    refine qG.call (t := 165) (na := 5) (sk := 1) (md := 1) (ls1 := [(2, 1), (0, xs (i + 1)), (0, xs (i + 2)), (0, xs (i + 3)), (0, 1)]) (r1 := []) rfl rfl rfl rfl rfl (SP.useA (c := C_X_wall.2) (as := [(2, 1), (0, xs (i + 1)), (0, xs (i + 2)), (0, xs (i + 3)), (0, 1)]) T_X_wall hP (show 3 ≤ d by omega) ⟨⟨rfl, by decide, by decide⟩, ⟨rfl, (hx (i + 1)).1, (hx (i + 1)).2⟩, ⟨rfl, (hx (i + 2)).1, (hx (i + 2)).2⟩, ⟨rfl, (hx (i + 3)).1, (hx (i + 3)).2⟩, ⟨rfl, by decide, by decide⟩, trivial⟩ rfl rfl (by decide +kernel)) ?_
    rintro _ w5 _ ⟨x5, rfl, -, -, hP5, rfl, hB5, -⟩
    have hJ5 := hJ.aw hB5 (by decide +kernel)
    show qG (some (L, xs)) (d + 1) 305 275 [(3, 0), (2, 1), (2, 95), (0, ((i : Nat) : Int))] [(0, x5)] w5 142 Q9
    refine qG.blk 6 (pc' := 281) (ls' := [(3, 0), (2, 1), (2, 95), (0, ((i : Nat) : Int))]) (st' := [(0, wrp (((i : Nat) : Int) + 1)), (3, 0), (2, 95)]) (w' := w5) (n' := 142) rfl ?_
    rw [show wrp (((i : Nat) : Int) + 1) = ((i + 1 : Nat) : Int) from by rw [wrp_id (by omega) (by omega)]; omega]
    refine qG.gd (P := 0 ≤ ((i + 1 : Nat) : Int) ∧ ((i + 1 : Nat) : Int) < ((L : Nat) : Int)) (pc' := 282) (ls' := [(3, 0), (2, 1), (2, 95), (0, ((i : Nat) : Int))]) (st' := [(0, xs (i + 1)), (2, 95)]) (w' := w5) (n' := 142) rfl (by omega) ?_
    refine qG.blk 4 (pc' := 286) (ls' := [(3, 0), (2, 1), (2, 95), (0, ((i : Nat) : Int))]) (st' := [(0, wrp (((i : Nat) : Int) + 2)), (3, 0), (0, xs (i + 1)), (2, 95)]) (w' := w5) (n' := 142) rfl ?_
    rw [show wrp (((i : Nat) : Int) + 2) = ((i + 2 : Nat) : Int) from by rw [wrp_id (by omega) (by omega)]; omega]
    refine qG.gd (P := 0 ≤ ((i + 2 : Nat) : Int) ∧ ((i + 2 : Nat) : Int) < ((L : Nat) : Int)) (pc' := 287) (ls' := [(3, 0), (2, 1), (2, 95), (0, ((i : Nat) : Int))]) (st' := [(0, xs (i + 2)), (0, xs (i + 1)), (2, 95)]) (w' := w5) (n' := 142) rfl (by omega) ?_
    refine qG.blk 4 (pc' := 291) (ls' := [(3, 0), (2, 1), (2, 95), (0, ((i : Nat) : Int))]) (st' := [(0, wrp (((i : Nat) : Int) + 3)), (3, 0), (0, xs (i + 2)), (0, xs (i + 1)), (2, 95)]) (w' := w5) (n' := 142) rfl ?_
    rw [show wrp (((i : Nat) : Int) + 3) = ((i + 3 : Nat) : Int) from by rw [wrp_id (by omega) (by omega)]; omega]
    refine qG.gd (P := 0 ≤ ((i + 3 : Nat) : Int) ∧ ((i + 3 : Nat) : Int) < ((L : Nat) : Int)) (pc' := 292) (ls' := [(3, 0), (2, 1), (2, 95), (0, ((i : Nat) : Int))]) (st' := [(0, xs (i + 3)), (0, xs (i + 2)), (0, xs (i + 1)), (2, 95)]) (w' := w5) (n' := 142) rfl (by omega) ?_
    refine qG.blk 4 (pc' := 296) (ls' := [(3, 0), (2, 1), (2, 95), (0, ((i : Nat) : Int))]) (st' := [(0, wrp (((i : Nat) : Int) + 4)), (3, 0), (0, xs (i + 3)), (0, xs (i + 2)), (0, xs (i + 1)), (2, 95)]) (w' := w5) (n' := 142) rfl ?_
    rw [show wrp (((i : Nat) : Int) + 4) = ((i + 4 : Nat) : Int) from by rw [wrp_id (by omega) (by omega)]; omega]
    refine qG.gd (P := 0 ≤ ((i + 4 : Nat) : Int) ∧ ((i + 4 : Nat) : Int) < ((L : Nat) : Int)) (pc' := 297) (ls' := [(3, 0), (2, 1), (2, 95), (0, ((i : Nat) : Int))]) (st' := [(0, xs (i + 4)), (0, xs (i + 3)), (0, xs (i + 2)), (0, xs (i + 1)), (2, 95)]) (w' := w5) (n' := 142) rfl (by omega) ?_
    refine qG.br (P := xs (i + 4) = 0) (pc1 := 304) (pc2 := 300) (st1 := [(0, xs (i + 3)), (0, xs (i + 2)), (0, xs (i + 1)), (2, 95)]) rfl (fun h6 => ?_) (fun h6 => ?_)
    · exfalso; exact h1 h6
    · skip
      refine qG.blk 2 (pc' := 305) (ls' := [(3, 0), (2, 1), (2, 95), (0, ((i : Nat) : Int))]) (st' := [(0, 1), (0, xs (i + 3)), (0, xs (i + 2)), (0, xs (i + 1)), (2, 95)]) (w' := w5) (n' := 142) rfl ?_
      refine qG.call (t := 215) (na := 5) (sk := 1) (md := 1) (ls1 := [(2, 95), (0, xs (i + 1)), (0, xs (i + 2)), (0, xs (i + 3)), (0, 1), (9, 0), (9, 0)]) (r1 := []) rfl rfl rfl rfl rfl (SP.useA (c := C_R_wall.2) (as := [(2, 95), (0, xs (i + 1)), (0, xs (i + 2)), (0, xs (i + 3)), (0, 1)]) T_R_wall hP5 (show 2 ≤ d by omega) ⟨⟨rfl, by decide, by decide⟩, ⟨rfl, (hx (i + 1)).1, (hx (i + 1)).2⟩, ⟨rfl, (hx (i + 2)).1, (hx (i + 2)).2⟩, ⟨rfl, (hx (i + 3)).1, (hx (i + 3)).2⟩, ⟨rfl, by decide, by decide⟩, trivial⟩ rfl rfl (by decide +kernel)) ?_
      rintro _ w7 _ ⟨x7, rfl, -, -, hP7, rfl, hB7, -⟩
      have hJ7 := hJ5.aw hB7 (by decide +kernel)
      show qG (some (L, xs)) (d + 1) 305 308 [(3, 0), (2, 1), (2, 95), (0, ((i : Nat) : Int))] [(0, x7)] w7 142 Q9
      refine qG.blk 2 (pc' := 1610) (ls' := [(3, 0), (2, 1), (2, 95), (0, ((i : Nat) : Int))]) (st' := []) (w' := w7) (n' := 142) rfl ?_
      exact H _ hP7 hJ7
theorem O_2 {L : Nat} {xs : Nat → Int} (hx : ∀ j, -2147483648 ≤ xs j ∧ xs j ≤ 2147483647) (i : Nat) (hi : i + 6 ≤ L) (hL : L ≤ 3072) {d : Nat} (hd : 70 ≤ d) (w : qW) (hP : SP w) (hJ : JW w) {Q9 : qV → qW → Nat → Prop} (H : ∀ w1, SP w1 → JW w1 → qG (some (L, xs)) d 305 1610 [(3, 0), (2, 1), (2, 95), (0, ((i : Nat) : Int))] [] w1 142 Q9) : qG (some (L, xs)) d 305 33 [(3, 0), (2, 1), (2, 95), (0, ((i : Nat) : Int))] [(0, 2)] w 142 Q9 := by
  obtain ⟨d, rfl⟩ : ∃ d9, d = d9 + 1 := ⟨d - 1, by omega⟩
  refine qG.blk 6 (pc' := 317) (ls' := [(3, 0), (2, 1), (2, 95), (0, ((i : Nat) : Int))]) (st' := [(0, wrp (((i : Nat) : Int) + 1)), (3, 0), (2, 1)]) (w' := w) (n' := 142) rfl ?_
  rw [show wrp (((i : Nat) : Int) + 1) = ((i + 1 : Nat) : Int) from by rw [wrp_id (by omega) (by omega)]; omega]
  refine qG.gd (P := 0 ≤ ((i + 1 : Nat) : Int) ∧ ((i + 1 : Nat) : Int) < ((L : Nat) : Int)) (pc' := 318) (ls' := [(3, 0), (2, 1), (2, 95), (0, ((i : Nat) : Int))]) (st' := [(0, xs (i + 1)), (2, 1)]) (w' := w) (n' := 142) rfl (by omega) ?_
  refine qG.blk 4 (pc' := 322) (ls' := [(3, 0), (2, 1), (2, 95), (0, ((i : Nat) : Int))]) (st' := [(0, wrp (((i : Nat) : Int) + 2)), (3, 0), (0, xs (i + 1)), (2, 1)]) (w' := w) (n' := 142) rfl ?_
  rw [show wrp (((i : Nat) : Int) + 2) = ((i + 2 : Nat) : Int) from by rw [wrp_id (by omega) (by omega)]; omega]
  refine qG.gd (P := 0 ≤ ((i + 2 : Nat) : Int) ∧ ((i + 2 : Nat) : Int) < ((L : Nat) : Int)) (pc' := 323) (ls' := [(3, 0), (2, 1), (2, 95), (0, ((i : Nat) : Int))]) (st' := [(0, xs (i + 2)), (0, xs (i + 1)), (2, 1)]) (w' := w) (n' := 142) rfl (by omega) ?_
  refine qG.blk 4 (pc' := 327) (ls' := [(3, 0), (2, 1), (2, 95), (0, ((i : Nat) : Int))]) (st' := [(0, wrp (((i : Nat) : Int) + 3)), (3, 0), (0, xs (i + 2)), (0, xs (i + 1)), (2, 1)]) (w' := w) (n' := 142) rfl ?_
  rw [show wrp (((i : Nat) : Int) + 3) = ((i + 3 : Nat) : Int) from by rw [wrp_id (by omega) (by omega)]; omega]
  refine qG.gd (P := 0 ≤ ((i + 3 : Nat) : Int) ∧ ((i + 3 : Nat) : Int) < ((L : Nat) : Int)) (pc' := 328) (ls' := [(3, 0), (2, 1), (2, 95), (0, ((i : Nat) : Int))]) (st' := [(0, xs (i + 3)), (0, xs (i + 2)), (0, xs (i + 1)), (2, 1)]) (w' := w) (n' := 142) rfl (by omega) ?_
  refine qG.blk 4 (pc' := 332) (ls' := [(3, 0), (2, 1), (2, 95), (0, ((i : Nat) : Int))]) (st' := [(0, wrp (((i : Nat) : Int) + 4)), (3, 0), (0, xs (i + 3)), (0, xs (i + 2)), (0, xs (i + 1)), (2, 1)]) (w' := w) (n' := 142) rfl ?_
  rw [show wrp (((i : Nat) : Int) + 4) = ((i + 4 : Nat) : Int) from by rw [wrp_id (by omega) (by omega)]; omega]
  refine qG.gd (P := 0 ≤ ((i + 4 : Nat) : Int) ∧ ((i + 4 : Nat) : Int) < ((L : Nat) : Int)) (pc' := 333) (ls' := [(3, 0), (2, 1), (2, 95), (0, ((i : Nat) : Int))]) (st' := [(0, xs (i + 4)), (0, xs (i + 3)), (0, xs (i + 2)), (0, xs (i + 1)), (2, 1)]) (w' := w) (n' := 142) rfl (by omega) ?_
  refine qG.blk 4 (pc' := 337) (ls' := [(3, 0), (2, 1), (2, 95), (0, ((i : Nat) : Int))]) (st' := [(0, wrp (((i : Nat) : Int) + 5)), (3, 0), (0, xs (i + 4)), (0, xs (i + 3)), (0, xs (i + 2)), (0, xs (i + 1)), (2, 1)]) (w' := w) (n' := 142) rfl ?_
  rw [show wrp (((i : Nat) : Int) + 5) = ((i + 5 : Nat) : Int) from by rw [wrp_id (by omega) (by omega)]; omega]
  refine qG.gd (P := 0 ≤ ((i + 5 : Nat) : Int) ∧ ((i + 5 : Nat) : Int) < ((L : Nat) : Int)) (pc' := 338) (ls' := [(3, 0), (2, 1), (2, 95), (0, ((i : Nat) : Int))]) (st' := [(0, xs (i + 5)), (0, xs (i + 4)), (0, xs (i + 3)), (0, xs (i + 2)), (0, xs (i + 1)), (2, 1)]) (w' := w) (n' := 142) rfl (by omega) ?_
  refine qG.br (P := xs (i + 5) = 0) (pc1 := 345) (pc2 := 341) (st1 := [(0, xs (i + 4)), (0, xs (i + 3)), (0, xs (i + 2)), (0, xs (i + 1)), (2, 1)]) rfl (fun h1 => ?_) (fun h1 => ?_)
  · skip
    refine qG.blk 1 (pc' := 346) (ls' := [(3, 0), (2, 1), (2, 95), (0, ((i : Nat) : Int))]) (st' := [(0, 0), (0, xs (i + 4)), (0, xs (i + 3)), (0, xs (i + 2)), (0, xs (i + 1)), (2, 1)]) (w' := w) (n' := 142) rfl ?_
    refine qG.call (t := 166) (na := 6) (sk := 1) (md := 1) (ls1 := [(2, 1), (0, xs (i + 1)), (0, xs (i + 2)), (0, xs (i + 3)), (0, xs (i + 4)), (0, 0)]) (r1 := []) rfl rfl rfl rfl rfl (SP.useA (c := C_X_door.2) (as := [(2, 1), (0, xs (i + 1)), (0, xs (i + 2)), (0, xs (i + 3)), (0, xs (i + 4)), (0, 0)]) T_X_door hP (show 1 ≤ d by omega) ⟨⟨rfl, by decide, by decide⟩, ⟨rfl, (hx (i + 1)).1, (hx (i + 1)).2⟩, ⟨rfl, (hx (i + 2)).1, (hx (i + 2)).2⟩, ⟨rfl, (hx (i + 3)).1, (hx (i + 3)).2⟩, ⟨rfl, (hx (i + 4)).1, (hx (i + 4)).2⟩, ⟨rfl, by decide, by decide⟩, trivial⟩ rfl rfl (by decide +kernel)) ?_
    rintro _ w2 _ ⟨x2, rfl, -, -, hP2, rfl, hB2, -⟩
    have hJ2 := hJ.aw hB2 (by decide +kernel)
    show qG (some (L, xs)) (d + 1) 305 349 [(3, 0), (2, 1), (2, 95), (0, ((i : Nat) : Int))] [(0, x2)] w2 142 Q9
    refine qG.blk 6 (pc' := 355) (ls' := [(3, 0), (2, 1), (2, 95), (0, ((i : Nat) : Int))]) (st' := [(0, wrp (((i : Nat) : Int) + 1)), (3, 0), (2, 95)]) (w' := w2) (n' := 142) rfl ?_
    rw [show wrp (((i : Nat) : Int) + 1) = ((i + 1 : Nat) : Int) from by rw [wrp_id (by omega) (by omega)]; omega]
    refine qG.gd (P := 0 ≤ ((i + 1 : Nat) : Int) ∧ ((i + 1 : Nat) : Int) < ((L : Nat) : Int)) (pc' := 356) (ls' := [(3, 0), (2, 1), (2, 95), (0, ((i : Nat) : Int))]) (st' := [(0, xs (i + 1)), (2, 95)]) (w' := w2) (n' := 142) rfl (by omega) ?_
    refine qG.blk 4 (pc' := 360) (ls' := [(3, 0), (2, 1), (2, 95), (0, ((i : Nat) : Int))]) (st' := [(0, wrp (((i : Nat) : Int) + 2)), (3, 0), (0, xs (i + 1)), (2, 95)]) (w' := w2) (n' := 142) rfl ?_
    rw [show wrp (((i : Nat) : Int) + 2) = ((i + 2 : Nat) : Int) from by rw [wrp_id (by omega) (by omega)]; omega]
    refine qG.gd (P := 0 ≤ ((i + 2 : Nat) : Int) ∧ ((i + 2 : Nat) : Int) < ((L : Nat) : Int)) (pc' := 361) (ls' := [(3, 0), (2, 1), (2, 95), (0, ((i : Nat) : Int))]) (st' := [(0, xs (i + 2)), (0, xs (i + 1)), (2, 95)]) (w' := w2) (n' := 142) rfl (by omega) ?_
    refine qG.blk 4 (pc' := 365) (ls' := [(3, 0), (2, 1), (2, 95), (0, ((i : Nat) : Int))]) (st' := [(0, wrp (((i : Nat) : Int) + 3)), (3, 0), (0, xs (i + 2)), (0, xs (i + 1)), (2, 95)]) (w' := w2) (n' := 142) rfl ?_
    rw [show wrp (((i : Nat) : Int) + 3) = ((i + 3 : Nat) : Int) from by rw [wrp_id (by omega) (by omega)]; omega]
    refine qG.gd (P := 0 ≤ ((i + 3 : Nat) : Int) ∧ ((i + 3 : Nat) : Int) < ((L : Nat) : Int)) (pc' := 366) (ls' := [(3, 0), (2, 1), (2, 95), (0, ((i : Nat) : Int))]) (st' := [(0, xs (i + 3)), (0, xs (i + 2)), (0, xs (i + 1)), (2, 95)]) (w' := w2) (n' := 142) rfl (by omega) ?_
    refine qG.blk 4 (pc' := 370) (ls' := [(3, 0), (2, 1), (2, 95), (0, ((i : Nat) : Int))]) (st' := [(0, wrp (((i : Nat) : Int) + 4)), (3, 0), (0, xs (i + 3)), (0, xs (i + 2)), (0, xs (i + 1)), (2, 95)]) (w' := w2) (n' := 142) rfl ?_
    rw [show wrp (((i : Nat) : Int) + 4) = ((i + 4 : Nat) : Int) from by rw [wrp_id (by omega) (by omega)]; omega]
    refine qG.gd (P := 0 ≤ ((i + 4 : Nat) : Int) ∧ ((i + 4 : Nat) : Int) < ((L : Nat) : Int)) (pc' := 371) (ls' := [(3, 0), (2, 1), (2, 95), (0, ((i : Nat) : Int))]) (st' := [(0, xs (i + 4)), (0, xs (i + 3)), (0, xs (i + 2)), (0, xs (i + 1)), (2, 95)]) (w' := w2) (n' := 142) rfl (by omega) ?_
    refine qG.blk 4 (pc' := 375) (ls' := [(3, 0), (2, 1), (2, 95), (0, ((i : Nat) : Int))]) (st' := [(0, wrp (((i : Nat) : Int) + 5)), (3, 0), (0, xs (i + 4)), (0, xs (i + 3)), (0, xs (i + 2)), (0, xs (i + 1)), (2, 95)]) (w' := w2) (n' := 142) rfl ?_
    rw [show wrp (((i : Nat) : Int) + 5) = ((i + 5 : Nat) : Int) from by rw [wrp_id (by omega) (by omega)]; omega]
    refine qG.gd (P := 0 ≤ ((i + 5 : Nat) : Int) ∧ ((i + 5 : Nat) : Int) < ((L : Nat) : Int)) (pc' := 376) (ls' := [(3, 0), (2, 1), (2, 95), (0, ((i : Nat) : Int))]) (st' := [(0, xs (i + 5)), (0, xs (i + 4)), (0, xs (i + 3)), (0, xs (i + 2)), (0, xs (i + 1)), (2, 95)]) (w' := w2) (n' := 142) rfl (by omega) ?_
    refine qG.br (P := xs (i + 5) = 0) (pc1 := 383) (pc2 := 379) (st1 := [(0, xs (i + 4)), (0, xs (i + 3)), (0, xs (i + 2)), (0, xs (i + 1)), (2, 95)]) rfl (fun h3 => ?_) (fun h3 => ?_)
    · skip
      refine qG.blk 1 (pc' := 384) (ls' := [(3, 0), (2, 1), (2, 95), (0, ((i : Nat) : Int))]) (st' := [(0, 0), (0, xs (i + 4)), (0, xs (i + 3)), (0, xs (i + 2)), (0, xs (i + 1)), (2, 95)]) (w' := w2) (n' := 142) rfl ?_
      refine qG.call (t := 217) (na := 6) (sk := 1) (md := 1) (ls1 := [(2, 95), (0, xs (i + 1)), (0, xs (i + 2)), (0, xs (i + 3)), (0, xs (i + 4)), (0, 0)]) (r1 := []) rfl rfl rfl rfl rfl (SP.useA (c := C_R_door.2) (as := [(2, 95), (0, xs (i + 1)), (0, xs (i + 2)), (0, xs (i + 3)), (0, xs (i + 4)), (0, 0)]) T_R_door hP2 (show 2 ≤ d by omega) ⟨⟨rfl, by decide, by decide⟩, ⟨rfl, (hx (i + 1)).1, (hx (i + 1)).2⟩, ⟨rfl, (hx (i + 2)).1, (hx (i + 2)).2⟩, ⟨rfl, (hx (i + 3)).1, (hx (i + 3)).2⟩, ⟨rfl, (hx (i + 4)).1, (hx (i + 4)).2⟩, ⟨rfl, by decide, by decide⟩, trivial⟩ rfl rfl (by decide +kernel)) ?_
      rintro _ w4 _ ⟨x4, rfl, -, -, hP4, rfl, hB4, -⟩
      have hJ4 := hJ2.aw hB4 (by decide +kernel)
      show qG (some (L, xs)) (d + 1) 305 387 [(3, 0), (2, 1), (2, 95), (0, ((i : Nat) : Int))] [(0, x4)] w4 142 Q9
      refine qG.blk 2 (pc' := 1610) (ls' := [(3, 0), (2, 1), (2, 95), (0, ((i : Nat) : Int))]) (st' := []) (w' := w4) (n' := 142) rfl ?_
      exact H _ hP4 hJ4
    · exfalso; exact h3 h1
  · skip
    refine qG.blk 2 (pc' := 346) (ls' := [(3, 0), (2, 1), (2, 95), (0, ((i : Nat) : Int))]) (st' := [(0, 1), (0, xs (i + 4)), (0, xs (i + 3)), (0, xs (i + 2)), (0, xs (i + 1)), (2, 1)]) (w' := w) (n' := 142) rfl ?_
    refine qG.call (t := 166) (na := 6) (sk := 1) (md := 1) (ls1 := [(2, 1), (0, xs (i + 1)), (0, xs (i + 2)), (0, xs (i + 3)), (0, xs (i + 4)), (0, 1)]) (r1 := []) rfl rfl rfl rfl rfl (SP.useA (c := C_X_door.2) (as := [(2, 1), (0, xs (i + 1)), (0, xs (i + 2)), (0, xs (i + 3)), (0, xs (i + 4)), (0, 1)]) T_X_door hP (show 1 ≤ d by omega) ⟨⟨rfl, by decide, by decide⟩, ⟨rfl, (hx (i + 1)).1, (hx (i + 1)).2⟩, ⟨rfl, (hx (i + 2)).1, (hx (i + 2)).2⟩, ⟨rfl, (hx (i + 3)).1, (hx (i + 3)).2⟩, ⟨rfl, (hx (i + 4)).1, (hx (i + 4)).2⟩, ⟨rfl, by decide, by decide⟩, trivial⟩ rfl rfl (by decide +kernel)) ?_
    rintro _ w5 _ ⟨x5, rfl, -, -, hP5, rfl, hB5, -⟩
    have hJ5 := hJ.aw hB5 (by decide +kernel)
    show qG (some (L, xs)) (d + 1) 305 349 [(3, 0), (2, 1), (2, 95), (0, ((i : Nat) : Int))] [(0, x5)] w5 142 Q9
    refine qG.blk 6 (pc' := 355) (ls' := [(3, 0), (2, 1), (2, 95), (0, ((i : Nat) : Int))]) (st' := [(0, wrp (((i : Nat) : Int) + 1)), (3, 0), (2, 95)]) (w' := w5) (n' := 142) rfl ?_
    rw [show wrp (((i : Nat) : Int) + 1) = ((i + 1 : Nat) : Int) from by rw [wrp_id (by omega) (by omega)]; omega]
    refine qG.gd (P := 0 ≤ ((i + 1 : Nat) : Int) ∧ ((i + 1 : Nat) : Int) < ((L : Nat) : Int)) (pc' := 356) (ls' := [(3, 0), (2, 1), (2, 95), (0, ((i : Nat) : Int))]) (st' := [(0, xs (i + 1)), (2, 95)]) (w' := w5) (n' := 142) rfl (by omega) ?_
    refine qG.blk 4 (pc' := 360) (ls' := [(3, 0), (2, 1), (2, 95), (0, ((i : Nat) : Int))]) (st' := [(0, wrp (((i : Nat) : Int) + 2)), (3, 0), (0, xs (i + 1)), (2, 95)]) (w' := w5) (n' := 142) rfl ?_
    rw [show wrp (((i : Nat) : Int) + 2) = ((i + 2 : Nat) : Int) from by rw [wrp_id (by omega) (by omega)]; omega]
    refine qG.gd (P := 0 ≤ ((i + 2 : Nat) : Int) ∧ ((i + 2 : Nat) : Int) < ((L : Nat) : Int)) (pc' := 361) (ls' := [(3, 0), (2, 1), (2, 95), (0, ((i : Nat) : Int))]) (st' := [(0, xs (i + 2)), (0, xs (i + 1)), (2, 95)]) (w' := w5) (n' := 142) rfl (by omega) ?_
    refine qG.blk 4 (pc' := 365) (ls' := [(3, 0), (2, 1), (2, 95), (0, ((i : Nat) : Int))]) (st' := [(0, wrp (((i : Nat) : Int) + 3)), (3, 0), (0, xs (i + 2)), (0, xs (i + 1)), (2, 95)]) (w' := w5) (n' := 142) rfl ?_
    rw [show wrp (((i : Nat) : Int) + 3) = ((i + 3 : Nat) : Int) from by rw [wrp_id (by omega) (by omega)]; omega]
    refine qG.gd (P := 0 ≤ ((i + 3 : Nat) : Int) ∧ ((i + 3 : Nat) : Int) < ((L : Nat) : Int)) (pc' := 366) (ls' := [(3, 0), (2, 1), (2, 95), (0, ((i : Nat) : Int))]) (st' := [(0, xs (i + 3)), (0, xs (i + 2)), (0, xs (i + 1)), (2, 95)]) (w' := w5) (n' := 142) rfl (by omega) ?_
    refine qG.blk 4 (pc' := 370) (ls' := [(3, 0), (2, 1), (2, 95), (0, ((i : Nat) : Int))]) (st' := [(0, wrp (((i : Nat) : Int) + 4)), (3, 0), (0, xs (i + 3)), (0, xs (i + 2)), (0, xs (i + 1)), (2, 95)]) (w' := w5) (n' := 142) rfl ?_
    rw [show wrp (((i : Nat) : Int) + 4) = ((i + 4 : Nat) : Int) from by rw [wrp_id (by omega) (by omega)]; omega]
    refine qG.gd (P := 0 ≤ ((i + 4 : Nat) : Int) ∧ ((i + 4 : Nat) : Int) < ((L : Nat) : Int)) (pc' := 371) (ls' := [(3, 0), (2, 1), (2, 95), (0, ((i : Nat) : Int))]) (st' := [(0, xs (i + 4)), (0, xs (i + 3)), (0, xs (i + 2)), (0, xs (i + 1)), (2, 95)]) (w' := w5) (n' := 142) rfl (by omega) ?_
    refine qG.blk 4 (pc' := 375) (ls' := [(3, 0), (2, 1), (2, 95), (0, ((i : Nat) : Int))]) (st' := [(0, wrp (((i : Nat) : Int) + 5)), (3, 0), (0, xs (i + 4)), (0, xs (i + 3)), (0, xs (i + 2)), (0, xs (i + 1)), (2, 95)]) (w' := w5) (n' := 142) rfl ?_
    rw [show wrp (((i : Nat) : Int) + 5) = ((i + 5 : Nat) : Int) from by rw [wrp_id (by omega) (by omega)]; omega]
    refine qG.gd (P := 0 ≤ ((i + 5 : Nat) : Int) ∧ ((i + 5 : Nat) : Int) < ((L : Nat) : Int)) (pc' := 376) (ls' := [(3, 0), (2, 1), (2, 95), (0, ((i : Nat) : Int))]) (st' := [(0, xs (i + 5)), (0, xs (i + 4)), (0, xs (i + 3)), (0, xs (i + 2)), (0, xs (i + 1)), (2, 95)]) (w' := w5) (n' := 142) rfl (by omega) ?_
    refine qG.br (P := xs (i + 5) = 0) (pc1 := 383) (pc2 := 379) (st1 := [(0, xs (i + 4)), (0, xs (i + 3)), (0, xs (i + 2)), (0, xs (i + 1)), (2, 95)]) rfl (fun h6 => ?_) (fun h6 => ?_)
    · exfalso; exact h1 h6
    · skip
      refine qG.blk 2 (pc' := 384) (ls' := [(3, 0), (2, 1), (2, 95), (0, ((i : Nat) : Int))]) (st' := [(0, 1), (0, xs (i + 4)), (0, xs (i + 3)), (0, xs (i + 2)), (0, xs (i + 1)), (2, 95)]) (w' := w5) (n' := 142) rfl ?_
      refine qG.call (t := 217) (na := 6) (sk := 1) (md := 1) (ls1 := [(2, 95), (0, xs (i + 1)), (0, xs (i + 2)), (0, xs (i + 3)), (0, xs (i + 4)), (0, 1)]) (r1 := []) rfl rfl rfl rfl rfl (SP.useA (c := C_R_door.2) (as := [(2, 95), (0, xs (i + 1)), (0, xs (i + 2)), (0, xs (i + 3)), (0, xs (i + 4)), (0, 1)]) T_R_door hP5 (show 2 ≤ d by omega) ⟨⟨rfl, by decide, by decide⟩, ⟨rfl, (hx (i + 1)).1, (hx (i + 1)).2⟩, ⟨rfl, (hx (i + 2)).1, (hx (i + 2)).2⟩, ⟨rfl, (hx (i + 3)).1, (hx (i + 3)).2⟩, ⟨rfl, (hx (i + 4)).1, (hx (i + 4)).2⟩, ⟨rfl, by decide, by decide⟩, trivial⟩ rfl rfl (by decide +kernel)) ?_
      rintro _ w7 _ ⟨x7, rfl, -, -, hP7, rfl, hB7, -⟩
      have hJ7 := hJ5.aw hB7 (by decide +kernel)
      show qG (some (L, xs)) (d + 1) 305 387 [(3, 0), (2, 1), (2, 95), (0, ((i : Nat) : Int))] [(0, x7)] w7 142 Q9
      refine qG.blk 2 (pc' := 1610) (ls' := [(3, 0), (2, 1), (2, 95), (0, ((i : Nat) : Int))]) (st' := []) (w' := w7) (n' := 142) rfl ?_
      exact H _ hP7 hJ7
theorem O_3 {L : Nat} {xs : Nat → Int} (hx : ∀ j, -2147483648 ≤ xs j ∧ xs j ≤ 2147483647) (i : Nat) (hi : i + 6 ≤ L) (hL : L ≤ 3072) {d : Nat} (hd : 70 ≤ d) (w : qW) (hP : SP w) (hJ : JW w) {Q9 : qV → qW → Nat → Prop} (H : ∀ w1, SP w1 → JW w1 → qG (some (L, xs)) d 305 1610 [(3, 0), (2, 1), (2, 95), (0, ((i : Nat) : Int))] [] w1 142 Q9) : qG (some (L, xs)) d 305 33 [(3, 0), (2, 1), (2, 95), (0, ((i : Nat) : Int))] [(0, 3)] w 142 Q9 := by
  obtain ⟨d, rfl⟩ : ∃ d9, d = d9 + 1 := ⟨d - 1, by omega⟩
  refine qG.blk 6 (pc' := 396) (ls' := [(3, 0), (2, 1), (2, 95), (0, ((i : Nat) : Int))]) (st' := [(0, wrp (((i : Nat) : Int) + 1)), (3, 0), (2, 1)]) (w' := w) (n' := 142) rfl ?_
  rw [show wrp (((i : Nat) : Int) + 1) = ((i + 1 : Nat) : Int) from by rw [wrp_id (by omega) (by omega)]; omega]
  refine qG.gd (P := 0 ≤ ((i + 1 : Nat) : Int) ∧ ((i + 1 : Nat) : Int) < ((L : Nat) : Int)) (pc' := 397) (ls' := [(3, 0), (2, 1), (2, 95), (0, ((i : Nat) : Int))]) (st' := [(0, xs (i + 1)), (2, 1)]) (w' := w) (n' := 142) rfl (by omega) ?_
  refine qG.blk 4 (pc' := 401) (ls' := [(3, 0), (2, 1), (2, 95), (0, ((i : Nat) : Int))]) (st' := [(0, wrp (((i : Nat) : Int) + 2)), (3, 0), (0, xs (i + 1)), (2, 1)]) (w' := w) (n' := 142) rfl ?_
  rw [show wrp (((i : Nat) : Int) + 2) = ((i + 2 : Nat) : Int) from by rw [wrp_id (by omega) (by omega)]; omega]
  refine qG.gd (P := 0 ≤ ((i + 2 : Nat) : Int) ∧ ((i + 2 : Nat) : Int) < ((L : Nat) : Int)) (pc' := 402) (ls' := [(3, 0), (2, 1), (2, 95), (0, ((i : Nat) : Int))]) (st' := [(0, xs (i + 2)), (0, xs (i + 1)), (2, 1)]) (w' := w) (n' := 142) rfl (by omega) ?_
  refine qG.blk 4 (pc' := 406) (ls' := [(3, 0), (2, 1), (2, 95), (0, ((i : Nat) : Int))]) (st' := [(0, wrp (((i : Nat) : Int) + 3)), (3, 0), (0, xs (i + 2)), (0, xs (i + 1)), (2, 1)]) (w' := w) (n' := 142) rfl ?_
  rw [show wrp (((i : Nat) : Int) + 3) = ((i + 3 : Nat) : Int) from by rw [wrp_id (by omega) (by omega)]; omega]
  refine qG.gd (P := 0 ≤ ((i + 3 : Nat) : Int) ∧ ((i + 3 : Nat) : Int) < ((L : Nat) : Int)) (pc' := 407) (ls' := [(3, 0), (2, 1), (2, 95), (0, ((i : Nat) : Int))]) (st' := [(0, xs (i + 3)), (0, xs (i + 2)), (0, xs (i + 1)), (2, 1)]) (w' := w) (n' := 142) rfl (by omega) ?_
  refine qG.blk 4 (pc' := 411) (ls' := [(3, 0), (2, 1), (2, 95), (0, ((i : Nat) : Int))]) (st' := [(0, wrp (((i : Nat) : Int) + 4)), (3, 0), (0, xs (i + 3)), (0, xs (i + 2)), (0, xs (i + 1)), (2, 1)]) (w' := w) (n' := 142) rfl ?_
  rw [show wrp (((i : Nat) : Int) + 4) = ((i + 4 : Nat) : Int) from by rw [wrp_id (by omega) (by omega)]; omega]
  refine qG.gd (P := 0 ≤ ((i + 4 : Nat) : Int) ∧ ((i + 4 : Nat) : Int) < ((L : Nat) : Int)) (pc' := 412) (ls' := [(3, 0), (2, 1), (2, 95), (0, ((i : Nat) : Int))]) (st' := [(0, xs (i + 4)), (0, xs (i + 3)), (0, xs (i + 2)), (0, xs (i + 1)), (2, 1)]) (w' := w) (n' := 142) rfl (by omega) ?_
  refine qG.blk 4 (pc' := 416) (ls' := [(3, 0), (2, 1), (2, 95), (0, ((i : Nat) : Int))]) (st' := [(0, wrp (((i : Nat) : Int) + 5)), (3, 0), (0, xs (i + 4)), (0, xs (i + 3)), (0, xs (i + 2)), (0, xs (i + 1)), (2, 1)]) (w' := w) (n' := 142) rfl ?_
  rw [show wrp (((i : Nat) : Int) + 5) = ((i + 5 : Nat) : Int) from by rw [wrp_id (by omega) (by omega)]; omega]
  refine qG.gd (P := 0 ≤ ((i + 5 : Nat) : Int) ∧ ((i + 5 : Nat) : Int) < ((L : Nat) : Int)) (pc' := 417) (ls' := [(3, 0), (2, 1), (2, 95), (0, ((i : Nat) : Int))]) (st' := [(0, xs (i + 5)), (0, xs (i + 4)), (0, xs (i + 3)), (0, xs (i + 2)), (0, xs (i + 1)), (2, 1)]) (w' := w) (n' := 142) rfl (by omega) ?_
  refine qG.call (t := 167) (na := 6) (sk := 1) (md := 1) (ls1 := [(2, 1), (0, xs (i + 1)), (0, xs (i + 2)), (0, xs (i + 3)), (0, xs (i + 4)), (0, xs (i + 5))]) (r1 := []) rfl rfl rfl rfl rfl (SP.useA (c := C_X_feed.2) (as := [(2, 1), (0, xs (i + 1)), (0, xs (i + 2)), (0, xs (i + 3)), (0, xs (i + 4)), (0, xs (i + 5))]) T_X_feed hP (show 1 ≤ d by omega) ⟨⟨rfl, by decide, by decide⟩, ⟨rfl, (hx (i + 1)).1, (hx (i + 1)).2⟩, ⟨rfl, (hx (i + 2)).1, (hx (i + 2)).2⟩, ⟨rfl, (hx (i + 3)).1, (hx (i + 3)).2⟩, ⟨rfl, (hx (i + 4)).1, (hx (i + 4)).2⟩, ⟨rfl, (hx (i + 5)).1, (hx (i + 5)).2⟩, trivial⟩ rfl rfl (by decide +kernel)) ?_
  rintro _ w1 _ ⟨x1, rfl, -, -, hP1, rfl, hB1, -⟩
  have hJ1 := hJ.aw hB1 (by decide +kernel)
  show qG (some (L, xs)) (d + 1) 305 420 [(3, 0), (2, 1), (2, 95), (0, ((i : Nat) : Int))] [(0, x1)] w1 142 Q9
  refine qG.blk 6 (pc' := 426) (ls' := [(3, 0), (2, 1), (2, 95), (0, ((i : Nat) : Int))]) (st' := [(0, wrp (((i : Nat) : Int) + 1)), (3, 0), (2, 95)]) (w' := w1) (n' := 142) rfl ?_
  rw [show wrp (((i : Nat) : Int) + 1) = ((i + 1 : Nat) : Int) from by rw [wrp_id (by omega) (by omega)]; omega]
  refine qG.gd (P := 0 ≤ ((i + 1 : Nat) : Int) ∧ ((i + 1 : Nat) : Int) < ((L : Nat) : Int)) (pc' := 427) (ls' := [(3, 0), (2, 1), (2, 95), (0, ((i : Nat) : Int))]) (st' := [(0, xs (i + 1)), (2, 95)]) (w' := w1) (n' := 142) rfl (by omega) ?_
  refine qG.blk 4 (pc' := 431) (ls' := [(3, 0), (2, 1), (2, 95), (0, ((i : Nat) : Int))]) (st' := [(0, wrp (((i : Nat) : Int) + 2)), (3, 0), (0, xs (i + 1)), (2, 95)]) (w' := w1) (n' := 142) rfl ?_
  rw [show wrp (((i : Nat) : Int) + 2) = ((i + 2 : Nat) : Int) from by rw [wrp_id (by omega) (by omega)]; omega]
  refine qG.gd (P := 0 ≤ ((i + 2 : Nat) : Int) ∧ ((i + 2 : Nat) : Int) < ((L : Nat) : Int)) (pc' := 432) (ls' := [(3, 0), (2, 1), (2, 95), (0, ((i : Nat) : Int))]) (st' := [(0, xs (i + 2)), (0, xs (i + 1)), (2, 95)]) (w' := w1) (n' := 142) rfl (by omega) ?_
  refine qG.blk 4 (pc' := 436) (ls' := [(3, 0), (2, 1), (2, 95), (0, ((i : Nat) : Int))]) (st' := [(0, wrp (((i : Nat) : Int) + 3)), (3, 0), (0, xs (i + 2)), (0, xs (i + 1)), (2, 95)]) (w' := w1) (n' := 142) rfl ?_
  rw [show wrp (((i : Nat) : Int) + 3) = ((i + 3 : Nat) : Int) from by rw [wrp_id (by omega) (by omega)]; omega]
  refine qG.gd (P := 0 ≤ ((i + 3 : Nat) : Int) ∧ ((i + 3 : Nat) : Int) < ((L : Nat) : Int)) (pc' := 437) (ls' := [(3, 0), (2, 1), (2, 95), (0, ((i : Nat) : Int))]) (st' := [(0, xs (i + 3)), (0, xs (i + 2)), (0, xs (i + 1)), (2, 95)]) (w' := w1) (n' := 142) rfl (by omega) ?_
  refine qG.blk 4 (pc' := 441) (ls' := [(3, 0), (2, 1), (2, 95), (0, ((i : Nat) : Int))]) (st' := [(0, wrp (((i : Nat) : Int) + 4)), (3, 0), (0, xs (i + 3)), (0, xs (i + 2)), (0, xs (i + 1)), (2, 95)]) (w' := w1) (n' := 142) rfl ?_
  rw [show wrp (((i : Nat) : Int) + 4) = ((i + 4 : Nat) : Int) from by rw [wrp_id (by omega) (by omega)]; omega]
  refine qG.gd (P := 0 ≤ ((i + 4 : Nat) : Int) ∧ ((i + 4 : Nat) : Int) < ((L : Nat) : Int)) (pc' := 442) (ls' := [(3, 0), (2, 1), (2, 95), (0, ((i : Nat) : Int))]) (st' := [(0, xs (i + 4)), (0, xs (i + 3)), (0, xs (i + 2)), (0, xs (i + 1)), (2, 95)]) (w' := w1) (n' := 142) rfl (by omega) ?_
  refine qG.blk 4 (pc' := 446) (ls' := [(3, 0), (2, 1), (2, 95), (0, ((i : Nat) : Int))]) (st' := [(0, wrp (((i : Nat) : Int) + 5)), (3, 0), (0, xs (i + 4)), (0, xs (i + 3)), (0, xs (i + 2)), (0, xs (i + 1)), (2, 95)]) (w' := w1) (n' := 142) rfl ?_
  rw [show wrp (((i : Nat) : Int) + 5) = ((i + 5 : Nat) : Int) from by rw [wrp_id (by omega) (by omega)]; omega]
  refine qG.gd (P := 0 ≤ ((i + 5 : Nat) : Int) ∧ ((i + 5 : Nat) : Int) < ((L : Nat) : Int)) (pc' := 447) (ls' := [(3, 0), (2, 1), (2, 95), (0, ((i : Nat) : Int))]) (st' := [(0, xs (i + 5)), (0, xs (i + 4)), (0, xs (i + 3)), (0, xs (i + 2)), (0, xs (i + 1)), (2, 95)]) (w' := w1) (n' := 142) rfl (by omega) ?_
  refine qG.call (t := 222) (na := 6) (sk := 1) (md := 1) (ls1 := [(2, 95), (0, xs (i + 1)), (0, xs (i + 2)), (0, xs (i + 3)), (0, xs (i + 4)), (0, xs (i + 5)), (9, 0), (9, 0)]) (r1 := []) rfl rfl rfl rfl rfl (SP.useA (c := C_R_feed.2) (as := [(2, 95), (0, xs (i + 1)), (0, xs (i + 2)), (0, xs (i + 3)), (0, xs (i + 4)), (0, xs (i + 5))]) T_R_feed hP1 (show 0 ≤ d by omega) ⟨⟨rfl, by decide, by decide⟩, ⟨rfl, (hx (i + 1)).1, (hx (i + 1)).2⟩, ⟨rfl, (hx (i + 2)).1, (hx (i + 2)).2⟩, ⟨rfl, (hx (i + 3)).1, (hx (i + 3)).2⟩, ⟨rfl, (hx (i + 4)).1, (hx (i + 4)).2⟩, ⟨rfl, (hx (i + 5)).1, (hx (i + 5)).2⟩, trivial⟩ rfl rfl (by decide +kernel)) ?_
  rintro _ w2 _ ⟨x2, rfl, -, -, hP2, rfl, hB2, -⟩
  have hJ2 := hJ1.aw hB2 (by decide +kernel)
  show qG (some (L, xs)) (d + 1) 305 450 [(3, 0), (2, 1), (2, 95), (0, ((i : Nat) : Int))] [(0, x2)] w2 142 Q9
  refine qG.blk 2 (pc' := 1610) (ls' := [(3, 0), (2, 1), (2, 95), (0, ((i : Nat) : Int))]) (st' := []) (w' := w2) (n' := 142) rfl ?_
  exact H _ hP2 hJ2
theorem O_4 {L : Nat} {xs : Nat → Int} (hx : ∀ j, -2147483648 ≤ xs j ∧ xs j ≤ 2147483647) (i : Nat) (hi : i + 6 ≤ L) (hL : L ≤ 3072) {d : Nat} (hd : 70 ≤ d) (w : qW) (hP : SP w) (hJ : JW w) {Q9 : qV → qW → Nat → Prop} (H : ∀ w1, SP w1 → JW w1 → qG (some (L, xs)) d 305 1610 [(3, 0), (2, 1), (2, 95), (0, ((i : Nat) : Int))] [] w1 142 Q9) : qG (some (L, xs)) d 305 33 [(3, 0), (2, 1), (2, 95), (0, ((i : Nat) : Int))] [(0, 4)] w 142 Q9 := by
  obtain ⟨d, rfl⟩ : ∃ d9, d = d9 + 1 := ⟨d - 1, by omega⟩
  refine qG.blk 6 (pc' := 459) (ls' := [(3, 0), (2, 1), (2, 95), (0, ((i : Nat) : Int))]) (st' := [(0, wrp (((i : Nat) : Int) + 1)), (3, 0), (2, 1)]) (w' := w) (n' := 142) rfl ?_
  rw [show wrp (((i : Nat) : Int) + 1) = ((i + 1 : Nat) : Int) from by rw [wrp_id (by omega) (by omega)]; omega]
  refine qG.gd (P := 0 ≤ ((i + 1 : Nat) : Int) ∧ ((i + 1 : Nat) : Int) < ((L : Nat) : Int)) (pc' := 460) (ls' := [(3, 0), (2, 1), (2, 95), (0, ((i : Nat) : Int))]) (st' := [(0, xs (i + 1)), (2, 1)]) (w' := w) (n' := 142) rfl (by omega) ?_
  refine qG.call (t := 168) (na := 2) (sk := 1) (md := 1) (ls1 := [(2, 1), (0, xs (i + 1))]) (r1 := []) rfl rfl rfl rfl rfl (SP.useA (c := C_X_end.2) (as := [(2, 1), (0, xs (i + 1))]) T_X_end hP (show 1 ≤ d by omega) ⟨⟨rfl, by decide, by decide⟩, ⟨rfl, (hx (i + 1)).1, (hx (i + 1)).2⟩, trivial⟩ rfl rfl (by decide +kernel)) ?_
  rintro _ w1 _ ⟨x1, rfl, -, -, hP1, rfl, hB1, -⟩
  have hJ1 := hJ.aw hB1 (by decide +kernel)
  show qG (some (L, xs)) (d + 1) 305 463 [(3, 0), (2, 1), (2, 95), (0, ((i : Nat) : Int))] [(0, x1)] w1 142 Q9
  refine qG.blk 6 (pc' := 469) (ls' := [(3, 0), (2, 1), (2, 95), (0, ((i : Nat) : Int))]) (st' := [(0, wrp (((i : Nat) : Int) + 1)), (3, 0), (2, 95)]) (w' := w1) (n' := 142) rfl ?_
  rw [show wrp (((i : Nat) : Int) + 1) = ((i + 1 : Nat) : Int) from by rw [wrp_id (by omega) (by omega)]; omega]
  refine qG.gd (P := 0 ≤ ((i + 1 : Nat) : Int) ∧ ((i + 1 : Nat) : Int) < ((L : Nat) : Int)) (pc' := 470) (ls' := [(3, 0), (2, 1), (2, 95), (0, ((i : Nat) : Int))]) (st' := [(0, xs (i + 1)), (2, 95)]) (w' := w1) (n' := 142) rfl (by omega) ?_
  refine qG.call (t := 223) (na := 2) (sk := 1) (md := 1) (ls1 := [(2, 95), (0, xs (i + 1))]) (r1 := []) rfl rfl rfl rfl rfl (SP.useA (c := C_R_end.2) (as := [(2, 95), (0, xs (i + 1))]) T_R_end hP1 (show 1 ≤ d by omega) ⟨⟨rfl, by decide, by decide⟩, ⟨rfl, (hx (i + 1)).1, (hx (i + 1)).2⟩, trivial⟩ rfl rfl (by decide +kernel)) ?_
  rintro _ w2 _ ⟨x2, rfl, -, -, hP2, rfl, hB2, -⟩
  have hJ2 := hJ1.aw hB2 (by decide +kernel)
  show qG (some (L, xs)) (d + 1) 305 473 [(3, 0), (2, 1), (2, 95), (0, ((i : Nat) : Int))] [(0, x2)] w2 142 Q9
  refine qG.blk 2 (pc' := 1610) (ls' := [(3, 0), (2, 1), (2, 95), (0, ((i : Nat) : Int))]) (st' := []) (w' := w2) (n' := 142) rfl ?_
  exact H _ hP2 hJ2
theorem O_5 {L : Nat} {xs : Nat → Int} (hx : ∀ j, -2147483648 ≤ xs j ∧ xs j ≤ 2147483647) (i : Nat) (hi : i + 6 ≤ L) (hL : L ≤ 3072) {d : Nat} (hd : 70 ≤ d) (w : qW) (hP : SP w) (hJ : JW w) {Q9 : qV → qW → Nat → Prop} (H : ∀ w1, SP w1 → JW w1 → qG (some (L, xs)) d 305 1610 [(3, 0), (2, 1), (2, 95), (0, ((i : Nat) : Int))] [] w1 142 Q9) : qG (some (L, xs)) d 305 33 [(3, 0), (2, 1), (2, 95), (0, ((i : Nat) : Int))] [(0, 5)] w 142 Q9 := by
  obtain ⟨d, rfl⟩ : ∃ d9, d = d9 + 1 := ⟨d - 1, by omega⟩
  refine qG.blk 6 (pc' := 482) (ls' := [(3, 0), (2, 1), (2, 95), (0, ((i : Nat) : Int))]) (st' := [(0, wrp (((i : Nat) : Int) + 1)), (3, 0), (2, 1)]) (w' := w) (n' := 142) rfl ?_
  rw [show wrp (((i : Nat) : Int) + 1) = ((i + 1 : Nat) : Int) from by rw [wrp_id (by omega) (by omega)]; omega]
  refine qG.gd (P := 0 ≤ ((i + 1 : Nat) : Int) ∧ ((i + 1 : Nat) : Int) < ((L : Nat) : Int)) (pc' := 483) (ls' := [(3, 0), (2, 1), (2, 95), (0, ((i : Nat) : Int))]) (st' := [(0, xs (i + 1)), (2, 1)]) (w' := w) (n' := 142) rfl (by omega) ?_
  refine qG.call (t := 169) (na := 2) (sk := 1) (md := 1) (ls1 := [(2, 1), (0, xs (i + 1)), (9, 0)]) (r1 := []) rfl rfl rfl rfl rfl (SP.useA (c := C_X_text.2) (as := [(2, 1), (0, xs (i + 1))]) T_X_text hP (show 24 ≤ d by omega) ⟨⟨rfl, by decide, by decide⟩, ⟨rfl, (hx (i + 1)).1, (hx (i + 1)).2⟩, trivial⟩ rfl rfl (by decide +kernel)) ?_
  rintro _ w1 _ ⟨x1, rfl, -, -, hP1, rfl, hB1, -⟩
  have hJ1 := hJ.aw hB1 (by decide +kernel)
  show qG (some (L, xs)) (d + 1) 305 486 [(3, 0), (2, 1), (2, 95), (0, ((i : Nat) : Int))] [(0, x1)] w1 142 Q9
  refine qG.blk 6 (pc' := 492) (ls' := [(3, 0), (2, 1), (2, 95), (0, ((i : Nat) : Int))]) (st' := [(0, wrp (((i : Nat) : Int) + 1)), (3, 0), (2, 95)]) (w' := w1) (n' := 142) rfl ?_
  rw [show wrp (((i : Nat) : Int) + 1) = ((i + 1 : Nat) : Int) from by rw [wrp_id (by omega) (by omega)]; omega]
  refine qG.gd (P := 0 ≤ ((i + 1 : Nat) : Int) ∧ ((i + 1 : Nat) : Int) < ((L : Nat) : Int)) (pc' := 493) (ls' := [(3, 0), (2, 1), (2, 95), (0, ((i : Nat) : Int))]) (st' := [(0, xs (i + 1)), (2, 95)]) (w' := w1) (n' := 142) rfl (by omega) ?_
  refine qG.call (t := 245) (na := 2) (sk := 1) (md := 1) (ls1 := [(2, 95), (0, xs (i + 1)), (9, 0)]) (r1 := []) rfl rfl rfl rfl rfl (K_text (show _ ≤ d by omega) (xs (i + 1)) w1 hP1.1) ?_
  rintro r2 w2 n2 hq2
  have hP2 := hP1.tx hq2
  have hJ2 := hJ1.aw hq2.2.2.1 (by decide +kernel)
  obtain ⟨rfl, ⟨x2, rfl⟩, -⟩ := hq2
  show qG (some (L, xs)) (d + 1) 305 496 [(3, 0), (2, 1), (2, 95), (0, ((i : Nat) : Int))] [(0, x2)] w2 142 Q9
  refine qG.blk 2 (pc' := 1610) (ls' := [(3, 0), (2, 1), (2, 95), (0, ((i : Nat) : Int))]) (st' := []) (w' := w2) (n' := 142) rfl ?_
  exact H _ hP2 hJ2
theorem O_6 {L : Nat} {xs : Nat → Int} (hx : ∀ j, -2147483648 ≤ xs j ∧ xs j ≤ 2147483647) (i : Nat) (hi : i + 6 ≤ L) (hL : L ≤ 3072) {d : Nat} (hd : 70 ≤ d) (w : qW) (hP : SP w) (hJ : JW w) {Q9 : qV → qW → Nat → Prop} (H : ∀ w1, SP w1 → JW w1 → qG (some (L, xs)) d 305 1610 [(3, 0), (2, 1), (2, 95), (0, ((i : Nat) : Int))] [] w1 142 Q9) : qG (some (L, xs)) d 305 33 [(3, 0), (2, 1), (2, 95), (0, ((i : Nat) : Int))] [(0, 6)] w 142 Q9 := by
  obtain ⟨d, rfl⟩ : ∃ d9, d = d9 + 1 := ⟨d - 1, by omega⟩
  refine qG.blk 6 (pc' := 505) (ls' := [(3, 0), (2, 1), (2, 95), (0, ((i : Nat) : Int))]) (st' := [(0, wrp (((i : Nat) : Int) + 1)), (3, 0), (2, 1)]) (w' := w) (n' := 142) rfl ?_
  rw [show wrp (((i : Nat) : Int) + 1) = ((i + 1 : Nat) : Int) from by rw [wrp_id (by omega) (by omega)]; omega]
  refine qG.gd (P := 0 ≤ ((i + 1 : Nat) : Int) ∧ ((i + 1 : Nat) : Int) < ((L : Nat) : Int)) (pc' := 506) (ls' := [(3, 0), (2, 1), (2, 95), (0, ((i : Nat) : Int))]) (st' := [(0, xs (i + 1)), (2, 1)]) (w' := w) (n' := 142) rfl (by omega) ?_
  refine qG.call (t := 170) (na := 2) (sk := 1) (md := 1) (ls1 := [(2, 1), (0, xs (i + 1))]) (r1 := []) rfl rfl rfl rfl rfl (SP.useA (c := C_X_fault.2) (as := [(2, 1), (0, xs (i + 1))]) T_X_fault hP (show 1 ≤ d by omega) ⟨⟨rfl, by decide, by decide⟩, ⟨rfl, (hx (i + 1)).1, (hx (i + 1)).2⟩, trivial⟩ rfl rfl (by decide +kernel)) ?_
  rintro _ w1 _ ⟨x1, rfl, -, -, hP1, rfl, hB1, -⟩
  have hJ1 := hJ.aw hB1 (by decide +kernel)
  show qG (some (L, xs)) (d + 1) 305 509 [(3, 0), (2, 1), (2, 95), (0, ((i : Nat) : Int))] [(0, x1)] w1 142 Q9
  refine qG.blk 6 (pc' := 515) (ls' := [(3, 0), (2, 1), (2, 95), (0, ((i : Nat) : Int))]) (st' := [(0, wrp (((i : Nat) : Int) + 1)), (3, 0), (2, 95)]) (w' := w1) (n' := 142) rfl ?_
  rw [show wrp (((i : Nat) : Int) + 1) = ((i + 1 : Nat) : Int) from by rw [wrp_id (by omega) (by omega)]; omega]
  refine qG.gd (P := 0 ≤ ((i + 1 : Nat) : Int) ∧ ((i + 1 : Nat) : Int) < ((L : Nat) : Int)) (pc' := 516) (ls' := [(3, 0), (2, 1), (2, 95), (0, ((i : Nat) : Int))]) (st' := [(0, xs (i + 1)), (2, 95)]) (w' := w1) (n' := 142) rfl (by omega) ?_
  refine qG.call (t := 248) (na := 2) (sk := 1) (md := 1) (ls1 := [(2, 95), (0, xs (i + 1))]) (r1 := []) rfl rfl rfl rfl rfl (SP.useA (c := C_R_fault.2) (as := [(2, 95), (0, xs (i + 1))]) T_R_fault hP1 (show 0 ≤ d by omega) ⟨⟨rfl, by decide, by decide⟩, ⟨rfl, (hx (i + 1)).1, (hx (i + 1)).2⟩, trivial⟩ rfl rfl (by decide +kernel)) ?_
  rintro _ w2 _ ⟨x2, rfl, -, -, hP2, rfl, hB2, -⟩
  have hJ2 := hJ1.aw hB2 (by decide +kernel)
  show qG (some (L, xs)) (d + 1) 305 519 [(3, 0), (2, 1), (2, 95), (0, ((i : Nat) : Int))] [(0, x2)] w2 142 Q9
  refine qG.blk 2 (pc' := 1610) (ls' := [(3, 0), (2, 1), (2, 95), (0, ((i : Nat) : Int))]) (st' := []) (w' := w2) (n' := 142) rfl ?_
  exact H _ hP2 hJ2
theorem O_7 {L : Nat} {xs : Nat → Int} (hx : ∀ j, -2147483648 ≤ xs j ∧ xs j ≤ 2147483647) (i : Nat) (hi : i + 6 ≤ L) (hL : L ≤ 3072) {d : Nat} (hd : 70 ≤ d) (w : qW) (hP : SP w) (hJ : JW w) {Q9 : qV → qW → Nat → Prop} (H : ∀ w1, SP w1 → JW w1 → qG (some (L, xs)) d 305 1610 [(3, 0), (2, 1), (2, 95), (0, ((i : Nat) : Int))] [] w1 142 Q9) : qG (some (L, xs)) d 305 33 [(3, 0), (2, 1), (2, 95), (0, ((i : Nat) : Int))] [(0, 7)] w 142 Q9 := by
  obtain ⟨d, rfl⟩ : ∃ d9, d = d9 + 1 := ⟨d - 1, by omega⟩
  refine qG.blk 6 (pc' := 528) (ls' := [(3, 0), (2, 1), (2, 95), (0, ((i : Nat) : Int))]) (st' := [(0, wrp (((i : Nat) : Int) + 1)), (3, 0), (2, 1)]) (w' := w) (n' := 142) rfl ?_
  rw [show wrp (((i : Nat) : Int) + 1) = ((i + 1 : Nat) : Int) from by rw [wrp_id (by omega) (by omega)]; omega]
  refine qG.gd (P := 0 ≤ ((i + 1 : Nat) : Int) ∧ ((i + 1 : Nat) : Int) < ((L : Nat) : Int)) (pc' := 529) (ls' := [(3, 0), (2, 1), (2, 95), (0, ((i : Nat) : Int))]) (st' := [(0, xs (i + 1)), (2, 1)]) (w' := w) (n' := 142) rfl (by omega) ?_
  refine qG.blk 4 (pc' := 533) (ls' := [(3, 0), (2, 1), (2, 95), (0, ((i : Nat) : Int))]) (st' := [(0, wrp (((i : Nat) : Int) + 2)), (3, 0), (0, xs (i + 1)), (2, 1)]) (w' := w) (n' := 142) rfl ?_
  rw [show wrp (((i : Nat) : Int) + 2) = ((i + 2 : Nat) : Int) from by rw [wrp_id (by omega) (by omega)]; omega]
  refine qG.gd (P := 0 ≤ ((i + 2 : Nat) : Int) ∧ ((i + 2 : Nat) : Int) < ((L : Nat) : Int)) (pc' := 534) (ls' := [(3, 0), (2, 1), (2, 95), (0, ((i : Nat) : Int))]) (st' := [(0, xs (i + 2)), (0, xs (i + 1)), (2, 1)]) (w' := w) (n' := 142) rfl (by omega) ?_
  refine qG.call (t := 171) (na := 3) (sk := 1) (md := 1) (ls1 := [(2, 1), (0, xs (i + 1)), (0, xs (i + 2))]) (r1 := []) rfl rfl rfl rfl rfl (SP.useA (c := C_X_poses.2) (as := [(2, 1), (0, xs (i + 1)), (0, xs (i + 2))]) T_X_poses hP (show 9 ≤ d by omega) ⟨⟨rfl, by decide, by decide⟩, ⟨rfl, (hx (i + 1)).1, (hx (i + 1)).2⟩, ⟨rfl, (hx (i + 2)).1, (hx (i + 2)).2⟩, trivial⟩ rfl rfl (by decide +kernel)) ?_
  rintro _ w1 _ ⟨x1, rfl, -, -, hP1, rfl, hB1, -⟩
  have hJ1 := hJ.aw hB1 (by decide +kernel)
  show qG (some (L, xs)) (d + 1) 305 537 [(3, 0), (2, 1), (2, 95), (0, ((i : Nat) : Int))] [(0, x1)] w1 142 Q9
  refine qG.blk 6 (pc' := 543) (ls' := [(3, 0), (2, 1), (2, 95), (0, ((i : Nat) : Int))]) (st' := [(0, wrp (((i : Nat) : Int) + 1)), (3, 0), (2, 95)]) (w' := w1) (n' := 142) rfl ?_
  rw [show wrp (((i : Nat) : Int) + 1) = ((i + 1 : Nat) : Int) from by rw [wrp_id (by omega) (by omega)]; omega]
  refine qG.gd (P := 0 ≤ ((i + 1 : Nat) : Int) ∧ ((i + 1 : Nat) : Int) < ((L : Nat) : Int)) (pc' := 544) (ls' := [(3, 0), (2, 1), (2, 95), (0, ((i : Nat) : Int))]) (st' := [(0, xs (i + 1)), (2, 95)]) (w' := w1) (n' := 142) rfl (by omega) ?_
  refine qG.blk 4 (pc' := 548) (ls' := [(3, 0), (2, 1), (2, 95), (0, ((i : Nat) : Int))]) (st' := [(0, wrp (((i : Nat) : Int) + 2)), (3, 0), (0, xs (i + 1)), (2, 95)]) (w' := w1) (n' := 142) rfl ?_
  rw [show wrp (((i : Nat) : Int) + 2) = ((i + 2 : Nat) : Int) from by rw [wrp_id (by omega) (by omega)]; omega]
  refine qG.gd (P := 0 ≤ ((i + 2 : Nat) : Int) ∧ ((i + 2 : Nat) : Int) < ((L : Nat) : Int)) (pc' := 549) (ls' := [(3, 0), (2, 1), (2, 95), (0, ((i : Nat) : Int))]) (st' := [(0, xs (i + 2)), (0, xs (i + 1)), (2, 95)]) (w' := w1) (n' := 142) rfl (by omega) ?_
  refine qG.call (t := 221) (na := 3) (sk := 1) (md := 1) (ls1 := [(2, 95), (0, xs (i + 1)), (0, xs (i + 2))]) (r1 := []) rfl rfl rfl rfl rfl (K_poses (show _ ≤ d by omega) (xs (i + 1)) (xs (i + 2)) w1 hP1.1 hP1.2.1 hP1.2.2.2) ?_
  rintro r2 w2 n2 hq2
  have hP2 := hP1.sq hq2 (by decide +kernel)
  have hJ2 := hJ1.aw hq2.2.2.1 (by decide +kernel)
  obtain ⟨rfl, ⟨x2, rfl⟩, -⟩ := hq2
  show qG (some (L, xs)) (d + 1) 305 552 [(3, 0), (2, 1), (2, 95), (0, ((i : Nat) : Int))] [(0, x2)] w2 142 Q9
  refine qG.blk 2 (pc' := 1610) (ls' := [(3, 0), (2, 1), (2, 95), (0, ((i : Nat) : Int))]) (st' := []) (w' := w2) (n' := 142) rfl ?_
  exact H _ hP2 hJ2
theorem O_8 {L : Nat} {xs : Nat → Int} (hx : ∀ j, -2147483648 ≤ xs j ∧ xs j ≤ 2147483647) (i : Nat) (hi : i + 6 ≤ L) (hL : L ≤ 3072) {d : Nat} (hd : 70 ≤ d) (w : qW) (hP : SP w) (hJ : JW w) {Q9 : qV → qW → Nat → Prop} (H : ∀ w1, SP w1 → JW w1 → qG (some (L, xs)) d 305 1610 [(3, 0), (2, 1), (2, 95), (0, ((i : Nat) : Int))] [] w1 142 Q9) : qG (some (L, xs)) d 305 33 [(3, 0), (2, 1), (2, 95), (0, ((i : Nat) : Int))] [(0, 8)] w 142 Q9 := by
  obtain ⟨d, rfl⟩ : ∃ d9, d = d9 + 1 := ⟨d - 1, by omega⟩
  refine qG.blk 6 (pc' := 561) (ls' := [(3, 0), (2, 1), (2, 95), (0, ((i : Nat) : Int))]) (st' := [(0, wrp (((i : Nat) : Int) + 1)), (3, 0), (2, 1)]) (w' := w) (n' := 142) rfl ?_
  rw [show wrp (((i : Nat) : Int) + 1) = ((i + 1 : Nat) : Int) from by rw [wrp_id (by omega) (by omega)]; omega]
  refine qG.gd (P := 0 ≤ ((i + 1 : Nat) : Int) ∧ ((i + 1 : Nat) : Int) < ((L : Nat) : Int)) (pc' := 562) (ls' := [(3, 0), (2, 1), (2, 95), (0, ((i : Nat) : Int))]) (st' := [(0, xs (i + 1)), (2, 1)]) (w' := w) (n' := 142) rfl (by omega) ?_
  refine qG.blk 4 (pc' := 566) (ls' := [(3, 0), (2, 1), (2, 95), (0, ((i : Nat) : Int))]) (st' := [(0, wrp (((i : Nat) : Int) + 2)), (3, 0), (0, xs (i + 1)), (2, 1)]) (w' := w) (n' := 142) rfl ?_
  rw [show wrp (((i : Nat) : Int) + 2) = ((i + 2 : Nat) : Int) from by rw [wrp_id (by omega) (by omega)]; omega]
  refine qG.gd (P := 0 ≤ ((i + 2 : Nat) : Int) ∧ ((i + 2 : Nat) : Int) < ((L : Nat) : Int)) (pc' := 567) (ls' := [(3, 0), (2, 1), (2, 95), (0, ((i : Nat) : Int))]) (st' := [(0, xs (i + 2)), (0, xs (i + 1)), (2, 1)]) (w' := w) (n' := 142) rfl (by omega) ?_
  refine qG.blk 4 (pc' := 571) (ls' := [(3, 0), (2, 1), (2, 95), (0, ((i : Nat) : Int))]) (st' := [(0, wrp (((i : Nat) : Int) + 3)), (3, 0), (0, xs (i + 2)), (0, xs (i + 1)), (2, 1)]) (w' := w) (n' := 142) rfl ?_
  rw [show wrp (((i : Nat) : Int) + 3) = ((i + 3 : Nat) : Int) from by rw [wrp_id (by omega) (by omega)]; omega]
  refine qG.gd (P := 0 ≤ ((i + 3 : Nat) : Int) ∧ ((i + 3 : Nat) : Int) < ((L : Nat) : Int)) (pc' := 572) (ls' := [(3, 0), (2, 1), (2, 95), (0, ((i : Nat) : Int))]) (st' := [(0, xs (i + 3)), (0, xs (i + 2)), (0, xs (i + 1)), (2, 1)]) (w' := w) (n' := 142) rfl (by omega) ?_
  refine qG.call (t := 172) (na := 4) (sk := 1) (md := 1) (ls1 := [(2, 1), (0, xs (i + 1)), (0, xs (i + 2)), (0, xs (i + 3))]) (r1 := []) rfl rfl rfl rfl rfl (SP.useA (c := C_X_seen.2) (as := [(2, 1), (0, xs (i + 1)), (0, xs (i + 2)), (0, xs (i + 3))]) T_X_seen hP (show 5 ≤ d by omega) ⟨⟨rfl, by decide, by decide⟩, ⟨rfl, (hx (i + 1)).1, (hx (i + 1)).2⟩, ⟨rfl, (hx (i + 2)).1, (hx (i + 2)).2⟩, ⟨rfl, (hx (i + 3)).1, (hx (i + 3)).2⟩, trivial⟩ rfl rfl (by decide +kernel)) ?_
  rintro _ w1 _ ⟨x1, rfl, -, -, hP1, rfl, hB1, -⟩
  have hJ1 := hJ.aw hB1 (by decide +kernel)
  show qG (some (L, xs)) (d + 1) 305 575 [(3, 0), (2, 1), (2, 95), (0, ((i : Nat) : Int))] [(0, x1)] w1 142 Q9
  refine qG.blk 6 (pc' := 581) (ls' := [(3, 0), (2, 1), (2, 95), (0, ((i : Nat) : Int))]) (st' := [(0, wrp (((i : Nat) : Int) + 1)), (3, 0), (2, 95)]) (w' := w1) (n' := 142) rfl ?_
  rw [show wrp (((i : Nat) : Int) + 1) = ((i + 1 : Nat) : Int) from by rw [wrp_id (by omega) (by omega)]; omega]
  refine qG.gd (P := 0 ≤ ((i + 1 : Nat) : Int) ∧ ((i + 1 : Nat) : Int) < ((L : Nat) : Int)) (pc' := 582) (ls' := [(3, 0), (2, 1), (2, 95), (0, ((i : Nat) : Int))]) (st' := [(0, xs (i + 1)), (2, 95)]) (w' := w1) (n' := 142) rfl (by omega) ?_
  refine qG.blk 4 (pc' := 586) (ls' := [(3, 0), (2, 1), (2, 95), (0, ((i : Nat) : Int))]) (st' := [(0, wrp (((i : Nat) : Int) + 2)), (3, 0), (0, xs (i + 1)), (2, 95)]) (w' := w1) (n' := 142) rfl ?_
  rw [show wrp (((i : Nat) : Int) + 2) = ((i + 2 : Nat) : Int) from by rw [wrp_id (by omega) (by omega)]; omega]
  refine qG.gd (P := 0 ≤ ((i + 2 : Nat) : Int) ∧ ((i + 2 : Nat) : Int) < ((L : Nat) : Int)) (pc' := 587) (ls' := [(3, 0), (2, 1), (2, 95), (0, ((i : Nat) : Int))]) (st' := [(0, xs (i + 2)), (0, xs (i + 1)), (2, 95)]) (w' := w1) (n' := 142) rfl (by omega) ?_
  refine qG.blk 4 (pc' := 591) (ls' := [(3, 0), (2, 1), (2, 95), (0, ((i : Nat) : Int))]) (st' := [(0, wrp (((i : Nat) : Int) + 3)), (3, 0), (0, xs (i + 2)), (0, xs (i + 1)), (2, 95)]) (w' := w1) (n' := 142) rfl ?_
  rw [show wrp (((i : Nat) : Int) + 3) = ((i + 3 : Nat) : Int) from by rw [wrp_id (by omega) (by omega)]; omega]
  refine qG.gd (P := 0 ≤ ((i + 3 : Nat) : Int) ∧ ((i + 3 : Nat) : Int) < ((L : Nat) : Int)) (pc' := 592) (ls' := [(3, 0), (2, 1), (2, 95), (0, ((i : Nat) : Int))]) (st' := [(0, xs (i + 3)), (0, xs (i + 2)), (0, xs (i + 1)), (2, 95)]) (w' := w1) (n' := 142) rfl (by omega) ?_
  refine qG.call (t := 254) (na := 4) (sk := 1) (md := 1) (ls1 := [(2, 95), (0, xs (i + 1)), (0, xs (i + 2)), (0, xs (i + 3))]) (r1 := []) rfl rfl rfl rfl rfl (K_seen (show _ ≤ d by omega) (xs (i + 1)) (xs (i + 2)) (xs (i + 3)) (hx (i + 3)).1 (hx (i + 3)).2 w1 hP1.1 hP1.2.1 hP1.2.2.2) ?_
  rintro r2 w2 n2 hq2
  have hP2 := hP1.sq hq2 (by decide +kernel)
  have hJ2 := hJ1.aw hq2.2.2.1 (by decide +kernel)
  obtain ⟨rfl, ⟨x2, rfl⟩, -⟩ := hq2
  show qG (some (L, xs)) (d + 1) 305 595 [(3, 0), (2, 1), (2, 95), (0, ((i : Nat) : Int))] [(0, x2)] w2 142 Q9
  refine qG.blk 2 (pc' := 1610) (ls' := [(3, 0), (2, 1), (2, 95), (0, ((i : Nat) : Int))]) (st' := []) (w' := w2) (n' := 142) rfl ?_
  exact H _ hP2 hJ2
theorem O_9 {L : Nat} {xs : Nat → Int} (hx : ∀ j, -2147483648 ≤ xs j ∧ xs j ≤ 2147483647) (i : Nat) (hi : i + 6 ≤ L) (hL : L ≤ 3072) {d : Nat} (hd : 70 ≤ d) (w : qW) (hP : SP w) (hJ : JW w) {Q9 : qV → qW → Nat → Prop} (H : ∀ w1, SP w1 → JW w1 → qG (some (L, xs)) d 305 1610 [(3, 0), (2, 1), (2, 95), (0, ((i : Nat) : Int))] [] w1 142 Q9) : qG (some (L, xs)) d 305 33 [(3, 0), (2, 1), (2, 95), (0, ((i : Nat) : Int))] [(0, 9)] w 142 Q9 := by
  obtain ⟨d, rfl⟩ : ∃ d9, d = d9 + 1 := ⟨d - 1, by omega⟩
  refine qG.blk 6 (pc' := 604) (ls' := [(3, 0), (2, 1), (2, 95), (0, ((i : Nat) : Int))]) (st' := [(0, wrp (((i : Nat) : Int) + 1)), (3, 0), (2, 1)]) (w' := w) (n' := 142) rfl ?_
  rw [show wrp (((i : Nat) : Int) + 1) = ((i + 1 : Nat) : Int) from by rw [wrp_id (by omega) (by omega)]; omega]
  refine qG.gd (P := 0 ≤ ((i + 1 : Nat) : Int) ∧ ((i + 1 : Nat) : Int) < ((L : Nat) : Int)) (pc' := 605) (ls' := [(3, 0), (2, 1), (2, 95), (0, ((i : Nat) : Int))]) (st' := [(0, xs (i + 1)), (2, 1)]) (w' := w) (n' := 142) rfl (by omega) ?_
  refine qG.blk 4 (pc' := 609) (ls' := [(3, 0), (2, 1), (2, 95), (0, ((i : Nat) : Int))]) (st' := [(0, wrp (((i : Nat) : Int) + 2)), (3, 0), (0, xs (i + 1)), (2, 1)]) (w' := w) (n' := 142) rfl ?_
  rw [show wrp (((i : Nat) : Int) + 2) = ((i + 2 : Nat) : Int) from by rw [wrp_id (by omega) (by omega)]; omega]
  refine qG.gd (P := 0 ≤ ((i + 2 : Nat) : Int) ∧ ((i + 2 : Nat) : Int) < ((L : Nat) : Int)) (pc' := 610) (ls' := [(3, 0), (2, 1), (2, 95), (0, ((i : Nat) : Int))]) (st' := [(0, xs (i + 2)), (0, xs (i + 1)), (2, 1)]) (w' := w) (n' := 142) rfl (by omega) ?_
  refine qG.blk 4 (pc' := 614) (ls' := [(3, 0), (2, 1), (2, 95), (0, ((i : Nat) : Int))]) (st' := [(0, wrp (((i : Nat) : Int) + 3)), (3, 0), (0, xs (i + 2)), (0, xs (i + 1)), (2, 1)]) (w' := w) (n' := 142) rfl ?_
  rw [show wrp (((i : Nat) : Int) + 3) = ((i + 3 : Nat) : Int) from by rw [wrp_id (by omega) (by omega)]; omega]
  refine qG.gd (P := 0 ≤ ((i + 3 : Nat) : Int) ∧ ((i + 3 : Nat) : Int) < ((L : Nat) : Int)) (pc' := 615) (ls' := [(3, 0), (2, 1), (2, 95), (0, ((i : Nat) : Int))]) (st' := [(0, xs (i + 3)), (0, xs (i + 2)), (0, xs (i + 1)), (2, 1)]) (w' := w) (n' := 142) rfl (by omega) ?_
  refine qG.call (t := 173) (na := 4) (sk := 1) (md := 1) (ls1 := [(2, 1), (0, xs (i + 1)), (0, xs (i + 2)), (0, xs (i + 3))]) (r1 := []) rfl rfl rfl rfl rfl (SP.useA (c := C_X_run.2) (as := [(2, 1), (0, xs (i + 1)), (0, xs (i + 2)), (0, xs (i + 3))]) T_X_run hP (show 5 ≤ d by omega) ⟨⟨rfl, by decide, by decide⟩, ⟨rfl, (hx (i + 1)).1, (hx (i + 1)).2⟩, ⟨rfl, (hx (i + 2)).1, (hx (i + 2)).2⟩, ⟨rfl, (hx (i + 3)).1, (hx (i + 3)).2⟩, trivial⟩ rfl rfl (by decide +kernel)) ?_
  rintro _ w1 _ ⟨x1, rfl, -, -, hP1, rfl, hB1, -⟩
  have hJ1 := hJ.aw hB1 (by decide +kernel)
  show qG (some (L, xs)) (d + 1) 305 618 [(3, 0), (2, 1), (2, 95), (0, ((i : Nat) : Int))] [(0, x1)] w1 142 Q9
  refine qG.blk 6 (pc' := 624) (ls' := [(3, 0), (2, 1), (2, 95), (0, ((i : Nat) : Int))]) (st' := [(0, wrp (((i : Nat) : Int) + 1)), (3, 0), (2, 95)]) (w' := w1) (n' := 142) rfl ?_
  rw [show wrp (((i : Nat) : Int) + 1) = ((i + 1 : Nat) : Int) from by rw [wrp_id (by omega) (by omega)]; omega]
  refine qG.gd (P := 0 ≤ ((i + 1 : Nat) : Int) ∧ ((i + 1 : Nat) : Int) < ((L : Nat) : Int)) (pc' := 625) (ls' := [(3, 0), (2, 1), (2, 95), (0, ((i : Nat) : Int))]) (st' := [(0, xs (i + 1)), (2, 95)]) (w' := w1) (n' := 142) rfl (by omega) ?_
  refine qG.blk 4 (pc' := 629) (ls' := [(3, 0), (2, 1), (2, 95), (0, ((i : Nat) : Int))]) (st' := [(0, wrp (((i : Nat) : Int) + 2)), (3, 0), (0, xs (i + 1)), (2, 95)]) (w' := w1) (n' := 142) rfl ?_
  rw [show wrp (((i : Nat) : Int) + 2) = ((i + 2 : Nat) : Int) from by rw [wrp_id (by omega) (by omega)]; omega]
  refine qG.gd (P := 0 ≤ ((i + 2 : Nat) : Int) ∧ ((i + 2 : Nat) : Int) < ((L : Nat) : Int)) (pc' := 630) (ls' := [(3, 0), (2, 1), (2, 95), (0, ((i : Nat) : Int))]) (st' := [(0, xs (i + 2)), (0, xs (i + 1)), (2, 95)]) (w' := w1) (n' := 142) rfl (by omega) ?_
  refine qG.blk 4 (pc' := 634) (ls' := [(3, 0), (2, 1), (2, 95), (0, ((i : Nat) : Int))]) (st' := [(0, wrp (((i : Nat) : Int) + 3)), (3, 0), (0, xs (i + 2)), (0, xs (i + 1)), (2, 95)]) (w' := w1) (n' := 142) rfl ?_
  rw [show wrp (((i : Nat) : Int) + 3) = ((i + 3 : Nat) : Int) from by rw [wrp_id (by omega) (by omega)]; omega]
  refine qG.gd (P := 0 ≤ ((i + 3 : Nat) : Int) ∧ ((i + 3 : Nat) : Int) < ((L : Nat) : Int)) (pc' := 635) (ls' := [(3, 0), (2, 1), (2, 95), (0, ((i : Nat) : Int))]) (st' := [(0, xs (i + 3)), (0, xs (i + 2)), (0, xs (i + 1)), (2, 95)]) (w' := w1) (n' := 142) rfl (by omega) ?_
  refine qG.call (t := 255) (na := 4) (sk := 1) (md := 1) (ls1 := [(2, 95), (0, xs (i + 1)), (0, xs (i + 2)), (0, xs (i + 3))]) (r1 := []) rfl rfl rfl rfl rfl (K_run (show _ ≤ d by omega) (xs (i + 1)) (xs (i + 2)) (xs (i + 3)) w1 hP1.1 hP1.2.1 hP1.2.2.2) ?_
  rintro r2 w2 n2 hq2
  have hP2 := hP1.sq hq2 (by decide +kernel)
  have hJ2 := hJ1.aw hq2.2.2.1 (by decide +kernel)
  obtain ⟨rfl, ⟨x2, rfl⟩, -⟩ := hq2
  show qG (some (L, xs)) (d + 1) 305 638 [(3, 0), (2, 1), (2, 95), (0, ((i : Nat) : Int))] [(0, x2)] w2 142 Q9
  refine qG.blk 2 (pc' := 1610) (ls' := [(3, 0), (2, 1), (2, 95), (0, ((i : Nat) : Int))]) (st' := []) (w' := w2) (n' := 142) rfl ?_
  exact H _ hP2 hJ2
theorem O_10 {L : Nat} {xs : Nat → Int} (hx : ∀ j, -2147483648 ≤ xs j ∧ xs j ≤ 2147483647) (i : Nat) (hi : i + 6 ≤ L) (hL : L ≤ 3072) {d : Nat} (hd : 70 ≤ d) (w : qW) (hP : SP w) (hJ : JW w) {Q9 : qV → qW → Nat → Prop} (H : ∀ w1, SP w1 → JW w1 → qG (some (L, xs)) d 305 1610 [(3, 0), (2, 1), (2, 95), (0, ((i : Nat) : Int))] [] w1 142 Q9) : qG (some (L, xs)) d 305 33 [(3, 0), (2, 1), (2, 95), (0, ((i : Nat) : Int))] [(0, 10)] w 142 Q9 := by
  obtain ⟨d, rfl⟩ : ∃ d9, d = d9 + 1 := ⟨d - 1, by omega⟩
  refine qG.blk 6 (pc' := 647) (ls' := [(3, 0), (2, 1), (2, 95), (0, ((i : Nat) : Int))]) (st' := [(0, wrp (((i : Nat) : Int) + 1)), (3, 0), (2, 1)]) (w' := w) (n' := 142) rfl ?_
  rw [show wrp (((i : Nat) : Int) + 1) = ((i + 1 : Nat) : Int) from by rw [wrp_id (by omega) (by omega)]; omega]
  refine qG.gd (P := 0 ≤ ((i + 1 : Nat) : Int) ∧ ((i + 1 : Nat) : Int) < ((L : Nat) : Int)) (pc' := 648) (ls' := [(3, 0), (2, 1), (2, 95), (0, ((i : Nat) : Int))]) (st' := [(0, xs (i + 1)), (2, 1)]) (w' := w) (n' := 142) rfl (by omega) ?_
  refine qG.blk 4 (pc' := 652) (ls' := [(3, 0), (2, 1), (2, 95), (0, ((i : Nat) : Int))]) (st' := [(0, wrp (((i : Nat) : Int) + 2)), (3, 0), (0, xs (i + 1)), (2, 1)]) (w' := w) (n' := 142) rfl ?_
  rw [show wrp (((i : Nat) : Int) + 2) = ((i + 2 : Nat) : Int) from by rw [wrp_id (by omega) (by omega)]; omega]
  refine qG.gd (P := 0 ≤ ((i + 2 : Nat) : Int) ∧ ((i + 2 : Nat) : Int) < ((L : Nat) : Int)) (pc' := 653) (ls' := [(3, 0), (2, 1), (2, 95), (0, ((i : Nat) : Int))]) (st' := [(0, xs (i + 2)), (0, xs (i + 1)), (2, 1)]) (w' := w) (n' := 142) rfl (by omega) ?_
  refine qG.blk 4 (pc' := 657) (ls' := [(3, 0), (2, 1), (2, 95), (0, ((i : Nat) : Int))]) (st' := [(0, wrp (((i : Nat) : Int) + 3)), (3, 0), (0, xs (i + 2)), (0, xs (i + 1)), (2, 1)]) (w' := w) (n' := 142) rfl ?_
  rw [show wrp (((i : Nat) : Int) + 3) = ((i + 3 : Nat) : Int) from by rw [wrp_id (by omega) (by omega)]; omega]
  refine qG.gd (P := 0 ≤ ((i + 3 : Nat) : Int) ∧ ((i + 3 : Nat) : Int) < ((L : Nat) : Int)) (pc' := 658) (ls' := [(3, 0), (2, 1), (2, 95), (0, ((i : Nat) : Int))]) (st' := [(0, xs (i + 3)), (0, xs (i + 2)), (0, xs (i + 1)), (2, 1)]) (w' := w) (n' := 142) rfl (by omega) ?_
  refine qG.blk 4 (pc' := 662) (ls' := [(3, 0), (2, 1), (2, 95), (0, ((i : Nat) : Int))]) (st' := [(0, wrp (((i : Nat) : Int) + 4)), (3, 0), (0, xs (i + 3)), (0, xs (i + 2)), (0, xs (i + 1)), (2, 1)]) (w' := w) (n' := 142) rfl ?_
  rw [show wrp (((i : Nat) : Int) + 4) = ((i + 4 : Nat) : Int) from by rw [wrp_id (by omega) (by omega)]; omega]
  refine qG.gd (P := 0 ≤ ((i + 4 : Nat) : Int) ∧ ((i + 4 : Nat) : Int) < ((L : Nat) : Int)) (pc' := 663) (ls' := [(3, 0), (2, 1), (2, 95), (0, ((i : Nat) : Int))]) (st' := [(0, xs (i + 4)), (0, xs (i + 3)), (0, xs (i + 2)), (0, xs (i + 1)), (2, 1)]) (w' := w) (n' := 142) rfl (by omega) ?_
  refine qG.call (t := 174) (na := 5) (sk := 1) (md := 1) (ls1 := [(2, 1), (0, xs (i + 1)), (0, xs (i + 2)), (0, xs (i + 3)), (0, xs (i + 4))]) (r1 := []) rfl rfl rfl rfl rfl (SP.useA (c := C_X_hide.2) (as := [(2, 1), (0, xs (i + 1)), (0, xs (i + 2)), (0, xs (i + 3)), (0, xs (i + 4))]) T_X_hide hP (show 11 ≤ d by omega) ⟨⟨rfl, by decide, by decide⟩, ⟨rfl, (hx (i + 1)).1, (hx (i + 1)).2⟩, ⟨rfl, (hx (i + 2)).1, (hx (i + 2)).2⟩, ⟨rfl, (hx (i + 3)).1, (hx (i + 3)).2⟩, ⟨rfl, (hx (i + 4)).1, (hx (i + 4)).2⟩, trivial⟩ rfl rfl (by decide +kernel)) ?_
  rintro _ w1 _ ⟨x1, rfl, -, -, hP1, rfl, hB1, -⟩
  have hJ1 := hJ.aw hB1 (by decide +kernel)
  show qG (some (L, xs)) (d + 1) 305 666 [(3, 0), (2, 1), (2, 95), (0, ((i : Nat) : Int))] [(0, x1)] w1 142 Q9
  refine qG.blk 6 (pc' := 672) (ls' := [(3, 0), (2, 1), (2, 95), (0, ((i : Nat) : Int))]) (st' := [(0, wrp (((i : Nat) : Int) + 1)), (3, 0), (2, 95)]) (w' := w1) (n' := 142) rfl ?_
  rw [show wrp (((i : Nat) : Int) + 1) = ((i + 1 : Nat) : Int) from by rw [wrp_id (by omega) (by omega)]; omega]
  refine qG.gd (P := 0 ≤ ((i + 1 : Nat) : Int) ∧ ((i + 1 : Nat) : Int) < ((L : Nat) : Int)) (pc' := 673) (ls' := [(3, 0), (2, 1), (2, 95), (0, ((i : Nat) : Int))]) (st' := [(0, xs (i + 1)), (2, 95)]) (w' := w1) (n' := 142) rfl (by omega) ?_
  refine qG.blk 4 (pc' := 677) (ls' := [(3, 0), (2, 1), (2, 95), (0, ((i : Nat) : Int))]) (st' := [(0, wrp (((i : Nat) : Int) + 2)), (3, 0), (0, xs (i + 1)), (2, 95)]) (w' := w1) (n' := 142) rfl ?_
  rw [show wrp (((i : Nat) : Int) + 2) = ((i + 2 : Nat) : Int) from by rw [wrp_id (by omega) (by omega)]; omega]
  refine qG.gd (P := 0 ≤ ((i + 2 : Nat) : Int) ∧ ((i + 2 : Nat) : Int) < ((L : Nat) : Int)) (pc' := 678) (ls' := [(3, 0), (2, 1), (2, 95), (0, ((i : Nat) : Int))]) (st' := [(0, xs (i + 2)), (0, xs (i + 1)), (2, 95)]) (w' := w1) (n' := 142) rfl (by omega) ?_
  refine qG.blk 4 (pc' := 682) (ls' := [(3, 0), (2, 1), (2, 95), (0, ((i : Nat) : Int))]) (st' := [(0, wrp (((i : Nat) : Int) + 3)), (3, 0), (0, xs (i + 2)), (0, xs (i + 1)), (2, 95)]) (w' := w1) (n' := 142) rfl ?_
  rw [show wrp (((i : Nat) : Int) + 3) = ((i + 3 : Nat) : Int) from by rw [wrp_id (by omega) (by omega)]; omega]
  refine qG.gd (P := 0 ≤ ((i + 3 : Nat) : Int) ∧ ((i + 3 : Nat) : Int) < ((L : Nat) : Int)) (pc' := 683) (ls' := [(3, 0), (2, 1), (2, 95), (0, ((i : Nat) : Int))]) (st' := [(0, xs (i + 3)), (0, xs (i + 2)), (0, xs (i + 1)), (2, 95)]) (w' := w1) (n' := 142) rfl (by omega) ?_
  refine qG.blk 4 (pc' := 687) (ls' := [(3, 0), (2, 1), (2, 95), (0, ((i : Nat) : Int))]) (st' := [(0, wrp (((i : Nat) : Int) + 4)), (3, 0), (0, xs (i + 3)), (0, xs (i + 2)), (0, xs (i + 1)), (2, 95)]) (w' := w1) (n' := 142) rfl ?_
  rw [show wrp (((i : Nat) : Int) + 4) = ((i + 4 : Nat) : Int) from by rw [wrp_id (by omega) (by omega)]; omega]
  refine qG.gd (P := 0 ≤ ((i + 4 : Nat) : Int) ∧ ((i + 4 : Nat) : Int) < ((L : Nat) : Int)) (pc' := 688) (ls' := [(3, 0), (2, 1), (2, 95), (0, ((i : Nat) : Int))]) (st' := [(0, xs (i + 4)), (0, xs (i + 3)), (0, xs (i + 2)), (0, xs (i + 1)), (2, 95)]) (w' := w1) (n' := 142) rfl (by omega) ?_
  refine qG.call (t := 258) (na := 5) (sk := 1) (md := 1) (ls1 := [(2, 95), (0, xs (i + 1)), (0, xs (i + 2)), (0, xs (i + 3)), (0, xs (i + 4)), (9, 0)]) (r1 := []) rfl rfl rfl rfl rfl (K_hide (show _ ≤ d by omega) (xs (i + 1)) (xs (i + 2)) (xs (i + 3)) (xs (i + 4)) w1 hP1.1 hP1.2.1 hP1.2.2.2) ?_
  rintro r2 w2 n2 hq2
  have hP2 := hP1.sq hq2 (by decide +kernel)
  have hJ2 := hJ1.aw hq2.2.2.1 (by decide +kernel)
  obtain ⟨rfl, ⟨x2, rfl⟩, -⟩ := hq2
  show qG (some (L, xs)) (d + 1) 305 691 [(3, 0), (2, 1), (2, 95), (0, ((i : Nat) : Int))] [(0, x2)] w2 142 Q9
  refine qG.blk 2 (pc' := 1610) (ls' := [(3, 0), (2, 1), (2, 95), (0, ((i : Nat) : Int))]) (st' := []) (w' := w2) (n' := 142) rfl ?_
  exact H _ hP2 hJ2
theorem O_11 {L : Nat} {xs : Nat → Int} (hx : ∀ j, -2147483648 ≤ xs j ∧ xs j ≤ 2147483647) (i : Nat) (hi : i + 6 ≤ L) (hL : L ≤ 3072) {d : Nat} (hd : 70 ≤ d) (w : qW) (hP : SP w) (hJ : JW w) {Q9 : qV → qW → Nat → Prop} (H : ∀ w1, SP w1 → JW w1 → qG (some (L, xs)) d 305 1610 [(3, 0), (2, 1), (2, 95), (0, ((i : Nat) : Int))] [] w1 142 Q9) : qG (some (L, xs)) d 305 33 [(3, 0), (2, 1), (2, 95), (0, ((i : Nat) : Int))] [(0, 11)] w 142 Q9 := by
  obtain ⟨d, rfl⟩ : ∃ d9, d = d9 + 1 := ⟨d - 1, by omega⟩
  refine qG.blk 6 (pc' := 700) (ls' := [(3, 0), (2, 1), (2, 95), (0, ((i : Nat) : Int))]) (st' := [(0, wrp (((i : Nat) : Int) + 1)), (3, 0), (2, 1)]) (w' := w) (n' := 142) rfl ?_
  rw [show wrp (((i : Nat) : Int) + 1) = ((i + 1 : Nat) : Int) from by rw [wrp_id (by omega) (by omega)]; omega]
  refine qG.gd (P := 0 ≤ ((i + 1 : Nat) : Int) ∧ ((i + 1 : Nat) : Int) < ((L : Nat) : Int)) (pc' := 701) (ls' := [(3, 0), (2, 1), (2, 95), (0, ((i : Nat) : Int))]) (st' := [(0, xs (i + 1)), (2, 1)]) (w' := w) (n' := 142) rfl (by omega) ?_
  refine qG.blk 4 (pc' := 705) (ls' := [(3, 0), (2, 1), (2, 95), (0, ((i : Nat) : Int))]) (st' := [(0, wrp (((i : Nat) : Int) + 2)), (3, 0), (0, xs (i + 1)), (2, 1)]) (w' := w) (n' := 142) rfl ?_
  rw [show wrp (((i : Nat) : Int) + 2) = ((i + 2 : Nat) : Int) from by rw [wrp_id (by omega) (by omega)]; omega]
  refine qG.gd (P := 0 ≤ ((i + 2 : Nat) : Int) ∧ ((i + 2 : Nat) : Int) < ((L : Nat) : Int)) (pc' := 706) (ls' := [(3, 0), (2, 1), (2, 95), (0, ((i : Nat) : Int))]) (st' := [(0, xs (i + 2)), (0, xs (i + 1)), (2, 1)]) (w' := w) (n' := 142) rfl (by omega) ?_
  refine qG.blk 4 (pc' := 710) (ls' := [(3, 0), (2, 1), (2, 95), (0, ((i : Nat) : Int))]) (st' := [(0, wrp (((i : Nat) : Int) + 3)), (3, 0), (0, xs (i + 2)), (0, xs (i + 1)), (2, 1)]) (w' := w) (n' := 142) rfl ?_
  rw [show wrp (((i : Nat) : Int) + 3) = ((i + 3 : Nat) : Int) from by rw [wrp_id (by omega) (by omega)]; omega]
  refine qG.gd (P := 0 ≤ ((i + 3 : Nat) : Int) ∧ ((i + 3 : Nat) : Int) < ((L : Nat) : Int)) (pc' := 711) (ls' := [(3, 0), (2, 1), (2, 95), (0, ((i : Nat) : Int))]) (st' := [(0, xs (i + 3)), (0, xs (i + 2)), (0, xs (i + 1)), (2, 1)]) (w' := w) (n' := 142) rfl (by omega) ?_
  refine qG.blk 4 (pc' := 715) (ls' := [(3, 0), (2, 1), (2, 95), (0, ((i : Nat) : Int))]) (st' := [(0, wrp (((i : Nat) : Int) + 4)), (3, 0), (0, xs (i + 3)), (0, xs (i + 2)), (0, xs (i + 1)), (2, 1)]) (w' := w) (n' := 142) rfl ?_
  rw [show wrp (((i : Nat) : Int) + 4) = ((i + 4 : Nat) : Int) from by rw [wrp_id (by omega) (by omega)]; omega]
  refine qG.gd (P := 0 ≤ ((i + 4 : Nat) : Int) ∧ ((i + 4 : Nat) : Int) < ((L : Nat) : Int)) (pc' := 716) (ls' := [(3, 0), (2, 1), (2, 95), (0, ((i : Nat) : Int))]) (st' := [(0, xs (i + 4)), (0, xs (i + 3)), (0, xs (i + 2)), (0, xs (i + 1)), (2, 1)]) (w' := w) (n' := 142) rfl (by omega) ?_
  refine qG.call (t := 175) (na := 5) (sk := 1) (md := 1) (ls1 := [(2, 1), (0, xs (i + 1)), (0, xs (i + 2)), (0, xs (i + 3)), (0, xs (i + 4))]) (r1 := []) rfl rfl rfl rfl rfl (SP.useA (c := C_X_way.2) (as := [(2, 1), (0, xs (i + 1)), (0, xs (i + 2)), (0, xs (i + 3)), (0, xs (i + 4))]) T_X_way hP (show 9 ≤ d by omega) ⟨⟨rfl, by decide, by decide⟩, ⟨rfl, (hx (i + 1)).1, (hx (i + 1)).2⟩, ⟨rfl, (hx (i + 2)).1, (hx (i + 2)).2⟩, ⟨rfl, (hx (i + 3)).1, (hx (i + 3)).2⟩, ⟨rfl, (hx (i + 4)).1, (hx (i + 4)).2⟩, trivial⟩ rfl rfl (by decide +kernel)) ?_
  rintro _ w1 _ ⟨x1, rfl, -, -, hP1, rfl, hB1, -⟩
  have hJ1 := hJ.aw hB1 (by decide +kernel)
  show qG (some (L, xs)) (d + 1) 305 719 [(3, 0), (2, 1), (2, 95), (0, ((i : Nat) : Int))] [(0, x1)] w1 142 Q9
  refine qG.blk 6 (pc' := 725) (ls' := [(3, 0), (2, 1), (2, 95), (0, ((i : Nat) : Int))]) (st' := [(0, wrp (((i : Nat) : Int) + 1)), (3, 0), (2, 95)]) (w' := w1) (n' := 142) rfl ?_
  rw [show wrp (((i : Nat) : Int) + 1) = ((i + 1 : Nat) : Int) from by rw [wrp_id (by omega) (by omega)]; omega]
  refine qG.gd (P := 0 ≤ ((i + 1 : Nat) : Int) ∧ ((i + 1 : Nat) : Int) < ((L : Nat) : Int)) (pc' := 726) (ls' := [(3, 0), (2, 1), (2, 95), (0, ((i : Nat) : Int))]) (st' := [(0, xs (i + 1)), (2, 95)]) (w' := w1) (n' := 142) rfl (by omega) ?_
  refine qG.blk 4 (pc' := 730) (ls' := [(3, 0), (2, 1), (2, 95), (0, ((i : Nat) : Int))]) (st' := [(0, wrp (((i : Nat) : Int) + 2)), (3, 0), (0, xs (i + 1)), (2, 95)]) (w' := w1) (n' := 142) rfl ?_
  rw [show wrp (((i : Nat) : Int) + 2) = ((i + 2 : Nat) : Int) from by rw [wrp_id (by omega) (by omega)]; omega]
  refine qG.gd (P := 0 ≤ ((i + 2 : Nat) : Int) ∧ ((i + 2 : Nat) : Int) < ((L : Nat) : Int)) (pc' := 731) (ls' := [(3, 0), (2, 1), (2, 95), (0, ((i : Nat) : Int))]) (st' := [(0, xs (i + 2)), (0, xs (i + 1)), (2, 95)]) (w' := w1) (n' := 142) rfl (by omega) ?_
  refine qG.blk 4 (pc' := 735) (ls' := [(3, 0), (2, 1), (2, 95), (0, ((i : Nat) : Int))]) (st' := [(0, wrp (((i : Nat) : Int) + 3)), (3, 0), (0, xs (i + 2)), (0, xs (i + 1)), (2, 95)]) (w' := w1) (n' := 142) rfl ?_
  rw [show wrp (((i : Nat) : Int) + 3) = ((i + 3 : Nat) : Int) from by rw [wrp_id (by omega) (by omega)]; omega]
  refine qG.gd (P := 0 ≤ ((i + 3 : Nat) : Int) ∧ ((i + 3 : Nat) : Int) < ((L : Nat) : Int)) (pc' := 736) (ls' := [(3, 0), (2, 1), (2, 95), (0, ((i : Nat) : Int))]) (st' := [(0, xs (i + 3)), (0, xs (i + 2)), (0, xs (i + 1)), (2, 95)]) (w' := w1) (n' := 142) rfl (by omega) ?_
  refine qG.blk 4 (pc' := 740) (ls' := [(3, 0), (2, 1), (2, 95), (0, ((i : Nat) : Int))]) (st' := [(0, wrp (((i : Nat) : Int) + 4)), (3, 0), (0, xs (i + 3)), (0, xs (i + 2)), (0, xs (i + 1)), (2, 95)]) (w' := w1) (n' := 142) rfl ?_
  rw [show wrp (((i : Nat) : Int) + 4) = ((i + 4 : Nat) : Int) from by rw [wrp_id (by omega) (by omega)]; omega]
  refine qG.gd (P := 0 ≤ ((i + 4 : Nat) : Int) ∧ ((i + 4 : Nat) : Int) < ((L : Nat) : Int)) (pc' := 741) (ls' := [(3, 0), (2, 1), (2, 95), (0, ((i : Nat) : Int))]) (st' := [(0, xs (i + 4)), (0, xs (i + 3)), (0, xs (i + 2)), (0, xs (i + 1)), (2, 95)]) (w' := w1) (n' := 142) rfl (by omega) ?_
  refine qG.call (t := 261) (na := 5) (sk := 1) (md := 1) (ls1 := [(2, 95), (0, xs (i + 1)), (0, xs (i + 2)), (0, xs (i + 3)), (0, xs (i + 4)), (9, 0), (9, 0), (9, 0)]) (r1 := []) rfl rfl rfl rfl rfl (K_way (show _ ≤ d by omega) (xs (i + 1)) (xs (i + 2)) (xs (i + 3)) (xs (i + 4)) w1 hP1.1 hP1.2.1 hP1.2.2.2) ?_
  rintro r2 w2 n2 hq2
  have hP2 := hP1.sq hq2 (by decide +kernel)
  have hJ2 := hJ1.aw hq2.2.2.1 (by decide +kernel)
  obtain ⟨rfl, ⟨x2, rfl⟩, -⟩ := hq2
  show qG (some (L, xs)) (d + 1) 305 744 [(3, 0), (2, 1), (2, 95), (0, ((i : Nat) : Int))] [(0, x2)] w2 142 Q9
  refine qG.blk 2 (pc' := 1610) (ls' := [(3, 0), (2, 1), (2, 95), (0, ((i : Nat) : Int))]) (st' := []) (w' := w2) (n' := 142) rfl ?_
  exact H _ hP2 hJ2
theorem O_12 {L : Nat} {xs : Nat → Int} (hx : ∀ j, -2147483648 ≤ xs j ∧ xs j ≤ 2147483647) (i : Nat) (hi : i + 6 ≤ L) (hL : L ≤ 3072) {d : Nat} (hd : 70 ≤ d) (w : qW) (hP : SP w) (hJ : JW w) {Q9 : qV → qW → Nat → Prop} (H : ∀ w1, SP w1 → JW w1 → qG (some (L, xs)) d 305 1610 [(3, 0), (2, 1), (2, 95), (0, ((i : Nat) : Int))] [] w1 142 Q9) : qG (some (L, xs)) d 305 33 [(3, 0), (2, 1), (2, 95), (0, ((i : Nat) : Int))] [(0, 12)] w 142 Q9 := by
  obtain ⟨d, rfl⟩ : ∃ d9, d = d9 + 1 := ⟨d - 1, by omega⟩
  refine qG.blk 6 (pc' := 753) (ls' := [(3, 0), (2, 1), (2, 95), (0, ((i : Nat) : Int))]) (st' := [(0, wrp (((i : Nat) : Int) + 1)), (3, 0), (2, 1)]) (w' := w) (n' := 142) rfl ?_
  rw [show wrp (((i : Nat) : Int) + 1) = ((i + 1 : Nat) : Int) from by rw [wrp_id (by omega) (by omega)]; omega]
  refine qG.gd (P := 0 ≤ ((i + 1 : Nat) : Int) ∧ ((i + 1 : Nat) : Int) < ((L : Nat) : Int)) (pc' := 754) (ls' := [(3, 0), (2, 1), (2, 95), (0, ((i : Nat) : Int))]) (st' := [(0, xs (i + 1)), (2, 1)]) (w' := w) (n' := 142) rfl (by omega) ?_
  refine qG.blk 4 (pc' := 758) (ls' := [(3, 0), (2, 1), (2, 95), (0, ((i : Nat) : Int))]) (st' := [(0, wrp (((i : Nat) : Int) + 2)), (3, 0), (0, xs (i + 1)), (2, 1)]) (w' := w) (n' := 142) rfl ?_
  rw [show wrp (((i : Nat) : Int) + 2) = ((i + 2 : Nat) : Int) from by rw [wrp_id (by omega) (by omega)]; omega]
  refine qG.gd (P := 0 ≤ ((i + 2 : Nat) : Int) ∧ ((i + 2 : Nat) : Int) < ((L : Nat) : Int)) (pc' := 759) (ls' := [(3, 0), (2, 1), (2, 95), (0, ((i : Nat) : Int))]) (st' := [(0, xs (i + 2)), (0, xs (i + 1)), (2, 1)]) (w' := w) (n' := 142) rfl (by omega) ?_
  refine qG.blk 4 (pc' := 763) (ls' := [(3, 0), (2, 1), (2, 95), (0, ((i : Nat) : Int))]) (st' := [(0, wrp (((i : Nat) : Int) + 3)), (3, 0), (0, xs (i + 2)), (0, xs (i + 1)), (2, 1)]) (w' := w) (n' := 142) rfl ?_
  rw [show wrp (((i : Nat) : Int) + 3) = ((i + 3 : Nat) : Int) from by rw [wrp_id (by omega) (by omega)]; omega]
  refine qG.gd (P := 0 ≤ ((i + 3 : Nat) : Int) ∧ ((i + 3 : Nat) : Int) < ((L : Nat) : Int)) (pc' := 764) (ls' := [(3, 0), (2, 1), (2, 95), (0, ((i : Nat) : Int))]) (st' := [(0, xs (i + 3)), (0, xs (i + 2)), (0, xs (i + 1)), (2, 1)]) (w' := w) (n' := 142) rfl (by omega) ?_
  refine qG.blk 4 (pc' := 768) (ls' := [(3, 0), (2, 1), (2, 95), (0, ((i : Nat) : Int))]) (st' := [(0, wrp (((i : Nat) : Int) + 4)), (3, 0), (0, xs (i + 3)), (0, xs (i + 2)), (0, xs (i + 1)), (2, 1)]) (w' := w) (n' := 142) rfl ?_
  rw [show wrp (((i : Nat) : Int) + 4) = ((i + 4 : Nat) : Int) from by rw [wrp_id (by omega) (by omega)]; omega]
  refine qG.gd (P := 0 ≤ ((i + 4 : Nat) : Int) ∧ ((i + 4 : Nat) : Int) < ((L : Nat) : Int)) (pc' := 769) (ls' := [(3, 0), (2, 1), (2, 95), (0, ((i : Nat) : Int))]) (st' := [(0, xs (i + 4)), (0, xs (i + 3)), (0, xs (i + 2)), (0, xs (i + 1)), (2, 1)]) (w' := w) (n' := 142) rfl (by omega) ?_
  refine qG.blk 4 (pc' := 773) (ls' := [(3, 0), (2, 1), (2, 95), (0, ((i : Nat) : Int))]) (st' := [(0, wrp (((i : Nat) : Int) + 5)), (3, 0), (0, xs (i + 4)), (0, xs (i + 3)), (0, xs (i + 2)), (0, xs (i + 1)), (2, 1)]) (w' := w) (n' := 142) rfl ?_
  rw [show wrp (((i : Nat) : Int) + 5) = ((i + 5 : Nat) : Int) from by rw [wrp_id (by omega) (by omega)]; omega]
  refine qG.gd (P := 0 ≤ ((i + 5 : Nat) : Int) ∧ ((i + 5 : Nat) : Int) < ((L : Nat) : Int)) (pc' := 774) (ls' := [(3, 0), (2, 1), (2, 95), (0, ((i : Nat) : Int))]) (st' := [(0, xs (i + 5)), (0, xs (i + 4)), (0, xs (i + 3)), (0, xs (i + 2)), (0, xs (i + 1)), (2, 1)]) (w' := w) (n' := 142) rfl (by omega) ?_
  refine qG.call (t := 176) (na := 6) (sk := 1) (md := 1) (ls1 := [(2, 1), (0, xs (i + 1)), (0, xs (i + 2)), (0, xs (i + 3)), (0, xs (i + 4)), (0, xs (i + 5))]) (r1 := []) rfl rfl rfl rfl rfl (SP.useA (c := C_X_order.2) (as := [(2, 1), (0, xs (i + 1)), (0, xs (i + 2)), (0, xs (i + 3)), (0, xs (i + 4)), (0, xs (i + 5))]) T_X_order hP (show 19 ≤ d by omega) ⟨⟨rfl, by decide, by decide⟩, ⟨rfl, (hx (i + 1)).1, (hx (i + 1)).2⟩, ⟨rfl, (hx (i + 2)).1, (hx (i + 2)).2⟩, ⟨rfl, (hx (i + 3)).1, (hx (i + 3)).2⟩, ⟨rfl, (hx (i + 4)).1, (hx (i + 4)).2⟩, ⟨rfl, (hx (i + 5)).1, (hx (i + 5)).2⟩, trivial⟩ rfl rfl (by decide +kernel)) ?_
  rintro _ w1 _ ⟨x1, rfl, -, -, hP1, rfl, hB1, -⟩
  have hJ1 := hJ.aw hB1 (by decide +kernel)
  show qG (some (L, xs)) (d + 1) 305 777 [(3, 0), (2, 1), (2, 95), (0, ((i : Nat) : Int))] [(0, x1)] w1 142 Q9
  refine qG.blk 6 (pc' := 783) (ls' := [(3, 0), (2, 1), (2, 95), (0, ((i : Nat) : Int))]) (st' := [(0, wrp (((i : Nat) : Int) + 1)), (3, 0), (2, 95)]) (w' := w1) (n' := 142) rfl ?_
  rw [show wrp (((i : Nat) : Int) + 1) = ((i + 1 : Nat) : Int) from by rw [wrp_id (by omega) (by omega)]; omega]
  refine qG.gd (P := 0 ≤ ((i + 1 : Nat) : Int) ∧ ((i + 1 : Nat) : Int) < ((L : Nat) : Int)) (pc' := 784) (ls' := [(3, 0), (2, 1), (2, 95), (0, ((i : Nat) : Int))]) (st' := [(0, xs (i + 1)), (2, 95)]) (w' := w1) (n' := 142) rfl (by omega) ?_
  refine qG.blk 4 (pc' := 788) (ls' := [(3, 0), (2, 1), (2, 95), (0, ((i : Nat) : Int))]) (st' := [(0, wrp (((i : Nat) : Int) + 2)), (3, 0), (0, xs (i + 1)), (2, 95)]) (w' := w1) (n' := 142) rfl ?_
  rw [show wrp (((i : Nat) : Int) + 2) = ((i + 2 : Nat) : Int) from by rw [wrp_id (by omega) (by omega)]; omega]
  refine qG.gd (P := 0 ≤ ((i + 2 : Nat) : Int) ∧ ((i + 2 : Nat) : Int) < ((L : Nat) : Int)) (pc' := 789) (ls' := [(3, 0), (2, 1), (2, 95), (0, ((i : Nat) : Int))]) (st' := [(0, xs (i + 2)), (0, xs (i + 1)), (2, 95)]) (w' := w1) (n' := 142) rfl (by omega) ?_
  refine qG.blk 4 (pc' := 793) (ls' := [(3, 0), (2, 1), (2, 95), (0, ((i : Nat) : Int))]) (st' := [(0, wrp (((i : Nat) : Int) + 3)), (3, 0), (0, xs (i + 2)), (0, xs (i + 1)), (2, 95)]) (w' := w1) (n' := 142) rfl ?_
  rw [show wrp (((i : Nat) : Int) + 3) = ((i + 3 : Nat) : Int) from by rw [wrp_id (by omega) (by omega)]; omega]
  refine qG.gd (P := 0 ≤ ((i + 3 : Nat) : Int) ∧ ((i + 3 : Nat) : Int) < ((L : Nat) : Int)) (pc' := 794) (ls' := [(3, 0), (2, 1), (2, 95), (0, ((i : Nat) : Int))]) (st' := [(0, xs (i + 3)), (0, xs (i + 2)), (0, xs (i + 1)), (2, 95)]) (w' := w1) (n' := 142) rfl (by omega) ?_
  refine qG.blk 4 (pc' := 798) (ls' := [(3, 0), (2, 1), (2, 95), (0, ((i : Nat) : Int))]) (st' := [(0, wrp (((i : Nat) : Int) + 4)), (3, 0), (0, xs (i + 3)), (0, xs (i + 2)), (0, xs (i + 1)), (2, 95)]) (w' := w1) (n' := 142) rfl ?_
  rw [show wrp (((i : Nat) : Int) + 4) = ((i + 4 : Nat) : Int) from by rw [wrp_id (by omega) (by omega)]; omega]
  refine qG.gd (P := 0 ≤ ((i + 4 : Nat) : Int) ∧ ((i + 4 : Nat) : Int) < ((L : Nat) : Int)) (pc' := 799) (ls' := [(3, 0), (2, 1), (2, 95), (0, ((i : Nat) : Int))]) (st' := [(0, xs (i + 4)), (0, xs (i + 3)), (0, xs (i + 2)), (0, xs (i + 1)), (2, 95)]) (w' := w1) (n' := 142) rfl (by omega) ?_
  refine qG.blk 4 (pc' := 803) (ls' := [(3, 0), (2, 1), (2, 95), (0, ((i : Nat) : Int))]) (st' := [(0, wrp (((i : Nat) : Int) + 5)), (3, 0), (0, xs (i + 4)), (0, xs (i + 3)), (0, xs (i + 2)), (0, xs (i + 1)), (2, 95)]) (w' := w1) (n' := 142) rfl ?_
  rw [show wrp (((i : Nat) : Int) + 5) = ((i + 5 : Nat) : Int) from by rw [wrp_id (by omega) (by omega)]; omega]
  refine qG.gd (P := 0 ≤ ((i + 5 : Nat) : Int) ∧ ((i + 5 : Nat) : Int) < ((L : Nat) : Int)) (pc' := 804) (ls' := [(3, 0), (2, 1), (2, 95), (0, ((i : Nat) : Int))]) (st' := [(0, xs (i + 5)), (0, xs (i + 4)), (0, xs (i + 3)), (0, xs (i + 2)), (0, xs (i + 1)), (2, 95)]) (w' := w1) (n' := 142) rfl (by omega) ?_
  refine qG.call (t := 263) (na := 6) (sk := 1) (md := 1) (ls1 := [(2, 95), (0, xs (i + 1)), (0, xs (i + 2)), (0, xs (i + 3)), (0, xs (i + 4)), (0, xs (i + 5))]) (r1 := []) rfl rfl rfl rfl rfl (K_order (show _ ≤ d by omega) (xs (i + 1)) (xs (i + 2)) (xs (i + 3)) (xs (i + 4)) (xs (i + 5)) w1 hP1.1 hP1.2.2.2) ?_
  rintro r2 w2 n2 hq2
  have hP2 := hP1.sq hq2 (by decide +kernel)
  have hJ2 := hJ1.aw hq2.2.2.1 (by decide +kernel)
  obtain ⟨rfl, ⟨x2, rfl⟩, -⟩ := hq2
  show qG (some (L, xs)) (d + 1) 305 807 [(3, 0), (2, 1), (2, 95), (0, ((i : Nat) : Int))] [(0, x2)] w2 142 Q9
  refine qG.blk 2 (pc' := 1610) (ls' := [(3, 0), (2, 1), (2, 95), (0, ((i : Nat) : Int))]) (st' := []) (w' := w2) (n' := 142) rfl ?_
  exact H _ hP2 hJ2
theorem O_13 {L : Nat} {xs : Nat → Int} (hx : ∀ j, -2147483648 ≤ xs j ∧ xs j ≤ 2147483647) (i : Nat) (hi : i + 6 ≤ L) (hL : L ≤ 3072) {d : Nat} (hd : 70 ≤ d) (w : qW) (hP : SP w) (hJ : JW w) {Q9 : qV → qW → Nat → Prop} (H : ∀ w1, SP w1 → JW w1 → qG (some (L, xs)) d 305 1610 [(3, 0), (2, 1), (2, 95), (0, ((i : Nat) : Int))] [] w1 142 Q9) : qG (some (L, xs)) d 305 33 [(3, 0), (2, 1), (2, 95), (0, ((i : Nat) : Int))] [(0, 13)] w 142 Q9 := by
  obtain ⟨d, rfl⟩ : ∃ d9, d = d9 + 1 := ⟨d - 1, by omega⟩
  refine qG.blk 6 (pc' := 816) (ls' := [(3, 0), (2, 1), (2, 95), (0, ((i : Nat) : Int))]) (st' := [(0, wrp (((i : Nat) : Int) + 1)), (3, 0), (2, 1)]) (w' := w) (n' := 142) rfl ?_
  rw [show wrp (((i : Nat) : Int) + 1) = ((i + 1 : Nat) : Int) from by rw [wrp_id (by omega) (by omega)]; omega]
  refine qG.gd (P := 0 ≤ ((i + 1 : Nat) : Int) ∧ ((i + 1 : Nat) : Int) < ((L : Nat) : Int)) (pc' := 817) (ls' := [(3, 0), (2, 1), (2, 95), (0, ((i : Nat) : Int))]) (st' := [(0, xs (i + 1)), (2, 1)]) (w' := w) (n' := 142) rfl (by omega) ?_
  refine qG.blk 4 (pc' := 821) (ls' := [(3, 0), (2, 1), (2, 95), (0, ((i : Nat) : Int))]) (st' := [(0, wrp (((i : Nat) : Int) + 2)), (3, 0), (0, xs (i + 1)), (2, 1)]) (w' := w) (n' := 142) rfl ?_
  rw [show wrp (((i : Nat) : Int) + 2) = ((i + 2 : Nat) : Int) from by rw [wrp_id (by omega) (by omega)]; omega]
  refine qG.gd (P := 0 ≤ ((i + 2 : Nat) : Int) ∧ ((i + 2 : Nat) : Int) < ((L : Nat) : Int)) (pc' := 822) (ls' := [(3, 0), (2, 1), (2, 95), (0, ((i : Nat) : Int))]) (st' := [(0, xs (i + 2)), (0, xs (i + 1)), (2, 1)]) (w' := w) (n' := 142) rfl (by omega) ?_
  refine qG.blk 4 (pc' := 826) (ls' := [(3, 0), (2, 1), (2, 95), (0, ((i : Nat) : Int))]) (st' := [(0, wrp (((i : Nat) : Int) + 3)), (3, 0), (0, xs (i + 2)), (0, xs (i + 1)), (2, 1)]) (w' := w) (n' := 142) rfl ?_
  rw [show wrp (((i : Nat) : Int) + 3) = ((i + 3 : Nat) : Int) from by rw [wrp_id (by omega) (by omega)]; omega]
  refine qG.gd (P := 0 ≤ ((i + 3 : Nat) : Int) ∧ ((i + 3 : Nat) : Int) < ((L : Nat) : Int)) (pc' := 827) (ls' := [(3, 0), (2, 1), (2, 95), (0, ((i : Nat) : Int))]) (st' := [(0, xs (i + 3)), (0, xs (i + 2)), (0, xs (i + 1)), (2, 1)]) (w' := w) (n' := 142) rfl (by omega) ?_
  refine qG.call (t := 177) (na := 4) (sk := 1) (md := 1) (ls1 := [(2, 1), (0, xs (i + 1)), (0, xs (i + 2)), (0, xs (i + 3))]) (r1 := []) rfl rfl rfl rfl rfl (SP.useA (c := C_X_proof.2) (as := [(2, 1), (0, xs (i + 1)), (0, xs (i + 2)), (0, xs (i + 3))]) T_X_proof hP (show 9 ≤ d by omega) ⟨⟨rfl, by decide, by decide⟩, ⟨rfl, (hx (i + 1)).1, (hx (i + 1)).2⟩, ⟨rfl, (hx (i + 2)).1, (hx (i + 2)).2⟩, ⟨rfl, (hx (i + 3)).1, (hx (i + 3)).2⟩, trivial⟩ rfl rfl (by decide +kernel)) ?_
  rintro _ w1 _ ⟨x1, rfl, -, -, hP1, rfl, hB1, -⟩
  have hJ1 := hJ.aw hB1 (by decide +kernel)
  show qG (some (L, xs)) (d + 1) 305 830 [(3, 0), (2, 1), (2, 95), (0, ((i : Nat) : Int))] [(0, x1)] w1 142 Q9
  refine qG.blk 6 (pc' := 836) (ls' := [(3, 0), (2, 1), (2, 95), (0, ((i : Nat) : Int))]) (st' := [(0, wrp (((i : Nat) : Int) + 1)), (3, 0), (2, 95)]) (w' := w1) (n' := 142) rfl ?_
  rw [show wrp (((i : Nat) : Int) + 1) = ((i + 1 : Nat) : Int) from by rw [wrp_id (by omega) (by omega)]; omega]
  refine qG.gd (P := 0 ≤ ((i + 1 : Nat) : Int) ∧ ((i + 1 : Nat) : Int) < ((L : Nat) : Int)) (pc' := 837) (ls' := [(3, 0), (2, 1), (2, 95), (0, ((i : Nat) : Int))]) (st' := [(0, xs (i + 1)), (2, 95)]) (w' := w1) (n' := 142) rfl (by omega) ?_
  refine qG.blk 4 (pc' := 841) (ls' := [(3, 0), (2, 1), (2, 95), (0, ((i : Nat) : Int))]) (st' := [(0, wrp (((i : Nat) : Int) + 2)), (3, 0), (0, xs (i + 1)), (2, 95)]) (w' := w1) (n' := 142) rfl ?_
  rw [show wrp (((i : Nat) : Int) + 2) = ((i + 2 : Nat) : Int) from by rw [wrp_id (by omega) (by omega)]; omega]
  refine qG.gd (P := 0 ≤ ((i + 2 : Nat) : Int) ∧ ((i + 2 : Nat) : Int) < ((L : Nat) : Int)) (pc' := 842) (ls' := [(3, 0), (2, 1), (2, 95), (0, ((i : Nat) : Int))]) (st' := [(0, xs (i + 2)), (0, xs (i + 1)), (2, 95)]) (w' := w1) (n' := 142) rfl (by omega) ?_
  refine qG.blk 4 (pc' := 846) (ls' := [(3, 0), (2, 1), (2, 95), (0, ((i : Nat) : Int))]) (st' := [(0, wrp (((i : Nat) : Int) + 3)), (3, 0), (0, xs (i + 2)), (0, xs (i + 1)), (2, 95)]) (w' := w1) (n' := 142) rfl ?_
  rw [show wrp (((i : Nat) : Int) + 3) = ((i + 3 : Nat) : Int) from by rw [wrp_id (by omega) (by omega)]; omega]
  refine qG.gd (P := 0 ≤ ((i + 3 : Nat) : Int) ∧ ((i + 3 : Nat) : Int) < ((L : Nat) : Int)) (pc' := 847) (ls' := [(3, 0), (2, 1), (2, 95), (0, ((i : Nat) : Int))]) (st' := [(0, xs (i + 3)), (0, xs (i + 2)), (0, xs (i + 1)), (2, 95)]) (w' := w1) (n' := 142) rfl (by omega) ?_
  refine qG.call (t := 264) (na := 4) (sk := 1) (md := 1) (ls1 := [(2, 95), (0, xs (i + 1)), (0, xs (i + 2)), (0, xs (i + 3)), (9, 0), (9, 0), (9, 0), (9, 0), (9, 0)]) (r1 := []) rfl rfl rfl rfl rfl (K_proof (show _ ≤ d by omega) (xs (i + 1)) (xs (i + 2)) (xs (i + 3)) w1 hP1.1 hP1.2.2.2) ?_
  rintro r2 w2 n2 hq2
  have hP2 := hP1.sq hq2 (by decide +kernel)
  have hJ2 := hJ1.aw hq2.2.2.1 (by decide +kernel)
  obtain ⟨rfl, ⟨x2, rfl⟩, -⟩ := hq2
  show qG (some (L, xs)) (d + 1) 305 850 [(3, 0), (2, 1), (2, 95), (0, ((i : Nat) : Int))] [(0, x2)] w2 142 Q9
  refine qG.blk 2 (pc' := 1610) (ls' := [(3, 0), (2, 1), (2, 95), (0, ((i : Nat) : Int))]) (st' := []) (w' := w2) (n' := 142) rfl ?_
  exact H _ hP2 hJ2
theorem O_14 {L : Nat} {xs : Nat → Int} (hx : ∀ j, -2147483648 ≤ xs j ∧ xs j ≤ 2147483647) (i : Nat) (hi : i + 6 ≤ L) (hL : L ≤ 3072) {d : Nat} (hd : 70 ≤ d) (w : qW) (hP : SP w) (hJ : JW w) {Q9 : qV → qW → Nat → Prop} (H : ∀ w1, SP w1 → JW w1 → qG (some (L, xs)) d 305 1610 [(3, 0), (2, 1), (2, 95), (0, ((i : Nat) : Int))] [] w1 142 Q9) : qG (some (L, xs)) d 305 33 [(3, 0), (2, 1), (2, 95), (0, ((i : Nat) : Int))] [(0, 14)] w 142 Q9 := by
  obtain ⟨d, rfl⟩ : ∃ d9, d = d9 + 1 := ⟨d - 1, by omega⟩
  refine qG.blk 6 (pc' := 859) (ls' := [(3, 0), (2, 1), (2, 95), (0, ((i : Nat) : Int))]) (st' := [(0, wrp (((i : Nat) : Int) + 1)), (3, 0), (2, 1)]) (w' := w) (n' := 142) rfl ?_
  rw [show wrp (((i : Nat) : Int) + 1) = ((i + 1 : Nat) : Int) from by rw [wrp_id (by omega) (by omega)]; omega]
  refine qG.gd (P := 0 ≤ ((i + 1 : Nat) : Int) ∧ ((i + 1 : Nat) : Int) < ((L : Nat) : Int)) (pc' := 860) (ls' := [(3, 0), (2, 1), (2, 95), (0, ((i : Nat) : Int))]) (st' := [(0, xs (i + 1)), (2, 1)]) (w' := w) (n' := 142) rfl (by omega) ?_
  refine qG.call (t := 178) (na := 2) (sk := 1) (md := 1) (ls1 := [(2, 1), (0, xs (i + 1))]) (r1 := []) rfl rfl rfl rfl rfl (SP.useA (c := C_X_reason.2) (as := [(2, 1), (0, xs (i + 1))]) T_X_reason hP (show 27 ≤ d by omega) ⟨⟨rfl, by decide, by decide⟩, ⟨rfl, (hx (i + 1)).1, (hx (i + 1)).2⟩, trivial⟩ rfl rfl (by decide +kernel)) ?_
  rintro _ w1 _ ⟨x1, rfl, -, -, hP1, rfl, hB1, -⟩
  have hJ1 := hJ.aw hB1 (by decide +kernel)
  show qG (some (L, xs)) (d + 1) 305 863 [(3, 0), (2, 1), (2, 95), (0, ((i : Nat) : Int))] [(0, x1)] w1 142 Q9
  refine qG.blk 6 (pc' := 869) (ls' := [(3, 0), (2, 1), (2, 95), (0, ((i : Nat) : Int))]) (st' := [(0, wrp (((i : Nat) : Int) + 1)), (3, 0), (2, 95)]) (w' := w1) (n' := 142) rfl ?_
  rw [show wrp (((i : Nat) : Int) + 1) = ((i + 1 : Nat) : Int) from by rw [wrp_id (by omega) (by omega)]; omega]
  refine qG.gd (P := 0 ≤ ((i + 1 : Nat) : Int) ∧ ((i + 1 : Nat) : Int) < ((L : Nat) : Int)) (pc' := 870) (ls' := [(3, 0), (2, 1), (2, 95), (0, ((i : Nat) : Int))]) (st' := [(0, xs (i + 1)), (2, 95)]) (w' := w1) (n' := 142) rfl (by omega) ?_
  refine qG.call (t := 270) (na := 2) (sk := 1) (md := 1) (ls1 := [(2, 95), (0, xs (i + 1))]) (r1 := []) rfl rfl rfl rfl rfl (K_reason (show _ ≤ d by omega) (xs (i + 1)) w1 hP1.1 hP1.2.1 hP1.2.2.1 hP1.2.2.2) ?_
  rintro r2 w2 n2 hq2
  have hP2 := hP1.sq hq2 (by decide +kernel)
  have hJ2 := hJ1.aw hq2.2.2.1 (by decide +kernel)
  obtain ⟨rfl, ⟨x2, rfl⟩, -⟩ := hq2
  show qG (some (L, xs)) (d + 1) 305 873 [(3, 0), (2, 1), (2, 95), (0, ((i : Nat) : Int))] [(0, x2)] w2 142 Q9
  refine qG.blk 2 (pc' := 1610) (ls' := [(3, 0), (2, 1), (2, 95), (0, ((i : Nat) : Int))]) (st' := []) (w' := w2) (n' := 142) rfl ?_
  exact H _ hP2 hJ2
theorem O_15 {L : Nat} {xs : Nat → Int} (hx : ∀ j, -2147483648 ≤ xs j ∧ xs j ≤ 2147483647) (i : Nat) (hi : i + 6 ≤ L) (hL : L ≤ 3072) {d : Nat} (hd : 70 ≤ d) (w : qW) (hP : SP w) (hJ : JW w) {Q9 : qV → qW → Nat → Prop} (H : ∀ w1, SP w1 → JW w1 → qG (some (L, xs)) d 305 1610 [(3, 0), (2, 1), (2, 95), (0, ((i : Nat) : Int))] [] w1 142 Q9) : qG (some (L, xs)) d 305 33 [(3, 0), (2, 1), (2, 95), (0, ((i : Nat) : Int))] [(0, 15)] w 142 Q9 := by
  obtain ⟨d, rfl⟩ : ∃ d9, d = d9 + 1 := ⟨d - 1, by omega⟩
  refine qG.blk 6 (pc' := 882) (ls' := [(3, 0), (2, 1), (2, 95), (0, ((i : Nat) : Int))]) (st' := [(0, wrp (((i : Nat) : Int) + 1)), (3, 0), (2, 1)]) (w' := w) (n' := 142) rfl ?_
  rw [show wrp (((i : Nat) : Int) + 1) = ((i + 1 : Nat) : Int) from by rw [wrp_id (by omega) (by omega)]; omega]
  refine qG.gd (P := 0 ≤ ((i + 1 : Nat) : Int) ∧ ((i + 1 : Nat) : Int) < ((L : Nat) : Int)) (pc' := 883) (ls' := [(3, 0), (2, 1), (2, 95), (0, ((i : Nat) : Int))]) (st' := [(0, xs (i + 1)), (2, 1)]) (w' := w) (n' := 142) rfl (by omega) ?_
  refine qG.call (t := 179) (na := 2) (sk := 1) (md := 1) (ls1 := [(2, 1), (0, xs (i + 1)), (9, 0), (9, 0), (9, 0)]) (r1 := []) rfl rfl rfl rfl rfl (SP.useA (c := C_X_pamphlet.2) (as := [(2, 1), (0, xs (i + 1))]) T_X_pamphlet hP (show 27 ≤ d by omega) ⟨⟨rfl, by decide, by decide⟩, ⟨rfl, (hx (i + 1)).1, (hx (i + 1)).2⟩, trivial⟩ rfl rfl (by decide +kernel)) ?_
  rintro _ w1 _ ⟨x1, rfl, -, -, hP1, rfl, hB1, -⟩
  have hJ1 := hJ.aw hB1 (by decide +kernel)
  show qG (some (L, xs)) (d + 1) 305 886 [(3, 0), (2, 1), (2, 95), (0, ((i : Nat) : Int))] [(0, x1)] w1 142 Q9
  refine qG.blk 6 (pc' := 892) (ls' := [(3, 0), (2, 1), (2, 95), (0, ((i : Nat) : Int))]) (st' := [(0, wrp (((i : Nat) : Int) + 1)), (3, 0), (2, 95)]) (w' := w1) (n' := 142) rfl ?_
  rw [show wrp (((i : Nat) : Int) + 1) = ((i + 1 : Nat) : Int) from by rw [wrp_id (by omega) (by omega)]; omega]
  refine qG.gd (P := 0 ≤ ((i + 1 : Nat) : Int) ∧ ((i + 1 : Nat) : Int) < ((L : Nat) : Int)) (pc' := 893) (ls' := [(3, 0), (2, 1), (2, 95), (0, ((i : Nat) : Int))]) (st' := [(0, xs (i + 1)), (2, 95)]) (w' := w1) (n' := 142) rfl (by omega) ?_
  refine qG.call (t := 271) (na := 2) (sk := 1) (md := 1) (ls1 := [(2, 95), (0, xs (i + 1)), (9, 0), (9, 0), (9, 0)]) (r1 := []) rfl rfl rfl rfl rfl (K_pamphlet (show _ ≤ d by omega) (xs (i + 1)) w1 hP1.1 hP1.2.1 hP1.2.2.1 hP1.2.2.2) ?_
  rintro r2 w2 n2 hq2
  have hP2 := hP1.sq hq2 (by decide +kernel)
  have hJ2 := hJ1.aw hq2.2.2.1 (by decide +kernel)
  obtain ⟨rfl, ⟨x2, rfl⟩, -⟩ := hq2
  show qG (some (L, xs)) (d + 1) 305 896 [(3, 0), (2, 1), (2, 95), (0, ((i : Nat) : Int))] [(0, x2)] w2 142 Q9
  refine qG.blk 2 (pc' := 1610) (ls' := [(3, 0), (2, 1), (2, 95), (0, ((i : Nat) : Int))]) (st' := []) (w' := w2) (n' := 142) rfl ?_
  exact H _ hP2 hJ2
theorem O_16 {L : Nat} {xs : Nat → Int} (hx : ∀ j, -2147483648 ≤ xs j ∧ xs j ≤ 2147483647) (i : Nat) (hi : i + 6 ≤ L) (hL : L ≤ 3072) {d : Nat} (hd : 70 ≤ d) (w : qW) (hP : SP w) (hJ : JW w) {Q9 : qV → qW → Nat → Prop} (H : ∀ w1, SP w1 → JW w1 → qG (some (L, xs)) d 305 1610 [(3, 0), (2, 1), (2, 95), (0, ((i : Nat) : Int))] [] w1 142 Q9) : qG (some (L, xs)) d 305 33 [(3, 0), (2, 1), (2, 95), (0, ((i : Nat) : Int))] [(0, 16)] w 142 Q9 := by
  obtain ⟨d, rfl⟩ : ∃ d9, d = d9 + 1 := ⟨d - 1, by omega⟩
  refine qG.blk 6 (pc' := 905) (ls' := [(3, 0), (2, 1), (2, 95), (0, ((i : Nat) : Int))]) (st' := [(0, wrp (((i : Nat) : Int) + 1)), (3, 0), (2, 1)]) (w' := w) (n' := 142) rfl ?_
  rw [show wrp (((i : Nat) : Int) + 1) = ((i + 1 : Nat) : Int) from by rw [wrp_id (by omega) (by omega)]; omega]
  refine qG.gd (P := 0 ≤ ((i + 1 : Nat) : Int) ∧ ((i + 1 : Nat) : Int) < ((L : Nat) : Int)) (pc' := 906) (ls' := [(3, 0), (2, 1), (2, 95), (0, ((i : Nat) : Int))]) (st' := [(0, xs (i + 1)), (2, 1)]) (w' := w) (n' := 142) rfl (by omega) ?_
  refine qG.blk 4 (pc' := 910) (ls' := [(3, 0), (2, 1), (2, 95), (0, ((i : Nat) : Int))]) (st' := [(0, wrp (((i : Nat) : Int) + 2)), (3, 0), (0, xs (i + 1)), (2, 1)]) (w' := w) (n' := 142) rfl ?_
  rw [show wrp (((i : Nat) : Int) + 2) = ((i + 2 : Nat) : Int) from by rw [wrp_id (by omega) (by omega)]; omega]
  refine qG.gd (P := 0 ≤ ((i + 2 : Nat) : Int) ∧ ((i + 2 : Nat) : Int) < ((L : Nat) : Int)) (pc' := 911) (ls' := [(3, 0), (2, 1), (2, 95), (0, ((i : Nat) : Int))]) (st' := [(0, xs (i + 2)), (0, xs (i + 1)), (2, 1)]) (w' := w) (n' := 142) rfl (by omega) ?_
  refine qG.blk 4 (pc' := 915) (ls' := [(3, 0), (2, 1), (2, 95), (0, ((i : Nat) : Int))]) (st' := [(0, wrp (((i : Nat) : Int) + 3)), (3, 0), (0, xs (i + 2)), (0, xs (i + 1)), (2, 1)]) (w' := w) (n' := 142) rfl ?_
  rw [show wrp (((i : Nat) : Int) + 3) = ((i + 3 : Nat) : Int) from by rw [wrp_id (by omega) (by omega)]; omega]
  refine qG.gd (P := 0 ≤ ((i + 3 : Nat) : Int) ∧ ((i + 3 : Nat) : Int) < ((L : Nat) : Int)) (pc' := 916) (ls' := [(3, 0), (2, 1), (2, 95), (0, ((i : Nat) : Int))]) (st' := [(0, xs (i + 3)), (0, xs (i + 2)), (0, xs (i + 1)), (2, 1)]) (w' := w) (n' := 142) rfl (by omega) ?_
  refine qG.call (t := 180) (na := 4) (sk := 1) (md := 1) (ls1 := [(2, 1), (0, xs (i + 1)), (0, xs (i + 2)), (0, xs (i + 3))]) (r1 := []) rfl rfl rfl rfl rfl (SP.useA (c := C_X_air.2) (as := [(2, 1), (0, xs (i + 1)), (0, xs (i + 2)), (0, xs (i + 3))]) T_X_air hP (show 3 ≤ d by omega) ⟨⟨rfl, by decide, by decide⟩, ⟨rfl, (hx (i + 1)).1, (hx (i + 1)).2⟩, ⟨rfl, (hx (i + 2)).1, (hx (i + 2)).2⟩, ⟨rfl, (hx (i + 3)).1, (hx (i + 3)).2⟩, trivial⟩ rfl rfl (by decide +kernel)) ?_
  rintro _ w1 _ ⟨x1, rfl, -, -, hP1, rfl, hB1, -⟩
  have hJ1 := hJ.aw hB1 (by decide +kernel)
  show qG (some (L, xs)) (d + 1) 305 919 [(3, 0), (2, 1), (2, 95), (0, ((i : Nat) : Int))] [(0, x1)] w1 142 Q9
  refine qG.blk 6 (pc' := 925) (ls' := [(3, 0), (2, 1), (2, 95), (0, ((i : Nat) : Int))]) (st' := [(0, wrp (((i : Nat) : Int) + 1)), (3, 0), (2, 95)]) (w' := w1) (n' := 142) rfl ?_
  rw [show wrp (((i : Nat) : Int) + 1) = ((i + 1 : Nat) : Int) from by rw [wrp_id (by omega) (by omega)]; omega]
  refine qG.gd (P := 0 ≤ ((i + 1 : Nat) : Int) ∧ ((i + 1 : Nat) : Int) < ((L : Nat) : Int)) (pc' := 926) (ls' := [(3, 0), (2, 1), (2, 95), (0, ((i : Nat) : Int))]) (st' := [(0, xs (i + 1)), (2, 95)]) (w' := w1) (n' := 142) rfl (by omega) ?_
  refine qG.blk 4 (pc' := 930) (ls' := [(3, 0), (2, 1), (2, 95), (0, ((i : Nat) : Int))]) (st' := [(0, wrp (((i : Nat) : Int) + 2)), (3, 0), (0, xs (i + 1)), (2, 95)]) (w' := w1) (n' := 142) rfl ?_
  rw [show wrp (((i : Nat) : Int) + 2) = ((i + 2 : Nat) : Int) from by rw [wrp_id (by omega) (by omega)]; omega]
  refine qG.gd (P := 0 ≤ ((i + 2 : Nat) : Int) ∧ ((i + 2 : Nat) : Int) < ((L : Nat) : Int)) (pc' := 931) (ls' := [(3, 0), (2, 1), (2, 95), (0, ((i : Nat) : Int))]) (st' := [(0, xs (i + 2)), (0, xs (i + 1)), (2, 95)]) (w' := w1) (n' := 142) rfl (by omega) ?_
  refine qG.blk 4 (pc' := 935) (ls' := [(3, 0), (2, 1), (2, 95), (0, ((i : Nat) : Int))]) (st' := [(0, wrp (((i : Nat) : Int) + 3)), (3, 0), (0, xs (i + 2)), (0, xs (i + 1)), (2, 95)]) (w' := w1) (n' := 142) rfl ?_
  rw [show wrp (((i : Nat) : Int) + 3) = ((i + 3 : Nat) : Int) from by rw [wrp_id (by omega) (by omega)]; omega]
  refine qG.gd (P := 0 ≤ ((i + 3 : Nat) : Int) ∧ ((i + 3 : Nat) : Int) < ((L : Nat) : Int)) (pc' := 936) (ls' := [(3, 0), (2, 1), (2, 95), (0, ((i : Nat) : Int))]) (st' := [(0, xs (i + 3)), (0, xs (i + 2)), (0, xs (i + 1)), (2, 95)]) (w' := w1) (n' := 142) rfl (by omega) ?_
  refine qG.call (t := 273) (na := 4) (sk := 1) (md := 1) (ls1 := [(2, 95), (0, xs (i + 1)), (0, xs (i + 2)), (0, xs (i + 3)), (9, 0), (9, 0)]) (r1 := []) rfl rfl rfl rfl rfl (SP.useA (c := C_R_air.2) (as := [(2, 95), (0, xs (i + 1)), (0, xs (i + 2)), (0, xs (i + 3))]) T_R_air hP1 (show 2 ≤ d by omega) ⟨⟨rfl, by decide, by decide⟩, ⟨rfl, (hx (i + 1)).1, (hx (i + 1)).2⟩, ⟨rfl, (hx (i + 2)).1, (hx (i + 2)).2⟩, ⟨rfl, (hx (i + 3)).1, (hx (i + 3)).2⟩, trivial⟩ rfl rfl (by decide +kernel)) ?_
  rintro _ w2 _ ⟨x2, rfl, -, -, hP2, rfl, hB2, -⟩
  have hJ2 := hJ1.aw hB2 (by decide +kernel)
  show qG (some (L, xs)) (d + 1) 305 939 [(3, 0), (2, 1), (2, 95), (0, ((i : Nat) : Int))] [(0, x2)] w2 142 Q9
  refine qG.blk 2 (pc' := 1610) (ls' := [(3, 0), (2, 1), (2, 95), (0, ((i : Nat) : Int))]) (st' := []) (w' := w2) (n' := 142) rfl ?_
  exact H _ hP2 hJ2
theorem O_17 {L : Nat} {xs : Nat → Int} (hx : ∀ j, -2147483648 ≤ xs j ∧ xs j ≤ 2147483647) (i : Nat) (hi : i + 6 ≤ L) (hL : L ≤ 3072) {d : Nat} (hd : 70 ≤ d) (w : qW) (hP : SP w) (hJ : JW w) {Q9 : qV → qW → Nat → Prop} (H : ∀ w1, SP w1 → JW w1 → qG (some (L, xs)) d 305 1610 [(3, 0), (2, 1), (2, 95), (0, ((i : Nat) : Int))] [] w1 142 Q9) : qG (some (L, xs)) d 305 33 [(3, 0), (2, 1), (2, 95), (0, ((i : Nat) : Int))] [(0, 17)] w 142 Q9 := by
  obtain ⟨d, rfl⟩ : ∃ d9, d = d9 + 1 := ⟨d - 1, by omega⟩
  refine qG.blk 6 (pc' := 948) (ls' := [(3, 0), (2, 1), (2, 95), (0, ((i : Nat) : Int))]) (st' := [(0, wrp (((i : Nat) : Int) + 1)), (3, 0), (2, 1)]) (w' := w) (n' := 142) rfl ?_
  rw [show wrp (((i : Nat) : Int) + 1) = ((i + 1 : Nat) : Int) from by rw [wrp_id (by omega) (by omega)]; omega]
  refine qG.gd (P := 0 ≤ ((i + 1 : Nat) : Int) ∧ ((i + 1 : Nat) : Int) < ((L : Nat) : Int)) (pc' := 949) (ls' := [(3, 0), (2, 1), (2, 95), (0, ((i : Nat) : Int))]) (st' := [(0, xs (i + 1)), (2, 1)]) (w' := w) (n' := 142) rfl (by omega) ?_
  refine qG.blk 4 (pc' := 953) (ls' := [(3, 0), (2, 1), (2, 95), (0, ((i : Nat) : Int))]) (st' := [(0, wrp (((i : Nat) : Int) + 2)), (3, 0), (0, xs (i + 1)), (2, 1)]) (w' := w) (n' := 142) rfl ?_
  rw [show wrp (((i : Nat) : Int) + 2) = ((i + 2 : Nat) : Int) from by rw [wrp_id (by omega) (by omega)]; omega]
  refine qG.gd (P := 0 ≤ ((i + 2 : Nat) : Int) ∧ ((i + 2 : Nat) : Int) < ((L : Nat) : Int)) (pc' := 954) (ls' := [(3, 0), (2, 1), (2, 95), (0, ((i : Nat) : Int))]) (st' := [(0, xs (i + 2)), (0, xs (i + 1)), (2, 1)]) (w' := w) (n' := 142) rfl (by omega) ?_
  refine qG.call (t := 181) (na := 3) (sk := 1) (md := 1) (ls1 := [(2, 1), (0, xs (i + 1)), (0, xs (i + 2))]) (r1 := []) rfl rfl rfl rfl rfl (SP.useA (c := C_X_piece.2) (as := [(2, 1), (0, xs (i + 1)), (0, xs (i + 2))]) T_X_piece hP (show 2 ≤ d by omega) ⟨⟨rfl, by decide, by decide⟩, ⟨rfl, (hx (i + 1)).1, (hx (i + 1)).2⟩, ⟨rfl, (hx (i + 2)).1, (hx (i + 2)).2⟩, trivial⟩ rfl rfl (by decide +kernel)) ?_
  rintro _ w1 _ ⟨x1, rfl, -, -, hP1, rfl, hB1, -⟩
  have hJ1 := hJ.aw hB1 (by decide +kernel)
  show qG (some (L, xs)) (d + 1) 305 957 [(3, 0), (2, 1), (2, 95), (0, ((i : Nat) : Int))] [(0, x1)] w1 142 Q9
  refine qG.blk 6 (pc' := 963) (ls' := [(3, 0), (2, 1), (2, 95), (0, ((i : Nat) : Int))]) (st' := [(0, wrp (((i : Nat) : Int) + 1)), (3, 0), (2, 95)]) (w' := w1) (n' := 142) rfl ?_
  rw [show wrp (((i : Nat) : Int) + 1) = ((i + 1 : Nat) : Int) from by rw [wrp_id (by omega) (by omega)]; omega]
  refine qG.gd (P := 0 ≤ ((i + 1 : Nat) : Int) ∧ ((i + 1 : Nat) : Int) < ((L : Nat) : Int)) (pc' := 964) (ls' := [(3, 0), (2, 1), (2, 95), (0, ((i : Nat) : Int))]) (st' := [(0, xs (i + 1)), (2, 95)]) (w' := w1) (n' := 142) rfl (by omega) ?_
  refine qG.blk 4 (pc' := 968) (ls' := [(3, 0), (2, 1), (2, 95), (0, ((i : Nat) : Int))]) (st' := [(0, wrp (((i : Nat) : Int) + 2)), (3, 0), (0, xs (i + 1)), (2, 95)]) (w' := w1) (n' := 142) rfl ?_
  rw [show wrp (((i : Nat) : Int) + 2) = ((i + 2 : Nat) : Int) from by rw [wrp_id (by omega) (by omega)]; omega]
  refine qG.gd (P := 0 ≤ ((i + 2 : Nat) : Int) ∧ ((i + 2 : Nat) : Int) < ((L : Nat) : Int)) (pc' := 969) (ls' := [(3, 0), (2, 1), (2, 95), (0, ((i : Nat) : Int))]) (st' := [(0, xs (i + 2)), (0, xs (i + 1)), (2, 95)]) (w' := w1) (n' := 142) rfl (by omega) ?_
  refine qG.call (t := 275) (na := 3) (sk := 1) (md := 1) (ls1 := [(2, 95), (0, xs (i + 1)), (0, xs (i + 2))]) (r1 := []) rfl rfl rfl rfl rfl (SP.useA (c := C_R_piece.2) (as := [(2, 95), (0, xs (i + 1)), (0, xs (i + 2))]) T_R_piece hP1 (show 2 ≤ d by omega) ⟨⟨rfl, by decide, by decide⟩, ⟨rfl, (hx (i + 1)).1, (hx (i + 1)).2⟩, ⟨rfl, (hx (i + 2)).1, (hx (i + 2)).2⟩, trivial⟩ rfl rfl (by decide +kernel)) ?_
  rintro _ w2 _ ⟨x2, rfl, -, -, hP2, rfl, hB2, -⟩
  have hJ2 := hJ1.aw hB2 (by decide +kernel)
  show qG (some (L, xs)) (d + 1) 305 972 [(3, 0), (2, 1), (2, 95), (0, ((i : Nat) : Int))] [(0, x2)] w2 142 Q9
  refine qG.blk 2 (pc' := 1610) (ls' := [(3, 0), (2, 1), (2, 95), (0, ((i : Nat) : Int))]) (st' := []) (w' := w2) (n' := 142) rfl ?_
  exact H _ hP2 hJ2
theorem O_18 {L : Nat} {xs : Nat → Int} (hx : ∀ j, -2147483648 ≤ xs j ∧ xs j ≤ 2147483647) (i : Nat) (hi : i + 6 ≤ L) (hL : L ≤ 3072) {d : Nat} (hd : 70 ≤ d) (w : qW) (hP : SP w) (hJ : JW w) {Q9 : qV → qW → Nat → Prop} (H : ∀ w1, SP w1 → JW w1 → qG (some (L, xs)) d 305 1610 [(3, 0), (2, 1), (2, 95), (0, ((i : Nat) : Int))] [] w1 142 Q9) : qG (some (L, xs)) d 305 33 [(3, 0), (2, 1), (2, 95), (0, ((i : Nat) : Int))] [(0, 18)] w 142 Q9 := by
  obtain ⟨d, rfl⟩ : ∃ d9, d = d9 + 1 := ⟨d - 1, by omega⟩
  refine qG.blk 6 (pc' := 981) (ls' := [(3, 0), (2, 1), (2, 95), (0, ((i : Nat) : Int))]) (st' := [(0, wrp (((i : Nat) : Int) + 1)), (3, 0), (2, 1)]) (w' := w) (n' := 142) rfl ?_
  rw [show wrp (((i : Nat) : Int) + 1) = ((i + 1 : Nat) : Int) from by rw [wrp_id (by omega) (by omega)]; omega]
  refine qG.gd (P := 0 ≤ ((i + 1 : Nat) : Int) ∧ ((i + 1 : Nat) : Int) < ((L : Nat) : Int)) (pc' := 982) (ls' := [(3, 0), (2, 1), (2, 95), (0, ((i : Nat) : Int))]) (st' := [(0, xs (i + 1)), (2, 1)]) (w' := w) (n' := 142) rfl (by omega) ?_
  refine qG.blk 4 (pc' := 986) (ls' := [(3, 0), (2, 1), (2, 95), (0, ((i : Nat) : Int))]) (st' := [(0, wrp (((i : Nat) : Int) + 2)), (3, 0), (0, xs (i + 1)), (2, 1)]) (w' := w) (n' := 142) rfl ?_
  rw [show wrp (((i : Nat) : Int) + 2) = ((i + 2 : Nat) : Int) from by rw [wrp_id (by omega) (by omega)]; omega]
  refine qG.gd (P := 0 ≤ ((i + 2 : Nat) : Int) ∧ ((i + 2 : Nat) : Int) < ((L : Nat) : Int)) (pc' := 987) (ls' := [(3, 0), (2, 1), (2, 95), (0, ((i : Nat) : Int))]) (st' := [(0, xs (i + 2)), (0, xs (i + 1)), (2, 1)]) (w' := w) (n' := 142) rfl (by omega) ?_
  refine qG.br (P := xs (i + 2) = 0) (pc1 := 994) (pc2 := 990) (st1 := [(0, xs (i + 1)), (2, 1)]) rfl (fun h1 => ?_) (fun h1 => ?_)
  · skip
    refine qG.blk 1 (pc' := 995) (ls' := [(3, 0), (2, 1), (2, 95), (0, ((i : Nat) : Int))]) (st' := [(0, 0), (0, xs (i + 1)), (2, 1)]) (w' := w) (n' := 142) rfl ?_
    refine qG.call (t := 182) (na := 3) (sk := 1) (md := 1) (ls1 := [(2, 1), (0, xs (i + 1)), (0, 0)]) (r1 := []) rfl rfl rfl rfl rfl (SP.useA (c := C_X_stick.2) (as := [(2, 1), (0, xs (i + 1)), (0, 0)]) T_X_stick hP (show 2 ≤ d by omega) ⟨⟨rfl, by decide, by decide⟩, ⟨rfl, (hx (i + 1)).1, (hx (i + 1)).2⟩, ⟨rfl, by decide, by decide⟩, trivial⟩ rfl rfl (by decide +kernel)) ?_
    rintro _ w2 _ ⟨x2, rfl, -, -, hP2, rfl, hB2, -⟩
    have hJ2 := hJ.aw hB2 (by decide +kernel)
    show qG (some (L, xs)) (d + 1) 305 998 [(3, 0), (2, 1), (2, 95), (0, ((i : Nat) : Int))] [(0, x2)] w2 142 Q9
    refine qG.blk 6 (pc' := 1004) (ls' := [(3, 0), (2, 1), (2, 95), (0, ((i : Nat) : Int))]) (st' := [(0, wrp (((i : Nat) : Int) + 1)), (3, 0), (2, 95)]) (w' := w2) (n' := 142) rfl ?_
    rw [show wrp (((i : Nat) : Int) + 1) = ((i + 1 : Nat) : Int) from by rw [wrp_id (by omega) (by omega)]; omega]
    refine qG.gd (P := 0 ≤ ((i + 1 : Nat) : Int) ∧ ((i + 1 : Nat) : Int) < ((L : Nat) : Int)) (pc' := 1005) (ls' := [(3, 0), (2, 1), (2, 95), (0, ((i : Nat) : Int))]) (st' := [(0, xs (i + 1)), (2, 95)]) (w' := w2) (n' := 142) rfl (by omega) ?_
    refine qG.blk 4 (pc' := 1009) (ls' := [(3, 0), (2, 1), (2, 95), (0, ((i : Nat) : Int))]) (st' := [(0, wrp (((i : Nat) : Int) + 2)), (3, 0), (0, xs (i + 1)), (2, 95)]) (w' := w2) (n' := 142) rfl ?_
    rw [show wrp (((i : Nat) : Int) + 2) = ((i + 2 : Nat) : Int) from by rw [wrp_id (by omega) (by omega)]; omega]
    refine qG.gd (P := 0 ≤ ((i + 2 : Nat) : Int) ∧ ((i + 2 : Nat) : Int) < ((L : Nat) : Int)) (pc' := 1010) (ls' := [(3, 0), (2, 1), (2, 95), (0, ((i : Nat) : Int))]) (st' := [(0, xs (i + 2)), (0, xs (i + 1)), (2, 95)]) (w' := w2) (n' := 142) rfl (by omega) ?_
    refine qG.br (P := xs (i + 2) = 0) (pc1 := 1017) (pc2 := 1013) (st1 := [(0, xs (i + 1)), (2, 95)]) rfl (fun h3 => ?_) (fun h3 => ?_)
    · skip
      refine qG.blk 1 (pc' := 1018) (ls' := [(3, 0), (2, 1), (2, 95), (0, ((i : Nat) : Int))]) (st' := [(0, 0), (0, xs (i + 1)), (2, 95)]) (w' := w2) (n' := 142) rfl ?_
      refine qG.call (t := 276) (na := 3) (sk := 1) (md := 1) (ls1 := [(2, 95), (0, xs (i + 1)), (0, 0)]) (r1 := []) rfl rfl rfl rfl rfl (SP.useA (c := C_R_stick.2) (as := [(2, 95), (0, xs (i + 1)), (0, 0)]) T_R_stick hP2 (show 2 ≤ d by omega) ⟨⟨rfl, by decide, by decide⟩, ⟨rfl, (hx (i + 1)).1, (hx (i + 1)).2⟩, ⟨rfl, by decide, by decide⟩, trivial⟩ rfl rfl (by decide +kernel)) ?_
      rintro _ w4 _ ⟨x4, rfl, -, -, hP4, rfl, hB4, -⟩
      have hJ4 := hJ2.aw hB4 (by decide +kernel)
      show qG (some (L, xs)) (d + 1) 305 1021 [(3, 0), (2, 1), (2, 95), (0, ((i : Nat) : Int))] [(0, x4)] w4 142 Q9
      refine qG.blk 2 (pc' := 1610) (ls' := [(3, 0), (2, 1), (2, 95), (0, ((i : Nat) : Int))]) (st' := []) (w' := w4) (n' := 142) rfl ?_
      exact H _ hP4 hJ4
    · exfalso; exact h3 h1
  · skip
    refine qG.blk 2 (pc' := 995) (ls' := [(3, 0), (2, 1), (2, 95), (0, ((i : Nat) : Int))]) (st' := [(0, 1), (0, xs (i + 1)), (2, 1)]) (w' := w) (n' := 142) rfl ?_
    refine qG.call (t := 182) (na := 3) (sk := 1) (md := 1) (ls1 := [(2, 1), (0, xs (i + 1)), (0, 1)]) (r1 := []) rfl rfl rfl rfl rfl (SP.useA (c := C_X_stick.2) (as := [(2, 1), (0, xs (i + 1)), (0, 1)]) T_X_stick hP (show 2 ≤ d by omega) ⟨⟨rfl, by decide, by decide⟩, ⟨rfl, (hx (i + 1)).1, (hx (i + 1)).2⟩, ⟨rfl, by decide, by decide⟩, trivial⟩ rfl rfl (by decide +kernel)) ?_
    rintro _ w5 _ ⟨x5, rfl, -, -, hP5, rfl, hB5, -⟩
    have hJ5 := hJ.aw hB5 (by decide +kernel)
    show qG (some (L, xs)) (d + 1) 305 998 [(3, 0), (2, 1), (2, 95), (0, ((i : Nat) : Int))] [(0, x5)] w5 142 Q9
    refine qG.blk 6 (pc' := 1004) (ls' := [(3, 0), (2, 1), (2, 95), (0, ((i : Nat) : Int))]) (st' := [(0, wrp (((i : Nat) : Int) + 1)), (3, 0), (2, 95)]) (w' := w5) (n' := 142) rfl ?_
    rw [show wrp (((i : Nat) : Int) + 1) = ((i + 1 : Nat) : Int) from by rw [wrp_id (by omega) (by omega)]; omega]
    refine qG.gd (P := 0 ≤ ((i + 1 : Nat) : Int) ∧ ((i + 1 : Nat) : Int) < ((L : Nat) : Int)) (pc' := 1005) (ls' := [(3, 0), (2, 1), (2, 95), (0, ((i : Nat) : Int))]) (st' := [(0, xs (i + 1)), (2, 95)]) (w' := w5) (n' := 142) rfl (by omega) ?_
    refine qG.blk 4 (pc' := 1009) (ls' := [(3, 0), (2, 1), (2, 95), (0, ((i : Nat) : Int))]) (st' := [(0, wrp (((i : Nat) : Int) + 2)), (3, 0), (0, xs (i + 1)), (2, 95)]) (w' := w5) (n' := 142) rfl ?_
    rw [show wrp (((i : Nat) : Int) + 2) = ((i + 2 : Nat) : Int) from by rw [wrp_id (by omega) (by omega)]; omega]
    refine qG.gd (P := 0 ≤ ((i + 2 : Nat) : Int) ∧ ((i + 2 : Nat) : Int) < ((L : Nat) : Int)) (pc' := 1010) (ls' := [(3, 0), (2, 1), (2, 95), (0, ((i : Nat) : Int))]) (st' := [(0, xs (i + 2)), (0, xs (i + 1)), (2, 95)]) (w' := w5) (n' := 142) rfl (by omega) ?_
    refine qG.br (P := xs (i + 2) = 0) (pc1 := 1017) (pc2 := 1013) (st1 := [(0, xs (i + 1)), (2, 95)]) rfl (fun h6 => ?_) (fun h6 => ?_)
    · exfalso; exact h1 h6
    · skip
      refine qG.blk 2 (pc' := 1018) (ls' := [(3, 0), (2, 1), (2, 95), (0, ((i : Nat) : Int))]) (st' := [(0, 1), (0, xs (i + 1)), (2, 95)]) (w' := w5) (n' := 142) rfl ?_
      refine qG.call (t := 276) (na := 3) (sk := 1) (md := 1) (ls1 := [(2, 95), (0, xs (i + 1)), (0, 1)]) (r1 := []) rfl rfl rfl rfl rfl (SP.useA (c := C_R_stick.2) (as := [(2, 95), (0, xs (i + 1)), (0, 1)]) T_R_stick hP5 (show 2 ≤ d by omega) ⟨⟨rfl, by decide, by decide⟩, ⟨rfl, (hx (i + 1)).1, (hx (i + 1)).2⟩, ⟨rfl, by decide, by decide⟩, trivial⟩ rfl rfl (by decide +kernel)) ?_
      rintro _ w7 _ ⟨x7, rfl, -, -, hP7, rfl, hB7, -⟩
      have hJ7 := hJ5.aw hB7 (by decide +kernel)
      show qG (some (L, xs)) (d + 1) 305 1021 [(3, 0), (2, 1), (2, 95), (0, ((i : Nat) : Int))] [(0, x7)] w7 142 Q9
      refine qG.blk 2 (pc' := 1610) (ls' := [(3, 0), (2, 1), (2, 95), (0, ((i : Nat) : Int))]) (st' := []) (w' := w7) (n' := 142) rfl ?_
      exact H _ hP7 hJ7
theorem O_19 {L : Nat} {xs : Nat → Int} (hx : ∀ j, -2147483648 ≤ xs j ∧ xs j ≤ 2147483647) (i : Nat) (hi : i + 6 ≤ L) (hL : L ≤ 3072) {d : Nat} (hd : 70 ≤ d) (w : qW) (hP : SP w) (hJ : JW w) {Q9 : qV → qW → Nat → Prop} (H : ∀ w1, SP w1 → JW w1 → qG (some (L, xs)) d 305 1610 [(3, 0), (2, 1), (2, 95), (0, ((i : Nat) : Int))] [] w1 142 Q9) : qG (some (L, xs)) d 305 33 [(3, 0), (2, 1), (2, 95), (0, ((i : Nat) : Int))] [(0, 19)] w 142 Q9 := by
  obtain ⟨d, rfl⟩ : ∃ d9, d = d9 + 1 := ⟨d - 1, by omega⟩
  refine qG.blk 6 (pc' := 1030) (ls' := [(3, 0), (2, 1), (2, 95), (0, ((i : Nat) : Int))]) (st' := [(0, wrp (((i : Nat) : Int) + 1)), (3, 0), (2, 1)]) (w' := w) (n' := 142) rfl ?_
  rw [show wrp (((i : Nat) : Int) + 1) = ((i + 1 : Nat) : Int) from by rw [wrp_id (by omega) (by omega)]; omega]
  refine qG.gd (P := 0 ≤ ((i + 1 : Nat) : Int) ∧ ((i + 1 : Nat) : Int) < ((L : Nat) : Int)) (pc' := 1031) (ls' := [(3, 0), (2, 1), (2, 95), (0, ((i : Nat) : Int))]) (st' := [(0, xs (i + 1)), (2, 1)]) (w' := w) (n' := 142) rfl (by omega) ?_
  refine qG.blk 4 (pc' := 1035) (ls' := [(3, 0), (2, 1), (2, 95), (0, ((i : Nat) : Int))]) (st' := [(0, wrp (((i : Nat) : Int) + 2)), (3, 0), (0, xs (i + 1)), (2, 1)]) (w' := w) (n' := 142) rfl ?_
  rw [show wrp (((i : Nat) : Int) + 2) = ((i + 2 : Nat) : Int) from by rw [wrp_id (by omega) (by omega)]; omega]
  refine qG.gd (P := 0 ≤ ((i + 2 : Nat) : Int) ∧ ((i + 2 : Nat) : Int) < ((L : Nat) : Int)) (pc' := 1036) (ls' := [(3, 0), (2, 1), (2, 95), (0, ((i : Nat) : Int))]) (st' := [(0, xs (i + 2)), (0, xs (i + 1)), (2, 1)]) (w' := w) (n' := 142) rfl (by omega) ?_
  refine qG.blk 4 (pc' := 1040) (ls' := [(3, 0), (2, 1), (2, 95), (0, ((i : Nat) : Int))]) (st' := [(0, wrp (((i : Nat) : Int) + 3)), (3, 0), (0, xs (i + 2)), (0, xs (i + 1)), (2, 1)]) (w' := w) (n' := 142) rfl ?_
  rw [show wrp (((i : Nat) : Int) + 3) = ((i + 3 : Nat) : Int) from by rw [wrp_id (by omega) (by omega)]; omega]
  refine qG.gd (P := 0 ≤ ((i + 3 : Nat) : Int) ∧ ((i + 3 : Nat) : Int) < ((L : Nat) : Int)) (pc' := 1041) (ls' := [(3, 0), (2, 1), (2, 95), (0, ((i : Nat) : Int))]) (st' := [(0, xs (i + 3)), (0, xs (i + 2)), (0, xs (i + 1)), (2, 1)]) (w' := w) (n' := 142) rfl (by omega) ?_
  refine qG.call (t := 183) (na := 4) (sk := 1) (md := 1) (ls1 := [(2, 1), (0, xs (i + 1)), (0, xs (i + 2)), (0, xs (i + 3))]) (r1 := []) rfl rfl rfl rfl rfl (SP.useA (c := C_X_move.2) (as := [(2, 1), (0, xs (i + 1)), (0, xs (i + 2)), (0, xs (i + 3))]) T_X_move hP (show 3 ≤ d by omega) ⟨⟨rfl, by decide, by decide⟩, ⟨rfl, (hx (i + 1)).1, (hx (i + 1)).2⟩, ⟨rfl, (hx (i + 2)).1, (hx (i + 2)).2⟩, ⟨rfl, (hx (i + 3)).1, (hx (i + 3)).2⟩, trivial⟩ rfl rfl (by decide +kernel)) ?_
  rintro _ w1 _ ⟨x1, rfl, -, -, hP1, rfl, hB1, -⟩
  have hJ1 := hJ.aw hB1 (by decide +kernel)
  show qG (some (L, xs)) (d + 1) 305 1044 [(3, 0), (2, 1), (2, 95), (0, ((i : Nat) : Int))] [(0, x1)] w1 142 Q9
  refine qG.blk 6 (pc' := 1050) (ls' := [(3, 0), (2, 1), (2, 95), (0, ((i : Nat) : Int))]) (st' := [(0, wrp (((i : Nat) : Int) + 1)), (3, 0), (2, 95)]) (w' := w1) (n' := 142) rfl ?_
  rw [show wrp (((i : Nat) : Int) + 1) = ((i + 1 : Nat) : Int) from by rw [wrp_id (by omega) (by omega)]; omega]
  refine qG.gd (P := 0 ≤ ((i + 1 : Nat) : Int) ∧ ((i + 1 : Nat) : Int) < ((L : Nat) : Int)) (pc' := 1051) (ls' := [(3, 0), (2, 1), (2, 95), (0, ((i : Nat) : Int))]) (st' := [(0, xs (i + 1)), (2, 95)]) (w' := w1) (n' := 142) rfl (by omega) ?_
  refine qG.blk 4 (pc' := 1055) (ls' := [(3, 0), (2, 1), (2, 95), (0, ((i : Nat) : Int))]) (st' := [(0, wrp (((i : Nat) : Int) + 2)), (3, 0), (0, xs (i + 1)), (2, 95)]) (w' := w1) (n' := 142) rfl ?_
  rw [show wrp (((i : Nat) : Int) + 2) = ((i + 2 : Nat) : Int) from by rw [wrp_id (by omega) (by omega)]; omega]
  refine qG.gd (P := 0 ≤ ((i + 2 : Nat) : Int) ∧ ((i + 2 : Nat) : Int) < ((L : Nat) : Int)) (pc' := 1056) (ls' := [(3, 0), (2, 1), (2, 95), (0, ((i : Nat) : Int))]) (st' := [(0, xs (i + 2)), (0, xs (i + 1)), (2, 95)]) (w' := w1) (n' := 142) rfl (by omega) ?_
  refine qG.blk 4 (pc' := 1060) (ls' := [(3, 0), (2, 1), (2, 95), (0, ((i : Nat) : Int))]) (st' := [(0, wrp (((i : Nat) : Int) + 3)), (3, 0), (0, xs (i + 2)), (0, xs (i + 1)), (2, 95)]) (w' := w1) (n' := 142) rfl ?_
  rw [show wrp (((i : Nat) : Int) + 3) = ((i + 3 : Nat) : Int) from by rw [wrp_id (by omega) (by omega)]; omega]
  refine qG.gd (P := 0 ≤ ((i + 3 : Nat) : Int) ∧ ((i + 3 : Nat) : Int) < ((L : Nat) : Int)) (pc' := 1061) (ls' := [(3, 0), (2, 1), (2, 95), (0, ((i : Nat) : Int))]) (st' := [(0, xs (i + 3)), (0, xs (i + 2)), (0, xs (i + 1)), (2, 95)]) (w' := w1) (n' := 142) rfl (by omega) ?_
  refine qG.call (t := 277) (na := 4) (sk := 1) (md := 1) (ls1 := [(2, 95), (0, xs (i + 1)), (0, xs (i + 2)), (0, xs (i + 3)), (9, 0)]) (r1 := []) rfl rfl rfl rfl rfl (SP.useA (c := C_R_move.2) (as := [(2, 95), (0, xs (i + 1)), (0, xs (i + 2)), (0, xs (i + 3))]) T_R_move hP1 (show 2 ≤ d by omega) ⟨⟨rfl, by decide, by decide⟩, ⟨rfl, (hx (i + 1)).1, (hx (i + 1)).2⟩, ⟨rfl, (hx (i + 2)).1, (hx (i + 2)).2⟩, ⟨rfl, (hx (i + 3)).1, (hx (i + 3)).2⟩, trivial⟩ rfl rfl (by decide +kernel)) ?_
  rintro _ w2 _ ⟨x2, rfl, -, -, hP2, rfl, hB2, -⟩
  have hJ2 := hJ1.aw hB2 (by decide +kernel)
  show qG (some (L, xs)) (d + 1) 305 1064 [(3, 0), (2, 1), (2, 95), (0, ((i : Nat) : Int))] [(0, x2)] w2 142 Q9
  refine qG.blk 2 (pc' := 1610) (ls' := [(3, 0), (2, 1), (2, 95), (0, ((i : Nat) : Int))]) (st' := []) (w' := w2) (n' := 142) rfl ?_
  exact H _ hP2 hJ2
theorem O_20 {L : Nat} {xs : Nat → Int} (hx : ∀ j, -2147483648 ≤ xs j ∧ xs j ≤ 2147483647) (i : Nat) (hi : i + 6 ≤ L) (hL : L ≤ 3072) {d : Nat} (hd : 70 ≤ d) (w : qW) (hP : SP w) (hJ : JW w) {Q9 : qV → qW → Nat → Prop} (H : ∀ w1, SP w1 → JW w1 → qG (some (L, xs)) d 305 1610 [(3, 0), (2, 1), (2, 95), (0, ((i : Nat) : Int))] [] w1 142 Q9) : qG (some (L, xs)) d 305 33 [(3, 0), (2, 1), (2, 95), (0, ((i : Nat) : Int))] [(0, 20)] w 142 Q9 := by
  obtain ⟨d, rfl⟩ : ∃ d9, d = d9 + 1 := ⟨d - 1, by omega⟩
  refine qG.blk 6 (pc' := 1073) (ls' := [(3, 0), (2, 1), (2, 95), (0, ((i : Nat) : Int))]) (st' := [(0, wrp (((i : Nat) : Int) + 1)), (3, 0), (2, 1)]) (w' := w) (n' := 142) rfl ?_
  rw [show wrp (((i : Nat) : Int) + 1) = ((i + 1 : Nat) : Int) from by rw [wrp_id (by omega) (by omega)]; omega]
  refine qG.gd (P := 0 ≤ ((i + 1 : Nat) : Int) ∧ ((i + 1 : Nat) : Int) < ((L : Nat) : Int)) (pc' := 1074) (ls' := [(3, 0), (2, 1), (2, 95), (0, ((i : Nat) : Int))]) (st' := [(0, xs (i + 1)), (2, 1)]) (w' := w) (n' := 142) rfl (by omega) ?_
  refine qG.blk 4 (pc' := 1078) (ls' := [(3, 0), (2, 1), (2, 95), (0, ((i : Nat) : Int))]) (st' := [(0, wrp (((i : Nat) : Int) + 2)), (3, 0), (0, xs (i + 1)), (2, 1)]) (w' := w) (n' := 142) rfl ?_
  rw [show wrp (((i : Nat) : Int) + 2) = ((i + 2 : Nat) : Int) from by rw [wrp_id (by omega) (by omega)]; omega]
  refine qG.gd (P := 0 ≤ ((i + 2 : Nat) : Int) ∧ ((i + 2 : Nat) : Int) < ((L : Nat) : Int)) (pc' := 1079) (ls' := [(3, 0), (2, 1), (2, 95), (0, ((i : Nat) : Int))]) (st' := [(0, xs (i + 2)), (0, xs (i + 1)), (2, 1)]) (w' := w) (n' := 142) rfl (by omega) ?_
  refine qG.call (t := 184) (na := 3) (sk := 1) (md := 1) (ls1 := [(2, 1), (0, xs (i + 1)), (0, xs (i + 2))]) (r1 := []) rfl rfl rfl rfl rfl (SP.useA (c := C_X_board.2) (as := [(2, 1), (0, xs (i + 1)), (0, xs (i + 2))]) T_X_board hP (show 2 ≤ d by omega) ⟨⟨rfl, by decide, by decide⟩, ⟨rfl, (hx (i + 1)).1, (hx (i + 1)).2⟩, ⟨rfl, (hx (i + 2)).1, (hx (i + 2)).2⟩, trivial⟩ rfl rfl (by decide +kernel)) ?_
  rintro _ w1 _ ⟨x1, rfl, -, -, hP1, rfl, hB1, -⟩
  have hJ1 := hJ.aw hB1 (by decide +kernel)
  show qG (some (L, xs)) (d + 1) 305 1082 [(3, 0), (2, 1), (2, 95), (0, ((i : Nat) : Int))] [(0, x1)] w1 142 Q9
  refine qG.blk 6 (pc' := 1088) (ls' := [(3, 0), (2, 1), (2, 95), (0, ((i : Nat) : Int))]) (st' := [(0, wrp (((i : Nat) : Int) + 1)), (3, 0), (2, 95)]) (w' := w1) (n' := 142) rfl ?_
  rw [show wrp (((i : Nat) : Int) + 1) = ((i + 1 : Nat) : Int) from by rw [wrp_id (by omega) (by omega)]; omega]
  refine qG.gd (P := 0 ≤ ((i + 1 : Nat) : Int) ∧ ((i + 1 : Nat) : Int) < ((L : Nat) : Int)) (pc' := 1089) (ls' := [(3, 0), (2, 1), (2, 95), (0, ((i : Nat) : Int))]) (st' := [(0, xs (i + 1)), (2, 95)]) (w' := w1) (n' := 142) rfl (by omega) ?_
  refine qG.blk 4 (pc' := 1093) (ls' := [(3, 0), (2, 1), (2, 95), (0, ((i : Nat) : Int))]) (st' := [(0, wrp (((i : Nat) : Int) + 2)), (3, 0), (0, xs (i + 1)), (2, 95)]) (w' := w1) (n' := 142) rfl ?_
  rw [show wrp (((i : Nat) : Int) + 2) = ((i + 2 : Nat) : Int) from by rw [wrp_id (by omega) (by omega)]; omega]
  refine qG.gd (P := 0 ≤ ((i + 2 : Nat) : Int) ∧ ((i + 2 : Nat) : Int) < ((L : Nat) : Int)) (pc' := 1094) (ls' := [(3, 0), (2, 1), (2, 95), (0, ((i : Nat) : Int))]) (st' := [(0, xs (i + 2)), (0, xs (i + 1)), (2, 95)]) (w' := w1) (n' := 142) rfl (by omega) ?_
  refine qG.call (t := 278) (na := 3) (sk := 1) (md := 1) (ls1 := [(2, 95), (0, xs (i + 1)), (0, xs (i + 2)), (9, 0), (9, 0)]) (r1 := []) rfl rfl rfl rfl rfl (SP.useA (c := C_R_board.2) (as := [(2, 95), (0, xs (i + 1)), (0, xs (i + 2))]) T_R_board hP1 (show 2 ≤ d by omega) ⟨⟨rfl, by decide, by decide⟩, ⟨rfl, (hx (i + 1)).1, (hx (i + 1)).2⟩, ⟨rfl, (hx (i + 2)).1, (hx (i + 2)).2⟩, trivial⟩ rfl rfl (by decide +kernel)) ?_
  rintro _ w2 _ ⟨x2, rfl, -, -, hP2, rfl, hB2, -⟩
  have hJ2 := hJ1.aw hB2 (by decide +kernel)
  show qG (some (L, xs)) (d + 1) 305 1097 [(3, 0), (2, 1), (2, 95), (0, ((i : Nat) : Int))] [(0, x2)] w2 142 Q9
  refine qG.blk 2 (pc' := 1610) (ls' := [(3, 0), (2, 1), (2, 95), (0, ((i : Nat) : Int))]) (st' := []) (w' := w2) (n' := 142) rfl ?_
  exact H _ hP2 hJ2
theorem O_21 {L : Nat} {xs : Nat → Int} (hx : ∀ j, -2147483648 ≤ xs j ∧ xs j ≤ 2147483647) (i : Nat) (hi : i + 6 ≤ L) (hL : L ≤ 3072) {d : Nat} (hd : 70 ≤ d) (w : qW) (hP : SP w) (hJ : JW w) {Q9 : qV → qW → Nat → Prop} (H : ∀ w1, SP w1 → JW w1 → qG (some (L, xs)) d 305 1610 [(3, 0), (2, 1), (2, 95), (0, ((i : Nat) : Int))] [] w1 142 Q9) : qG (some (L, xs)) d 305 33 [(3, 0), (2, 1), (2, 95), (0, ((i : Nat) : Int))] [(0, 21)] w 142 Q9 := by
  obtain ⟨d, rfl⟩ : ∃ d9, d = d9 + 1 := ⟨d - 1, by omega⟩
  refine qG.blk 6 (pc' := 1106) (ls' := [(3, 0), (2, 1), (2, 95), (0, ((i : Nat) : Int))]) (st' := [(0, wrp (((i : Nat) : Int) + 1)), (3, 0), (2, 1)]) (w' := w) (n' := 142) rfl ?_
  rw [show wrp (((i : Nat) : Int) + 1) = ((i + 1 : Nat) : Int) from by rw [wrp_id (by omega) (by omega)]; omega]
  refine qG.gd (P := 0 ≤ ((i + 1 : Nat) : Int) ∧ ((i + 1 : Nat) : Int) < ((L : Nat) : Int)) (pc' := 1107) (ls' := [(3, 0), (2, 1), (2, 95), (0, ((i : Nat) : Int))]) (st' := [(0, xs (i + 1)), (2, 1)]) (w' := w) (n' := 142) rfl (by omega) ?_
  refine qG.blk 4 (pc' := 1111) (ls' := [(3, 0), (2, 1), (2, 95), (0, ((i : Nat) : Int))]) (st' := [(0, wrp (((i : Nat) : Int) + 2)), (3, 0), (0, xs (i + 1)), (2, 1)]) (w' := w) (n' := 142) rfl ?_
  rw [show wrp (((i : Nat) : Int) + 2) = ((i + 2 : Nat) : Int) from by rw [wrp_id (by omega) (by omega)]; omega]
  refine qG.gd (P := 0 ≤ ((i + 2 : Nat) : Int) ∧ ((i + 2 : Nat) : Int) < ((L : Nat) : Int)) (pc' := 1112) (ls' := [(3, 0), (2, 1), (2, 95), (0, ((i : Nat) : Int))]) (st' := [(0, xs (i + 2)), (0, xs (i + 1)), (2, 1)]) (w' := w) (n' := 142) rfl (by omega) ?_
  refine qG.blk 4 (pc' := 1116) (ls' := [(3, 0), (2, 1), (2, 95), (0, ((i : Nat) : Int))]) (st' := [(0, wrp (((i : Nat) : Int) + 3)), (3, 0), (0, xs (i + 2)), (0, xs (i + 1)), (2, 1)]) (w' := w) (n' := 142) rfl ?_
  rw [show wrp (((i : Nat) : Int) + 3) = ((i + 3 : Nat) : Int) from by rw [wrp_id (by omega) (by omega)]; omega]
  refine qG.gd (P := 0 ≤ ((i + 3 : Nat) : Int) ∧ ((i + 3 : Nat) : Int) < ((L : Nat) : Int)) (pc' := 1117) (ls' := [(3, 0), (2, 1), (2, 95), (0, ((i : Nat) : Int))]) (st' := [(0, xs (i + 3)), (0, xs (i + 2)), (0, xs (i + 1)), (2, 1)]) (w' := w) (n' := 142) rfl (by omega) ?_
  refine qG.blk 4 (pc' := 1121) (ls' := [(3, 0), (2, 1), (2, 95), (0, ((i : Nat) : Int))]) (st' := [(0, wrp (((i : Nat) : Int) + 4)), (3, 0), (0, xs (i + 3)), (0, xs (i + 2)), (0, xs (i + 1)), (2, 1)]) (w' := w) (n' := 142) rfl ?_
  rw [show wrp (((i : Nat) : Int) + 4) = ((i + 4 : Nat) : Int) from by rw [wrp_id (by omega) (by omega)]; omega]
  refine qG.gd (P := 0 ≤ ((i + 4 : Nat) : Int) ∧ ((i + 4 : Nat) : Int) < ((L : Nat) : Int)) (pc' := 1122) (ls' := [(3, 0), (2, 1), (2, 95), (0, ((i : Nat) : Int))]) (st' := [(0, xs (i + 4)), (0, xs (i + 3)), (0, xs (i + 2)), (0, xs (i + 1)), (2, 1)]) (w' := w) (n' := 142) rfl (by omega) ?_
  refine qG.call (t := 185) (na := 5) (sk := 1) (md := 1) (ls1 := [(2, 1), (0, xs (i + 1)), (0, xs (i + 2)), (0, xs (i + 3)), (0, xs (i + 4))]) (r1 := []) rfl rfl rfl rfl rfl (SP.useA (c := C_X_master.2) (as := [(2, 1), (0, xs (i + 1)), (0, xs (i + 2)), (0, xs (i + 3)), (0, xs (i + 4))]) T_X_master hP (show 2 ≤ d by omega) ⟨⟨rfl, by decide, by decide⟩, ⟨rfl, (hx (i + 1)).1, (hx (i + 1)).2⟩, ⟨rfl, (hx (i + 2)).1, (hx (i + 2)).2⟩, ⟨rfl, (hx (i + 3)).1, (hx (i + 3)).2⟩, ⟨rfl, (hx (i + 4)).1, (hx (i + 4)).2⟩, trivial⟩ rfl rfl (by decide +kernel)) ?_
  rintro _ w1 _ ⟨x1, rfl, -, -, hP1, rfl, hB1, -⟩
  have hJ1 := hJ.aw hB1 (by decide +kernel)
  show qG (some (L, xs)) (d + 1) 305 1125 [(3, 0), (2, 1), (2, 95), (0, ((i : Nat) : Int))] [(0, x1)] w1 142 Q9
  refine qG.blk 6 (pc' := 1131) (ls' := [(3, 0), (2, 1), (2, 95), (0, ((i : Nat) : Int))]) (st' := [(0, wrp (((i : Nat) : Int) + 1)), (3, 0), (2, 95)]) (w' := w1) (n' := 142) rfl ?_
  rw [show wrp (((i : Nat) : Int) + 1) = ((i + 1 : Nat) : Int) from by rw [wrp_id (by omega) (by omega)]; omega]
  refine qG.gd (P := 0 ≤ ((i + 1 : Nat) : Int) ∧ ((i + 1 : Nat) : Int) < ((L : Nat) : Int)) (pc' := 1132) (ls' := [(3, 0), (2, 1), (2, 95), (0, ((i : Nat) : Int))]) (st' := [(0, xs (i + 1)), (2, 95)]) (w' := w1) (n' := 142) rfl (by omega) ?_
  refine qG.blk 4 (pc' := 1136) (ls' := [(3, 0), (2, 1), (2, 95), (0, ((i : Nat) : Int))]) (st' := [(0, wrp (((i : Nat) : Int) + 2)), (3, 0), (0, xs (i + 1)), (2, 95)]) (w' := w1) (n' := 142) rfl ?_
  rw [show wrp (((i : Nat) : Int) + 2) = ((i + 2 : Nat) : Int) from by rw [wrp_id (by omega) (by omega)]; omega]
  refine qG.gd (P := 0 ≤ ((i + 2 : Nat) : Int) ∧ ((i + 2 : Nat) : Int) < ((L : Nat) : Int)) (pc' := 1137) (ls' := [(3, 0), (2, 1), (2, 95), (0, ((i : Nat) : Int))]) (st' := [(0, xs (i + 2)), (0, xs (i + 1)), (2, 95)]) (w' := w1) (n' := 142) rfl (by omega) ?_
  refine qG.blk 4 (pc' := 1141) (ls' := [(3, 0), (2, 1), (2, 95), (0, ((i : Nat) : Int))]) (st' := [(0, wrp (((i : Nat) : Int) + 3)), (3, 0), (0, xs (i + 2)), (0, xs (i + 1)), (2, 95)]) (w' := w1) (n' := 142) rfl ?_
  rw [show wrp (((i : Nat) : Int) + 3) = ((i + 3 : Nat) : Int) from by rw [wrp_id (by omega) (by omega)]; omega]
  refine qG.gd (P := 0 ≤ ((i + 3 : Nat) : Int) ∧ ((i + 3 : Nat) : Int) < ((L : Nat) : Int)) (pc' := 1142) (ls' := [(3, 0), (2, 1), (2, 95), (0, ((i : Nat) : Int))]) (st' := [(0, xs (i + 3)), (0, xs (i + 2)), (0, xs (i + 1)), (2, 95)]) (w' := w1) (n' := 142) rfl (by omega) ?_
  refine qG.blk 4 (pc' := 1146) (ls' := [(3, 0), (2, 1), (2, 95), (0, ((i : Nat) : Int))]) (st' := [(0, wrp (((i : Nat) : Int) + 4)), (3, 0), (0, xs (i + 3)), (0, xs (i + 2)), (0, xs (i + 1)), (2, 95)]) (w' := w1) (n' := 142) rfl ?_
  rw [show wrp (((i : Nat) : Int) + 4) = ((i + 4 : Nat) : Int) from by rw [wrp_id (by omega) (by omega)]; omega]
  refine qG.gd (P := 0 ≤ ((i + 4 : Nat) : Int) ∧ ((i + 4 : Nat) : Int) < ((L : Nat) : Int)) (pc' := 1147) (ls' := [(3, 0), (2, 1), (2, 95), (0, ((i : Nat) : Int))]) (st' := [(0, xs (i + 4)), (0, xs (i + 3)), (0, xs (i + 2)), (0, xs (i + 1)), (2, 95)]) (w' := w1) (n' := 142) rfl (by omega) ?_
  refine qG.call (t := 280) (na := 5) (sk := 1) (md := 1) (ls1 := [(2, 95), (0, xs (i + 1)), (0, xs (i + 2)), (0, xs (i + 3)), (0, xs (i + 4)), (9, 0)]) (r1 := []) rfl rfl rfl rfl rfl (SP.useA (c := C_R_master.2) (as := [(2, 95), (0, xs (i + 1)), (0, xs (i + 2)), (0, xs (i + 3)), (0, xs (i + 4))]) T_R_master hP1 (show 2 ≤ d by omega) ⟨⟨rfl, by decide, by decide⟩, ⟨rfl, (hx (i + 1)).1, (hx (i + 1)).2⟩, ⟨rfl, (hx (i + 2)).1, (hx (i + 2)).2⟩, ⟨rfl, (hx (i + 3)).1, (hx (i + 3)).2⟩, ⟨rfl, (hx (i + 4)).1, (hx (i + 4)).2⟩, trivial⟩ rfl rfl (by decide +kernel)) ?_
  rintro _ w2 _ ⟨x2, rfl, -, -, hP2, rfl, hB2, -⟩
  have hJ2 := hJ1.aw hB2 (by decide +kernel)
  show qG (some (L, xs)) (d + 1) 305 1150 [(3, 0), (2, 1), (2, 95), (0, ((i : Nat) : Int))] [(0, x2)] w2 142 Q9
  refine qG.blk 2 (pc' := 1610) (ls' := [(3, 0), (2, 1), (2, 95), (0, ((i : Nat) : Int))]) (st' := []) (w' := w2) (n' := 142) rfl ?_
  exact H _ hP2 hJ2
theorem O_22 {L : Nat} {xs : Nat → Int} (hx : ∀ j, -2147483648 ≤ xs j ∧ xs j ≤ 2147483647) (i : Nat) (hi : i + 6 ≤ L) (hL : L ≤ 3072) {d : Nat} (hd : 70 ≤ d) (w : qW) (hP : SP w) (hJ : JW w) {Q9 : qV → qW → Nat → Prop} (H : ∀ w1, SP w1 → JW w1 → qG (some (L, xs)) d 305 1610 [(3, 0), (2, 1), (2, 95), (0, ((i : Nat) : Int))] [] w1 142 Q9) : qG (some (L, xs)) d 305 33 [(3, 0), (2, 1), (2, 95), (0, ((i : Nat) : Int))] [(0, 22)] w 142 Q9 := by
  obtain ⟨d, rfl⟩ : ∃ d9, d = d9 + 1 := ⟨d - 1, by omega⟩
  refine qG.blk 6 (pc' := 1159) (ls' := [(3, 0), (2, 1), (2, 95), (0, ((i : Nat) : Int))]) (st' := [(0, wrp (((i : Nat) : Int) + 1)), (3, 0), (2, 1)]) (w' := w) (n' := 142) rfl ?_
  rw [show wrp (((i : Nat) : Int) + 1) = ((i + 1 : Nat) : Int) from by rw [wrp_id (by omega) (by omega)]; omega]
  refine qG.gd (P := 0 ≤ ((i + 1 : Nat) : Int) ∧ ((i + 1 : Nat) : Int) < ((L : Nat) : Int)) (pc' := 1160) (ls' := [(3, 0), (2, 1), (2, 95), (0, ((i : Nat) : Int))]) (st' := [(0, xs (i + 1)), (2, 1)]) (w' := w) (n' := 142) rfl (by omega) ?_
  refine qG.blk 4 (pc' := 1164) (ls' := [(3, 0), (2, 1), (2, 95), (0, ((i : Nat) : Int))]) (st' := [(0, wrp (((i : Nat) : Int) + 2)), (3, 0), (0, xs (i + 1)), (2, 1)]) (w' := w) (n' := 142) rfl ?_
  rw [show wrp (((i : Nat) : Int) + 2) = ((i + 2 : Nat) : Int) from by rw [wrp_id (by omega) (by omega)]; omega]
  refine qG.gd (P := 0 ≤ ((i + 2 : Nat) : Int) ∧ ((i + 2 : Nat) : Int) < ((L : Nat) : Int)) (pc' := 1165) (ls' := [(3, 0), (2, 1), (2, 95), (0, ((i : Nat) : Int))]) (st' := [(0, xs (i + 2)), (0, xs (i + 1)), (2, 1)]) (w' := w) (n' := 142) rfl (by omega) ?_
  refine qG.blk 4 (pc' := 1169) (ls' := [(3, 0), (2, 1), (2, 95), (0, ((i : Nat) : Int))]) (st' := [(0, wrp (((i : Nat) : Int) + 3)), (3, 0), (0, xs (i + 2)), (0, xs (i + 1)), (2, 1)]) (w' := w) (n' := 142) rfl ?_
  rw [show wrp (((i : Nat) : Int) + 3) = ((i + 3 : Nat) : Int) from by rw [wrp_id (by omega) (by omega)]; omega]
  refine qG.gd (P := 0 ≤ ((i + 3 : Nat) : Int) ∧ ((i + 3 : Nat) : Int) < ((L : Nat) : Int)) (pc' := 1170) (ls' := [(3, 0), (2, 1), (2, 95), (0, ((i : Nat) : Int))]) (st' := [(0, xs (i + 3)), (0, xs (i + 2)), (0, xs (i + 1)), (2, 1)]) (w' := w) (n' := 142) rfl (by omega) ?_
  refine qG.call (t := 186) (na := 4) (sk := 1) (md := 1) (ls1 := [(2, 1), (0, xs (i + 1)), (0, xs (i + 2)), (0, xs (i + 3))]) (r1 := []) rfl rfl rfl rfl rfl (SP.useA (c := C_X_was.2) (as := [(2, 1), (0, xs (i + 1)), (0, xs (i + 2)), (0, xs (i + 3))]) T_X_was hP (show 2 ≤ d by omega) ⟨⟨rfl, by decide, by decide⟩, ⟨rfl, (hx (i + 1)).1, (hx (i + 1)).2⟩, ⟨rfl, (hx (i + 2)).1, (hx (i + 2)).2⟩, ⟨rfl, (hx (i + 3)).1, (hx (i + 3)).2⟩, trivial⟩ rfl rfl (by decide +kernel)) ?_
  rintro _ w1 _ ⟨x1, rfl, -, -, hP1, rfl, hB1, -⟩
  have hJ1 := hJ.aw hB1 (by decide +kernel)
  show qG (some (L, xs)) (d + 1) 305 1173 [(3, 0), (2, 1), (2, 95), (0, ((i : Nat) : Int))] [(0, x1)] w1 142 Q9
  refine qG.blk 6 (pc' := 1179) (ls' := [(3, 0), (2, 1), (2, 95), (0, ((i : Nat) : Int))]) (st' := [(0, wrp (((i : Nat) : Int) + 1)), (3, 0), (2, 95)]) (w' := w1) (n' := 142) rfl ?_
  rw [show wrp (((i : Nat) : Int) + 1) = ((i + 1 : Nat) : Int) from by rw [wrp_id (by omega) (by omega)]; omega]
  refine qG.gd (P := 0 ≤ ((i + 1 : Nat) : Int) ∧ ((i + 1 : Nat) : Int) < ((L : Nat) : Int)) (pc' := 1180) (ls' := [(3, 0), (2, 1), (2, 95), (0, ((i : Nat) : Int))]) (st' := [(0, xs (i + 1)), (2, 95)]) (w' := w1) (n' := 142) rfl (by omega) ?_
  refine qG.blk 4 (pc' := 1184) (ls' := [(3, 0), (2, 1), (2, 95), (0, ((i : Nat) : Int))]) (st' := [(0, wrp (((i : Nat) : Int) + 2)), (3, 0), (0, xs (i + 1)), (2, 95)]) (w' := w1) (n' := 142) rfl ?_
  rw [show wrp (((i : Nat) : Int) + 2) = ((i + 2 : Nat) : Int) from by rw [wrp_id (by omega) (by omega)]; omega]
  refine qG.gd (P := 0 ≤ ((i + 2 : Nat) : Int) ∧ ((i + 2 : Nat) : Int) < ((L : Nat) : Int)) (pc' := 1185) (ls' := [(3, 0), (2, 1), (2, 95), (0, ((i : Nat) : Int))]) (st' := [(0, xs (i + 2)), (0, xs (i + 1)), (2, 95)]) (w' := w1) (n' := 142) rfl (by omega) ?_
  refine qG.blk 4 (pc' := 1189) (ls' := [(3, 0), (2, 1), (2, 95), (0, ((i : Nat) : Int))]) (st' := [(0, wrp (((i : Nat) : Int) + 3)), (3, 0), (0, xs (i + 2)), (0, xs (i + 1)), (2, 95)]) (w' := w1) (n' := 142) rfl ?_
  rw [show wrp (((i : Nat) : Int) + 3) = ((i + 3 : Nat) : Int) from by rw [wrp_id (by omega) (by omega)]; omega]
  refine qG.gd (P := 0 ≤ ((i + 3 : Nat) : Int) ∧ ((i + 3 : Nat) : Int) < ((L : Nat) : Int)) (pc' := 1190) (ls' := [(3, 0), (2, 1), (2, 95), (0, ((i : Nat) : Int))]) (st' := [(0, xs (i + 3)), (0, xs (i + 2)), (0, xs (i + 1)), (2, 95)]) (w' := w1) (n' := 142) rfl (by omega) ?_
  refine qG.call (t := 281) (na := 4) (sk := 1) (md := 1) (ls1 := [(2, 95), (0, xs (i + 1)), (0, xs (i + 2)), (0, xs (i + 3)), (9, 0)]) (r1 := []) rfl rfl rfl rfl rfl (SP.useA (c := C_R_was.2) (as := [(2, 95), (0, xs (i + 1)), (0, xs (i + 2)), (0, xs (i + 3))]) T_R_was hP1 (show 2 ≤ d by omega) ⟨⟨rfl, by decide, by decide⟩, ⟨rfl, (hx (i + 1)).1, (hx (i + 1)).2⟩, ⟨rfl, (hx (i + 2)).1, (hx (i + 2)).2⟩, ⟨rfl, (hx (i + 3)).1, (hx (i + 3)).2⟩, trivial⟩ rfl rfl (by decide +kernel)) ?_
  rintro _ w2 _ ⟨x2, rfl, -, -, hP2, rfl, hB2, -⟩
  have hJ2 := hJ1.aw hB2 (by decide +kernel)
  show qG (some (L, xs)) (d + 1) 305 1193 [(3, 0), (2, 1), (2, 95), (0, ((i : Nat) : Int))] [(0, x2)] w2 142 Q9
  refine qG.blk 2 (pc' := 1610) (ls' := [(3, 0), (2, 1), (2, 95), (0, ((i : Nat) : Int))]) (st' := []) (w' := w2) (n' := 142) rfl ?_
  exact H _ hP2 hJ2
theorem O_23 {L : Nat} {xs : Nat → Int} (hx : ∀ j, -2147483648 ≤ xs j ∧ xs j ≤ 2147483647) (i : Nat) (hi : i + 6 ≤ L) (hL : L ≤ 3072) {d : Nat} (hd : 70 ≤ d) (w : qW) (hP : SP w) (hJ : JW w) {Q9 : qV → qW → Nat → Prop} (H : ∀ w1, SP w1 → JW w1 → qG (some (L, xs)) d 305 1610 [(3, 0), (2, 1), (2, 95), (0, ((i : Nat) : Int))] [] w1 142 Q9) : qG (some (L, xs)) d 305 33 [(3, 0), (2, 1), (2, 95), (0, ((i : Nat) : Int))] [(0, 23)] w 142 Q9 := by
  obtain ⟨d, rfl⟩ : ∃ d9, d = d9 + 1 := ⟨d - 1, by omega⟩
  refine qG.blk 6 (pc' := 1202) (ls' := [(3, 0), (2, 1), (2, 95), (0, ((i : Nat) : Int))]) (st' := [(0, wrp (((i : Nat) : Int) + 1)), (3, 0), (2, 1)]) (w' := w) (n' := 142) rfl ?_
  rw [show wrp (((i : Nat) : Int) + 1) = ((i + 1 : Nat) : Int) from by rw [wrp_id (by omega) (by omega)]; omega]
  refine qG.gd (P := 0 ≤ ((i + 1 : Nat) : Int) ∧ ((i + 1 : Nat) : Int) < ((L : Nat) : Int)) (pc' := 1203) (ls' := [(3, 0), (2, 1), (2, 95), (0, ((i : Nat) : Int))]) (st' := [(0, xs (i + 1)), (2, 1)]) (w' := w) (n' := 142) rfl (by omega) ?_
  refine qG.blk 4 (pc' := 1207) (ls' := [(3, 0), (2, 1), (2, 95), (0, ((i : Nat) : Int))]) (st' := [(0, wrp (((i : Nat) : Int) + 2)), (3, 0), (0, xs (i + 1)), (2, 1)]) (w' := w) (n' := 142) rfl ?_
  rw [show wrp (((i : Nat) : Int) + 2) = ((i + 2 : Nat) : Int) from by rw [wrp_id (by omega) (by omega)]; omega]
  refine qG.gd (P := 0 ≤ ((i + 2 : Nat) : Int) ∧ ((i + 2 : Nat) : Int) < ((L : Nat) : Int)) (pc' := 1208) (ls' := [(3, 0), (2, 1), (2, 95), (0, ((i : Nat) : Int))]) (st' := [(0, xs (i + 2)), (0, xs (i + 1)), (2, 1)]) (w' := w) (n' := 142) rfl (by omega) ?_
  refine qG.blk 4 (pc' := 1212) (ls' := [(3, 0), (2, 1), (2, 95), (0, ((i : Nat) : Int))]) (st' := [(0, wrp (((i : Nat) : Int) + 3)), (3, 0), (0, xs (i + 2)), (0, xs (i + 1)), (2, 1)]) (w' := w) (n' := 142) rfl ?_
  rw [show wrp (((i : Nat) : Int) + 3) = ((i + 3 : Nat) : Int) from by rw [wrp_id (by omega) (by omega)]; omega]
  refine qG.gd (P := 0 ≤ ((i + 3 : Nat) : Int) ∧ ((i + 3 : Nat) : Int) < ((L : Nat) : Int)) (pc' := 1213) (ls' := [(3, 0), (2, 1), (2, 95), (0, ((i : Nat) : Int))]) (st' := [(0, xs (i + 3)), (0, xs (i + 2)), (0, xs (i + 1)), (2, 1)]) (w' := w) (n' := 142) rfl (by omega) ?_
  refine qG.call (t := 187) (na := 4) (sk := 1) (md := 1) (ls1 := [(2, 1), (0, xs (i + 1)), (0, xs (i + 2)), (0, xs (i + 3))]) (r1 := []) rfl rfl rfl rfl rfl (SP.useA (c := C_X_habit.2) (as := [(2, 1), (0, xs (i + 1)), (0, xs (i + 2)), (0, xs (i + 3))]) T_X_habit hP (show 2 ≤ d by omega) ⟨⟨rfl, by decide, by decide⟩, ⟨rfl, (hx (i + 1)).1, (hx (i + 1)).2⟩, ⟨rfl, (hx (i + 2)).1, (hx (i + 2)).2⟩, ⟨rfl, (hx (i + 3)).1, (hx (i + 3)).2⟩, trivial⟩ rfl rfl (by decide +kernel)) ?_
  rintro _ w1 _ ⟨x1, rfl, -, -, hP1, rfl, hB1, -⟩
  have hJ1 := hJ.aw hB1 (by decide +kernel)
  show qG (some (L, xs)) (d + 1) 305 1216 [(3, 0), (2, 1), (2, 95), (0, ((i : Nat) : Int))] [(0, x1)] w1 142 Q9
  refine qG.blk 6 (pc' := 1222) (ls' := [(3, 0), (2, 1), (2, 95), (0, ((i : Nat) : Int))]) (st' := [(0, wrp (((i : Nat) : Int) + 1)), (3, 0), (2, 95)]) (w' := w1) (n' := 142) rfl ?_
  rw [show wrp (((i : Nat) : Int) + 1) = ((i + 1 : Nat) : Int) from by rw [wrp_id (by omega) (by omega)]; omega]
  refine qG.gd (P := 0 ≤ ((i + 1 : Nat) : Int) ∧ ((i + 1 : Nat) : Int) < ((L : Nat) : Int)) (pc' := 1223) (ls' := [(3, 0), (2, 1), (2, 95), (0, ((i : Nat) : Int))]) (st' := [(0, xs (i + 1)), (2, 95)]) (w' := w1) (n' := 142) rfl (by omega) ?_
  refine qG.blk 4 (pc' := 1227) (ls' := [(3, 0), (2, 1), (2, 95), (0, ((i : Nat) : Int))]) (st' := [(0, wrp (((i : Nat) : Int) + 2)), (3, 0), (0, xs (i + 1)), (2, 95)]) (w' := w1) (n' := 142) rfl ?_
  rw [show wrp (((i : Nat) : Int) + 2) = ((i + 2 : Nat) : Int) from by rw [wrp_id (by omega) (by omega)]; omega]
  refine qG.gd (P := 0 ≤ ((i + 2 : Nat) : Int) ∧ ((i + 2 : Nat) : Int) < ((L : Nat) : Int)) (pc' := 1228) (ls' := [(3, 0), (2, 1), (2, 95), (0, ((i : Nat) : Int))]) (st' := [(0, xs (i + 2)), (0, xs (i + 1)), (2, 95)]) (w' := w1) (n' := 142) rfl (by omega) ?_
  refine qG.blk 4 (pc' := 1232) (ls' := [(3, 0), (2, 1), (2, 95), (0, ((i : Nat) : Int))]) (st' := [(0, wrp (((i : Nat) : Int) + 3)), (3, 0), (0, xs (i + 2)), (0, xs (i + 1)), (2, 95)]) (w' := w1) (n' := 142) rfl ?_
  rw [show wrp (((i : Nat) : Int) + 3) = ((i + 3 : Nat) : Int) from by rw [wrp_id (by omega) (by omega)]; omega]
  refine qG.gd (P := 0 ≤ ((i + 3 : Nat) : Int) ∧ ((i + 3 : Nat) : Int) < ((L : Nat) : Int)) (pc' := 1233) (ls' := [(3, 0), (2, 1), (2, 95), (0, ((i : Nat) : Int))]) (st' := [(0, xs (i + 3)), (0, xs (i + 2)), (0, xs (i + 1)), (2, 95)]) (w' := w1) (n' := 142) rfl (by omega) ?_
  refine qG.call (t := 282) (na := 4) (sk := 1) (md := 1) (ls1 := [(2, 95), (0, xs (i + 1)), (0, xs (i + 2)), (0, xs (i + 3))]) (r1 := []) rfl rfl rfl rfl rfl (SP.useA (c := C_R_habit.2) (as := [(2, 95), (0, xs (i + 1)), (0, xs (i + 2)), (0, xs (i + 3))]) T_R_habit hP1 (show 2 ≤ d by omega) ⟨⟨rfl, by decide, by decide⟩, ⟨rfl, (hx (i + 1)).1, (hx (i + 1)).2⟩, ⟨rfl, (hx (i + 2)).1, (hx (i + 2)).2⟩, ⟨rfl, (hx (i + 3)).1, (hx (i + 3)).2⟩, trivial⟩ rfl rfl (by decide +kernel)) ?_
  rintro _ w2 _ ⟨x2, rfl, -, -, hP2, rfl, hB2, -⟩
  have hJ2 := hJ1.aw hB2 (by decide +kernel)
  show qG (some (L, xs)) (d + 1) 305 1236 [(3, 0), (2, 1), (2, 95), (0, ((i : Nat) : Int))] [(0, x2)] w2 142 Q9
  refine qG.blk 2 (pc' := 1610) (ls' := [(3, 0), (2, 1), (2, 95), (0, ((i : Nat) : Int))]) (st' := []) (w' := w2) (n' := 142) rfl ?_
  exact H _ hP2 hJ2
theorem O_24 {L : Nat} {xs : Nat → Int} (hx : ∀ j, -2147483648 ≤ xs j ∧ xs j ≤ 2147483647) (i : Nat) (hi : i + 6 ≤ L) (hL : L ≤ 3072) {d : Nat} (hd : 70 ≤ d) (w : qW) (hP : SP w) (hJ : JW w) {Q9 : qV → qW → Nat → Prop} (H : ∀ w1, SP w1 → JW w1 → qG (some (L, xs)) d 305 1610 [(3, 0), (2, 1), (2, 95), (0, ((i : Nat) : Int))] [] w1 142 Q9) : qG (some (L, xs)) d 305 33 [(3, 0), (2, 1), (2, 95), (0, ((i : Nat) : Int))] [(0, 24)] w 142 Q9 := by
  obtain ⟨d, rfl⟩ : ∃ d9, d = d9 + 1 := ⟨d - 1, by omega⟩
  refine qG.blk 6 (pc' := 1245) (ls' := [(3, 0), (2, 1), (2, 95), (0, ((i : Nat) : Int))]) (st' := [(0, wrp (((i : Nat) : Int) + 1)), (3, 0), (2, 1)]) (w' := w) (n' := 142) rfl ?_
  rw [show wrp (((i : Nat) : Int) + 1) = ((i + 1 : Nat) : Int) from by rw [wrp_id (by omega) (by omega)]; omega]
  refine qG.gd (P := 0 ≤ ((i + 1 : Nat) : Int) ∧ ((i + 1 : Nat) : Int) < ((L : Nat) : Int)) (pc' := 1246) (ls' := [(3, 0), (2, 1), (2, 95), (0, ((i : Nat) : Int))]) (st' := [(0, xs (i + 1)), (2, 1)]) (w' := w) (n' := 142) rfl (by omega) ?_
  refine qG.blk 4 (pc' := 1250) (ls' := [(3, 0), (2, 1), (2, 95), (0, ((i : Nat) : Int))]) (st' := [(0, wrp (((i : Nat) : Int) + 2)), (3, 0), (0, xs (i + 1)), (2, 1)]) (w' := w) (n' := 142) rfl ?_
  rw [show wrp (((i : Nat) : Int) + 2) = ((i + 2 : Nat) : Int) from by rw [wrp_id (by omega) (by omega)]; omega]
  refine qG.gd (P := 0 ≤ ((i + 2 : Nat) : Int) ∧ ((i + 2 : Nat) : Int) < ((L : Nat) : Int)) (pc' := 1251) (ls' := [(3, 0), (2, 1), (2, 95), (0, ((i : Nat) : Int))]) (st' := [(0, xs (i + 2)), (0, xs (i + 1)), (2, 1)]) (w' := w) (n' := 142) rfl (by omega) ?_
  refine qG.blk 4 (pc' := 1255) (ls' := [(3, 0), (2, 1), (2, 95), (0, ((i : Nat) : Int))]) (st' := [(0, wrp (((i : Nat) : Int) + 3)), (3, 0), (0, xs (i + 2)), (0, xs (i + 1)), (2, 1)]) (w' := w) (n' := 142) rfl ?_
  rw [show wrp (((i : Nat) : Int) + 3) = ((i + 3 : Nat) : Int) from by rw [wrp_id (by omega) (by omega)]; omega]
  refine qG.gd (P := 0 ≤ ((i + 3 : Nat) : Int) ∧ ((i + 3 : Nat) : Int) < ((L : Nat) : Int)) (pc' := 1256) (ls' := [(3, 0), (2, 1), (2, 95), (0, ((i : Nat) : Int))]) (st' := [(0, xs (i + 3)), (0, xs (i + 2)), (0, xs (i + 1)), (2, 1)]) (w' := w) (n' := 142) rfl (by omega) ?_
  refine qG.blk 4 (pc' := 1260) (ls' := [(3, 0), (2, 1), (2, 95), (0, ((i : Nat) : Int))]) (st' := [(0, wrp (((i : Nat) : Int) + 4)), (3, 0), (0, xs (i + 3)), (0, xs (i + 2)), (0, xs (i + 1)), (2, 1)]) (w' := w) (n' := 142) rfl ?_
  rw [show wrp (((i : Nat) : Int) + 4) = ((i + 4 : Nat) : Int) from by rw [wrp_id (by omega) (by omega)]; omega]
  refine qG.gd (P := 0 ≤ ((i + 4 : Nat) : Int) ∧ ((i + 4 : Nat) : Int) < ((L : Nat) : Int)) (pc' := 1261) (ls' := [(3, 0), (2, 1), (2, 95), (0, ((i : Nat) : Int))]) (st' := [(0, xs (i + 4)), (0, xs (i + 3)), (0, xs (i + 2)), (0, xs (i + 1)), (2, 1)]) (w' := w) (n' := 142) rfl (by omega) ?_
  refine qG.blk 4 (pc' := 1265) (ls' := [(3, 0), (2, 1), (2, 95), (0, ((i : Nat) : Int))]) (st' := [(0, wrp (((i : Nat) : Int) + 5)), (3, 0), (0, xs (i + 4)), (0, xs (i + 3)), (0, xs (i + 2)), (0, xs (i + 1)), (2, 1)]) (w' := w) (n' := 142) rfl ?_
  rw [show wrp (((i : Nat) : Int) + 5) = ((i + 5 : Nat) : Int) from by rw [wrp_id (by omega) (by omega)]; omega]
  refine qG.gd (P := 0 ≤ ((i + 5 : Nat) : Int) ∧ ((i + 5 : Nat) : Int) < ((L : Nat) : Int)) (pc' := 1266) (ls' := [(3, 0), (2, 1), (2, 95), (0, ((i : Nat) : Int))]) (st' := [(0, xs (i + 5)), (0, xs (i + 4)), (0, xs (i + 3)), (0, xs (i + 2)), (0, xs (i + 1)), (2, 1)]) (w' := w) (n' := 142) rfl (by omega) ?_
  refine qG.call (t := 188) (na := 6) (sk := 1) (md := 1) (ls1 := [(2, 1), (0, xs (i + 1)), (0, xs (i + 2)), (0, xs (i + 3)), (0, xs (i + 4)), (0, xs (i + 5))]) (r1 := []) rfl rfl rfl rfl rfl (SP.useA (c := C_X_night.2) (as := [(2, 1), (0, xs (i + 1)), (0, xs (i + 2)), (0, xs (i + 3)), (0, xs (i + 4)), (0, xs (i + 5))]) T_X_night hP (show 2 ≤ d by omega) ⟨⟨rfl, by decide, by decide⟩, ⟨rfl, (hx (i + 1)).1, (hx (i + 1)).2⟩, ⟨rfl, (hx (i + 2)).1, (hx (i + 2)).2⟩, ⟨rfl, (hx (i + 3)).1, (hx (i + 3)).2⟩, ⟨rfl, (hx (i + 4)).1, (hx (i + 4)).2⟩, ⟨rfl, (hx (i + 5)).1, (hx (i + 5)).2⟩, trivial⟩ rfl rfl (by decide +kernel)) ?_
  rintro _ w1 _ ⟨x1, rfl, -, -, hP1, rfl, hB1, -⟩
  have hJ1 := hJ.aw hB1 (by decide +kernel)
  show qG (some (L, xs)) (d + 1) 305 1269 [(3, 0), (2, 1), (2, 95), (0, ((i : Nat) : Int))] [(0, x1)] w1 142 Q9
  refine qG.blk 6 (pc' := 1275) (ls' := [(3, 0), (2, 1), (2, 95), (0, ((i : Nat) : Int))]) (st' := [(0, wrp (((i : Nat) : Int) + 1)), (3, 0), (2, 95)]) (w' := w1) (n' := 142) rfl ?_
  rw [show wrp (((i : Nat) : Int) + 1) = ((i + 1 : Nat) : Int) from by rw [wrp_id (by omega) (by omega)]; omega]
  refine qG.gd (P := 0 ≤ ((i + 1 : Nat) : Int) ∧ ((i + 1 : Nat) : Int) < ((L : Nat) : Int)) (pc' := 1276) (ls' := [(3, 0), (2, 1), (2, 95), (0, ((i : Nat) : Int))]) (st' := [(0, xs (i + 1)), (2, 95)]) (w' := w1) (n' := 142) rfl (by omega) ?_
  refine qG.blk 4 (pc' := 1280) (ls' := [(3, 0), (2, 1), (2, 95), (0, ((i : Nat) : Int))]) (st' := [(0, wrp (((i : Nat) : Int) + 2)), (3, 0), (0, xs (i + 1)), (2, 95)]) (w' := w1) (n' := 142) rfl ?_
  rw [show wrp (((i : Nat) : Int) + 2) = ((i + 2 : Nat) : Int) from by rw [wrp_id (by omega) (by omega)]; omega]
  refine qG.gd (P := 0 ≤ ((i + 2 : Nat) : Int) ∧ ((i + 2 : Nat) : Int) < ((L : Nat) : Int)) (pc' := 1281) (ls' := [(3, 0), (2, 1), (2, 95), (0, ((i : Nat) : Int))]) (st' := [(0, xs (i + 2)), (0, xs (i + 1)), (2, 95)]) (w' := w1) (n' := 142) rfl (by omega) ?_
  refine qG.blk 4 (pc' := 1285) (ls' := [(3, 0), (2, 1), (2, 95), (0, ((i : Nat) : Int))]) (st' := [(0, wrp (((i : Nat) : Int) + 3)), (3, 0), (0, xs (i + 2)), (0, xs (i + 1)), (2, 95)]) (w' := w1) (n' := 142) rfl ?_
  rw [show wrp (((i : Nat) : Int) + 3) = ((i + 3 : Nat) : Int) from by rw [wrp_id (by omega) (by omega)]; omega]
  refine qG.gd (P := 0 ≤ ((i + 3 : Nat) : Int) ∧ ((i + 3 : Nat) : Int) < ((L : Nat) : Int)) (pc' := 1286) (ls' := [(3, 0), (2, 1), (2, 95), (0, ((i : Nat) : Int))]) (st' := [(0, xs (i + 3)), (0, xs (i + 2)), (0, xs (i + 1)), (2, 95)]) (w' := w1) (n' := 142) rfl (by omega) ?_
  refine qG.blk 4 (pc' := 1290) (ls' := [(3, 0), (2, 1), (2, 95), (0, ((i : Nat) : Int))]) (st' := [(0, wrp (((i : Nat) : Int) + 4)), (3, 0), (0, xs (i + 3)), (0, xs (i + 2)), (0, xs (i + 1)), (2, 95)]) (w' := w1) (n' := 142) rfl ?_
  rw [show wrp (((i : Nat) : Int) + 4) = ((i + 4 : Nat) : Int) from by rw [wrp_id (by omega) (by omega)]; omega]
  refine qG.gd (P := 0 ≤ ((i + 4 : Nat) : Int) ∧ ((i + 4 : Nat) : Int) < ((L : Nat) : Int)) (pc' := 1291) (ls' := [(3, 0), (2, 1), (2, 95), (0, ((i : Nat) : Int))]) (st' := [(0, xs (i + 4)), (0, xs (i + 3)), (0, xs (i + 2)), (0, xs (i + 1)), (2, 95)]) (w' := w1) (n' := 142) rfl (by omega) ?_
  refine qG.blk 4 (pc' := 1295) (ls' := [(3, 0), (2, 1), (2, 95), (0, ((i : Nat) : Int))]) (st' := [(0, wrp (((i : Nat) : Int) + 5)), (3, 0), (0, xs (i + 4)), (0, xs (i + 3)), (0, xs (i + 2)), (0, xs (i + 1)), (2, 95)]) (w' := w1) (n' := 142) rfl ?_
  rw [show wrp (((i : Nat) : Int) + 5) = ((i + 5 : Nat) : Int) from by rw [wrp_id (by omega) (by omega)]; omega]
  refine qG.gd (P := 0 ≤ ((i + 5 : Nat) : Int) ∧ ((i + 5 : Nat) : Int) < ((L : Nat) : Int)) (pc' := 1296) (ls' := [(3, 0), (2, 1), (2, 95), (0, ((i : Nat) : Int))]) (st' := [(0, xs (i + 5)), (0, xs (i + 4)), (0, xs (i + 3)), (0, xs (i + 2)), (0, xs (i + 1)), (2, 95)]) (w' := w1) (n' := 142) rfl (by omega) ?_
  refine qG.call (t := 283) (na := 6) (sk := 1) (md := 1) (ls1 := [(2, 95), (0, xs (i + 1)), (0, xs (i + 2)), (0, xs (i + 3)), (0, xs (i + 4)), (0, xs (i + 5))]) (r1 := []) rfl rfl rfl rfl rfl (SP.useA (c := C_R_night.2) (as := [(2, 95), (0, xs (i + 1)), (0, xs (i + 2)), (0, xs (i + 3)), (0, xs (i + 4)), (0, xs (i + 5))]) T_R_night hP1 (show 1 ≤ d by omega) ⟨⟨rfl, by decide, by decide⟩, ⟨rfl, (hx (i + 1)).1, (hx (i + 1)).2⟩, ⟨rfl, (hx (i + 2)).1, (hx (i + 2)).2⟩, ⟨rfl, (hx (i + 3)).1, (hx (i + 3)).2⟩, ⟨rfl, (hx (i + 4)).1, (hx (i + 4)).2⟩, ⟨rfl, (hx (i + 5)).1, (hx (i + 5)).2⟩, trivial⟩ rfl rfl (by decide +kernel)) ?_
  rintro _ w2 _ ⟨x2, rfl, -, -, hP2, rfl, hB2, -⟩
  have hJ2 := hJ1.aw hB2 (by decide +kernel)
  show qG (some (L, xs)) (d + 1) 305 1299 [(3, 0), (2, 1), (2, 95), (0, ((i : Nat) : Int))] [(0, x2)] w2 142 Q9
  refine qG.blk 2 (pc' := 1610) (ls' := [(3, 0), (2, 1), (2, 95), (0, ((i : Nat) : Int))]) (st' := []) (w' := w2) (n' := 142) rfl ?_
  exact H _ hP2 hJ2
theorem O_25 {L : Nat} {xs : Nat → Int} (hx : ∀ j, -2147483648 ≤ xs j ∧ xs j ≤ 2147483647) (i : Nat) (hi : i + 6 ≤ L) (hL : L ≤ 3072) {d : Nat} (hd : 70 ≤ d) (w : qW) (hP : SP w) (hJ : JW w) {Q9 : qV → qW → Nat → Prop} (H : ∀ w1, SP w1 → JW w1 → qG (some (L, xs)) d 305 1610 [(3, 0), (2, 1), (2, 95), (0, ((i : Nat) : Int))] [] w1 142 Q9) : qG (some (L, xs)) d 305 33 [(3, 0), (2, 1), (2, 95), (0, ((i : Nat) : Int))] [(0, 25)] w 142 Q9 := by
  obtain ⟨d, rfl⟩ : ∃ d9, d = d9 + 1 := ⟨d - 1, by omega⟩
  refine qG.blk 6 (pc' := 1308) (ls' := [(3, 0), (2, 1), (2, 95), (0, ((i : Nat) : Int))]) (st' := [(0, wrp (((i : Nat) : Int) + 1)), (3, 0), (2, 1)]) (w' := w) (n' := 142) rfl ?_
  rw [show wrp (((i : Nat) : Int) + 1) = ((i + 1 : Nat) : Int) from by rw [wrp_id (by omega) (by omega)]; omega]
  refine qG.gd (P := 0 ≤ ((i + 1 : Nat) : Int) ∧ ((i + 1 : Nat) : Int) < ((L : Nat) : Int)) (pc' := 1309) (ls' := [(3, 0), (2, 1), (2, 95), (0, ((i : Nat) : Int))]) (st' := [(0, xs (i + 1)), (2, 1)]) (w' := w) (n' := 142) rfl (by omega) ?_
  refine qG.blk 4 (pc' := 1313) (ls' := [(3, 0), (2, 1), (2, 95), (0, ((i : Nat) : Int))]) (st' := [(0, wrp (((i : Nat) : Int) + 2)), (3, 0), (0, xs (i + 1)), (2, 1)]) (w' := w) (n' := 142) rfl ?_
  rw [show wrp (((i : Nat) : Int) + 2) = ((i + 2 : Nat) : Int) from by rw [wrp_id (by omega) (by omega)]; omega]
  refine qG.gd (P := 0 ≤ ((i + 2 : Nat) : Int) ∧ ((i + 2 : Nat) : Int) < ((L : Nat) : Int)) (pc' := 1314) (ls' := [(3, 0), (2, 1), (2, 95), (0, ((i : Nat) : Int))]) (st' := [(0, xs (i + 2)), (0, xs (i + 1)), (2, 1)]) (w' := w) (n' := 142) rfl (by omega) ?_
  refine qG.blk 4 (pc' := 1318) (ls' := [(3, 0), (2, 1), (2, 95), (0, ((i : Nat) : Int))]) (st' := [(0, wrp (((i : Nat) : Int) + 3)), (3, 0), (0, xs (i + 2)), (0, xs (i + 1)), (2, 1)]) (w' := w) (n' := 142) rfl ?_
  rw [show wrp (((i : Nat) : Int) + 3) = ((i + 3 : Nat) : Int) from by rw [wrp_id (by omega) (by omega)]; omega]
  refine qG.gd (P := 0 ≤ ((i + 3 : Nat) : Int) ∧ ((i + 3 : Nat) : Int) < ((L : Nat) : Int)) (pc' := 1319) (ls' := [(3, 0), (2, 1), (2, 95), (0, ((i : Nat) : Int))]) (st' := [(0, xs (i + 3)), (0, xs (i + 2)), (0, xs (i + 1)), (2, 1)]) (w' := w) (n' := 142) rfl (by omega) ?_
  refine qG.call (t := 189) (na := 4) (sk := 1) (md := 1) (ls1 := [(2, 1), (0, xs (i + 1)), (0, xs (i + 2)), (0, xs (i + 3))]) (r1 := []) rfl rfl rfl rfl rfl (SP.useA (c := C_X_who.2) (as := [(2, 1), (0, xs (i + 1)), (0, xs (i + 2)), (0, xs (i + 3))]) T_X_who hP (show 5 ≤ d by omega) ⟨⟨rfl, by decide, by decide⟩, ⟨rfl, (hx (i + 1)).1, (hx (i + 1)).2⟩, ⟨rfl, (hx (i + 2)).1, (hx (i + 2)).2⟩, ⟨rfl, (hx (i + 3)).1, (hx (i + 3)).2⟩, trivial⟩ rfl rfl (by decide +kernel)) ?_
  rintro _ w1 _ ⟨x1, rfl, -, -, hP1, rfl, hB1, -⟩
  have hJ1 := hJ.aw hB1 (by decide +kernel)
  show qG (some (L, xs)) (d + 1) 305 1322 [(3, 0), (2, 1), (2, 95), (0, ((i : Nat) : Int))] [(0, x1)] w1 142 Q9
  refine qG.blk 6 (pc' := 1328) (ls' := [(3, 0), (2, 1), (2, 95), (0, ((i : Nat) : Int))]) (st' := [(0, wrp (((i : Nat) : Int) + 1)), (3, 0), (2, 95)]) (w' := w1) (n' := 142) rfl ?_
  rw [show wrp (((i : Nat) : Int) + 1) = ((i + 1 : Nat) : Int) from by rw [wrp_id (by omega) (by omega)]; omega]
  refine qG.gd (P := 0 ≤ ((i + 1 : Nat) : Int) ∧ ((i + 1 : Nat) : Int) < ((L : Nat) : Int)) (pc' := 1329) (ls' := [(3, 0), (2, 1), (2, 95), (0, ((i : Nat) : Int))]) (st' := [(0, xs (i + 1)), (2, 95)]) (w' := w1) (n' := 142) rfl (by omega) ?_
  refine qG.blk 4 (pc' := 1333) (ls' := [(3, 0), (2, 1), (2, 95), (0, ((i : Nat) : Int))]) (st' := [(0, wrp (((i : Nat) : Int) + 2)), (3, 0), (0, xs (i + 1)), (2, 95)]) (w' := w1) (n' := 142) rfl ?_
  rw [show wrp (((i : Nat) : Int) + 2) = ((i + 2 : Nat) : Int) from by rw [wrp_id (by omega) (by omega)]; omega]
  refine qG.gd (P := 0 ≤ ((i + 2 : Nat) : Int) ∧ ((i + 2 : Nat) : Int) < ((L : Nat) : Int)) (pc' := 1334) (ls' := [(3, 0), (2, 1), (2, 95), (0, ((i : Nat) : Int))]) (st' := [(0, xs (i + 2)), (0, xs (i + 1)), (2, 95)]) (w' := w1) (n' := 142) rfl (by omega) ?_
  refine qG.blk 4 (pc' := 1338) (ls' := [(3, 0), (2, 1), (2, 95), (0, ((i : Nat) : Int))]) (st' := [(0, wrp (((i : Nat) : Int) + 3)), (3, 0), (0, xs (i + 2)), (0, xs (i + 1)), (2, 95)]) (w' := w1) (n' := 142) rfl ?_
  rw [show wrp (((i : Nat) : Int) + 3) = ((i + 3 : Nat) : Int) from by rw [wrp_id (by omega) (by omega)]; omega]
  refine qG.gd (P := 0 ≤ ((i + 3 : Nat) : Int) ∧ ((i + 3 : Nat) : Int) < ((L : Nat) : Int)) (pc' := 1339) (ls' := [(3, 0), (2, 1), (2, 95), (0, ((i : Nat) : Int))]) (st' := [(0, xs (i + 3)), (0, xs (i + 2)), (0, xs (i + 1)), (2, 95)]) (w' := w1) (n' := 142) rfl (by omega) ?_
  refine qG.call (t := 286) (na := 4) (sk := 1) (md := 1) (ls1 := [(2, 95), (0, xs (i + 1)), (0, xs (i + 2)), (0, xs (i + 3)), (9, 0), (9, 0)]) (r1 := []) rfl rfl rfl rfl rfl (SP.useA (c := C_R_who.2) (as := [(2, 95), (0, xs (i + 1)), (0, xs (i + 2)), (0, xs (i + 3))]) T_R_who hP1 (show 3 ≤ d by omega) ⟨⟨rfl, by decide, by decide⟩, ⟨rfl, (hx (i + 1)).1, (hx (i + 1)).2⟩, ⟨rfl, (hx (i + 2)).1, (hx (i + 2)).2⟩, ⟨rfl, (hx (i + 3)).1, (hx (i + 3)).2⟩, trivial⟩ rfl rfl (by decide +kernel)) ?_
  rintro _ w2 _ ⟨x2, rfl, -, -, hP2, rfl, hB2, -⟩
  have hJ2 := hJ1.aw hB2 (by decide +kernel)
  show qG (some (L, xs)) (d + 1) 305 1342 [(3, 0), (2, 1), (2, 95), (0, ((i : Nat) : Int))] [(0, x2)] w2 142 Q9
  refine qG.blk 2 (pc' := 1610) (ls' := [(3, 0), (2, 1), (2, 95), (0, ((i : Nat) : Int))]) (st' := []) (w' := w2) (n' := 142) rfl ?_
  exact H _ hP2 hJ2
theorem O_26 {L : Nat} {xs : Nat → Int} (hx : ∀ j, -2147483648 ≤ xs j ∧ xs j ≤ 2147483647) (i : Nat) (hi : i + 6 ≤ L) (hL : L ≤ 3072) {d : Nat} (hd : 70 ≤ d) (w : qW) (hP : SP w) (hJ : JW w) {Q9 : qV → qW → Nat → Prop} (H : ∀ w1, SP w1 → JW w1 → qG (some (L, xs)) d 305 1610 [(3, 0), (2, 1), (2, 95), (0, ((i : Nat) : Int))] [] w1 142 Q9) : qG (some (L, xs)) d 305 33 [(3, 0), (2, 1), (2, 95), (0, ((i : Nat) : Int))] [(0, 26)] w 142 Q9 := by
  obtain ⟨d, rfl⟩ : ∃ d9, d = d9 + 1 := ⟨d - 1, by omega⟩
  refine qG.blk 6 (pc' := 1351) (ls' := [(3, 0), (2, 1), (2, 95), (0, ((i : Nat) : Int))]) (st' := [(0, wrp (((i : Nat) : Int) + 1)), (3, 0), (2, 1)]) (w' := w) (n' := 142) rfl ?_
  rw [show wrp (((i : Nat) : Int) + 1) = ((i + 1 : Nat) : Int) from by rw [wrp_id (by omega) (by omega)]; omega]
  refine qG.gd (P := 0 ≤ ((i + 1 : Nat) : Int) ∧ ((i + 1 : Nat) : Int) < ((L : Nat) : Int)) (pc' := 1352) (ls' := [(3, 0), (2, 1), (2, 95), (0, ((i : Nat) : Int))]) (st' := [(0, xs (i + 1)), (2, 1)]) (w' := w) (n' := 142) rfl (by omega) ?_
  refine qG.blk 4 (pc' := 1356) (ls' := [(3, 0), (2, 1), (2, 95), (0, ((i : Nat) : Int))]) (st' := [(0, wrp (((i : Nat) : Int) + 2)), (3, 0), (0, xs (i + 1)), (2, 1)]) (w' := w) (n' := 142) rfl ?_
  rw [show wrp (((i : Nat) : Int) + 2) = ((i + 2 : Nat) : Int) from by rw [wrp_id (by omega) (by omega)]; omega]
  refine qG.gd (P := 0 ≤ ((i + 2 : Nat) : Int) ∧ ((i + 2 : Nat) : Int) < ((L : Nat) : Int)) (pc' := 1357) (ls' := [(3, 0), (2, 1), (2, 95), (0, ((i : Nat) : Int))]) (st' := [(0, xs (i + 2)), (0, xs (i + 1)), (2, 1)]) (w' := w) (n' := 142) rfl (by omega) ?_
  refine qG.blk 4 (pc' := 1361) (ls' := [(3, 0), (2, 1), (2, 95), (0, ((i : Nat) : Int))]) (st' := [(0, wrp (((i : Nat) : Int) + 3)), (3, 0), (0, xs (i + 2)), (0, xs (i + 1)), (2, 1)]) (w' := w) (n' := 142) rfl ?_
  rw [show wrp (((i : Nat) : Int) + 3) = ((i + 3 : Nat) : Int) from by rw [wrp_id (by omega) (by omega)]; omega]
  refine qG.gd (P := 0 ≤ ((i + 3 : Nat) : Int) ∧ ((i + 3 : Nat) : Int) < ((L : Nat) : Int)) (pc' := 1362) (ls' := [(3, 0), (2, 1), (2, 95), (0, ((i : Nat) : Int))]) (st' := [(0, xs (i + 3)), (0, xs (i + 2)), (0, xs (i + 1)), (2, 1)]) (w' := w) (n' := 142) rfl (by omega) ?_
  refine qG.call (t := 190) (na := 4) (sk := 1) (md := 1) (ls1 := [(2, 1), (0, xs (i + 1)), (0, xs (i + 2)), (0, xs (i + 3))]) (r1 := []) rfl rfl rfl rfl rfl (SP.useA (c := C_X_all.2) (as := [(2, 1), (0, xs (i + 1)), (0, xs (i + 2)), (0, xs (i + 3))]) T_X_all hP (show 5 ≤ d by omega) ⟨⟨rfl, by decide, by decide⟩, ⟨rfl, (hx (i + 1)).1, (hx (i + 1)).2⟩, ⟨rfl, (hx (i + 2)).1, (hx (i + 2)).2⟩, ⟨rfl, (hx (i + 3)).1, (hx (i + 3)).2⟩, trivial⟩ rfl rfl (by decide +kernel)) ?_
  rintro _ w1 _ ⟨x1, rfl, -, -, hP1, rfl, hB1, -⟩
  have hJ1 := hJ.aw hB1 (by decide +kernel)
  show qG (some (L, xs)) (d + 1) 305 1365 [(3, 0), (2, 1), (2, 95), (0, ((i : Nat) : Int))] [(0, x1)] w1 142 Q9
  refine qG.blk 6 (pc' := 1371) (ls' := [(3, 0), (2, 1), (2, 95), (0, ((i : Nat) : Int))]) (st' := [(0, wrp (((i : Nat) : Int) + 1)), (3, 0), (2, 95)]) (w' := w1) (n' := 142) rfl ?_
  rw [show wrp (((i : Nat) : Int) + 1) = ((i + 1 : Nat) : Int) from by rw [wrp_id (by omega) (by omega)]; omega]
  refine qG.gd (P := 0 ≤ ((i + 1 : Nat) : Int) ∧ ((i + 1 : Nat) : Int) < ((L : Nat) : Int)) (pc' := 1372) (ls' := [(3, 0), (2, 1), (2, 95), (0, ((i : Nat) : Int))]) (st' := [(0, xs (i + 1)), (2, 95)]) (w' := w1) (n' := 142) rfl (by omega) ?_
  refine qG.blk 4 (pc' := 1376) (ls' := [(3, 0), (2, 1), (2, 95), (0, ((i : Nat) : Int))]) (st' := [(0, wrp (((i : Nat) : Int) + 2)), (3, 0), (0, xs (i + 1)), (2, 95)]) (w' := w1) (n' := 142) rfl ?_
  rw [show wrp (((i : Nat) : Int) + 2) = ((i + 2 : Nat) : Int) from by rw [wrp_id (by omega) (by omega)]; omega]
  refine qG.gd (P := 0 ≤ ((i + 2 : Nat) : Int) ∧ ((i + 2 : Nat) : Int) < ((L : Nat) : Int)) (pc' := 1377) (ls' := [(3, 0), (2, 1), (2, 95), (0, ((i : Nat) : Int))]) (st' := [(0, xs (i + 2)), (0, xs (i + 1)), (2, 95)]) (w' := w1) (n' := 142) rfl (by omega) ?_
  refine qG.blk 4 (pc' := 1381) (ls' := [(3, 0), (2, 1), (2, 95), (0, ((i : Nat) : Int))]) (st' := [(0, wrp (((i : Nat) : Int) + 3)), (3, 0), (0, xs (i + 2)), (0, xs (i + 1)), (2, 95)]) (w' := w1) (n' := 142) rfl ?_
  rw [show wrp (((i : Nat) : Int) + 3) = ((i + 3 : Nat) : Int) from by rw [wrp_id (by omega) (by omega)]; omega]
  refine qG.gd (P := 0 ≤ ((i + 3 : Nat) : Int) ∧ ((i + 3 : Nat) : Int) < ((L : Nat) : Int)) (pc' := 1382) (ls' := [(3, 0), (2, 1), (2, 95), (0, ((i : Nat) : Int))]) (st' := [(0, xs (i + 3)), (0, xs (i + 2)), (0, xs (i + 1)), (2, 95)]) (w' := w1) (n' := 142) rfl (by omega) ?_
  refine qG.call (t := 287) (na := 4) (sk := 1) (md := 1) (ls1 := [(2, 95), (0, xs (i + 1)), (0, xs (i + 2)), (0, xs (i + 3)), (9, 0), (9, 0), (9, 0)]) (r1 := []) rfl rfl rfl rfl rfl (K_all (show _ ≤ d by omega) (xs (i + 1)) (xs (i + 2)) (xs (i + 3)) w1 hP1.1) ?_
  rintro r2 w2 n2 hq2
  have hP2 := hP1.aw hq2.2.2 (by decide +kernel)
  have hJ2 := hJ1.aw hq2.2.2 (by decide +kernel)
  obtain ⟨rfl, ⟨x2, rfl⟩, -⟩ := hq2
  show qG (some (L, xs)) (d + 1) 305 1385 [(3, 0), (2, 1), (2, 95), (0, ((i : Nat) : Int))] [(0, x2)] w2 142 Q9
  refine qG.blk 2 (pc' := 1610) (ls' := [(3, 0), (2, 1), (2, 95), (0, ((i : Nat) : Int))]) (st' := []) (w' := w2) (n' := 142) rfl ?_
  exact H _ hP2 hJ2
theorem O_27 {L : Nat} {xs : Nat → Int} (hx : ∀ j, -2147483648 ≤ xs j ∧ xs j ≤ 2147483647) (i : Nat) (hi : i + 6 ≤ L) (hL : L ≤ 3072) {d : Nat} (hd : 70 ≤ d) (w : qW) (hP : SP w) (hJ : JW w) {Q9 : qV → qW → Nat → Prop} (H : ∀ w1, SP w1 → JW w1 → qG (some (L, xs)) d 305 1610 [(3, 0), (2, 1), (2, 95), (0, ((i : Nat) : Int))] [] w1 142 Q9) : qG (some (L, xs)) d 305 33 [(3, 0), (2, 1), (2, 95), (0, ((i : Nat) : Int))] [(0, 27)] w 142 Q9 := by
  obtain ⟨d, rfl⟩ : ∃ d9, d = d9 + 1 := ⟨d - 1, by omega⟩
  refine qG.blk 6 (pc' := 1394) (ls' := [(3, 0), (2, 1), (2, 95), (0, ((i : Nat) : Int))]) (st' := [(0, wrp (((i : Nat) : Int) + 1)), (3, 0), (2, 1)]) (w' := w) (n' := 142) rfl ?_
  rw [show wrp (((i : Nat) : Int) + 1) = ((i + 1 : Nat) : Int) from by rw [wrp_id (by omega) (by omega)]; omega]
  refine qG.gd (P := 0 ≤ ((i + 1 : Nat) : Int) ∧ ((i + 1 : Nat) : Int) < ((L : Nat) : Int)) (pc' := 1395) (ls' := [(3, 0), (2, 1), (2, 95), (0, ((i : Nat) : Int))]) (st' := [(0, xs (i + 1)), (2, 1)]) (w' := w) (n' := 142) rfl (by omega) ?_
  refine qG.blk 4 (pc' := 1399) (ls' := [(3, 0), (2, 1), (2, 95), (0, ((i : Nat) : Int))]) (st' := [(0, wrp (((i : Nat) : Int) + 2)), (3, 0), (0, xs (i + 1)), (2, 1)]) (w' := w) (n' := 142) rfl ?_
  rw [show wrp (((i : Nat) : Int) + 2) = ((i + 2 : Nat) : Int) from by rw [wrp_id (by omega) (by omega)]; omega]
  refine qG.gd (P := 0 ≤ ((i + 2 : Nat) : Int) ∧ ((i + 2 : Nat) : Int) < ((L : Nat) : Int)) (pc' := 1400) (ls' := [(3, 0), (2, 1), (2, 95), (0, ((i : Nat) : Int))]) (st' := [(0, xs (i + 2)), (0, xs (i + 1)), (2, 1)]) (w' := w) (n' := 142) rfl (by omega) ?_
  refine qG.blk 4 (pc' := 1404) (ls' := [(3, 0), (2, 1), (2, 95), (0, ((i : Nat) : Int))]) (st' := [(0, wrp (((i : Nat) : Int) + 3)), (3, 0), (0, xs (i + 2)), (0, xs (i + 1)), (2, 1)]) (w' := w) (n' := 142) rfl ?_
  rw [show wrp (((i : Nat) : Int) + 3) = ((i + 3 : Nat) : Int) from by rw [wrp_id (by omega) (by omega)]; omega]
  refine qG.gd (P := 0 ≤ ((i + 3 : Nat) : Int) ∧ ((i + 3 : Nat) : Int) < ((L : Nat) : Int)) (pc' := 1405) (ls' := [(3, 0), (2, 1), (2, 95), (0, ((i : Nat) : Int))]) (st' := [(0, xs (i + 3)), (0, xs (i + 2)), (0, xs (i + 1)), (2, 1)]) (w' := w) (n' := 142) rfl (by omega) ?_
  refine qG.blk 4 (pc' := 1409) (ls' := [(3, 0), (2, 1), (2, 95), (0, ((i : Nat) : Int))]) (st' := [(0, wrp (((i : Nat) : Int) + 4)), (3, 0), (0, xs (i + 3)), (0, xs (i + 2)), (0, xs (i + 1)), (2, 1)]) (w' := w) (n' := 142) rfl ?_
  rw [show wrp (((i : Nat) : Int) + 4) = ((i + 4 : Nat) : Int) from by rw [wrp_id (by omega) (by omega)]; omega]
  refine qG.gd (P := 0 ≤ ((i + 4 : Nat) : Int) ∧ ((i + 4 : Nat) : Int) < ((L : Nat) : Int)) (pc' := 1410) (ls' := [(3, 0), (2, 1), (2, 95), (0, ((i : Nat) : Int))]) (st' := [(0, xs (i + 4)), (0, xs (i + 3)), (0, xs (i + 2)), (0, xs (i + 1)), (2, 1)]) (w' := w) (n' := 142) rfl (by omega) ?_
  refine qG.call (t := 191) (na := 5) (sk := 1) (md := 1) (ls1 := [(2, 1), (0, xs (i + 1)), (0, xs (i + 2)), (0, xs (i + 3)), (0, xs (i + 4))]) (r1 := []) rfl rfl rfl rfl rfl (SP.useA (c := C_X_cam.2) (as := [(2, 1), (0, xs (i + 1)), (0, xs (i + 2)), (0, xs (i + 3)), (0, xs (i + 4))]) T_X_cam hP (show 3 ≤ d by omega) ⟨⟨rfl, by decide, by decide⟩, ⟨rfl, (hx (i + 1)).1, (hx (i + 1)).2⟩, ⟨rfl, (hx (i + 2)).1, (hx (i + 2)).2⟩, ⟨rfl, (hx (i + 3)).1, (hx (i + 3)).2⟩, ⟨rfl, (hx (i + 4)).1, (hx (i + 4)).2⟩, trivial⟩ rfl rfl (by decide +kernel)) ?_
  rintro _ w1 _ ⟨x1, rfl, -, -, hP1, rfl, hB1, -⟩
  have hJ1 := hJ.aw hB1 (by decide +kernel)
  show qG (some (L, xs)) (d + 1) 305 1413 [(3, 0), (2, 1), (2, 95), (0, ((i : Nat) : Int))] [(0, x1)] w1 142 Q9
  refine qG.blk 6 (pc' := 1419) (ls' := [(3, 0), (2, 1), (2, 95), (0, ((i : Nat) : Int))]) (st' := [(0, wrp (((i : Nat) : Int) + 1)), (3, 0), (2, 95)]) (w' := w1) (n' := 142) rfl ?_
  rw [show wrp (((i : Nat) : Int) + 1) = ((i + 1 : Nat) : Int) from by rw [wrp_id (by omega) (by omega)]; omega]
  refine qG.gd (P := 0 ≤ ((i + 1 : Nat) : Int) ∧ ((i + 1 : Nat) : Int) < ((L : Nat) : Int)) (pc' := 1420) (ls' := [(3, 0), (2, 1), (2, 95), (0, ((i : Nat) : Int))]) (st' := [(0, xs (i + 1)), (2, 95)]) (w' := w1) (n' := 142) rfl (by omega) ?_
  refine qG.blk 4 (pc' := 1424) (ls' := [(3, 0), (2, 1), (2, 95), (0, ((i : Nat) : Int))]) (st' := [(0, wrp (((i : Nat) : Int) + 2)), (3, 0), (0, xs (i + 1)), (2, 95)]) (w' := w1) (n' := 142) rfl ?_
  rw [show wrp (((i : Nat) : Int) + 2) = ((i + 2 : Nat) : Int) from by rw [wrp_id (by omega) (by omega)]; omega]
  refine qG.gd (P := 0 ≤ ((i + 2 : Nat) : Int) ∧ ((i + 2 : Nat) : Int) < ((L : Nat) : Int)) (pc' := 1425) (ls' := [(3, 0), (2, 1), (2, 95), (0, ((i : Nat) : Int))]) (st' := [(0, xs (i + 2)), (0, xs (i + 1)), (2, 95)]) (w' := w1) (n' := 142) rfl (by omega) ?_
  refine qG.blk 4 (pc' := 1429) (ls' := [(3, 0), (2, 1), (2, 95), (0, ((i : Nat) : Int))]) (st' := [(0, wrp (((i : Nat) : Int) + 3)), (3, 0), (0, xs (i + 2)), (0, xs (i + 1)), (2, 95)]) (w' := w1) (n' := 142) rfl ?_
  rw [show wrp (((i : Nat) : Int) + 3) = ((i + 3 : Nat) : Int) from by rw [wrp_id (by omega) (by omega)]; omega]
  refine qG.gd (P := 0 ≤ ((i + 3 : Nat) : Int) ∧ ((i + 3 : Nat) : Int) < ((L : Nat) : Int)) (pc' := 1430) (ls' := [(3, 0), (2, 1), (2, 95), (0, ((i : Nat) : Int))]) (st' := [(0, xs (i + 3)), (0, xs (i + 2)), (0, xs (i + 1)), (2, 95)]) (w' := w1) (n' := 142) rfl (by omega) ?_
  refine qG.blk 4 (pc' := 1434) (ls' := [(3, 0), (2, 1), (2, 95), (0, ((i : Nat) : Int))]) (st' := [(0, wrp (((i : Nat) : Int) + 4)), (3, 0), (0, xs (i + 3)), (0, xs (i + 2)), (0, xs (i + 1)), (2, 95)]) (w' := w1) (n' := 142) rfl ?_
  rw [show wrp (((i : Nat) : Int) + 4) = ((i + 4 : Nat) : Int) from by rw [wrp_id (by omega) (by omega)]; omega]
  refine qG.gd (P := 0 ≤ ((i + 4 : Nat) : Int) ∧ ((i + 4 : Nat) : Int) < ((L : Nat) : Int)) (pc' := 1435) (ls' := [(3, 0), (2, 1), (2, 95), (0, ((i : Nat) : Int))]) (st' := [(0, xs (i + 4)), (0, xs (i + 3)), (0, xs (i + 2)), (0, xs (i + 1)), (2, 95)]) (w' := w1) (n' := 142) rfl (by omega) ?_
  refine qG.call (t := 288) (na := 5) (sk := 1) (md := 1) (ls1 := [(2, 95), (0, xs (i + 1)), (0, xs (i + 2)), (0, xs (i + 3)), (0, xs (i + 4))]) (r1 := []) rfl rfl rfl rfl rfl (SP.useA (c := C_R_cam.2) (as := [(2, 95), (0, xs (i + 1)), (0, xs (i + 2)), (0, xs (i + 3)), (0, xs (i + 4))]) T_R_cam hP1 (show 2 ≤ d by omega) ⟨⟨rfl, by decide, by decide⟩, ⟨rfl, (hx (i + 1)).1, (hx (i + 1)).2⟩, ⟨rfl, (hx (i + 2)).1, (hx (i + 2)).2⟩, ⟨rfl, (hx (i + 3)).1, (hx (i + 3)).2⟩, ⟨rfl, (hx (i + 4)).1, (hx (i + 4)).2⟩, trivial⟩ rfl rfl (by decide +kernel)) ?_
  rintro _ w2 _ ⟨x2, rfl, -, -, hP2, rfl, hB2, -⟩
  have hJ2 := hJ1.aw hB2 (by decide +kernel)
  show qG (some (L, xs)) (d + 1) 305 1438 [(3, 0), (2, 1), (2, 95), (0, ((i : Nat) : Int))] [(0, x2)] w2 142 Q9
  refine qG.blk 2 (pc' := 1610) (ls' := [(3, 0), (2, 1), (2, 95), (0, ((i : Nat) : Int))]) (st' := []) (w' := w2) (n' := 142) rfl ?_
  exact H _ hP2 hJ2
theorem O_28 {L : Nat} {xs : Nat → Int} (hx : ∀ j, -2147483648 ≤ xs j ∧ xs j ≤ 2147483647) (i : Nat) (hi : i + 6 ≤ L) (hL : L ≤ 3072) {d : Nat} (hd : 70 ≤ d) (w : qW) (hP : SP w) (hJ : JW w) {Q9 : qV → qW → Nat → Prop} (H : ∀ w1, SP w1 → JW w1 → qG (some (L, xs)) d 305 1610 [(3, 0), (2, 1), (2, 95), (0, ((i : Nat) : Int))] [] w1 142 Q9) : qG (some (L, xs)) d 305 33 [(3, 0), (2, 1), (2, 95), (0, ((i : Nat) : Int))] [(0, 28)] w 142 Q9 := by
  obtain ⟨d, rfl⟩ : ∃ d9, d = d9 + 1 := ⟨d - 1, by omega⟩
  refine qG.blk 6 (pc' := 1447) (ls' := [(3, 0), (2, 1), (2, 95), (0, ((i : Nat) : Int))]) (st' := [(0, wrp (((i : Nat) : Int) + 1)), (3, 0), (2, 1)]) (w' := w) (n' := 142) rfl ?_
  rw [show wrp (((i : Nat) : Int) + 1) = ((i + 1 : Nat) : Int) from by rw [wrp_id (by omega) (by omega)]; omega]
  refine qG.gd (P := 0 ≤ ((i + 1 : Nat) : Int) ∧ ((i + 1 : Nat) : Int) < ((L : Nat) : Int)) (pc' := 1448) (ls' := [(3, 0), (2, 1), (2, 95), (0, ((i : Nat) : Int))]) (st' := [(0, xs (i + 1)), (2, 1)]) (w' := w) (n' := 142) rfl (by omega) ?_
  refine qG.blk 4 (pc' := 1452) (ls' := [(3, 0), (2, 1), (2, 95), (0, ((i : Nat) : Int))]) (st' := [(0, wrp (((i : Nat) : Int) + 2)), (3, 0), (0, xs (i + 1)), (2, 1)]) (w' := w) (n' := 142) rfl ?_
  rw [show wrp (((i : Nat) : Int) + 2) = ((i + 2 : Nat) : Int) from by rw [wrp_id (by omega) (by omega)]; omega]
  refine qG.gd (P := 0 ≤ ((i + 2 : Nat) : Int) ∧ ((i + 2 : Nat) : Int) < ((L : Nat) : Int)) (pc' := 1453) (ls' := [(3, 0), (2, 1), (2, 95), (0, ((i : Nat) : Int))]) (st' := [(0, xs (i + 2)), (0, xs (i + 1)), (2, 1)]) (w' := w) (n' := 142) rfl (by omega) ?_
  refine qG.call (t := 192) (na := 3) (sk := 1) (md := 1) (ls1 := [(2, 1), (0, xs (i + 1)), (0, xs (i + 2))]) (r1 := []) rfl rfl rfl rfl rfl (SP.useA (c := C_X_game.2) (as := [(2, 1), (0, xs (i + 1)), (0, xs (i + 2))]) T_X_game hP (show 3 ≤ d by omega) ⟨⟨rfl, by decide, by decide⟩, ⟨rfl, (hx (i + 1)).1, (hx (i + 1)).2⟩, ⟨rfl, (hx (i + 2)).1, (hx (i + 2)).2⟩, trivial⟩ rfl rfl (by decide +kernel)) ?_
  rintro _ w1 _ ⟨x1, rfl, -, -, hP1, rfl, hB1, -⟩
  have hJ1 := hJ.aw hB1 (by decide +kernel)
  show qG (some (L, xs)) (d + 1) 305 1456 [(3, 0), (2, 1), (2, 95), (0, ((i : Nat) : Int))] [(0, x1)] w1 142 Q9
  refine qG.blk 6 (pc' := 1462) (ls' := [(3, 0), (2, 1), (2, 95), (0, ((i : Nat) : Int))]) (st' := [(0, wrp (((i : Nat) : Int) + 1)), (3, 0), (2, 95)]) (w' := w1) (n' := 142) rfl ?_
  rw [show wrp (((i : Nat) : Int) + 1) = ((i + 1 : Nat) : Int) from by rw [wrp_id (by omega) (by omega)]; omega]
  refine qG.gd (P := 0 ≤ ((i + 1 : Nat) : Int) ∧ ((i + 1 : Nat) : Int) < ((L : Nat) : Int)) (pc' := 1463) (ls' := [(3, 0), (2, 1), (2, 95), (0, ((i : Nat) : Int))]) (st' := [(0, xs (i + 1)), (2, 95)]) (w' := w1) (n' := 142) rfl (by omega) ?_
  refine qG.blk 4 (pc' := 1467) (ls' := [(3, 0), (2, 1), (2, 95), (0, ((i : Nat) : Int))]) (st' := [(0, wrp (((i : Nat) : Int) + 2)), (3, 0), (0, xs (i + 1)), (2, 95)]) (w' := w1) (n' := 142) rfl ?_
  rw [show wrp (((i : Nat) : Int) + 2) = ((i + 2 : Nat) : Int) from by rw [wrp_id (by omega) (by omega)]; omega]
  refine qG.gd (P := 0 ≤ ((i + 2 : Nat) : Int) ∧ ((i + 2 : Nat) : Int) < ((L : Nat) : Int)) (pc' := 1468) (ls' := [(3, 0), (2, 1), (2, 95), (0, ((i : Nat) : Int))]) (st' := [(0, xs (i + 2)), (0, xs (i + 1)), (2, 95)]) (w' := w1) (n' := 142) rfl (by omega) ?_
  refine qG.call (t := 289) (na := 3) (sk := 1) (md := 1) (ls1 := [(2, 95), (0, xs (i + 1)), (0, xs (i + 2))]) (r1 := []) rfl rfl rfl rfl rfl (SP.useA (c := C_R_game.2) (as := [(2, 95), (0, xs (i + 1)), (0, xs (i + 2))]) T_R_game hP1 (show 2 ≤ d by omega) ⟨⟨rfl, by decide, by decide⟩, ⟨rfl, (hx (i + 1)).1, (hx (i + 1)).2⟩, ⟨rfl, (hx (i + 2)).1, (hx (i + 2)).2⟩, trivial⟩ rfl rfl (by decide +kernel)) ?_
  rintro _ w2 _ ⟨x2, rfl, -, -, hP2, rfl, hB2, -⟩
  have hJ2 := hJ1.aw hB2 (by decide +kernel)
  show qG (some (L, xs)) (d + 1) 305 1471 [(3, 0), (2, 1), (2, 95), (0, ((i : Nat) : Int))] [(0, x2)] w2 142 Q9
  refine qG.blk 2 (pc' := 1610) (ls' := [(3, 0), (2, 1), (2, 95), (0, ((i : Nat) : Int))]) (st' := []) (w' := w2) (n' := 142) rfl ?_
  exact H _ hP2 hJ2
theorem O_29 {L : Nat} {xs : Nat → Int} (hx : ∀ j, -2147483648 ≤ xs j ∧ xs j ≤ 2147483647) (i : Nat) (hi : i + 6 ≤ L) (hL : L ≤ 3072) {d : Nat} (hd : 70 ≤ d) (w : qW) (hP : SP w) (hJ : JW w) {Q9 : qV → qW → Nat → Prop} (H : ∀ w1, SP w1 → JW w1 → qG (some (L, xs)) d 305 1610 [(3, 0), (2, 1), (2, 95), (0, ((i : Nat) : Int))] [] w1 142 Q9) : qG (some (L, xs)) d 305 33 [(3, 0), (2, 1), (2, 95), (0, ((i : Nat) : Int))] [(0, 29)] w 142 Q9 := by
  obtain ⟨d, rfl⟩ : ∃ d9, d = d9 + 1 := ⟨d - 1, by omega⟩
  refine qG.blk 6 (pc' := 1480) (ls' := [(3, 0), (2, 1), (2, 95), (0, ((i : Nat) : Int))]) (st' := [(0, wrp (((i : Nat) : Int) + 1)), (3, 0), (2, 1)]) (w' := w) (n' := 142) rfl ?_
  rw [show wrp (((i : Nat) : Int) + 1) = ((i + 1 : Nat) : Int) from by rw [wrp_id (by omega) (by omega)]; omega]
  refine qG.gd (P := 0 ≤ ((i + 1 : Nat) : Int) ∧ ((i + 1 : Nat) : Int) < ((L : Nat) : Int)) (pc' := 1481) (ls' := [(3, 0), (2, 1), (2, 95), (0, ((i : Nat) : Int))]) (st' := [(0, xs (i + 1)), (2, 1)]) (w' := w) (n' := 142) rfl (by omega) ?_
  refine qG.call (t := 193) (na := 2) (sk := 1) (md := 1) (ls1 := [(2, 1), (0, xs (i + 1))]) (r1 := []) rfl rfl rfl rfl rfl (SP.useA (c := C_X_alone.2) (as := [(2, 1), (0, xs (i + 1))]) T_X_alone hP (show 4 ≤ d by omega) ⟨⟨rfl, by decide, by decide⟩, ⟨rfl, (hx (i + 1)).1, (hx (i + 1)).2⟩, trivial⟩ rfl rfl (by decide +kernel)) ?_
  rintro _ w1 _ ⟨x1, rfl, -, -, hP1, rfl, hB1, -⟩
  have hJ1 := hJ.aw hB1 (by decide +kernel)
  show qG (some (L, xs)) (d + 1) 305 1484 [(3, 0), (2, 1), (2, 95), (0, ((i : Nat) : Int))] [(0, x1)] w1 142 Q9
  refine qG.blk 6 (pc' := 1490) (ls' := [(3, 0), (2, 1), (2, 95), (0, ((i : Nat) : Int))]) (st' := [(0, wrp (((i : Nat) : Int) + 1)), (3, 0), (2, 95)]) (w' := w1) (n' := 142) rfl ?_
  rw [show wrp (((i : Nat) : Int) + 1) = ((i + 1 : Nat) : Int) from by rw [wrp_id (by omega) (by omega)]; omega]
  refine qG.gd (P := 0 ≤ ((i + 1 : Nat) : Int) ∧ ((i + 1 : Nat) : Int) < ((L : Nat) : Int)) (pc' := 1491) (ls' := [(3, 0), (2, 1), (2, 95), (0, ((i : Nat) : Int))]) (st' := [(0, xs (i + 1)), (2, 95)]) (w' := w1) (n' := 142) rfl (by omega) ?_
  refine qG.call (t := 291) (na := 2) (sk := 1) (md := 1) (ls1 := [(2, 95), (0, xs (i + 1)), (9, 0), (9, 0)]) (r1 := []) rfl rfl rfl rfl rfl (SP.useA (c := C_R_alone.2) (as := [(2, 95), (0, xs (i + 1))]) T_R_alone hP1 (show 1 ≤ d by omega) ⟨⟨rfl, by decide, by decide⟩, ⟨rfl, (hx (i + 1)).1, (hx (i + 1)).2⟩, trivial⟩ rfl rfl (by decide +kernel)) ?_
  rintro _ w2 _ ⟨x2, rfl, -, -, hP2, rfl, hB2, -⟩
  have hJ2 := hJ1.aw hB2 (by decide +kernel)
  show qG (some (L, xs)) (d + 1) 305 1494 [(3, 0), (2, 1), (2, 95), (0, ((i : Nat) : Int))] [(0, x2)] w2 142 Q9
  refine qG.blk 2 (pc' := 1610) (ls' := [(3, 0), (2, 1), (2, 95), (0, ((i : Nat) : Int))]) (st' := []) (w' := w2) (n' := 142) rfl ?_
  exact H _ hP2 hJ2
theorem O_30 {L : Nat} {xs : Nat → Int} (hx : ∀ j, -2147483648 ≤ xs j ∧ xs j ≤ 2147483647) (i : Nat) (hi : i + 6 ≤ L) (hL : L ≤ 3072) {d : Nat} (hd : 70 ≤ d) (w : qW) (hP : SP w) (hJ : JW w) {Q9 : qV → qW → Nat → Prop} (H : ∀ w1, SP w1 → JW w1 → qG (some (L, xs)) d 305 1610 [(3, 0), (2, 1), (2, 95), (0, ((i : Nat) : Int))] [] w1 142 Q9) : qG (some (L, xs)) d 305 33 [(3, 0), (2, 1), (2, 95), (0, ((i : Nat) : Int))] [(0, 30)] w 142 Q9 := by
  obtain ⟨d, rfl⟩ : ∃ d9, d = d9 + 1 := ⟨d - 1, by omega⟩
  refine qG.blk 6 (pc' := 1503) (ls' := [(3, 0), (2, 1), (2, 95), (0, ((i : Nat) : Int))]) (st' := [(0, wrp (((i : Nat) : Int) + 1)), (3, 0), (2, 1)]) (w' := w) (n' := 142) rfl ?_
  rw [show wrp (((i : Nat) : Int) + 1) = ((i + 1 : Nat) : Int) from by rw [wrp_id (by omega) (by omega)]; omega]
  refine qG.gd (P := 0 ≤ ((i + 1 : Nat) : Int) ∧ ((i + 1 : Nat) : Int) < ((L : Nat) : Int)) (pc' := 1504) (ls' := [(3, 0), (2, 1), (2, 95), (0, ((i : Nat) : Int))]) (st' := [(0, xs (i + 1)), (2, 1)]) (w' := w) (n' := 142) rfl (by omega) ?_
  refine qG.blk 4 (pc' := 1508) (ls' := [(3, 0), (2, 1), (2, 95), (0, ((i : Nat) : Int))]) (st' := [(0, wrp (((i : Nat) : Int) + 2)), (3, 0), (0, xs (i + 1)), (2, 1)]) (w' := w) (n' := 142) rfl ?_
  rw [show wrp (((i : Nat) : Int) + 2) = ((i + 2 : Nat) : Int) from by rw [wrp_id (by omega) (by omega)]; omega]
  refine qG.gd (P := 0 ≤ ((i + 2 : Nat) : Int) ∧ ((i + 2 : Nat) : Int) < ((L : Nat) : Int)) (pc' := 1509) (ls' := [(3, 0), (2, 1), (2, 95), (0, ((i : Nat) : Int))]) (st' := [(0, xs (i + 2)), (0, xs (i + 1)), (2, 1)]) (w' := w) (n' := 142) rfl (by omega) ?_
  obtain ⟨n9, hn9, hc9⟩ : ∃ n : Nat, w 61 2 = (n : Int) ∧ n ≤ 20 := by
    have q := hP.1.1 61 2 (0, 20) rfl rfl
    have q1 : (0 : Int) ≤ w 61 2 := q.1
    have q2 : w 61 2 ≤ (20 : Int) := q.2
    exact ⟨(w 61 2).toNat, by omega, by omega⟩
  refine qG.call (t := 194) (na := 3) (sk := 1) (md := 1) (ls1 := [(2, 1), (0, xs (i + 1)), (0, xs (i + 2))]) (r1 := []) rfl rfl rfl rfl rfl (SP.useX (c := C_X_writer.2) (as := [(2, 1), (0, xs (i + 1)), (0, xs (i + 2))]) T_X_writer hP (show 1 ≤ d by omega) ⟨⟨rfl, by decide, by decide⟩, ⟨rfl, (hx (i + 1)).1, (hx (i + 1)).2⟩, ⟨rfl, (hx (i + 2)).1, (hx (i + 2)).2⟩, trivial⟩ rfl rfl (by decide +kernel) (K_X11_writer (by omega) (xs (i + 1)) (xs (i + 2)) n9 hc9 w hP.1 hn9)) ?_
  rintro _ w1 _ ⟨⟨x1, rfl⟩, hP1, rfl, hB1, -, hE1⟩
  have hn1 : w1 95 76 = (n9 : Int) := by rw [hB1.2 95 76 (fun _ => rfl), ← hJ.1]; exact hn9
  show qG (some (L, xs)) (d + 1) 305 1512 [(3, 0), (2, 1), (2, 95), (0, ((i : Nat) : Int))] [(0, x1)] w1 142 Q9
  refine qG.blk 6 (pc' := 1518) (ls' := [(3, 0), (2, 1), (2, 95), (0, ((i : Nat) : Int))]) (st' := [(0, wrp (((i : Nat) : Int) + 1)), (3, 0), (2, 95)]) (w' := w1) (n' := 142) rfl ?_
  rw [show wrp (((i : Nat) : Int) + 1) = ((i + 1 : Nat) : Int) from by rw [wrp_id (by omega) (by omega)]; omega]
  refine qG.gd (P := 0 ≤ ((i + 1 : Nat) : Int) ∧ ((i + 1 : Nat) : Int) < ((L : Nat) : Int)) (pc' := 1519) (ls' := [(3, 0), (2, 1), (2, 95), (0, ((i : Nat) : Int))]) (st' := [(0, xs (i + 1)), (2, 95)]) (w' := w1) (n' := 142) rfl (by omega) ?_
  refine qG.blk 4 (pc' := 1523) (ls' := [(3, 0), (2, 1), (2, 95), (0, ((i : Nat) : Int))]) (st' := [(0, wrp (((i : Nat) : Int) + 2)), (3, 0), (0, xs (i + 1)), (2, 95)]) (w' := w1) (n' := 142) rfl ?_
  rw [show wrp (((i : Nat) : Int) + 2) = ((i + 2 : Nat) : Int) from by rw [wrp_id (by omega) (by omega)]; omega]
  refine qG.gd (P := 0 ≤ ((i + 2 : Nat) : Int) ∧ ((i + 2 : Nat) : Int) < ((L : Nat) : Int)) (pc' := 1524) (ls' := [(3, 0), (2, 1), (2, 95), (0, ((i : Nat) : Int))]) (st' := [(0, xs (i + 2)), (0, xs (i + 1)), (2, 95)]) (w' := w1) (n' := 142) rfl (by omega) ?_
  refine qG.call (t := 294) (na := 3) (sk := 1) (md := 1) (ls1 := [(2, 95), (0, xs (i + 1)), (0, xs (i + 2))]) (r1 := []) rfl rfl rfl rfl rfl (SP.useX (c := C_R_writer.2) (as := [(2, 95), (0, xs (i + 1)), (0, xs (i + 2))]) T_R_writer hP1 (show 2 ≤ d by omega) ⟨⟨rfl, by decide, by decide⟩, ⟨rfl, (hx (i + 1)).1, (hx (i + 1)).2⟩, ⟨rfl, (hx (i + 2)).1, (hx (i + 2)).2⟩, trivial⟩ rfl rfl (by decide +kernel) (K_X12_writer (by omega) (xs (i + 1)) (xs (i + 2)) n9 hc9 w1 hP1.1 hn1)) ?_
  rintro _ w2 _ ⟨⟨x2, rfl⟩, hP2, rfl, hB2, -, hE2⟩
  obtain ⟨hJ2, hr2⟩ := JW.writer hJ hE1 hE2
  obtain ⟨-, rfl⟩ := Prod.mk.inj hr2
  show qG (some (L, xs)) (d + 1) 305 1527 [(3, 0), (2, 1), (2, 95), (0, ((i : Nat) : Int))] [(0, x1)] w2 142 Q9
  refine qG.blk 2 (pc' := 1610) (ls' := [(3, 0), (2, 1), (2, 95), (0, ((i : Nat) : Int))]) (st' := []) (w' := w2) (n' := 142) rfl ?_
  exact H _ hP2 hJ2
theorem O_31 {L : Nat} {xs : Nat → Int} (hx : ∀ j, -2147483648 ≤ xs j ∧ xs j ≤ 2147483647) (i : Nat) (hi : i + 6 ≤ L) (hL : L ≤ 3072) {d : Nat} (hd : 70 ≤ d) (w : qW) (hP : SP w) (hJ : JW w) {Q9 : qV → qW → Nat → Prop} (H : ∀ w1, SP w1 → JW w1 → qG (some (L, xs)) d 305 1610 [(3, 0), (2, 1), (2, 95), (0, ((i : Nat) : Int))] [] w1 142 Q9) : qG (some (L, xs)) d 305 33 [(3, 0), (2, 1), (2, 95), (0, ((i : Nat) : Int))] [(0, 31)] w 142 Q9 := by
  obtain ⟨d, rfl⟩ : ∃ d9, d = d9 + 1 := ⟨d - 1, by omega⟩
  refine qG.blk 6 (pc' := 1536) (ls' := [(3, 0), (2, 1), (2, 95), (0, ((i : Nat) : Int))]) (st' := [(0, wrp (((i : Nat) : Int) + 1)), (3, 0), (2, 1)]) (w' := w) (n' := 142) rfl ?_
  rw [show wrp (((i : Nat) : Int) + 1) = ((i + 1 : Nat) : Int) from by rw [wrp_id (by omega) (by omega)]; omega]
  refine qG.gd (P := 0 ≤ ((i + 1 : Nat) : Int) ∧ ((i + 1 : Nat) : Int) < ((L : Nat) : Int)) (pc' := 1537) (ls' := [(3, 0), (2, 1), (2, 95), (0, ((i : Nat) : Int))]) (st' := [(0, xs (i + 1)), (2, 1)]) (w' := w) (n' := 142) rfl (by omega) ?_
  refine qG.call (t := 195) (na := 2) (sk := 1) (md := 1) (ls1 := [(2, 1), (0, xs (i + 1))]) (r1 := []) rfl rfl rfl rfl rfl (SP.useX (c := C_X_truth.2) (as := [(2, 1), (0, xs (i + 1))]) T_X_truth hP (show 1 ≤ d by omega) ⟨⟨rfl, by decide, by decide⟩, ⟨rfl, (hx (i + 1)).1, (hx (i + 1)).2⟩, trivial⟩ rfl rfl (by decide +kernel) (K_X11_truthE (by omega) (xs (i + 1)) w hP.1)) ?_
  rintro _ w1 _ ⟨⟨x1, rfl⟩, hP1, rfl, hB1, -, hE1⟩
  show qG (some (L, xs)) (d + 1) 305 1540 [(3, 0), (2, 1), (2, 95), (0, ((i : Nat) : Int))] [(0, x1)] w1 142 Q9
  refine qG.blk 6 (pc' := 1546) (ls' := [(3, 0), (2, 1), (2, 95), (0, ((i : Nat) : Int))]) (st' := [(0, wrp (((i : Nat) : Int) + 1)), (3, 0), (2, 95)]) (w' := w1) (n' := 142) rfl ?_
  rw [show wrp (((i : Nat) : Int) + 1) = ((i + 1 : Nat) : Int) from by rw [wrp_id (by omega) (by omega)]; omega]
  refine qG.gd (P := 0 ≤ ((i + 1 : Nat) : Int) ∧ ((i + 1 : Nat) : Int) < ((L : Nat) : Int)) (pc' := 1547) (ls' := [(3, 0), (2, 1), (2, 95), (0, ((i : Nat) : Int))]) (st' := [(0, xs (i + 1)), (2, 95)]) (w' := w1) (n' := 142) rfl (by omega) ?_
  refine qG.call (t := 295) (na := 2) (sk := 1) (md := 1) (ls1 := [(2, 95), (0, xs (i + 1))]) (r1 := []) rfl rfl rfl rfl rfl (SP.useX (c := C_R_truth.2) (as := [(2, 95), (0, xs (i + 1))]) T_R_truth hP1 (show 2 ≤ d by omega) ⟨⟨rfl, by decide, by decide⟩, ⟨rfl, (hx (i + 1)).1, (hx (i + 1)).2⟩, trivial⟩ rfl rfl (by decide +kernel) (K_X12_truthE (by omega) (xs (i + 1)) w1 hP1.1)) ?_
  rintro _ w2 _ ⟨⟨x2, rfl⟩, hP2, rfl, hB2, -, hE2⟩
  obtain ⟨hJ2, hr2⟩ := JW.truth hJ hE1 hE2
  obtain ⟨-, rfl⟩ := Prod.mk.inj hr2
  show qG (some (L, xs)) (d + 1) 305 1550 [(3, 0), (2, 1), (2, 95), (0, ((i : Nat) : Int))] [(0, x1)] w2 142 Q9
  refine qG.blk 2 (pc' := 1610) (ls' := [(3, 0), (2, 1), (2, 95), (0, ((i : Nat) : Int))]) (st' := []) (w' := w2) (n' := 142) rfl ?_
  exact H _ hP2 hJ2
theorem O_32 {L : Nat} {xs : Nat → Int} (hx : ∀ j, -2147483648 ≤ xs j ∧ xs j ≤ 2147483647) (i : Nat) (hi : i + 6 ≤ L) (hL : L ≤ 3072) {d : Nat} (hd : 70 ≤ d) (w : qW) (hP : SP w) (hJ : JW w) {Q9 : qV → qW → Nat → Prop} (H : ∀ w1, SP w1 → JW w1 → qG (some (L, xs)) d 305 1610 [(3, 0), (2, 1), (2, 95), (0, ((i : Nat) : Int))] [] w1 142 Q9) : qG (some (L, xs)) d 305 33 [(3, 0), (2, 1), (2, 95), (0, ((i : Nat) : Int))] [(0, 32)] w 142 Q9 := by
  obtain ⟨d, rfl⟩ : ∃ d9, d = d9 + 1 := ⟨d - 1, by omega⟩
  refine qG.blk 6 (pc' := 1559) (ls' := [(3, 0), (2, 1), (2, 95), (0, ((i : Nat) : Int))]) (st' := [(0, wrp (((i : Nat) : Int) + 1)), (3, 0), (2, 1)]) (w' := w) (n' := 142) rfl ?_
  rw [show wrp (((i : Nat) : Int) + 1) = ((i + 1 : Nat) : Int) from by rw [wrp_id (by omega) (by omega)]; omega]
  refine qG.gd (P := 0 ≤ ((i + 1 : Nat) : Int) ∧ ((i + 1 : Nat) : Int) < ((L : Nat) : Int)) (pc' := 1560) (ls' := [(3, 0), (2, 1), (2, 95), (0, ((i : Nat) : Int))]) (st' := [(0, xs (i + 1)), (2, 1)]) (w' := w) (n' := 142) rfl (by omega) ?_
  obtain ⟨n9, hn9, hc9⟩ : ∃ n : Nat, w 61 2 = (n : Int) ∧ n ≤ 20 := by
    have q := hP.1.1 61 2 (0, 20) rfl rfl
    have q1 : (0 : Int) ≤ w 61 2 := q.1
    have q2 : w 61 2 ≤ (20 : Int) := q.2
    exact ⟨(w 61 2).toNat, by omega, by omega⟩
  refine qG.call (t := 196) (na := 2) (sk := 1) (md := 1) (ls1 := [(2, 1), (0, xs (i + 1))]) (r1 := []) rfl rfl rfl rfl rfl (SP.useX (c := C_X_first.2) (as := [(2, 1), (0, xs (i + 1))]) T_X_first hP (show 3 ≤ d by omega) ⟨⟨rfl, by decide, by decide⟩, ⟨rfl, (hx (i + 1)).1, (hx (i + 1)).2⟩, trivial⟩ rfl rfl (by decide +kernel) (K_X11_first (by omega) (xs (i + 1)) n9 hc9 w hP.1 hn9)) ?_
  rintro _ w1 _ ⟨-, hP1, rfl, hB1, rfl⟩
  have hJ1 := hJ.aw hB1 (by decide +kernel)
  show qG (some (L, xs)) (d + 1) 305 1563 [(3, 0), (2, 1), (2, 95), (0, ((i : Nat) : Int))] [(0, fiV (w 62) (w 63) n9 (xs (i + 1)))] w1 142 Q9
  refine qG.blk 5 (pc' := 1568) (ls' := [(3, 0), (2, 1), (2, 95), (0, ((i : Nat) : Int))]) (st' := [(0, wrp (((i : Nat) : Int) + 1)), (3, 0), (2, 95), (0, fiV (w 62) (w 63) n9 (xs (i + 1)))]) (w' := w1) (n' := 142) rfl ?_
  rw [show wrp (((i : Nat) : Int) + 1) = ((i + 1 : Nat) : Int) from by rw [wrp_id (by omega) (by omega)]; omega]
  refine qG.gd (P := 0 ≤ ((i + 1 : Nat) : Int) ∧ ((i + 1 : Nat) : Int) < ((L : Nat) : Int)) (pc' := 1569) (ls' := [(3, 0), (2, 1), (2, 95), (0, ((i : Nat) : Int))]) (st' := [(0, xs (i + 1)), (2, 95), (0, fiV (w 62) (w 63) n9 (xs (i + 1)))]) (w' := w1) (n' := 142) rfl (by omega) ?_
  refine qG.call (t := 297) (na := 2) (sk := 1) (md := 1) (ls1 := [(2, 95), (0, xs (i + 1)), (9, 0), (9, 0)]) (r1 := [(0, fiV (w 62) (w 63) n9 (xs (i + 1)))]) rfl rfl rfl rfl rfl (SP.useX (c := C_R_first.2) (as := [(2, 95), (0, xs (i + 1))]) T_R_first hP1 (show 1 ≤ d by omega) ⟨⟨rfl, by decide, by decide⟩, ⟨rfl, (hx (i + 1)).1, (hx (i + 1)).2⟩, trivial⟩ rfl rfl (by decide +kernel) (K_X12_first (by omega) (xs (i + 1)) n9 hc9 w1 hP1.1 (by rw [← hJ1.1, hB1.2 61 2 (fun _ => rfl)]; exact hn9))) ?_
  rintro _ w2 _ ⟨-, hP2, rfl, hB2, rfl⟩
  have hJ2 := hJ1.aw hB2 (by decide +kernel)
  have e1 : w1 141 = w 62 := funext (fun j => (hJ1.2.2.1 j).symm.trans (hB1.a (by decide) (by decide +kernel) j))
  have e2 : w1 142 = w 63 := funext (fun j => (hJ1.2.2.2 j).symm.trans (hB1.a (by decide) (by decide +kernel) j))
  rw [e1, e2]
  show qG (some (L, xs)) (d + 1) 305 1572 [(3, 0), (2, 1), (2, 95), (0, ((i : Nat) : Int))] [(0, fiV (w 62) (w 63) n9 (xs (i + 1))), (0, fiV (w 62) (w 63) n9 (xs (i + 1)))] w2 142 Q9
  refine qG.br (P := fiV (w 62) (w 63) n9 (xs (i + 1)) = fiV (w 62) (w 63) n9 (xs (i + 1))) (pc1 := 1610) (pc2 := 1575) (st1 := []) rfl (fun hcmp => ?_) (fun hcmp => ?_)
  · skip
    exact H _ hP2 hJ2
  · exfalso; exact hcmp rfl
theorem O_33 {L : Nat} {xs : Nat → Int} (hx : ∀ j, -2147483648 ≤ xs j ∧ xs j ≤ 2147483647) (i : Nat) (hi : i + 6 ≤ L) (hL : L ≤ 3072) {d : Nat} (hd : 70 ≤ d) (w : qW) (hP : SP w) (hJ : JW w) {Q9 : qV → qW → Nat → Prop} (H : ∀ w1, SP w1 → JW w1 → qG (some (L, xs)) d 305 1610 [(3, 0), (2, 1), (2, 95), (0, ((i : Nat) : Int))] [] w1 142 Q9) : qG (some (L, xs)) d 305 33 [(3, 0), (2, 1), (2, 95), (0, ((i : Nat) : Int))] [(0, 33)] w 142 Q9 := by
  obtain ⟨d, rfl⟩ : ∃ d9, d = d9 + 1 := ⟨d - 1, by omega⟩
  refine qG.blk 6 (pc' := 1582) (ls' := [(3, 0), (2, 1), (2, 95), (0, ((i : Nat) : Int))]) (st' := [(0, wrp (((i : Nat) : Int) + 1)), (3, 0), (2, 1)]) (w' := w) (n' := 142) rfl ?_
  rw [show wrp (((i : Nat) : Int) + 1) = ((i + 1 : Nat) : Int) from by rw [wrp_id (by omega) (by omega)]; omega]
  refine qG.gd (P := 0 ≤ ((i + 1 : Nat) : Int) ∧ ((i + 1 : Nat) : Int) < ((L : Nat) : Int)) (pc' := 1583) (ls' := [(3, 0), (2, 1), (2, 95), (0, ((i : Nat) : Int))]) (st' := [(0, xs (i + 1)), (2, 1)]) (w' := w) (n' := 142) rfl (by omega) ?_
  refine qG.blk 4 (pc' := 1587) (ls' := [(3, 0), (2, 1), (2, 95), (0, ((i : Nat) : Int))]) (st' := [(0, wrp (((i : Nat) : Int) + 2)), (3, 0), (0, xs (i + 1)), (2, 1)]) (w' := w) (n' := 142) rfl ?_
  rw [show wrp (((i : Nat) : Int) + 2) = ((i + 2 : Nat) : Int) from by rw [wrp_id (by omega) (by omega)]; omega]
  refine qG.gd (P := 0 ≤ ((i + 2 : Nat) : Int) ∧ ((i + 2 : Nat) : Int) < ((L : Nat) : Int)) (pc' := 1588) (ls' := [(3, 0), (2, 1), (2, 95), (0, ((i : Nat) : Int))]) (st' := [(0, xs (i + 2)), (0, xs (i + 1)), (2, 1)]) (w' := w) (n' := 142) rfl (by omega) ?_
  refine qG.call (t := 197) (na := 3) (sk := 1) (md := 1) (ls1 := [(2, 1), (0, xs (i + 1)), (0, xs (i + 2))]) (r1 := []) rfl rfl rfl rfl rfl (SP.useA (c := C_X_story.2) (as := [(2, 1), (0, xs (i + 1)), (0, xs (i + 2))]) T_X_story hP (show 5 ≤ d by omega) ⟨⟨rfl, by decide, by decide⟩, ⟨rfl, (hx (i + 1)).1, (hx (i + 1)).2⟩, ⟨rfl, (hx (i + 2)).1, (hx (i + 2)).2⟩, trivial⟩ rfl rfl (by decide +kernel)) ?_
  rintro _ w1 _ ⟨x1, rfl, -, -, hP1, rfl, hB1, -⟩
  have hJ1 := hJ.aw hB1 (by decide +kernel)
  show qG (some (L, xs)) (d + 1) 305 1591 [(3, 0), (2, 1), (2, 95), (0, ((i : Nat) : Int))] [(0, x1)] w1 142 Q9
  refine qG.blk 6 (pc' := 1597) (ls' := [(3, 0), (2, 1), (2, 95), (0, ((i : Nat) : Int))]) (st' := [(0, wrp (((i : Nat) : Int) + 1)), (3, 0), (2, 95)]) (w' := w1) (n' := 142) rfl ?_
  rw [show wrp (((i : Nat) : Int) + 1) = ((i + 1 : Nat) : Int) from by rw [wrp_id (by omega) (by omega)]; omega]
  refine qG.gd (P := 0 ≤ ((i + 1 : Nat) : Int) ∧ ((i + 1 : Nat) : Int) < ((L : Nat) : Int)) (pc' := 1598) (ls' := [(3, 0), (2, 1), (2, 95), (0, ((i : Nat) : Int))]) (st' := [(0, xs (i + 1)), (2, 95)]) (w' := w1) (n' := 142) rfl (by omega) ?_
  refine qG.blk 4 (pc' := 1602) (ls' := [(3, 0), (2, 1), (2, 95), (0, ((i : Nat) : Int))]) (st' := [(0, wrp (((i : Nat) : Int) + 2)), (3, 0), (0, xs (i + 1)), (2, 95)]) (w' := w1) (n' := 142) rfl ?_
  rw [show wrp (((i : Nat) : Int) + 2) = ((i + 2 : Nat) : Int) from by rw [wrp_id (by omega) (by omega)]; omega]
  refine qG.gd (P := 0 ≤ ((i + 2 : Nat) : Int) ∧ ((i + 2 : Nat) : Int) < ((L : Nat) : Int)) (pc' := 1603) (ls' := [(3, 0), (2, 1), (2, 95), (0, ((i : Nat) : Int))]) (st' := [(0, xs (i + 2)), (0, xs (i + 1)), (2, 95)]) (w' := w1) (n' := 142) rfl (by omega) ?_
  refine qG.call (t := 299) (na := 3) (sk := 1) (md := 1) (ls1 := [(2, 95), (0, xs (i + 1)), (0, xs (i + 2)), (9, 0), (9, 0)]) (r1 := []) rfl rfl rfl rfl rfl (K_story (show _ ≤ d by omega) (xs (i + 1)) (xs (i + 2)) w1 hP1.1) ?_
  rintro ⟨_, xs9⟩ w9s _ ⟨hr9, hw9, rfl⟩
  obtain ⟨rfl, -⟩ := Prod.mk.inj hr9
  rw [hw9]
  show qG (some (L, xs)) (d + 1) 305 1606 [(3, 0), (2, 1), (2, 95), (0, ((i : Nat) : Int))] [(0, xs9)] w1 142 Q9
  refine qG.blk 2 (pc' := 1610) (ls' := [(3, 0), (2, 1), (2, 95), (0, ((i : Nat) : Int))]) (st' := []) (w' := w1) (n' := 142) rfl ?_
  exact H _ hP1 hJ1
