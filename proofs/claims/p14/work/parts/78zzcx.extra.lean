/-! what the drafts want -/
theorem qor_c2 (a b : Int) : qor a b = qor b a := by unfold qor; rw [Int32.or_comm]
theorem qor_0l {a : Int} (h : -2147483648 ≤ a ∧ a ≤ 2147483647) : qor 0 a = a := by
  unfold qor
  rw [show Int32.ofInt 0 = 0 from rfl, Int32.zero_or, Int32.toInt_ofInt_of_le (by omega) (by omega)]
theorem K_X11_isDoorSet {d : Nat} (hd : 0 ≤ d) (c : Int) (w : qW) : qG none d 201 0 [(0, c)] [] w 142 (fun (r : qV) (w1 : qW) (n1 : Nat) => r = (0, isInV c 0 1023) ∧ w1 = w ∧ n1 = 142) := by
  generalize hQ9 : (fun (r : qV) (w1 : qW) (n1 : Nat) => r = (0, isInV c 0 1023) ∧ w1 = w ∧ n1 = 142) = Q9
  refine qG.blk 1 (pc' := 1) (ls' := [(0, c)]) (st' := [(0, c)]) (w' := w) (n' := 142) rfl ?_
  refine qG.br (P := c < 0) (pc1 := 15) (pc2 := 4) (st1 := []) rfl (fun h1 => ?_) (fun h1 => ?_)
  · skip
    refine qG.blk 1 (pc' := 16) (ls' := [(0, c)]) (st' := [(0, 0)]) (w' := w) (n' := 142) rfl ?_
    refine qG.ret rfl (by first | rfl | exact decide_eq_true (by omega)) ?_
    subst hQ9
    exact ⟨by unfold isInV; split <;> (try split) <;> first | rfl | (exfalso; omega), rfl, rfl⟩
  · skip
    refine qG.blk 2 (pc' := 8) (ls' := [(0, c)]) (st' := [(0, 1023), (0, c)]) (w' := w) (n' := 142) rfl ?_
    refine qG.br (P := 1023 < c) (pc1 := 15) (pc2 := 11) (st1 := []) rfl (fun h2 => ?_) (fun h2 => ?_)
    · skip
      refine qG.blk 1 (pc' := 16) (ls' := [(0, c)]) (st' := [(0, 0)]) (w' := w) (n' := 142) rfl ?_
      refine qG.ret rfl (by first | rfl | exact decide_eq_true (by omega)) ?_
      subst hQ9
      exact ⟨by unfold isInV; split <;> (try split) <;> first | rfl | (exfalso; omega), rfl, rfl⟩
    · skip
      refine qG.blk 2 (pc' := 16) (ls' := [(0, c)]) (st' := [(0, 1)]) (w' := w) (n' := 142) rfl ?_
      refine qG.ret rfl (by first | rfl | exact decide_eq_true (by omega)) ?_
      subst hQ9
      exact ⟨by unfold isInV; split <;> (try split) <;> first | rfl | (exfalso; omega), rfl, rfl⟩
