/-! the class's shows run -/
theorem ushr_b {m j : Nat} (hm : m < 1024) (hj : j < 10) : qand (qush (m : Int) (j : Int)) 1 = qand (qshr (m : Int) (j : Int)) 1 := by
  have q : qand ((m / 2 ^ j : Nat) : Int) 1 = ((m / 2 ^ j &&& 1 : Nat) : Int) := qand_n (a := m / 2 ^ j) (b := 1) (by have := Nat.div_le_self m (2 ^ j); omega) (by omega)
  rw [hb_bit (by omega) (by omega), qush_n (by omega) (by omega), q, Nat.and_one_is_mod, Nat.testBit_eq_decide_div_mod_eq]
  by_cases h : m / 2 ^ j % 2 = 1
  · rw [h, if_pos (decide_eq_true rfl)]; rfl
  · rw [if_neg (fun z => h (of_decide_eq_true z)), show m / 2 ^ j % 2 = 0 by omega]; rfl
/-- what a step leaves of a show p -/
def TKP (p : Nat) (k n : Int) (w w1 : qW) : Prop := w1 p 4 = oS k n (w p 4) ∧ w1 p 5 = caS k n (w p 5) ∧ w1 p 6 = sdS k (w p 6) ∧ w1 p 9 = tuS k (w p 9) ∧ ∀ q j, ¬ (q = p ∧ (j = 4 ∨ j = 5 ∨ j = 6 ∨ j = 9)) → w1 q j = w q j
theorem K_take4_0 {d : Nat} (hd : 0 ≤ d) (n : Int) (w : qW) : qG none d 112 0 [(2, 4), (0, 0), (0, n)] [] w 142 (fun (r : qV) (w1 : qW) (n1 : Nat) => r = (9, 0) ∧ w1 = qup w 4 4 (qor (w 4 4) (qshl 1 n)) ∧ n1 = 142) := by
  generalize hQ9 : (fun (r : qV) (w1 : qW) (n1 : Nat) => r = (9, 0) ∧ w1 = qup w 4 4 (qor (w 4 4) (qshl 1 n)) ∧ n1 = 142) = Q9
  refine qG.blk 11 (pc' := 111) (ls' := [(2, 4), (0, 0), (0, n)]) (st' := []) (w' := (qup w 4 4 (qor (w 4 4) (qshl 1 n)))) (n' := 142) rfl ?_
  refine qG.retv rfl rfl ?_
  subst hQ9
  first | exact ⟨rfl, rfl, rfl⟩ | exact ⟨rfl, (by rw [qup_j (show (9 : Nat) ≠ 6 by decide)]), rfl⟩
theorem K_take4_1 {d : Nat} (hd : 0 ≤ d) (n : Int) (w : qW) : qG none d 112 0 [(2, 4), (0, 1), (0, n)] [] w 142 (fun (r : qV) (w1 : qW) (n1 : Nat) => r = (9, 0) ∧ w1 = qup w 4 4 (qand (w 4 4) (qxor (qshl 1 n) (-1))) ∧ n1 = 142) := by
  generalize hQ9 : (fun (r : qV) (w1 : qW) (n1 : Nat) => r = (9, 0) ∧ w1 = qup w 4 4 (qand (w 4 4) (qxor (qshl 1 n) (-1))) ∧ n1 = 142) = Q9
  refine qG.blk 12 (pc' := 69) (ls' := [(2, 4), (0, 1), (0, n)]) (st' := []) (w' := (qup w 4 4 (qand (w 4 4) (qxor (qshl 1 n) (-1))))) (n' := 142) rfl ?_
  refine qG.blk 1 (pc' := 111) (ls' := [(2, 4), (0, 1), (0, n)]) (st' := []) (w' := (qup w 4 4 (qand (w 4 4) (qxor (qshl 1 n) (-1))))) (n' := 142) rfl ?_
  refine qG.retv rfl rfl ?_
  subst hQ9
  first | exact ⟨rfl, rfl, rfl⟩ | exact ⟨rfl, (by rw [qup_j (show (9 : Nat) ≠ 6 by decide)]), rfl⟩
theorem K_take4_2 {d : Nat} (hd : 0 ≤ d) (n : Int) (w : qW) : qG none d 112 0 [(2, 4), (0, 2), (0, n)] [] w 142 (fun (r : qV) (w1 : qW) (n1 : Nat) => r = (9, 0) ∧ w1 = w ∧ n1 = 142) := by
  generalize hQ9 : (fun (r : qV) (w1 : qW) (n1 : Nat) => r = (9, 0) ∧ w1 = w ∧ n1 = 142) = Q9
  refine qG.blk 2 (pc' := 111) (ls' := [(2, 4), (0, 2), (0, n)]) (st' := []) (w' := w) (n' := 142) rfl ?_
  refine qG.retv rfl rfl ?_
  subst hQ9
  first | exact ⟨rfl, rfl, rfl⟩ | exact ⟨rfl, (by rw [qup_j (show (9 : Nat) ≠ 6 by decide)]), rfl⟩
theorem K_take4_3 {d : Nat} (hd : 0 ≤ d) (n : Int) (w : qW) : qG none d 112 0 [(2, 4), (0, 3), (0, n)] [] w 142 (fun (r : qV) (w1 : qW) (n1 : Nat) => r = (9, 0) ∧ w1 = qup w 4 5 n ∧ n1 = 142) := by
  generalize hQ9 : (fun (r : qV) (w1 : qW) (n1 : Nat) => r = (9, 0) ∧ w1 = qup w 4 5 n ∧ n1 = 142) = Q9
  refine qG.blk 6 (pc' := 111) (ls' := [(2, 4), (0, 3), (0, n)]) (st' := []) (w' := (qup w 4 5 n)) (n' := 142) rfl ?_
  refine qG.retv rfl rfl ?_
  subst hQ9
  first | exact ⟨rfl, rfl, rfl⟩ | exact ⟨rfl, (by rw [qup_j (show (9 : Nat) ≠ 6 by decide)]), rfl⟩
theorem K_take4_4 {d : Nat} (hd : 0 ≤ d) (n : Int) (w : qW) : qG none d 112 0 [(2, 4), (0, 4), (0, n)] [] w 142 (fun (r : qV) (w1 : qW) (n1 : Nat) => r = (9, 0) ∧ w1 = qup w 4 5 (-1) ∧ n1 = 142) := by
  generalize hQ9 : (fun (r : qV) (w1 : qW) (n1 : Nat) => r = (9, 0) ∧ w1 = qup w 4 5 (-1) ∧ n1 = 142) = Q9
  refine qG.blk 6 (pc' := 111) (ls' := [(2, 4), (0, 4), (0, n)]) (st' := []) (w' := (qup w 4 5 (-1))) (n' := 142) rfl ?_
  refine qG.retv rfl rfl ?_
  subst hQ9
  first | exact ⟨rfl, rfl, rfl⟩ | exact ⟨rfl, (by rw [qup_j (show (9 : Nat) ≠ 6 by decide)]), rfl⟩
theorem K_take4_5 {d : Nat} (hd : 0 ≤ d) (n : Int) (w : qW) : qG none d 112 0 [(2, 4), (0, 5), (0, n)] [] w 142 (fun (r : qV) (w1 : qW) (n1 : Nat) => r = (9, 0) ∧ w1 = qup (qup w 4 6 (wrp (1 - w 4 6))) 4 9 (wrp (w 4 9 + 1)) ∧ n1 = 142) := by
  generalize hQ9 : (fun (r : qV) (w1 : qW) (n1 : Nat) => r = (9, 0) ∧ w1 = qup (qup w 4 6 (wrp (1 - w 4 6))) 4 9 (wrp (w 4 9 + 1)) ∧ n1 = 142) = Q9
  refine qG.blk 7 (pc' := 95) (ls' := [(2, 4), (0, 5), (0, n)]) (st' := [(0, wrp (1 - (w 4 6))), (2, 4)]) (w' := w) (n' := 142) rfl ?_
  rw [show wrp (1 - (w 4 6)) = wrp (1 - w 4 6) from rfl]
  refine qG.blk 6 (pc' := 105) (ls' := [(2, 4), (0, 5), (0, n)]) (st' := [(0, wrp ((w 4 9) + 1)), (2, 4)]) (w' := (qup w 4 6 (wrp (1 - w 4 6)))) (n' := 142) rfl ?_
  rw [show wrp ((w 4 9) + 1) = wrp (w 4 9 + 1) from rfl]
  refine qG.blk 2 (pc' := 111) (ls' := [(2, 4), (0, 5), (0, n)]) (st' := []) (w' := (qup (qup w 4 6 (wrp (1 - w 4 6))) 4 9 (wrp (w 4 9 + 1)))) (n' := 142) rfl ?_
  refine qG.retv rfl rfl ?_
  subst hQ9
  first | exact ⟨rfl, rfl, rfl⟩ | exact ⟨rfl, (by rw [qup_j (show (9 : Nat) ≠ 6 by decide)]), rfl⟩
theorem K_take79_0 {d : Nat} (hd : 0 ≤ d) (n : Int) (w : qW) : qG none d 112 0 [(2, 79), (0, 0), (0, n)] [] w 142 (fun (r : qV) (w1 : qW) (n1 : Nat) => r = (9, 0) ∧ w1 = qup w 79 4 (qor (w 79 4) (qshl 1 n)) ∧ n1 = 142) := by
  generalize hQ9 : (fun (r : qV) (w1 : qW) (n1 : Nat) => r = (9, 0) ∧ w1 = qup w 79 4 (qor (w 79 4) (qshl 1 n)) ∧ n1 = 142) = Q9
  refine qG.blk 11 (pc' := 111) (ls' := [(2, 79), (0, 0), (0, n)]) (st' := []) (w' := (qup w 79 4 (qor (w 79 4) (qshl 1 n)))) (n' := 142) rfl ?_
  refine qG.retv rfl rfl ?_
  subst hQ9
  first | exact ⟨rfl, rfl, rfl⟩ | exact ⟨rfl, (by rw [qup_j (show (9 : Nat) ≠ 6 by decide)]), rfl⟩
theorem K_take79_1 {d : Nat} (hd : 0 ≤ d) (n : Int) (w : qW) : qG none d 112 0 [(2, 79), (0, 1), (0, n)] [] w 142 (fun (r : qV) (w1 : qW) (n1 : Nat) => r = (9, 0) ∧ w1 = qup w 79 4 (qand (w 79 4) (qxor (qshl 1 n) (-1))) ∧ n1 = 142) := by
  generalize hQ9 : (fun (r : qV) (w1 : qW) (n1 : Nat) => r = (9, 0) ∧ w1 = qup w 79 4 (qand (w 79 4) (qxor (qshl 1 n) (-1))) ∧ n1 = 142) = Q9
  refine qG.blk 12 (pc' := 69) (ls' := [(2, 79), (0, 1), (0, n)]) (st' := []) (w' := (qup w 79 4 (qand (w 79 4) (qxor (qshl 1 n) (-1))))) (n' := 142) rfl ?_
  refine qG.blk 1 (pc' := 111) (ls' := [(2, 79), (0, 1), (0, n)]) (st' := []) (w' := (qup w 79 4 (qand (w 79 4) (qxor (qshl 1 n) (-1))))) (n' := 142) rfl ?_
  refine qG.retv rfl rfl ?_
  subst hQ9
  first | exact ⟨rfl, rfl, rfl⟩ | exact ⟨rfl, (by rw [qup_j (show (9 : Nat) ≠ 6 by decide)]), rfl⟩
theorem K_take79_2 {d : Nat} (hd : 0 ≤ d) (n : Int) (w : qW) : qG none d 112 0 [(2, 79), (0, 2), (0, n)] [] w 142 (fun (r : qV) (w1 : qW) (n1 : Nat) => r = (9, 0) ∧ w1 = w ∧ n1 = 142) := by
  generalize hQ9 : (fun (r : qV) (w1 : qW) (n1 : Nat) => r = (9, 0) ∧ w1 = w ∧ n1 = 142) = Q9
  refine qG.blk 2 (pc' := 111) (ls' := [(2, 79), (0, 2), (0, n)]) (st' := []) (w' := w) (n' := 142) rfl ?_
  refine qG.retv rfl rfl ?_
  subst hQ9
  first | exact ⟨rfl, rfl, rfl⟩ | exact ⟨rfl, (by rw [qup_j (show (9 : Nat) ≠ 6 by decide)]), rfl⟩
theorem K_take79_3 {d : Nat} (hd : 0 ≤ d) (n : Int) (w : qW) : qG none d 112 0 [(2, 79), (0, 3), (0, n)] [] w 142 (fun (r : qV) (w1 : qW) (n1 : Nat) => r = (9, 0) ∧ w1 = qup w 79 5 n ∧ n1 = 142) := by
  generalize hQ9 : (fun (r : qV) (w1 : qW) (n1 : Nat) => r = (9, 0) ∧ w1 = qup w 79 5 n ∧ n1 = 142) = Q9
  refine qG.blk 6 (pc' := 111) (ls' := [(2, 79), (0, 3), (0, n)]) (st' := []) (w' := (qup w 79 5 n)) (n' := 142) rfl ?_
  refine qG.retv rfl rfl ?_
  subst hQ9
  first | exact ⟨rfl, rfl, rfl⟩ | exact ⟨rfl, (by rw [qup_j (show (9 : Nat) ≠ 6 by decide)]), rfl⟩
theorem K_take79_4 {d : Nat} (hd : 0 ≤ d) (n : Int) (w : qW) : qG none d 112 0 [(2, 79), (0, 4), (0, n)] [] w 142 (fun (r : qV) (w1 : qW) (n1 : Nat) => r = (9, 0) ∧ w1 = qup w 79 5 (-1) ∧ n1 = 142) := by
  generalize hQ9 : (fun (r : qV) (w1 : qW) (n1 : Nat) => r = (9, 0) ∧ w1 = qup w 79 5 (-1) ∧ n1 = 142) = Q9
  refine qG.blk 6 (pc' := 111) (ls' := [(2, 79), (0, 4), (0, n)]) (st' := []) (w' := (qup w 79 5 (-1))) (n' := 142) rfl ?_
  refine qG.retv rfl rfl ?_
  subst hQ9
  first | exact ⟨rfl, rfl, rfl⟩ | exact ⟨rfl, (by rw [qup_j (show (9 : Nat) ≠ 6 by decide)]), rfl⟩
theorem K_take79_5 {d : Nat} (hd : 0 ≤ d) (n : Int) (w : qW) : qG none d 112 0 [(2, 79), (0, 5), (0, n)] [] w 142 (fun (r : qV) (w1 : qW) (n1 : Nat) => r = (9, 0) ∧ w1 = qup (qup w 79 6 (wrp (1 - w 79 6))) 79 9 (wrp (w 79 9 + 1)) ∧ n1 = 142) := by
  generalize hQ9 : (fun (r : qV) (w1 : qW) (n1 : Nat) => r = (9, 0) ∧ w1 = qup (qup w 79 6 (wrp (1 - w 79 6))) 79 9 (wrp (w 79 9 + 1)) ∧ n1 = 142) = Q9
  refine qG.blk 7 (pc' := 95) (ls' := [(2, 79), (0, 5), (0, n)]) (st' := [(0, wrp (1 - (w 79 6))), (2, 79)]) (w' := w) (n' := 142) rfl ?_
  rw [show wrp (1 - (w 79 6)) = wrp (1 - w 79 6) from rfl]
  refine qG.blk 6 (pc' := 105) (ls' := [(2, 79), (0, 5), (0, n)]) (st' := [(0, wrp ((w 79 9) + 1)), (2, 79)]) (w' := (qup w 79 6 (wrp (1 - w 79 6)))) (n' := 142) rfl ?_
  rw [show wrp ((w 79 9) + 1) = wrp (w 79 9 + 1) from rfl]
  refine qG.blk 2 (pc' := 111) (ls' := [(2, 79), (0, 5), (0, n)]) (st' := []) (w' := (qup (qup w 79 6 (wrp (1 - w 79 6))) 79 9 (wrp (w 79 9 + 1)))) (n' := 142) rfl ?_
  refine qG.retv rfl rfl ?_
  subst hQ9
  first | exact ⟨rfl, rfl, rfl⟩ | exact ⟨rfl, (by rw [qup_j (show (9 : Nat) ≠ 6 by decide)]), rfl⟩
theorem K_take83_0 {d : Nat} (hd : 0 ≤ d) (n : Int) (w : qW) : qG none d 112 0 [(2, 83), (0, 0), (0, n)] [] w 142 (fun (r : qV) (w1 : qW) (n1 : Nat) => r = (9, 0) ∧ w1 = qup w 83 4 (qor (w 83 4) (qshl 1 n)) ∧ n1 = 142) := by
  generalize hQ9 : (fun (r : qV) (w1 : qW) (n1 : Nat) => r = (9, 0) ∧ w1 = qup w 83 4 (qor (w 83 4) (qshl 1 n)) ∧ n1 = 142) = Q9
  refine qG.blk 11 (pc' := 111) (ls' := [(2, 83), (0, 0), (0, n)]) (st' := []) (w' := (qup w 83 4 (qor (w 83 4) (qshl 1 n)))) (n' := 142) rfl ?_
  refine qG.retv rfl rfl ?_
  subst hQ9
  first | exact ⟨rfl, rfl, rfl⟩ | exact ⟨rfl, (by rw [qup_j (show (9 : Nat) ≠ 6 by decide)]), rfl⟩
theorem K_take83_1 {d : Nat} (hd : 0 ≤ d) (n : Int) (w : qW) : qG none d 112 0 [(2, 83), (0, 1), (0, n)] [] w 142 (fun (r : qV) (w1 : qW) (n1 : Nat) => r = (9, 0) ∧ w1 = qup w 83 4 (qand (w 83 4) (qxor (qshl 1 n) (-1))) ∧ n1 = 142) := by
  generalize hQ9 : (fun (r : qV) (w1 : qW) (n1 : Nat) => r = (9, 0) ∧ w1 = qup w 83 4 (qand (w 83 4) (qxor (qshl 1 n) (-1))) ∧ n1 = 142) = Q9
  refine qG.blk 12 (pc' := 69) (ls' := [(2, 83), (0, 1), (0, n)]) (st' := []) (w' := (qup w 83 4 (qand (w 83 4) (qxor (qshl 1 n) (-1))))) (n' := 142) rfl ?_
  refine qG.blk 1 (pc' := 111) (ls' := [(2, 83), (0, 1), (0, n)]) (st' := []) (w' := (qup w 83 4 (qand (w 83 4) (qxor (qshl 1 n) (-1))))) (n' := 142) rfl ?_
  refine qG.retv rfl rfl ?_
  subst hQ9
  first | exact ⟨rfl, rfl, rfl⟩ | exact ⟨rfl, (by rw [qup_j (show (9 : Nat) ≠ 6 by decide)]), rfl⟩
theorem K_take83_2 {d : Nat} (hd : 0 ≤ d) (n : Int) (w : qW) : qG none d 112 0 [(2, 83), (0, 2), (0, n)] [] w 142 (fun (r : qV) (w1 : qW) (n1 : Nat) => r = (9, 0) ∧ w1 = w ∧ n1 = 142) := by
  generalize hQ9 : (fun (r : qV) (w1 : qW) (n1 : Nat) => r = (9, 0) ∧ w1 = w ∧ n1 = 142) = Q9
  refine qG.blk 2 (pc' := 111) (ls' := [(2, 83), (0, 2), (0, n)]) (st' := []) (w' := w) (n' := 142) rfl ?_
  refine qG.retv rfl rfl ?_
  subst hQ9
  first | exact ⟨rfl, rfl, rfl⟩ | exact ⟨rfl, (by rw [qup_j (show (9 : Nat) ≠ 6 by decide)]), rfl⟩
theorem K_take83_3 {d : Nat} (hd : 0 ≤ d) (n : Int) (w : qW) : qG none d 112 0 [(2, 83), (0, 3), (0, n)] [] w 142 (fun (r : qV) (w1 : qW) (n1 : Nat) => r = (9, 0) ∧ w1 = qup w 83 5 n ∧ n1 = 142) := by
  generalize hQ9 : (fun (r : qV) (w1 : qW) (n1 : Nat) => r = (9, 0) ∧ w1 = qup w 83 5 n ∧ n1 = 142) = Q9
  refine qG.blk 6 (pc' := 111) (ls' := [(2, 83), (0, 3), (0, n)]) (st' := []) (w' := (qup w 83 5 n)) (n' := 142) rfl ?_
  refine qG.retv rfl rfl ?_
  subst hQ9
  first | exact ⟨rfl, rfl, rfl⟩ | exact ⟨rfl, (by rw [qup_j (show (9 : Nat) ≠ 6 by decide)]), rfl⟩
theorem K_take83_4 {d : Nat} (hd : 0 ≤ d) (n : Int) (w : qW) : qG none d 112 0 [(2, 83), (0, 4), (0, n)] [] w 142 (fun (r : qV) (w1 : qW) (n1 : Nat) => r = (9, 0) ∧ w1 = qup w 83 5 (-1) ∧ n1 = 142) := by
  generalize hQ9 : (fun (r : qV) (w1 : qW) (n1 : Nat) => r = (9, 0) ∧ w1 = qup w 83 5 (-1) ∧ n1 = 142) = Q9
  refine qG.blk 6 (pc' := 111) (ls' := [(2, 83), (0, 4), (0, n)]) (st' := []) (w' := (qup w 83 5 (-1))) (n' := 142) rfl ?_
  refine qG.retv rfl rfl ?_
  subst hQ9
  first | exact ⟨rfl, rfl, rfl⟩ | exact ⟨rfl, (by rw [qup_j (show (9 : Nat) ≠ 6 by decide)]), rfl⟩
theorem K_take83_5 {d : Nat} (hd : 0 ≤ d) (n : Int) (w : qW) : qG none d 112 0 [(2, 83), (0, 5), (0, n)] [] w 142 (fun (r : qV) (w1 : qW) (n1 : Nat) => r = (9, 0) ∧ w1 = qup (qup w 83 6 (wrp (1 - w 83 6))) 83 9 (wrp (w 83 9 + 1)) ∧ n1 = 142) := by
  generalize hQ9 : (fun (r : qV) (w1 : qW) (n1 : Nat) => r = (9, 0) ∧ w1 = qup (qup w 83 6 (wrp (1 - w 83 6))) 83 9 (wrp (w 83 9 + 1)) ∧ n1 = 142) = Q9
  refine qG.blk 7 (pc' := 95) (ls' := [(2, 83), (0, 5), (0, n)]) (st' := [(0, wrp (1 - (w 83 6))), (2, 83)]) (w' := w) (n' := 142) rfl ?_
  rw [show wrp (1 - (w 83 6)) = wrp (1 - w 83 6) from rfl]
  refine qG.blk 6 (pc' := 105) (ls' := [(2, 83), (0, 5), (0, n)]) (st' := [(0, wrp ((w 83 9) + 1)), (2, 83)]) (w' := (qup w 83 6 (wrp (1 - w 83 6)))) (n' := 142) rfl ?_
  rw [show wrp ((w 83 9) + 1) = wrp (w 83 9 + 1) from rfl]
  refine qG.blk 2 (pc' := 111) (ls' := [(2, 83), (0, 5), (0, n)]) (st' := []) (w' := (qup (qup w 83 6 (wrp (1 - w 83 6))) 83 9 (wrp (w 83 9 + 1)))) (n' := 142) rfl ?_
  refine qG.retv rfl rfl ?_
  subst hQ9
  first | exact ⟨rfl, rfl, rfl⟩ | exact ⟨rfl, (by rw [qup_j (show (9 : Nat) ≠ 6 by decide)]), rfl⟩
theorem K_take87_0 {d : Nat} (hd : 0 ≤ d) (n : Int) (w : qW) : qG none d 112 0 [(2, 87), (0, 0), (0, n)] [] w 142 (fun (r : qV) (w1 : qW) (n1 : Nat) => r = (9, 0) ∧ w1 = qup w 87 4 (qor (w 87 4) (qshl 1 n)) ∧ n1 = 142) := by
  generalize hQ9 : (fun (r : qV) (w1 : qW) (n1 : Nat) => r = (9, 0) ∧ w1 = qup w 87 4 (qor (w 87 4) (qshl 1 n)) ∧ n1 = 142) = Q9
  refine qG.blk 11 (pc' := 111) (ls' := [(2, 87), (0, 0), (0, n)]) (st' := []) (w' := (qup w 87 4 (qor (w 87 4) (qshl 1 n)))) (n' := 142) rfl ?_
  refine qG.retv rfl rfl ?_
  subst hQ9
  first | exact ⟨rfl, rfl, rfl⟩ | exact ⟨rfl, (by rw [qup_j (show (9 : Nat) ≠ 6 by decide)]), rfl⟩
theorem K_take87_1 {d : Nat} (hd : 0 ≤ d) (n : Int) (w : qW) : qG none d 112 0 [(2, 87), (0, 1), (0, n)] [] w 142 (fun (r : qV) (w1 : qW) (n1 : Nat) => r = (9, 0) ∧ w1 = qup w 87 4 (qand (w 87 4) (qxor (qshl 1 n) (-1))) ∧ n1 = 142) := by
  generalize hQ9 : (fun (r : qV) (w1 : qW) (n1 : Nat) => r = (9, 0) ∧ w1 = qup w 87 4 (qand (w 87 4) (qxor (qshl 1 n) (-1))) ∧ n1 = 142) = Q9
  refine qG.blk 12 (pc' := 69) (ls' := [(2, 87), (0, 1), (0, n)]) (st' := []) (w' := (qup w 87 4 (qand (w 87 4) (qxor (qshl 1 n) (-1))))) (n' := 142) rfl ?_
  refine qG.blk 1 (pc' := 111) (ls' := [(2, 87), (0, 1), (0, n)]) (st' := []) (w' := (qup w 87 4 (qand (w 87 4) (qxor (qshl 1 n) (-1))))) (n' := 142) rfl ?_
  refine qG.retv rfl rfl ?_
  subst hQ9
  first | exact ⟨rfl, rfl, rfl⟩ | exact ⟨rfl, (by rw [qup_j (show (9 : Nat) ≠ 6 by decide)]), rfl⟩
theorem K_take87_2 {d : Nat} (hd : 0 ≤ d) (n : Int) (w : qW) : qG none d 112 0 [(2, 87), (0, 2), (0, n)] [] w 142 (fun (r : qV) (w1 : qW) (n1 : Nat) => r = (9, 0) ∧ w1 = w ∧ n1 = 142) := by
  generalize hQ9 : (fun (r : qV) (w1 : qW) (n1 : Nat) => r = (9, 0) ∧ w1 = w ∧ n1 = 142) = Q9
  refine qG.blk 2 (pc' := 111) (ls' := [(2, 87), (0, 2), (0, n)]) (st' := []) (w' := w) (n' := 142) rfl ?_
  refine qG.retv rfl rfl ?_
  subst hQ9
  first | exact ⟨rfl, rfl, rfl⟩ | exact ⟨rfl, (by rw [qup_j (show (9 : Nat) ≠ 6 by decide)]), rfl⟩
theorem K_take87_3 {d : Nat} (hd : 0 ≤ d) (n : Int) (w : qW) : qG none d 112 0 [(2, 87), (0, 3), (0, n)] [] w 142 (fun (r : qV) (w1 : qW) (n1 : Nat) => r = (9, 0) ∧ w1 = qup w 87 5 n ∧ n1 = 142) := by
  generalize hQ9 : (fun (r : qV) (w1 : qW) (n1 : Nat) => r = (9, 0) ∧ w1 = qup w 87 5 n ∧ n1 = 142) = Q9
  refine qG.blk 6 (pc' := 111) (ls' := [(2, 87), (0, 3), (0, n)]) (st' := []) (w' := (qup w 87 5 n)) (n' := 142) rfl ?_
  refine qG.retv rfl rfl ?_
  subst hQ9
  first | exact ⟨rfl, rfl, rfl⟩ | exact ⟨rfl, (by rw [qup_j (show (9 : Nat) ≠ 6 by decide)]), rfl⟩
theorem K_take87_4 {d : Nat} (hd : 0 ≤ d) (n : Int) (w : qW) : qG none d 112 0 [(2, 87), (0, 4), (0, n)] [] w 142 (fun (r : qV) (w1 : qW) (n1 : Nat) => r = (9, 0) ∧ w1 = qup w 87 5 (-1) ∧ n1 = 142) := by
  generalize hQ9 : (fun (r : qV) (w1 : qW) (n1 : Nat) => r = (9, 0) ∧ w1 = qup w 87 5 (-1) ∧ n1 = 142) = Q9
  refine qG.blk 6 (pc' := 111) (ls' := [(2, 87), (0, 4), (0, n)]) (st' := []) (w' := (qup w 87 5 (-1))) (n' := 142) rfl ?_
  refine qG.retv rfl rfl ?_
  subst hQ9
  first | exact ⟨rfl, rfl, rfl⟩ | exact ⟨rfl, (by rw [qup_j (show (9 : Nat) ≠ 6 by decide)]), rfl⟩
theorem K_take87_5 {d : Nat} (hd : 0 ≤ d) (n : Int) (w : qW) : qG none d 112 0 [(2, 87), (0, 5), (0, n)] [] w 142 (fun (r : qV) (w1 : qW) (n1 : Nat) => r = (9, 0) ∧ w1 = qup (qup w 87 6 (wrp (1 - w 87 6))) 87 9 (wrp (w 87 9 + 1)) ∧ n1 = 142) := by
  generalize hQ9 : (fun (r : qV) (w1 : qW) (n1 : Nat) => r = (9, 0) ∧ w1 = qup (qup w 87 6 (wrp (1 - w 87 6))) 87 9 (wrp (w 87 9 + 1)) ∧ n1 = 142) = Q9
  refine qG.blk 7 (pc' := 95) (ls' := [(2, 87), (0, 5), (0, n)]) (st' := [(0, wrp (1 - (w 87 6))), (2, 87)]) (w' := w) (n' := 142) rfl ?_
  rw [show wrp (1 - (w 87 6)) = wrp (1 - w 87 6) from rfl]
  refine qG.blk 6 (pc' := 105) (ls' := [(2, 87), (0, 5), (0, n)]) (st' := [(0, wrp ((w 87 9) + 1)), (2, 87)]) (w' := (qup w 87 6 (wrp (1 - w 87 6)))) (n' := 142) rfl ?_
  rw [show wrp ((w 87 9) + 1) = wrp (w 87 9 + 1) from rfl]
  refine qG.blk 2 (pc' := 111) (ls' := [(2, 87), (0, 5), (0, n)]) (st' := []) (w' := (qup (qup w 87 6 (wrp (1 - w 87 6))) 87 9 (wrp (w 87 9 + 1)))) (n' := 142) rfl ?_
  refine qG.retv rfl rfl ?_
  subst hQ9
  first | exact ⟨rfl, rfl, rfl⟩ | exact ⟨rfl, (by rw [qup_j (show (9 : Nat) ≠ 6 by decide)]), rfl⟩
theorem K_take91_0 {d : Nat} (hd : 0 ≤ d) (n : Int) (w : qW) : qG none d 112 0 [(2, 91), (0, 0), (0, n)] [] w 142 (fun (r : qV) (w1 : qW) (n1 : Nat) => r = (9, 0) ∧ w1 = qup w 91 4 (qor (w 91 4) (qshl 1 n)) ∧ n1 = 142) := by
  generalize hQ9 : (fun (r : qV) (w1 : qW) (n1 : Nat) => r = (9, 0) ∧ w1 = qup w 91 4 (qor (w 91 4) (qshl 1 n)) ∧ n1 = 142) = Q9
  refine qG.blk 11 (pc' := 111) (ls' := [(2, 91), (0, 0), (0, n)]) (st' := []) (w' := (qup w 91 4 (qor (w 91 4) (qshl 1 n)))) (n' := 142) rfl ?_
  refine qG.retv rfl rfl ?_
  subst hQ9
  first | exact ⟨rfl, rfl, rfl⟩ | exact ⟨rfl, (by rw [qup_j (show (9 : Nat) ≠ 6 by decide)]), rfl⟩
theorem K_take91_1 {d : Nat} (hd : 0 ≤ d) (n : Int) (w : qW) : qG none d 112 0 [(2, 91), (0, 1), (0, n)] [] w 142 (fun (r : qV) (w1 : qW) (n1 : Nat) => r = (9, 0) ∧ w1 = qup w 91 4 (qand (w 91 4) (qxor (qshl 1 n) (-1))) ∧ n1 = 142) := by
  generalize hQ9 : (fun (r : qV) (w1 : qW) (n1 : Nat) => r = (9, 0) ∧ w1 = qup w 91 4 (qand (w 91 4) (qxor (qshl 1 n) (-1))) ∧ n1 = 142) = Q9
  refine qG.blk 12 (pc' := 69) (ls' := [(2, 91), (0, 1), (0, n)]) (st' := []) (w' := (qup w 91 4 (qand (w 91 4) (qxor (qshl 1 n) (-1))))) (n' := 142) rfl ?_
  refine qG.blk 1 (pc' := 111) (ls' := [(2, 91), (0, 1), (0, n)]) (st' := []) (w' := (qup w 91 4 (qand (w 91 4) (qxor (qshl 1 n) (-1))))) (n' := 142) rfl ?_
  refine qG.retv rfl rfl ?_
  subst hQ9
  first | exact ⟨rfl, rfl, rfl⟩ | exact ⟨rfl, (by rw [qup_j (show (9 : Nat) ≠ 6 by decide)]), rfl⟩
theorem K_take91_2 {d : Nat} (hd : 0 ≤ d) (n : Int) (w : qW) : qG none d 112 0 [(2, 91), (0, 2), (0, n)] [] w 142 (fun (r : qV) (w1 : qW) (n1 : Nat) => r = (9, 0) ∧ w1 = w ∧ n1 = 142) := by
  generalize hQ9 : (fun (r : qV) (w1 : qW) (n1 : Nat) => r = (9, 0) ∧ w1 = w ∧ n1 = 142) = Q9
  refine qG.blk 2 (pc' := 111) (ls' := [(2, 91), (0, 2), (0, n)]) (st' := []) (w' := w) (n' := 142) rfl ?_
  refine qG.retv rfl rfl ?_
  subst hQ9
  first | exact ⟨rfl, rfl, rfl⟩ | exact ⟨rfl, (by rw [qup_j (show (9 : Nat) ≠ 6 by decide)]), rfl⟩
theorem K_take91_3 {d : Nat} (hd : 0 ≤ d) (n : Int) (w : qW) : qG none d 112 0 [(2, 91), (0, 3), (0, n)] [] w 142 (fun (r : qV) (w1 : qW) (n1 : Nat) => r = (9, 0) ∧ w1 = qup w 91 5 n ∧ n1 = 142) := by
  generalize hQ9 : (fun (r : qV) (w1 : qW) (n1 : Nat) => r = (9, 0) ∧ w1 = qup w 91 5 n ∧ n1 = 142) = Q9
  refine qG.blk 6 (pc' := 111) (ls' := [(2, 91), (0, 3), (0, n)]) (st' := []) (w' := (qup w 91 5 n)) (n' := 142) rfl ?_
  refine qG.retv rfl rfl ?_
  subst hQ9
  first | exact ⟨rfl, rfl, rfl⟩ | exact ⟨rfl, (by rw [qup_j (show (9 : Nat) ≠ 6 by decide)]), rfl⟩
theorem K_take91_4 {d : Nat} (hd : 0 ≤ d) (n : Int) (w : qW) : qG none d 112 0 [(2, 91), (0, 4), (0, n)] [] w 142 (fun (r : qV) (w1 : qW) (n1 : Nat) => r = (9, 0) ∧ w1 = qup w 91 5 (-1) ∧ n1 = 142) := by
  generalize hQ9 : (fun (r : qV) (w1 : qW) (n1 : Nat) => r = (9, 0) ∧ w1 = qup w 91 5 (-1) ∧ n1 = 142) = Q9
  refine qG.blk 6 (pc' := 111) (ls' := [(2, 91), (0, 4), (0, n)]) (st' := []) (w' := (qup w 91 5 (-1))) (n' := 142) rfl ?_
  refine qG.retv rfl rfl ?_
  subst hQ9
  first | exact ⟨rfl, rfl, rfl⟩ | exact ⟨rfl, (by rw [qup_j (show (9 : Nat) ≠ 6 by decide)]), rfl⟩
theorem K_take91_5 {d : Nat} (hd : 0 ≤ d) (n : Int) (w : qW) : qG none d 112 0 [(2, 91), (0, 5), (0, n)] [] w 142 (fun (r : qV) (w1 : qW) (n1 : Nat) => r = (9, 0) ∧ w1 = qup (qup w 91 6 (wrp (1 - w 91 6))) 91 9 (wrp (w 91 9 + 1)) ∧ n1 = 142) := by
  generalize hQ9 : (fun (r : qV) (w1 : qW) (n1 : Nat) => r = (9, 0) ∧ w1 = qup (qup w 91 6 (wrp (1 - w 91 6))) 91 9 (wrp (w 91 9 + 1)) ∧ n1 = 142) = Q9
  refine qG.blk 7 (pc' := 95) (ls' := [(2, 91), (0, 5), (0, n)]) (st' := [(0, wrp (1 - (w 91 6))), (2, 91)]) (w' := w) (n' := 142) rfl ?_
  rw [show wrp (1 - (w 91 6)) = wrp (1 - w 91 6) from rfl]
  refine qG.blk 6 (pc' := 105) (ls' := [(2, 91), (0, 5), (0, n)]) (st' := [(0, wrp ((w 91 9) + 1)), (2, 91)]) (w' := (qup w 91 6 (wrp (1 - w 91 6)))) (n' := 142) rfl ?_
  rw [show wrp ((w 91 9) + 1) = wrp (w 91 9 + 1) from rfl]
  refine qG.blk 2 (pc' := 111) (ls' := [(2, 91), (0, 5), (0, n)]) (st' := []) (w' := (qup (qup w 91 6 (wrp (1 - w 91 6))) 91 9 (wrp (w 91 9 + 1)))) (n' := 142) rfl ?_
  refine qG.retv rfl rfl ?_
  subst hQ9
  first | exact ⟨rfl, rfl, rfl⟩ | exact ⟨rfl, (by rw [qup_j (show (9 : Nat) ≠ 6 by decide)]), rfl⟩
theorem K_sideOf64 {d : Nat} (hd : 0 ≤ d) (dd : Nat) (hd10 : dd < 10) (w : qW) (hI : yInv zgf zga zra zSp w) (hE : JE w) : qG none d 26 0 [(2, 64), (0, ((dd : Nat) : Int))] [] w 142 (fun (r : qV) (w1 : qW) (n1 : Nat) => r = (0, w 97 (10 * 0 + dd)) ∧ w1 = w ∧ n1 = 142) := by
  generalize hQ9 : (fun (r : qV) (w1 : qW) (n1 : Nat) => r = (0, w 97 (10 * 0 + dd)) ∧ w1 = w ∧ n1 = 142) = Q9
  refine qG.blk 1 (pc' := 1) (ls' := [(2, 64), (0, ((dd : Nat) : Int))]) (st' := [(0, ((dd : Nat) : Int))]) (w' := w) (n' := 142) rfl ?_
  refine qG.br (P := ((dd : Nat) : Int) < 0) (pc1 := 19) (pc2 := 4) (st1 := []) rfl (fun hq1 => ?_) (fun hq1 => ?_)
  · exfalso; omega
  · skip
    refine qG.blk 2 (pc' := 7) (ls' := [(2, 64), (0, ((dd : Nat) : Int))]) (st' := [(0, 10), (0, ((dd : Nat) : Int))]) (w' := w) (n' := 142) rfl ?_
    refine qG.br (P := ((dd : Nat) : Int) < 10) (pc1 := 10) (pc2 := 19) (st1 := []) rfl (fun hq7 => ?_) (fun hq7 => ?_)
    · skip
      refine qG.blk 2 (pc' := 14) (ls' := [(2, 64), (0, ((dd : Nat) : Int))]) (st' := [(2, w 64 3)]) (w' := w) (n' := 142) rfl ?_
      rw [show w 64 3 = 66 from zref hI rfl rfl]
      refine qG.blk 1 (pc' := 15) (ls' := [(2, 64), (0, ((dd : Nat) : Int))]) (st' := [(0, ((dd : Nat) : Int)), (2, 66)]) (w' := w) (n' := 142) rfl ?_
      refine qG.ar (P := 0 ≤ ((dd : Nat) : Int) ∧ ((dd : Nat) : Int) < ((10 : Nat) : Int)) (P2 := 0 < (66 : Int) ∧ (66 : Int) ≤ ((142 : Nat) : Int)) (pc' := 16) (ls' := [(2, 64), (0, ((dd : Nat) : Int))]) (st' := [(0, w 66 dd)]) (w' := w) (n' := 142) rfl (by omega) (by decide) ?_
      rw [show w 66 dd = w 97 (10 * 0 + dd) from (hE 0 dd (by decide) (by omega)).1.1]
      refine qG.blk 1 (pc' := 20) (ls' := [(2, 64), (0, ((dd : Nat) : Int))]) (st' := [(0, w 97 (10 * 0 + dd))]) (w' := w) (n' := 142) rfl ?_
      refine qG.ret rfl rfl ?_
      subst hQ9
      exact ⟨rfl, rfl, rfl⟩
    · exfalso; omega
theorem K_sideOf69 {d : Nat} (hd : 0 ≤ d) (dd : Nat) (hd10 : dd < 10) (w : qW) (hI : yInv zgf zga zra zSp w) (hE : JE w) : qG none d 26 0 [(2, 69), (0, ((dd : Nat) : Int))] [] w 142 (fun (r : qV) (w1 : qW) (n1 : Nat) => r = (0, w 97 (10 * 1 + dd)) ∧ w1 = w ∧ n1 = 142) := by
  generalize hQ9 : (fun (r : qV) (w1 : qW) (n1 : Nat) => r = (0, w 97 (10 * 1 + dd)) ∧ w1 = w ∧ n1 = 142) = Q9
  refine qG.blk 1 (pc' := 1) (ls' := [(2, 69), (0, ((dd : Nat) : Int))]) (st' := [(0, ((dd : Nat) : Int))]) (w' := w) (n' := 142) rfl ?_
  refine qG.br (P := ((dd : Nat) : Int) < 0) (pc1 := 19) (pc2 := 4) (st1 := []) rfl (fun hq1 => ?_) (fun hq1 => ?_)
  · exfalso; omega
  · skip
    refine qG.blk 2 (pc' := 7) (ls' := [(2, 69), (0, ((dd : Nat) : Int))]) (st' := [(0, 10), (0, ((dd : Nat) : Int))]) (w' := w) (n' := 142) rfl ?_
    refine qG.br (P := ((dd : Nat) : Int) < 10) (pc1 := 10) (pc2 := 19) (st1 := []) rfl (fun hq7 => ?_) (fun hq7 => ?_)
    · skip
      refine qG.blk 2 (pc' := 14) (ls' := [(2, 69), (0, ((dd : Nat) : Int))]) (st' := [(2, w 69 3)]) (w' := w) (n' := 142) rfl ?_
      rw [show w 69 3 = 71 from zref hI rfl rfl]
      refine qG.blk 1 (pc' := 15) (ls' := [(2, 69), (0, ((dd : Nat) : Int))]) (st' := [(0, ((dd : Nat) : Int)), (2, 71)]) (w' := w) (n' := 142) rfl ?_
      refine qG.ar (P := 0 ≤ ((dd : Nat) : Int) ∧ ((dd : Nat) : Int) < ((10 : Nat) : Int)) (P2 := 0 < (71 : Int) ∧ (71 : Int) ≤ ((142 : Nat) : Int)) (pc' := 16) (ls' := [(2, 69), (0, ((dd : Nat) : Int))]) (st' := [(0, w 71 dd)]) (w' := w) (n' := 142) rfl (by omega) (by decide) ?_
      rw [show w 71 dd = w 97 (10 * 1 + dd) from (hE 1 dd (by decide) (by omega)).1.1]
      refine qG.blk 1 (pc' := 20) (ls' := [(2, 69), (0, ((dd : Nat) : Int))]) (st' := [(0, w 97 (10 * 1 + dd))]) (w' := w) (n' := 142) rfl ?_
      refine qG.ret rfl rfl ?_
      subst hQ9
      exact ⟨rfl, rfl, rfl⟩
    · exfalso; omega
theorem K_sideOf74 {d : Nat} (hd : 0 ≤ d) (dd : Nat) (hd10 : dd < 10) (w : qW) (hI : yInv zgf zga zra zSp w) (hE : JE w) : qG none d 26 0 [(2, 74), (0, ((dd : Nat) : Int))] [] w 142 (fun (r : qV) (w1 : qW) (n1 : Nat) => r = (0, w 97 (10 * 2 + dd)) ∧ w1 = w ∧ n1 = 142) := by
  generalize hQ9 : (fun (r : qV) (w1 : qW) (n1 : Nat) => r = (0, w 97 (10 * 2 + dd)) ∧ w1 = w ∧ n1 = 142) = Q9
  refine qG.blk 1 (pc' := 1) (ls' := [(2, 74), (0, ((dd : Nat) : Int))]) (st' := [(0, ((dd : Nat) : Int))]) (w' := w) (n' := 142) rfl ?_
  refine qG.br (P := ((dd : Nat) : Int) < 0) (pc1 := 19) (pc2 := 4) (st1 := []) rfl (fun hq1 => ?_) (fun hq1 => ?_)
  · exfalso; omega
  · skip
    refine qG.blk 2 (pc' := 7) (ls' := [(2, 74), (0, ((dd : Nat) : Int))]) (st' := [(0, 10), (0, ((dd : Nat) : Int))]) (w' := w) (n' := 142) rfl ?_
    refine qG.br (P := ((dd : Nat) : Int) < 10) (pc1 := 10) (pc2 := 19) (st1 := []) rfl (fun hq7 => ?_) (fun hq7 => ?_)
    · skip
      refine qG.blk 2 (pc' := 14) (ls' := [(2, 74), (0, ((dd : Nat) : Int))]) (st' := [(2, w 74 3)]) (w' := w) (n' := 142) rfl ?_
      rw [show w 74 3 = 76 from zref hI rfl rfl]
      refine qG.blk 1 (pc' := 15) (ls' := [(2, 74), (0, ((dd : Nat) : Int))]) (st' := [(0, ((dd : Nat) : Int)), (2, 76)]) (w' := w) (n' := 142) rfl ?_
      refine qG.ar (P := 0 ≤ ((dd : Nat) : Int) ∧ ((dd : Nat) : Int) < ((10 : Nat) : Int)) (P2 := 0 < (76 : Int) ∧ (76 : Int) ≤ ((142 : Nat) : Int)) (pc' := 16) (ls' := [(2, 74), (0, ((dd : Nat) : Int))]) (st' := [(0, w 76 dd)]) (w' := w) (n' := 142) rfl (by omega) (by decide) ?_
      rw [show w 76 dd = w 97 (10 * 2 + dd) from (hE 2 dd (by decide) (by omega)).1.1]
      refine qG.blk 1 (pc' := 20) (ls' := [(2, 74), (0, ((dd : Nat) : Int))]) (st' := [(0, w 97 (10 * 2 + dd))]) (w' := w) (n' := 142) rfl ?_
      refine qG.ret rfl rfl ?_
      subst hQ9
      exact ⟨rfl, rfl, rfl⟩
    · exfalso; omega
theorem K_view4_64 {d : Nat} (hd : 1 ≤ d) (m : Nat) (hm : m < 1024) (w : qW) (hI : yInv zgf zga zra zSp w) (ho : w 4 4 = (m : Int)) (hK : w 64 0 = w 96 0) (hE : JE w) : qG none d 113 0 [(2, 4), (2, 64), (9, 0), (9, 0)] [] w 142 (fun (r : qV) (w1 : qW) (n1 : Nat) => r = (0, seG w 0 (w 4 4) (w 4 5) (w 4 6) 10) ∧ w1 = w ∧ n1 = 142) := by
  generalize hQ9 : (fun (r : qV) (w1 : qW) (n1 : Nat) => r = (0, seG w 0 (w 4 4) (w 4 5) (w 4 6) 10) ∧ w1 = w ∧ n1 = 142) = Q9
  obtain ⟨d, rfl⟩ : ∃ d9, d = d9 + 1 := ⟨d - 1, by omega⟩
  refine qG.blk 4 (pc' := 4) (ls' := [(2, 4), (2, 64), (0, 0), (0, 0)]) (st' := []) (w' := w) (n' := 142) rfl ?_
  have L4 : ∀ (m9 : Nat) (j : Nat), 10 - j = m9 → (j ≤ 10) → qG none (d + 1) 113 4 [(2, 4), (2, 64), (0, seG w 0 (w 4 4) (w 4 5) (w 4 6) j), (0, ((j : Nat) : Int))] [] w 142 Q9 := by
    intro m9
    induction m9 using Nat.strongRecOn with
    | ind m9 ih4 =>
    intro j hm4 hI4
    refine qG.blk 2 (pc' := 7) (ls' := [(2, 4), (2, 64), (0, seG w 0 (w 4 4) (w 4 5) (w 4 6) j), (0, ((j : Nat) : Int))]) (st' := [(0, 10), (0, ((j : Nat) : Int))]) (w' := w) (n' := 142) rfl ?_
    refine qG.br (P := ((j : Nat) : Int) < 10) (pc1 := 10) (pc2 := 60) (st1 := []) rfl (fun hj => ?_) (fun hj => ?_)
    · skip
      refine qG.blk 6 (pc' := 18) (ls' := [(2, 4), (2, 64), (0, seG w 0 (w 4 4) (w 4 5) (w 4 6) j), (0, ((j : Nat) : Int))]) (st' := [(0, qand (qush (w 4 4) ((j : Nat) : Int)) 1)]) (w' := w) (n' := 142) rfl ?_
      refine qG.br (P := qand (qush (w 4 4) ((j : Nat) : Int)) 1 = 0) (pc1 := 54) (pc2 := 21) (st1 := []) rfl (fun hbit => ?_) (fun hbit => ?_)
      · skip
        have hb1 : ¬ qand (qshr (w 4 4) ((j : Nat) : Int)) 1 = 1 := fun z => by rw [ho, ← ushr_b hm (by omega), ← ho, hbit] at z; exact absurd z (by decide)
        refine qG.blk 1 (pc' := 57) (ls' := [(2, 4), (2, 64), (0, seG w 0 (w 4 4) (w 4 5) (w 4 6) j), (0, wrp (((j : Nat) : Int) + 1))]) (st' := []) (w' := w) (n' := 142) rfl ?_
        rw [show wrp (((j : Nat) : Int) + 1) = ((j + 1 : Nat) : Int) from wrp_id (by omega) (by omega)]
        refine qG.blk 1 (pc' := 4) (ls' := [(2, 4), (2, 64), (0, seG w 0 (w 4 4) (w 4 5) (w 4 6) j), (0, ((j + 1 : Nat) : Int))]) (st' := []) (w' := w) (n' := 142) rfl ?_
        have e9 : seG w 0 (w 4 4) (w 4 5) (w 4 6) (j + 1) = seG w 0 (w 4 4) (w 4 5) (w 4 6) j := by rw [seG_s]; first | (rw [if_pos hb1, if_pos hfr, if_pos hcd]; done) | (rw [if_pos hb1, if_pos hfr, if_neg hcd]; done) | (rw [if_pos hb1, if_neg hfr]; done) | (rw [if_neg hb1]; done)
        exact e9 ▸ ih4 _ (by omega) (j + 1) rfl (by omega)
      · skip
        have hb1 : qand (qshr (w 4 4) ((j : Nat) : Int)) 1 = 1 := by rw [ho, ← ushr_b hm (by omega), ← ho]; have q := qand_1 (qush (w 4 4) ((j : Nat) : Int)); omega
        refine qG.blk 2 (pc' := 23) (ls' := [(2, 4), (2, 64), (0, seG w 0 (w 4 4) (w 4 5) (w 4 6) j), (0, ((j : Nat) : Int))]) (st' := [(0, ((j : Nat) : Int)), (2, 64)]) (w' := w) (n' := 142) rfl ?_
        refine qG.call (t := 26) (na := 2) (sk := 1) (md := 1) (ls1 := [(2, 64), (0, ((j : Nat) : Int))]) (r1 := []) rfl rfl rfl rfl rfl (K_sideOf64 (Nat.zero_le _) j (by omega) w hI hE) ?_
        rintro _ w7 _ ⟨rfl, hw7, rfl⟩
        rw [hw7]
        show qG none (d + 1) 113 26 [(2, 4), (2, 64), (0, seG w 0 (w 4 4) (w 4 5) (w 4 6) j), (0, ((j : Nat) : Int))] [(0, w 97 (10 * 0 + j))] w 142 Q9
        refine qG.blk 2 (pc' := 30) (ls' := [(2, 4), (2, 64), (0, seG w 0 (w 4 4) (w 4 5) (w 4 6) j), (0, ((j : Nat) : Int))]) (st' := [(0, w 4 6), (0, w 97 (10 * 0 + j))]) (w' := w) (n' := 142) rfl ?_
        refine qG.br (P := w 97 (10 * 0 + j) = w 4 6) (pc1 := 33) (pc2 := 54) (st1 := []) rfl (fun hfr => ?_) (fun hfr => ?_)
        · skip
          refine qG.blk 6 (pc' := 41) (ls' := [(2, 4), (2, 64), (0, seG w 0 (w 4 4) (w 4 5) (w 4 6) j), (0, ((j : Nat) : Int))]) (st' := [(0, w 4 5), (0, ((j : Nat) : Int)), (0, ((j : Nat) : Int)), (2, 64), (0, seG w 0 (w 4 4) (w 4 5) (w 4 6) j)]) (w' := w) (n' := 142) rfl ?_
          refine qG.br (P := ((j : Nat) : Int) = w 4 5) (pc1 := 44) (pc2 := 48) (st1 := [(0, ((j : Nat) : Int)), (2, 64), (0, seG w 0 (w 4 4) (w 4 5) (w 4 6) j)]) rfl (fun hcd => ?_) (fun hcd => ?_)
          · skip
            refine qG.blk 2 (pc' := 49) (ls' := [(2, 4), (2, 64), (0, seG w 0 (w 4 4) (w 4 5) (w 4 6) j), (0, ((j : Nat) : Int))]) (st' := [(0, 1), (0, ((j : Nat) : Int)), (2, 64), (0, seG w 0 (w 4 4) (w 4 5) (w 4 6) j)]) (w' := w) (n' := 142) rfl ?_
            refine qG.call (t := 27) (na := 3) (sk := 1) (md := 1) (ls1 := [(2, 64), (0, ((j : Nat) : Int)), (0, 1), (9, 0), (9, 0)]) (r1 := [(0, seG w 0 (w 4 4) (w 4 5) (w 4 6) j)]) rfl rfl rfl rfl rfl (K_shown64 (Nat.zero_le _) j (1) w hI hK hE) ?_
            rintro _ w7 _ ⟨rfl, hw7, rfl⟩
            rw [hw7, show shD w 0 j (1) = thrF w 0 j (1) from if_pos (by omega)]
            show qG none (d + 1) 113 52 [(2, 4), (2, 64), (0, seG w 0 (w 4 4) (w 4 5) (w 4 6) j), (0, ((j : Nat) : Int))] [(0, thrF w 0 j (1)), (0, seG w 0 (w 4 4) (w 4 5) (w 4 6) j)] w 142 Q9
            refine qG.blk 3 (pc' := 57) (ls' := [(2, 4), (2, 64), (0, qor (seG w 0 (w 4 4) (w 4 5) (w 4 6) j) (thrF w 0 j (1))), (0, wrp (((j : Nat) : Int) + 1))]) (st' := []) (w' := w) (n' := 142) rfl ?_
            rw [show wrp (((j : Nat) : Int) + 1) = ((j + 1 : Nat) : Int) from wrp_id (by omega) (by omega)]
            refine qG.blk 1 (pc' := 4) (ls' := [(2, 4), (2, 64), (0, qor (seG w 0 (w 4 4) (w 4 5) (w 4 6) j) (thrF w 0 j (1))), (0, ((j + 1 : Nat) : Int))]) (st' := []) (w' := w) (n' := 142) rfl ?_
            have e9 : seG w 0 (w 4 4) (w 4 5) (w 4 6) (j + 1) = qor (seG w 0 (w 4 4) (w 4 5) (w 4 6) j) (thrF w 0 j (1)) := by rw [seG_s]; first | (rw [if_pos hb1, if_pos hfr, if_pos hcd]; done) | (rw [if_pos hb1, if_pos hfr, if_neg hcd]; done) | (rw [if_pos hb1, if_neg hfr]; done) | (rw [if_neg hb1]; done)
            exact e9 ▸ ih4 _ (by omega) (j + 1) rfl (by omega)
          · skip
            refine qG.blk 1 (pc' := 49) (ls' := [(2, 4), (2, 64), (0, seG w 0 (w 4 4) (w 4 5) (w 4 6) j), (0, ((j : Nat) : Int))]) (st' := [(0, 0), (0, ((j : Nat) : Int)), (2, 64), (0, seG w 0 (w 4 4) (w 4 5) (w 4 6) j)]) (w' := w) (n' := 142) rfl ?_
            refine qG.call (t := 27) (na := 3) (sk := 1) (md := 1) (ls1 := [(2, 64), (0, ((j : Nat) : Int)), (0, 0), (9, 0), (9, 0)]) (r1 := [(0, seG w 0 (w 4 4) (w 4 5) (w 4 6) j)]) rfl rfl rfl rfl rfl (K_shown64 (Nat.zero_le _) j (0) w hI hK hE) ?_
            rintro _ w7 _ ⟨rfl, hw7, rfl⟩
            rw [hw7, show shD w 0 j (0) = thrF w 0 j (0) from if_pos (by omega)]
            show qG none (d + 1) 113 52 [(2, 4), (2, 64), (0, seG w 0 (w 4 4) (w 4 5) (w 4 6) j), (0, ((j : Nat) : Int))] [(0, thrF w 0 j (0)), (0, seG w 0 (w 4 4) (w 4 5) (w 4 6) j)] w 142 Q9
            refine qG.blk 3 (pc' := 57) (ls' := [(2, 4), (2, 64), (0, qor (seG w 0 (w 4 4) (w 4 5) (w 4 6) j) (thrF w 0 j (0))), (0, wrp (((j : Nat) : Int) + 1))]) (st' := []) (w' := w) (n' := 142) rfl ?_
            rw [show wrp (((j : Nat) : Int) + 1) = ((j + 1 : Nat) : Int) from wrp_id (by omega) (by omega)]
            refine qG.blk 1 (pc' := 4) (ls' := [(2, 4), (2, 64), (0, qor (seG w 0 (w 4 4) (w 4 5) (w 4 6) j) (thrF w 0 j (0))), (0, ((j + 1 : Nat) : Int))]) (st' := []) (w' := w) (n' := 142) rfl ?_
            have e9 : seG w 0 (w 4 4) (w 4 5) (w 4 6) (j + 1) = qor (seG w 0 (w 4 4) (w 4 5) (w 4 6) j) (thrF w 0 j (0)) := by rw [seG_s]; first | (rw [if_pos hb1, if_pos hfr, if_pos hcd]; done) | (rw [if_pos hb1, if_pos hfr, if_neg hcd]; done) | (rw [if_pos hb1, if_neg hfr]; done) | (rw [if_neg hb1]; done)
            exact e9 ▸ ih4 _ (by omega) (j + 1) rfl (by omega)
        · skip
          refine qG.blk 1 (pc' := 57) (ls' := [(2, 4), (2, 64), (0, seG w 0 (w 4 4) (w 4 5) (w 4 6) j), (0, wrp (((j : Nat) : Int) + 1))]) (st' := []) (w' := w) (n' := 142) rfl ?_
          rw [show wrp (((j : Nat) : Int) + 1) = ((j + 1 : Nat) : Int) from wrp_id (by omega) (by omega)]
          refine qG.blk 1 (pc' := 4) (ls' := [(2, 4), (2, 64), (0, seG w 0 (w 4 4) (w 4 5) (w 4 6) j), (0, ((j + 1 : Nat) : Int))]) (st' := []) (w' := w) (n' := 142) rfl ?_
          have e9 : seG w 0 (w 4 4) (w 4 5) (w 4 6) (j + 1) = seG w 0 (w 4 4) (w 4 5) (w 4 6) j := by rw [seG_s]; first | (rw [if_pos hb1, if_pos hfr, if_pos hcd]; done) | (rw [if_pos hb1, if_pos hfr, if_neg hcd]; done) | (rw [if_pos hb1, if_neg hfr]; done) | (rw [if_neg hb1]; done)
          exact e9 ▸ ih4 _ (by omega) (j + 1) rfl (by omega)
    · skip
      refine qG.blk 1 (pc' := 61) (ls' := [(2, 4), (2, 64), (0, seG w 0 (w 4 4) (w 4 5) (w 4 6) j), (0, ((j : Nat) : Int))]) (st' := [(0, seG w 0 (w 4 4) (w 4 5) (w 4 6) j)]) (w' := w) (n' := 142) rfl ?_
      refine qG.ret rfl rfl ?_
      subst hQ9
      exact ⟨by rw [show j = 10 by omega], rfl, rfl⟩
  exact L4 _ (0) rfl (by omega)
theorem K_view4_69 {d : Nat} (hd : 1 ≤ d) (m : Nat) (hm : m < 1024) (w : qW) (hI : yInv zgf zga zra zSp w) (ho : w 4 4 = (m : Int)) (hK : w 69 0 = w 96 1) (hE : JE w) : qG none d 113 0 [(2, 4), (2, 69), (9, 0), (9, 0)] [] w 142 (fun (r : qV) (w1 : qW) (n1 : Nat) => r = (0, seG w 1 (w 4 4) (w 4 5) (w 4 6) 10) ∧ w1 = w ∧ n1 = 142) := by
  generalize hQ9 : (fun (r : qV) (w1 : qW) (n1 : Nat) => r = (0, seG w 1 (w 4 4) (w 4 5) (w 4 6) 10) ∧ w1 = w ∧ n1 = 142) = Q9
  obtain ⟨d, rfl⟩ : ∃ d9, d = d9 + 1 := ⟨d - 1, by omega⟩
  refine qG.blk 4 (pc' := 4) (ls' := [(2, 4), (2, 69), (0, 0), (0, 0)]) (st' := []) (w' := w) (n' := 142) rfl ?_
  have L4 : ∀ (m9 : Nat) (j : Nat), 10 - j = m9 → (j ≤ 10) → qG none (d + 1) 113 4 [(2, 4), (2, 69), (0, seG w 1 (w 4 4) (w 4 5) (w 4 6) j), (0, ((j : Nat) : Int))] [] w 142 Q9 := by
    intro m9
    induction m9 using Nat.strongRecOn with
    | ind m9 ih4 =>
    intro j hm4 hI4
    refine qG.blk 2 (pc' := 7) (ls' := [(2, 4), (2, 69), (0, seG w 1 (w 4 4) (w 4 5) (w 4 6) j), (0, ((j : Nat) : Int))]) (st' := [(0, 10), (0, ((j : Nat) : Int))]) (w' := w) (n' := 142) rfl ?_
    refine qG.br (P := ((j : Nat) : Int) < 10) (pc1 := 10) (pc2 := 60) (st1 := []) rfl (fun hj => ?_) (fun hj => ?_)
    · skip
      refine qG.blk 6 (pc' := 18) (ls' := [(2, 4), (2, 69), (0, seG w 1 (w 4 4) (w 4 5) (w 4 6) j), (0, ((j : Nat) : Int))]) (st' := [(0, qand (qush (w 4 4) ((j : Nat) : Int)) 1)]) (w' := w) (n' := 142) rfl ?_
      refine qG.br (P := qand (qush (w 4 4) ((j : Nat) : Int)) 1 = 0) (pc1 := 54) (pc2 := 21) (st1 := []) rfl (fun hbit => ?_) (fun hbit => ?_)
      · skip
        have hb1 : ¬ qand (qshr (w 4 4) ((j : Nat) : Int)) 1 = 1 := fun z => by rw [ho, ← ushr_b hm (by omega), ← ho, hbit] at z; exact absurd z (by decide)
        refine qG.blk 1 (pc' := 57) (ls' := [(2, 4), (2, 69), (0, seG w 1 (w 4 4) (w 4 5) (w 4 6) j), (0, wrp (((j : Nat) : Int) + 1))]) (st' := []) (w' := w) (n' := 142) rfl ?_
        rw [show wrp (((j : Nat) : Int) + 1) = ((j + 1 : Nat) : Int) from wrp_id (by omega) (by omega)]
        refine qG.blk 1 (pc' := 4) (ls' := [(2, 4), (2, 69), (0, seG w 1 (w 4 4) (w 4 5) (w 4 6) j), (0, ((j + 1 : Nat) : Int))]) (st' := []) (w' := w) (n' := 142) rfl ?_
        have e9 : seG w 1 (w 4 4) (w 4 5) (w 4 6) (j + 1) = seG w 1 (w 4 4) (w 4 5) (w 4 6) j := by rw [seG_s]; first | (rw [if_pos hb1, if_pos hfr, if_pos hcd]; done) | (rw [if_pos hb1, if_pos hfr, if_neg hcd]; done) | (rw [if_pos hb1, if_neg hfr]; done) | (rw [if_neg hb1]; done)
        exact e9 ▸ ih4 _ (by omega) (j + 1) rfl (by omega)
      · skip
        have hb1 : qand (qshr (w 4 4) ((j : Nat) : Int)) 1 = 1 := by rw [ho, ← ushr_b hm (by omega), ← ho]; have q := qand_1 (qush (w 4 4) ((j : Nat) : Int)); omega
        refine qG.blk 2 (pc' := 23) (ls' := [(2, 4), (2, 69), (0, seG w 1 (w 4 4) (w 4 5) (w 4 6) j), (0, ((j : Nat) : Int))]) (st' := [(0, ((j : Nat) : Int)), (2, 69)]) (w' := w) (n' := 142) rfl ?_
        refine qG.call (t := 26) (na := 2) (sk := 1) (md := 1) (ls1 := [(2, 69), (0, ((j : Nat) : Int))]) (r1 := []) rfl rfl rfl rfl rfl (K_sideOf69 (Nat.zero_le _) j (by omega) w hI hE) ?_
        rintro _ w7 _ ⟨rfl, hw7, rfl⟩
        rw [hw7]
        show qG none (d + 1) 113 26 [(2, 4), (2, 69), (0, seG w 1 (w 4 4) (w 4 5) (w 4 6) j), (0, ((j : Nat) : Int))] [(0, w 97 (10 * 1 + j))] w 142 Q9
        refine qG.blk 2 (pc' := 30) (ls' := [(2, 4), (2, 69), (0, seG w 1 (w 4 4) (w 4 5) (w 4 6) j), (0, ((j : Nat) : Int))]) (st' := [(0, w 4 6), (0, w 97 (10 * 1 + j))]) (w' := w) (n' := 142) rfl ?_
        refine qG.br (P := w 97 (10 * 1 + j) = w 4 6) (pc1 := 33) (pc2 := 54) (st1 := []) rfl (fun hfr => ?_) (fun hfr => ?_)
        · skip
          refine qG.blk 6 (pc' := 41) (ls' := [(2, 4), (2, 69), (0, seG w 1 (w 4 4) (w 4 5) (w 4 6) j), (0, ((j : Nat) : Int))]) (st' := [(0, w 4 5), (0, ((j : Nat) : Int)), (0, ((j : Nat) : Int)), (2, 69), (0, seG w 1 (w 4 4) (w 4 5) (w 4 6) j)]) (w' := w) (n' := 142) rfl ?_
          refine qG.br (P := ((j : Nat) : Int) = w 4 5) (pc1 := 44) (pc2 := 48) (st1 := [(0, ((j : Nat) : Int)), (2, 69), (0, seG w 1 (w 4 4) (w 4 5) (w 4 6) j)]) rfl (fun hcd => ?_) (fun hcd => ?_)
          · skip
            refine qG.blk 2 (pc' := 49) (ls' := [(2, 4), (2, 69), (0, seG w 1 (w 4 4) (w 4 5) (w 4 6) j), (0, ((j : Nat) : Int))]) (st' := [(0, 1), (0, ((j : Nat) : Int)), (2, 69), (0, seG w 1 (w 4 4) (w 4 5) (w 4 6) j)]) (w' := w) (n' := 142) rfl ?_
            refine qG.call (t := 27) (na := 3) (sk := 1) (md := 1) (ls1 := [(2, 69), (0, ((j : Nat) : Int)), (0, 1), (9, 0), (9, 0)]) (r1 := [(0, seG w 1 (w 4 4) (w 4 5) (w 4 6) j)]) rfl rfl rfl rfl rfl (K_shown69 (Nat.zero_le _) j (1) w hI hK hE) ?_
            rintro _ w7 _ ⟨rfl, hw7, rfl⟩
            rw [hw7, show shD w 1 j (1) = thrF w 1 j (1) from if_pos (by omega)]
            show qG none (d + 1) 113 52 [(2, 4), (2, 69), (0, seG w 1 (w 4 4) (w 4 5) (w 4 6) j), (0, ((j : Nat) : Int))] [(0, thrF w 1 j (1)), (0, seG w 1 (w 4 4) (w 4 5) (w 4 6) j)] w 142 Q9
            refine qG.blk 3 (pc' := 57) (ls' := [(2, 4), (2, 69), (0, qor (seG w 1 (w 4 4) (w 4 5) (w 4 6) j) (thrF w 1 j (1))), (0, wrp (((j : Nat) : Int) + 1))]) (st' := []) (w' := w) (n' := 142) rfl ?_
            rw [show wrp (((j : Nat) : Int) + 1) = ((j + 1 : Nat) : Int) from wrp_id (by omega) (by omega)]
            refine qG.blk 1 (pc' := 4) (ls' := [(2, 4), (2, 69), (0, qor (seG w 1 (w 4 4) (w 4 5) (w 4 6) j) (thrF w 1 j (1))), (0, ((j + 1 : Nat) : Int))]) (st' := []) (w' := w) (n' := 142) rfl ?_
            have e9 : seG w 1 (w 4 4) (w 4 5) (w 4 6) (j + 1) = qor (seG w 1 (w 4 4) (w 4 5) (w 4 6) j) (thrF w 1 j (1)) := by rw [seG_s]; first | (rw [if_pos hb1, if_pos hfr, if_pos hcd]; done) | (rw [if_pos hb1, if_pos hfr, if_neg hcd]; done) | (rw [if_pos hb1, if_neg hfr]; done) | (rw [if_neg hb1]; done)
            exact e9 ▸ ih4 _ (by omega) (j + 1) rfl (by omega)
          · skip
            refine qG.blk 1 (pc' := 49) (ls' := [(2, 4), (2, 69), (0, seG w 1 (w 4 4) (w 4 5) (w 4 6) j), (0, ((j : Nat) : Int))]) (st' := [(0, 0), (0, ((j : Nat) : Int)), (2, 69), (0, seG w 1 (w 4 4) (w 4 5) (w 4 6) j)]) (w' := w) (n' := 142) rfl ?_
            refine qG.call (t := 27) (na := 3) (sk := 1) (md := 1) (ls1 := [(2, 69), (0, ((j : Nat) : Int)), (0, 0), (9, 0), (9, 0)]) (r1 := [(0, seG w 1 (w 4 4) (w 4 5) (w 4 6) j)]) rfl rfl rfl rfl rfl (K_shown69 (Nat.zero_le _) j (0) w hI hK hE) ?_
            rintro _ w7 _ ⟨rfl, hw7, rfl⟩
            rw [hw7, show shD w 1 j (0) = thrF w 1 j (0) from if_pos (by omega)]
            show qG none (d + 1) 113 52 [(2, 4), (2, 69), (0, seG w 1 (w 4 4) (w 4 5) (w 4 6) j), (0, ((j : Nat) : Int))] [(0, thrF w 1 j (0)), (0, seG w 1 (w 4 4) (w 4 5) (w 4 6) j)] w 142 Q9
            refine qG.blk 3 (pc' := 57) (ls' := [(2, 4), (2, 69), (0, qor (seG w 1 (w 4 4) (w 4 5) (w 4 6) j) (thrF w 1 j (0))), (0, wrp (((j : Nat) : Int) + 1))]) (st' := []) (w' := w) (n' := 142) rfl ?_
            rw [show wrp (((j : Nat) : Int) + 1) = ((j + 1 : Nat) : Int) from wrp_id (by omega) (by omega)]
            refine qG.blk 1 (pc' := 4) (ls' := [(2, 4), (2, 69), (0, qor (seG w 1 (w 4 4) (w 4 5) (w 4 6) j) (thrF w 1 j (0))), (0, ((j + 1 : Nat) : Int))]) (st' := []) (w' := w) (n' := 142) rfl ?_
            have e9 : seG w 1 (w 4 4) (w 4 5) (w 4 6) (j + 1) = qor (seG w 1 (w 4 4) (w 4 5) (w 4 6) j) (thrF w 1 j (0)) := by rw [seG_s]; first | (rw [if_pos hb1, if_pos hfr, if_pos hcd]; done) | (rw [if_pos hb1, if_pos hfr, if_neg hcd]; done) | (rw [if_pos hb1, if_neg hfr]; done) | (rw [if_neg hb1]; done)
            exact e9 ▸ ih4 _ (by omega) (j + 1) rfl (by omega)
        · skip
          refine qG.blk 1 (pc' := 57) (ls' := [(2, 4), (2, 69), (0, seG w 1 (w 4 4) (w 4 5) (w 4 6) j), (0, wrp (((j : Nat) : Int) + 1))]) (st' := []) (w' := w) (n' := 142) rfl ?_
          rw [show wrp (((j : Nat) : Int) + 1) = ((j + 1 : Nat) : Int) from wrp_id (by omega) (by omega)]
          refine qG.blk 1 (pc' := 4) (ls' := [(2, 4), (2, 69), (0, seG w 1 (w 4 4) (w 4 5) (w 4 6) j), (0, ((j + 1 : Nat) : Int))]) (st' := []) (w' := w) (n' := 142) rfl ?_
          have e9 : seG w 1 (w 4 4) (w 4 5) (w 4 6) (j + 1) = seG w 1 (w 4 4) (w 4 5) (w 4 6) j := by rw [seG_s]; first | (rw [if_pos hb1, if_pos hfr, if_pos hcd]; done) | (rw [if_pos hb1, if_pos hfr, if_neg hcd]; done) | (rw [if_pos hb1, if_neg hfr]; done) | (rw [if_neg hb1]; done)
          exact e9 ▸ ih4 _ (by omega) (j + 1) rfl (by omega)
    · skip
      refine qG.blk 1 (pc' := 61) (ls' := [(2, 4), (2, 69), (0, seG w 1 (w 4 4) (w 4 5) (w 4 6) j), (0, ((j : Nat) : Int))]) (st' := [(0, seG w 1 (w 4 4) (w 4 5) (w 4 6) j)]) (w' := w) (n' := 142) rfl ?_
      refine qG.ret rfl rfl ?_
      subst hQ9
      exact ⟨by rw [show j = 10 by omega], rfl, rfl⟩
  exact L4 _ (0) rfl (by omega)
theorem K_view4_74 {d : Nat} (hd : 1 ≤ d) (m : Nat) (hm : m < 1024) (w : qW) (hI : yInv zgf zga zra zSp w) (ho : w 4 4 = (m : Int)) (hK : w 74 0 = w 96 2) (hE : JE w) : qG none d 113 0 [(2, 4), (2, 74), (9, 0), (9, 0)] [] w 142 (fun (r : qV) (w1 : qW) (n1 : Nat) => r = (0, seG w 2 (w 4 4) (w 4 5) (w 4 6) 10) ∧ w1 = w ∧ n1 = 142) := by
  generalize hQ9 : (fun (r : qV) (w1 : qW) (n1 : Nat) => r = (0, seG w 2 (w 4 4) (w 4 5) (w 4 6) 10) ∧ w1 = w ∧ n1 = 142) = Q9
  obtain ⟨d, rfl⟩ : ∃ d9, d = d9 + 1 := ⟨d - 1, by omega⟩
  refine qG.blk 4 (pc' := 4) (ls' := [(2, 4), (2, 74), (0, 0), (0, 0)]) (st' := []) (w' := w) (n' := 142) rfl ?_
  have L4 : ∀ (m9 : Nat) (j : Nat), 10 - j = m9 → (j ≤ 10) → qG none (d + 1) 113 4 [(2, 4), (2, 74), (0, seG w 2 (w 4 4) (w 4 5) (w 4 6) j), (0, ((j : Nat) : Int))] [] w 142 Q9 := by
    intro m9
    induction m9 using Nat.strongRecOn with
    | ind m9 ih4 =>
    intro j hm4 hI4
    refine qG.blk 2 (pc' := 7) (ls' := [(2, 4), (2, 74), (0, seG w 2 (w 4 4) (w 4 5) (w 4 6) j), (0, ((j : Nat) : Int))]) (st' := [(0, 10), (0, ((j : Nat) : Int))]) (w' := w) (n' := 142) rfl ?_
    refine qG.br (P := ((j : Nat) : Int) < 10) (pc1 := 10) (pc2 := 60) (st1 := []) rfl (fun hj => ?_) (fun hj => ?_)
    · skip
      refine qG.blk 6 (pc' := 18) (ls' := [(2, 4), (2, 74), (0, seG w 2 (w 4 4) (w 4 5) (w 4 6) j), (0, ((j : Nat) : Int))]) (st' := [(0, qand (qush (w 4 4) ((j : Nat) : Int)) 1)]) (w' := w) (n' := 142) rfl ?_
      refine qG.br (P := qand (qush (w 4 4) ((j : Nat) : Int)) 1 = 0) (pc1 := 54) (pc2 := 21) (st1 := []) rfl (fun hbit => ?_) (fun hbit => ?_)
      · skip
        have hb1 : ¬ qand (qshr (w 4 4) ((j : Nat) : Int)) 1 = 1 := fun z => by rw [ho, ← ushr_b hm (by omega), ← ho, hbit] at z; exact absurd z (by decide)
        refine qG.blk 1 (pc' := 57) (ls' := [(2, 4), (2, 74), (0, seG w 2 (w 4 4) (w 4 5) (w 4 6) j), (0, wrp (((j : Nat) : Int) + 1))]) (st' := []) (w' := w) (n' := 142) rfl ?_
        rw [show wrp (((j : Nat) : Int) + 1) = ((j + 1 : Nat) : Int) from wrp_id (by omega) (by omega)]
        refine qG.blk 1 (pc' := 4) (ls' := [(2, 4), (2, 74), (0, seG w 2 (w 4 4) (w 4 5) (w 4 6) j), (0, ((j + 1 : Nat) : Int))]) (st' := []) (w' := w) (n' := 142) rfl ?_
        have e9 : seG w 2 (w 4 4) (w 4 5) (w 4 6) (j + 1) = seG w 2 (w 4 4) (w 4 5) (w 4 6) j := by rw [seG_s]; first | (rw [if_pos hb1, if_pos hfr, if_pos hcd]; done) | (rw [if_pos hb1, if_pos hfr, if_neg hcd]; done) | (rw [if_pos hb1, if_neg hfr]; done) | (rw [if_neg hb1]; done)
        exact e9 ▸ ih4 _ (by omega) (j + 1) rfl (by omega)
      · skip
        have hb1 : qand (qshr (w 4 4) ((j : Nat) : Int)) 1 = 1 := by rw [ho, ← ushr_b hm (by omega), ← ho]; have q := qand_1 (qush (w 4 4) ((j : Nat) : Int)); omega
        refine qG.blk 2 (pc' := 23) (ls' := [(2, 4), (2, 74), (0, seG w 2 (w 4 4) (w 4 5) (w 4 6) j), (0, ((j : Nat) : Int))]) (st' := [(0, ((j : Nat) : Int)), (2, 74)]) (w' := w) (n' := 142) rfl ?_
        refine qG.call (t := 26) (na := 2) (sk := 1) (md := 1) (ls1 := [(2, 74), (0, ((j : Nat) : Int))]) (r1 := []) rfl rfl rfl rfl rfl (K_sideOf74 (Nat.zero_le _) j (by omega) w hI hE) ?_
        rintro _ w7 _ ⟨rfl, hw7, rfl⟩
        rw [hw7]
        show qG none (d + 1) 113 26 [(2, 4), (2, 74), (0, seG w 2 (w 4 4) (w 4 5) (w 4 6) j), (0, ((j : Nat) : Int))] [(0, w 97 (10 * 2 + j))] w 142 Q9
        refine qG.blk 2 (pc' := 30) (ls' := [(2, 4), (2, 74), (0, seG w 2 (w 4 4) (w 4 5) (w 4 6) j), (0, ((j : Nat) : Int))]) (st' := [(0, w 4 6), (0, w 97 (10 * 2 + j))]) (w' := w) (n' := 142) rfl ?_
        refine qG.br (P := w 97 (10 * 2 + j) = w 4 6) (pc1 := 33) (pc2 := 54) (st1 := []) rfl (fun hfr => ?_) (fun hfr => ?_)
        · skip
          refine qG.blk 6 (pc' := 41) (ls' := [(2, 4), (2, 74), (0, seG w 2 (w 4 4) (w 4 5) (w 4 6) j), (0, ((j : Nat) : Int))]) (st' := [(0, w 4 5), (0, ((j : Nat) : Int)), (0, ((j : Nat) : Int)), (2, 74), (0, seG w 2 (w 4 4) (w 4 5) (w 4 6) j)]) (w' := w) (n' := 142) rfl ?_
          refine qG.br (P := ((j : Nat) : Int) = w 4 5) (pc1 := 44) (pc2 := 48) (st1 := [(0, ((j : Nat) : Int)), (2, 74), (0, seG w 2 (w 4 4) (w 4 5) (w 4 6) j)]) rfl (fun hcd => ?_) (fun hcd => ?_)
          · skip
            refine qG.blk 2 (pc' := 49) (ls' := [(2, 4), (2, 74), (0, seG w 2 (w 4 4) (w 4 5) (w 4 6) j), (0, ((j : Nat) : Int))]) (st' := [(0, 1), (0, ((j : Nat) : Int)), (2, 74), (0, seG w 2 (w 4 4) (w 4 5) (w 4 6) j)]) (w' := w) (n' := 142) rfl ?_
            refine qG.call (t := 27) (na := 3) (sk := 1) (md := 1) (ls1 := [(2, 74), (0, ((j : Nat) : Int)), (0, 1), (9, 0), (9, 0)]) (r1 := [(0, seG w 2 (w 4 4) (w 4 5) (w 4 6) j)]) rfl rfl rfl rfl rfl (K_shown74 (Nat.zero_le _) j (1) w hI hK hE) ?_
            rintro _ w7 _ ⟨rfl, hw7, rfl⟩
            rw [hw7, show shD w 2 j (1) = thrF w 2 j (1) from if_pos (by omega)]
            show qG none (d + 1) 113 52 [(2, 4), (2, 74), (0, seG w 2 (w 4 4) (w 4 5) (w 4 6) j), (0, ((j : Nat) : Int))] [(0, thrF w 2 j (1)), (0, seG w 2 (w 4 4) (w 4 5) (w 4 6) j)] w 142 Q9
            refine qG.blk 3 (pc' := 57) (ls' := [(2, 4), (2, 74), (0, qor (seG w 2 (w 4 4) (w 4 5) (w 4 6) j) (thrF w 2 j (1))), (0, wrp (((j : Nat) : Int) + 1))]) (st' := []) (w' := w) (n' := 142) rfl ?_
            rw [show wrp (((j : Nat) : Int) + 1) = ((j + 1 : Nat) : Int) from wrp_id (by omega) (by omega)]
            refine qG.blk 1 (pc' := 4) (ls' := [(2, 4), (2, 74), (0, qor (seG w 2 (w 4 4) (w 4 5) (w 4 6) j) (thrF w 2 j (1))), (0, ((j + 1 : Nat) : Int))]) (st' := []) (w' := w) (n' := 142) rfl ?_
            have e9 : seG w 2 (w 4 4) (w 4 5) (w 4 6) (j + 1) = qor (seG w 2 (w 4 4) (w 4 5) (w 4 6) j) (thrF w 2 j (1)) := by rw [seG_s]; first | (rw [if_pos hb1, if_pos hfr, if_pos hcd]; done) | (rw [if_pos hb1, if_pos hfr, if_neg hcd]; done) | (rw [if_pos hb1, if_neg hfr]; done) | (rw [if_neg hb1]; done)
            exact e9 ▸ ih4 _ (by omega) (j + 1) rfl (by omega)
          · skip
            refine qG.blk 1 (pc' := 49) (ls' := [(2, 4), (2, 74), (0, seG w 2 (w 4 4) (w 4 5) (w 4 6) j), (0, ((j : Nat) : Int))]) (st' := [(0, 0), (0, ((j : Nat) : Int)), (2, 74), (0, seG w 2 (w 4 4) (w 4 5) (w 4 6) j)]) (w' := w) (n' := 142) rfl ?_
            refine qG.call (t := 27) (na := 3) (sk := 1) (md := 1) (ls1 := [(2, 74), (0, ((j : Nat) : Int)), (0, 0), (9, 0), (9, 0)]) (r1 := [(0, seG w 2 (w 4 4) (w 4 5) (w 4 6) j)]) rfl rfl rfl rfl rfl (K_shown74 (Nat.zero_le _) j (0) w hI hK hE) ?_
            rintro _ w7 _ ⟨rfl, hw7, rfl⟩
            rw [hw7, show shD w 2 j (0) = thrF w 2 j (0) from if_pos (by omega)]
            show qG none (d + 1) 113 52 [(2, 4), (2, 74), (0, seG w 2 (w 4 4) (w 4 5) (w 4 6) j), (0, ((j : Nat) : Int))] [(0, thrF w 2 j (0)), (0, seG w 2 (w 4 4) (w 4 5) (w 4 6) j)] w 142 Q9
            refine qG.blk 3 (pc' := 57) (ls' := [(2, 4), (2, 74), (0, qor (seG w 2 (w 4 4) (w 4 5) (w 4 6) j) (thrF w 2 j (0))), (0, wrp (((j : Nat) : Int) + 1))]) (st' := []) (w' := w) (n' := 142) rfl ?_
            rw [show wrp (((j : Nat) : Int) + 1) = ((j + 1 : Nat) : Int) from wrp_id (by omega) (by omega)]
            refine qG.blk 1 (pc' := 4) (ls' := [(2, 4), (2, 74), (0, qor (seG w 2 (w 4 4) (w 4 5) (w 4 6) j) (thrF w 2 j (0))), (0, ((j + 1 : Nat) : Int))]) (st' := []) (w' := w) (n' := 142) rfl ?_
            have e9 : seG w 2 (w 4 4) (w 4 5) (w 4 6) (j + 1) = qor (seG w 2 (w 4 4) (w 4 5) (w 4 6) j) (thrF w 2 j (0)) := by rw [seG_s]; first | (rw [if_pos hb1, if_pos hfr, if_pos hcd]; done) | (rw [if_pos hb1, if_pos hfr, if_neg hcd]; done) | (rw [if_pos hb1, if_neg hfr]; done) | (rw [if_neg hb1]; done)
            exact e9 ▸ ih4 _ (by omega) (j + 1) rfl (by omega)
        · skip
          refine qG.blk 1 (pc' := 57) (ls' := [(2, 4), (2, 74), (0, seG w 2 (w 4 4) (w 4 5) (w 4 6) j), (0, wrp (((j : Nat) : Int) + 1))]) (st' := []) (w' := w) (n' := 142) rfl ?_
          rw [show wrp (((j : Nat) : Int) + 1) = ((j + 1 : Nat) : Int) from wrp_id (by omega) (by omega)]
          refine qG.blk 1 (pc' := 4) (ls' := [(2, 4), (2, 74), (0, seG w 2 (w 4 4) (w 4 5) (w 4 6) j), (0, ((j + 1 : Nat) : Int))]) (st' := []) (w' := w) (n' := 142) rfl ?_
          have e9 : seG w 2 (w 4 4) (w 4 5) (w 4 6) (j + 1) = seG w 2 (w 4 4) (w 4 5) (w 4 6) j := by rw [seG_s]; first | (rw [if_pos hb1, if_pos hfr, if_pos hcd]; done) | (rw [if_pos hb1, if_pos hfr, if_neg hcd]; done) | (rw [if_pos hb1, if_neg hfr]; done) | (rw [if_neg hb1]; done)
          exact e9 ▸ ih4 _ (by omega) (j + 1) rfl (by omega)
    · skip
      refine qG.blk 1 (pc' := 61) (ls' := [(2, 4), (2, 74), (0, seG w 2 (w 4 4) (w 4 5) (w 4 6) j), (0, ((j : Nat) : Int))]) (st' := [(0, seG w 2 (w 4 4) (w 4 5) (w 4 6) j)]) (w' := w) (n' := 142) rfl ?_
      refine qG.ret rfl rfl ?_
      subst hQ9
      exact ⟨by rw [show j = 10 by omega], rfl, rfl⟩
  exact L4 _ (0) rfl (by omega)
theorem K_view79_64 {d : Nat} (hd : 1 ≤ d) (m : Nat) (hm : m < 1024) (w : qW) (hI : yInv zgf zga zra zSp w) (ho : w 79 4 = (m : Int)) (hK : w 64 0 = w 96 0) (hE : JE w) : qG none d 113 0 [(2, 79), (2, 64), (9, 0), (9, 0)] [] w 142 (fun (r : qV) (w1 : qW) (n1 : Nat) => r = (0, seG w 0 (w 79 4) (w 79 5) (w 79 6) 10) ∧ w1 = w ∧ n1 = 142) := by
  generalize hQ9 : (fun (r : qV) (w1 : qW) (n1 : Nat) => r = (0, seG w 0 (w 79 4) (w 79 5) (w 79 6) 10) ∧ w1 = w ∧ n1 = 142) = Q9
  obtain ⟨d, rfl⟩ : ∃ d9, d = d9 + 1 := ⟨d - 1, by omega⟩
  refine qG.blk 4 (pc' := 4) (ls' := [(2, 79), (2, 64), (0, 0), (0, 0)]) (st' := []) (w' := w) (n' := 142) rfl ?_
  have L4 : ∀ (m9 : Nat) (j : Nat), 10 - j = m9 → (j ≤ 10) → qG none (d + 1) 113 4 [(2, 79), (2, 64), (0, seG w 0 (w 79 4) (w 79 5) (w 79 6) j), (0, ((j : Nat) : Int))] [] w 142 Q9 := by
    intro m9
    induction m9 using Nat.strongRecOn with
    | ind m9 ih4 =>
    intro j hm4 hI4
    refine qG.blk 2 (pc' := 7) (ls' := [(2, 79), (2, 64), (0, seG w 0 (w 79 4) (w 79 5) (w 79 6) j), (0, ((j : Nat) : Int))]) (st' := [(0, 10), (0, ((j : Nat) : Int))]) (w' := w) (n' := 142) rfl ?_
    refine qG.br (P := ((j : Nat) : Int) < 10) (pc1 := 10) (pc2 := 60) (st1 := []) rfl (fun hj => ?_) (fun hj => ?_)
    · skip
      refine qG.blk 6 (pc' := 18) (ls' := [(2, 79), (2, 64), (0, seG w 0 (w 79 4) (w 79 5) (w 79 6) j), (0, ((j : Nat) : Int))]) (st' := [(0, qand (qush (w 79 4) ((j : Nat) : Int)) 1)]) (w' := w) (n' := 142) rfl ?_
      refine qG.br (P := qand (qush (w 79 4) ((j : Nat) : Int)) 1 = 0) (pc1 := 54) (pc2 := 21) (st1 := []) rfl (fun hbit => ?_) (fun hbit => ?_)
      · skip
        have hb1 : ¬ qand (qshr (w 79 4) ((j : Nat) : Int)) 1 = 1 := fun z => by rw [ho, ← ushr_b hm (by omega), ← ho, hbit] at z; exact absurd z (by decide)
        refine qG.blk 1 (pc' := 57) (ls' := [(2, 79), (2, 64), (0, seG w 0 (w 79 4) (w 79 5) (w 79 6) j), (0, wrp (((j : Nat) : Int) + 1))]) (st' := []) (w' := w) (n' := 142) rfl ?_
        rw [show wrp (((j : Nat) : Int) + 1) = ((j + 1 : Nat) : Int) from wrp_id (by omega) (by omega)]
        refine qG.blk 1 (pc' := 4) (ls' := [(2, 79), (2, 64), (0, seG w 0 (w 79 4) (w 79 5) (w 79 6) j), (0, ((j + 1 : Nat) : Int))]) (st' := []) (w' := w) (n' := 142) rfl ?_
        have e9 : seG w 0 (w 79 4) (w 79 5) (w 79 6) (j + 1) = seG w 0 (w 79 4) (w 79 5) (w 79 6) j := by rw [seG_s]; first | (rw [if_pos hb1, if_pos hfr, if_pos hcd]; done) | (rw [if_pos hb1, if_pos hfr, if_neg hcd]; done) | (rw [if_pos hb1, if_neg hfr]; done) | (rw [if_neg hb1]; done)
        exact e9 ▸ ih4 _ (by omega) (j + 1) rfl (by omega)
      · skip
        have hb1 : qand (qshr (w 79 4) ((j : Nat) : Int)) 1 = 1 := by rw [ho, ← ushr_b hm (by omega), ← ho]; have q := qand_1 (qush (w 79 4) ((j : Nat) : Int)); omega
        refine qG.blk 2 (pc' := 23) (ls' := [(2, 79), (2, 64), (0, seG w 0 (w 79 4) (w 79 5) (w 79 6) j), (0, ((j : Nat) : Int))]) (st' := [(0, ((j : Nat) : Int)), (2, 64)]) (w' := w) (n' := 142) rfl ?_
        refine qG.call (t := 26) (na := 2) (sk := 1) (md := 1) (ls1 := [(2, 64), (0, ((j : Nat) : Int))]) (r1 := []) rfl rfl rfl rfl rfl (K_sideOf64 (Nat.zero_le _) j (by omega) w hI hE) ?_
        rintro _ w7 _ ⟨rfl, hw7, rfl⟩
        rw [hw7]
        show qG none (d + 1) 113 26 [(2, 79), (2, 64), (0, seG w 0 (w 79 4) (w 79 5) (w 79 6) j), (0, ((j : Nat) : Int))] [(0, w 97 (10 * 0 + j))] w 142 Q9
        refine qG.blk 2 (pc' := 30) (ls' := [(2, 79), (2, 64), (0, seG w 0 (w 79 4) (w 79 5) (w 79 6) j), (0, ((j : Nat) : Int))]) (st' := [(0, w 79 6), (0, w 97 (10 * 0 + j))]) (w' := w) (n' := 142) rfl ?_
        refine qG.br (P := w 97 (10 * 0 + j) = w 79 6) (pc1 := 33) (pc2 := 54) (st1 := []) rfl (fun hfr => ?_) (fun hfr => ?_)
        · skip
          refine qG.blk 6 (pc' := 41) (ls' := [(2, 79), (2, 64), (0, seG w 0 (w 79 4) (w 79 5) (w 79 6) j), (0, ((j : Nat) : Int))]) (st' := [(0, w 79 5), (0, ((j : Nat) : Int)), (0, ((j : Nat) : Int)), (2, 64), (0, seG w 0 (w 79 4) (w 79 5) (w 79 6) j)]) (w' := w) (n' := 142) rfl ?_
          refine qG.br (P := ((j : Nat) : Int) = w 79 5) (pc1 := 44) (pc2 := 48) (st1 := [(0, ((j : Nat) : Int)), (2, 64), (0, seG w 0 (w 79 4) (w 79 5) (w 79 6) j)]) rfl (fun hcd => ?_) (fun hcd => ?_)
          · skip
            refine qG.blk 2 (pc' := 49) (ls' := [(2, 79), (2, 64), (0, seG w 0 (w 79 4) (w 79 5) (w 79 6) j), (0, ((j : Nat) : Int))]) (st' := [(0, 1), (0, ((j : Nat) : Int)), (2, 64), (0, seG w 0 (w 79 4) (w 79 5) (w 79 6) j)]) (w' := w) (n' := 142) rfl ?_
            refine qG.call (t := 27) (na := 3) (sk := 1) (md := 1) (ls1 := [(2, 64), (0, ((j : Nat) : Int)), (0, 1), (9, 0), (9, 0)]) (r1 := [(0, seG w 0 (w 79 4) (w 79 5) (w 79 6) j)]) rfl rfl rfl rfl rfl (K_shown64 (Nat.zero_le _) j (1) w hI hK hE) ?_
            rintro _ w7 _ ⟨rfl, hw7, rfl⟩
            rw [hw7, show shD w 0 j (1) = thrF w 0 j (1) from if_pos (by omega)]
            show qG none (d + 1) 113 52 [(2, 79), (2, 64), (0, seG w 0 (w 79 4) (w 79 5) (w 79 6) j), (0, ((j : Nat) : Int))] [(0, thrF w 0 j (1)), (0, seG w 0 (w 79 4) (w 79 5) (w 79 6) j)] w 142 Q9
            refine qG.blk 3 (pc' := 57) (ls' := [(2, 79), (2, 64), (0, qor (seG w 0 (w 79 4) (w 79 5) (w 79 6) j) (thrF w 0 j (1))), (0, wrp (((j : Nat) : Int) + 1))]) (st' := []) (w' := w) (n' := 142) rfl ?_
            rw [show wrp (((j : Nat) : Int) + 1) = ((j + 1 : Nat) : Int) from wrp_id (by omega) (by omega)]
            refine qG.blk 1 (pc' := 4) (ls' := [(2, 79), (2, 64), (0, qor (seG w 0 (w 79 4) (w 79 5) (w 79 6) j) (thrF w 0 j (1))), (0, ((j + 1 : Nat) : Int))]) (st' := []) (w' := w) (n' := 142) rfl ?_
            have e9 : seG w 0 (w 79 4) (w 79 5) (w 79 6) (j + 1) = qor (seG w 0 (w 79 4) (w 79 5) (w 79 6) j) (thrF w 0 j (1)) := by rw [seG_s]; first | (rw [if_pos hb1, if_pos hfr, if_pos hcd]; done) | (rw [if_pos hb1, if_pos hfr, if_neg hcd]; done) | (rw [if_pos hb1, if_neg hfr]; done) | (rw [if_neg hb1]; done)
            exact e9 ▸ ih4 _ (by omega) (j + 1) rfl (by omega)
          · skip
            refine qG.blk 1 (pc' := 49) (ls' := [(2, 79), (2, 64), (0, seG w 0 (w 79 4) (w 79 5) (w 79 6) j), (0, ((j : Nat) : Int))]) (st' := [(0, 0), (0, ((j : Nat) : Int)), (2, 64), (0, seG w 0 (w 79 4) (w 79 5) (w 79 6) j)]) (w' := w) (n' := 142) rfl ?_
            refine qG.call (t := 27) (na := 3) (sk := 1) (md := 1) (ls1 := [(2, 64), (0, ((j : Nat) : Int)), (0, 0), (9, 0), (9, 0)]) (r1 := [(0, seG w 0 (w 79 4) (w 79 5) (w 79 6) j)]) rfl rfl rfl rfl rfl (K_shown64 (Nat.zero_le _) j (0) w hI hK hE) ?_
            rintro _ w7 _ ⟨rfl, hw7, rfl⟩
            rw [hw7, show shD w 0 j (0) = thrF w 0 j (0) from if_pos (by omega)]
            show qG none (d + 1) 113 52 [(2, 79), (2, 64), (0, seG w 0 (w 79 4) (w 79 5) (w 79 6) j), (0, ((j : Nat) : Int))] [(0, thrF w 0 j (0)), (0, seG w 0 (w 79 4) (w 79 5) (w 79 6) j)] w 142 Q9
            refine qG.blk 3 (pc' := 57) (ls' := [(2, 79), (2, 64), (0, qor (seG w 0 (w 79 4) (w 79 5) (w 79 6) j) (thrF w 0 j (0))), (0, wrp (((j : Nat) : Int) + 1))]) (st' := []) (w' := w) (n' := 142) rfl ?_
            rw [show wrp (((j : Nat) : Int) + 1) = ((j + 1 : Nat) : Int) from wrp_id (by omega) (by omega)]
            refine qG.blk 1 (pc' := 4) (ls' := [(2, 79), (2, 64), (0, qor (seG w 0 (w 79 4) (w 79 5) (w 79 6) j) (thrF w 0 j (0))), (0, ((j + 1 : Nat) : Int))]) (st' := []) (w' := w) (n' := 142) rfl ?_
            have e9 : seG w 0 (w 79 4) (w 79 5) (w 79 6) (j + 1) = qor (seG w 0 (w 79 4) (w 79 5) (w 79 6) j) (thrF w 0 j (0)) := by rw [seG_s]; first | (rw [if_pos hb1, if_pos hfr, if_pos hcd]; done) | (rw [if_pos hb1, if_pos hfr, if_neg hcd]; done) | (rw [if_pos hb1, if_neg hfr]; done) | (rw [if_neg hb1]; done)
            exact e9 ▸ ih4 _ (by omega) (j + 1) rfl (by omega)
        · skip
          refine qG.blk 1 (pc' := 57) (ls' := [(2, 79), (2, 64), (0, seG w 0 (w 79 4) (w 79 5) (w 79 6) j), (0, wrp (((j : Nat) : Int) + 1))]) (st' := []) (w' := w) (n' := 142) rfl ?_
          rw [show wrp (((j : Nat) : Int) + 1) = ((j + 1 : Nat) : Int) from wrp_id (by omega) (by omega)]
          refine qG.blk 1 (pc' := 4) (ls' := [(2, 79), (2, 64), (0, seG w 0 (w 79 4) (w 79 5) (w 79 6) j), (0, ((j + 1 : Nat) : Int))]) (st' := []) (w' := w) (n' := 142) rfl ?_
          have e9 : seG w 0 (w 79 4) (w 79 5) (w 79 6) (j + 1) = seG w 0 (w 79 4) (w 79 5) (w 79 6) j := by rw [seG_s]; first | (rw [if_pos hb1, if_pos hfr, if_pos hcd]; done) | (rw [if_pos hb1, if_pos hfr, if_neg hcd]; done) | (rw [if_pos hb1, if_neg hfr]; done) | (rw [if_neg hb1]; done)
          exact e9 ▸ ih4 _ (by omega) (j + 1) rfl (by omega)
    · skip
      refine qG.blk 1 (pc' := 61) (ls' := [(2, 79), (2, 64), (0, seG w 0 (w 79 4) (w 79 5) (w 79 6) j), (0, ((j : Nat) : Int))]) (st' := [(0, seG w 0 (w 79 4) (w 79 5) (w 79 6) j)]) (w' := w) (n' := 142) rfl ?_
      refine qG.ret rfl rfl ?_
      subst hQ9
      exact ⟨by rw [show j = 10 by omega], rfl, rfl⟩
  exact L4 _ (0) rfl (by omega)
theorem K_view79_69 {d : Nat} (hd : 1 ≤ d) (m : Nat) (hm : m < 1024) (w : qW) (hI : yInv zgf zga zra zSp w) (ho : w 79 4 = (m : Int)) (hK : w 69 0 = w 96 1) (hE : JE w) : qG none d 113 0 [(2, 79), (2, 69), (9, 0), (9, 0)] [] w 142 (fun (r : qV) (w1 : qW) (n1 : Nat) => r = (0, seG w 1 (w 79 4) (w 79 5) (w 79 6) 10) ∧ w1 = w ∧ n1 = 142) := by
  generalize hQ9 : (fun (r : qV) (w1 : qW) (n1 : Nat) => r = (0, seG w 1 (w 79 4) (w 79 5) (w 79 6) 10) ∧ w1 = w ∧ n1 = 142) = Q9
  obtain ⟨d, rfl⟩ : ∃ d9, d = d9 + 1 := ⟨d - 1, by omega⟩
  refine qG.blk 4 (pc' := 4) (ls' := [(2, 79), (2, 69), (0, 0), (0, 0)]) (st' := []) (w' := w) (n' := 142) rfl ?_
  have L4 : ∀ (m9 : Nat) (j : Nat), 10 - j = m9 → (j ≤ 10) → qG none (d + 1) 113 4 [(2, 79), (2, 69), (0, seG w 1 (w 79 4) (w 79 5) (w 79 6) j), (0, ((j : Nat) : Int))] [] w 142 Q9 := by
    intro m9
    induction m9 using Nat.strongRecOn with
    | ind m9 ih4 =>
    intro j hm4 hI4
    refine qG.blk 2 (pc' := 7) (ls' := [(2, 79), (2, 69), (0, seG w 1 (w 79 4) (w 79 5) (w 79 6) j), (0, ((j : Nat) : Int))]) (st' := [(0, 10), (0, ((j : Nat) : Int))]) (w' := w) (n' := 142) rfl ?_
    refine qG.br (P := ((j : Nat) : Int) < 10) (pc1 := 10) (pc2 := 60) (st1 := []) rfl (fun hj => ?_) (fun hj => ?_)
    · skip
      refine qG.blk 6 (pc' := 18) (ls' := [(2, 79), (2, 69), (0, seG w 1 (w 79 4) (w 79 5) (w 79 6) j), (0, ((j : Nat) : Int))]) (st' := [(0, qand (qush (w 79 4) ((j : Nat) : Int)) 1)]) (w' := w) (n' := 142) rfl ?_
      refine qG.br (P := qand (qush (w 79 4) ((j : Nat) : Int)) 1 = 0) (pc1 := 54) (pc2 := 21) (st1 := []) rfl (fun hbit => ?_) (fun hbit => ?_)
      · skip
        have hb1 : ¬ qand (qshr (w 79 4) ((j : Nat) : Int)) 1 = 1 := fun z => by rw [ho, ← ushr_b hm (by omega), ← ho, hbit] at z; exact absurd z (by decide)
        refine qG.blk 1 (pc' := 57) (ls' := [(2, 79), (2, 69), (0, seG w 1 (w 79 4) (w 79 5) (w 79 6) j), (0, wrp (((j : Nat) : Int) + 1))]) (st' := []) (w' := w) (n' := 142) rfl ?_
        rw [show wrp (((j : Nat) : Int) + 1) = ((j + 1 : Nat) : Int) from wrp_id (by omega) (by omega)]
        refine qG.blk 1 (pc' := 4) (ls' := [(2, 79), (2, 69), (0, seG w 1 (w 79 4) (w 79 5) (w 79 6) j), (0, ((j + 1 : Nat) : Int))]) (st' := []) (w' := w) (n' := 142) rfl ?_
        have e9 : seG w 1 (w 79 4) (w 79 5) (w 79 6) (j + 1) = seG w 1 (w 79 4) (w 79 5) (w 79 6) j := by rw [seG_s]; first | (rw [if_pos hb1, if_pos hfr, if_pos hcd]; done) | (rw [if_pos hb1, if_pos hfr, if_neg hcd]; done) | (rw [if_pos hb1, if_neg hfr]; done) | (rw [if_neg hb1]; done)
        exact e9 ▸ ih4 _ (by omega) (j + 1) rfl (by omega)
      · skip
        have hb1 : qand (qshr (w 79 4) ((j : Nat) : Int)) 1 = 1 := by rw [ho, ← ushr_b hm (by omega), ← ho]; have q := qand_1 (qush (w 79 4) ((j : Nat) : Int)); omega
        refine qG.blk 2 (pc' := 23) (ls' := [(2, 79), (2, 69), (0, seG w 1 (w 79 4) (w 79 5) (w 79 6) j), (0, ((j : Nat) : Int))]) (st' := [(0, ((j : Nat) : Int)), (2, 69)]) (w' := w) (n' := 142) rfl ?_
        refine qG.call (t := 26) (na := 2) (sk := 1) (md := 1) (ls1 := [(2, 69), (0, ((j : Nat) : Int))]) (r1 := []) rfl rfl rfl rfl rfl (K_sideOf69 (Nat.zero_le _) j (by omega) w hI hE) ?_
        rintro _ w7 _ ⟨rfl, hw7, rfl⟩
        rw [hw7]
        show qG none (d + 1) 113 26 [(2, 79), (2, 69), (0, seG w 1 (w 79 4) (w 79 5) (w 79 6) j), (0, ((j : Nat) : Int))] [(0, w 97 (10 * 1 + j))] w 142 Q9
        refine qG.blk 2 (pc' := 30) (ls' := [(2, 79), (2, 69), (0, seG w 1 (w 79 4) (w 79 5) (w 79 6) j), (0, ((j : Nat) : Int))]) (st' := [(0, w 79 6), (0, w 97 (10 * 1 + j))]) (w' := w) (n' := 142) rfl ?_
        refine qG.br (P := w 97 (10 * 1 + j) = w 79 6) (pc1 := 33) (pc2 := 54) (st1 := []) rfl (fun hfr => ?_) (fun hfr => ?_)
        · skip
          refine qG.blk 6 (pc' := 41) (ls' := [(2, 79), (2, 69), (0, seG w 1 (w 79 4) (w 79 5) (w 79 6) j), (0, ((j : Nat) : Int))]) (st' := [(0, w 79 5), (0, ((j : Nat) : Int)), (0, ((j : Nat) : Int)), (2, 69), (0, seG w 1 (w 79 4) (w 79 5) (w 79 6) j)]) (w' := w) (n' := 142) rfl ?_
          refine qG.br (P := ((j : Nat) : Int) = w 79 5) (pc1 := 44) (pc2 := 48) (st1 := [(0, ((j : Nat) : Int)), (2, 69), (0, seG w 1 (w 79 4) (w 79 5) (w 79 6) j)]) rfl (fun hcd => ?_) (fun hcd => ?_)
          · skip
            refine qG.blk 2 (pc' := 49) (ls' := [(2, 79), (2, 69), (0, seG w 1 (w 79 4) (w 79 5) (w 79 6) j), (0, ((j : Nat) : Int))]) (st' := [(0, 1), (0, ((j : Nat) : Int)), (2, 69), (0, seG w 1 (w 79 4) (w 79 5) (w 79 6) j)]) (w' := w) (n' := 142) rfl ?_
            refine qG.call (t := 27) (na := 3) (sk := 1) (md := 1) (ls1 := [(2, 69), (0, ((j : Nat) : Int)), (0, 1), (9, 0), (9, 0)]) (r1 := [(0, seG w 1 (w 79 4) (w 79 5) (w 79 6) j)]) rfl rfl rfl rfl rfl (K_shown69 (Nat.zero_le _) j (1) w hI hK hE) ?_
            rintro _ w7 _ ⟨rfl, hw7, rfl⟩
            rw [hw7, show shD w 1 j (1) = thrF w 1 j (1) from if_pos (by omega)]
            show qG none (d + 1) 113 52 [(2, 79), (2, 69), (0, seG w 1 (w 79 4) (w 79 5) (w 79 6) j), (0, ((j : Nat) : Int))] [(0, thrF w 1 j (1)), (0, seG w 1 (w 79 4) (w 79 5) (w 79 6) j)] w 142 Q9
            refine qG.blk 3 (pc' := 57) (ls' := [(2, 79), (2, 69), (0, qor (seG w 1 (w 79 4) (w 79 5) (w 79 6) j) (thrF w 1 j (1))), (0, wrp (((j : Nat) : Int) + 1))]) (st' := []) (w' := w) (n' := 142) rfl ?_
            rw [show wrp (((j : Nat) : Int) + 1) = ((j + 1 : Nat) : Int) from wrp_id (by omega) (by omega)]
            refine qG.blk 1 (pc' := 4) (ls' := [(2, 79), (2, 69), (0, qor (seG w 1 (w 79 4) (w 79 5) (w 79 6) j) (thrF w 1 j (1))), (0, ((j + 1 : Nat) : Int))]) (st' := []) (w' := w) (n' := 142) rfl ?_
            have e9 : seG w 1 (w 79 4) (w 79 5) (w 79 6) (j + 1) = qor (seG w 1 (w 79 4) (w 79 5) (w 79 6) j) (thrF w 1 j (1)) := by rw [seG_s]; first | (rw [if_pos hb1, if_pos hfr, if_pos hcd]; done) | (rw [if_pos hb1, if_pos hfr, if_neg hcd]; done) | (rw [if_pos hb1, if_neg hfr]; done) | (rw [if_neg hb1]; done)
            exact e9 ▸ ih4 _ (by omega) (j + 1) rfl (by omega)
          · skip
            refine qG.blk 1 (pc' := 49) (ls' := [(2, 79), (2, 69), (0, seG w 1 (w 79 4) (w 79 5) (w 79 6) j), (0, ((j : Nat) : Int))]) (st' := [(0, 0), (0, ((j : Nat) : Int)), (2, 69), (0, seG w 1 (w 79 4) (w 79 5) (w 79 6) j)]) (w' := w) (n' := 142) rfl ?_
            refine qG.call (t := 27) (na := 3) (sk := 1) (md := 1) (ls1 := [(2, 69), (0, ((j : Nat) : Int)), (0, 0), (9, 0), (9, 0)]) (r1 := [(0, seG w 1 (w 79 4) (w 79 5) (w 79 6) j)]) rfl rfl rfl rfl rfl (K_shown69 (Nat.zero_le _) j (0) w hI hK hE) ?_
            rintro _ w7 _ ⟨rfl, hw7, rfl⟩
            rw [hw7, show shD w 1 j (0) = thrF w 1 j (0) from if_pos (by omega)]
            show qG none (d + 1) 113 52 [(2, 79), (2, 69), (0, seG w 1 (w 79 4) (w 79 5) (w 79 6) j), (0, ((j : Nat) : Int))] [(0, thrF w 1 j (0)), (0, seG w 1 (w 79 4) (w 79 5) (w 79 6) j)] w 142 Q9
            refine qG.blk 3 (pc' := 57) (ls' := [(2, 79), (2, 69), (0, qor (seG w 1 (w 79 4) (w 79 5) (w 79 6) j) (thrF w 1 j (0))), (0, wrp (((j : Nat) : Int) + 1))]) (st' := []) (w' := w) (n' := 142) rfl ?_
            rw [show wrp (((j : Nat) : Int) + 1) = ((j + 1 : Nat) : Int) from wrp_id (by omega) (by omega)]
            refine qG.blk 1 (pc' := 4) (ls' := [(2, 79), (2, 69), (0, qor (seG w 1 (w 79 4) (w 79 5) (w 79 6) j) (thrF w 1 j (0))), (0, ((j + 1 : Nat) : Int))]) (st' := []) (w' := w) (n' := 142) rfl ?_
            have e9 : seG w 1 (w 79 4) (w 79 5) (w 79 6) (j + 1) = qor (seG w 1 (w 79 4) (w 79 5) (w 79 6) j) (thrF w 1 j (0)) := by rw [seG_s]; first | (rw [if_pos hb1, if_pos hfr, if_pos hcd]; done) | (rw [if_pos hb1, if_pos hfr, if_neg hcd]; done) | (rw [if_pos hb1, if_neg hfr]; done) | (rw [if_neg hb1]; done)
            exact e9 ▸ ih4 _ (by omega) (j + 1) rfl (by omega)
        · skip
          refine qG.blk 1 (pc' := 57) (ls' := [(2, 79), (2, 69), (0, seG w 1 (w 79 4) (w 79 5) (w 79 6) j), (0, wrp (((j : Nat) : Int) + 1))]) (st' := []) (w' := w) (n' := 142) rfl ?_
          rw [show wrp (((j : Nat) : Int) + 1) = ((j + 1 : Nat) : Int) from wrp_id (by omega) (by omega)]
          refine qG.blk 1 (pc' := 4) (ls' := [(2, 79), (2, 69), (0, seG w 1 (w 79 4) (w 79 5) (w 79 6) j), (0, ((j + 1 : Nat) : Int))]) (st' := []) (w' := w) (n' := 142) rfl ?_
          have e9 : seG w 1 (w 79 4) (w 79 5) (w 79 6) (j + 1) = seG w 1 (w 79 4) (w 79 5) (w 79 6) j := by rw [seG_s]; first | (rw [if_pos hb1, if_pos hfr, if_pos hcd]; done) | (rw [if_pos hb1, if_pos hfr, if_neg hcd]; done) | (rw [if_pos hb1, if_neg hfr]; done) | (rw [if_neg hb1]; done)
          exact e9 ▸ ih4 _ (by omega) (j + 1) rfl (by omega)
    · skip
      refine qG.blk 1 (pc' := 61) (ls' := [(2, 79), (2, 69), (0, seG w 1 (w 79 4) (w 79 5) (w 79 6) j), (0, ((j : Nat) : Int))]) (st' := [(0, seG w 1 (w 79 4) (w 79 5) (w 79 6) j)]) (w' := w) (n' := 142) rfl ?_
      refine qG.ret rfl rfl ?_
      subst hQ9
      exact ⟨by rw [show j = 10 by omega], rfl, rfl⟩
  exact L4 _ (0) rfl (by omega)
theorem K_view79_74 {d : Nat} (hd : 1 ≤ d) (m : Nat) (hm : m < 1024) (w : qW) (hI : yInv zgf zga zra zSp w) (ho : w 79 4 = (m : Int)) (hK : w 74 0 = w 96 2) (hE : JE w) : qG none d 113 0 [(2, 79), (2, 74), (9, 0), (9, 0)] [] w 142 (fun (r : qV) (w1 : qW) (n1 : Nat) => r = (0, seG w 2 (w 79 4) (w 79 5) (w 79 6) 10) ∧ w1 = w ∧ n1 = 142) := by
  generalize hQ9 : (fun (r : qV) (w1 : qW) (n1 : Nat) => r = (0, seG w 2 (w 79 4) (w 79 5) (w 79 6) 10) ∧ w1 = w ∧ n1 = 142) = Q9
  obtain ⟨d, rfl⟩ : ∃ d9, d = d9 + 1 := ⟨d - 1, by omega⟩
  refine qG.blk 4 (pc' := 4) (ls' := [(2, 79), (2, 74), (0, 0), (0, 0)]) (st' := []) (w' := w) (n' := 142) rfl ?_
  have L4 : ∀ (m9 : Nat) (j : Nat), 10 - j = m9 → (j ≤ 10) → qG none (d + 1) 113 4 [(2, 79), (2, 74), (0, seG w 2 (w 79 4) (w 79 5) (w 79 6) j), (0, ((j : Nat) : Int))] [] w 142 Q9 := by
    intro m9
    induction m9 using Nat.strongRecOn with
    | ind m9 ih4 =>
    intro j hm4 hI4
    refine qG.blk 2 (pc' := 7) (ls' := [(2, 79), (2, 74), (0, seG w 2 (w 79 4) (w 79 5) (w 79 6) j), (0, ((j : Nat) : Int))]) (st' := [(0, 10), (0, ((j : Nat) : Int))]) (w' := w) (n' := 142) rfl ?_
    refine qG.br (P := ((j : Nat) : Int) < 10) (pc1 := 10) (pc2 := 60) (st1 := []) rfl (fun hj => ?_) (fun hj => ?_)
    · skip
      refine qG.blk 6 (pc' := 18) (ls' := [(2, 79), (2, 74), (0, seG w 2 (w 79 4) (w 79 5) (w 79 6) j), (0, ((j : Nat) : Int))]) (st' := [(0, qand (qush (w 79 4) ((j : Nat) : Int)) 1)]) (w' := w) (n' := 142) rfl ?_
      refine qG.br (P := qand (qush (w 79 4) ((j : Nat) : Int)) 1 = 0) (pc1 := 54) (pc2 := 21) (st1 := []) rfl (fun hbit => ?_) (fun hbit => ?_)
      · skip
        have hb1 : ¬ qand (qshr (w 79 4) ((j : Nat) : Int)) 1 = 1 := fun z => by rw [ho, ← ushr_b hm (by omega), ← ho, hbit] at z; exact absurd z (by decide)
        refine qG.blk 1 (pc' := 57) (ls' := [(2, 79), (2, 74), (0, seG w 2 (w 79 4) (w 79 5) (w 79 6) j), (0, wrp (((j : Nat) : Int) + 1))]) (st' := []) (w' := w) (n' := 142) rfl ?_
        rw [show wrp (((j : Nat) : Int) + 1) = ((j + 1 : Nat) : Int) from wrp_id (by omega) (by omega)]
        refine qG.blk 1 (pc' := 4) (ls' := [(2, 79), (2, 74), (0, seG w 2 (w 79 4) (w 79 5) (w 79 6) j), (0, ((j + 1 : Nat) : Int))]) (st' := []) (w' := w) (n' := 142) rfl ?_
        have e9 : seG w 2 (w 79 4) (w 79 5) (w 79 6) (j + 1) = seG w 2 (w 79 4) (w 79 5) (w 79 6) j := by rw [seG_s]; first | (rw [if_pos hb1, if_pos hfr, if_pos hcd]; done) | (rw [if_pos hb1, if_pos hfr, if_neg hcd]; done) | (rw [if_pos hb1, if_neg hfr]; done) | (rw [if_neg hb1]; done)
        exact e9 ▸ ih4 _ (by omega) (j + 1) rfl (by omega)
      · skip
        have hb1 : qand (qshr (w 79 4) ((j : Nat) : Int)) 1 = 1 := by rw [ho, ← ushr_b hm (by omega), ← ho]; have q := qand_1 (qush (w 79 4) ((j : Nat) : Int)); omega
        refine qG.blk 2 (pc' := 23) (ls' := [(2, 79), (2, 74), (0, seG w 2 (w 79 4) (w 79 5) (w 79 6) j), (0, ((j : Nat) : Int))]) (st' := [(0, ((j : Nat) : Int)), (2, 74)]) (w' := w) (n' := 142) rfl ?_
        refine qG.call (t := 26) (na := 2) (sk := 1) (md := 1) (ls1 := [(2, 74), (0, ((j : Nat) : Int))]) (r1 := []) rfl rfl rfl rfl rfl (K_sideOf74 (Nat.zero_le _) j (by omega) w hI hE) ?_
        rintro _ w7 _ ⟨rfl, hw7, rfl⟩
        rw [hw7]
        show qG none (d + 1) 113 26 [(2, 79), (2, 74), (0, seG w 2 (w 79 4) (w 79 5) (w 79 6) j), (0, ((j : Nat) : Int))] [(0, w 97 (10 * 2 + j))] w 142 Q9
        refine qG.blk 2 (pc' := 30) (ls' := [(2, 79), (2, 74), (0, seG w 2 (w 79 4) (w 79 5) (w 79 6) j), (0, ((j : Nat) : Int))]) (st' := [(0, w 79 6), (0, w 97 (10 * 2 + j))]) (w' := w) (n' := 142) rfl ?_
        refine qG.br (P := w 97 (10 * 2 + j) = w 79 6) (pc1 := 33) (pc2 := 54) (st1 := []) rfl (fun hfr => ?_) (fun hfr => ?_)
        · skip
          refine qG.blk 6 (pc' := 41) (ls' := [(2, 79), (2, 74), (0, seG w 2 (w 79 4) (w 79 5) (w 79 6) j), (0, ((j : Nat) : Int))]) (st' := [(0, w 79 5), (0, ((j : Nat) : Int)), (0, ((j : Nat) : Int)), (2, 74), (0, seG w 2 (w 79 4) (w 79 5) (w 79 6) j)]) (w' := w) (n' := 142) rfl ?_
          refine qG.br (P := ((j : Nat) : Int) = w 79 5) (pc1 := 44) (pc2 := 48) (st1 := [(0, ((j : Nat) : Int)), (2, 74), (0, seG w 2 (w 79 4) (w 79 5) (w 79 6) j)]) rfl (fun hcd => ?_) (fun hcd => ?_)
          · skip
            refine qG.blk 2 (pc' := 49) (ls' := [(2, 79), (2, 74), (0, seG w 2 (w 79 4) (w 79 5) (w 79 6) j), (0, ((j : Nat) : Int))]) (st' := [(0, 1), (0, ((j : Nat) : Int)), (2, 74), (0, seG w 2 (w 79 4) (w 79 5) (w 79 6) j)]) (w' := w) (n' := 142) rfl ?_
            refine qG.call (t := 27) (na := 3) (sk := 1) (md := 1) (ls1 := [(2, 74), (0, ((j : Nat) : Int)), (0, 1), (9, 0), (9, 0)]) (r1 := [(0, seG w 2 (w 79 4) (w 79 5) (w 79 6) j)]) rfl rfl rfl rfl rfl (K_shown74 (Nat.zero_le _) j (1) w hI hK hE) ?_
            rintro _ w7 _ ⟨rfl, hw7, rfl⟩
            rw [hw7, show shD w 2 j (1) = thrF w 2 j (1) from if_pos (by omega)]
            show qG none (d + 1) 113 52 [(2, 79), (2, 74), (0, seG w 2 (w 79 4) (w 79 5) (w 79 6) j), (0, ((j : Nat) : Int))] [(0, thrF w 2 j (1)), (0, seG w 2 (w 79 4) (w 79 5) (w 79 6) j)] w 142 Q9
            refine qG.blk 3 (pc' := 57) (ls' := [(2, 79), (2, 74), (0, qor (seG w 2 (w 79 4) (w 79 5) (w 79 6) j) (thrF w 2 j (1))), (0, wrp (((j : Nat) : Int) + 1))]) (st' := []) (w' := w) (n' := 142) rfl ?_
            rw [show wrp (((j : Nat) : Int) + 1) = ((j + 1 : Nat) : Int) from wrp_id (by omega) (by omega)]
            refine qG.blk 1 (pc' := 4) (ls' := [(2, 79), (2, 74), (0, qor (seG w 2 (w 79 4) (w 79 5) (w 79 6) j) (thrF w 2 j (1))), (0, ((j + 1 : Nat) : Int))]) (st' := []) (w' := w) (n' := 142) rfl ?_
            have e9 : seG w 2 (w 79 4) (w 79 5) (w 79 6) (j + 1) = qor (seG w 2 (w 79 4) (w 79 5) (w 79 6) j) (thrF w 2 j (1)) := by rw [seG_s]; first | (rw [if_pos hb1, if_pos hfr, if_pos hcd]; done) | (rw [if_pos hb1, if_pos hfr, if_neg hcd]; done) | (rw [if_pos hb1, if_neg hfr]; done) | (rw [if_neg hb1]; done)
            exact e9 ▸ ih4 _ (by omega) (j + 1) rfl (by omega)
          · skip
            refine qG.blk 1 (pc' := 49) (ls' := [(2, 79), (2, 74), (0, seG w 2 (w 79 4) (w 79 5) (w 79 6) j), (0, ((j : Nat) : Int))]) (st' := [(0, 0), (0, ((j : Nat) : Int)), (2, 74), (0, seG w 2 (w 79 4) (w 79 5) (w 79 6) j)]) (w' := w) (n' := 142) rfl ?_
            refine qG.call (t := 27) (na := 3) (sk := 1) (md := 1) (ls1 := [(2, 74), (0, ((j : Nat) : Int)), (0, 0), (9, 0), (9, 0)]) (r1 := [(0, seG w 2 (w 79 4) (w 79 5) (w 79 6) j)]) rfl rfl rfl rfl rfl (K_shown74 (Nat.zero_le _) j (0) w hI hK hE) ?_
            rintro _ w7 _ ⟨rfl, hw7, rfl⟩
            rw [hw7, show shD w 2 j (0) = thrF w 2 j (0) from if_pos (by omega)]
            show qG none (d + 1) 113 52 [(2, 79), (2, 74), (0, seG w 2 (w 79 4) (w 79 5) (w 79 6) j), (0, ((j : Nat) : Int))] [(0, thrF w 2 j (0)), (0, seG w 2 (w 79 4) (w 79 5) (w 79 6) j)] w 142 Q9
            refine qG.blk 3 (pc' := 57) (ls' := [(2, 79), (2, 74), (0, qor (seG w 2 (w 79 4) (w 79 5) (w 79 6) j) (thrF w 2 j (0))), (0, wrp (((j : Nat) : Int) + 1))]) (st' := []) (w' := w) (n' := 142) rfl ?_
            rw [show wrp (((j : Nat) : Int) + 1) = ((j + 1 : Nat) : Int) from wrp_id (by omega) (by omega)]
            refine qG.blk 1 (pc' := 4) (ls' := [(2, 79), (2, 74), (0, qor (seG w 2 (w 79 4) (w 79 5) (w 79 6) j) (thrF w 2 j (0))), (0, ((j + 1 : Nat) : Int))]) (st' := []) (w' := w) (n' := 142) rfl ?_
            have e9 : seG w 2 (w 79 4) (w 79 5) (w 79 6) (j + 1) = qor (seG w 2 (w 79 4) (w 79 5) (w 79 6) j) (thrF w 2 j (0)) := by rw [seG_s]; first | (rw [if_pos hb1, if_pos hfr, if_pos hcd]; done) | (rw [if_pos hb1, if_pos hfr, if_neg hcd]; done) | (rw [if_pos hb1, if_neg hfr]; done) | (rw [if_neg hb1]; done)
            exact e9 ▸ ih4 _ (by omega) (j + 1) rfl (by omega)
        · skip
          refine qG.blk 1 (pc' := 57) (ls' := [(2, 79), (2, 74), (0, seG w 2 (w 79 4) (w 79 5) (w 79 6) j), (0, wrp (((j : Nat) : Int) + 1))]) (st' := []) (w' := w) (n' := 142) rfl ?_
          rw [show wrp (((j : Nat) : Int) + 1) = ((j + 1 : Nat) : Int) from wrp_id (by omega) (by omega)]
          refine qG.blk 1 (pc' := 4) (ls' := [(2, 79), (2, 74), (0, seG w 2 (w 79 4) (w 79 5) (w 79 6) j), (0, ((j + 1 : Nat) : Int))]) (st' := []) (w' := w) (n' := 142) rfl ?_
          have e9 : seG w 2 (w 79 4) (w 79 5) (w 79 6) (j + 1) = seG w 2 (w 79 4) (w 79 5) (w 79 6) j := by rw [seG_s]; first | (rw [if_pos hb1, if_pos hfr, if_pos hcd]; done) | (rw [if_pos hb1, if_pos hfr, if_neg hcd]; done) | (rw [if_pos hb1, if_neg hfr]; done) | (rw [if_neg hb1]; done)
          exact e9 ▸ ih4 _ (by omega) (j + 1) rfl (by omega)
    · skip
      refine qG.blk 1 (pc' := 61) (ls' := [(2, 79), (2, 74), (0, seG w 2 (w 79 4) (w 79 5) (w 79 6) j), (0, ((j : Nat) : Int))]) (st' := [(0, seG w 2 (w 79 4) (w 79 5) (w 79 6) j)]) (w' := w) (n' := 142) rfl ?_
      refine qG.ret rfl rfl ?_
      subst hQ9
      exact ⟨by rw [show j = 10 by omega], rfl, rfl⟩
  exact L4 _ (0) rfl (by omega)
theorem K_view83_64 {d : Nat} (hd : 1 ≤ d) (m : Nat) (hm : m < 1024) (w : qW) (hI : yInv zgf zga zra zSp w) (ho : w 83 4 = (m : Int)) (hK : w 64 0 = w 96 0) (hE : JE w) : qG none d 113 0 [(2, 83), (2, 64), (9, 0), (9, 0)] [] w 142 (fun (r : qV) (w1 : qW) (n1 : Nat) => r = (0, seG w 0 (w 83 4) (w 83 5) (w 83 6) 10) ∧ w1 = w ∧ n1 = 142) := by
  generalize hQ9 : (fun (r : qV) (w1 : qW) (n1 : Nat) => r = (0, seG w 0 (w 83 4) (w 83 5) (w 83 6) 10) ∧ w1 = w ∧ n1 = 142) = Q9
  obtain ⟨d, rfl⟩ : ∃ d9, d = d9 + 1 := ⟨d - 1, by omega⟩
  refine qG.blk 4 (pc' := 4) (ls' := [(2, 83), (2, 64), (0, 0), (0, 0)]) (st' := []) (w' := w) (n' := 142) rfl ?_
  have L4 : ∀ (m9 : Nat) (j : Nat), 10 - j = m9 → (j ≤ 10) → qG none (d + 1) 113 4 [(2, 83), (2, 64), (0, seG w 0 (w 83 4) (w 83 5) (w 83 6) j), (0, ((j : Nat) : Int))] [] w 142 Q9 := by
    intro m9
    induction m9 using Nat.strongRecOn with
    | ind m9 ih4 =>
    intro j hm4 hI4
    refine qG.blk 2 (pc' := 7) (ls' := [(2, 83), (2, 64), (0, seG w 0 (w 83 4) (w 83 5) (w 83 6) j), (0, ((j : Nat) : Int))]) (st' := [(0, 10), (0, ((j : Nat) : Int))]) (w' := w) (n' := 142) rfl ?_
    refine qG.br (P := ((j : Nat) : Int) < 10) (pc1 := 10) (pc2 := 60) (st1 := []) rfl (fun hj => ?_) (fun hj => ?_)
    · skip
      refine qG.blk 6 (pc' := 18) (ls' := [(2, 83), (2, 64), (0, seG w 0 (w 83 4) (w 83 5) (w 83 6) j), (0, ((j : Nat) : Int))]) (st' := [(0, qand (qush (w 83 4) ((j : Nat) : Int)) 1)]) (w' := w) (n' := 142) rfl ?_
      refine qG.br (P := qand (qush (w 83 4) ((j : Nat) : Int)) 1 = 0) (pc1 := 54) (pc2 := 21) (st1 := []) rfl (fun hbit => ?_) (fun hbit => ?_)
      · skip
        have hb1 : ¬ qand (qshr (w 83 4) ((j : Nat) : Int)) 1 = 1 := fun z => by rw [ho, ← ushr_b hm (by omega), ← ho, hbit] at z; exact absurd z (by decide)
        refine qG.blk 1 (pc' := 57) (ls' := [(2, 83), (2, 64), (0, seG w 0 (w 83 4) (w 83 5) (w 83 6) j), (0, wrp (((j : Nat) : Int) + 1))]) (st' := []) (w' := w) (n' := 142) rfl ?_
        rw [show wrp (((j : Nat) : Int) + 1) = ((j + 1 : Nat) : Int) from wrp_id (by omega) (by omega)]
        refine qG.blk 1 (pc' := 4) (ls' := [(2, 83), (2, 64), (0, seG w 0 (w 83 4) (w 83 5) (w 83 6) j), (0, ((j + 1 : Nat) : Int))]) (st' := []) (w' := w) (n' := 142) rfl ?_
        have e9 : seG w 0 (w 83 4) (w 83 5) (w 83 6) (j + 1) = seG w 0 (w 83 4) (w 83 5) (w 83 6) j := by rw [seG_s]; first | (rw [if_pos hb1, if_pos hfr, if_pos hcd]; done) | (rw [if_pos hb1, if_pos hfr, if_neg hcd]; done) | (rw [if_pos hb1, if_neg hfr]; done) | (rw [if_neg hb1]; done)
        exact e9 ▸ ih4 _ (by omega) (j + 1) rfl (by omega)
      · skip
        have hb1 : qand (qshr (w 83 4) ((j : Nat) : Int)) 1 = 1 := by rw [ho, ← ushr_b hm (by omega), ← ho]; have q := qand_1 (qush (w 83 4) ((j : Nat) : Int)); omega
        refine qG.blk 2 (pc' := 23) (ls' := [(2, 83), (2, 64), (0, seG w 0 (w 83 4) (w 83 5) (w 83 6) j), (0, ((j : Nat) : Int))]) (st' := [(0, ((j : Nat) : Int)), (2, 64)]) (w' := w) (n' := 142) rfl ?_
        refine qG.call (t := 26) (na := 2) (sk := 1) (md := 1) (ls1 := [(2, 64), (0, ((j : Nat) : Int))]) (r1 := []) rfl rfl rfl rfl rfl (K_sideOf64 (Nat.zero_le _) j (by omega) w hI hE) ?_
        rintro _ w7 _ ⟨rfl, hw7, rfl⟩
        rw [hw7]
        show qG none (d + 1) 113 26 [(2, 83), (2, 64), (0, seG w 0 (w 83 4) (w 83 5) (w 83 6) j), (0, ((j : Nat) : Int))] [(0, w 97 (10 * 0 + j))] w 142 Q9
        refine qG.blk 2 (pc' := 30) (ls' := [(2, 83), (2, 64), (0, seG w 0 (w 83 4) (w 83 5) (w 83 6) j), (0, ((j : Nat) : Int))]) (st' := [(0, w 83 6), (0, w 97 (10 * 0 + j))]) (w' := w) (n' := 142) rfl ?_
        refine qG.br (P := w 97 (10 * 0 + j) = w 83 6) (pc1 := 33) (pc2 := 54) (st1 := []) rfl (fun hfr => ?_) (fun hfr => ?_)
        · skip
          refine qG.blk 6 (pc' := 41) (ls' := [(2, 83), (2, 64), (0, seG w 0 (w 83 4) (w 83 5) (w 83 6) j), (0, ((j : Nat) : Int))]) (st' := [(0, w 83 5), (0, ((j : Nat) : Int)), (0, ((j : Nat) : Int)), (2, 64), (0, seG w 0 (w 83 4) (w 83 5) (w 83 6) j)]) (w' := w) (n' := 142) rfl ?_
          refine qG.br (P := ((j : Nat) : Int) = w 83 5) (pc1 := 44) (pc2 := 48) (st1 := [(0, ((j : Nat) : Int)), (2, 64), (0, seG w 0 (w 83 4) (w 83 5) (w 83 6) j)]) rfl (fun hcd => ?_) (fun hcd => ?_)
          · skip
            refine qG.blk 2 (pc' := 49) (ls' := [(2, 83), (2, 64), (0, seG w 0 (w 83 4) (w 83 5) (w 83 6) j), (0, ((j : Nat) : Int))]) (st' := [(0, 1), (0, ((j : Nat) : Int)), (2, 64), (0, seG w 0 (w 83 4) (w 83 5) (w 83 6) j)]) (w' := w) (n' := 142) rfl ?_
            refine qG.call (t := 27) (na := 3) (sk := 1) (md := 1) (ls1 := [(2, 64), (0, ((j : Nat) : Int)), (0, 1), (9, 0), (9, 0)]) (r1 := [(0, seG w 0 (w 83 4) (w 83 5) (w 83 6) j)]) rfl rfl rfl rfl rfl (K_shown64 (Nat.zero_le _) j (1) w hI hK hE) ?_
            rintro _ w7 _ ⟨rfl, hw7, rfl⟩
            rw [hw7, show shD w 0 j (1) = thrF w 0 j (1) from if_pos (by omega)]
            show qG none (d + 1) 113 52 [(2, 83), (2, 64), (0, seG w 0 (w 83 4) (w 83 5) (w 83 6) j), (0, ((j : Nat) : Int))] [(0, thrF w 0 j (1)), (0, seG w 0 (w 83 4) (w 83 5) (w 83 6) j)] w 142 Q9
            refine qG.blk 3 (pc' := 57) (ls' := [(2, 83), (2, 64), (0, qor (seG w 0 (w 83 4) (w 83 5) (w 83 6) j) (thrF w 0 j (1))), (0, wrp (((j : Nat) : Int) + 1))]) (st' := []) (w' := w) (n' := 142) rfl ?_
            rw [show wrp (((j : Nat) : Int) + 1) = ((j + 1 : Nat) : Int) from wrp_id (by omega) (by omega)]
            refine qG.blk 1 (pc' := 4) (ls' := [(2, 83), (2, 64), (0, qor (seG w 0 (w 83 4) (w 83 5) (w 83 6) j) (thrF w 0 j (1))), (0, ((j + 1 : Nat) : Int))]) (st' := []) (w' := w) (n' := 142) rfl ?_
            have e9 : seG w 0 (w 83 4) (w 83 5) (w 83 6) (j + 1) = qor (seG w 0 (w 83 4) (w 83 5) (w 83 6) j) (thrF w 0 j (1)) := by rw [seG_s]; first | (rw [if_pos hb1, if_pos hfr, if_pos hcd]; done) | (rw [if_pos hb1, if_pos hfr, if_neg hcd]; done) | (rw [if_pos hb1, if_neg hfr]; done) | (rw [if_neg hb1]; done)
            exact e9 ▸ ih4 _ (by omega) (j + 1) rfl (by omega)
          · skip
            refine qG.blk 1 (pc' := 49) (ls' := [(2, 83), (2, 64), (0, seG w 0 (w 83 4) (w 83 5) (w 83 6) j), (0, ((j : Nat) : Int))]) (st' := [(0, 0), (0, ((j : Nat) : Int)), (2, 64), (0, seG w 0 (w 83 4) (w 83 5) (w 83 6) j)]) (w' := w) (n' := 142) rfl ?_
            refine qG.call (t := 27) (na := 3) (sk := 1) (md := 1) (ls1 := [(2, 64), (0, ((j : Nat) : Int)), (0, 0), (9, 0), (9, 0)]) (r1 := [(0, seG w 0 (w 83 4) (w 83 5) (w 83 6) j)]) rfl rfl rfl rfl rfl (K_shown64 (Nat.zero_le _) j (0) w hI hK hE) ?_
            rintro _ w7 _ ⟨rfl, hw7, rfl⟩
            rw [hw7, show shD w 0 j (0) = thrF w 0 j (0) from if_pos (by omega)]
            show qG none (d + 1) 113 52 [(2, 83), (2, 64), (0, seG w 0 (w 83 4) (w 83 5) (w 83 6) j), (0, ((j : Nat) : Int))] [(0, thrF w 0 j (0)), (0, seG w 0 (w 83 4) (w 83 5) (w 83 6) j)] w 142 Q9
            refine qG.blk 3 (pc' := 57) (ls' := [(2, 83), (2, 64), (0, qor (seG w 0 (w 83 4) (w 83 5) (w 83 6) j) (thrF w 0 j (0))), (0, wrp (((j : Nat) : Int) + 1))]) (st' := []) (w' := w) (n' := 142) rfl ?_
            rw [show wrp (((j : Nat) : Int) + 1) = ((j + 1 : Nat) : Int) from wrp_id (by omega) (by omega)]
            refine qG.blk 1 (pc' := 4) (ls' := [(2, 83), (2, 64), (0, qor (seG w 0 (w 83 4) (w 83 5) (w 83 6) j) (thrF w 0 j (0))), (0, ((j + 1 : Nat) : Int))]) (st' := []) (w' := w) (n' := 142) rfl ?_
            have e9 : seG w 0 (w 83 4) (w 83 5) (w 83 6) (j + 1) = qor (seG w 0 (w 83 4) (w 83 5) (w 83 6) j) (thrF w 0 j (0)) := by rw [seG_s]; first | (rw [if_pos hb1, if_pos hfr, if_pos hcd]; done) | (rw [if_pos hb1, if_pos hfr, if_neg hcd]; done) | (rw [if_pos hb1, if_neg hfr]; done) | (rw [if_neg hb1]; done)
            exact e9 ▸ ih4 _ (by omega) (j + 1) rfl (by omega)
        · skip
          refine qG.blk 1 (pc' := 57) (ls' := [(2, 83), (2, 64), (0, seG w 0 (w 83 4) (w 83 5) (w 83 6) j), (0, wrp (((j : Nat) : Int) + 1))]) (st' := []) (w' := w) (n' := 142) rfl ?_
          rw [show wrp (((j : Nat) : Int) + 1) = ((j + 1 : Nat) : Int) from wrp_id (by omega) (by omega)]
          refine qG.blk 1 (pc' := 4) (ls' := [(2, 83), (2, 64), (0, seG w 0 (w 83 4) (w 83 5) (w 83 6) j), (0, ((j + 1 : Nat) : Int))]) (st' := []) (w' := w) (n' := 142) rfl ?_
          have e9 : seG w 0 (w 83 4) (w 83 5) (w 83 6) (j + 1) = seG w 0 (w 83 4) (w 83 5) (w 83 6) j := by rw [seG_s]; first | (rw [if_pos hb1, if_pos hfr, if_pos hcd]; done) | (rw [if_pos hb1, if_pos hfr, if_neg hcd]; done) | (rw [if_pos hb1, if_neg hfr]; done) | (rw [if_neg hb1]; done)
          exact e9 ▸ ih4 _ (by omega) (j + 1) rfl (by omega)
    · skip
      refine qG.blk 1 (pc' := 61) (ls' := [(2, 83), (2, 64), (0, seG w 0 (w 83 4) (w 83 5) (w 83 6) j), (0, ((j : Nat) : Int))]) (st' := [(0, seG w 0 (w 83 4) (w 83 5) (w 83 6) j)]) (w' := w) (n' := 142) rfl ?_
      refine qG.ret rfl rfl ?_
      subst hQ9
      exact ⟨by rw [show j = 10 by omega], rfl, rfl⟩
  exact L4 _ (0) rfl (by omega)
theorem K_view83_69 {d : Nat} (hd : 1 ≤ d) (m : Nat) (hm : m < 1024) (w : qW) (hI : yInv zgf zga zra zSp w) (ho : w 83 4 = (m : Int)) (hK : w 69 0 = w 96 1) (hE : JE w) : qG none d 113 0 [(2, 83), (2, 69), (9, 0), (9, 0)] [] w 142 (fun (r : qV) (w1 : qW) (n1 : Nat) => r = (0, seG w 1 (w 83 4) (w 83 5) (w 83 6) 10) ∧ w1 = w ∧ n1 = 142) := by
  generalize hQ9 : (fun (r : qV) (w1 : qW) (n1 : Nat) => r = (0, seG w 1 (w 83 4) (w 83 5) (w 83 6) 10) ∧ w1 = w ∧ n1 = 142) = Q9
  obtain ⟨d, rfl⟩ : ∃ d9, d = d9 + 1 := ⟨d - 1, by omega⟩
  refine qG.blk 4 (pc' := 4) (ls' := [(2, 83), (2, 69), (0, 0), (0, 0)]) (st' := []) (w' := w) (n' := 142) rfl ?_
  have L4 : ∀ (m9 : Nat) (j : Nat), 10 - j = m9 → (j ≤ 10) → qG none (d + 1) 113 4 [(2, 83), (2, 69), (0, seG w 1 (w 83 4) (w 83 5) (w 83 6) j), (0, ((j : Nat) : Int))] [] w 142 Q9 := by
    intro m9
    induction m9 using Nat.strongRecOn with
    | ind m9 ih4 =>
    intro j hm4 hI4
    refine qG.blk 2 (pc' := 7) (ls' := [(2, 83), (2, 69), (0, seG w 1 (w 83 4) (w 83 5) (w 83 6) j), (0, ((j : Nat) : Int))]) (st' := [(0, 10), (0, ((j : Nat) : Int))]) (w' := w) (n' := 142) rfl ?_
    refine qG.br (P := ((j : Nat) : Int) < 10) (pc1 := 10) (pc2 := 60) (st1 := []) rfl (fun hj => ?_) (fun hj => ?_)
    · skip
      refine qG.blk 6 (pc' := 18) (ls' := [(2, 83), (2, 69), (0, seG w 1 (w 83 4) (w 83 5) (w 83 6) j), (0, ((j : Nat) : Int))]) (st' := [(0, qand (qush (w 83 4) ((j : Nat) : Int)) 1)]) (w' := w) (n' := 142) rfl ?_
      refine qG.br (P := qand (qush (w 83 4) ((j : Nat) : Int)) 1 = 0) (pc1 := 54) (pc2 := 21) (st1 := []) rfl (fun hbit => ?_) (fun hbit => ?_)
      · skip
        have hb1 : ¬ qand (qshr (w 83 4) ((j : Nat) : Int)) 1 = 1 := fun z => by rw [ho, ← ushr_b hm (by omega), ← ho, hbit] at z; exact absurd z (by decide)
        refine qG.blk 1 (pc' := 57) (ls' := [(2, 83), (2, 69), (0, seG w 1 (w 83 4) (w 83 5) (w 83 6) j), (0, wrp (((j : Nat) : Int) + 1))]) (st' := []) (w' := w) (n' := 142) rfl ?_
        rw [show wrp (((j : Nat) : Int) + 1) = ((j + 1 : Nat) : Int) from wrp_id (by omega) (by omega)]
        refine qG.blk 1 (pc' := 4) (ls' := [(2, 83), (2, 69), (0, seG w 1 (w 83 4) (w 83 5) (w 83 6) j), (0, ((j + 1 : Nat) : Int))]) (st' := []) (w' := w) (n' := 142) rfl ?_
        have e9 : seG w 1 (w 83 4) (w 83 5) (w 83 6) (j + 1) = seG w 1 (w 83 4) (w 83 5) (w 83 6) j := by rw [seG_s]; first | (rw [if_pos hb1, if_pos hfr, if_pos hcd]; done) | (rw [if_pos hb1, if_pos hfr, if_neg hcd]; done) | (rw [if_pos hb1, if_neg hfr]; done) | (rw [if_neg hb1]; done)
        exact e9 ▸ ih4 _ (by omega) (j + 1) rfl (by omega)
      · skip
        have hb1 : qand (qshr (w 83 4) ((j : Nat) : Int)) 1 = 1 := by rw [ho, ← ushr_b hm (by omega), ← ho]; have q := qand_1 (qush (w 83 4) ((j : Nat) : Int)); omega
        refine qG.blk 2 (pc' := 23) (ls' := [(2, 83), (2, 69), (0, seG w 1 (w 83 4) (w 83 5) (w 83 6) j), (0, ((j : Nat) : Int))]) (st' := [(0, ((j : Nat) : Int)), (2, 69)]) (w' := w) (n' := 142) rfl ?_
        refine qG.call (t := 26) (na := 2) (sk := 1) (md := 1) (ls1 := [(2, 69), (0, ((j : Nat) : Int))]) (r1 := []) rfl rfl rfl rfl rfl (K_sideOf69 (Nat.zero_le _) j (by omega) w hI hE) ?_
        rintro _ w7 _ ⟨rfl, hw7, rfl⟩
        rw [hw7]
        show qG none (d + 1) 113 26 [(2, 83), (2, 69), (0, seG w 1 (w 83 4) (w 83 5) (w 83 6) j), (0, ((j : Nat) : Int))] [(0, w 97 (10 * 1 + j))] w 142 Q9
        refine qG.blk 2 (pc' := 30) (ls' := [(2, 83), (2, 69), (0, seG w 1 (w 83 4) (w 83 5) (w 83 6) j), (0, ((j : Nat) : Int))]) (st' := [(0, w 83 6), (0, w 97 (10 * 1 + j))]) (w' := w) (n' := 142) rfl ?_
        refine qG.br (P := w 97 (10 * 1 + j) = w 83 6) (pc1 := 33) (pc2 := 54) (st1 := []) rfl (fun hfr => ?_) (fun hfr => ?_)
        · skip
          refine qG.blk 6 (pc' := 41) (ls' := [(2, 83), (2, 69), (0, seG w 1 (w 83 4) (w 83 5) (w 83 6) j), (0, ((j : Nat) : Int))]) (st' := [(0, w 83 5), (0, ((j : Nat) : Int)), (0, ((j : Nat) : Int)), (2, 69), (0, seG w 1 (w 83 4) (w 83 5) (w 83 6) j)]) (w' := w) (n' := 142) rfl ?_
          refine qG.br (P := ((j : Nat) : Int) = w 83 5) (pc1 := 44) (pc2 := 48) (st1 := [(0, ((j : Nat) : Int)), (2, 69), (0, seG w 1 (w 83 4) (w 83 5) (w 83 6) j)]) rfl (fun hcd => ?_) (fun hcd => ?_)
          · skip
            refine qG.blk 2 (pc' := 49) (ls' := [(2, 83), (2, 69), (0, seG w 1 (w 83 4) (w 83 5) (w 83 6) j), (0, ((j : Nat) : Int))]) (st' := [(0, 1), (0, ((j : Nat) : Int)), (2, 69), (0, seG w 1 (w 83 4) (w 83 5) (w 83 6) j)]) (w' := w) (n' := 142) rfl ?_
            refine qG.call (t := 27) (na := 3) (sk := 1) (md := 1) (ls1 := [(2, 69), (0, ((j : Nat) : Int)), (0, 1), (9, 0), (9, 0)]) (r1 := [(0, seG w 1 (w 83 4) (w 83 5) (w 83 6) j)]) rfl rfl rfl rfl rfl (K_shown69 (Nat.zero_le _) j (1) w hI hK hE) ?_
            rintro _ w7 _ ⟨rfl, hw7, rfl⟩
            rw [hw7, show shD w 1 j (1) = thrF w 1 j (1) from if_pos (by omega)]
            show qG none (d + 1) 113 52 [(2, 83), (2, 69), (0, seG w 1 (w 83 4) (w 83 5) (w 83 6) j), (0, ((j : Nat) : Int))] [(0, thrF w 1 j (1)), (0, seG w 1 (w 83 4) (w 83 5) (w 83 6) j)] w 142 Q9
            refine qG.blk 3 (pc' := 57) (ls' := [(2, 83), (2, 69), (0, qor (seG w 1 (w 83 4) (w 83 5) (w 83 6) j) (thrF w 1 j (1))), (0, wrp (((j : Nat) : Int) + 1))]) (st' := []) (w' := w) (n' := 142) rfl ?_
            rw [show wrp (((j : Nat) : Int) + 1) = ((j + 1 : Nat) : Int) from wrp_id (by omega) (by omega)]
            refine qG.blk 1 (pc' := 4) (ls' := [(2, 83), (2, 69), (0, qor (seG w 1 (w 83 4) (w 83 5) (w 83 6) j) (thrF w 1 j (1))), (0, ((j + 1 : Nat) : Int))]) (st' := []) (w' := w) (n' := 142) rfl ?_
            have e9 : seG w 1 (w 83 4) (w 83 5) (w 83 6) (j + 1) = qor (seG w 1 (w 83 4) (w 83 5) (w 83 6) j) (thrF w 1 j (1)) := by rw [seG_s]; first | (rw [if_pos hb1, if_pos hfr, if_pos hcd]; done) | (rw [if_pos hb1, if_pos hfr, if_neg hcd]; done) | (rw [if_pos hb1, if_neg hfr]; done) | (rw [if_neg hb1]; done)
            exact e9 ▸ ih4 _ (by omega) (j + 1) rfl (by omega)
          · skip
            refine qG.blk 1 (pc' := 49) (ls' := [(2, 83), (2, 69), (0, seG w 1 (w 83 4) (w 83 5) (w 83 6) j), (0, ((j : Nat) : Int))]) (st' := [(0, 0), (0, ((j : Nat) : Int)), (2, 69), (0, seG w 1 (w 83 4) (w 83 5) (w 83 6) j)]) (w' := w) (n' := 142) rfl ?_
            refine qG.call (t := 27) (na := 3) (sk := 1) (md := 1) (ls1 := [(2, 69), (0, ((j : Nat) : Int)), (0, 0), (9, 0), (9, 0)]) (r1 := [(0, seG w 1 (w 83 4) (w 83 5) (w 83 6) j)]) rfl rfl rfl rfl rfl (K_shown69 (Nat.zero_le _) j (0) w hI hK hE) ?_
            rintro _ w7 _ ⟨rfl, hw7, rfl⟩
            rw [hw7, show shD w 1 j (0) = thrF w 1 j (0) from if_pos (by omega)]
            show qG none (d + 1) 113 52 [(2, 83), (2, 69), (0, seG w 1 (w 83 4) (w 83 5) (w 83 6) j), (0, ((j : Nat) : Int))] [(0, thrF w 1 j (0)), (0, seG w 1 (w 83 4) (w 83 5) (w 83 6) j)] w 142 Q9
            refine qG.blk 3 (pc' := 57) (ls' := [(2, 83), (2, 69), (0, qor (seG w 1 (w 83 4) (w 83 5) (w 83 6) j) (thrF w 1 j (0))), (0, wrp (((j : Nat) : Int) + 1))]) (st' := []) (w' := w) (n' := 142) rfl ?_
            rw [show wrp (((j : Nat) : Int) + 1) = ((j + 1 : Nat) : Int) from wrp_id (by omega) (by omega)]
            refine qG.blk 1 (pc' := 4) (ls' := [(2, 83), (2, 69), (0, qor (seG w 1 (w 83 4) (w 83 5) (w 83 6) j) (thrF w 1 j (0))), (0, ((j + 1 : Nat) : Int))]) (st' := []) (w' := w) (n' := 142) rfl ?_
            have e9 : seG w 1 (w 83 4) (w 83 5) (w 83 6) (j + 1) = qor (seG w 1 (w 83 4) (w 83 5) (w 83 6) j) (thrF w 1 j (0)) := by rw [seG_s]; first | (rw [if_pos hb1, if_pos hfr, if_pos hcd]; done) | (rw [if_pos hb1, if_pos hfr, if_neg hcd]; done) | (rw [if_pos hb1, if_neg hfr]; done) | (rw [if_neg hb1]; done)
            exact e9 ▸ ih4 _ (by omega) (j + 1) rfl (by omega)
        · skip
          refine qG.blk 1 (pc' := 57) (ls' := [(2, 83), (2, 69), (0, seG w 1 (w 83 4) (w 83 5) (w 83 6) j), (0, wrp (((j : Nat) : Int) + 1))]) (st' := []) (w' := w) (n' := 142) rfl ?_
          rw [show wrp (((j : Nat) : Int) + 1) = ((j + 1 : Nat) : Int) from wrp_id (by omega) (by omega)]
          refine qG.blk 1 (pc' := 4) (ls' := [(2, 83), (2, 69), (0, seG w 1 (w 83 4) (w 83 5) (w 83 6) j), (0, ((j + 1 : Nat) : Int))]) (st' := []) (w' := w) (n' := 142) rfl ?_
          have e9 : seG w 1 (w 83 4) (w 83 5) (w 83 6) (j + 1) = seG w 1 (w 83 4) (w 83 5) (w 83 6) j := by rw [seG_s]; first | (rw [if_pos hb1, if_pos hfr, if_pos hcd]; done) | (rw [if_pos hb1, if_pos hfr, if_neg hcd]; done) | (rw [if_pos hb1, if_neg hfr]; done) | (rw [if_neg hb1]; done)
          exact e9 ▸ ih4 _ (by omega) (j + 1) rfl (by omega)
    · skip
      refine qG.blk 1 (pc' := 61) (ls' := [(2, 83), (2, 69), (0, seG w 1 (w 83 4) (w 83 5) (w 83 6) j), (0, ((j : Nat) : Int))]) (st' := [(0, seG w 1 (w 83 4) (w 83 5) (w 83 6) j)]) (w' := w) (n' := 142) rfl ?_
      refine qG.ret rfl rfl ?_
      subst hQ9
      exact ⟨by rw [show j = 10 by omega], rfl, rfl⟩
  exact L4 _ (0) rfl (by omega)
theorem K_view83_74 {d : Nat} (hd : 1 ≤ d) (m : Nat) (hm : m < 1024) (w : qW) (hI : yInv zgf zga zra zSp w) (ho : w 83 4 = (m : Int)) (hK : w 74 0 = w 96 2) (hE : JE w) : qG none d 113 0 [(2, 83), (2, 74), (9, 0), (9, 0)] [] w 142 (fun (r : qV) (w1 : qW) (n1 : Nat) => r = (0, seG w 2 (w 83 4) (w 83 5) (w 83 6) 10) ∧ w1 = w ∧ n1 = 142) := by
  generalize hQ9 : (fun (r : qV) (w1 : qW) (n1 : Nat) => r = (0, seG w 2 (w 83 4) (w 83 5) (w 83 6) 10) ∧ w1 = w ∧ n1 = 142) = Q9
  obtain ⟨d, rfl⟩ : ∃ d9, d = d9 + 1 := ⟨d - 1, by omega⟩
  refine qG.blk 4 (pc' := 4) (ls' := [(2, 83), (2, 74), (0, 0), (0, 0)]) (st' := []) (w' := w) (n' := 142) rfl ?_
  have L4 : ∀ (m9 : Nat) (j : Nat), 10 - j = m9 → (j ≤ 10) → qG none (d + 1) 113 4 [(2, 83), (2, 74), (0, seG w 2 (w 83 4) (w 83 5) (w 83 6) j), (0, ((j : Nat) : Int))] [] w 142 Q9 := by
    intro m9
    induction m9 using Nat.strongRecOn with
    | ind m9 ih4 =>
    intro j hm4 hI4
    refine qG.blk 2 (pc' := 7) (ls' := [(2, 83), (2, 74), (0, seG w 2 (w 83 4) (w 83 5) (w 83 6) j), (0, ((j : Nat) : Int))]) (st' := [(0, 10), (0, ((j : Nat) : Int))]) (w' := w) (n' := 142) rfl ?_
    refine qG.br (P := ((j : Nat) : Int) < 10) (pc1 := 10) (pc2 := 60) (st1 := []) rfl (fun hj => ?_) (fun hj => ?_)
    · skip
      refine qG.blk 6 (pc' := 18) (ls' := [(2, 83), (2, 74), (0, seG w 2 (w 83 4) (w 83 5) (w 83 6) j), (0, ((j : Nat) : Int))]) (st' := [(0, qand (qush (w 83 4) ((j : Nat) : Int)) 1)]) (w' := w) (n' := 142) rfl ?_
      refine qG.br (P := qand (qush (w 83 4) ((j : Nat) : Int)) 1 = 0) (pc1 := 54) (pc2 := 21) (st1 := []) rfl (fun hbit => ?_) (fun hbit => ?_)
      · skip
        have hb1 : ¬ qand (qshr (w 83 4) ((j : Nat) : Int)) 1 = 1 := fun z => by rw [ho, ← ushr_b hm (by omega), ← ho, hbit] at z; exact absurd z (by decide)
        refine qG.blk 1 (pc' := 57) (ls' := [(2, 83), (2, 74), (0, seG w 2 (w 83 4) (w 83 5) (w 83 6) j), (0, wrp (((j : Nat) : Int) + 1))]) (st' := []) (w' := w) (n' := 142) rfl ?_
        rw [show wrp (((j : Nat) : Int) + 1) = ((j + 1 : Nat) : Int) from wrp_id (by omega) (by omega)]
        refine qG.blk 1 (pc' := 4) (ls' := [(2, 83), (2, 74), (0, seG w 2 (w 83 4) (w 83 5) (w 83 6) j), (0, ((j + 1 : Nat) : Int))]) (st' := []) (w' := w) (n' := 142) rfl ?_
        have e9 : seG w 2 (w 83 4) (w 83 5) (w 83 6) (j + 1) = seG w 2 (w 83 4) (w 83 5) (w 83 6) j := by rw [seG_s]; first | (rw [if_pos hb1, if_pos hfr, if_pos hcd]; done) | (rw [if_pos hb1, if_pos hfr, if_neg hcd]; done) | (rw [if_pos hb1, if_neg hfr]; done) | (rw [if_neg hb1]; done)
        exact e9 ▸ ih4 _ (by omega) (j + 1) rfl (by omega)
      · skip
        have hb1 : qand (qshr (w 83 4) ((j : Nat) : Int)) 1 = 1 := by rw [ho, ← ushr_b hm (by omega), ← ho]; have q := qand_1 (qush (w 83 4) ((j : Nat) : Int)); omega
        refine qG.blk 2 (pc' := 23) (ls' := [(2, 83), (2, 74), (0, seG w 2 (w 83 4) (w 83 5) (w 83 6) j), (0, ((j : Nat) : Int))]) (st' := [(0, ((j : Nat) : Int)), (2, 74)]) (w' := w) (n' := 142) rfl ?_
        refine qG.call (t := 26) (na := 2) (sk := 1) (md := 1) (ls1 := [(2, 74), (0, ((j : Nat) : Int))]) (r1 := []) rfl rfl rfl rfl rfl (K_sideOf74 (Nat.zero_le _) j (by omega) w hI hE) ?_
        rintro _ w7 _ ⟨rfl, hw7, rfl⟩
        rw [hw7]
        show qG none (d + 1) 113 26 [(2, 83), (2, 74), (0, seG w 2 (w 83 4) (w 83 5) (w 83 6) j), (0, ((j : Nat) : Int))] [(0, w 97 (10 * 2 + j))] w 142 Q9
        refine qG.blk 2 (pc' := 30) (ls' := [(2, 83), (2, 74), (0, seG w 2 (w 83 4) (w 83 5) (w 83 6) j), (0, ((j : Nat) : Int))]) (st' := [(0, w 83 6), (0, w 97 (10 * 2 + j))]) (w' := w) (n' := 142) rfl ?_
        refine qG.br (P := w 97 (10 * 2 + j) = w 83 6) (pc1 := 33) (pc2 := 54) (st1 := []) rfl (fun hfr => ?_) (fun hfr => ?_)
        · skip
          refine qG.blk 6 (pc' := 41) (ls' := [(2, 83), (2, 74), (0, seG w 2 (w 83 4) (w 83 5) (w 83 6) j), (0, ((j : Nat) : Int))]) (st' := [(0, w 83 5), (0, ((j : Nat) : Int)), (0, ((j : Nat) : Int)), (2, 74), (0, seG w 2 (w 83 4) (w 83 5) (w 83 6) j)]) (w' := w) (n' := 142) rfl ?_
          refine qG.br (P := ((j : Nat) : Int) = w 83 5) (pc1 := 44) (pc2 := 48) (st1 := [(0, ((j : Nat) : Int)), (2, 74), (0, seG w 2 (w 83 4) (w 83 5) (w 83 6) j)]) rfl (fun hcd => ?_) (fun hcd => ?_)
          · skip
            refine qG.blk 2 (pc' := 49) (ls' := [(2, 83), (2, 74), (0, seG w 2 (w 83 4) (w 83 5) (w 83 6) j), (0, ((j : Nat) : Int))]) (st' := [(0, 1), (0, ((j : Nat) : Int)), (2, 74), (0, seG w 2 (w 83 4) (w 83 5) (w 83 6) j)]) (w' := w) (n' := 142) rfl ?_
            refine qG.call (t := 27) (na := 3) (sk := 1) (md := 1) (ls1 := [(2, 74), (0, ((j : Nat) : Int)), (0, 1), (9, 0), (9, 0)]) (r1 := [(0, seG w 2 (w 83 4) (w 83 5) (w 83 6) j)]) rfl rfl rfl rfl rfl (K_shown74 (Nat.zero_le _) j (1) w hI hK hE) ?_
            rintro _ w7 _ ⟨rfl, hw7, rfl⟩
            rw [hw7, show shD w 2 j (1) = thrF w 2 j (1) from if_pos (by omega)]
            show qG none (d + 1) 113 52 [(2, 83), (2, 74), (0, seG w 2 (w 83 4) (w 83 5) (w 83 6) j), (0, ((j : Nat) : Int))] [(0, thrF w 2 j (1)), (0, seG w 2 (w 83 4) (w 83 5) (w 83 6) j)] w 142 Q9
            refine qG.blk 3 (pc' := 57) (ls' := [(2, 83), (2, 74), (0, qor (seG w 2 (w 83 4) (w 83 5) (w 83 6) j) (thrF w 2 j (1))), (0, wrp (((j : Nat) : Int) + 1))]) (st' := []) (w' := w) (n' := 142) rfl ?_
            rw [show wrp (((j : Nat) : Int) + 1) = ((j + 1 : Nat) : Int) from wrp_id (by omega) (by omega)]
            refine qG.blk 1 (pc' := 4) (ls' := [(2, 83), (2, 74), (0, qor (seG w 2 (w 83 4) (w 83 5) (w 83 6) j) (thrF w 2 j (1))), (0, ((j + 1 : Nat) : Int))]) (st' := []) (w' := w) (n' := 142) rfl ?_
            have e9 : seG w 2 (w 83 4) (w 83 5) (w 83 6) (j + 1) = qor (seG w 2 (w 83 4) (w 83 5) (w 83 6) j) (thrF w 2 j (1)) := by rw [seG_s]; first | (rw [if_pos hb1, if_pos hfr, if_pos hcd]; done) | (rw [if_pos hb1, if_pos hfr, if_neg hcd]; done) | (rw [if_pos hb1, if_neg hfr]; done) | (rw [if_neg hb1]; done)
            exact e9 ▸ ih4 _ (by omega) (j + 1) rfl (by omega)
          · skip
            refine qG.blk 1 (pc' := 49) (ls' := [(2, 83), (2, 74), (0, seG w 2 (w 83 4) (w 83 5) (w 83 6) j), (0, ((j : Nat) : Int))]) (st' := [(0, 0), (0, ((j : Nat) : Int)), (2, 74), (0, seG w 2 (w 83 4) (w 83 5) (w 83 6) j)]) (w' := w) (n' := 142) rfl ?_
            refine qG.call (t := 27) (na := 3) (sk := 1) (md := 1) (ls1 := [(2, 74), (0, ((j : Nat) : Int)), (0, 0), (9, 0), (9, 0)]) (r1 := [(0, seG w 2 (w 83 4) (w 83 5) (w 83 6) j)]) rfl rfl rfl rfl rfl (K_shown74 (Nat.zero_le _) j (0) w hI hK hE) ?_
            rintro _ w7 _ ⟨rfl, hw7, rfl⟩
            rw [hw7, show shD w 2 j (0) = thrF w 2 j (0) from if_pos (by omega)]
            show qG none (d + 1) 113 52 [(2, 83), (2, 74), (0, seG w 2 (w 83 4) (w 83 5) (w 83 6) j), (0, ((j : Nat) : Int))] [(0, thrF w 2 j (0)), (0, seG w 2 (w 83 4) (w 83 5) (w 83 6) j)] w 142 Q9
            refine qG.blk 3 (pc' := 57) (ls' := [(2, 83), (2, 74), (0, qor (seG w 2 (w 83 4) (w 83 5) (w 83 6) j) (thrF w 2 j (0))), (0, wrp (((j : Nat) : Int) + 1))]) (st' := []) (w' := w) (n' := 142) rfl ?_
            rw [show wrp (((j : Nat) : Int) + 1) = ((j + 1 : Nat) : Int) from wrp_id (by omega) (by omega)]
            refine qG.blk 1 (pc' := 4) (ls' := [(2, 83), (2, 74), (0, qor (seG w 2 (w 83 4) (w 83 5) (w 83 6) j) (thrF w 2 j (0))), (0, ((j + 1 : Nat) : Int))]) (st' := []) (w' := w) (n' := 142) rfl ?_
            have e9 : seG w 2 (w 83 4) (w 83 5) (w 83 6) (j + 1) = qor (seG w 2 (w 83 4) (w 83 5) (w 83 6) j) (thrF w 2 j (0)) := by rw [seG_s]; first | (rw [if_pos hb1, if_pos hfr, if_pos hcd]; done) | (rw [if_pos hb1, if_pos hfr, if_neg hcd]; done) | (rw [if_pos hb1, if_neg hfr]; done) | (rw [if_neg hb1]; done)
            exact e9 ▸ ih4 _ (by omega) (j + 1) rfl (by omega)
        · skip
          refine qG.blk 1 (pc' := 57) (ls' := [(2, 83), (2, 74), (0, seG w 2 (w 83 4) (w 83 5) (w 83 6) j), (0, wrp (((j : Nat) : Int) + 1))]) (st' := []) (w' := w) (n' := 142) rfl ?_
          rw [show wrp (((j : Nat) : Int) + 1) = ((j + 1 : Nat) : Int) from wrp_id (by omega) (by omega)]
          refine qG.blk 1 (pc' := 4) (ls' := [(2, 83), (2, 74), (0, seG w 2 (w 83 4) (w 83 5) (w 83 6) j), (0, ((j + 1 : Nat) : Int))]) (st' := []) (w' := w) (n' := 142) rfl ?_
          have e9 : seG w 2 (w 83 4) (w 83 5) (w 83 6) (j + 1) = seG w 2 (w 83 4) (w 83 5) (w 83 6) j := by rw [seG_s]; first | (rw [if_pos hb1, if_pos hfr, if_pos hcd]; done) | (rw [if_pos hb1, if_pos hfr, if_neg hcd]; done) | (rw [if_pos hb1, if_neg hfr]; done) | (rw [if_neg hb1]; done)
          exact e9 ▸ ih4 _ (by omega) (j + 1) rfl (by omega)
    · skip
      refine qG.blk 1 (pc' := 61) (ls' := [(2, 83), (2, 74), (0, seG w 2 (w 83 4) (w 83 5) (w 83 6) j), (0, ((j : Nat) : Int))]) (st' := [(0, seG w 2 (w 83 4) (w 83 5) (w 83 6) j)]) (w' := w) (n' := 142) rfl ?_
      refine qG.ret rfl rfl ?_
      subst hQ9
      exact ⟨by rw [show j = 10 by omega], rfl, rfl⟩
  exact L4 _ (0) rfl (by omega)
theorem K_view87_64 {d : Nat} (hd : 1 ≤ d) (m : Nat) (hm : m < 1024) (w : qW) (hI : yInv zgf zga zra zSp w) (ho : w 87 4 = (m : Int)) (hK : w 64 0 = w 96 0) (hE : JE w) : qG none d 113 0 [(2, 87), (2, 64), (9, 0), (9, 0)] [] w 142 (fun (r : qV) (w1 : qW) (n1 : Nat) => r = (0, seG w 0 (w 87 4) (w 87 5) (w 87 6) 10) ∧ w1 = w ∧ n1 = 142) := by
  generalize hQ9 : (fun (r : qV) (w1 : qW) (n1 : Nat) => r = (0, seG w 0 (w 87 4) (w 87 5) (w 87 6) 10) ∧ w1 = w ∧ n1 = 142) = Q9
  obtain ⟨d, rfl⟩ : ∃ d9, d = d9 + 1 := ⟨d - 1, by omega⟩
  refine qG.blk 4 (pc' := 4) (ls' := [(2, 87), (2, 64), (0, 0), (0, 0)]) (st' := []) (w' := w) (n' := 142) rfl ?_
  have L4 : ∀ (m9 : Nat) (j : Nat), 10 - j = m9 → (j ≤ 10) → qG none (d + 1) 113 4 [(2, 87), (2, 64), (0, seG w 0 (w 87 4) (w 87 5) (w 87 6) j), (0, ((j : Nat) : Int))] [] w 142 Q9 := by
    intro m9
    induction m9 using Nat.strongRecOn with
    | ind m9 ih4 =>
    intro j hm4 hI4
    refine qG.blk 2 (pc' := 7) (ls' := [(2, 87), (2, 64), (0, seG w 0 (w 87 4) (w 87 5) (w 87 6) j), (0, ((j : Nat) : Int))]) (st' := [(0, 10), (0, ((j : Nat) : Int))]) (w' := w) (n' := 142) rfl ?_
    refine qG.br (P := ((j : Nat) : Int) < 10) (pc1 := 10) (pc2 := 60) (st1 := []) rfl (fun hj => ?_) (fun hj => ?_)
    · skip
      refine qG.blk 6 (pc' := 18) (ls' := [(2, 87), (2, 64), (0, seG w 0 (w 87 4) (w 87 5) (w 87 6) j), (0, ((j : Nat) : Int))]) (st' := [(0, qand (qush (w 87 4) ((j : Nat) : Int)) 1)]) (w' := w) (n' := 142) rfl ?_
      refine qG.br (P := qand (qush (w 87 4) ((j : Nat) : Int)) 1 = 0) (pc1 := 54) (pc2 := 21) (st1 := []) rfl (fun hbit => ?_) (fun hbit => ?_)
      · skip
        have hb1 : ¬ qand (qshr (w 87 4) ((j : Nat) : Int)) 1 = 1 := fun z => by rw [ho, ← ushr_b hm (by omega), ← ho, hbit] at z; exact absurd z (by decide)
        refine qG.blk 1 (pc' := 57) (ls' := [(2, 87), (2, 64), (0, seG w 0 (w 87 4) (w 87 5) (w 87 6) j), (0, wrp (((j : Nat) : Int) + 1))]) (st' := []) (w' := w) (n' := 142) rfl ?_
        rw [show wrp (((j : Nat) : Int) + 1) = ((j + 1 : Nat) : Int) from wrp_id (by omega) (by omega)]
        refine qG.blk 1 (pc' := 4) (ls' := [(2, 87), (2, 64), (0, seG w 0 (w 87 4) (w 87 5) (w 87 6) j), (0, ((j + 1 : Nat) : Int))]) (st' := []) (w' := w) (n' := 142) rfl ?_
        have e9 : seG w 0 (w 87 4) (w 87 5) (w 87 6) (j + 1) = seG w 0 (w 87 4) (w 87 5) (w 87 6) j := by rw [seG_s]; first | (rw [if_pos hb1, if_pos hfr, if_pos hcd]; done) | (rw [if_pos hb1, if_pos hfr, if_neg hcd]; done) | (rw [if_pos hb1, if_neg hfr]; done) | (rw [if_neg hb1]; done)
        exact e9 ▸ ih4 _ (by omega) (j + 1) rfl (by omega)
      · skip
        have hb1 : qand (qshr (w 87 4) ((j : Nat) : Int)) 1 = 1 := by rw [ho, ← ushr_b hm (by omega), ← ho]; have q := qand_1 (qush (w 87 4) ((j : Nat) : Int)); omega
        refine qG.blk 2 (pc' := 23) (ls' := [(2, 87), (2, 64), (0, seG w 0 (w 87 4) (w 87 5) (w 87 6) j), (0, ((j : Nat) : Int))]) (st' := [(0, ((j : Nat) : Int)), (2, 64)]) (w' := w) (n' := 142) rfl ?_
        refine qG.call (t := 26) (na := 2) (sk := 1) (md := 1) (ls1 := [(2, 64), (0, ((j : Nat) : Int))]) (r1 := []) rfl rfl rfl rfl rfl (K_sideOf64 (Nat.zero_le _) j (by omega) w hI hE) ?_
        rintro _ w7 _ ⟨rfl, hw7, rfl⟩
        rw [hw7]
        show qG none (d + 1) 113 26 [(2, 87), (2, 64), (0, seG w 0 (w 87 4) (w 87 5) (w 87 6) j), (0, ((j : Nat) : Int))] [(0, w 97 (10 * 0 + j))] w 142 Q9
        refine qG.blk 2 (pc' := 30) (ls' := [(2, 87), (2, 64), (0, seG w 0 (w 87 4) (w 87 5) (w 87 6) j), (0, ((j : Nat) : Int))]) (st' := [(0, w 87 6), (0, w 97 (10 * 0 + j))]) (w' := w) (n' := 142) rfl ?_
        refine qG.br (P := w 97 (10 * 0 + j) = w 87 6) (pc1 := 33) (pc2 := 54) (st1 := []) rfl (fun hfr => ?_) (fun hfr => ?_)
        · skip
          refine qG.blk 6 (pc' := 41) (ls' := [(2, 87), (2, 64), (0, seG w 0 (w 87 4) (w 87 5) (w 87 6) j), (0, ((j : Nat) : Int))]) (st' := [(0, w 87 5), (0, ((j : Nat) : Int)), (0, ((j : Nat) : Int)), (2, 64), (0, seG w 0 (w 87 4) (w 87 5) (w 87 6) j)]) (w' := w) (n' := 142) rfl ?_
          refine qG.br (P := ((j : Nat) : Int) = w 87 5) (pc1 := 44) (pc2 := 48) (st1 := [(0, ((j : Nat) : Int)), (2, 64), (0, seG w 0 (w 87 4) (w 87 5) (w 87 6) j)]) rfl (fun hcd => ?_) (fun hcd => ?_)
          · skip
            refine qG.blk 2 (pc' := 49) (ls' := [(2, 87), (2, 64), (0, seG w 0 (w 87 4) (w 87 5) (w 87 6) j), (0, ((j : Nat) : Int))]) (st' := [(0, 1), (0, ((j : Nat) : Int)), (2, 64), (0, seG w 0 (w 87 4) (w 87 5) (w 87 6) j)]) (w' := w) (n' := 142) rfl ?_
            refine qG.call (t := 27) (na := 3) (sk := 1) (md := 1) (ls1 := [(2, 64), (0, ((j : Nat) : Int)), (0, 1), (9, 0), (9, 0)]) (r1 := [(0, seG w 0 (w 87 4) (w 87 5) (w 87 6) j)]) rfl rfl rfl rfl rfl (K_shown64 (Nat.zero_le _) j (1) w hI hK hE) ?_
            rintro _ w7 _ ⟨rfl, hw7, rfl⟩
            rw [hw7, show shD w 0 j (1) = thrF w 0 j (1) from if_pos (by omega)]
            show qG none (d + 1) 113 52 [(2, 87), (2, 64), (0, seG w 0 (w 87 4) (w 87 5) (w 87 6) j), (0, ((j : Nat) : Int))] [(0, thrF w 0 j (1)), (0, seG w 0 (w 87 4) (w 87 5) (w 87 6) j)] w 142 Q9
            refine qG.blk 3 (pc' := 57) (ls' := [(2, 87), (2, 64), (0, qor (seG w 0 (w 87 4) (w 87 5) (w 87 6) j) (thrF w 0 j (1))), (0, wrp (((j : Nat) : Int) + 1))]) (st' := []) (w' := w) (n' := 142) rfl ?_
            rw [show wrp (((j : Nat) : Int) + 1) = ((j + 1 : Nat) : Int) from wrp_id (by omega) (by omega)]
            refine qG.blk 1 (pc' := 4) (ls' := [(2, 87), (2, 64), (0, qor (seG w 0 (w 87 4) (w 87 5) (w 87 6) j) (thrF w 0 j (1))), (0, ((j + 1 : Nat) : Int))]) (st' := []) (w' := w) (n' := 142) rfl ?_
            have e9 : seG w 0 (w 87 4) (w 87 5) (w 87 6) (j + 1) = qor (seG w 0 (w 87 4) (w 87 5) (w 87 6) j) (thrF w 0 j (1)) := by rw [seG_s]; first | (rw [if_pos hb1, if_pos hfr, if_pos hcd]; done) | (rw [if_pos hb1, if_pos hfr, if_neg hcd]; done) | (rw [if_pos hb1, if_neg hfr]; done) | (rw [if_neg hb1]; done)
            exact e9 ▸ ih4 _ (by omega) (j + 1) rfl (by omega)
          · skip
            refine qG.blk 1 (pc' := 49) (ls' := [(2, 87), (2, 64), (0, seG w 0 (w 87 4) (w 87 5) (w 87 6) j), (0, ((j : Nat) : Int))]) (st' := [(0, 0), (0, ((j : Nat) : Int)), (2, 64), (0, seG w 0 (w 87 4) (w 87 5) (w 87 6) j)]) (w' := w) (n' := 142) rfl ?_
            refine qG.call (t := 27) (na := 3) (sk := 1) (md := 1) (ls1 := [(2, 64), (0, ((j : Nat) : Int)), (0, 0), (9, 0), (9, 0)]) (r1 := [(0, seG w 0 (w 87 4) (w 87 5) (w 87 6) j)]) rfl rfl rfl rfl rfl (K_shown64 (Nat.zero_le _) j (0) w hI hK hE) ?_
            rintro _ w7 _ ⟨rfl, hw7, rfl⟩
            rw [hw7, show shD w 0 j (0) = thrF w 0 j (0) from if_pos (by omega)]
            show qG none (d + 1) 113 52 [(2, 87), (2, 64), (0, seG w 0 (w 87 4) (w 87 5) (w 87 6) j), (0, ((j : Nat) : Int))] [(0, thrF w 0 j (0)), (0, seG w 0 (w 87 4) (w 87 5) (w 87 6) j)] w 142 Q9
            refine qG.blk 3 (pc' := 57) (ls' := [(2, 87), (2, 64), (0, qor (seG w 0 (w 87 4) (w 87 5) (w 87 6) j) (thrF w 0 j (0))), (0, wrp (((j : Nat) : Int) + 1))]) (st' := []) (w' := w) (n' := 142) rfl ?_
            rw [show wrp (((j : Nat) : Int) + 1) = ((j + 1 : Nat) : Int) from wrp_id (by omega) (by omega)]
            refine qG.blk 1 (pc' := 4) (ls' := [(2, 87), (2, 64), (0, qor (seG w 0 (w 87 4) (w 87 5) (w 87 6) j) (thrF w 0 j (0))), (0, ((j + 1 : Nat) : Int))]) (st' := []) (w' := w) (n' := 142) rfl ?_
            have e9 : seG w 0 (w 87 4) (w 87 5) (w 87 6) (j + 1) = qor (seG w 0 (w 87 4) (w 87 5) (w 87 6) j) (thrF w 0 j (0)) := by rw [seG_s]; first | (rw [if_pos hb1, if_pos hfr, if_pos hcd]; done) | (rw [if_pos hb1, if_pos hfr, if_neg hcd]; done) | (rw [if_pos hb1, if_neg hfr]; done) | (rw [if_neg hb1]; done)
            exact e9 ▸ ih4 _ (by omega) (j + 1) rfl (by omega)
        · skip
          refine qG.blk 1 (pc' := 57) (ls' := [(2, 87), (2, 64), (0, seG w 0 (w 87 4) (w 87 5) (w 87 6) j), (0, wrp (((j : Nat) : Int) + 1))]) (st' := []) (w' := w) (n' := 142) rfl ?_
          rw [show wrp (((j : Nat) : Int) + 1) = ((j + 1 : Nat) : Int) from wrp_id (by omega) (by omega)]
          refine qG.blk 1 (pc' := 4) (ls' := [(2, 87), (2, 64), (0, seG w 0 (w 87 4) (w 87 5) (w 87 6) j), (0, ((j + 1 : Nat) : Int))]) (st' := []) (w' := w) (n' := 142) rfl ?_
          have e9 : seG w 0 (w 87 4) (w 87 5) (w 87 6) (j + 1) = seG w 0 (w 87 4) (w 87 5) (w 87 6) j := by rw [seG_s]; first | (rw [if_pos hb1, if_pos hfr, if_pos hcd]; done) | (rw [if_pos hb1, if_pos hfr, if_neg hcd]; done) | (rw [if_pos hb1, if_neg hfr]; done) | (rw [if_neg hb1]; done)
          exact e9 ▸ ih4 _ (by omega) (j + 1) rfl (by omega)
    · skip
      refine qG.blk 1 (pc' := 61) (ls' := [(2, 87), (2, 64), (0, seG w 0 (w 87 4) (w 87 5) (w 87 6) j), (0, ((j : Nat) : Int))]) (st' := [(0, seG w 0 (w 87 4) (w 87 5) (w 87 6) j)]) (w' := w) (n' := 142) rfl ?_
      refine qG.ret rfl rfl ?_
      subst hQ9
      exact ⟨by rw [show j = 10 by omega], rfl, rfl⟩
  exact L4 _ (0) rfl (by omega)
theorem K_view87_69 {d : Nat} (hd : 1 ≤ d) (m : Nat) (hm : m < 1024) (w : qW) (hI : yInv zgf zga zra zSp w) (ho : w 87 4 = (m : Int)) (hK : w 69 0 = w 96 1) (hE : JE w) : qG none d 113 0 [(2, 87), (2, 69), (9, 0), (9, 0)] [] w 142 (fun (r : qV) (w1 : qW) (n1 : Nat) => r = (0, seG w 1 (w 87 4) (w 87 5) (w 87 6) 10) ∧ w1 = w ∧ n1 = 142) := by
  generalize hQ9 : (fun (r : qV) (w1 : qW) (n1 : Nat) => r = (0, seG w 1 (w 87 4) (w 87 5) (w 87 6) 10) ∧ w1 = w ∧ n1 = 142) = Q9
  obtain ⟨d, rfl⟩ : ∃ d9, d = d9 + 1 := ⟨d - 1, by omega⟩
  refine qG.blk 4 (pc' := 4) (ls' := [(2, 87), (2, 69), (0, 0), (0, 0)]) (st' := []) (w' := w) (n' := 142) rfl ?_
  have L4 : ∀ (m9 : Nat) (j : Nat), 10 - j = m9 → (j ≤ 10) → qG none (d + 1) 113 4 [(2, 87), (2, 69), (0, seG w 1 (w 87 4) (w 87 5) (w 87 6) j), (0, ((j : Nat) : Int))] [] w 142 Q9 := by
    intro m9
    induction m9 using Nat.strongRecOn with
    | ind m9 ih4 =>
    intro j hm4 hI4
    refine qG.blk 2 (pc' := 7) (ls' := [(2, 87), (2, 69), (0, seG w 1 (w 87 4) (w 87 5) (w 87 6) j), (0, ((j : Nat) : Int))]) (st' := [(0, 10), (0, ((j : Nat) : Int))]) (w' := w) (n' := 142) rfl ?_
    refine qG.br (P := ((j : Nat) : Int) < 10) (pc1 := 10) (pc2 := 60) (st1 := []) rfl (fun hj => ?_) (fun hj => ?_)
    · skip
      refine qG.blk 6 (pc' := 18) (ls' := [(2, 87), (2, 69), (0, seG w 1 (w 87 4) (w 87 5) (w 87 6) j), (0, ((j : Nat) : Int))]) (st' := [(0, qand (qush (w 87 4) ((j : Nat) : Int)) 1)]) (w' := w) (n' := 142) rfl ?_
      refine qG.br (P := qand (qush (w 87 4) ((j : Nat) : Int)) 1 = 0) (pc1 := 54) (pc2 := 21) (st1 := []) rfl (fun hbit => ?_) (fun hbit => ?_)
      · skip
        have hb1 : ¬ qand (qshr (w 87 4) ((j : Nat) : Int)) 1 = 1 := fun z => by rw [ho, ← ushr_b hm (by omega), ← ho, hbit] at z; exact absurd z (by decide)
        refine qG.blk 1 (pc' := 57) (ls' := [(2, 87), (2, 69), (0, seG w 1 (w 87 4) (w 87 5) (w 87 6) j), (0, wrp (((j : Nat) : Int) + 1))]) (st' := []) (w' := w) (n' := 142) rfl ?_
        rw [show wrp (((j : Nat) : Int) + 1) = ((j + 1 : Nat) : Int) from wrp_id (by omega) (by omega)]
        refine qG.blk 1 (pc' := 4) (ls' := [(2, 87), (2, 69), (0, seG w 1 (w 87 4) (w 87 5) (w 87 6) j), (0, ((j + 1 : Nat) : Int))]) (st' := []) (w' := w) (n' := 142) rfl ?_
        have e9 : seG w 1 (w 87 4) (w 87 5) (w 87 6) (j + 1) = seG w 1 (w 87 4) (w 87 5) (w 87 6) j := by rw [seG_s]; first | (rw [if_pos hb1, if_pos hfr, if_pos hcd]; done) | (rw [if_pos hb1, if_pos hfr, if_neg hcd]; done) | (rw [if_pos hb1, if_neg hfr]; done) | (rw [if_neg hb1]; done)
        exact e9 ▸ ih4 _ (by omega) (j + 1) rfl (by omega)
      · skip
        have hb1 : qand (qshr (w 87 4) ((j : Nat) : Int)) 1 = 1 := by rw [ho, ← ushr_b hm (by omega), ← ho]; have q := qand_1 (qush (w 87 4) ((j : Nat) : Int)); omega
        refine qG.blk 2 (pc' := 23) (ls' := [(2, 87), (2, 69), (0, seG w 1 (w 87 4) (w 87 5) (w 87 6) j), (0, ((j : Nat) : Int))]) (st' := [(0, ((j : Nat) : Int)), (2, 69)]) (w' := w) (n' := 142) rfl ?_
        refine qG.call (t := 26) (na := 2) (sk := 1) (md := 1) (ls1 := [(2, 69), (0, ((j : Nat) : Int))]) (r1 := []) rfl rfl rfl rfl rfl (K_sideOf69 (Nat.zero_le _) j (by omega) w hI hE) ?_
        rintro _ w7 _ ⟨rfl, hw7, rfl⟩
        rw [hw7]
        show qG none (d + 1) 113 26 [(2, 87), (2, 69), (0, seG w 1 (w 87 4) (w 87 5) (w 87 6) j), (0, ((j : Nat) : Int))] [(0, w 97 (10 * 1 + j))] w 142 Q9
        refine qG.blk 2 (pc' := 30) (ls' := [(2, 87), (2, 69), (0, seG w 1 (w 87 4) (w 87 5) (w 87 6) j), (0, ((j : Nat) : Int))]) (st' := [(0, w 87 6), (0, w 97 (10 * 1 + j))]) (w' := w) (n' := 142) rfl ?_
        refine qG.br (P := w 97 (10 * 1 + j) = w 87 6) (pc1 := 33) (pc2 := 54) (st1 := []) rfl (fun hfr => ?_) (fun hfr => ?_)
        · skip
          refine qG.blk 6 (pc' := 41) (ls' := [(2, 87), (2, 69), (0, seG w 1 (w 87 4) (w 87 5) (w 87 6) j), (0, ((j : Nat) : Int))]) (st' := [(0, w 87 5), (0, ((j : Nat) : Int)), (0, ((j : Nat) : Int)), (2, 69), (0, seG w 1 (w 87 4) (w 87 5) (w 87 6) j)]) (w' := w) (n' := 142) rfl ?_
          refine qG.br (P := ((j : Nat) : Int) = w 87 5) (pc1 := 44) (pc2 := 48) (st1 := [(0, ((j : Nat) : Int)), (2, 69), (0, seG w 1 (w 87 4) (w 87 5) (w 87 6) j)]) rfl (fun hcd => ?_) (fun hcd => ?_)
          · skip
            refine qG.blk 2 (pc' := 49) (ls' := [(2, 87), (2, 69), (0, seG w 1 (w 87 4) (w 87 5) (w 87 6) j), (0, ((j : Nat) : Int))]) (st' := [(0, 1), (0, ((j : Nat) : Int)), (2, 69), (0, seG w 1 (w 87 4) (w 87 5) (w 87 6) j)]) (w' := w) (n' := 142) rfl ?_
            refine qG.call (t := 27) (na := 3) (sk := 1) (md := 1) (ls1 := [(2, 69), (0, ((j : Nat) : Int)), (0, 1), (9, 0), (9, 0)]) (r1 := [(0, seG w 1 (w 87 4) (w 87 5) (w 87 6) j)]) rfl rfl rfl rfl rfl (K_shown69 (Nat.zero_le _) j (1) w hI hK hE) ?_
            rintro _ w7 _ ⟨rfl, hw7, rfl⟩
            rw [hw7, show shD w 1 j (1) = thrF w 1 j (1) from if_pos (by omega)]
            show qG none (d + 1) 113 52 [(2, 87), (2, 69), (0, seG w 1 (w 87 4) (w 87 5) (w 87 6) j), (0, ((j : Nat) : Int))] [(0, thrF w 1 j (1)), (0, seG w 1 (w 87 4) (w 87 5) (w 87 6) j)] w 142 Q9
            refine qG.blk 3 (pc' := 57) (ls' := [(2, 87), (2, 69), (0, qor (seG w 1 (w 87 4) (w 87 5) (w 87 6) j) (thrF w 1 j (1))), (0, wrp (((j : Nat) : Int) + 1))]) (st' := []) (w' := w) (n' := 142) rfl ?_
            rw [show wrp (((j : Nat) : Int) + 1) = ((j + 1 : Nat) : Int) from wrp_id (by omega) (by omega)]
            refine qG.blk 1 (pc' := 4) (ls' := [(2, 87), (2, 69), (0, qor (seG w 1 (w 87 4) (w 87 5) (w 87 6) j) (thrF w 1 j (1))), (0, ((j + 1 : Nat) : Int))]) (st' := []) (w' := w) (n' := 142) rfl ?_
            have e9 : seG w 1 (w 87 4) (w 87 5) (w 87 6) (j + 1) = qor (seG w 1 (w 87 4) (w 87 5) (w 87 6) j) (thrF w 1 j (1)) := by rw [seG_s]; first | (rw [if_pos hb1, if_pos hfr, if_pos hcd]; done) | (rw [if_pos hb1, if_pos hfr, if_neg hcd]; done) | (rw [if_pos hb1, if_neg hfr]; done) | (rw [if_neg hb1]; done)
            exact e9 ▸ ih4 _ (by omega) (j + 1) rfl (by omega)
          · skip
            refine qG.blk 1 (pc' := 49) (ls' := [(2, 87), (2, 69), (0, seG w 1 (w 87 4) (w 87 5) (w 87 6) j), (0, ((j : Nat) : Int))]) (st' := [(0, 0), (0, ((j : Nat) : Int)), (2, 69), (0, seG w 1 (w 87 4) (w 87 5) (w 87 6) j)]) (w' := w) (n' := 142) rfl ?_
            refine qG.call (t := 27) (na := 3) (sk := 1) (md := 1) (ls1 := [(2, 69), (0, ((j : Nat) : Int)), (0, 0), (9, 0), (9, 0)]) (r1 := [(0, seG w 1 (w 87 4) (w 87 5) (w 87 6) j)]) rfl rfl rfl rfl rfl (K_shown69 (Nat.zero_le _) j (0) w hI hK hE) ?_
            rintro _ w7 _ ⟨rfl, hw7, rfl⟩
            rw [hw7, show shD w 1 j (0) = thrF w 1 j (0) from if_pos (by omega)]
            show qG none (d + 1) 113 52 [(2, 87), (2, 69), (0, seG w 1 (w 87 4) (w 87 5) (w 87 6) j), (0, ((j : Nat) : Int))] [(0, thrF w 1 j (0)), (0, seG w 1 (w 87 4) (w 87 5) (w 87 6) j)] w 142 Q9
            refine qG.blk 3 (pc' := 57) (ls' := [(2, 87), (2, 69), (0, qor (seG w 1 (w 87 4) (w 87 5) (w 87 6) j) (thrF w 1 j (0))), (0, wrp (((j : Nat) : Int) + 1))]) (st' := []) (w' := w) (n' := 142) rfl ?_
            rw [show wrp (((j : Nat) : Int) + 1) = ((j + 1 : Nat) : Int) from wrp_id (by omega) (by omega)]
            refine qG.blk 1 (pc' := 4) (ls' := [(2, 87), (2, 69), (0, qor (seG w 1 (w 87 4) (w 87 5) (w 87 6) j) (thrF w 1 j (0))), (0, ((j + 1 : Nat) : Int))]) (st' := []) (w' := w) (n' := 142) rfl ?_
            have e9 : seG w 1 (w 87 4) (w 87 5) (w 87 6) (j + 1) = qor (seG w 1 (w 87 4) (w 87 5) (w 87 6) j) (thrF w 1 j (0)) := by rw [seG_s]; first | (rw [if_pos hb1, if_pos hfr, if_pos hcd]; done) | (rw [if_pos hb1, if_pos hfr, if_neg hcd]; done) | (rw [if_pos hb1, if_neg hfr]; done) | (rw [if_neg hb1]; done)
            exact e9 ▸ ih4 _ (by omega) (j + 1) rfl (by omega)
        · skip
          refine qG.blk 1 (pc' := 57) (ls' := [(2, 87), (2, 69), (0, seG w 1 (w 87 4) (w 87 5) (w 87 6) j), (0, wrp (((j : Nat) : Int) + 1))]) (st' := []) (w' := w) (n' := 142) rfl ?_
          rw [show wrp (((j : Nat) : Int) + 1) = ((j + 1 : Nat) : Int) from wrp_id (by omega) (by omega)]
          refine qG.blk 1 (pc' := 4) (ls' := [(2, 87), (2, 69), (0, seG w 1 (w 87 4) (w 87 5) (w 87 6) j), (0, ((j + 1 : Nat) : Int))]) (st' := []) (w' := w) (n' := 142) rfl ?_
          have e9 : seG w 1 (w 87 4) (w 87 5) (w 87 6) (j + 1) = seG w 1 (w 87 4) (w 87 5) (w 87 6) j := by rw [seG_s]; first | (rw [if_pos hb1, if_pos hfr, if_pos hcd]; done) | (rw [if_pos hb1, if_pos hfr, if_neg hcd]; done) | (rw [if_pos hb1, if_neg hfr]; done) | (rw [if_neg hb1]; done)
          exact e9 ▸ ih4 _ (by omega) (j + 1) rfl (by omega)
    · skip
      refine qG.blk 1 (pc' := 61) (ls' := [(2, 87), (2, 69), (0, seG w 1 (w 87 4) (w 87 5) (w 87 6) j), (0, ((j : Nat) : Int))]) (st' := [(0, seG w 1 (w 87 4) (w 87 5) (w 87 6) j)]) (w' := w) (n' := 142) rfl ?_
      refine qG.ret rfl rfl ?_
      subst hQ9
      exact ⟨by rw [show j = 10 by omega], rfl, rfl⟩
  exact L4 _ (0) rfl (by omega)
theorem K_view87_74 {d : Nat} (hd : 1 ≤ d) (m : Nat) (hm : m < 1024) (w : qW) (hI : yInv zgf zga zra zSp w) (ho : w 87 4 = (m : Int)) (hK : w 74 0 = w 96 2) (hE : JE w) : qG none d 113 0 [(2, 87), (2, 74), (9, 0), (9, 0)] [] w 142 (fun (r : qV) (w1 : qW) (n1 : Nat) => r = (0, seG w 2 (w 87 4) (w 87 5) (w 87 6) 10) ∧ w1 = w ∧ n1 = 142) := by
  generalize hQ9 : (fun (r : qV) (w1 : qW) (n1 : Nat) => r = (0, seG w 2 (w 87 4) (w 87 5) (w 87 6) 10) ∧ w1 = w ∧ n1 = 142) = Q9
  obtain ⟨d, rfl⟩ : ∃ d9, d = d9 + 1 := ⟨d - 1, by omega⟩
  refine qG.blk 4 (pc' := 4) (ls' := [(2, 87), (2, 74), (0, 0), (0, 0)]) (st' := []) (w' := w) (n' := 142) rfl ?_
  have L4 : ∀ (m9 : Nat) (j : Nat), 10 - j = m9 → (j ≤ 10) → qG none (d + 1) 113 4 [(2, 87), (2, 74), (0, seG w 2 (w 87 4) (w 87 5) (w 87 6) j), (0, ((j : Nat) : Int))] [] w 142 Q9 := by
    intro m9
    induction m9 using Nat.strongRecOn with
    | ind m9 ih4 =>
    intro j hm4 hI4
    refine qG.blk 2 (pc' := 7) (ls' := [(2, 87), (2, 74), (0, seG w 2 (w 87 4) (w 87 5) (w 87 6) j), (0, ((j : Nat) : Int))]) (st' := [(0, 10), (0, ((j : Nat) : Int))]) (w' := w) (n' := 142) rfl ?_
    refine qG.br (P := ((j : Nat) : Int) < 10) (pc1 := 10) (pc2 := 60) (st1 := []) rfl (fun hj => ?_) (fun hj => ?_)
    · skip
      refine qG.blk 6 (pc' := 18) (ls' := [(2, 87), (2, 74), (0, seG w 2 (w 87 4) (w 87 5) (w 87 6) j), (0, ((j : Nat) : Int))]) (st' := [(0, qand (qush (w 87 4) ((j : Nat) : Int)) 1)]) (w' := w) (n' := 142) rfl ?_
      refine qG.br (P := qand (qush (w 87 4) ((j : Nat) : Int)) 1 = 0) (pc1 := 54) (pc2 := 21) (st1 := []) rfl (fun hbit => ?_) (fun hbit => ?_)
      · skip
        have hb1 : ¬ qand (qshr (w 87 4) ((j : Nat) : Int)) 1 = 1 := fun z => by rw [ho, ← ushr_b hm (by omega), ← ho, hbit] at z; exact absurd z (by decide)
        refine qG.blk 1 (pc' := 57) (ls' := [(2, 87), (2, 74), (0, seG w 2 (w 87 4) (w 87 5) (w 87 6) j), (0, wrp (((j : Nat) : Int) + 1))]) (st' := []) (w' := w) (n' := 142) rfl ?_
        rw [show wrp (((j : Nat) : Int) + 1) = ((j + 1 : Nat) : Int) from wrp_id (by omega) (by omega)]
        refine qG.blk 1 (pc' := 4) (ls' := [(2, 87), (2, 74), (0, seG w 2 (w 87 4) (w 87 5) (w 87 6) j), (0, ((j + 1 : Nat) : Int))]) (st' := []) (w' := w) (n' := 142) rfl ?_
        have e9 : seG w 2 (w 87 4) (w 87 5) (w 87 6) (j + 1) = seG w 2 (w 87 4) (w 87 5) (w 87 6) j := by rw [seG_s]; first | (rw [if_pos hb1, if_pos hfr, if_pos hcd]; done) | (rw [if_pos hb1, if_pos hfr, if_neg hcd]; done) | (rw [if_pos hb1, if_neg hfr]; done) | (rw [if_neg hb1]; done)
        exact e9 ▸ ih4 _ (by omega) (j + 1) rfl (by omega)
      · skip
        have hb1 : qand (qshr (w 87 4) ((j : Nat) : Int)) 1 = 1 := by rw [ho, ← ushr_b hm (by omega), ← ho]; have q := qand_1 (qush (w 87 4) ((j : Nat) : Int)); omega
        refine qG.blk 2 (pc' := 23) (ls' := [(2, 87), (2, 74), (0, seG w 2 (w 87 4) (w 87 5) (w 87 6) j), (0, ((j : Nat) : Int))]) (st' := [(0, ((j : Nat) : Int)), (2, 74)]) (w' := w) (n' := 142) rfl ?_
        refine qG.call (t := 26) (na := 2) (sk := 1) (md := 1) (ls1 := [(2, 74), (0, ((j : Nat) : Int))]) (r1 := []) rfl rfl rfl rfl rfl (K_sideOf74 (Nat.zero_le _) j (by omega) w hI hE) ?_
        rintro _ w7 _ ⟨rfl, hw7, rfl⟩
        rw [hw7]
        show qG none (d + 1) 113 26 [(2, 87), (2, 74), (0, seG w 2 (w 87 4) (w 87 5) (w 87 6) j), (0, ((j : Nat) : Int))] [(0, w 97 (10 * 2 + j))] w 142 Q9
        refine qG.blk 2 (pc' := 30) (ls' := [(2, 87), (2, 74), (0, seG w 2 (w 87 4) (w 87 5) (w 87 6) j), (0, ((j : Nat) : Int))]) (st' := [(0, w 87 6), (0, w 97 (10 * 2 + j))]) (w' := w) (n' := 142) rfl ?_
        refine qG.br (P := w 97 (10 * 2 + j) = w 87 6) (pc1 := 33) (pc2 := 54) (st1 := []) rfl (fun hfr => ?_) (fun hfr => ?_)
        · skip
          refine qG.blk 6 (pc' := 41) (ls' := [(2, 87), (2, 74), (0, seG w 2 (w 87 4) (w 87 5) (w 87 6) j), (0, ((j : Nat) : Int))]) (st' := [(0, w 87 5), (0, ((j : Nat) : Int)), (0, ((j : Nat) : Int)), (2, 74), (0, seG w 2 (w 87 4) (w 87 5) (w 87 6) j)]) (w' := w) (n' := 142) rfl ?_
          refine qG.br (P := ((j : Nat) : Int) = w 87 5) (pc1 := 44) (pc2 := 48) (st1 := [(0, ((j : Nat) : Int)), (2, 74), (0, seG w 2 (w 87 4) (w 87 5) (w 87 6) j)]) rfl (fun hcd => ?_) (fun hcd => ?_)
          · skip
            refine qG.blk 2 (pc' := 49) (ls' := [(2, 87), (2, 74), (0, seG w 2 (w 87 4) (w 87 5) (w 87 6) j), (0, ((j : Nat) : Int))]) (st' := [(0, 1), (0, ((j : Nat) : Int)), (2, 74), (0, seG w 2 (w 87 4) (w 87 5) (w 87 6) j)]) (w' := w) (n' := 142) rfl ?_
            refine qG.call (t := 27) (na := 3) (sk := 1) (md := 1) (ls1 := [(2, 74), (0, ((j : Nat) : Int)), (0, 1), (9, 0), (9, 0)]) (r1 := [(0, seG w 2 (w 87 4) (w 87 5) (w 87 6) j)]) rfl rfl rfl rfl rfl (K_shown74 (Nat.zero_le _) j (1) w hI hK hE) ?_
            rintro _ w7 _ ⟨rfl, hw7, rfl⟩
            rw [hw7, show shD w 2 j (1) = thrF w 2 j (1) from if_pos (by omega)]
            show qG none (d + 1) 113 52 [(2, 87), (2, 74), (0, seG w 2 (w 87 4) (w 87 5) (w 87 6) j), (0, ((j : Nat) : Int))] [(0, thrF w 2 j (1)), (0, seG w 2 (w 87 4) (w 87 5) (w 87 6) j)] w 142 Q9
            refine qG.blk 3 (pc' := 57) (ls' := [(2, 87), (2, 74), (0, qor (seG w 2 (w 87 4) (w 87 5) (w 87 6) j) (thrF w 2 j (1))), (0, wrp (((j : Nat) : Int) + 1))]) (st' := []) (w' := w) (n' := 142) rfl ?_
            rw [show wrp (((j : Nat) : Int) + 1) = ((j + 1 : Nat) : Int) from wrp_id (by omega) (by omega)]
            refine qG.blk 1 (pc' := 4) (ls' := [(2, 87), (2, 74), (0, qor (seG w 2 (w 87 4) (w 87 5) (w 87 6) j) (thrF w 2 j (1))), (0, ((j + 1 : Nat) : Int))]) (st' := []) (w' := w) (n' := 142) rfl ?_
            have e9 : seG w 2 (w 87 4) (w 87 5) (w 87 6) (j + 1) = qor (seG w 2 (w 87 4) (w 87 5) (w 87 6) j) (thrF w 2 j (1)) := by rw [seG_s]; first | (rw [if_pos hb1, if_pos hfr, if_pos hcd]; done) | (rw [if_pos hb1, if_pos hfr, if_neg hcd]; done) | (rw [if_pos hb1, if_neg hfr]; done) | (rw [if_neg hb1]; done)
            exact e9 ▸ ih4 _ (by omega) (j + 1) rfl (by omega)
          · skip
            refine qG.blk 1 (pc' := 49) (ls' := [(2, 87), (2, 74), (0, seG w 2 (w 87 4) (w 87 5) (w 87 6) j), (0, ((j : Nat) : Int))]) (st' := [(0, 0), (0, ((j : Nat) : Int)), (2, 74), (0, seG w 2 (w 87 4) (w 87 5) (w 87 6) j)]) (w' := w) (n' := 142) rfl ?_
            refine qG.call (t := 27) (na := 3) (sk := 1) (md := 1) (ls1 := [(2, 74), (0, ((j : Nat) : Int)), (0, 0), (9, 0), (9, 0)]) (r1 := [(0, seG w 2 (w 87 4) (w 87 5) (w 87 6) j)]) rfl rfl rfl rfl rfl (K_shown74 (Nat.zero_le _) j (0) w hI hK hE) ?_
            rintro _ w7 _ ⟨rfl, hw7, rfl⟩
            rw [hw7, show shD w 2 j (0) = thrF w 2 j (0) from if_pos (by omega)]
            show qG none (d + 1) 113 52 [(2, 87), (2, 74), (0, seG w 2 (w 87 4) (w 87 5) (w 87 6) j), (0, ((j : Nat) : Int))] [(0, thrF w 2 j (0)), (0, seG w 2 (w 87 4) (w 87 5) (w 87 6) j)] w 142 Q9
            refine qG.blk 3 (pc' := 57) (ls' := [(2, 87), (2, 74), (0, qor (seG w 2 (w 87 4) (w 87 5) (w 87 6) j) (thrF w 2 j (0))), (0, wrp (((j : Nat) : Int) + 1))]) (st' := []) (w' := w) (n' := 142) rfl ?_
            rw [show wrp (((j : Nat) : Int) + 1) = ((j + 1 : Nat) : Int) from wrp_id (by omega) (by omega)]
            refine qG.blk 1 (pc' := 4) (ls' := [(2, 87), (2, 74), (0, qor (seG w 2 (w 87 4) (w 87 5) (w 87 6) j) (thrF w 2 j (0))), (0, ((j + 1 : Nat) : Int))]) (st' := []) (w' := w) (n' := 142) rfl ?_
            have e9 : seG w 2 (w 87 4) (w 87 5) (w 87 6) (j + 1) = qor (seG w 2 (w 87 4) (w 87 5) (w 87 6) j) (thrF w 2 j (0)) := by rw [seG_s]; first | (rw [if_pos hb1, if_pos hfr, if_pos hcd]; done) | (rw [if_pos hb1, if_pos hfr, if_neg hcd]; done) | (rw [if_pos hb1, if_neg hfr]; done) | (rw [if_neg hb1]; done)
            exact e9 ▸ ih4 _ (by omega) (j + 1) rfl (by omega)
        · skip
          refine qG.blk 1 (pc' := 57) (ls' := [(2, 87), (2, 74), (0, seG w 2 (w 87 4) (w 87 5) (w 87 6) j), (0, wrp (((j : Nat) : Int) + 1))]) (st' := []) (w' := w) (n' := 142) rfl ?_
          rw [show wrp (((j : Nat) : Int) + 1) = ((j + 1 : Nat) : Int) from wrp_id (by omega) (by omega)]
          refine qG.blk 1 (pc' := 4) (ls' := [(2, 87), (2, 74), (0, seG w 2 (w 87 4) (w 87 5) (w 87 6) j), (0, ((j + 1 : Nat) : Int))]) (st' := []) (w' := w) (n' := 142) rfl ?_
          have e9 : seG w 2 (w 87 4) (w 87 5) (w 87 6) (j + 1) = seG w 2 (w 87 4) (w 87 5) (w 87 6) j := by rw [seG_s]; first | (rw [if_pos hb1, if_pos hfr, if_pos hcd]; done) | (rw [if_pos hb1, if_pos hfr, if_neg hcd]; done) | (rw [if_pos hb1, if_neg hfr]; done) | (rw [if_neg hb1]; done)
          exact e9 ▸ ih4 _ (by omega) (j + 1) rfl (by omega)
    · skip
      refine qG.blk 1 (pc' := 61) (ls' := [(2, 87), (2, 74), (0, seG w 2 (w 87 4) (w 87 5) (w 87 6) j), (0, ((j : Nat) : Int))]) (st' := [(0, seG w 2 (w 87 4) (w 87 5) (w 87 6) j)]) (w' := w) (n' := 142) rfl ?_
      refine qG.ret rfl rfl ?_
      subst hQ9
      exact ⟨by rw [show j = 10 by omega], rfl, rfl⟩
  exact L4 _ (0) rfl (by omega)
theorem K_view91_64 {d : Nat} (hd : 1 ≤ d) (m : Nat) (hm : m < 1024) (w : qW) (hI : yInv zgf zga zra zSp w) (ho : w 91 4 = (m : Int)) (hK : w 64 0 = w 96 0) (hE : JE w) : qG none d 113 0 [(2, 91), (2, 64), (9, 0), (9, 0)] [] w 142 (fun (r : qV) (w1 : qW) (n1 : Nat) => r = (0, seG w 0 (w 91 4) (w 91 5) (w 91 6) 10) ∧ w1 = w ∧ n1 = 142) := by
  generalize hQ9 : (fun (r : qV) (w1 : qW) (n1 : Nat) => r = (0, seG w 0 (w 91 4) (w 91 5) (w 91 6) 10) ∧ w1 = w ∧ n1 = 142) = Q9
  obtain ⟨d, rfl⟩ : ∃ d9, d = d9 + 1 := ⟨d - 1, by omega⟩
  refine qG.blk 4 (pc' := 4) (ls' := [(2, 91), (2, 64), (0, 0), (0, 0)]) (st' := []) (w' := w) (n' := 142) rfl ?_
  have L4 : ∀ (m9 : Nat) (j : Nat), 10 - j = m9 → (j ≤ 10) → qG none (d + 1) 113 4 [(2, 91), (2, 64), (0, seG w 0 (w 91 4) (w 91 5) (w 91 6) j), (0, ((j : Nat) : Int))] [] w 142 Q9 := by
    intro m9
    induction m9 using Nat.strongRecOn with
    | ind m9 ih4 =>
    intro j hm4 hI4
    refine qG.blk 2 (pc' := 7) (ls' := [(2, 91), (2, 64), (0, seG w 0 (w 91 4) (w 91 5) (w 91 6) j), (0, ((j : Nat) : Int))]) (st' := [(0, 10), (0, ((j : Nat) : Int))]) (w' := w) (n' := 142) rfl ?_
    refine qG.br (P := ((j : Nat) : Int) < 10) (pc1 := 10) (pc2 := 60) (st1 := []) rfl (fun hj => ?_) (fun hj => ?_)
    · skip
      refine qG.blk 6 (pc' := 18) (ls' := [(2, 91), (2, 64), (0, seG w 0 (w 91 4) (w 91 5) (w 91 6) j), (0, ((j : Nat) : Int))]) (st' := [(0, qand (qush (w 91 4) ((j : Nat) : Int)) 1)]) (w' := w) (n' := 142) rfl ?_
      refine qG.br (P := qand (qush (w 91 4) ((j : Nat) : Int)) 1 = 0) (pc1 := 54) (pc2 := 21) (st1 := []) rfl (fun hbit => ?_) (fun hbit => ?_)
      · skip
        have hb1 : ¬ qand (qshr (w 91 4) ((j : Nat) : Int)) 1 = 1 := fun z => by rw [ho, ← ushr_b hm (by omega), ← ho, hbit] at z; exact absurd z (by decide)
        refine qG.blk 1 (pc' := 57) (ls' := [(2, 91), (2, 64), (0, seG w 0 (w 91 4) (w 91 5) (w 91 6) j), (0, wrp (((j : Nat) : Int) + 1))]) (st' := []) (w' := w) (n' := 142) rfl ?_
        rw [show wrp (((j : Nat) : Int) + 1) = ((j + 1 : Nat) : Int) from wrp_id (by omega) (by omega)]
        refine qG.blk 1 (pc' := 4) (ls' := [(2, 91), (2, 64), (0, seG w 0 (w 91 4) (w 91 5) (w 91 6) j), (0, ((j + 1 : Nat) : Int))]) (st' := []) (w' := w) (n' := 142) rfl ?_
        have e9 : seG w 0 (w 91 4) (w 91 5) (w 91 6) (j + 1) = seG w 0 (w 91 4) (w 91 5) (w 91 6) j := by rw [seG_s]; first | (rw [if_pos hb1, if_pos hfr, if_pos hcd]; done) | (rw [if_pos hb1, if_pos hfr, if_neg hcd]; done) | (rw [if_pos hb1, if_neg hfr]; done) | (rw [if_neg hb1]; done)
        exact e9 ▸ ih4 _ (by omega) (j + 1) rfl (by omega)
      · skip
        have hb1 : qand (qshr (w 91 4) ((j : Nat) : Int)) 1 = 1 := by rw [ho, ← ushr_b hm (by omega), ← ho]; have q := qand_1 (qush (w 91 4) ((j : Nat) : Int)); omega
        refine qG.blk 2 (pc' := 23) (ls' := [(2, 91), (2, 64), (0, seG w 0 (w 91 4) (w 91 5) (w 91 6) j), (0, ((j : Nat) : Int))]) (st' := [(0, ((j : Nat) : Int)), (2, 64)]) (w' := w) (n' := 142) rfl ?_
        refine qG.call (t := 26) (na := 2) (sk := 1) (md := 1) (ls1 := [(2, 64), (0, ((j : Nat) : Int))]) (r1 := []) rfl rfl rfl rfl rfl (K_sideOf64 (Nat.zero_le _) j (by omega) w hI hE) ?_
        rintro _ w7 _ ⟨rfl, hw7, rfl⟩
        rw [hw7]
        show qG none (d + 1) 113 26 [(2, 91), (2, 64), (0, seG w 0 (w 91 4) (w 91 5) (w 91 6) j), (0, ((j : Nat) : Int))] [(0, w 97 (10 * 0 + j))] w 142 Q9
        refine qG.blk 2 (pc' := 30) (ls' := [(2, 91), (2, 64), (0, seG w 0 (w 91 4) (w 91 5) (w 91 6) j), (0, ((j : Nat) : Int))]) (st' := [(0, w 91 6), (0, w 97 (10 * 0 + j))]) (w' := w) (n' := 142) rfl ?_
        refine qG.br (P := w 97 (10 * 0 + j) = w 91 6) (pc1 := 33) (pc2 := 54) (st1 := []) rfl (fun hfr => ?_) (fun hfr => ?_)
        · skip
          refine qG.blk 6 (pc' := 41) (ls' := [(2, 91), (2, 64), (0, seG w 0 (w 91 4) (w 91 5) (w 91 6) j), (0, ((j : Nat) : Int))]) (st' := [(0, w 91 5), (0, ((j : Nat) : Int)), (0, ((j : Nat) : Int)), (2, 64), (0, seG w 0 (w 91 4) (w 91 5) (w 91 6) j)]) (w' := w) (n' := 142) rfl ?_
          refine qG.br (P := ((j : Nat) : Int) = w 91 5) (pc1 := 44) (pc2 := 48) (st1 := [(0, ((j : Nat) : Int)), (2, 64), (0, seG w 0 (w 91 4) (w 91 5) (w 91 6) j)]) rfl (fun hcd => ?_) (fun hcd => ?_)
          · skip
            refine qG.blk 2 (pc' := 49) (ls' := [(2, 91), (2, 64), (0, seG w 0 (w 91 4) (w 91 5) (w 91 6) j), (0, ((j : Nat) : Int))]) (st' := [(0, 1), (0, ((j : Nat) : Int)), (2, 64), (0, seG w 0 (w 91 4) (w 91 5) (w 91 6) j)]) (w' := w) (n' := 142) rfl ?_
            refine qG.call (t := 27) (na := 3) (sk := 1) (md := 1) (ls1 := [(2, 64), (0, ((j : Nat) : Int)), (0, 1), (9, 0), (9, 0)]) (r1 := [(0, seG w 0 (w 91 4) (w 91 5) (w 91 6) j)]) rfl rfl rfl rfl rfl (K_shown64 (Nat.zero_le _) j (1) w hI hK hE) ?_
            rintro _ w7 _ ⟨rfl, hw7, rfl⟩
            rw [hw7, show shD w 0 j (1) = thrF w 0 j (1) from if_pos (by omega)]
            show qG none (d + 1) 113 52 [(2, 91), (2, 64), (0, seG w 0 (w 91 4) (w 91 5) (w 91 6) j), (0, ((j : Nat) : Int))] [(0, thrF w 0 j (1)), (0, seG w 0 (w 91 4) (w 91 5) (w 91 6) j)] w 142 Q9
            refine qG.blk 3 (pc' := 57) (ls' := [(2, 91), (2, 64), (0, qor (seG w 0 (w 91 4) (w 91 5) (w 91 6) j) (thrF w 0 j (1))), (0, wrp (((j : Nat) : Int) + 1))]) (st' := []) (w' := w) (n' := 142) rfl ?_
            rw [show wrp (((j : Nat) : Int) + 1) = ((j + 1 : Nat) : Int) from wrp_id (by omega) (by omega)]
            refine qG.blk 1 (pc' := 4) (ls' := [(2, 91), (2, 64), (0, qor (seG w 0 (w 91 4) (w 91 5) (w 91 6) j) (thrF w 0 j (1))), (0, ((j + 1 : Nat) : Int))]) (st' := []) (w' := w) (n' := 142) rfl ?_
            have e9 : seG w 0 (w 91 4) (w 91 5) (w 91 6) (j + 1) = qor (seG w 0 (w 91 4) (w 91 5) (w 91 6) j) (thrF w 0 j (1)) := by rw [seG_s]; first | (rw [if_pos hb1, if_pos hfr, if_pos hcd]; done) | (rw [if_pos hb1, if_pos hfr, if_neg hcd]; done) | (rw [if_pos hb1, if_neg hfr]; done) | (rw [if_neg hb1]; done)
            exact e9 ▸ ih4 _ (by omega) (j + 1) rfl (by omega)
          · skip
            refine qG.blk 1 (pc' := 49) (ls' := [(2, 91), (2, 64), (0, seG w 0 (w 91 4) (w 91 5) (w 91 6) j), (0, ((j : Nat) : Int))]) (st' := [(0, 0), (0, ((j : Nat) : Int)), (2, 64), (0, seG w 0 (w 91 4) (w 91 5) (w 91 6) j)]) (w' := w) (n' := 142) rfl ?_
            refine qG.call (t := 27) (na := 3) (sk := 1) (md := 1) (ls1 := [(2, 64), (0, ((j : Nat) : Int)), (0, 0), (9, 0), (9, 0)]) (r1 := [(0, seG w 0 (w 91 4) (w 91 5) (w 91 6) j)]) rfl rfl rfl rfl rfl (K_shown64 (Nat.zero_le _) j (0) w hI hK hE) ?_
            rintro _ w7 _ ⟨rfl, hw7, rfl⟩
            rw [hw7, show shD w 0 j (0) = thrF w 0 j (0) from if_pos (by omega)]
            show qG none (d + 1) 113 52 [(2, 91), (2, 64), (0, seG w 0 (w 91 4) (w 91 5) (w 91 6) j), (0, ((j : Nat) : Int))] [(0, thrF w 0 j (0)), (0, seG w 0 (w 91 4) (w 91 5) (w 91 6) j)] w 142 Q9
            refine qG.blk 3 (pc' := 57) (ls' := [(2, 91), (2, 64), (0, qor (seG w 0 (w 91 4) (w 91 5) (w 91 6) j) (thrF w 0 j (0))), (0, wrp (((j : Nat) : Int) + 1))]) (st' := []) (w' := w) (n' := 142) rfl ?_
            rw [show wrp (((j : Nat) : Int) + 1) = ((j + 1 : Nat) : Int) from wrp_id (by omega) (by omega)]
            refine qG.blk 1 (pc' := 4) (ls' := [(2, 91), (2, 64), (0, qor (seG w 0 (w 91 4) (w 91 5) (w 91 6) j) (thrF w 0 j (0))), (0, ((j + 1 : Nat) : Int))]) (st' := []) (w' := w) (n' := 142) rfl ?_
            have e9 : seG w 0 (w 91 4) (w 91 5) (w 91 6) (j + 1) = qor (seG w 0 (w 91 4) (w 91 5) (w 91 6) j) (thrF w 0 j (0)) := by rw [seG_s]; first | (rw [if_pos hb1, if_pos hfr, if_pos hcd]; done) | (rw [if_pos hb1, if_pos hfr, if_neg hcd]; done) | (rw [if_pos hb1, if_neg hfr]; done) | (rw [if_neg hb1]; done)
            exact e9 ▸ ih4 _ (by omega) (j + 1) rfl (by omega)
        · skip
          refine qG.blk 1 (pc' := 57) (ls' := [(2, 91), (2, 64), (0, seG w 0 (w 91 4) (w 91 5) (w 91 6) j), (0, wrp (((j : Nat) : Int) + 1))]) (st' := []) (w' := w) (n' := 142) rfl ?_
          rw [show wrp (((j : Nat) : Int) + 1) = ((j + 1 : Nat) : Int) from wrp_id (by omega) (by omega)]
          refine qG.blk 1 (pc' := 4) (ls' := [(2, 91), (2, 64), (0, seG w 0 (w 91 4) (w 91 5) (w 91 6) j), (0, ((j + 1 : Nat) : Int))]) (st' := []) (w' := w) (n' := 142) rfl ?_
          have e9 : seG w 0 (w 91 4) (w 91 5) (w 91 6) (j + 1) = seG w 0 (w 91 4) (w 91 5) (w 91 6) j := by rw [seG_s]; first | (rw [if_pos hb1, if_pos hfr, if_pos hcd]; done) | (rw [if_pos hb1, if_pos hfr, if_neg hcd]; done) | (rw [if_pos hb1, if_neg hfr]; done) | (rw [if_neg hb1]; done)
          exact e9 ▸ ih4 _ (by omega) (j + 1) rfl (by omega)
    · skip
      refine qG.blk 1 (pc' := 61) (ls' := [(2, 91), (2, 64), (0, seG w 0 (w 91 4) (w 91 5) (w 91 6) j), (0, ((j : Nat) : Int))]) (st' := [(0, seG w 0 (w 91 4) (w 91 5) (w 91 6) j)]) (w' := w) (n' := 142) rfl ?_
      refine qG.ret rfl rfl ?_
      subst hQ9
      exact ⟨by rw [show j = 10 by omega], rfl, rfl⟩
  exact L4 _ (0) rfl (by omega)
theorem K_view91_69 {d : Nat} (hd : 1 ≤ d) (m : Nat) (hm : m < 1024) (w : qW) (hI : yInv zgf zga zra zSp w) (ho : w 91 4 = (m : Int)) (hK : w 69 0 = w 96 1) (hE : JE w) : qG none d 113 0 [(2, 91), (2, 69), (9, 0), (9, 0)] [] w 142 (fun (r : qV) (w1 : qW) (n1 : Nat) => r = (0, seG w 1 (w 91 4) (w 91 5) (w 91 6) 10) ∧ w1 = w ∧ n1 = 142) := by
  generalize hQ9 : (fun (r : qV) (w1 : qW) (n1 : Nat) => r = (0, seG w 1 (w 91 4) (w 91 5) (w 91 6) 10) ∧ w1 = w ∧ n1 = 142) = Q9
  obtain ⟨d, rfl⟩ : ∃ d9, d = d9 + 1 := ⟨d - 1, by omega⟩
  refine qG.blk 4 (pc' := 4) (ls' := [(2, 91), (2, 69), (0, 0), (0, 0)]) (st' := []) (w' := w) (n' := 142) rfl ?_
  have L4 : ∀ (m9 : Nat) (j : Nat), 10 - j = m9 → (j ≤ 10) → qG none (d + 1) 113 4 [(2, 91), (2, 69), (0, seG w 1 (w 91 4) (w 91 5) (w 91 6) j), (0, ((j : Nat) : Int))] [] w 142 Q9 := by
    intro m9
    induction m9 using Nat.strongRecOn with
    | ind m9 ih4 =>
    intro j hm4 hI4
    refine qG.blk 2 (pc' := 7) (ls' := [(2, 91), (2, 69), (0, seG w 1 (w 91 4) (w 91 5) (w 91 6) j), (0, ((j : Nat) : Int))]) (st' := [(0, 10), (0, ((j : Nat) : Int))]) (w' := w) (n' := 142) rfl ?_
    refine qG.br (P := ((j : Nat) : Int) < 10) (pc1 := 10) (pc2 := 60) (st1 := []) rfl (fun hj => ?_) (fun hj => ?_)
    · skip
      refine qG.blk 6 (pc' := 18) (ls' := [(2, 91), (2, 69), (0, seG w 1 (w 91 4) (w 91 5) (w 91 6) j), (0, ((j : Nat) : Int))]) (st' := [(0, qand (qush (w 91 4) ((j : Nat) : Int)) 1)]) (w' := w) (n' := 142) rfl ?_
      refine qG.br (P := qand (qush (w 91 4) ((j : Nat) : Int)) 1 = 0) (pc1 := 54) (pc2 := 21) (st1 := []) rfl (fun hbit => ?_) (fun hbit => ?_)
      · skip
        have hb1 : ¬ qand (qshr (w 91 4) ((j : Nat) : Int)) 1 = 1 := fun z => by rw [ho, ← ushr_b hm (by omega), ← ho, hbit] at z; exact absurd z (by decide)
        refine qG.blk 1 (pc' := 57) (ls' := [(2, 91), (2, 69), (0, seG w 1 (w 91 4) (w 91 5) (w 91 6) j), (0, wrp (((j : Nat) : Int) + 1))]) (st' := []) (w' := w) (n' := 142) rfl ?_
        rw [show wrp (((j : Nat) : Int) + 1) = ((j + 1 : Nat) : Int) from wrp_id (by omega) (by omega)]
        refine qG.blk 1 (pc' := 4) (ls' := [(2, 91), (2, 69), (0, seG w 1 (w 91 4) (w 91 5) (w 91 6) j), (0, ((j + 1 : Nat) : Int))]) (st' := []) (w' := w) (n' := 142) rfl ?_
        have e9 : seG w 1 (w 91 4) (w 91 5) (w 91 6) (j + 1) = seG w 1 (w 91 4) (w 91 5) (w 91 6) j := by rw [seG_s]; first | (rw [if_pos hb1, if_pos hfr, if_pos hcd]; done) | (rw [if_pos hb1, if_pos hfr, if_neg hcd]; done) | (rw [if_pos hb1, if_neg hfr]; done) | (rw [if_neg hb1]; done)
        exact e9 ▸ ih4 _ (by omega) (j + 1) rfl (by omega)
      · skip
        have hb1 : qand (qshr (w 91 4) ((j : Nat) : Int)) 1 = 1 := by rw [ho, ← ushr_b hm (by omega), ← ho]; have q := qand_1 (qush (w 91 4) ((j : Nat) : Int)); omega
        refine qG.blk 2 (pc' := 23) (ls' := [(2, 91), (2, 69), (0, seG w 1 (w 91 4) (w 91 5) (w 91 6) j), (0, ((j : Nat) : Int))]) (st' := [(0, ((j : Nat) : Int)), (2, 69)]) (w' := w) (n' := 142) rfl ?_
        refine qG.call (t := 26) (na := 2) (sk := 1) (md := 1) (ls1 := [(2, 69), (0, ((j : Nat) : Int))]) (r1 := []) rfl rfl rfl rfl rfl (K_sideOf69 (Nat.zero_le _) j (by omega) w hI hE) ?_
        rintro _ w7 _ ⟨rfl, hw7, rfl⟩
        rw [hw7]
        show qG none (d + 1) 113 26 [(2, 91), (2, 69), (0, seG w 1 (w 91 4) (w 91 5) (w 91 6) j), (0, ((j : Nat) : Int))] [(0, w 97 (10 * 1 + j))] w 142 Q9
        refine qG.blk 2 (pc' := 30) (ls' := [(2, 91), (2, 69), (0, seG w 1 (w 91 4) (w 91 5) (w 91 6) j), (0, ((j : Nat) : Int))]) (st' := [(0, w 91 6), (0, w 97 (10 * 1 + j))]) (w' := w) (n' := 142) rfl ?_
        refine qG.br (P := w 97 (10 * 1 + j) = w 91 6) (pc1 := 33) (pc2 := 54) (st1 := []) rfl (fun hfr => ?_) (fun hfr => ?_)
        · skip
          refine qG.blk 6 (pc' := 41) (ls' := [(2, 91), (2, 69), (0, seG w 1 (w 91 4) (w 91 5) (w 91 6) j), (0, ((j : Nat) : Int))]) (st' := [(0, w 91 5), (0, ((j : Nat) : Int)), (0, ((j : Nat) : Int)), (2, 69), (0, seG w 1 (w 91 4) (w 91 5) (w 91 6) j)]) (w' := w) (n' := 142) rfl ?_
          refine qG.br (P := ((j : Nat) : Int) = w 91 5) (pc1 := 44) (pc2 := 48) (st1 := [(0, ((j : Nat) : Int)), (2, 69), (0, seG w 1 (w 91 4) (w 91 5) (w 91 6) j)]) rfl (fun hcd => ?_) (fun hcd => ?_)
          · skip
            refine qG.blk 2 (pc' := 49) (ls' := [(2, 91), (2, 69), (0, seG w 1 (w 91 4) (w 91 5) (w 91 6) j), (0, ((j : Nat) : Int))]) (st' := [(0, 1), (0, ((j : Nat) : Int)), (2, 69), (0, seG w 1 (w 91 4) (w 91 5) (w 91 6) j)]) (w' := w) (n' := 142) rfl ?_
            refine qG.call (t := 27) (na := 3) (sk := 1) (md := 1) (ls1 := [(2, 69), (0, ((j : Nat) : Int)), (0, 1), (9, 0), (9, 0)]) (r1 := [(0, seG w 1 (w 91 4) (w 91 5) (w 91 6) j)]) rfl rfl rfl rfl rfl (K_shown69 (Nat.zero_le _) j (1) w hI hK hE) ?_
            rintro _ w7 _ ⟨rfl, hw7, rfl⟩
            rw [hw7, show shD w 1 j (1) = thrF w 1 j (1) from if_pos (by omega)]
            show qG none (d + 1) 113 52 [(2, 91), (2, 69), (0, seG w 1 (w 91 4) (w 91 5) (w 91 6) j), (0, ((j : Nat) : Int))] [(0, thrF w 1 j (1)), (0, seG w 1 (w 91 4) (w 91 5) (w 91 6) j)] w 142 Q9
            refine qG.blk 3 (pc' := 57) (ls' := [(2, 91), (2, 69), (0, qor (seG w 1 (w 91 4) (w 91 5) (w 91 6) j) (thrF w 1 j (1))), (0, wrp (((j : Nat) : Int) + 1))]) (st' := []) (w' := w) (n' := 142) rfl ?_
            rw [show wrp (((j : Nat) : Int) + 1) = ((j + 1 : Nat) : Int) from wrp_id (by omega) (by omega)]
            refine qG.blk 1 (pc' := 4) (ls' := [(2, 91), (2, 69), (0, qor (seG w 1 (w 91 4) (w 91 5) (w 91 6) j) (thrF w 1 j (1))), (0, ((j + 1 : Nat) : Int))]) (st' := []) (w' := w) (n' := 142) rfl ?_
            have e9 : seG w 1 (w 91 4) (w 91 5) (w 91 6) (j + 1) = qor (seG w 1 (w 91 4) (w 91 5) (w 91 6) j) (thrF w 1 j (1)) := by rw [seG_s]; first | (rw [if_pos hb1, if_pos hfr, if_pos hcd]; done) | (rw [if_pos hb1, if_pos hfr, if_neg hcd]; done) | (rw [if_pos hb1, if_neg hfr]; done) | (rw [if_neg hb1]; done)
            exact e9 ▸ ih4 _ (by omega) (j + 1) rfl (by omega)
          · skip
            refine qG.blk 1 (pc' := 49) (ls' := [(2, 91), (2, 69), (0, seG w 1 (w 91 4) (w 91 5) (w 91 6) j), (0, ((j : Nat) : Int))]) (st' := [(0, 0), (0, ((j : Nat) : Int)), (2, 69), (0, seG w 1 (w 91 4) (w 91 5) (w 91 6) j)]) (w' := w) (n' := 142) rfl ?_
            refine qG.call (t := 27) (na := 3) (sk := 1) (md := 1) (ls1 := [(2, 69), (0, ((j : Nat) : Int)), (0, 0), (9, 0), (9, 0)]) (r1 := [(0, seG w 1 (w 91 4) (w 91 5) (w 91 6) j)]) rfl rfl rfl rfl rfl (K_shown69 (Nat.zero_le _) j (0) w hI hK hE) ?_
            rintro _ w7 _ ⟨rfl, hw7, rfl⟩
            rw [hw7, show shD w 1 j (0) = thrF w 1 j (0) from if_pos (by omega)]
            show qG none (d + 1) 113 52 [(2, 91), (2, 69), (0, seG w 1 (w 91 4) (w 91 5) (w 91 6) j), (0, ((j : Nat) : Int))] [(0, thrF w 1 j (0)), (0, seG w 1 (w 91 4) (w 91 5) (w 91 6) j)] w 142 Q9
            refine qG.blk 3 (pc' := 57) (ls' := [(2, 91), (2, 69), (0, qor (seG w 1 (w 91 4) (w 91 5) (w 91 6) j) (thrF w 1 j (0))), (0, wrp (((j : Nat) : Int) + 1))]) (st' := []) (w' := w) (n' := 142) rfl ?_
            rw [show wrp (((j : Nat) : Int) + 1) = ((j + 1 : Nat) : Int) from wrp_id (by omega) (by omega)]
            refine qG.blk 1 (pc' := 4) (ls' := [(2, 91), (2, 69), (0, qor (seG w 1 (w 91 4) (w 91 5) (w 91 6) j) (thrF w 1 j (0))), (0, ((j + 1 : Nat) : Int))]) (st' := []) (w' := w) (n' := 142) rfl ?_
            have e9 : seG w 1 (w 91 4) (w 91 5) (w 91 6) (j + 1) = qor (seG w 1 (w 91 4) (w 91 5) (w 91 6) j) (thrF w 1 j (0)) := by rw [seG_s]; first | (rw [if_pos hb1, if_pos hfr, if_pos hcd]; done) | (rw [if_pos hb1, if_pos hfr, if_neg hcd]; done) | (rw [if_pos hb1, if_neg hfr]; done) | (rw [if_neg hb1]; done)
            exact e9 ▸ ih4 _ (by omega) (j + 1) rfl (by omega)
        · skip
          refine qG.blk 1 (pc' := 57) (ls' := [(2, 91), (2, 69), (0, seG w 1 (w 91 4) (w 91 5) (w 91 6) j), (0, wrp (((j : Nat) : Int) + 1))]) (st' := []) (w' := w) (n' := 142) rfl ?_
          rw [show wrp (((j : Nat) : Int) + 1) = ((j + 1 : Nat) : Int) from wrp_id (by omega) (by omega)]
          refine qG.blk 1 (pc' := 4) (ls' := [(2, 91), (2, 69), (0, seG w 1 (w 91 4) (w 91 5) (w 91 6) j), (0, ((j + 1 : Nat) : Int))]) (st' := []) (w' := w) (n' := 142) rfl ?_
          have e9 : seG w 1 (w 91 4) (w 91 5) (w 91 6) (j + 1) = seG w 1 (w 91 4) (w 91 5) (w 91 6) j := by rw [seG_s]; first | (rw [if_pos hb1, if_pos hfr, if_pos hcd]; done) | (rw [if_pos hb1, if_pos hfr, if_neg hcd]; done) | (rw [if_pos hb1, if_neg hfr]; done) | (rw [if_neg hb1]; done)
          exact e9 ▸ ih4 _ (by omega) (j + 1) rfl (by omega)
    · skip
      refine qG.blk 1 (pc' := 61) (ls' := [(2, 91), (2, 69), (0, seG w 1 (w 91 4) (w 91 5) (w 91 6) j), (0, ((j : Nat) : Int))]) (st' := [(0, seG w 1 (w 91 4) (w 91 5) (w 91 6) j)]) (w' := w) (n' := 142) rfl ?_
      refine qG.ret rfl rfl ?_
      subst hQ9
      exact ⟨by rw [show j = 10 by omega], rfl, rfl⟩
  exact L4 _ (0) rfl (by omega)
theorem K_view91_74 {d : Nat} (hd : 1 ≤ d) (m : Nat) (hm : m < 1024) (w : qW) (hI : yInv zgf zga zra zSp w) (ho : w 91 4 = (m : Int)) (hK : w 74 0 = w 96 2) (hE : JE w) : qG none d 113 0 [(2, 91), (2, 74), (9, 0), (9, 0)] [] w 142 (fun (r : qV) (w1 : qW) (n1 : Nat) => r = (0, seG w 2 (w 91 4) (w 91 5) (w 91 6) 10) ∧ w1 = w ∧ n1 = 142) := by
  generalize hQ9 : (fun (r : qV) (w1 : qW) (n1 : Nat) => r = (0, seG w 2 (w 91 4) (w 91 5) (w 91 6) 10) ∧ w1 = w ∧ n1 = 142) = Q9
  obtain ⟨d, rfl⟩ : ∃ d9, d = d9 + 1 := ⟨d - 1, by omega⟩
  refine qG.blk 4 (pc' := 4) (ls' := [(2, 91), (2, 74), (0, 0), (0, 0)]) (st' := []) (w' := w) (n' := 142) rfl ?_
  have L4 : ∀ (m9 : Nat) (j : Nat), 10 - j = m9 → (j ≤ 10) → qG none (d + 1) 113 4 [(2, 91), (2, 74), (0, seG w 2 (w 91 4) (w 91 5) (w 91 6) j), (0, ((j : Nat) : Int))] [] w 142 Q9 := by
    intro m9
    induction m9 using Nat.strongRecOn with
    | ind m9 ih4 =>
    intro j hm4 hI4
    refine qG.blk 2 (pc' := 7) (ls' := [(2, 91), (2, 74), (0, seG w 2 (w 91 4) (w 91 5) (w 91 6) j), (0, ((j : Nat) : Int))]) (st' := [(0, 10), (0, ((j : Nat) : Int))]) (w' := w) (n' := 142) rfl ?_
    refine qG.br (P := ((j : Nat) : Int) < 10) (pc1 := 10) (pc2 := 60) (st1 := []) rfl (fun hj => ?_) (fun hj => ?_)
    · skip
      refine qG.blk 6 (pc' := 18) (ls' := [(2, 91), (2, 74), (0, seG w 2 (w 91 4) (w 91 5) (w 91 6) j), (0, ((j : Nat) : Int))]) (st' := [(0, qand (qush (w 91 4) ((j : Nat) : Int)) 1)]) (w' := w) (n' := 142) rfl ?_
      refine qG.br (P := qand (qush (w 91 4) ((j : Nat) : Int)) 1 = 0) (pc1 := 54) (pc2 := 21) (st1 := []) rfl (fun hbit => ?_) (fun hbit => ?_)
      · skip
        have hb1 : ¬ qand (qshr (w 91 4) ((j : Nat) : Int)) 1 = 1 := fun z => by rw [ho, ← ushr_b hm (by omega), ← ho, hbit] at z; exact absurd z (by decide)
        refine qG.blk 1 (pc' := 57) (ls' := [(2, 91), (2, 74), (0, seG w 2 (w 91 4) (w 91 5) (w 91 6) j), (0, wrp (((j : Nat) : Int) + 1))]) (st' := []) (w' := w) (n' := 142) rfl ?_
        rw [show wrp (((j : Nat) : Int) + 1) = ((j + 1 : Nat) : Int) from wrp_id (by omega) (by omega)]
        refine qG.blk 1 (pc' := 4) (ls' := [(2, 91), (2, 74), (0, seG w 2 (w 91 4) (w 91 5) (w 91 6) j), (0, ((j + 1 : Nat) : Int))]) (st' := []) (w' := w) (n' := 142) rfl ?_
        have e9 : seG w 2 (w 91 4) (w 91 5) (w 91 6) (j + 1) = seG w 2 (w 91 4) (w 91 5) (w 91 6) j := by rw [seG_s]; first | (rw [if_pos hb1, if_pos hfr, if_pos hcd]; done) | (rw [if_pos hb1, if_pos hfr, if_neg hcd]; done) | (rw [if_pos hb1, if_neg hfr]; done) | (rw [if_neg hb1]; done)
        exact e9 ▸ ih4 _ (by omega) (j + 1) rfl (by omega)
      · skip
        have hb1 : qand (qshr (w 91 4) ((j : Nat) : Int)) 1 = 1 := by rw [ho, ← ushr_b hm (by omega), ← ho]; have q := qand_1 (qush (w 91 4) ((j : Nat) : Int)); omega
        refine qG.blk 2 (pc' := 23) (ls' := [(2, 91), (2, 74), (0, seG w 2 (w 91 4) (w 91 5) (w 91 6) j), (0, ((j : Nat) : Int))]) (st' := [(0, ((j : Nat) : Int)), (2, 74)]) (w' := w) (n' := 142) rfl ?_
        refine qG.call (t := 26) (na := 2) (sk := 1) (md := 1) (ls1 := [(2, 74), (0, ((j : Nat) : Int))]) (r1 := []) rfl rfl rfl rfl rfl (K_sideOf74 (Nat.zero_le _) j (by omega) w hI hE) ?_
        rintro _ w7 _ ⟨rfl, hw7, rfl⟩
        rw [hw7]
        show qG none (d + 1) 113 26 [(2, 91), (2, 74), (0, seG w 2 (w 91 4) (w 91 5) (w 91 6) j), (0, ((j : Nat) : Int))] [(0, w 97 (10 * 2 + j))] w 142 Q9
        refine qG.blk 2 (pc' := 30) (ls' := [(2, 91), (2, 74), (0, seG w 2 (w 91 4) (w 91 5) (w 91 6) j), (0, ((j : Nat) : Int))]) (st' := [(0, w 91 6), (0, w 97 (10 * 2 + j))]) (w' := w) (n' := 142) rfl ?_
        refine qG.br (P := w 97 (10 * 2 + j) = w 91 6) (pc1 := 33) (pc2 := 54) (st1 := []) rfl (fun hfr => ?_) (fun hfr => ?_)
        · skip
          refine qG.blk 6 (pc' := 41) (ls' := [(2, 91), (2, 74), (0, seG w 2 (w 91 4) (w 91 5) (w 91 6) j), (0, ((j : Nat) : Int))]) (st' := [(0, w 91 5), (0, ((j : Nat) : Int)), (0, ((j : Nat) : Int)), (2, 74), (0, seG w 2 (w 91 4) (w 91 5) (w 91 6) j)]) (w' := w) (n' := 142) rfl ?_
          refine qG.br (P := ((j : Nat) : Int) = w 91 5) (pc1 := 44) (pc2 := 48) (st1 := [(0, ((j : Nat) : Int)), (2, 74), (0, seG w 2 (w 91 4) (w 91 5) (w 91 6) j)]) rfl (fun hcd => ?_) (fun hcd => ?_)
          · skip
            refine qG.blk 2 (pc' := 49) (ls' := [(2, 91), (2, 74), (0, seG w 2 (w 91 4) (w 91 5) (w 91 6) j), (0, ((j : Nat) : Int))]) (st' := [(0, 1), (0, ((j : Nat) : Int)), (2, 74), (0, seG w 2 (w 91 4) (w 91 5) (w 91 6) j)]) (w' := w) (n' := 142) rfl ?_
            refine qG.call (t := 27) (na := 3) (sk := 1) (md := 1) (ls1 := [(2, 74), (0, ((j : Nat) : Int)), (0, 1), (9, 0), (9, 0)]) (r1 := [(0, seG w 2 (w 91 4) (w 91 5) (w 91 6) j)]) rfl rfl rfl rfl rfl (K_shown74 (Nat.zero_le _) j (1) w hI hK hE) ?_
            rintro _ w7 _ ⟨rfl, hw7, rfl⟩
            rw [hw7, show shD w 2 j (1) = thrF w 2 j (1) from if_pos (by omega)]
            show qG none (d + 1) 113 52 [(2, 91), (2, 74), (0, seG w 2 (w 91 4) (w 91 5) (w 91 6) j), (0, ((j : Nat) : Int))] [(0, thrF w 2 j (1)), (0, seG w 2 (w 91 4) (w 91 5) (w 91 6) j)] w 142 Q9
            refine qG.blk 3 (pc' := 57) (ls' := [(2, 91), (2, 74), (0, qor (seG w 2 (w 91 4) (w 91 5) (w 91 6) j) (thrF w 2 j (1))), (0, wrp (((j : Nat) : Int) + 1))]) (st' := []) (w' := w) (n' := 142) rfl ?_
            rw [show wrp (((j : Nat) : Int) + 1) = ((j + 1 : Nat) : Int) from wrp_id (by omega) (by omega)]
            refine qG.blk 1 (pc' := 4) (ls' := [(2, 91), (2, 74), (0, qor (seG w 2 (w 91 4) (w 91 5) (w 91 6) j) (thrF w 2 j (1))), (0, ((j + 1 : Nat) : Int))]) (st' := []) (w' := w) (n' := 142) rfl ?_
            have e9 : seG w 2 (w 91 4) (w 91 5) (w 91 6) (j + 1) = qor (seG w 2 (w 91 4) (w 91 5) (w 91 6) j) (thrF w 2 j (1)) := by rw [seG_s]; first | (rw [if_pos hb1, if_pos hfr, if_pos hcd]; done) | (rw [if_pos hb1, if_pos hfr, if_neg hcd]; done) | (rw [if_pos hb1, if_neg hfr]; done) | (rw [if_neg hb1]; done)
            exact e9 ▸ ih4 _ (by omega) (j + 1) rfl (by omega)
          · skip
            refine qG.blk 1 (pc' := 49) (ls' := [(2, 91), (2, 74), (0, seG w 2 (w 91 4) (w 91 5) (w 91 6) j), (0, ((j : Nat) : Int))]) (st' := [(0, 0), (0, ((j : Nat) : Int)), (2, 74), (0, seG w 2 (w 91 4) (w 91 5) (w 91 6) j)]) (w' := w) (n' := 142) rfl ?_
            refine qG.call (t := 27) (na := 3) (sk := 1) (md := 1) (ls1 := [(2, 74), (0, ((j : Nat) : Int)), (0, 0), (9, 0), (9, 0)]) (r1 := [(0, seG w 2 (w 91 4) (w 91 5) (w 91 6) j)]) rfl rfl rfl rfl rfl (K_shown74 (Nat.zero_le _) j (0) w hI hK hE) ?_
            rintro _ w7 _ ⟨rfl, hw7, rfl⟩
            rw [hw7, show shD w 2 j (0) = thrF w 2 j (0) from if_pos (by omega)]
            show qG none (d + 1) 113 52 [(2, 91), (2, 74), (0, seG w 2 (w 91 4) (w 91 5) (w 91 6) j), (0, ((j : Nat) : Int))] [(0, thrF w 2 j (0)), (0, seG w 2 (w 91 4) (w 91 5) (w 91 6) j)] w 142 Q9
            refine qG.blk 3 (pc' := 57) (ls' := [(2, 91), (2, 74), (0, qor (seG w 2 (w 91 4) (w 91 5) (w 91 6) j) (thrF w 2 j (0))), (0, wrp (((j : Nat) : Int) + 1))]) (st' := []) (w' := w) (n' := 142) rfl ?_
            rw [show wrp (((j : Nat) : Int) + 1) = ((j + 1 : Nat) : Int) from wrp_id (by omega) (by omega)]
            refine qG.blk 1 (pc' := 4) (ls' := [(2, 91), (2, 74), (0, qor (seG w 2 (w 91 4) (w 91 5) (w 91 6) j) (thrF w 2 j (0))), (0, ((j + 1 : Nat) : Int))]) (st' := []) (w' := w) (n' := 142) rfl ?_
            have e9 : seG w 2 (w 91 4) (w 91 5) (w 91 6) (j + 1) = qor (seG w 2 (w 91 4) (w 91 5) (w 91 6) j) (thrF w 2 j (0)) := by rw [seG_s]; first | (rw [if_pos hb1, if_pos hfr, if_pos hcd]; done) | (rw [if_pos hb1, if_pos hfr, if_neg hcd]; done) | (rw [if_pos hb1, if_neg hfr]; done) | (rw [if_neg hb1]; done)
            exact e9 ▸ ih4 _ (by omega) (j + 1) rfl (by omega)
        · skip
          refine qG.blk 1 (pc' := 57) (ls' := [(2, 91), (2, 74), (0, seG w 2 (w 91 4) (w 91 5) (w 91 6) j), (0, wrp (((j : Nat) : Int) + 1))]) (st' := []) (w' := w) (n' := 142) rfl ?_
          rw [show wrp (((j : Nat) : Int) + 1) = ((j + 1 : Nat) : Int) from wrp_id (by omega) (by omega)]
          refine qG.blk 1 (pc' := 4) (ls' := [(2, 91), (2, 74), (0, seG w 2 (w 91 4) (w 91 5) (w 91 6) j), (0, ((j + 1 : Nat) : Int))]) (st' := []) (w' := w) (n' := 142) rfl ?_
          have e9 : seG w 2 (w 91 4) (w 91 5) (w 91 6) (j + 1) = seG w 2 (w 91 4) (w 91 5) (w 91 6) j := by rw [seG_s]; first | (rw [if_pos hb1, if_pos hfr, if_pos hcd]; done) | (rw [if_pos hb1, if_pos hfr, if_neg hcd]; done) | (rw [if_pos hb1, if_neg hfr]; done) | (rw [if_neg hb1]; done)
          exact e9 ▸ ih4 _ (by omega) (j + 1) rfl (by omega)
    · skip
      refine qG.blk 1 (pc' := 61) (ls' := [(2, 91), (2, 74), (0, seG w 2 (w 91 4) (w 91 5) (w 91 6) j), (0, ((j : Nat) : Int))]) (st' := [(0, seG w 2 (w 91 4) (w 91 5) (w 91 6) j)]) (w' := w) (n' := 142) rfl ?_
      refine qG.ret rfl rfl ?_
      subst hQ9
      exact ⟨by rw [show j = 10 by omega], rfl, rfl⟩
  exact L4 _ (0) rfl (by omega)
theorem K_take4 {d : Nat} (hd : 0 ≤ d) (k n : Int) (hk : 0 ≤ k ∧ k ≤ 5) (hn : yin (-2147483648, 2147483647) n) (w : qW) (hI : yInv zgf zga zra zSp w) : qG none d 112 0 [(2, 4), (0, k), (0, n)] [] w 142 (fun (r : qV) (w1 : qW) (n1 : Nat) => r = (9, 0) ∧ n1 = 142 ∧ yInv zgf zga zra zSp w1 ∧ TKP 4 k n w w1) := by
  rcases (show k = 0 ∨ k = 1 ∨ k = 2 ∨ k = 3 ∨ k = 4 ∨ k = 5 by omega) with rfl | rfl | rfl | rfl | rfl | rfl
  · refine qG.mono (K_take4_0 hd n w) ?_
    rintro r w1 n1 ⟨rfl, rfl, rfl⟩
    exact ⟨rfl, rfl, zup_f hI (b := (-2147483648, 2147483647)) rfl rfl rfl (qor_32 _ _), (by unfold oS; first | (rw [if_neg (by decide), if_neg (by decide)]; done) | (rw [if_neg (by decide)]; done) | (rw [if_pos rfl]; exact qup_k) | (rw [if_neg (by decide), if_pos rfl]; exact qup_k) | (rw [if_pos rfl]; exact (qup_j (by decide)).trans qup_k) | (rw [if_neg (by decide), if_neg (by decide)]; first | rfl | exact qup_j (by decide) | exact (qup_j (by decide)).trans (qup_j (by decide))) | (rw [if_neg (by decide)]; first | rfl | exact qup_j (by decide) | exact (qup_j (by decide)).trans (qup_j (by decide)))), (by unfold caS; first | (rw [if_neg (by decide), if_neg (by decide)]; done) | (rw [if_neg (by decide)]; done) | (rw [if_pos rfl]; exact qup_k) | (rw [if_neg (by decide), if_pos rfl]; exact qup_k) | (rw [if_pos rfl]; exact (qup_j (by decide)).trans qup_k) | (rw [if_neg (by decide), if_neg (by decide)]; first | rfl | exact qup_j (by decide) | exact (qup_j (by decide)).trans (qup_j (by decide))) | (rw [if_neg (by decide)]; first | rfl | exact qup_j (by decide) | exact (qup_j (by decide)).trans (qup_j (by decide)))), (by unfold sdS; first | (rw [if_neg (by decide), if_neg (by decide)]; done) | (rw [if_neg (by decide)]; done) | (rw [if_pos rfl]; exact qup_k) | (rw [if_neg (by decide), if_pos rfl]; exact qup_k) | (rw [if_pos rfl]; exact (qup_j (by decide)).trans qup_k) | (rw [if_neg (by decide), if_neg (by decide)]; first | rfl | exact qup_j (by decide) | exact (qup_j (by decide)).trans (qup_j (by decide))) | (rw [if_neg (by decide)]; first | rfl | exact qup_j (by decide) | exact (qup_j (by decide)).trans (qup_j (by decide)))), (by unfold tuS; first | (rw [if_neg (by decide), if_neg (by decide)]; done) | (rw [if_neg (by decide)]; done) | (rw [if_pos rfl]; exact qup_k) | (rw [if_neg (by decide), if_pos rfl]; exact qup_k) | (rw [if_pos rfl]; exact (qup_j (by decide)).trans qup_k) | (rw [if_neg (by decide), if_neg (by decide)]; first | rfl | exact qup_j (by decide) | exact (qup_j (by decide)).trans (qup_j (by decide))) | (rw [if_neg (by decide)]; first | rfl | exact qup_j (by decide) | exact (qup_j (by decide)).trans (qup_j (by decide)))), fun q j h => qup_f (by omega)⟩
  · refine qG.mono (K_take4_1 hd n w) ?_
    rintro r w1 n1 ⟨rfl, rfl, rfl⟩
    exact ⟨rfl, rfl, zup_f hI (b := (-2147483648, 2147483647)) rfl rfl rfl (qand_32 _ _), (by unfold oS; first | (rw [if_neg (by decide), if_neg (by decide)]; done) | (rw [if_neg (by decide)]; done) | (rw [if_pos rfl]; exact qup_k) | (rw [if_neg (by decide), if_pos rfl]; exact qup_k) | (rw [if_pos rfl]; exact (qup_j (by decide)).trans qup_k) | (rw [if_neg (by decide), if_neg (by decide)]; first | rfl | exact qup_j (by decide) | exact (qup_j (by decide)).trans (qup_j (by decide))) | (rw [if_neg (by decide)]; first | rfl | exact qup_j (by decide) | exact (qup_j (by decide)).trans (qup_j (by decide)))), (by unfold caS; first | (rw [if_neg (by decide), if_neg (by decide)]; done) | (rw [if_neg (by decide)]; done) | (rw [if_pos rfl]; exact qup_k) | (rw [if_neg (by decide), if_pos rfl]; exact qup_k) | (rw [if_pos rfl]; exact (qup_j (by decide)).trans qup_k) | (rw [if_neg (by decide), if_neg (by decide)]; first | rfl | exact qup_j (by decide) | exact (qup_j (by decide)).trans (qup_j (by decide))) | (rw [if_neg (by decide)]; first | rfl | exact qup_j (by decide) | exact (qup_j (by decide)).trans (qup_j (by decide)))), (by unfold sdS; first | (rw [if_neg (by decide), if_neg (by decide)]; done) | (rw [if_neg (by decide)]; done) | (rw [if_pos rfl]; exact qup_k) | (rw [if_neg (by decide), if_pos rfl]; exact qup_k) | (rw [if_pos rfl]; exact (qup_j (by decide)).trans qup_k) | (rw [if_neg (by decide), if_neg (by decide)]; first | rfl | exact qup_j (by decide) | exact (qup_j (by decide)).trans (qup_j (by decide))) | (rw [if_neg (by decide)]; first | rfl | exact qup_j (by decide) | exact (qup_j (by decide)).trans (qup_j (by decide)))), (by unfold tuS; first | (rw [if_neg (by decide), if_neg (by decide)]; done) | (rw [if_neg (by decide)]; done) | (rw [if_pos rfl]; exact qup_k) | (rw [if_neg (by decide), if_pos rfl]; exact qup_k) | (rw [if_pos rfl]; exact (qup_j (by decide)).trans qup_k) | (rw [if_neg (by decide), if_neg (by decide)]; first | rfl | exact qup_j (by decide) | exact (qup_j (by decide)).trans (qup_j (by decide))) | (rw [if_neg (by decide)]; first | rfl | exact qup_j (by decide) | exact (qup_j (by decide)).trans (qup_j (by decide)))), fun q j h => qup_f (by omega)⟩
  · refine qG.mono (K_take4_2 hd n w) ?_
    rintro r w1 n1 ⟨rfl, rfl, rfl⟩
    exact ⟨rfl, rfl, hI, (by unfold oS; first | (rw [if_neg (by decide), if_neg (by decide)]; done) | (rw [if_neg (by decide)]; done) | (rw [if_pos rfl]; exact qup_k) | (rw [if_neg (by decide), if_pos rfl]; exact qup_k) | (rw [if_pos rfl]; exact (qup_j (by decide)).trans qup_k) | (rw [if_neg (by decide), if_neg (by decide)]; first | rfl | exact qup_j (by decide) | exact (qup_j (by decide)).trans (qup_j (by decide))) | (rw [if_neg (by decide)]; first | rfl | exact qup_j (by decide) | exact (qup_j (by decide)).trans (qup_j (by decide)))), (by unfold caS; first | (rw [if_neg (by decide), if_neg (by decide)]; done) | (rw [if_neg (by decide)]; done) | (rw [if_pos rfl]; exact qup_k) | (rw [if_neg (by decide), if_pos rfl]; exact qup_k) | (rw [if_pos rfl]; exact (qup_j (by decide)).trans qup_k) | (rw [if_neg (by decide), if_neg (by decide)]; first | rfl | exact qup_j (by decide) | exact (qup_j (by decide)).trans (qup_j (by decide))) | (rw [if_neg (by decide)]; first | rfl | exact qup_j (by decide) | exact (qup_j (by decide)).trans (qup_j (by decide)))), (by unfold sdS; first | (rw [if_neg (by decide), if_neg (by decide)]; done) | (rw [if_neg (by decide)]; done) | (rw [if_pos rfl]; exact qup_k) | (rw [if_neg (by decide), if_pos rfl]; exact qup_k) | (rw [if_pos rfl]; exact (qup_j (by decide)).trans qup_k) | (rw [if_neg (by decide), if_neg (by decide)]; first | rfl | exact qup_j (by decide) | exact (qup_j (by decide)).trans (qup_j (by decide))) | (rw [if_neg (by decide)]; first | rfl | exact qup_j (by decide) | exact (qup_j (by decide)).trans (qup_j (by decide)))), (by unfold tuS; first | (rw [if_neg (by decide), if_neg (by decide)]; done) | (rw [if_neg (by decide)]; done) | (rw [if_pos rfl]; exact qup_k) | (rw [if_neg (by decide), if_pos rfl]; exact qup_k) | (rw [if_pos rfl]; exact (qup_j (by decide)).trans qup_k) | (rw [if_neg (by decide), if_neg (by decide)]; first | rfl | exact qup_j (by decide) | exact (qup_j (by decide)).trans (qup_j (by decide))) | (rw [if_neg (by decide)]; first | rfl | exact qup_j (by decide) | exact (qup_j (by decide)).trans (qup_j (by decide)))), fun q j h => rfl⟩
  · refine qG.mono (K_take4_3 hd n w) ?_
    rintro r w1 n1 ⟨rfl, rfl, rfl⟩
    exact ⟨rfl, rfl, zup_f hI (b := (-2147483648, 2147483647)) rfl rfl rfl hn, (by unfold oS; first | (rw [if_neg (by decide), if_neg (by decide)]; done) | (rw [if_neg (by decide)]; done) | (rw [if_pos rfl]; exact qup_k) | (rw [if_neg (by decide), if_pos rfl]; exact qup_k) | (rw [if_pos rfl]; exact (qup_j (by decide)).trans qup_k) | (rw [if_neg (by decide), if_neg (by decide)]; first | rfl | exact qup_j (by decide) | exact (qup_j (by decide)).trans (qup_j (by decide))) | (rw [if_neg (by decide)]; first | rfl | exact qup_j (by decide) | exact (qup_j (by decide)).trans (qup_j (by decide)))), (by unfold caS; first | (rw [if_neg (by decide), if_neg (by decide)]; done) | (rw [if_neg (by decide)]; done) | (rw [if_pos rfl]; exact qup_k) | (rw [if_neg (by decide), if_pos rfl]; exact qup_k) | (rw [if_pos rfl]; exact (qup_j (by decide)).trans qup_k) | (rw [if_neg (by decide), if_neg (by decide)]; first | rfl | exact qup_j (by decide) | exact (qup_j (by decide)).trans (qup_j (by decide))) | (rw [if_neg (by decide)]; first | rfl | exact qup_j (by decide) | exact (qup_j (by decide)).trans (qup_j (by decide)))), (by unfold sdS; first | (rw [if_neg (by decide), if_neg (by decide)]; done) | (rw [if_neg (by decide)]; done) | (rw [if_pos rfl]; exact qup_k) | (rw [if_neg (by decide), if_pos rfl]; exact qup_k) | (rw [if_pos rfl]; exact (qup_j (by decide)).trans qup_k) | (rw [if_neg (by decide), if_neg (by decide)]; first | rfl | exact qup_j (by decide) | exact (qup_j (by decide)).trans (qup_j (by decide))) | (rw [if_neg (by decide)]; first | rfl | exact qup_j (by decide) | exact (qup_j (by decide)).trans (qup_j (by decide)))), (by unfold tuS; first | (rw [if_neg (by decide), if_neg (by decide)]; done) | (rw [if_neg (by decide)]; done) | (rw [if_pos rfl]; exact qup_k) | (rw [if_neg (by decide), if_pos rfl]; exact qup_k) | (rw [if_pos rfl]; exact (qup_j (by decide)).trans qup_k) | (rw [if_neg (by decide), if_neg (by decide)]; first | rfl | exact qup_j (by decide) | exact (qup_j (by decide)).trans (qup_j (by decide))) | (rw [if_neg (by decide)]; first | rfl | exact qup_j (by decide) | exact (qup_j (by decide)).trans (qup_j (by decide)))), fun q j h => qup_f (by omega)⟩
  · refine qG.mono (K_take4_4 hd n w) ?_
    rintro r w1 n1 ⟨rfl, rfl, rfl⟩
    exact ⟨rfl, rfl, zup_f hI (b := (-2147483648, 2147483647)) rfl rfl rfl ⟨by decide, by decide⟩, (by unfold oS; first | (rw [if_neg (by decide), if_neg (by decide)]; done) | (rw [if_neg (by decide)]; done) | (rw [if_pos rfl]; exact qup_k) | (rw [if_neg (by decide), if_pos rfl]; exact qup_k) | (rw [if_pos rfl]; exact (qup_j (by decide)).trans qup_k) | (rw [if_neg (by decide), if_neg (by decide)]; first | rfl | exact qup_j (by decide) | exact (qup_j (by decide)).trans (qup_j (by decide))) | (rw [if_neg (by decide)]; first | rfl | exact qup_j (by decide) | exact (qup_j (by decide)).trans (qup_j (by decide)))), (by unfold caS; first | (rw [if_neg (by decide), if_neg (by decide)]; done) | (rw [if_neg (by decide)]; done) | (rw [if_pos rfl]; exact qup_k) | (rw [if_neg (by decide), if_pos rfl]; exact qup_k) | (rw [if_pos rfl]; exact (qup_j (by decide)).trans qup_k) | (rw [if_neg (by decide), if_neg (by decide)]; first | rfl | exact qup_j (by decide) | exact (qup_j (by decide)).trans (qup_j (by decide))) | (rw [if_neg (by decide)]; first | rfl | exact qup_j (by decide) | exact (qup_j (by decide)).trans (qup_j (by decide)))), (by unfold sdS; first | (rw [if_neg (by decide), if_neg (by decide)]; done) | (rw [if_neg (by decide)]; done) | (rw [if_pos rfl]; exact qup_k) | (rw [if_neg (by decide), if_pos rfl]; exact qup_k) | (rw [if_pos rfl]; exact (qup_j (by decide)).trans qup_k) | (rw [if_neg (by decide), if_neg (by decide)]; first | rfl | exact qup_j (by decide) | exact (qup_j (by decide)).trans (qup_j (by decide))) | (rw [if_neg (by decide)]; first | rfl | exact qup_j (by decide) | exact (qup_j (by decide)).trans (qup_j (by decide)))), (by unfold tuS; first | (rw [if_neg (by decide), if_neg (by decide)]; done) | (rw [if_neg (by decide)]; done) | (rw [if_pos rfl]; exact qup_k) | (rw [if_neg (by decide), if_pos rfl]; exact qup_k) | (rw [if_pos rfl]; exact (qup_j (by decide)).trans qup_k) | (rw [if_neg (by decide), if_neg (by decide)]; first | rfl | exact qup_j (by decide) | exact (qup_j (by decide)).trans (qup_j (by decide))) | (rw [if_neg (by decide)]; first | rfl | exact qup_j (by decide) | exact (qup_j (by decide)).trans (qup_j (by decide)))), fun q j h => qup_f (by omega)⟩
  · refine qG.mono (K_take4_5 hd n w) ?_
    rintro r w1 n1 ⟨rfl, rfl, rfl⟩
    have q := hI.1 4 6 (0, 1) rfl rfl
    have q1 : (0 : Int) ≤ w 4 6 := q.1
    have q2 : w 4 6 ≤ (1 : Int) := q.2
    refine ⟨rfl, rfl, zup_f (zup_f hI (b := (0, 1)) rfl rfl rfl (by have q := hI.1 4 6 (0, 1) rfl rfl; have q1 : (0 : Int) ≤ w 4 6 := q.1; have q2 : w 4 6 ≤ (1 : Int) := q.2; rw [wrp_id (by omega) (by omega)]; exact ⟨by show (0 : Int) ≤ _; omega, by show _ ≤ (1 : Int); omega⟩)) (b := (-2147483648, 2147483647)) rfl rfl rfl (wrp_32 _), (by unfold oS; first | (rw [if_neg (by decide), if_neg (by decide)]; done) | (rw [if_neg (by decide)]; done) | (rw [if_pos rfl]; exact qup_k) | (rw [if_neg (by decide), if_pos rfl]; exact qup_k) | (rw [if_pos rfl]; exact (qup_j (by decide)).trans qup_k) | (rw [if_neg (by decide), if_neg (by decide)]; first | rfl | exact qup_j (by decide) | exact (qup_j (by decide)).trans (qup_j (by decide))) | (rw [if_neg (by decide)]; first | rfl | exact qup_j (by decide) | exact (qup_j (by decide)).trans (qup_j (by decide)))), (by unfold caS; first | (rw [if_neg (by decide), if_neg (by decide)]; done) | (rw [if_neg (by decide)]; done) | (rw [if_pos rfl]; exact qup_k) | (rw [if_neg (by decide), if_pos rfl]; exact qup_k) | (rw [if_pos rfl]; exact (qup_j (by decide)).trans qup_k) | (rw [if_neg (by decide), if_neg (by decide)]; first | rfl | exact qup_j (by decide) | exact (qup_j (by decide)).trans (qup_j (by decide))) | (rw [if_neg (by decide)]; first | rfl | exact qup_j (by decide) | exact (qup_j (by decide)).trans (qup_j (by decide)))), ?_, (by unfold tuS; first | (rw [if_neg (by decide), if_neg (by decide)]; done) | (rw [if_neg (by decide)]; done) | (rw [if_pos rfl]; exact qup_k) | (rw [if_neg (by decide), if_pos rfl]; exact qup_k) | (rw [if_pos rfl]; exact (qup_j (by decide)).trans qup_k) | (rw [if_neg (by decide), if_neg (by decide)]; first | rfl | exact qup_j (by decide) | exact (qup_j (by decide)).trans (qup_j (by decide))) | (rw [if_neg (by decide)]; first | rfl | exact qup_j (by decide) | exact (qup_j (by decide)).trans (qup_j (by decide)))), fun q j h => ?_⟩
    · unfold sdS; rw [if_pos rfl, wrp_id (by omega) (by omega)]; exact (qup_j (by decide)).trans qup_k
    · exact (qup_f (by omega)).trans (qup_f (by omega))
theorem K_take79 {d : Nat} (hd : 0 ≤ d) (k n : Int) (hk : 0 ≤ k ∧ k ≤ 5) (hn : yin (-2147483648, 2147483647) n) (w : qW) (hI : yInv zgf zga zra zSp w) : qG none d 112 0 [(2, 79), (0, k), (0, n)] [] w 142 (fun (r : qV) (w1 : qW) (n1 : Nat) => r = (9, 0) ∧ n1 = 142 ∧ yInv zgf zga zra zSp w1 ∧ TKP 79 k n w w1) := by
  rcases (show k = 0 ∨ k = 1 ∨ k = 2 ∨ k = 3 ∨ k = 4 ∨ k = 5 by omega) with rfl | rfl | rfl | rfl | rfl | rfl
  · refine qG.mono (K_take79_0 hd n w) ?_
    rintro r w1 n1 ⟨rfl, rfl, rfl⟩
    exact ⟨rfl, rfl, zup_f hI (b := (-2147483648, 2147483647)) rfl rfl rfl (qor_32 _ _), (by unfold oS; first | (rw [if_neg (by decide), if_neg (by decide)]; done) | (rw [if_neg (by decide)]; done) | (rw [if_pos rfl]; exact qup_k) | (rw [if_neg (by decide), if_pos rfl]; exact qup_k) | (rw [if_pos rfl]; exact (qup_j (by decide)).trans qup_k) | (rw [if_neg (by decide), if_neg (by decide)]; first | rfl | exact qup_j (by decide) | exact (qup_j (by decide)).trans (qup_j (by decide))) | (rw [if_neg (by decide)]; first | rfl | exact qup_j (by decide) | exact (qup_j (by decide)).trans (qup_j (by decide)))), (by unfold caS; first | (rw [if_neg (by decide), if_neg (by decide)]; done) | (rw [if_neg (by decide)]; done) | (rw [if_pos rfl]; exact qup_k) | (rw [if_neg (by decide), if_pos rfl]; exact qup_k) | (rw [if_pos rfl]; exact (qup_j (by decide)).trans qup_k) | (rw [if_neg (by decide), if_neg (by decide)]; first | rfl | exact qup_j (by decide) | exact (qup_j (by decide)).trans (qup_j (by decide))) | (rw [if_neg (by decide)]; first | rfl | exact qup_j (by decide) | exact (qup_j (by decide)).trans (qup_j (by decide)))), (by unfold sdS; first | (rw [if_neg (by decide), if_neg (by decide)]; done) | (rw [if_neg (by decide)]; done) | (rw [if_pos rfl]; exact qup_k) | (rw [if_neg (by decide), if_pos rfl]; exact qup_k) | (rw [if_pos rfl]; exact (qup_j (by decide)).trans qup_k) | (rw [if_neg (by decide), if_neg (by decide)]; first | rfl | exact qup_j (by decide) | exact (qup_j (by decide)).trans (qup_j (by decide))) | (rw [if_neg (by decide)]; first | rfl | exact qup_j (by decide) | exact (qup_j (by decide)).trans (qup_j (by decide)))), (by unfold tuS; first | (rw [if_neg (by decide), if_neg (by decide)]; done) | (rw [if_neg (by decide)]; done) | (rw [if_pos rfl]; exact qup_k) | (rw [if_neg (by decide), if_pos rfl]; exact qup_k) | (rw [if_pos rfl]; exact (qup_j (by decide)).trans qup_k) | (rw [if_neg (by decide), if_neg (by decide)]; first | rfl | exact qup_j (by decide) | exact (qup_j (by decide)).trans (qup_j (by decide))) | (rw [if_neg (by decide)]; first | rfl | exact qup_j (by decide) | exact (qup_j (by decide)).trans (qup_j (by decide)))), fun q j h => qup_f (by omega)⟩
  · refine qG.mono (K_take79_1 hd n w) ?_
    rintro r w1 n1 ⟨rfl, rfl, rfl⟩
    exact ⟨rfl, rfl, zup_f hI (b := (-2147483648, 2147483647)) rfl rfl rfl (qand_32 _ _), (by unfold oS; first | (rw [if_neg (by decide), if_neg (by decide)]; done) | (rw [if_neg (by decide)]; done) | (rw [if_pos rfl]; exact qup_k) | (rw [if_neg (by decide), if_pos rfl]; exact qup_k) | (rw [if_pos rfl]; exact (qup_j (by decide)).trans qup_k) | (rw [if_neg (by decide), if_neg (by decide)]; first | rfl | exact qup_j (by decide) | exact (qup_j (by decide)).trans (qup_j (by decide))) | (rw [if_neg (by decide)]; first | rfl | exact qup_j (by decide) | exact (qup_j (by decide)).trans (qup_j (by decide)))), (by unfold caS; first | (rw [if_neg (by decide), if_neg (by decide)]; done) | (rw [if_neg (by decide)]; done) | (rw [if_pos rfl]; exact qup_k) | (rw [if_neg (by decide), if_pos rfl]; exact qup_k) | (rw [if_pos rfl]; exact (qup_j (by decide)).trans qup_k) | (rw [if_neg (by decide), if_neg (by decide)]; first | rfl | exact qup_j (by decide) | exact (qup_j (by decide)).trans (qup_j (by decide))) | (rw [if_neg (by decide)]; first | rfl | exact qup_j (by decide) | exact (qup_j (by decide)).trans (qup_j (by decide)))), (by unfold sdS; first | (rw [if_neg (by decide), if_neg (by decide)]; done) | (rw [if_neg (by decide)]; done) | (rw [if_pos rfl]; exact qup_k) | (rw [if_neg (by decide), if_pos rfl]; exact qup_k) | (rw [if_pos rfl]; exact (qup_j (by decide)).trans qup_k) | (rw [if_neg (by decide), if_neg (by decide)]; first | rfl | exact qup_j (by decide) | exact (qup_j (by decide)).trans (qup_j (by decide))) | (rw [if_neg (by decide)]; first | rfl | exact qup_j (by decide) | exact (qup_j (by decide)).trans (qup_j (by decide)))), (by unfold tuS; first | (rw [if_neg (by decide), if_neg (by decide)]; done) | (rw [if_neg (by decide)]; done) | (rw [if_pos rfl]; exact qup_k) | (rw [if_neg (by decide), if_pos rfl]; exact qup_k) | (rw [if_pos rfl]; exact (qup_j (by decide)).trans qup_k) | (rw [if_neg (by decide), if_neg (by decide)]; first | rfl | exact qup_j (by decide) | exact (qup_j (by decide)).trans (qup_j (by decide))) | (rw [if_neg (by decide)]; first | rfl | exact qup_j (by decide) | exact (qup_j (by decide)).trans (qup_j (by decide)))), fun q j h => qup_f (by omega)⟩
  · refine qG.mono (K_take79_2 hd n w) ?_
    rintro r w1 n1 ⟨rfl, rfl, rfl⟩
    exact ⟨rfl, rfl, hI, (by unfold oS; first | (rw [if_neg (by decide), if_neg (by decide)]; done) | (rw [if_neg (by decide)]; done) | (rw [if_pos rfl]; exact qup_k) | (rw [if_neg (by decide), if_pos rfl]; exact qup_k) | (rw [if_pos rfl]; exact (qup_j (by decide)).trans qup_k) | (rw [if_neg (by decide), if_neg (by decide)]; first | rfl | exact qup_j (by decide) | exact (qup_j (by decide)).trans (qup_j (by decide))) | (rw [if_neg (by decide)]; first | rfl | exact qup_j (by decide) | exact (qup_j (by decide)).trans (qup_j (by decide)))), (by unfold caS; first | (rw [if_neg (by decide), if_neg (by decide)]; done) | (rw [if_neg (by decide)]; done) | (rw [if_pos rfl]; exact qup_k) | (rw [if_neg (by decide), if_pos rfl]; exact qup_k) | (rw [if_pos rfl]; exact (qup_j (by decide)).trans qup_k) | (rw [if_neg (by decide), if_neg (by decide)]; first | rfl | exact qup_j (by decide) | exact (qup_j (by decide)).trans (qup_j (by decide))) | (rw [if_neg (by decide)]; first | rfl | exact qup_j (by decide) | exact (qup_j (by decide)).trans (qup_j (by decide)))), (by unfold sdS; first | (rw [if_neg (by decide), if_neg (by decide)]; done) | (rw [if_neg (by decide)]; done) | (rw [if_pos rfl]; exact qup_k) | (rw [if_neg (by decide), if_pos rfl]; exact qup_k) | (rw [if_pos rfl]; exact (qup_j (by decide)).trans qup_k) | (rw [if_neg (by decide), if_neg (by decide)]; first | rfl | exact qup_j (by decide) | exact (qup_j (by decide)).trans (qup_j (by decide))) | (rw [if_neg (by decide)]; first | rfl | exact qup_j (by decide) | exact (qup_j (by decide)).trans (qup_j (by decide)))), (by unfold tuS; first | (rw [if_neg (by decide), if_neg (by decide)]; done) | (rw [if_neg (by decide)]; done) | (rw [if_pos rfl]; exact qup_k) | (rw [if_neg (by decide), if_pos rfl]; exact qup_k) | (rw [if_pos rfl]; exact (qup_j (by decide)).trans qup_k) | (rw [if_neg (by decide), if_neg (by decide)]; first | rfl | exact qup_j (by decide) | exact (qup_j (by decide)).trans (qup_j (by decide))) | (rw [if_neg (by decide)]; first | rfl | exact qup_j (by decide) | exact (qup_j (by decide)).trans (qup_j (by decide)))), fun q j h => rfl⟩
  · refine qG.mono (K_take79_3 hd n w) ?_
    rintro r w1 n1 ⟨rfl, rfl, rfl⟩
    exact ⟨rfl, rfl, zup_f hI (b := (-2147483648, 2147483647)) rfl rfl rfl hn, (by unfold oS; first | (rw [if_neg (by decide), if_neg (by decide)]; done) | (rw [if_neg (by decide)]; done) | (rw [if_pos rfl]; exact qup_k) | (rw [if_neg (by decide), if_pos rfl]; exact qup_k) | (rw [if_pos rfl]; exact (qup_j (by decide)).trans qup_k) | (rw [if_neg (by decide), if_neg (by decide)]; first | rfl | exact qup_j (by decide) | exact (qup_j (by decide)).trans (qup_j (by decide))) | (rw [if_neg (by decide)]; first | rfl | exact qup_j (by decide) | exact (qup_j (by decide)).trans (qup_j (by decide)))), (by unfold caS; first | (rw [if_neg (by decide), if_neg (by decide)]; done) | (rw [if_neg (by decide)]; done) | (rw [if_pos rfl]; exact qup_k) | (rw [if_neg (by decide), if_pos rfl]; exact qup_k) | (rw [if_pos rfl]; exact (qup_j (by decide)).trans qup_k) | (rw [if_neg (by decide), if_neg (by decide)]; first | rfl | exact qup_j (by decide) | exact (qup_j (by decide)).trans (qup_j (by decide))) | (rw [if_neg (by decide)]; first | rfl | exact qup_j (by decide) | exact (qup_j (by decide)).trans (qup_j (by decide)))), (by unfold sdS; first | (rw [if_neg (by decide), if_neg (by decide)]; done) | (rw [if_neg (by decide)]; done) | (rw [if_pos rfl]; exact qup_k) | (rw [if_neg (by decide), if_pos rfl]; exact qup_k) | (rw [if_pos rfl]; exact (qup_j (by decide)).trans qup_k) | (rw [if_neg (by decide), if_neg (by decide)]; first | rfl | exact qup_j (by decide) | exact (qup_j (by decide)).trans (qup_j (by decide))) | (rw [if_neg (by decide)]; first | rfl | exact qup_j (by decide) | exact (qup_j (by decide)).trans (qup_j (by decide)))), (by unfold tuS; first | (rw [if_neg (by decide), if_neg (by decide)]; done) | (rw [if_neg (by decide)]; done) | (rw [if_pos rfl]; exact qup_k) | (rw [if_neg (by decide), if_pos rfl]; exact qup_k) | (rw [if_pos rfl]; exact (qup_j (by decide)).trans qup_k) | (rw [if_neg (by decide), if_neg (by decide)]; first | rfl | exact qup_j (by decide) | exact (qup_j (by decide)).trans (qup_j (by decide))) | (rw [if_neg (by decide)]; first | rfl | exact qup_j (by decide) | exact (qup_j (by decide)).trans (qup_j (by decide)))), fun q j h => qup_f (by omega)⟩
  · refine qG.mono (K_take79_4 hd n w) ?_
    rintro r w1 n1 ⟨rfl, rfl, rfl⟩
    exact ⟨rfl, rfl, zup_f hI (b := (-2147483648, 2147483647)) rfl rfl rfl ⟨by decide, by decide⟩, (by unfold oS; first | (rw [if_neg (by decide), if_neg (by decide)]; done) | (rw [if_neg (by decide)]; done) | (rw [if_pos rfl]; exact qup_k) | (rw [if_neg (by decide), if_pos rfl]; exact qup_k) | (rw [if_pos rfl]; exact (qup_j (by decide)).trans qup_k) | (rw [if_neg (by decide), if_neg (by decide)]; first | rfl | exact qup_j (by decide) | exact (qup_j (by decide)).trans (qup_j (by decide))) | (rw [if_neg (by decide)]; first | rfl | exact qup_j (by decide) | exact (qup_j (by decide)).trans (qup_j (by decide)))), (by unfold caS; first | (rw [if_neg (by decide), if_neg (by decide)]; done) | (rw [if_neg (by decide)]; done) | (rw [if_pos rfl]; exact qup_k) | (rw [if_neg (by decide), if_pos rfl]; exact qup_k) | (rw [if_pos rfl]; exact (qup_j (by decide)).trans qup_k) | (rw [if_neg (by decide), if_neg (by decide)]; first | rfl | exact qup_j (by decide) | exact (qup_j (by decide)).trans (qup_j (by decide))) | (rw [if_neg (by decide)]; first | rfl | exact qup_j (by decide) | exact (qup_j (by decide)).trans (qup_j (by decide)))), (by unfold sdS; first | (rw [if_neg (by decide), if_neg (by decide)]; done) | (rw [if_neg (by decide)]; done) | (rw [if_pos rfl]; exact qup_k) | (rw [if_neg (by decide), if_pos rfl]; exact qup_k) | (rw [if_pos rfl]; exact (qup_j (by decide)).trans qup_k) | (rw [if_neg (by decide), if_neg (by decide)]; first | rfl | exact qup_j (by decide) | exact (qup_j (by decide)).trans (qup_j (by decide))) | (rw [if_neg (by decide)]; first | rfl | exact qup_j (by decide) | exact (qup_j (by decide)).trans (qup_j (by decide)))), (by unfold tuS; first | (rw [if_neg (by decide), if_neg (by decide)]; done) | (rw [if_neg (by decide)]; done) | (rw [if_pos rfl]; exact qup_k) | (rw [if_neg (by decide), if_pos rfl]; exact qup_k) | (rw [if_pos rfl]; exact (qup_j (by decide)).trans qup_k) | (rw [if_neg (by decide), if_neg (by decide)]; first | rfl | exact qup_j (by decide) | exact (qup_j (by decide)).trans (qup_j (by decide))) | (rw [if_neg (by decide)]; first | rfl | exact qup_j (by decide) | exact (qup_j (by decide)).trans (qup_j (by decide)))), fun q j h => qup_f (by omega)⟩
  · refine qG.mono (K_take79_5 hd n w) ?_
    rintro r w1 n1 ⟨rfl, rfl, rfl⟩
    have q := hI.1 79 6 (0, 1) rfl rfl
    have q1 : (0 : Int) ≤ w 79 6 := q.1
    have q2 : w 79 6 ≤ (1 : Int) := q.2
    refine ⟨rfl, rfl, zup_f (zup_f hI (b := (0, 1)) rfl rfl rfl (by have q := hI.1 79 6 (0, 1) rfl rfl; have q1 : (0 : Int) ≤ w 79 6 := q.1; have q2 : w 79 6 ≤ (1 : Int) := q.2; rw [wrp_id (by omega) (by omega)]; exact ⟨by show (0 : Int) ≤ _; omega, by show _ ≤ (1 : Int); omega⟩)) (b := (-2147483648, 2147483647)) rfl rfl rfl (wrp_32 _), (by unfold oS; first | (rw [if_neg (by decide), if_neg (by decide)]; done) | (rw [if_neg (by decide)]; done) | (rw [if_pos rfl]; exact qup_k) | (rw [if_neg (by decide), if_pos rfl]; exact qup_k) | (rw [if_pos rfl]; exact (qup_j (by decide)).trans qup_k) | (rw [if_neg (by decide), if_neg (by decide)]; first | rfl | exact qup_j (by decide) | exact (qup_j (by decide)).trans (qup_j (by decide))) | (rw [if_neg (by decide)]; first | rfl | exact qup_j (by decide) | exact (qup_j (by decide)).trans (qup_j (by decide)))), (by unfold caS; first | (rw [if_neg (by decide), if_neg (by decide)]; done) | (rw [if_neg (by decide)]; done) | (rw [if_pos rfl]; exact qup_k) | (rw [if_neg (by decide), if_pos rfl]; exact qup_k) | (rw [if_pos rfl]; exact (qup_j (by decide)).trans qup_k) | (rw [if_neg (by decide), if_neg (by decide)]; first | rfl | exact qup_j (by decide) | exact (qup_j (by decide)).trans (qup_j (by decide))) | (rw [if_neg (by decide)]; first | rfl | exact qup_j (by decide) | exact (qup_j (by decide)).trans (qup_j (by decide)))), ?_, (by unfold tuS; first | (rw [if_neg (by decide), if_neg (by decide)]; done) | (rw [if_neg (by decide)]; done) | (rw [if_pos rfl]; exact qup_k) | (rw [if_neg (by decide), if_pos rfl]; exact qup_k) | (rw [if_pos rfl]; exact (qup_j (by decide)).trans qup_k) | (rw [if_neg (by decide), if_neg (by decide)]; first | rfl | exact qup_j (by decide) | exact (qup_j (by decide)).trans (qup_j (by decide))) | (rw [if_neg (by decide)]; first | rfl | exact qup_j (by decide) | exact (qup_j (by decide)).trans (qup_j (by decide)))), fun q j h => ?_⟩
    · unfold sdS; rw [if_pos rfl, wrp_id (by omega) (by omega)]; exact (qup_j (by decide)).trans qup_k
    · exact (qup_f (by omega)).trans (qup_f (by omega))
theorem K_take83 {d : Nat} (hd : 0 ≤ d) (k n : Int) (hk : 0 ≤ k ∧ k ≤ 5) (hn : yin (-2147483648, 2147483647) n) (w : qW) (hI : yInv zgf zga zra zSp w) : qG none d 112 0 [(2, 83), (0, k), (0, n)] [] w 142 (fun (r : qV) (w1 : qW) (n1 : Nat) => r = (9, 0) ∧ n1 = 142 ∧ yInv zgf zga zra zSp w1 ∧ TKP 83 k n w w1) := by
  rcases (show k = 0 ∨ k = 1 ∨ k = 2 ∨ k = 3 ∨ k = 4 ∨ k = 5 by omega) with rfl | rfl | rfl | rfl | rfl | rfl
  · refine qG.mono (K_take83_0 hd n w) ?_
    rintro r w1 n1 ⟨rfl, rfl, rfl⟩
    exact ⟨rfl, rfl, zup_f hI (b := (-2147483648, 2147483647)) rfl rfl rfl (qor_32 _ _), (by unfold oS; first | (rw [if_neg (by decide), if_neg (by decide)]; done) | (rw [if_neg (by decide)]; done) | (rw [if_pos rfl]; exact qup_k) | (rw [if_neg (by decide), if_pos rfl]; exact qup_k) | (rw [if_pos rfl]; exact (qup_j (by decide)).trans qup_k) | (rw [if_neg (by decide), if_neg (by decide)]; first | rfl | exact qup_j (by decide) | exact (qup_j (by decide)).trans (qup_j (by decide))) | (rw [if_neg (by decide)]; first | rfl | exact qup_j (by decide) | exact (qup_j (by decide)).trans (qup_j (by decide)))), (by unfold caS; first | (rw [if_neg (by decide), if_neg (by decide)]; done) | (rw [if_neg (by decide)]; done) | (rw [if_pos rfl]; exact qup_k) | (rw [if_neg (by decide), if_pos rfl]; exact qup_k) | (rw [if_pos rfl]; exact (qup_j (by decide)).trans qup_k) | (rw [if_neg (by decide), if_neg (by decide)]; first | rfl | exact qup_j (by decide) | exact (qup_j (by decide)).trans (qup_j (by decide))) | (rw [if_neg (by decide)]; first | rfl | exact qup_j (by decide) | exact (qup_j (by decide)).trans (qup_j (by decide)))), (by unfold sdS; first | (rw [if_neg (by decide), if_neg (by decide)]; done) | (rw [if_neg (by decide)]; done) | (rw [if_pos rfl]; exact qup_k) | (rw [if_neg (by decide), if_pos rfl]; exact qup_k) | (rw [if_pos rfl]; exact (qup_j (by decide)).trans qup_k) | (rw [if_neg (by decide), if_neg (by decide)]; first | rfl | exact qup_j (by decide) | exact (qup_j (by decide)).trans (qup_j (by decide))) | (rw [if_neg (by decide)]; first | rfl | exact qup_j (by decide) | exact (qup_j (by decide)).trans (qup_j (by decide)))), (by unfold tuS; first | (rw [if_neg (by decide), if_neg (by decide)]; done) | (rw [if_neg (by decide)]; done) | (rw [if_pos rfl]; exact qup_k) | (rw [if_neg (by decide), if_pos rfl]; exact qup_k) | (rw [if_pos rfl]; exact (qup_j (by decide)).trans qup_k) | (rw [if_neg (by decide), if_neg (by decide)]; first | rfl | exact qup_j (by decide) | exact (qup_j (by decide)).trans (qup_j (by decide))) | (rw [if_neg (by decide)]; first | rfl | exact qup_j (by decide) | exact (qup_j (by decide)).trans (qup_j (by decide)))), fun q j h => qup_f (by omega)⟩
  · refine qG.mono (K_take83_1 hd n w) ?_
    rintro r w1 n1 ⟨rfl, rfl, rfl⟩
    exact ⟨rfl, rfl, zup_f hI (b := (-2147483648, 2147483647)) rfl rfl rfl (qand_32 _ _), (by unfold oS; first | (rw [if_neg (by decide), if_neg (by decide)]; done) | (rw [if_neg (by decide)]; done) | (rw [if_pos rfl]; exact qup_k) | (rw [if_neg (by decide), if_pos rfl]; exact qup_k) | (rw [if_pos rfl]; exact (qup_j (by decide)).trans qup_k) | (rw [if_neg (by decide), if_neg (by decide)]; first | rfl | exact qup_j (by decide) | exact (qup_j (by decide)).trans (qup_j (by decide))) | (rw [if_neg (by decide)]; first | rfl | exact qup_j (by decide) | exact (qup_j (by decide)).trans (qup_j (by decide)))), (by unfold caS; first | (rw [if_neg (by decide), if_neg (by decide)]; done) | (rw [if_neg (by decide)]; done) | (rw [if_pos rfl]; exact qup_k) | (rw [if_neg (by decide), if_pos rfl]; exact qup_k) | (rw [if_pos rfl]; exact (qup_j (by decide)).trans qup_k) | (rw [if_neg (by decide), if_neg (by decide)]; first | rfl | exact qup_j (by decide) | exact (qup_j (by decide)).trans (qup_j (by decide))) | (rw [if_neg (by decide)]; first | rfl | exact qup_j (by decide) | exact (qup_j (by decide)).trans (qup_j (by decide)))), (by unfold sdS; first | (rw [if_neg (by decide), if_neg (by decide)]; done) | (rw [if_neg (by decide)]; done) | (rw [if_pos rfl]; exact qup_k) | (rw [if_neg (by decide), if_pos rfl]; exact qup_k) | (rw [if_pos rfl]; exact (qup_j (by decide)).trans qup_k) | (rw [if_neg (by decide), if_neg (by decide)]; first | rfl | exact qup_j (by decide) | exact (qup_j (by decide)).trans (qup_j (by decide))) | (rw [if_neg (by decide)]; first | rfl | exact qup_j (by decide) | exact (qup_j (by decide)).trans (qup_j (by decide)))), (by unfold tuS; first | (rw [if_neg (by decide), if_neg (by decide)]; done) | (rw [if_neg (by decide)]; done) | (rw [if_pos rfl]; exact qup_k) | (rw [if_neg (by decide), if_pos rfl]; exact qup_k) | (rw [if_pos rfl]; exact (qup_j (by decide)).trans qup_k) | (rw [if_neg (by decide), if_neg (by decide)]; first | rfl | exact qup_j (by decide) | exact (qup_j (by decide)).trans (qup_j (by decide))) | (rw [if_neg (by decide)]; first | rfl | exact qup_j (by decide) | exact (qup_j (by decide)).trans (qup_j (by decide)))), fun q j h => qup_f (by omega)⟩
  · refine qG.mono (K_take83_2 hd n w) ?_
    rintro r w1 n1 ⟨rfl, rfl, rfl⟩
    exact ⟨rfl, rfl, hI, (by unfold oS; first | (rw [if_neg (by decide), if_neg (by decide)]; done) | (rw [if_neg (by decide)]; done) | (rw [if_pos rfl]; exact qup_k) | (rw [if_neg (by decide), if_pos rfl]; exact qup_k) | (rw [if_pos rfl]; exact (qup_j (by decide)).trans qup_k) | (rw [if_neg (by decide), if_neg (by decide)]; first | rfl | exact qup_j (by decide) | exact (qup_j (by decide)).trans (qup_j (by decide))) | (rw [if_neg (by decide)]; first | rfl | exact qup_j (by decide) | exact (qup_j (by decide)).trans (qup_j (by decide)))), (by unfold caS; first | (rw [if_neg (by decide), if_neg (by decide)]; done) | (rw [if_neg (by decide)]; done) | (rw [if_pos rfl]; exact qup_k) | (rw [if_neg (by decide), if_pos rfl]; exact qup_k) | (rw [if_pos rfl]; exact (qup_j (by decide)).trans qup_k) | (rw [if_neg (by decide), if_neg (by decide)]; first | rfl | exact qup_j (by decide) | exact (qup_j (by decide)).trans (qup_j (by decide))) | (rw [if_neg (by decide)]; first | rfl | exact qup_j (by decide) | exact (qup_j (by decide)).trans (qup_j (by decide)))), (by unfold sdS; first | (rw [if_neg (by decide), if_neg (by decide)]; done) | (rw [if_neg (by decide)]; done) | (rw [if_pos rfl]; exact qup_k) | (rw [if_neg (by decide), if_pos rfl]; exact qup_k) | (rw [if_pos rfl]; exact (qup_j (by decide)).trans qup_k) | (rw [if_neg (by decide), if_neg (by decide)]; first | rfl | exact qup_j (by decide) | exact (qup_j (by decide)).trans (qup_j (by decide))) | (rw [if_neg (by decide)]; first | rfl | exact qup_j (by decide) | exact (qup_j (by decide)).trans (qup_j (by decide)))), (by unfold tuS; first | (rw [if_neg (by decide), if_neg (by decide)]; done) | (rw [if_neg (by decide)]; done) | (rw [if_pos rfl]; exact qup_k) | (rw [if_neg (by decide), if_pos rfl]; exact qup_k) | (rw [if_pos rfl]; exact (qup_j (by decide)).trans qup_k) | (rw [if_neg (by decide), if_neg (by decide)]; first | rfl | exact qup_j (by decide) | exact (qup_j (by decide)).trans (qup_j (by decide))) | (rw [if_neg (by decide)]; first | rfl | exact qup_j (by decide) | exact (qup_j (by decide)).trans (qup_j (by decide)))), fun q j h => rfl⟩
  · refine qG.mono (K_take83_3 hd n w) ?_
    rintro r w1 n1 ⟨rfl, rfl, rfl⟩
    exact ⟨rfl, rfl, zup_f hI (b := (-2147483648, 2147483647)) rfl rfl rfl hn, (by unfold oS; first | (rw [if_neg (by decide), if_neg (by decide)]; done) | (rw [if_neg (by decide)]; done) | (rw [if_pos rfl]; exact qup_k) | (rw [if_neg (by decide), if_pos rfl]; exact qup_k) | (rw [if_pos rfl]; exact (qup_j (by decide)).trans qup_k) | (rw [if_neg (by decide), if_neg (by decide)]; first | rfl | exact qup_j (by decide) | exact (qup_j (by decide)).trans (qup_j (by decide))) | (rw [if_neg (by decide)]; first | rfl | exact qup_j (by decide) | exact (qup_j (by decide)).trans (qup_j (by decide)))), (by unfold caS; first | (rw [if_neg (by decide), if_neg (by decide)]; done) | (rw [if_neg (by decide)]; done) | (rw [if_pos rfl]; exact qup_k) | (rw [if_neg (by decide), if_pos rfl]; exact qup_k) | (rw [if_pos rfl]; exact (qup_j (by decide)).trans qup_k) | (rw [if_neg (by decide), if_neg (by decide)]; first | rfl | exact qup_j (by decide) | exact (qup_j (by decide)).trans (qup_j (by decide))) | (rw [if_neg (by decide)]; first | rfl | exact qup_j (by decide) | exact (qup_j (by decide)).trans (qup_j (by decide)))), (by unfold sdS; first | (rw [if_neg (by decide), if_neg (by decide)]; done) | (rw [if_neg (by decide)]; done) | (rw [if_pos rfl]; exact qup_k) | (rw [if_neg (by decide), if_pos rfl]; exact qup_k) | (rw [if_pos rfl]; exact (qup_j (by decide)).trans qup_k) | (rw [if_neg (by decide), if_neg (by decide)]; first | rfl | exact qup_j (by decide) | exact (qup_j (by decide)).trans (qup_j (by decide))) | (rw [if_neg (by decide)]; first | rfl | exact qup_j (by decide) | exact (qup_j (by decide)).trans (qup_j (by decide)))), (by unfold tuS; first | (rw [if_neg (by decide), if_neg (by decide)]; done) | (rw [if_neg (by decide)]; done) | (rw [if_pos rfl]; exact qup_k) | (rw [if_neg (by decide), if_pos rfl]; exact qup_k) | (rw [if_pos rfl]; exact (qup_j (by decide)).trans qup_k) | (rw [if_neg (by decide), if_neg (by decide)]; first | rfl | exact qup_j (by decide) | exact (qup_j (by decide)).trans (qup_j (by decide))) | (rw [if_neg (by decide)]; first | rfl | exact qup_j (by decide) | exact (qup_j (by decide)).trans (qup_j (by decide)))), fun q j h => qup_f (by omega)⟩
  · refine qG.mono (K_take83_4 hd n w) ?_
    rintro r w1 n1 ⟨rfl, rfl, rfl⟩
    exact ⟨rfl, rfl, zup_f hI (b := (-2147483648, 2147483647)) rfl rfl rfl ⟨by decide, by decide⟩, (by unfold oS; first | (rw [if_neg (by decide), if_neg (by decide)]; done) | (rw [if_neg (by decide)]; done) | (rw [if_pos rfl]; exact qup_k) | (rw [if_neg (by decide), if_pos rfl]; exact qup_k) | (rw [if_pos rfl]; exact (qup_j (by decide)).trans qup_k) | (rw [if_neg (by decide), if_neg (by decide)]; first | rfl | exact qup_j (by decide) | exact (qup_j (by decide)).trans (qup_j (by decide))) | (rw [if_neg (by decide)]; first | rfl | exact qup_j (by decide) | exact (qup_j (by decide)).trans (qup_j (by decide)))), (by unfold caS; first | (rw [if_neg (by decide), if_neg (by decide)]; done) | (rw [if_neg (by decide)]; done) | (rw [if_pos rfl]; exact qup_k) | (rw [if_neg (by decide), if_pos rfl]; exact qup_k) | (rw [if_pos rfl]; exact (qup_j (by decide)).trans qup_k) | (rw [if_neg (by decide), if_neg (by decide)]; first | rfl | exact qup_j (by decide) | exact (qup_j (by decide)).trans (qup_j (by decide))) | (rw [if_neg (by decide)]; first | rfl | exact qup_j (by decide) | exact (qup_j (by decide)).trans (qup_j (by decide)))), (by unfold sdS; first | (rw [if_neg (by decide), if_neg (by decide)]; done) | (rw [if_neg (by decide)]; done) | (rw [if_pos rfl]; exact qup_k) | (rw [if_neg (by decide), if_pos rfl]; exact qup_k) | (rw [if_pos rfl]; exact (qup_j (by decide)).trans qup_k) | (rw [if_neg (by decide), if_neg (by decide)]; first | rfl | exact qup_j (by decide) | exact (qup_j (by decide)).trans (qup_j (by decide))) | (rw [if_neg (by decide)]; first | rfl | exact qup_j (by decide) | exact (qup_j (by decide)).trans (qup_j (by decide)))), (by unfold tuS; first | (rw [if_neg (by decide), if_neg (by decide)]; done) | (rw [if_neg (by decide)]; done) | (rw [if_pos rfl]; exact qup_k) | (rw [if_neg (by decide), if_pos rfl]; exact qup_k) | (rw [if_pos rfl]; exact (qup_j (by decide)).trans qup_k) | (rw [if_neg (by decide), if_neg (by decide)]; first | rfl | exact qup_j (by decide) | exact (qup_j (by decide)).trans (qup_j (by decide))) | (rw [if_neg (by decide)]; first | rfl | exact qup_j (by decide) | exact (qup_j (by decide)).trans (qup_j (by decide)))), fun q j h => qup_f (by omega)⟩
  · refine qG.mono (K_take83_5 hd n w) ?_
    rintro r w1 n1 ⟨rfl, rfl, rfl⟩
    have q := hI.1 83 6 (0, 1) rfl rfl
    have q1 : (0 : Int) ≤ w 83 6 := q.1
    have q2 : w 83 6 ≤ (1 : Int) := q.2
    refine ⟨rfl, rfl, zup_f (zup_f hI (b := (0, 1)) rfl rfl rfl (by have q := hI.1 83 6 (0, 1) rfl rfl; have q1 : (0 : Int) ≤ w 83 6 := q.1; have q2 : w 83 6 ≤ (1 : Int) := q.2; rw [wrp_id (by omega) (by omega)]; exact ⟨by show (0 : Int) ≤ _; omega, by show _ ≤ (1 : Int); omega⟩)) (b := (-2147483648, 2147483647)) rfl rfl rfl (wrp_32 _), (by unfold oS; first | (rw [if_neg (by decide), if_neg (by decide)]; done) | (rw [if_neg (by decide)]; done) | (rw [if_pos rfl]; exact qup_k) | (rw [if_neg (by decide), if_pos rfl]; exact qup_k) | (rw [if_pos rfl]; exact (qup_j (by decide)).trans qup_k) | (rw [if_neg (by decide), if_neg (by decide)]; first | rfl | exact qup_j (by decide) | exact (qup_j (by decide)).trans (qup_j (by decide))) | (rw [if_neg (by decide)]; first | rfl | exact qup_j (by decide) | exact (qup_j (by decide)).trans (qup_j (by decide)))), (by unfold caS; first | (rw [if_neg (by decide), if_neg (by decide)]; done) | (rw [if_neg (by decide)]; done) | (rw [if_pos rfl]; exact qup_k) | (rw [if_neg (by decide), if_pos rfl]; exact qup_k) | (rw [if_pos rfl]; exact (qup_j (by decide)).trans qup_k) | (rw [if_neg (by decide), if_neg (by decide)]; first | rfl | exact qup_j (by decide) | exact (qup_j (by decide)).trans (qup_j (by decide))) | (rw [if_neg (by decide)]; first | rfl | exact qup_j (by decide) | exact (qup_j (by decide)).trans (qup_j (by decide)))), ?_, (by unfold tuS; first | (rw [if_neg (by decide), if_neg (by decide)]; done) | (rw [if_neg (by decide)]; done) | (rw [if_pos rfl]; exact qup_k) | (rw [if_neg (by decide), if_pos rfl]; exact qup_k) | (rw [if_pos rfl]; exact (qup_j (by decide)).trans qup_k) | (rw [if_neg (by decide), if_neg (by decide)]; first | rfl | exact qup_j (by decide) | exact (qup_j (by decide)).trans (qup_j (by decide))) | (rw [if_neg (by decide)]; first | rfl | exact qup_j (by decide) | exact (qup_j (by decide)).trans (qup_j (by decide)))), fun q j h => ?_⟩
    · unfold sdS; rw [if_pos rfl, wrp_id (by omega) (by omega)]; exact (qup_j (by decide)).trans qup_k
    · exact (qup_f (by omega)).trans (qup_f (by omega))
theorem K_take87 {d : Nat} (hd : 0 ≤ d) (k n : Int) (hk : 0 ≤ k ∧ k ≤ 5) (hn : yin (-2147483648, 2147483647) n) (w : qW) (hI : yInv zgf zga zra zSp w) : qG none d 112 0 [(2, 87), (0, k), (0, n)] [] w 142 (fun (r : qV) (w1 : qW) (n1 : Nat) => r = (9, 0) ∧ n1 = 142 ∧ yInv zgf zga zra zSp w1 ∧ TKP 87 k n w w1) := by
  rcases (show k = 0 ∨ k = 1 ∨ k = 2 ∨ k = 3 ∨ k = 4 ∨ k = 5 by omega) with rfl | rfl | rfl | rfl | rfl | rfl
  · refine qG.mono (K_take87_0 hd n w) ?_
    rintro r w1 n1 ⟨rfl, rfl, rfl⟩
    exact ⟨rfl, rfl, zup_f hI (b := (-2147483648, 2147483647)) rfl rfl rfl (qor_32 _ _), (by unfold oS; first | (rw [if_neg (by decide), if_neg (by decide)]; done) | (rw [if_neg (by decide)]; done) | (rw [if_pos rfl]; exact qup_k) | (rw [if_neg (by decide), if_pos rfl]; exact qup_k) | (rw [if_pos rfl]; exact (qup_j (by decide)).trans qup_k) | (rw [if_neg (by decide), if_neg (by decide)]; first | rfl | exact qup_j (by decide) | exact (qup_j (by decide)).trans (qup_j (by decide))) | (rw [if_neg (by decide)]; first | rfl | exact qup_j (by decide) | exact (qup_j (by decide)).trans (qup_j (by decide)))), (by unfold caS; first | (rw [if_neg (by decide), if_neg (by decide)]; done) | (rw [if_neg (by decide)]; done) | (rw [if_pos rfl]; exact qup_k) | (rw [if_neg (by decide), if_pos rfl]; exact qup_k) | (rw [if_pos rfl]; exact (qup_j (by decide)).trans qup_k) | (rw [if_neg (by decide), if_neg (by decide)]; first | rfl | exact qup_j (by decide) | exact (qup_j (by decide)).trans (qup_j (by decide))) | (rw [if_neg (by decide)]; first | rfl | exact qup_j (by decide) | exact (qup_j (by decide)).trans (qup_j (by decide)))), (by unfold sdS; first | (rw [if_neg (by decide), if_neg (by decide)]; done) | (rw [if_neg (by decide)]; done) | (rw [if_pos rfl]; exact qup_k) | (rw [if_neg (by decide), if_pos rfl]; exact qup_k) | (rw [if_pos rfl]; exact (qup_j (by decide)).trans qup_k) | (rw [if_neg (by decide), if_neg (by decide)]; first | rfl | exact qup_j (by decide) | exact (qup_j (by decide)).trans (qup_j (by decide))) | (rw [if_neg (by decide)]; first | rfl | exact qup_j (by decide) | exact (qup_j (by decide)).trans (qup_j (by decide)))), (by unfold tuS; first | (rw [if_neg (by decide), if_neg (by decide)]; done) | (rw [if_neg (by decide)]; done) | (rw [if_pos rfl]; exact qup_k) | (rw [if_neg (by decide), if_pos rfl]; exact qup_k) | (rw [if_pos rfl]; exact (qup_j (by decide)).trans qup_k) | (rw [if_neg (by decide), if_neg (by decide)]; first | rfl | exact qup_j (by decide) | exact (qup_j (by decide)).trans (qup_j (by decide))) | (rw [if_neg (by decide)]; first | rfl | exact qup_j (by decide) | exact (qup_j (by decide)).trans (qup_j (by decide)))), fun q j h => qup_f (by omega)⟩
  · refine qG.mono (K_take87_1 hd n w) ?_
    rintro r w1 n1 ⟨rfl, rfl, rfl⟩
    exact ⟨rfl, rfl, zup_f hI (b := (-2147483648, 2147483647)) rfl rfl rfl (qand_32 _ _), (by unfold oS; first | (rw [if_neg (by decide), if_neg (by decide)]; done) | (rw [if_neg (by decide)]; done) | (rw [if_pos rfl]; exact qup_k) | (rw [if_neg (by decide), if_pos rfl]; exact qup_k) | (rw [if_pos rfl]; exact (qup_j (by decide)).trans qup_k) | (rw [if_neg (by decide), if_neg (by decide)]; first | rfl | exact qup_j (by decide) | exact (qup_j (by decide)).trans (qup_j (by decide))) | (rw [if_neg (by decide)]; first | rfl | exact qup_j (by decide) | exact (qup_j (by decide)).trans (qup_j (by decide)))), (by unfold caS; first | (rw [if_neg (by decide), if_neg (by decide)]; done) | (rw [if_neg (by decide)]; done) | (rw [if_pos rfl]; exact qup_k) | (rw [if_neg (by decide), if_pos rfl]; exact qup_k) | (rw [if_pos rfl]; exact (qup_j (by decide)).trans qup_k) | (rw [if_neg (by decide), if_neg (by decide)]; first | rfl | exact qup_j (by decide) | exact (qup_j (by decide)).trans (qup_j (by decide))) | (rw [if_neg (by decide)]; first | rfl | exact qup_j (by decide) | exact (qup_j (by decide)).trans (qup_j (by decide)))), (by unfold sdS; first | (rw [if_neg (by decide), if_neg (by decide)]; done) | (rw [if_neg (by decide)]; done) | (rw [if_pos rfl]; exact qup_k) | (rw [if_neg (by decide), if_pos rfl]; exact qup_k) | (rw [if_pos rfl]; exact (qup_j (by decide)).trans qup_k) | (rw [if_neg (by decide), if_neg (by decide)]; first | rfl | exact qup_j (by decide) | exact (qup_j (by decide)).trans (qup_j (by decide))) | (rw [if_neg (by decide)]; first | rfl | exact qup_j (by decide) | exact (qup_j (by decide)).trans (qup_j (by decide)))), (by unfold tuS; first | (rw [if_neg (by decide), if_neg (by decide)]; done) | (rw [if_neg (by decide)]; done) | (rw [if_pos rfl]; exact qup_k) | (rw [if_neg (by decide), if_pos rfl]; exact qup_k) | (rw [if_pos rfl]; exact (qup_j (by decide)).trans qup_k) | (rw [if_neg (by decide), if_neg (by decide)]; first | rfl | exact qup_j (by decide) | exact (qup_j (by decide)).trans (qup_j (by decide))) | (rw [if_neg (by decide)]; first | rfl | exact qup_j (by decide) | exact (qup_j (by decide)).trans (qup_j (by decide)))), fun q j h => qup_f (by omega)⟩
  · refine qG.mono (K_take87_2 hd n w) ?_
    rintro r w1 n1 ⟨rfl, rfl, rfl⟩
    exact ⟨rfl, rfl, hI, (by unfold oS; first | (rw [if_neg (by decide), if_neg (by decide)]; done) | (rw [if_neg (by decide)]; done) | (rw [if_pos rfl]; exact qup_k) | (rw [if_neg (by decide), if_pos rfl]; exact qup_k) | (rw [if_pos rfl]; exact (qup_j (by decide)).trans qup_k) | (rw [if_neg (by decide), if_neg (by decide)]; first | rfl | exact qup_j (by decide) | exact (qup_j (by decide)).trans (qup_j (by decide))) | (rw [if_neg (by decide)]; first | rfl | exact qup_j (by decide) | exact (qup_j (by decide)).trans (qup_j (by decide)))), (by unfold caS; first | (rw [if_neg (by decide), if_neg (by decide)]; done) | (rw [if_neg (by decide)]; done) | (rw [if_pos rfl]; exact qup_k) | (rw [if_neg (by decide), if_pos rfl]; exact qup_k) | (rw [if_pos rfl]; exact (qup_j (by decide)).trans qup_k) | (rw [if_neg (by decide), if_neg (by decide)]; first | rfl | exact qup_j (by decide) | exact (qup_j (by decide)).trans (qup_j (by decide))) | (rw [if_neg (by decide)]; first | rfl | exact qup_j (by decide) | exact (qup_j (by decide)).trans (qup_j (by decide)))), (by unfold sdS; first | (rw [if_neg (by decide), if_neg (by decide)]; done) | (rw [if_neg (by decide)]; done) | (rw [if_pos rfl]; exact qup_k) | (rw [if_neg (by decide), if_pos rfl]; exact qup_k) | (rw [if_pos rfl]; exact (qup_j (by decide)).trans qup_k) | (rw [if_neg (by decide), if_neg (by decide)]; first | rfl | exact qup_j (by decide) | exact (qup_j (by decide)).trans (qup_j (by decide))) | (rw [if_neg (by decide)]; first | rfl | exact qup_j (by decide) | exact (qup_j (by decide)).trans (qup_j (by decide)))), (by unfold tuS; first | (rw [if_neg (by decide), if_neg (by decide)]; done) | (rw [if_neg (by decide)]; done) | (rw [if_pos rfl]; exact qup_k) | (rw [if_neg (by decide), if_pos rfl]; exact qup_k) | (rw [if_pos rfl]; exact (qup_j (by decide)).trans qup_k) | (rw [if_neg (by decide), if_neg (by decide)]; first | rfl | exact qup_j (by decide) | exact (qup_j (by decide)).trans (qup_j (by decide))) | (rw [if_neg (by decide)]; first | rfl | exact qup_j (by decide) | exact (qup_j (by decide)).trans (qup_j (by decide)))), fun q j h => rfl⟩
  · refine qG.mono (K_take87_3 hd n w) ?_
    rintro r w1 n1 ⟨rfl, rfl, rfl⟩
    exact ⟨rfl, rfl, zup_f hI (b := (-2147483648, 2147483647)) rfl rfl rfl hn, (by unfold oS; first | (rw [if_neg (by decide), if_neg (by decide)]; done) | (rw [if_neg (by decide)]; done) | (rw [if_pos rfl]; exact qup_k) | (rw [if_neg (by decide), if_pos rfl]; exact qup_k) | (rw [if_pos rfl]; exact (qup_j (by decide)).trans qup_k) | (rw [if_neg (by decide), if_neg (by decide)]; first | rfl | exact qup_j (by decide) | exact (qup_j (by decide)).trans (qup_j (by decide))) | (rw [if_neg (by decide)]; first | rfl | exact qup_j (by decide) | exact (qup_j (by decide)).trans (qup_j (by decide)))), (by unfold caS; first | (rw [if_neg (by decide), if_neg (by decide)]; done) | (rw [if_neg (by decide)]; done) | (rw [if_pos rfl]; exact qup_k) | (rw [if_neg (by decide), if_pos rfl]; exact qup_k) | (rw [if_pos rfl]; exact (qup_j (by decide)).trans qup_k) | (rw [if_neg (by decide), if_neg (by decide)]; first | rfl | exact qup_j (by decide) | exact (qup_j (by decide)).trans (qup_j (by decide))) | (rw [if_neg (by decide)]; first | rfl | exact qup_j (by decide) | exact (qup_j (by decide)).trans (qup_j (by decide)))), (by unfold sdS; first | (rw [if_neg (by decide), if_neg (by decide)]; done) | (rw [if_neg (by decide)]; done) | (rw [if_pos rfl]; exact qup_k) | (rw [if_neg (by decide), if_pos rfl]; exact qup_k) | (rw [if_pos rfl]; exact (qup_j (by decide)).trans qup_k) | (rw [if_neg (by decide), if_neg (by decide)]; first | rfl | exact qup_j (by decide) | exact (qup_j (by decide)).trans (qup_j (by decide))) | (rw [if_neg (by decide)]; first | rfl | exact qup_j (by decide) | exact (qup_j (by decide)).trans (qup_j (by decide)))), (by unfold tuS; first | (rw [if_neg (by decide), if_neg (by decide)]; done) | (rw [if_neg (by decide)]; done) | (rw [if_pos rfl]; exact qup_k) | (rw [if_neg (by decide), if_pos rfl]; exact qup_k) | (rw [if_pos rfl]; exact (qup_j (by decide)).trans qup_k) | (rw [if_neg (by decide), if_neg (by decide)]; first | rfl | exact qup_j (by decide) | exact (qup_j (by decide)).trans (qup_j (by decide))) | (rw [if_neg (by decide)]; first | rfl | exact qup_j (by decide) | exact (qup_j (by decide)).trans (qup_j (by decide)))), fun q j h => qup_f (by omega)⟩
  · refine qG.mono (K_take87_4 hd n w) ?_
    rintro r w1 n1 ⟨rfl, rfl, rfl⟩
    exact ⟨rfl, rfl, zup_f hI (b := (-2147483648, 2147483647)) rfl rfl rfl ⟨by decide, by decide⟩, (by unfold oS; first | (rw [if_neg (by decide), if_neg (by decide)]; done) | (rw [if_neg (by decide)]; done) | (rw [if_pos rfl]; exact qup_k) | (rw [if_neg (by decide), if_pos rfl]; exact qup_k) | (rw [if_pos rfl]; exact (qup_j (by decide)).trans qup_k) | (rw [if_neg (by decide), if_neg (by decide)]; first | rfl | exact qup_j (by decide) | exact (qup_j (by decide)).trans (qup_j (by decide))) | (rw [if_neg (by decide)]; first | rfl | exact qup_j (by decide) | exact (qup_j (by decide)).trans (qup_j (by decide)))), (by unfold caS; first | (rw [if_neg (by decide), if_neg (by decide)]; done) | (rw [if_neg (by decide)]; done) | (rw [if_pos rfl]; exact qup_k) | (rw [if_neg (by decide), if_pos rfl]; exact qup_k) | (rw [if_pos rfl]; exact (qup_j (by decide)).trans qup_k) | (rw [if_neg (by decide), if_neg (by decide)]; first | rfl | exact qup_j (by decide) | exact (qup_j (by decide)).trans (qup_j (by decide))) | (rw [if_neg (by decide)]; first | rfl | exact qup_j (by decide) | exact (qup_j (by decide)).trans (qup_j (by decide)))), (by unfold sdS; first | (rw [if_neg (by decide), if_neg (by decide)]; done) | (rw [if_neg (by decide)]; done) | (rw [if_pos rfl]; exact qup_k) | (rw [if_neg (by decide), if_pos rfl]; exact qup_k) | (rw [if_pos rfl]; exact (qup_j (by decide)).trans qup_k) | (rw [if_neg (by decide), if_neg (by decide)]; first | rfl | exact qup_j (by decide) | exact (qup_j (by decide)).trans (qup_j (by decide))) | (rw [if_neg (by decide)]; first | rfl | exact qup_j (by decide) | exact (qup_j (by decide)).trans (qup_j (by decide)))), (by unfold tuS; first | (rw [if_neg (by decide), if_neg (by decide)]; done) | (rw [if_neg (by decide)]; done) | (rw [if_pos rfl]; exact qup_k) | (rw [if_neg (by decide), if_pos rfl]; exact qup_k) | (rw [if_pos rfl]; exact (qup_j (by decide)).trans qup_k) | (rw [if_neg (by decide), if_neg (by decide)]; first | rfl | exact qup_j (by decide) | exact (qup_j (by decide)).trans (qup_j (by decide))) | (rw [if_neg (by decide)]; first | rfl | exact qup_j (by decide) | exact (qup_j (by decide)).trans (qup_j (by decide)))), fun q j h => qup_f (by omega)⟩
  · refine qG.mono (K_take87_5 hd n w) ?_
    rintro r w1 n1 ⟨rfl, rfl, rfl⟩
    have q := hI.1 87 6 (0, 1) rfl rfl
    have q1 : (0 : Int) ≤ w 87 6 := q.1
    have q2 : w 87 6 ≤ (1 : Int) := q.2
    refine ⟨rfl, rfl, zup_f (zup_f hI (b := (0, 1)) rfl rfl rfl (by have q := hI.1 87 6 (0, 1) rfl rfl; have q1 : (0 : Int) ≤ w 87 6 := q.1; have q2 : w 87 6 ≤ (1 : Int) := q.2; rw [wrp_id (by omega) (by omega)]; exact ⟨by show (0 : Int) ≤ _; omega, by show _ ≤ (1 : Int); omega⟩)) (b := (-2147483648, 2147483647)) rfl rfl rfl (wrp_32 _), (by unfold oS; first | (rw [if_neg (by decide), if_neg (by decide)]; done) | (rw [if_neg (by decide)]; done) | (rw [if_pos rfl]; exact qup_k) | (rw [if_neg (by decide), if_pos rfl]; exact qup_k) | (rw [if_pos rfl]; exact (qup_j (by decide)).trans qup_k) | (rw [if_neg (by decide), if_neg (by decide)]; first | rfl | exact qup_j (by decide) | exact (qup_j (by decide)).trans (qup_j (by decide))) | (rw [if_neg (by decide)]; first | rfl | exact qup_j (by decide) | exact (qup_j (by decide)).trans (qup_j (by decide)))), (by unfold caS; first | (rw [if_neg (by decide), if_neg (by decide)]; done) | (rw [if_neg (by decide)]; done) | (rw [if_pos rfl]; exact qup_k) | (rw [if_neg (by decide), if_pos rfl]; exact qup_k) | (rw [if_pos rfl]; exact (qup_j (by decide)).trans qup_k) | (rw [if_neg (by decide), if_neg (by decide)]; first | rfl | exact qup_j (by decide) | exact (qup_j (by decide)).trans (qup_j (by decide))) | (rw [if_neg (by decide)]; first | rfl | exact qup_j (by decide) | exact (qup_j (by decide)).trans (qup_j (by decide)))), ?_, (by unfold tuS; first | (rw [if_neg (by decide), if_neg (by decide)]; done) | (rw [if_neg (by decide)]; done) | (rw [if_pos rfl]; exact qup_k) | (rw [if_neg (by decide), if_pos rfl]; exact qup_k) | (rw [if_pos rfl]; exact (qup_j (by decide)).trans qup_k) | (rw [if_neg (by decide), if_neg (by decide)]; first | rfl | exact qup_j (by decide) | exact (qup_j (by decide)).trans (qup_j (by decide))) | (rw [if_neg (by decide)]; first | rfl | exact qup_j (by decide) | exact (qup_j (by decide)).trans (qup_j (by decide)))), fun q j h => ?_⟩
    · unfold sdS; rw [if_pos rfl, wrp_id (by omega) (by omega)]; exact (qup_j (by decide)).trans qup_k
    · exact (qup_f (by omega)).trans (qup_f (by omega))
theorem K_take91 {d : Nat} (hd : 0 ≤ d) (k n : Int) (hk : 0 ≤ k ∧ k ≤ 5) (hn : yin (-2147483648, 2147483647) n) (w : qW) (hI : yInv zgf zga zra zSp w) : qG none d 112 0 [(2, 91), (0, k), (0, n)] [] w 142 (fun (r : qV) (w1 : qW) (n1 : Nat) => r = (9, 0) ∧ n1 = 142 ∧ yInv zgf zga zra zSp w1 ∧ TKP 91 k n w w1) := by
  rcases (show k = 0 ∨ k = 1 ∨ k = 2 ∨ k = 3 ∨ k = 4 ∨ k = 5 by omega) with rfl | rfl | rfl | rfl | rfl | rfl
  · refine qG.mono (K_take91_0 hd n w) ?_
    rintro r w1 n1 ⟨rfl, rfl, rfl⟩
    exact ⟨rfl, rfl, zup_f hI (b := (-2147483648, 2147483647)) rfl rfl rfl (qor_32 _ _), (by unfold oS; first | (rw [if_neg (by decide), if_neg (by decide)]; done) | (rw [if_neg (by decide)]; done) | (rw [if_pos rfl]; exact qup_k) | (rw [if_neg (by decide), if_pos rfl]; exact qup_k) | (rw [if_pos rfl]; exact (qup_j (by decide)).trans qup_k) | (rw [if_neg (by decide), if_neg (by decide)]; first | rfl | exact qup_j (by decide) | exact (qup_j (by decide)).trans (qup_j (by decide))) | (rw [if_neg (by decide)]; first | rfl | exact qup_j (by decide) | exact (qup_j (by decide)).trans (qup_j (by decide)))), (by unfold caS; first | (rw [if_neg (by decide), if_neg (by decide)]; done) | (rw [if_neg (by decide)]; done) | (rw [if_pos rfl]; exact qup_k) | (rw [if_neg (by decide), if_pos rfl]; exact qup_k) | (rw [if_pos rfl]; exact (qup_j (by decide)).trans qup_k) | (rw [if_neg (by decide), if_neg (by decide)]; first | rfl | exact qup_j (by decide) | exact (qup_j (by decide)).trans (qup_j (by decide))) | (rw [if_neg (by decide)]; first | rfl | exact qup_j (by decide) | exact (qup_j (by decide)).trans (qup_j (by decide)))), (by unfold sdS; first | (rw [if_neg (by decide), if_neg (by decide)]; done) | (rw [if_neg (by decide)]; done) | (rw [if_pos rfl]; exact qup_k) | (rw [if_neg (by decide), if_pos rfl]; exact qup_k) | (rw [if_pos rfl]; exact (qup_j (by decide)).trans qup_k) | (rw [if_neg (by decide), if_neg (by decide)]; first | rfl | exact qup_j (by decide) | exact (qup_j (by decide)).trans (qup_j (by decide))) | (rw [if_neg (by decide)]; first | rfl | exact qup_j (by decide) | exact (qup_j (by decide)).trans (qup_j (by decide)))), (by unfold tuS; first | (rw [if_neg (by decide), if_neg (by decide)]; done) | (rw [if_neg (by decide)]; done) | (rw [if_pos rfl]; exact qup_k) | (rw [if_neg (by decide), if_pos rfl]; exact qup_k) | (rw [if_pos rfl]; exact (qup_j (by decide)).trans qup_k) | (rw [if_neg (by decide), if_neg (by decide)]; first | rfl | exact qup_j (by decide) | exact (qup_j (by decide)).trans (qup_j (by decide))) | (rw [if_neg (by decide)]; first | rfl | exact qup_j (by decide) | exact (qup_j (by decide)).trans (qup_j (by decide)))), fun q j h => qup_f (by omega)⟩
  · refine qG.mono (K_take91_1 hd n w) ?_
    rintro r w1 n1 ⟨rfl, rfl, rfl⟩
    exact ⟨rfl, rfl, zup_f hI (b := (-2147483648, 2147483647)) rfl rfl rfl (qand_32 _ _), (by unfold oS; first | (rw [if_neg (by decide), if_neg (by decide)]; done) | (rw [if_neg (by decide)]; done) | (rw [if_pos rfl]; exact qup_k) | (rw [if_neg (by decide), if_pos rfl]; exact qup_k) | (rw [if_pos rfl]; exact (qup_j (by decide)).trans qup_k) | (rw [if_neg (by decide), if_neg (by decide)]; first | rfl | exact qup_j (by decide) | exact (qup_j (by decide)).trans (qup_j (by decide))) | (rw [if_neg (by decide)]; first | rfl | exact qup_j (by decide) | exact (qup_j (by decide)).trans (qup_j (by decide)))), (by unfold caS; first | (rw [if_neg (by decide), if_neg (by decide)]; done) | (rw [if_neg (by decide)]; done) | (rw [if_pos rfl]; exact qup_k) | (rw [if_neg (by decide), if_pos rfl]; exact qup_k) | (rw [if_pos rfl]; exact (qup_j (by decide)).trans qup_k) | (rw [if_neg (by decide), if_neg (by decide)]; first | rfl | exact qup_j (by decide) | exact (qup_j (by decide)).trans (qup_j (by decide))) | (rw [if_neg (by decide)]; first | rfl | exact qup_j (by decide) | exact (qup_j (by decide)).trans (qup_j (by decide)))), (by unfold sdS; first | (rw [if_neg (by decide), if_neg (by decide)]; done) | (rw [if_neg (by decide)]; done) | (rw [if_pos rfl]; exact qup_k) | (rw [if_neg (by decide), if_pos rfl]; exact qup_k) | (rw [if_pos rfl]; exact (qup_j (by decide)).trans qup_k) | (rw [if_neg (by decide), if_neg (by decide)]; first | rfl | exact qup_j (by decide) | exact (qup_j (by decide)).trans (qup_j (by decide))) | (rw [if_neg (by decide)]; first | rfl | exact qup_j (by decide) | exact (qup_j (by decide)).trans (qup_j (by decide)))), (by unfold tuS; first | (rw [if_neg (by decide), if_neg (by decide)]; done) | (rw [if_neg (by decide)]; done) | (rw [if_pos rfl]; exact qup_k) | (rw [if_neg (by decide), if_pos rfl]; exact qup_k) | (rw [if_pos rfl]; exact (qup_j (by decide)).trans qup_k) | (rw [if_neg (by decide), if_neg (by decide)]; first | rfl | exact qup_j (by decide) | exact (qup_j (by decide)).trans (qup_j (by decide))) | (rw [if_neg (by decide)]; first | rfl | exact qup_j (by decide) | exact (qup_j (by decide)).trans (qup_j (by decide)))), fun q j h => qup_f (by omega)⟩
  · refine qG.mono (K_take91_2 hd n w) ?_
    rintro r w1 n1 ⟨rfl, rfl, rfl⟩
    exact ⟨rfl, rfl, hI, (by unfold oS; first | (rw [if_neg (by decide), if_neg (by decide)]; done) | (rw [if_neg (by decide)]; done) | (rw [if_pos rfl]; exact qup_k) | (rw [if_neg (by decide), if_pos rfl]; exact qup_k) | (rw [if_pos rfl]; exact (qup_j (by decide)).trans qup_k) | (rw [if_neg (by decide), if_neg (by decide)]; first | rfl | exact qup_j (by decide) | exact (qup_j (by decide)).trans (qup_j (by decide))) | (rw [if_neg (by decide)]; first | rfl | exact qup_j (by decide) | exact (qup_j (by decide)).trans (qup_j (by decide)))), (by unfold caS; first | (rw [if_neg (by decide), if_neg (by decide)]; done) | (rw [if_neg (by decide)]; done) | (rw [if_pos rfl]; exact qup_k) | (rw [if_neg (by decide), if_pos rfl]; exact qup_k) | (rw [if_pos rfl]; exact (qup_j (by decide)).trans qup_k) | (rw [if_neg (by decide), if_neg (by decide)]; first | rfl | exact qup_j (by decide) | exact (qup_j (by decide)).trans (qup_j (by decide))) | (rw [if_neg (by decide)]; first | rfl | exact qup_j (by decide) | exact (qup_j (by decide)).trans (qup_j (by decide)))), (by unfold sdS; first | (rw [if_neg (by decide), if_neg (by decide)]; done) | (rw [if_neg (by decide)]; done) | (rw [if_pos rfl]; exact qup_k) | (rw [if_neg (by decide), if_pos rfl]; exact qup_k) | (rw [if_pos rfl]; exact (qup_j (by decide)).trans qup_k) | (rw [if_neg (by decide), if_neg (by decide)]; first | rfl | exact qup_j (by decide) | exact (qup_j (by decide)).trans (qup_j (by decide))) | (rw [if_neg (by decide)]; first | rfl | exact qup_j (by decide) | exact (qup_j (by decide)).trans (qup_j (by decide)))), (by unfold tuS; first | (rw [if_neg (by decide), if_neg (by decide)]; done) | (rw [if_neg (by decide)]; done) | (rw [if_pos rfl]; exact qup_k) | (rw [if_neg (by decide), if_pos rfl]; exact qup_k) | (rw [if_pos rfl]; exact (qup_j (by decide)).trans qup_k) | (rw [if_neg (by decide), if_neg (by decide)]; first | rfl | exact qup_j (by decide) | exact (qup_j (by decide)).trans (qup_j (by decide))) | (rw [if_neg (by decide)]; first | rfl | exact qup_j (by decide) | exact (qup_j (by decide)).trans (qup_j (by decide)))), fun q j h => rfl⟩
  · refine qG.mono (K_take91_3 hd n w) ?_
    rintro r w1 n1 ⟨rfl, rfl, rfl⟩
    exact ⟨rfl, rfl, zup_f hI (b := (-2147483648, 2147483647)) rfl rfl rfl hn, (by unfold oS; first | (rw [if_neg (by decide), if_neg (by decide)]; done) | (rw [if_neg (by decide)]; done) | (rw [if_pos rfl]; exact qup_k) | (rw [if_neg (by decide), if_pos rfl]; exact qup_k) | (rw [if_pos rfl]; exact (qup_j (by decide)).trans qup_k) | (rw [if_neg (by decide), if_neg (by decide)]; first | rfl | exact qup_j (by decide) | exact (qup_j (by decide)).trans (qup_j (by decide))) | (rw [if_neg (by decide)]; first | rfl | exact qup_j (by decide) | exact (qup_j (by decide)).trans (qup_j (by decide)))), (by unfold caS; first | (rw [if_neg (by decide), if_neg (by decide)]; done) | (rw [if_neg (by decide)]; done) | (rw [if_pos rfl]; exact qup_k) | (rw [if_neg (by decide), if_pos rfl]; exact qup_k) | (rw [if_pos rfl]; exact (qup_j (by decide)).trans qup_k) | (rw [if_neg (by decide), if_neg (by decide)]; first | rfl | exact qup_j (by decide) | exact (qup_j (by decide)).trans (qup_j (by decide))) | (rw [if_neg (by decide)]; first | rfl | exact qup_j (by decide) | exact (qup_j (by decide)).trans (qup_j (by decide)))), (by unfold sdS; first | (rw [if_neg (by decide), if_neg (by decide)]; done) | (rw [if_neg (by decide)]; done) | (rw [if_pos rfl]; exact qup_k) | (rw [if_neg (by decide), if_pos rfl]; exact qup_k) | (rw [if_pos rfl]; exact (qup_j (by decide)).trans qup_k) | (rw [if_neg (by decide), if_neg (by decide)]; first | rfl | exact qup_j (by decide) | exact (qup_j (by decide)).trans (qup_j (by decide))) | (rw [if_neg (by decide)]; first | rfl | exact qup_j (by decide) | exact (qup_j (by decide)).trans (qup_j (by decide)))), (by unfold tuS; first | (rw [if_neg (by decide), if_neg (by decide)]; done) | (rw [if_neg (by decide)]; done) | (rw [if_pos rfl]; exact qup_k) | (rw [if_neg (by decide), if_pos rfl]; exact qup_k) | (rw [if_pos rfl]; exact (qup_j (by decide)).trans qup_k) | (rw [if_neg (by decide), if_neg (by decide)]; first | rfl | exact qup_j (by decide) | exact (qup_j (by decide)).trans (qup_j (by decide))) | (rw [if_neg (by decide)]; first | rfl | exact qup_j (by decide) | exact (qup_j (by decide)).trans (qup_j (by decide)))), fun q j h => qup_f (by omega)⟩
  · refine qG.mono (K_take91_4 hd n w) ?_
    rintro r w1 n1 ⟨rfl, rfl, rfl⟩
    exact ⟨rfl, rfl, zup_f hI (b := (-2147483648, 2147483647)) rfl rfl rfl ⟨by decide, by decide⟩, (by unfold oS; first | (rw [if_neg (by decide), if_neg (by decide)]; done) | (rw [if_neg (by decide)]; done) | (rw [if_pos rfl]; exact qup_k) | (rw [if_neg (by decide), if_pos rfl]; exact qup_k) | (rw [if_pos rfl]; exact (qup_j (by decide)).trans qup_k) | (rw [if_neg (by decide), if_neg (by decide)]; first | rfl | exact qup_j (by decide) | exact (qup_j (by decide)).trans (qup_j (by decide))) | (rw [if_neg (by decide)]; first | rfl | exact qup_j (by decide) | exact (qup_j (by decide)).trans (qup_j (by decide)))), (by unfold caS; first | (rw [if_neg (by decide), if_neg (by decide)]; done) | (rw [if_neg (by decide)]; done) | (rw [if_pos rfl]; exact qup_k) | (rw [if_neg (by decide), if_pos rfl]; exact qup_k) | (rw [if_pos rfl]; exact (qup_j (by decide)).trans qup_k) | (rw [if_neg (by decide), if_neg (by decide)]; first | rfl | exact qup_j (by decide) | exact (qup_j (by decide)).trans (qup_j (by decide))) | (rw [if_neg (by decide)]; first | rfl | exact qup_j (by decide) | exact (qup_j (by decide)).trans (qup_j (by decide)))), (by unfold sdS; first | (rw [if_neg (by decide), if_neg (by decide)]; done) | (rw [if_neg (by decide)]; done) | (rw [if_pos rfl]; exact qup_k) | (rw [if_neg (by decide), if_pos rfl]; exact qup_k) | (rw [if_pos rfl]; exact (qup_j (by decide)).trans qup_k) | (rw [if_neg (by decide), if_neg (by decide)]; first | rfl | exact qup_j (by decide) | exact (qup_j (by decide)).trans (qup_j (by decide))) | (rw [if_neg (by decide)]; first | rfl | exact qup_j (by decide) | exact (qup_j (by decide)).trans (qup_j (by decide)))), (by unfold tuS; first | (rw [if_neg (by decide), if_neg (by decide)]; done) | (rw [if_neg (by decide)]; done) | (rw [if_pos rfl]; exact qup_k) | (rw [if_neg (by decide), if_pos rfl]; exact qup_k) | (rw [if_pos rfl]; exact (qup_j (by decide)).trans qup_k) | (rw [if_neg (by decide), if_neg (by decide)]; first | rfl | exact qup_j (by decide) | exact (qup_j (by decide)).trans (qup_j (by decide))) | (rw [if_neg (by decide)]; first | rfl | exact qup_j (by decide) | exact (qup_j (by decide)).trans (qup_j (by decide)))), fun q j h => qup_f (by omega)⟩
  · refine qG.mono (K_take91_5 hd n w) ?_
    rintro r w1 n1 ⟨rfl, rfl, rfl⟩
    have q := hI.1 91 6 (0, 1) rfl rfl
    have q1 : (0 : Int) ≤ w 91 6 := q.1
    have q2 : w 91 6 ≤ (1 : Int) := q.2
    refine ⟨rfl, rfl, zup_f (zup_f hI (b := (0, 1)) rfl rfl rfl (by have q := hI.1 91 6 (0, 1) rfl rfl; have q1 : (0 : Int) ≤ w 91 6 := q.1; have q2 : w 91 6 ≤ (1 : Int) := q.2; rw [wrp_id (by omega) (by omega)]; exact ⟨by show (0 : Int) ≤ _; omega, by show _ ≤ (1 : Int); omega⟩)) (b := (-2147483648, 2147483647)) rfl rfl rfl (wrp_32 _), (by unfold oS; first | (rw [if_neg (by decide), if_neg (by decide)]; done) | (rw [if_neg (by decide)]; done) | (rw [if_pos rfl]; exact qup_k) | (rw [if_neg (by decide), if_pos rfl]; exact qup_k) | (rw [if_pos rfl]; exact (qup_j (by decide)).trans qup_k) | (rw [if_neg (by decide), if_neg (by decide)]; first | rfl | exact qup_j (by decide) | exact (qup_j (by decide)).trans (qup_j (by decide))) | (rw [if_neg (by decide)]; first | rfl | exact qup_j (by decide) | exact (qup_j (by decide)).trans (qup_j (by decide)))), (by unfold caS; first | (rw [if_neg (by decide), if_neg (by decide)]; done) | (rw [if_neg (by decide)]; done) | (rw [if_pos rfl]; exact qup_k) | (rw [if_neg (by decide), if_pos rfl]; exact qup_k) | (rw [if_pos rfl]; exact (qup_j (by decide)).trans qup_k) | (rw [if_neg (by decide), if_neg (by decide)]; first | rfl | exact qup_j (by decide) | exact (qup_j (by decide)).trans (qup_j (by decide))) | (rw [if_neg (by decide)]; first | rfl | exact qup_j (by decide) | exact (qup_j (by decide)).trans (qup_j (by decide)))), ?_, (by unfold tuS; first | (rw [if_neg (by decide), if_neg (by decide)]; done) | (rw [if_neg (by decide)]; done) | (rw [if_pos rfl]; exact qup_k) | (rw [if_neg (by decide), if_pos rfl]; exact qup_k) | (rw [if_pos rfl]; exact (qup_j (by decide)).trans qup_k) | (rw [if_neg (by decide), if_neg (by decide)]; first | rfl | exact qup_j (by decide) | exact (qup_j (by decide)).trans (qup_j (by decide))) | (rw [if_neg (by decide)]; first | rfl | exact qup_j (by decide) | exact (qup_j (by decide)).trans (qup_j (by decide)))), fun q j h => ?_⟩
    · unfold sdS; rw [if_pos rfl, wrp_id (by omega) (by omega)]; exact (qup_j (by decide)).trans qup_k
    · exact (qup_f (by omega)).trans (qup_f (by omega))
/-- the class's show p behind i steps -/
def CHP (p c : Nat) (w : qW) (K N : Nat → Int) (i : Nat) (w1 : qW) : Prop := w1 p 4 = oF K N i ∧ w1 p 5 = caF K N i ∧ w1 p 6 = sdF K i ∧ w1 p 7 = asF w c K N i ∧ w1 p 8 = moF K N i ∧ w1 p 9 = tuF K i ∧ (∀ t, t < i → w1 (p + 3) t = vwF w c K N t) ∧ ∀ q j, q ≠ p + 3 → ¬ (q = p ∧ 4 ≤ j ∧ j ≤ 9) → w1 q j = w q j
theorem seG_in {w : qW} {c : Nat} (hI : yInv zgf zga zra zSp w) (hE : JE w) (hc : c < 3) (o cd sd : Int) : ∀ j, j ≤ 10 → 0 ≤ seG w c o cd sd j ∧ seG w c o cd sd j ≤ 65535
  | 0, _ => ⟨Int.le_refl 0, by show (0 : Int) ≤ 65535; decide⟩
  | j + 1, h => by
    have ih := seG_in hI hE hc o cd sd j (by omega)
    rw [seG_s]
    split
    · split
      · exact qor_in ih (thrF_in hI hE hc (by omega))
      · exact ih
    · exact ih
theorem vw_in {w : qW} {c : Nat} {K N : Nat → Int} {i : Nat} (hI : yInv zgf zga zra zSp w) (hE : JE w) (hc : c < 3) : yin (0, 65535) (vwF w c K N i) := by
  have q := seG_in hI hE hc (oF K N (i + 1)) (caF K N (i + 1)) (sdF K (i + 1)) 10 (Nat.le_refl _)
  exact ⟨q.1, q.2⟩
theorem as_in {w : qW} {c : Nat} {K N : Nat → Int} (hI : yInv zgf zga zra zSp w) (hE : JE w) (hc : c < 3) : ∀ i, yin (0, 65535) (asF w c K N i)
  | 0 => ⟨by show (0 : Int) ≤ 0; decide, by show (0 : Int) ≤ 65535; decide⟩
  | i + 1 => by
    have ih := as_in (K := K) (N := N) hI hE hc i
    have q := vw_in (K := K) (N := N) (i := i) hI hE hc
    have z := qor_in ⟨ih.1, ih.2⟩ ⟨q.1, q.2⟩
    exact ⟨z.1, z.2⟩
/-- kinds and numbers of a told show -/
def KNr (K N : Nat → Int) (L : Nat) : Prop := ∀ i, i < L → (0 ≤ K i ∧ K i ≤ 5) ∧ (K i = 0 ∨ K i = 1 → 0 ≤ N i ∧ N i ≤ 9)
theorem bit_s (n : Nat) (h : n < 10) : qshl 1 (n : Int) = ((2 ^ n : Nat) : Int) := by
  have q : ∀ n : Nat, n < 10 → qshl 1 (n : Int) = ((2 ^ n : Nat) : Int) := by decide +kernel
  exact q n h
theorem oF_n {K N : Nat → Int} {L : Nat} (h : KNr K N L) : ∀ i, i ≤ L → ∃ m : Nat, oF K N i = (m : Int) ∧ m < 1024
  | 0, _ => ⟨0, rfl, by decide⟩
  | i + 1, hi => by
    obtain ⟨m, e, hm⟩ := oF_n h i (by omega)
    obtain ⟨-, hN⟩ := h i (by omega)
    show ∃ m : Nat, oS (K i) (N i) (oF K N i) = (m : Int) ∧ m < 1024
    rw [e]
    unfold oS
    by_cases e0 : K i = 0
    · rw [if_pos e0]
      obtain ⟨n, hn, hn9⟩ : ∃ n : Nat, N i = (n : Int) ∧ n < 10 := ⟨(N i).toNat, by have := hN (.inl e0); omega, by have := hN (.inl e0); omega⟩
      have z9 : 2 ^ n < 2 ^ 10 := Nat.pow_lt_pow_right (by decide) hn9
      rw [hn, bit_s n hn9, qor_n (a := m) (b := 2 ^ n) (by omega) (by omega)]
      exact ⟨_, rfl, Nat.or_lt_two_pow (n := 10) hm (Nat.pow_lt_pow_right (by decide) hn9)⟩
    · rw [if_neg e0]
      by_cases e1 : K i = 1
      · rw [if_pos e1]
        have q := qand_hi (x := qxor (qshl 1 (N i)) (-1)) (y := (m : Int)) (d := 1023) (by omega) (by omega) (by decide)
        rw [qand_c] at q
        have q0 : (0 : Int) ≤ qand (m : Int) (qxor (qshl 1 (N i)) (-1)) := q.1
        have q1 : qand (m : Int) (qxor (qshl 1 (N i)) (-1)) ≤ 1023 := q.2
        exact ⟨(qand (m : Int) (qxor (qshl 1 (N i)) (-1))).toNat, by omega, by omega⟩
      · rw [if_neg e1]; exact ⟨m, rfl, hm⟩
theorem K_perf4_64 {d : Nat} (hd : 2 ≤ d) (L : Nat) (hL : L ≤ 40) (w : qW) (hI : yInv zgf zga zra zSp w) (hs : w 4 2 = (L : Int)) (hKN : KNr (w 5) (w 6) L) (hK : w 64 0 = w 96 0) (hE : JE w) : qG none d 111 0 [(2, 4), (2, 64), (9, 0)] [] w 142 (fun (r : qV) (w1 : qW) (n1 : Nat) => r = (9, 0) ∧ n1 = 142 ∧ yInv zgf zga zra zSp w1 ∧ CHP 4 0 w (w 5) (w 6) L w1) := by
  generalize hQ9 : (fun (r : qV) (w1 : qW) (n1 : Nat) => r = (9, 0) ∧ n1 = 142 ∧ yInv zgf zga zra zSp w1 ∧ CHP 4 0 w (w 5) (w 6) L w1) = Q9
  obtain ⟨d, rfl⟩ : ∃ d9, d = d9 + 1 := ⟨d - 1, by omega⟩
  refine qG.blk 12 (pc' := 20) (ls' := [(2, 4), (2, 64), (9, 0)]) (st' := []) (w' := (qup (qup (qup (qup w 4 4 0) 4 5 (-1)) 4 6 0) 4 7 0)) (n' := 142) rfl ?_
  refine qG.blk 8 (pc' := 32) (ls' := [(2, 4), (2, 64), (0, 0)]) (st' := []) (w' := (qup (qup (qup (qup (qup (qup w 4 4 0) 4 5 (-1)) 4 6 0) 4 7 0) 4 8 0) 4 9 0)) (n' := 142) rfl ?_
  obtain ⟨w0, hw0⟩ : ∃ z : qW, z = (qup (qup (qup (qup (qup (qup w 4 4 0) 4 5 (-1)) 4 6 0) 4 7 0) 4 8 0) 4 9 0) := ⟨_, rfl⟩
  rw [← hw0]
  have hI0 : yInv zgf zga zra zSp w0 := by rw [hw0]; exact zup_f (zup_f (zup_f (zup_f (zup_f (zup_f hI (b := (-2147483648, 2147483647)) rfl rfl rfl ⟨by decide, by decide⟩) (b := (-2147483648, 2147483647)) rfl rfl rfl ⟨by decide, by decide⟩) (b := (0, 1)) rfl rfl rfl ⟨by decide, by decide⟩) (b := (0, 65535)) rfl rfl rfl ⟨by decide, by decide⟩) (b := (0, 63)) rfl rfl rfl ⟨by decide, by decide⟩) (b := (-2147483648, 2147483647)) rfl rfl rfl ⟨by decide, by decide⟩
  have hC0 : CHP 4 0 w (w 5) (w 6) 0 w0 := by rw [hw0]; exact ⟨(qup_j (by decide)).trans ((qup_j (by decide)).trans ((qup_j (by decide)).trans ((qup_j (by decide)).trans ((qup_j (by decide)).trans (qup_k))))), (qup_j (by decide)).trans ((qup_j (by decide)).trans ((qup_j (by decide)).trans ((qup_j (by decide)).trans (qup_k)))), (qup_j (by decide)).trans ((qup_j (by decide)).trans ((qup_j (by decide)).trans (qup_k))), (qup_j (by decide)).trans ((qup_j (by decide)).trans (qup_k)), (qup_j (by decide)).trans (qup_k), qup_k, fun t ht => absurd ht (Nat.not_lt_zero t), fun z j h1 h2 => (qup_f (by omega)).trans ((qup_f (by omega)).trans ((qup_f (by omega)).trans ((qup_f (by omega)).trans ((qup_f (by omega)).trans (qup_f (by omega))))))⟩
  have L32 : ∀ (m9 : Nat) (i : Nat) (wS : qW), 40 - i = m9 → (i ≤ L ∧ yInv zgf zga zra zSp wS ∧ CHP 4 0 w (w 5) (w 6) i wS) → qG none (d + 1) 111 32 [(2, 4), (2, 64), (0, ((i : Nat) : Int))] [] wS 142 Q9 := by
    intro m9
    induction m9 using Nat.strongRecOn with
    | ind m9 ih32 =>
    intro i wS hm32 hI32
    obtain ⟨hiL, hIS, hC⟩ := hI32
    obtain ⟨c4, c5, c6, c7, c8, c9, cv, hfr⟩ := hC
    refine qG.blk 3 (pc' := 37) (ls' := [(2, 4), (2, 64), (0, ((i : Nat) : Int))]) (st' := [(0, wS 4 2), (0, ((i : Nat) : Int))]) (w' := wS) (n' := 142) rfl ?_
    rw [show wS 4 2 = ((L : Nat) : Int) from (hfr 4 2 (by decide) (by omega)).trans hs]
    refine qG.br (P := ((i : Nat) : Int) < ((L : Nat) : Int)) (pc1 := 40) (pc2 := 112) (st1 := []) rfl (fun hiL2 => ?_) (fun hiL2 => ?_)
    · skip
      refine qG.blk 2 (pc' := 43) (ls' := [(2, 4), (2, 64), (0, ((i : Nat) : Int))]) (st' := [(0, 40), (0, ((i : Nat) : Int))]) (w' := wS) (n' := 142) rfl ?_
      refine qG.br (P := ((i : Nat) : Int) < 40) (pc1 := 46) (pc2 := 112) (st1 := []) rfl (fun hi40 => ?_) (fun hi40 => ?_)
      · skip
        refine qG.blk 3 (pc' := 51) (ls' := [(2, 4), (2, 64), (0, ((i : Nat) : Int))]) (st' := [(2, wS 4 0), (2, 4)]) (w' := wS) (n' := 142) rfl ?_
        rw [show wS 4 0 = 5 from zref hIS rfl rfl]
        refine qG.blk 1 (pc' := 52) (ls' := [(2, 4), (2, 64), (0, ((i : Nat) : Int))]) (st' := [(0, ((i : Nat) : Int)), (2, 5), (2, 4)]) (w' := wS) (n' := 142) rfl ?_
        refine qG.ar (P := 0 ≤ ((i : Nat) : Int) ∧ ((i : Nat) : Int) < ((40 : Nat) : Int)) (P2 := 0 < (5 : Int) ∧ (5 : Int) ≤ ((142 : Nat) : Int)) (pc' := 53) (ls' := [(2, 4), (2, 64), (0, ((i : Nat) : Int))]) (st' := [(0, wS 5 i), (2, 4)]) (w' := wS) (n' := 142) rfl (by omega) (by decide) ?_
        rw [show wS 5 i = w 5 i from hfr 5 i (by decide) (by omega)]
        refine qG.blk 2 (pc' := 57) (ls' := [(2, 4), (2, 64), (0, ((i : Nat) : Int))]) (st' := [(2, wS 4 1), (0, w 5 i), (2, 4)]) (w' := wS) (n' := 142) rfl ?_
        rw [show wS 4 1 = 6 from zref hIS rfl rfl]
        refine qG.blk 1 (pc' := 58) (ls' := [(2, 4), (2, 64), (0, ((i : Nat) : Int))]) (st' := [(0, ((i : Nat) : Int)), (2, 6), (0, w 5 i), (2, 4)]) (w' := wS) (n' := 142) rfl ?_
        refine qG.ar (P := 0 ≤ ((i : Nat) : Int) ∧ ((i : Nat) : Int) < ((40 : Nat) : Int)) (P2 := 0 < (6 : Int) ∧ (6 : Int) ≤ ((142 : Nat) : Int)) (pc' := 59) (ls' := [(2, 4), (2, 64), (0, ((i : Nat) : Int))]) (st' := [(0, wS 6 i), (0, w 5 i), (2, 4)]) (w' := wS) (n' := 142) rfl (by omega) (by decide) ?_
        rw [show wS 6 i = w 6 i from hfr 6 i (by decide) (by omega)]
        refine qG.call (t := 112) (na := 3) (sk := 1) (md := 1) (ls1 := [(2, 4), (0, w 5 i), (0, w 6 i)]) (r1 := []) rfl rfl rfl rfl rfl (K_take4 (Nat.zero_le _) (w 5 i) (w 6 i) (hKN i (by omega)).1 (hI.2.1 6 i (-2147483648, 2147483647) rfl rfl) wS hIS) ?_
        rintro _ wA _ ⟨rfl, rfl, hIA, t4, t5, t6, t9, tfr⟩
        have hA4 : wA 4 4 = oF (w 5) (w 6) (i + 1) := by rw [t4, c4]; rfl
        have hA5 : wA 4 5 = caF (w 5) (w 6) (i + 1) := by rw [t5, c5]; rfl
        have hA6 : wA 4 6 = sdF (w 5) (i + 1) := by rw [t6, c6]; rfl
        have hA9 : wA 4 9 = tuF (w 5) (i + 1) := by rw [t9, c9]; rfl
        have hA8 : wA 4 8 = moF (w 5) (w 6) i := (tfr 4 8 (by omega)).trans c8
        have hA7 : wA 4 7 = asF w 0 (w 5) (w 6) i := (tfr 4 7 (by omega)).trans c7
        obtain ⟨m9, hm9, hm10⟩ := oF_n hKN (i + 1) (by omega)
        show qG none (d + 1) 111 62 [(2, 4), (2, 64), (0, ((i : Nat) : Int))] [] wA 142 Q9
        refine qG.blk 3 (pc' := 67) (ls' := [(2, 4), (2, 64), (0, ((i : Nat) : Int))]) (st' := [(0, wA 4 8), (2, 4)]) (w' := wA) (n' := 142) rfl ?_
        rw [show wA 4 8 = moF (w 5) (w 6) i from hA8]
        refine qG.blk 2 (pc' := 71) (ls' := [(2, 4), (2, 64), (0, ((i : Nat) : Int))]) (st' := [(0, wA 4 4), (0, moF (w 5) (w 6) i), (2, 4)]) (w' := wA) (n' := 142) rfl ?_
        rw [show wA 4 4 = oF (w 5) (w 6) (i + 1) from hA4]
        refine qG.call (t := 302) (na := 1) (sk := 0) (md := 0) (ls1 := [(0, oF (w 5) (w 6) (i + 1))]) (r1 := [(0, moF (w 5) (w 6) i), (2, 4)]) rfl rfl rfl rfl rfl (K_bcJ (Nat.zero_le _) (oF (w 5) (w 6) (i + 1)) (by rw [hm9]; omega) (by rw [hm9]; omega) _) ?_
        rintro _ w7 _ ⟨rfl, hw7, rfl⟩
        rw [hw7, show bitsF (oF (w 5) (w 6) (i + 1)) 30 = bitsF (oF (w 5) (w 6) (i + 1)) 16 from by rw [hm9, bitsF_n (by omega) 30 (by decide), bitsF_n (by omega) 16 (by decide), pcn_h (by omega)]]
        show qG none (d + 1) 111 74 [(2, 4), (2, 64), (0, ((i : Nat) : Int))] [(0, bitsF (oF (w 5) (w 6) (i + 1)) 16), (0, moF (w 5) (w 6) i), (2, 4)] wA 142 Q9
        refine qG.mth rfl rfl rfl rfl (pc' := 77) (ls' := [(2, 4), (2, 64), (0, ((i : Nat) : Int))]) (st' := [(0, (if moF (w 5) (w 6) i < bitsF (oF (w 5) (w 6) (i + 1)) 16 then bitsF (oF (w 5) (w 6) (i + 1)) 16 else moF (w 5) (w 6) i)), (2, 4)]) (w' := wA) (n' := 142) rfl ?_
        refine qG.blk 3 (pc' := 84) (ls' := [(2, 4), (2, 64), (0, ((i : Nat) : Int))]) (st' := [(2, wA 4 3)]) (w' := (qup wA 4 8 (if moF (w 5) (w 6) i < bitsF (oF (w 5) (w 6) (i + 1)) 16 then bitsF (oF (w 5) (w 6) (i + 1)) 16 else moF (w 5) (w 6) i))) (n' := 142) rfl ?_
        rw [show wA 4 3 = 7 from zref hIA rfl rfl]
        refine qG.blk 3 (pc' := 87) (ls' := [(2, 4), (2, 64), (0, ((i : Nat) : Int))]) (st' := [(2, 64), (2, 4), (0, ((i : Nat) : Int)), (2, 7)]) (w' := (qup wA 4 8 (if moF (w 5) (w 6) i < bitsF (oF (w 5) (w 6) (i + 1)) 16 then bitsF (oF (w 5) (w 6) (i + 1)) 16 else moF (w 5) (w 6) i))) (n' := 142) rfl ?_
        obtain ⟨wB, hwB⟩ : ∃ z : qW, z = (qup wA 4 8 (if moF (w 5) (w 6) i < bitsF (oF (w 5) (w 6) (i + 1)) 16 then bitsF (oF (w 5) (w 6) (i + 1)) 16 else moF (w 5) (w 6) i)) := ⟨_, rfl⟩
        rw [← hwB]
        have hIB : yInv zgf zga zra zSp wB := by rw [hwB]; exact zup_f hIA (b := (0, 63)) rfl rfl rfl (by have z := bitsF_in (oF (w 5) (w 6) (i + 1)) 16; have z2 := hIA.1 4 8 (0, 63) rfl rfl; rw [hA8] at z2; have z3 : (0 : Int) ≤ moF (w 5) (w 6) i := z2.1; have z4 : moF (w 5) (w 6) i ≤ (63 : Int) := z2.2; split <;> exact ⟨by show (0 : Int) ≤ _; omega, by show _ ≤ (63 : Int); omega⟩)
        have hB8 : wB 4 8 = moF (w 5) (w 6) (i + 1) := by rw [hwB, qup_k]; rfl
        have hBo : ∀ z j, ¬ (z = 4 ∧ j = 8) → wB z j = wA z j := fun z j h => by rw [hwB]; exact qup_f h
        have hB7 : wB 4 7 = asF w 0 (w 5) (w 6) i := (hBo 4 7 (by omega)).trans hA7
        have hBw : ∀ z j, z ≠ 7 → ¬ (z = 4 ∧ 4 ≤ j ∧ j ≤ 9) → wB z j = w z j := fun z j h1 h2 => (hBo z j (by omega)).trans ((tfr z j (by omega)).trans (hfr z j h1 h2))
        have hEB : JE wB := fun c2 d2 a b => by rw [hBw (66 + 5 * c2) d2 (by omega) (by omega), hBw (67 + 5 * c2) d2 (by omega) (by omega), hBw (68 + 5 * c2) d2 (by omega) (by omega), hBw 97 _ (by decide) (by omega), hBw 98 _ (by decide) (by omega), hBw 100 _ (by decide) (by omega)]; exact hE c2 d2 a b
        have hKB : wB 64 0 = wB 96 0 := by rw [hBw 64 0 (by decide) (by omega), hBw 96 0 (by decide) (by omega)]; exact hK
        have hvB : seG wB 0 (wB 4 4) (wB 4 5) (wB 4 6) 10 = vwF w 0 (w 5) (w 6) i := by rw [hBo 4 4 (by omega), hBo 4 5 (by omega), hBo 4 6 (by omega), hA4, hA5, hA6]; exact seG_cg (fun j => hBw 96 j (by decide) (by omega)) (fun j => hBw 97 j (by decide) (by omega)) (fun j => hBw 98 j (by decide) (by omega)) (fun j => hBw 100 j (by decide) (by omega)) 0 _ _ _ 10
        refine qG.call (t := 113) (na := 2) (sk := 1) (md := 1) (ls1 := [(2, 4), (2, 64), (9, 0), (9, 0)]) (r1 := [(0, ((i : Nat) : Int)), (2, 7)]) rfl rfl rfl rfl rfl (K_view4_64 (by omega) m9 hm10 wB hIB ((hBo 4 4 (by omega)).trans (hA4.trans hm9)) hKB hEB) ?_
        rintro _ w7 _ ⟨rfl, hw7, rfl⟩
        rw [hw7, hvB]
        show qG none (d + 1) 111 90 [(2, 4), (2, 64), (0, ((i : Nat) : Int))] [(0, vwF w 0 (w 5) (w 6) i), (0, ((i : Nat) : Int)), (2, 7)] wB 142 Q9
        refine qG.ar (P := 0 ≤ ((i : Nat) : Int) ∧ ((i : Nat) : Int) < ((40 : Nat) : Int)) (P2 := 0 < (7 : Int) ∧ (7 : Int) ≤ ((142 : Nat) : Int)) (pc' := 91) (ls' := [(2, 4), (2, 64), (0, ((i : Nat) : Int))]) (st' := []) (w' := (qup wB 7 i (vwF w 0 (w 5) (w 6) i))) (n' := 142) rfl (by omega) (by decide) ?_
        refine qG.blk 3 (pc' := 96) (ls' := [(2, 4), (2, 64), (0, ((i : Nat) : Int))]) (st' := [(0, wB 4 7), (2, 4)]) (w' := (qup wB 7 i (vwF w 0 (w 5) (w 6) i))) (n' := 142) rfl ?_
        rw [show wB 4 7 = asF w 0 (w 5) (w 6) i from hB7]
        refine qG.blk 2 (pc' := 100) (ls' := [(2, 4), (2, 64), (0, ((i : Nat) : Int))]) (st' := [(2, wB 4 3), (0, asF w 0 (w 5) (w 6) i), (2, 4)]) (w' := (qup wB 7 i (vwF w 0 (w 5) (w 6) i))) (n' := 142) rfl ?_
        rw [show wB 4 3 = 7 from zref hIB rfl rfl]
        refine qG.blk 1 (pc' := 101) (ls' := [(2, 4), (2, 64), (0, ((i : Nat) : Int))]) (st' := [(0, ((i : Nat) : Int)), (2, 7), (0, asF w 0 (w 5) (w 6) i), (2, 4)]) (w' := (qup wB 7 i (vwF w 0 (w 5) (w 6) i))) (n' := 142) rfl ?_
        refine qG.ar (P := 0 ≤ ((i : Nat) : Int) ∧ ((i : Nat) : Int) < ((40 : Nat) : Int)) (P2 := 0 < (7 : Int) ∧ (7 : Int) ≤ ((142 : Nat) : Int)) (pc' := 102) (ls' := [(2, 4), (2, 64), (0, ((i : Nat) : Int))]) (st' := [(0, (qup wB 7 i (vwF w 0 (w 5) (w 6) i)) 7 i), (0, asF w 0 (w 5) (w 6) i), (2, 4)]) (w' := (qup wB 7 i (vwF w 0 (w 5) (w 6) i))) (n' := 142) rfl (by omega) (by decide) ?_
        rw [show (qup wB 7 i (vwF w 0 (w 5) (w 6) i)) 7 i = vwF w 0 (w 5) (w 6) i from by simp (disch := decide) only [qup_ne, qup_k]]
        refine qG.blk 3 (pc' := 109) (ls' := [(2, 4), (2, 64), (0, wrp (((i : Nat) : Int) + 1))]) (st' := []) (w' := (qup (qup wB 7 i (vwF w 0 (w 5) (w 6) i)) 4 7 (qor (asF w 0 (w 5) (w 6) i) (vwF w 0 (w 5) (w 6) i)))) (n' := 142) rfl ?_
        rw [show wrp (((i : Nat) : Int) + 1) = ((i + 1 : Nat) : Int) from wrp_id (by omega) (by omega)]
        refine qG.blk 1 (pc' := 32) (ls' := [(2, 4), (2, 64), (0, ((i + 1 : Nat) : Int))]) (st' := []) (w' := (qup (qup wB 7 i (vwF w 0 (w 5) (w 6) i)) 4 7 (qor (asF w 0 (w 5) (w 6) i) (vwF w 0 (w 5) (w 6) i)))) (n' := 142) rfl ?_
        obtain ⟨wN, hwN⟩ : ∃ z : qW, z = (qup (qup wB 7 i (vwF w 0 (w 5) (w 6) i)) 4 7 (qor (asF w 0 (w 5) (w 6) i) (vwF w 0 (w 5) (w 6) i))) := ⟨_, rfl⟩
        rw [← hwN]
        have hIN : yInv zgf zga zra zSp wN := by rw [hwN]; exact zup_f (zup_a hIB (b := (0, 65535)) rfl rfl (vw_in hI hE (by decide))) (b := (0, 65535)) rfl rfl rfl (as_in hI hE (by decide) (i + 1))
        have hCN : CHP 4 0 w (w 5) (w 6) (i + 1) wN := by rw [hwN]; exact ⟨(by rw [qup_f (by omega), qup_f (by omega), hBo 4 4 (by omega)]; exact hA4), (by rw [qup_f (by omega), qup_f (by omega), hBo 4 5 (by omega)]; exact hA5), (by rw [qup_f (by omega), qup_f (by omega), hBo 4 6 (by omega)]; exact hA6), qup_k, (by rw [qup_f (by omega), qup_f (by omega)]; exact hB8), (by rw [qup_f (by omega), qup_f (by omega), hBo 4 9 (by omega)]; exact hA9), (fun t ht => (qup_f (by omega)).trans (if e : t = i then (by rw [e]; exact qup_k) else ((qup_j e).trans ((hBo 7 t (by omega)).trans ((tfr 7 t (by omega)).trans (cv t (by omega))))))), fun z j h1 h2 => (qup_f (by omega)).trans ((qup_f (by omega)).trans (hBw z j h1 h2))⟩
        exact ih32 _ (by omega) (i + 1) (wN) rfl (⟨by omega, hIN, hCN⟩)
      · exfalso; omega
    · skip
      refine qG.retv rfl rfl ?_
      subst hQ9
      exact ⟨rfl, rfl, hIS, by rw [show L = i by omega]; exact ⟨c4, c5, c6, c7, c8, c9, cv, hfr⟩⟩
  exact L32 _ (0) (w0) rfl (⟨Nat.zero_le _, hI0, hC0⟩)
theorem K_perf4_69 {d : Nat} (hd : 2 ≤ d) (L : Nat) (hL : L ≤ 40) (w : qW) (hI : yInv zgf zga zra zSp w) (hs : w 4 2 = (L : Int)) (hKN : KNr (w 5) (w 6) L) (hK : w 69 0 = w 96 1) (hE : JE w) : qG none d 111 0 [(2, 4), (2, 69), (9, 0)] [] w 142 (fun (r : qV) (w1 : qW) (n1 : Nat) => r = (9, 0) ∧ n1 = 142 ∧ yInv zgf zga zra zSp w1 ∧ CHP 4 1 w (w 5) (w 6) L w1) := by
  generalize hQ9 : (fun (r : qV) (w1 : qW) (n1 : Nat) => r = (9, 0) ∧ n1 = 142 ∧ yInv zgf zga zra zSp w1 ∧ CHP 4 1 w (w 5) (w 6) L w1) = Q9
  obtain ⟨d, rfl⟩ : ∃ d9, d = d9 + 1 := ⟨d - 1, by omega⟩
  refine qG.blk 12 (pc' := 20) (ls' := [(2, 4), (2, 69), (9, 0)]) (st' := []) (w' := (qup (qup (qup (qup w 4 4 0) 4 5 (-1)) 4 6 0) 4 7 0)) (n' := 142) rfl ?_
  refine qG.blk 8 (pc' := 32) (ls' := [(2, 4), (2, 69), (0, 0)]) (st' := []) (w' := (qup (qup (qup (qup (qup (qup w 4 4 0) 4 5 (-1)) 4 6 0) 4 7 0) 4 8 0) 4 9 0)) (n' := 142) rfl ?_
  obtain ⟨w0, hw0⟩ : ∃ z : qW, z = (qup (qup (qup (qup (qup (qup w 4 4 0) 4 5 (-1)) 4 6 0) 4 7 0) 4 8 0) 4 9 0) := ⟨_, rfl⟩
  rw [← hw0]
  have hI0 : yInv zgf zga zra zSp w0 := by rw [hw0]; exact zup_f (zup_f (zup_f (zup_f (zup_f (zup_f hI (b := (-2147483648, 2147483647)) rfl rfl rfl ⟨by decide, by decide⟩) (b := (-2147483648, 2147483647)) rfl rfl rfl ⟨by decide, by decide⟩) (b := (0, 1)) rfl rfl rfl ⟨by decide, by decide⟩) (b := (0, 65535)) rfl rfl rfl ⟨by decide, by decide⟩) (b := (0, 63)) rfl rfl rfl ⟨by decide, by decide⟩) (b := (-2147483648, 2147483647)) rfl rfl rfl ⟨by decide, by decide⟩
  have hC0 : CHP 4 1 w (w 5) (w 6) 0 w0 := by rw [hw0]; exact ⟨(qup_j (by decide)).trans ((qup_j (by decide)).trans ((qup_j (by decide)).trans ((qup_j (by decide)).trans ((qup_j (by decide)).trans (qup_k))))), (qup_j (by decide)).trans ((qup_j (by decide)).trans ((qup_j (by decide)).trans ((qup_j (by decide)).trans (qup_k)))), (qup_j (by decide)).trans ((qup_j (by decide)).trans ((qup_j (by decide)).trans (qup_k))), (qup_j (by decide)).trans ((qup_j (by decide)).trans (qup_k)), (qup_j (by decide)).trans (qup_k), qup_k, fun t ht => absurd ht (Nat.not_lt_zero t), fun z j h1 h2 => (qup_f (by omega)).trans ((qup_f (by omega)).trans ((qup_f (by omega)).trans ((qup_f (by omega)).trans ((qup_f (by omega)).trans (qup_f (by omega))))))⟩
  have L32 : ∀ (m9 : Nat) (i : Nat) (wS : qW), 40 - i = m9 → (i ≤ L ∧ yInv zgf zga zra zSp wS ∧ CHP 4 1 w (w 5) (w 6) i wS) → qG none (d + 1) 111 32 [(2, 4), (2, 69), (0, ((i : Nat) : Int))] [] wS 142 Q9 := by
    intro m9
    induction m9 using Nat.strongRecOn with
    | ind m9 ih32 =>
    intro i wS hm32 hI32
    obtain ⟨hiL, hIS, hC⟩ := hI32
    obtain ⟨c4, c5, c6, c7, c8, c9, cv, hfr⟩ := hC
    refine qG.blk 3 (pc' := 37) (ls' := [(2, 4), (2, 69), (0, ((i : Nat) : Int))]) (st' := [(0, wS 4 2), (0, ((i : Nat) : Int))]) (w' := wS) (n' := 142) rfl ?_
    rw [show wS 4 2 = ((L : Nat) : Int) from (hfr 4 2 (by decide) (by omega)).trans hs]
    refine qG.br (P := ((i : Nat) : Int) < ((L : Nat) : Int)) (pc1 := 40) (pc2 := 112) (st1 := []) rfl (fun hiL2 => ?_) (fun hiL2 => ?_)
    · skip
      refine qG.blk 2 (pc' := 43) (ls' := [(2, 4), (2, 69), (0, ((i : Nat) : Int))]) (st' := [(0, 40), (0, ((i : Nat) : Int))]) (w' := wS) (n' := 142) rfl ?_
      refine qG.br (P := ((i : Nat) : Int) < 40) (pc1 := 46) (pc2 := 112) (st1 := []) rfl (fun hi40 => ?_) (fun hi40 => ?_)
      · skip
        refine qG.blk 3 (pc' := 51) (ls' := [(2, 4), (2, 69), (0, ((i : Nat) : Int))]) (st' := [(2, wS 4 0), (2, 4)]) (w' := wS) (n' := 142) rfl ?_
        rw [show wS 4 0 = 5 from zref hIS rfl rfl]
        refine qG.blk 1 (pc' := 52) (ls' := [(2, 4), (2, 69), (0, ((i : Nat) : Int))]) (st' := [(0, ((i : Nat) : Int)), (2, 5), (2, 4)]) (w' := wS) (n' := 142) rfl ?_
        refine qG.ar (P := 0 ≤ ((i : Nat) : Int) ∧ ((i : Nat) : Int) < ((40 : Nat) : Int)) (P2 := 0 < (5 : Int) ∧ (5 : Int) ≤ ((142 : Nat) : Int)) (pc' := 53) (ls' := [(2, 4), (2, 69), (0, ((i : Nat) : Int))]) (st' := [(0, wS 5 i), (2, 4)]) (w' := wS) (n' := 142) rfl (by omega) (by decide) ?_
        rw [show wS 5 i = w 5 i from hfr 5 i (by decide) (by omega)]
        refine qG.blk 2 (pc' := 57) (ls' := [(2, 4), (2, 69), (0, ((i : Nat) : Int))]) (st' := [(2, wS 4 1), (0, w 5 i), (2, 4)]) (w' := wS) (n' := 142) rfl ?_
        rw [show wS 4 1 = 6 from zref hIS rfl rfl]
        refine qG.blk 1 (pc' := 58) (ls' := [(2, 4), (2, 69), (0, ((i : Nat) : Int))]) (st' := [(0, ((i : Nat) : Int)), (2, 6), (0, w 5 i), (2, 4)]) (w' := wS) (n' := 142) rfl ?_
        refine qG.ar (P := 0 ≤ ((i : Nat) : Int) ∧ ((i : Nat) : Int) < ((40 : Nat) : Int)) (P2 := 0 < (6 : Int) ∧ (6 : Int) ≤ ((142 : Nat) : Int)) (pc' := 59) (ls' := [(2, 4), (2, 69), (0, ((i : Nat) : Int))]) (st' := [(0, wS 6 i), (0, w 5 i), (2, 4)]) (w' := wS) (n' := 142) rfl (by omega) (by decide) ?_
        rw [show wS 6 i = w 6 i from hfr 6 i (by decide) (by omega)]
        refine qG.call (t := 112) (na := 3) (sk := 1) (md := 1) (ls1 := [(2, 4), (0, w 5 i), (0, w 6 i)]) (r1 := []) rfl rfl rfl rfl rfl (K_take4 (Nat.zero_le _) (w 5 i) (w 6 i) (hKN i (by omega)).1 (hI.2.1 6 i (-2147483648, 2147483647) rfl rfl) wS hIS) ?_
        rintro _ wA _ ⟨rfl, rfl, hIA, t4, t5, t6, t9, tfr⟩
        have hA4 : wA 4 4 = oF (w 5) (w 6) (i + 1) := by rw [t4, c4]; rfl
        have hA5 : wA 4 5 = caF (w 5) (w 6) (i + 1) := by rw [t5, c5]; rfl
        have hA6 : wA 4 6 = sdF (w 5) (i + 1) := by rw [t6, c6]; rfl
        have hA9 : wA 4 9 = tuF (w 5) (i + 1) := by rw [t9, c9]; rfl
        have hA8 : wA 4 8 = moF (w 5) (w 6) i := (tfr 4 8 (by omega)).trans c8
        have hA7 : wA 4 7 = asF w 1 (w 5) (w 6) i := (tfr 4 7 (by omega)).trans c7
        obtain ⟨m9, hm9, hm10⟩ := oF_n hKN (i + 1) (by omega)
        show qG none (d + 1) 111 62 [(2, 4), (2, 69), (0, ((i : Nat) : Int))] [] wA 142 Q9
        refine qG.blk 3 (pc' := 67) (ls' := [(2, 4), (2, 69), (0, ((i : Nat) : Int))]) (st' := [(0, wA 4 8), (2, 4)]) (w' := wA) (n' := 142) rfl ?_
        rw [show wA 4 8 = moF (w 5) (w 6) i from hA8]
        refine qG.blk 2 (pc' := 71) (ls' := [(2, 4), (2, 69), (0, ((i : Nat) : Int))]) (st' := [(0, wA 4 4), (0, moF (w 5) (w 6) i), (2, 4)]) (w' := wA) (n' := 142) rfl ?_
        rw [show wA 4 4 = oF (w 5) (w 6) (i + 1) from hA4]
        refine qG.call (t := 302) (na := 1) (sk := 0) (md := 0) (ls1 := [(0, oF (w 5) (w 6) (i + 1))]) (r1 := [(0, moF (w 5) (w 6) i), (2, 4)]) rfl rfl rfl rfl rfl (K_bcJ (Nat.zero_le _) (oF (w 5) (w 6) (i + 1)) (by rw [hm9]; omega) (by rw [hm9]; omega) _) ?_
        rintro _ w7 _ ⟨rfl, hw7, rfl⟩
        rw [hw7, show bitsF (oF (w 5) (w 6) (i + 1)) 30 = bitsF (oF (w 5) (w 6) (i + 1)) 16 from by rw [hm9, bitsF_n (by omega) 30 (by decide), bitsF_n (by omega) 16 (by decide), pcn_h (by omega)]]
        show qG none (d + 1) 111 74 [(2, 4), (2, 69), (0, ((i : Nat) : Int))] [(0, bitsF (oF (w 5) (w 6) (i + 1)) 16), (0, moF (w 5) (w 6) i), (2, 4)] wA 142 Q9
        refine qG.mth rfl rfl rfl rfl (pc' := 77) (ls' := [(2, 4), (2, 69), (0, ((i : Nat) : Int))]) (st' := [(0, (if moF (w 5) (w 6) i < bitsF (oF (w 5) (w 6) (i + 1)) 16 then bitsF (oF (w 5) (w 6) (i + 1)) 16 else moF (w 5) (w 6) i)), (2, 4)]) (w' := wA) (n' := 142) rfl ?_
        refine qG.blk 3 (pc' := 84) (ls' := [(2, 4), (2, 69), (0, ((i : Nat) : Int))]) (st' := [(2, wA 4 3)]) (w' := (qup wA 4 8 (if moF (w 5) (w 6) i < bitsF (oF (w 5) (w 6) (i + 1)) 16 then bitsF (oF (w 5) (w 6) (i + 1)) 16 else moF (w 5) (w 6) i))) (n' := 142) rfl ?_
        rw [show wA 4 3 = 7 from zref hIA rfl rfl]
        refine qG.blk 3 (pc' := 87) (ls' := [(2, 4), (2, 69), (0, ((i : Nat) : Int))]) (st' := [(2, 69), (2, 4), (0, ((i : Nat) : Int)), (2, 7)]) (w' := (qup wA 4 8 (if moF (w 5) (w 6) i < bitsF (oF (w 5) (w 6) (i + 1)) 16 then bitsF (oF (w 5) (w 6) (i + 1)) 16 else moF (w 5) (w 6) i))) (n' := 142) rfl ?_
        obtain ⟨wB, hwB⟩ : ∃ z : qW, z = (qup wA 4 8 (if moF (w 5) (w 6) i < bitsF (oF (w 5) (w 6) (i + 1)) 16 then bitsF (oF (w 5) (w 6) (i + 1)) 16 else moF (w 5) (w 6) i)) := ⟨_, rfl⟩
        rw [← hwB]
        have hIB : yInv zgf zga zra zSp wB := by rw [hwB]; exact zup_f hIA (b := (0, 63)) rfl rfl rfl (by have z := bitsF_in (oF (w 5) (w 6) (i + 1)) 16; have z2 := hIA.1 4 8 (0, 63) rfl rfl; rw [hA8] at z2; have z3 : (0 : Int) ≤ moF (w 5) (w 6) i := z2.1; have z4 : moF (w 5) (w 6) i ≤ (63 : Int) := z2.2; split <;> exact ⟨by show (0 : Int) ≤ _; omega, by show _ ≤ (63 : Int); omega⟩)
        have hB8 : wB 4 8 = moF (w 5) (w 6) (i + 1) := by rw [hwB, qup_k]; rfl
        have hBo : ∀ z j, ¬ (z = 4 ∧ j = 8) → wB z j = wA z j := fun z j h => by rw [hwB]; exact qup_f h
        have hB7 : wB 4 7 = asF w 1 (w 5) (w 6) i := (hBo 4 7 (by omega)).trans hA7
        have hBw : ∀ z j, z ≠ 7 → ¬ (z = 4 ∧ 4 ≤ j ∧ j ≤ 9) → wB z j = w z j := fun z j h1 h2 => (hBo z j (by omega)).trans ((tfr z j (by omega)).trans (hfr z j h1 h2))
        have hEB : JE wB := fun c2 d2 a b => by rw [hBw (66 + 5 * c2) d2 (by omega) (by omega), hBw (67 + 5 * c2) d2 (by omega) (by omega), hBw (68 + 5 * c2) d2 (by omega) (by omega), hBw 97 _ (by decide) (by omega), hBw 98 _ (by decide) (by omega), hBw 100 _ (by decide) (by omega)]; exact hE c2 d2 a b
        have hKB : wB 69 0 = wB 96 1 := by rw [hBw 69 0 (by decide) (by omega), hBw 96 1 (by decide) (by omega)]; exact hK
        have hvB : seG wB 1 (wB 4 4) (wB 4 5) (wB 4 6) 10 = vwF w 1 (w 5) (w 6) i := by rw [hBo 4 4 (by omega), hBo 4 5 (by omega), hBo 4 6 (by omega), hA4, hA5, hA6]; exact seG_cg (fun j => hBw 96 j (by decide) (by omega)) (fun j => hBw 97 j (by decide) (by omega)) (fun j => hBw 98 j (by decide) (by omega)) (fun j => hBw 100 j (by decide) (by omega)) 1 _ _ _ 10
        refine qG.call (t := 113) (na := 2) (sk := 1) (md := 1) (ls1 := [(2, 4), (2, 69), (9, 0), (9, 0)]) (r1 := [(0, ((i : Nat) : Int)), (2, 7)]) rfl rfl rfl rfl rfl (K_view4_69 (by omega) m9 hm10 wB hIB ((hBo 4 4 (by omega)).trans (hA4.trans hm9)) hKB hEB) ?_
        rintro _ w7 _ ⟨rfl, hw7, rfl⟩
        rw [hw7, hvB]
        show qG none (d + 1) 111 90 [(2, 4), (2, 69), (0, ((i : Nat) : Int))] [(0, vwF w 1 (w 5) (w 6) i), (0, ((i : Nat) : Int)), (2, 7)] wB 142 Q9
        refine qG.ar (P := 0 ≤ ((i : Nat) : Int) ∧ ((i : Nat) : Int) < ((40 : Nat) : Int)) (P2 := 0 < (7 : Int) ∧ (7 : Int) ≤ ((142 : Nat) : Int)) (pc' := 91) (ls' := [(2, 4), (2, 69), (0, ((i : Nat) : Int))]) (st' := []) (w' := (qup wB 7 i (vwF w 1 (w 5) (w 6) i))) (n' := 142) rfl (by omega) (by decide) ?_
        refine qG.blk 3 (pc' := 96) (ls' := [(2, 4), (2, 69), (0, ((i : Nat) : Int))]) (st' := [(0, wB 4 7), (2, 4)]) (w' := (qup wB 7 i (vwF w 1 (w 5) (w 6) i))) (n' := 142) rfl ?_
        rw [show wB 4 7 = asF w 1 (w 5) (w 6) i from hB7]
        refine qG.blk 2 (pc' := 100) (ls' := [(2, 4), (2, 69), (0, ((i : Nat) : Int))]) (st' := [(2, wB 4 3), (0, asF w 1 (w 5) (w 6) i), (2, 4)]) (w' := (qup wB 7 i (vwF w 1 (w 5) (w 6) i))) (n' := 142) rfl ?_
        rw [show wB 4 3 = 7 from zref hIB rfl rfl]
        refine qG.blk 1 (pc' := 101) (ls' := [(2, 4), (2, 69), (0, ((i : Nat) : Int))]) (st' := [(0, ((i : Nat) : Int)), (2, 7), (0, asF w 1 (w 5) (w 6) i), (2, 4)]) (w' := (qup wB 7 i (vwF w 1 (w 5) (w 6) i))) (n' := 142) rfl ?_
        refine qG.ar (P := 0 ≤ ((i : Nat) : Int) ∧ ((i : Nat) : Int) < ((40 : Nat) : Int)) (P2 := 0 < (7 : Int) ∧ (7 : Int) ≤ ((142 : Nat) : Int)) (pc' := 102) (ls' := [(2, 4), (2, 69), (0, ((i : Nat) : Int))]) (st' := [(0, (qup wB 7 i (vwF w 1 (w 5) (w 6) i)) 7 i), (0, asF w 1 (w 5) (w 6) i), (2, 4)]) (w' := (qup wB 7 i (vwF w 1 (w 5) (w 6) i))) (n' := 142) rfl (by omega) (by decide) ?_
        rw [show (qup wB 7 i (vwF w 1 (w 5) (w 6) i)) 7 i = vwF w 1 (w 5) (w 6) i from by simp (disch := decide) only [qup_ne, qup_k]]
        refine qG.blk 3 (pc' := 109) (ls' := [(2, 4), (2, 69), (0, wrp (((i : Nat) : Int) + 1))]) (st' := []) (w' := (qup (qup wB 7 i (vwF w 1 (w 5) (w 6) i)) 4 7 (qor (asF w 1 (w 5) (w 6) i) (vwF w 1 (w 5) (w 6) i)))) (n' := 142) rfl ?_
        rw [show wrp (((i : Nat) : Int) + 1) = ((i + 1 : Nat) : Int) from wrp_id (by omega) (by omega)]
        refine qG.blk 1 (pc' := 32) (ls' := [(2, 4), (2, 69), (0, ((i + 1 : Nat) : Int))]) (st' := []) (w' := (qup (qup wB 7 i (vwF w 1 (w 5) (w 6) i)) 4 7 (qor (asF w 1 (w 5) (w 6) i) (vwF w 1 (w 5) (w 6) i)))) (n' := 142) rfl ?_
        obtain ⟨wN, hwN⟩ : ∃ z : qW, z = (qup (qup wB 7 i (vwF w 1 (w 5) (w 6) i)) 4 7 (qor (asF w 1 (w 5) (w 6) i) (vwF w 1 (w 5) (w 6) i))) := ⟨_, rfl⟩
        rw [← hwN]
        have hIN : yInv zgf zga zra zSp wN := by rw [hwN]; exact zup_f (zup_a hIB (b := (0, 65535)) rfl rfl (vw_in hI hE (by decide))) (b := (0, 65535)) rfl rfl rfl (as_in hI hE (by decide) (i + 1))
        have hCN : CHP 4 1 w (w 5) (w 6) (i + 1) wN := by rw [hwN]; exact ⟨(by rw [qup_f (by omega), qup_f (by omega), hBo 4 4 (by omega)]; exact hA4), (by rw [qup_f (by omega), qup_f (by omega), hBo 4 5 (by omega)]; exact hA5), (by rw [qup_f (by omega), qup_f (by omega), hBo 4 6 (by omega)]; exact hA6), qup_k, (by rw [qup_f (by omega), qup_f (by omega)]; exact hB8), (by rw [qup_f (by omega), qup_f (by omega), hBo 4 9 (by omega)]; exact hA9), (fun t ht => (qup_f (by omega)).trans (if e : t = i then (by rw [e]; exact qup_k) else ((qup_j e).trans ((hBo 7 t (by omega)).trans ((tfr 7 t (by omega)).trans (cv t (by omega))))))), fun z j h1 h2 => (qup_f (by omega)).trans ((qup_f (by omega)).trans (hBw z j h1 h2))⟩
        exact ih32 _ (by omega) (i + 1) (wN) rfl (⟨by omega, hIN, hCN⟩)
      · exfalso; omega
    · skip
      refine qG.retv rfl rfl ?_
      subst hQ9
      exact ⟨rfl, rfl, hIS, by rw [show L = i by omega]; exact ⟨c4, c5, c6, c7, c8, c9, cv, hfr⟩⟩
  exact L32 _ (0) (w0) rfl (⟨Nat.zero_le _, hI0, hC0⟩)
theorem K_perf4_74 {d : Nat} (hd : 2 ≤ d) (L : Nat) (hL : L ≤ 40) (w : qW) (hI : yInv zgf zga zra zSp w) (hs : w 4 2 = (L : Int)) (hKN : KNr (w 5) (w 6) L) (hK : w 74 0 = w 96 2) (hE : JE w) : qG none d 111 0 [(2, 4), (2, 74), (9, 0)] [] w 142 (fun (r : qV) (w1 : qW) (n1 : Nat) => r = (9, 0) ∧ n1 = 142 ∧ yInv zgf zga zra zSp w1 ∧ CHP 4 2 w (w 5) (w 6) L w1) := by
  generalize hQ9 : (fun (r : qV) (w1 : qW) (n1 : Nat) => r = (9, 0) ∧ n1 = 142 ∧ yInv zgf zga zra zSp w1 ∧ CHP 4 2 w (w 5) (w 6) L w1) = Q9
  obtain ⟨d, rfl⟩ : ∃ d9, d = d9 + 1 := ⟨d - 1, by omega⟩
  refine qG.blk 12 (pc' := 20) (ls' := [(2, 4), (2, 74), (9, 0)]) (st' := []) (w' := (qup (qup (qup (qup w 4 4 0) 4 5 (-1)) 4 6 0) 4 7 0)) (n' := 142) rfl ?_
  refine qG.blk 8 (pc' := 32) (ls' := [(2, 4), (2, 74), (0, 0)]) (st' := []) (w' := (qup (qup (qup (qup (qup (qup w 4 4 0) 4 5 (-1)) 4 6 0) 4 7 0) 4 8 0) 4 9 0)) (n' := 142) rfl ?_
  obtain ⟨w0, hw0⟩ : ∃ z : qW, z = (qup (qup (qup (qup (qup (qup w 4 4 0) 4 5 (-1)) 4 6 0) 4 7 0) 4 8 0) 4 9 0) := ⟨_, rfl⟩
  rw [← hw0]
  have hI0 : yInv zgf zga zra zSp w0 := by rw [hw0]; exact zup_f (zup_f (zup_f (zup_f (zup_f (zup_f hI (b := (-2147483648, 2147483647)) rfl rfl rfl ⟨by decide, by decide⟩) (b := (-2147483648, 2147483647)) rfl rfl rfl ⟨by decide, by decide⟩) (b := (0, 1)) rfl rfl rfl ⟨by decide, by decide⟩) (b := (0, 65535)) rfl rfl rfl ⟨by decide, by decide⟩) (b := (0, 63)) rfl rfl rfl ⟨by decide, by decide⟩) (b := (-2147483648, 2147483647)) rfl rfl rfl ⟨by decide, by decide⟩
  have hC0 : CHP 4 2 w (w 5) (w 6) 0 w0 := by rw [hw0]; exact ⟨(qup_j (by decide)).trans ((qup_j (by decide)).trans ((qup_j (by decide)).trans ((qup_j (by decide)).trans ((qup_j (by decide)).trans (qup_k))))), (qup_j (by decide)).trans ((qup_j (by decide)).trans ((qup_j (by decide)).trans ((qup_j (by decide)).trans (qup_k)))), (qup_j (by decide)).trans ((qup_j (by decide)).trans ((qup_j (by decide)).trans (qup_k))), (qup_j (by decide)).trans ((qup_j (by decide)).trans (qup_k)), (qup_j (by decide)).trans (qup_k), qup_k, fun t ht => absurd ht (Nat.not_lt_zero t), fun z j h1 h2 => (qup_f (by omega)).trans ((qup_f (by omega)).trans ((qup_f (by omega)).trans ((qup_f (by omega)).trans ((qup_f (by omega)).trans (qup_f (by omega))))))⟩
  have L32 : ∀ (m9 : Nat) (i : Nat) (wS : qW), 40 - i = m9 → (i ≤ L ∧ yInv zgf zga zra zSp wS ∧ CHP 4 2 w (w 5) (w 6) i wS) → qG none (d + 1) 111 32 [(2, 4), (2, 74), (0, ((i : Nat) : Int))] [] wS 142 Q9 := by
    intro m9
    induction m9 using Nat.strongRecOn with
    | ind m9 ih32 =>
    intro i wS hm32 hI32
    obtain ⟨hiL, hIS, hC⟩ := hI32
    obtain ⟨c4, c5, c6, c7, c8, c9, cv, hfr⟩ := hC
    refine qG.blk 3 (pc' := 37) (ls' := [(2, 4), (2, 74), (0, ((i : Nat) : Int))]) (st' := [(0, wS 4 2), (0, ((i : Nat) : Int))]) (w' := wS) (n' := 142) rfl ?_
    rw [show wS 4 2 = ((L : Nat) : Int) from (hfr 4 2 (by decide) (by omega)).trans hs]
    refine qG.br (P := ((i : Nat) : Int) < ((L : Nat) : Int)) (pc1 := 40) (pc2 := 112) (st1 := []) rfl (fun hiL2 => ?_) (fun hiL2 => ?_)
    · skip
      refine qG.blk 2 (pc' := 43) (ls' := [(2, 4), (2, 74), (0, ((i : Nat) : Int))]) (st' := [(0, 40), (0, ((i : Nat) : Int))]) (w' := wS) (n' := 142) rfl ?_
      refine qG.br (P := ((i : Nat) : Int) < 40) (pc1 := 46) (pc2 := 112) (st1 := []) rfl (fun hi40 => ?_) (fun hi40 => ?_)
      · skip
        refine qG.blk 3 (pc' := 51) (ls' := [(2, 4), (2, 74), (0, ((i : Nat) : Int))]) (st' := [(2, wS 4 0), (2, 4)]) (w' := wS) (n' := 142) rfl ?_
        rw [show wS 4 0 = 5 from zref hIS rfl rfl]
        refine qG.blk 1 (pc' := 52) (ls' := [(2, 4), (2, 74), (0, ((i : Nat) : Int))]) (st' := [(0, ((i : Nat) : Int)), (2, 5), (2, 4)]) (w' := wS) (n' := 142) rfl ?_
        refine qG.ar (P := 0 ≤ ((i : Nat) : Int) ∧ ((i : Nat) : Int) < ((40 : Nat) : Int)) (P2 := 0 < (5 : Int) ∧ (5 : Int) ≤ ((142 : Nat) : Int)) (pc' := 53) (ls' := [(2, 4), (2, 74), (0, ((i : Nat) : Int))]) (st' := [(0, wS 5 i), (2, 4)]) (w' := wS) (n' := 142) rfl (by omega) (by decide) ?_
        rw [show wS 5 i = w 5 i from hfr 5 i (by decide) (by omega)]
        refine qG.blk 2 (pc' := 57) (ls' := [(2, 4), (2, 74), (0, ((i : Nat) : Int))]) (st' := [(2, wS 4 1), (0, w 5 i), (2, 4)]) (w' := wS) (n' := 142) rfl ?_
        rw [show wS 4 1 = 6 from zref hIS rfl rfl]
        refine qG.blk 1 (pc' := 58) (ls' := [(2, 4), (2, 74), (0, ((i : Nat) : Int))]) (st' := [(0, ((i : Nat) : Int)), (2, 6), (0, w 5 i), (2, 4)]) (w' := wS) (n' := 142) rfl ?_
        refine qG.ar (P := 0 ≤ ((i : Nat) : Int) ∧ ((i : Nat) : Int) < ((40 : Nat) : Int)) (P2 := 0 < (6 : Int) ∧ (6 : Int) ≤ ((142 : Nat) : Int)) (pc' := 59) (ls' := [(2, 4), (2, 74), (0, ((i : Nat) : Int))]) (st' := [(0, wS 6 i), (0, w 5 i), (2, 4)]) (w' := wS) (n' := 142) rfl (by omega) (by decide) ?_
        rw [show wS 6 i = w 6 i from hfr 6 i (by decide) (by omega)]
        refine qG.call (t := 112) (na := 3) (sk := 1) (md := 1) (ls1 := [(2, 4), (0, w 5 i), (0, w 6 i)]) (r1 := []) rfl rfl rfl rfl rfl (K_take4 (Nat.zero_le _) (w 5 i) (w 6 i) (hKN i (by omega)).1 (hI.2.1 6 i (-2147483648, 2147483647) rfl rfl) wS hIS) ?_
        rintro _ wA _ ⟨rfl, rfl, hIA, t4, t5, t6, t9, tfr⟩
        have hA4 : wA 4 4 = oF (w 5) (w 6) (i + 1) := by rw [t4, c4]; rfl
        have hA5 : wA 4 5 = caF (w 5) (w 6) (i + 1) := by rw [t5, c5]; rfl
        have hA6 : wA 4 6 = sdF (w 5) (i + 1) := by rw [t6, c6]; rfl
        have hA9 : wA 4 9 = tuF (w 5) (i + 1) := by rw [t9, c9]; rfl
        have hA8 : wA 4 8 = moF (w 5) (w 6) i := (tfr 4 8 (by omega)).trans c8
        have hA7 : wA 4 7 = asF w 2 (w 5) (w 6) i := (tfr 4 7 (by omega)).trans c7
        obtain ⟨m9, hm9, hm10⟩ := oF_n hKN (i + 1) (by omega)
        show qG none (d + 1) 111 62 [(2, 4), (2, 74), (0, ((i : Nat) : Int))] [] wA 142 Q9
        refine qG.blk 3 (pc' := 67) (ls' := [(2, 4), (2, 74), (0, ((i : Nat) : Int))]) (st' := [(0, wA 4 8), (2, 4)]) (w' := wA) (n' := 142) rfl ?_
        rw [show wA 4 8 = moF (w 5) (w 6) i from hA8]
        refine qG.blk 2 (pc' := 71) (ls' := [(2, 4), (2, 74), (0, ((i : Nat) : Int))]) (st' := [(0, wA 4 4), (0, moF (w 5) (w 6) i), (2, 4)]) (w' := wA) (n' := 142) rfl ?_
        rw [show wA 4 4 = oF (w 5) (w 6) (i + 1) from hA4]
        refine qG.call (t := 302) (na := 1) (sk := 0) (md := 0) (ls1 := [(0, oF (w 5) (w 6) (i + 1))]) (r1 := [(0, moF (w 5) (w 6) i), (2, 4)]) rfl rfl rfl rfl rfl (K_bcJ (Nat.zero_le _) (oF (w 5) (w 6) (i + 1)) (by rw [hm9]; omega) (by rw [hm9]; omega) _) ?_
        rintro _ w7 _ ⟨rfl, hw7, rfl⟩
        rw [hw7, show bitsF (oF (w 5) (w 6) (i + 1)) 30 = bitsF (oF (w 5) (w 6) (i + 1)) 16 from by rw [hm9, bitsF_n (by omega) 30 (by decide), bitsF_n (by omega) 16 (by decide), pcn_h (by omega)]]
        show qG none (d + 1) 111 74 [(2, 4), (2, 74), (0, ((i : Nat) : Int))] [(0, bitsF (oF (w 5) (w 6) (i + 1)) 16), (0, moF (w 5) (w 6) i), (2, 4)] wA 142 Q9
        refine qG.mth rfl rfl rfl rfl (pc' := 77) (ls' := [(2, 4), (2, 74), (0, ((i : Nat) : Int))]) (st' := [(0, (if moF (w 5) (w 6) i < bitsF (oF (w 5) (w 6) (i + 1)) 16 then bitsF (oF (w 5) (w 6) (i + 1)) 16 else moF (w 5) (w 6) i)), (2, 4)]) (w' := wA) (n' := 142) rfl ?_
        refine qG.blk 3 (pc' := 84) (ls' := [(2, 4), (2, 74), (0, ((i : Nat) : Int))]) (st' := [(2, wA 4 3)]) (w' := (qup wA 4 8 (if moF (w 5) (w 6) i < bitsF (oF (w 5) (w 6) (i + 1)) 16 then bitsF (oF (w 5) (w 6) (i + 1)) 16 else moF (w 5) (w 6) i))) (n' := 142) rfl ?_
        rw [show wA 4 3 = 7 from zref hIA rfl rfl]
        refine qG.blk 3 (pc' := 87) (ls' := [(2, 4), (2, 74), (0, ((i : Nat) : Int))]) (st' := [(2, 74), (2, 4), (0, ((i : Nat) : Int)), (2, 7)]) (w' := (qup wA 4 8 (if moF (w 5) (w 6) i < bitsF (oF (w 5) (w 6) (i + 1)) 16 then bitsF (oF (w 5) (w 6) (i + 1)) 16 else moF (w 5) (w 6) i))) (n' := 142) rfl ?_
        obtain ⟨wB, hwB⟩ : ∃ z : qW, z = (qup wA 4 8 (if moF (w 5) (w 6) i < bitsF (oF (w 5) (w 6) (i + 1)) 16 then bitsF (oF (w 5) (w 6) (i + 1)) 16 else moF (w 5) (w 6) i)) := ⟨_, rfl⟩
        rw [← hwB]
        have hIB : yInv zgf zga zra zSp wB := by rw [hwB]; exact zup_f hIA (b := (0, 63)) rfl rfl rfl (by have z := bitsF_in (oF (w 5) (w 6) (i + 1)) 16; have z2 := hIA.1 4 8 (0, 63) rfl rfl; rw [hA8] at z2; have z3 : (0 : Int) ≤ moF (w 5) (w 6) i := z2.1; have z4 : moF (w 5) (w 6) i ≤ (63 : Int) := z2.2; split <;> exact ⟨by show (0 : Int) ≤ _; omega, by show _ ≤ (63 : Int); omega⟩)
        have hB8 : wB 4 8 = moF (w 5) (w 6) (i + 1) := by rw [hwB, qup_k]; rfl
        have hBo : ∀ z j, ¬ (z = 4 ∧ j = 8) → wB z j = wA z j := fun z j h => by rw [hwB]; exact qup_f h
        have hB7 : wB 4 7 = asF w 2 (w 5) (w 6) i := (hBo 4 7 (by omega)).trans hA7
        have hBw : ∀ z j, z ≠ 7 → ¬ (z = 4 ∧ 4 ≤ j ∧ j ≤ 9) → wB z j = w z j := fun z j h1 h2 => (hBo z j (by omega)).trans ((tfr z j (by omega)).trans (hfr z j h1 h2))
        have hEB : JE wB := fun c2 d2 a b => by rw [hBw (66 + 5 * c2) d2 (by omega) (by omega), hBw (67 + 5 * c2) d2 (by omega) (by omega), hBw (68 + 5 * c2) d2 (by omega) (by omega), hBw 97 _ (by decide) (by omega), hBw 98 _ (by decide) (by omega), hBw 100 _ (by decide) (by omega)]; exact hE c2 d2 a b
        have hKB : wB 74 0 = wB 96 2 := by rw [hBw 74 0 (by decide) (by omega), hBw 96 2 (by decide) (by omega)]; exact hK
        have hvB : seG wB 2 (wB 4 4) (wB 4 5) (wB 4 6) 10 = vwF w 2 (w 5) (w 6) i := by rw [hBo 4 4 (by omega), hBo 4 5 (by omega), hBo 4 6 (by omega), hA4, hA5, hA6]; exact seG_cg (fun j => hBw 96 j (by decide) (by omega)) (fun j => hBw 97 j (by decide) (by omega)) (fun j => hBw 98 j (by decide) (by omega)) (fun j => hBw 100 j (by decide) (by omega)) 2 _ _ _ 10
        refine qG.call (t := 113) (na := 2) (sk := 1) (md := 1) (ls1 := [(2, 4), (2, 74), (9, 0), (9, 0)]) (r1 := [(0, ((i : Nat) : Int)), (2, 7)]) rfl rfl rfl rfl rfl (K_view4_74 (by omega) m9 hm10 wB hIB ((hBo 4 4 (by omega)).trans (hA4.trans hm9)) hKB hEB) ?_
        rintro _ w7 _ ⟨rfl, hw7, rfl⟩
        rw [hw7, hvB]
        show qG none (d + 1) 111 90 [(2, 4), (2, 74), (0, ((i : Nat) : Int))] [(0, vwF w 2 (w 5) (w 6) i), (0, ((i : Nat) : Int)), (2, 7)] wB 142 Q9
        refine qG.ar (P := 0 ≤ ((i : Nat) : Int) ∧ ((i : Nat) : Int) < ((40 : Nat) : Int)) (P2 := 0 < (7 : Int) ∧ (7 : Int) ≤ ((142 : Nat) : Int)) (pc' := 91) (ls' := [(2, 4), (2, 74), (0, ((i : Nat) : Int))]) (st' := []) (w' := (qup wB 7 i (vwF w 2 (w 5) (w 6) i))) (n' := 142) rfl (by omega) (by decide) ?_
        refine qG.blk 3 (pc' := 96) (ls' := [(2, 4), (2, 74), (0, ((i : Nat) : Int))]) (st' := [(0, wB 4 7), (2, 4)]) (w' := (qup wB 7 i (vwF w 2 (w 5) (w 6) i))) (n' := 142) rfl ?_
        rw [show wB 4 7 = asF w 2 (w 5) (w 6) i from hB7]
        refine qG.blk 2 (pc' := 100) (ls' := [(2, 4), (2, 74), (0, ((i : Nat) : Int))]) (st' := [(2, wB 4 3), (0, asF w 2 (w 5) (w 6) i), (2, 4)]) (w' := (qup wB 7 i (vwF w 2 (w 5) (w 6) i))) (n' := 142) rfl ?_
        rw [show wB 4 3 = 7 from zref hIB rfl rfl]
        refine qG.blk 1 (pc' := 101) (ls' := [(2, 4), (2, 74), (0, ((i : Nat) : Int))]) (st' := [(0, ((i : Nat) : Int)), (2, 7), (0, asF w 2 (w 5) (w 6) i), (2, 4)]) (w' := (qup wB 7 i (vwF w 2 (w 5) (w 6) i))) (n' := 142) rfl ?_
        refine qG.ar (P := 0 ≤ ((i : Nat) : Int) ∧ ((i : Nat) : Int) < ((40 : Nat) : Int)) (P2 := 0 < (7 : Int) ∧ (7 : Int) ≤ ((142 : Nat) : Int)) (pc' := 102) (ls' := [(2, 4), (2, 74), (0, ((i : Nat) : Int))]) (st' := [(0, (qup wB 7 i (vwF w 2 (w 5) (w 6) i)) 7 i), (0, asF w 2 (w 5) (w 6) i), (2, 4)]) (w' := (qup wB 7 i (vwF w 2 (w 5) (w 6) i))) (n' := 142) rfl (by omega) (by decide) ?_
        rw [show (qup wB 7 i (vwF w 2 (w 5) (w 6) i)) 7 i = vwF w 2 (w 5) (w 6) i from by simp (disch := decide) only [qup_ne, qup_k]]
        refine qG.blk 3 (pc' := 109) (ls' := [(2, 4), (2, 74), (0, wrp (((i : Nat) : Int) + 1))]) (st' := []) (w' := (qup (qup wB 7 i (vwF w 2 (w 5) (w 6) i)) 4 7 (qor (asF w 2 (w 5) (w 6) i) (vwF w 2 (w 5) (w 6) i)))) (n' := 142) rfl ?_
        rw [show wrp (((i : Nat) : Int) + 1) = ((i + 1 : Nat) : Int) from wrp_id (by omega) (by omega)]
        refine qG.blk 1 (pc' := 32) (ls' := [(2, 4), (2, 74), (0, ((i + 1 : Nat) : Int))]) (st' := []) (w' := (qup (qup wB 7 i (vwF w 2 (w 5) (w 6) i)) 4 7 (qor (asF w 2 (w 5) (w 6) i) (vwF w 2 (w 5) (w 6) i)))) (n' := 142) rfl ?_
        obtain ⟨wN, hwN⟩ : ∃ z : qW, z = (qup (qup wB 7 i (vwF w 2 (w 5) (w 6) i)) 4 7 (qor (asF w 2 (w 5) (w 6) i) (vwF w 2 (w 5) (w 6) i))) := ⟨_, rfl⟩
        rw [← hwN]
        have hIN : yInv zgf zga zra zSp wN := by rw [hwN]; exact zup_f (zup_a hIB (b := (0, 65535)) rfl rfl (vw_in hI hE (by decide))) (b := (0, 65535)) rfl rfl rfl (as_in hI hE (by decide) (i + 1))
        have hCN : CHP 4 2 w (w 5) (w 6) (i + 1) wN := by rw [hwN]; exact ⟨(by rw [qup_f (by omega), qup_f (by omega), hBo 4 4 (by omega)]; exact hA4), (by rw [qup_f (by omega), qup_f (by omega), hBo 4 5 (by omega)]; exact hA5), (by rw [qup_f (by omega), qup_f (by omega), hBo 4 6 (by omega)]; exact hA6), qup_k, (by rw [qup_f (by omega), qup_f (by omega)]; exact hB8), (by rw [qup_f (by omega), qup_f (by omega), hBo 4 9 (by omega)]; exact hA9), (fun t ht => (qup_f (by omega)).trans (if e : t = i then (by rw [e]; exact qup_k) else ((qup_j e).trans ((hBo 7 t (by omega)).trans ((tfr 7 t (by omega)).trans (cv t (by omega))))))), fun z j h1 h2 => (qup_f (by omega)).trans ((qup_f (by omega)).trans (hBw z j h1 h2))⟩
        exact ih32 _ (by omega) (i + 1) (wN) rfl (⟨by omega, hIN, hCN⟩)
      · exfalso; omega
    · skip
      refine qG.retv rfl rfl ?_
      subst hQ9
      exact ⟨rfl, rfl, hIS, by rw [show L = i by omega]; exact ⟨c4, c5, c6, c7, c8, c9, cv, hfr⟩⟩
  exact L32 _ (0) (w0) rfl (⟨Nat.zero_le _, hI0, hC0⟩)
theorem K_perf79_64 {d : Nat} (hd : 2 ≤ d) (L : Nat) (hL : L ≤ 40) (w : qW) (hI : yInv zgf zga zra zSp w) (hs : w 79 2 = (L : Int)) (hKN : KNr (w 80) (w 81) L) (hK : w 64 0 = w 96 0) (hE : JE w) : qG none d 111 0 [(2, 79), (2, 64), (9, 0)] [] w 142 (fun (r : qV) (w1 : qW) (n1 : Nat) => r = (9, 0) ∧ n1 = 142 ∧ yInv zgf zga zra zSp w1 ∧ CHP 79 0 w (w 80) (w 81) L w1) := by
  generalize hQ9 : (fun (r : qV) (w1 : qW) (n1 : Nat) => r = (9, 0) ∧ n1 = 142 ∧ yInv zgf zga zra zSp w1 ∧ CHP 79 0 w (w 80) (w 81) L w1) = Q9
  obtain ⟨d, rfl⟩ : ∃ d9, d = d9 + 1 := ⟨d - 1, by omega⟩
  refine qG.blk 12 (pc' := 20) (ls' := [(2, 79), (2, 64), (9, 0)]) (st' := []) (w' := (qup (qup (qup (qup w 79 4 0) 79 5 (-1)) 79 6 0) 79 7 0)) (n' := 142) rfl ?_
  refine qG.blk 8 (pc' := 32) (ls' := [(2, 79), (2, 64), (0, 0)]) (st' := []) (w' := (qup (qup (qup (qup (qup (qup w 79 4 0) 79 5 (-1)) 79 6 0) 79 7 0) 79 8 0) 79 9 0)) (n' := 142) rfl ?_
  obtain ⟨w0, hw0⟩ : ∃ z : qW, z = (qup (qup (qup (qup (qup (qup w 79 4 0) 79 5 (-1)) 79 6 0) 79 7 0) 79 8 0) 79 9 0) := ⟨_, rfl⟩
  rw [← hw0]
  have hI0 : yInv zgf zga zra zSp w0 := by rw [hw0]; exact zup_f (zup_f (zup_f (zup_f (zup_f (zup_f hI (b := (-2147483648, 2147483647)) rfl rfl rfl ⟨by decide, by decide⟩) (b := (-2147483648, 2147483647)) rfl rfl rfl ⟨by decide, by decide⟩) (b := (0, 1)) rfl rfl rfl ⟨by decide, by decide⟩) (b := (0, 65535)) rfl rfl rfl ⟨by decide, by decide⟩) (b := (0, 63)) rfl rfl rfl ⟨by decide, by decide⟩) (b := (-2147483648, 2147483647)) rfl rfl rfl ⟨by decide, by decide⟩
  have hC0 : CHP 79 0 w (w 80) (w 81) 0 w0 := by rw [hw0]; exact ⟨(qup_j (by decide)).trans ((qup_j (by decide)).trans ((qup_j (by decide)).trans ((qup_j (by decide)).trans ((qup_j (by decide)).trans (qup_k))))), (qup_j (by decide)).trans ((qup_j (by decide)).trans ((qup_j (by decide)).trans ((qup_j (by decide)).trans (qup_k)))), (qup_j (by decide)).trans ((qup_j (by decide)).trans ((qup_j (by decide)).trans (qup_k))), (qup_j (by decide)).trans ((qup_j (by decide)).trans (qup_k)), (qup_j (by decide)).trans (qup_k), qup_k, fun t ht => absurd ht (Nat.not_lt_zero t), fun z j h1 h2 => (qup_f (by omega)).trans ((qup_f (by omega)).trans ((qup_f (by omega)).trans ((qup_f (by omega)).trans ((qup_f (by omega)).trans (qup_f (by omega))))))⟩
  have L32 : ∀ (m9 : Nat) (i : Nat) (wS : qW), 40 - i = m9 → (i ≤ L ∧ yInv zgf zga zra zSp wS ∧ CHP 79 0 w (w 80) (w 81) i wS) → qG none (d + 1) 111 32 [(2, 79), (2, 64), (0, ((i : Nat) : Int))] [] wS 142 Q9 := by
    intro m9
    induction m9 using Nat.strongRecOn with
    | ind m9 ih32 =>
    intro i wS hm32 hI32
    obtain ⟨hiL, hIS, hC⟩ := hI32
    obtain ⟨c4, c5, c6, c7, c8, c9, cv, hfr⟩ := hC
    refine qG.blk 3 (pc' := 37) (ls' := [(2, 79), (2, 64), (0, ((i : Nat) : Int))]) (st' := [(0, wS 79 2), (0, ((i : Nat) : Int))]) (w' := wS) (n' := 142) rfl ?_
    rw [show wS 79 2 = ((L : Nat) : Int) from (hfr 79 2 (by decide) (by omega)).trans hs]
    refine qG.br (P := ((i : Nat) : Int) < ((L : Nat) : Int)) (pc1 := 40) (pc2 := 112) (st1 := []) rfl (fun hiL2 => ?_) (fun hiL2 => ?_)
    · skip
      refine qG.blk 2 (pc' := 43) (ls' := [(2, 79), (2, 64), (0, ((i : Nat) : Int))]) (st' := [(0, 40), (0, ((i : Nat) : Int))]) (w' := wS) (n' := 142) rfl ?_
      refine qG.br (P := ((i : Nat) : Int) < 40) (pc1 := 46) (pc2 := 112) (st1 := []) rfl (fun hi40 => ?_) (fun hi40 => ?_)
      · skip
        refine qG.blk 3 (pc' := 51) (ls' := [(2, 79), (2, 64), (0, ((i : Nat) : Int))]) (st' := [(2, wS 79 0), (2, 79)]) (w' := wS) (n' := 142) rfl ?_
        rw [show wS 79 0 = 80 from zref hIS rfl rfl]
        refine qG.blk 1 (pc' := 52) (ls' := [(2, 79), (2, 64), (0, ((i : Nat) : Int))]) (st' := [(0, ((i : Nat) : Int)), (2, 80), (2, 79)]) (w' := wS) (n' := 142) rfl ?_
        refine qG.ar (P := 0 ≤ ((i : Nat) : Int) ∧ ((i : Nat) : Int) < ((40 : Nat) : Int)) (P2 := 0 < (80 : Int) ∧ (80 : Int) ≤ ((142 : Nat) : Int)) (pc' := 53) (ls' := [(2, 79), (2, 64), (0, ((i : Nat) : Int))]) (st' := [(0, wS 80 i), (2, 79)]) (w' := wS) (n' := 142) rfl (by omega) (by decide) ?_
        rw [show wS 80 i = w 80 i from hfr 80 i (by decide) (by omega)]
        refine qG.blk 2 (pc' := 57) (ls' := [(2, 79), (2, 64), (0, ((i : Nat) : Int))]) (st' := [(2, wS 79 1), (0, w 80 i), (2, 79)]) (w' := wS) (n' := 142) rfl ?_
        rw [show wS 79 1 = 81 from zref hIS rfl rfl]
        refine qG.blk 1 (pc' := 58) (ls' := [(2, 79), (2, 64), (0, ((i : Nat) : Int))]) (st' := [(0, ((i : Nat) : Int)), (2, 81), (0, w 80 i), (2, 79)]) (w' := wS) (n' := 142) rfl ?_
        refine qG.ar (P := 0 ≤ ((i : Nat) : Int) ∧ ((i : Nat) : Int) < ((40 : Nat) : Int)) (P2 := 0 < (81 : Int) ∧ (81 : Int) ≤ ((142 : Nat) : Int)) (pc' := 59) (ls' := [(2, 79), (2, 64), (0, ((i : Nat) : Int))]) (st' := [(0, wS 81 i), (0, w 80 i), (2, 79)]) (w' := wS) (n' := 142) rfl (by omega) (by decide) ?_
        rw [show wS 81 i = w 81 i from hfr 81 i (by decide) (by omega)]
        refine qG.call (t := 112) (na := 3) (sk := 1) (md := 1) (ls1 := [(2, 79), (0, w 80 i), (0, w 81 i)]) (r1 := []) rfl rfl rfl rfl rfl (K_take79 (Nat.zero_le _) (w 80 i) (w 81 i) (hKN i (by omega)).1 (hI.2.1 81 i (-2147483648, 2147483647) rfl rfl) wS hIS) ?_
        rintro _ wA _ ⟨rfl, rfl, hIA, t4, t5, t6, t9, tfr⟩
        have hA4 : wA 79 4 = oF (w 80) (w 81) (i + 1) := by rw [t4, c4]; rfl
        have hA5 : wA 79 5 = caF (w 80) (w 81) (i + 1) := by rw [t5, c5]; rfl
        have hA6 : wA 79 6 = sdF (w 80) (i + 1) := by rw [t6, c6]; rfl
        have hA9 : wA 79 9 = tuF (w 80) (i + 1) := by rw [t9, c9]; rfl
        have hA8 : wA 79 8 = moF (w 80) (w 81) i := (tfr 79 8 (by omega)).trans c8
        have hA7 : wA 79 7 = asF w 0 (w 80) (w 81) i := (tfr 79 7 (by omega)).trans c7
        obtain ⟨m9, hm9, hm10⟩ := oF_n hKN (i + 1) (by omega)
        show qG none (d + 1) 111 62 [(2, 79), (2, 64), (0, ((i : Nat) : Int))] [] wA 142 Q9
        refine qG.blk 3 (pc' := 67) (ls' := [(2, 79), (2, 64), (0, ((i : Nat) : Int))]) (st' := [(0, wA 79 8), (2, 79)]) (w' := wA) (n' := 142) rfl ?_
        rw [show wA 79 8 = moF (w 80) (w 81) i from hA8]
        refine qG.blk 2 (pc' := 71) (ls' := [(2, 79), (2, 64), (0, ((i : Nat) : Int))]) (st' := [(0, wA 79 4), (0, moF (w 80) (w 81) i), (2, 79)]) (w' := wA) (n' := 142) rfl ?_
        rw [show wA 79 4 = oF (w 80) (w 81) (i + 1) from hA4]
        refine qG.call (t := 302) (na := 1) (sk := 0) (md := 0) (ls1 := [(0, oF (w 80) (w 81) (i + 1))]) (r1 := [(0, moF (w 80) (w 81) i), (2, 79)]) rfl rfl rfl rfl rfl (K_bcJ (Nat.zero_le _) (oF (w 80) (w 81) (i + 1)) (by rw [hm9]; omega) (by rw [hm9]; omega) _) ?_
        rintro _ w7 _ ⟨rfl, hw7, rfl⟩
        rw [hw7, show bitsF (oF (w 80) (w 81) (i + 1)) 30 = bitsF (oF (w 80) (w 81) (i + 1)) 16 from by rw [hm9, bitsF_n (by omega) 30 (by decide), bitsF_n (by omega) 16 (by decide), pcn_h (by omega)]]
        show qG none (d + 1) 111 74 [(2, 79), (2, 64), (0, ((i : Nat) : Int))] [(0, bitsF (oF (w 80) (w 81) (i + 1)) 16), (0, moF (w 80) (w 81) i), (2, 79)] wA 142 Q9
        refine qG.mth rfl rfl rfl rfl (pc' := 77) (ls' := [(2, 79), (2, 64), (0, ((i : Nat) : Int))]) (st' := [(0, (if moF (w 80) (w 81) i < bitsF (oF (w 80) (w 81) (i + 1)) 16 then bitsF (oF (w 80) (w 81) (i + 1)) 16 else moF (w 80) (w 81) i)), (2, 79)]) (w' := wA) (n' := 142) rfl ?_
        refine qG.blk 3 (pc' := 84) (ls' := [(2, 79), (2, 64), (0, ((i : Nat) : Int))]) (st' := [(2, wA 79 3)]) (w' := (qup wA 79 8 (if moF (w 80) (w 81) i < bitsF (oF (w 80) (w 81) (i + 1)) 16 then bitsF (oF (w 80) (w 81) (i + 1)) 16 else moF (w 80) (w 81) i))) (n' := 142) rfl ?_
        rw [show wA 79 3 = 82 from zref hIA rfl rfl]
        refine qG.blk 3 (pc' := 87) (ls' := [(2, 79), (2, 64), (0, ((i : Nat) : Int))]) (st' := [(2, 64), (2, 79), (0, ((i : Nat) : Int)), (2, 82)]) (w' := (qup wA 79 8 (if moF (w 80) (w 81) i < bitsF (oF (w 80) (w 81) (i + 1)) 16 then bitsF (oF (w 80) (w 81) (i + 1)) 16 else moF (w 80) (w 81) i))) (n' := 142) rfl ?_
        obtain ⟨wB, hwB⟩ : ∃ z : qW, z = (qup wA 79 8 (if moF (w 80) (w 81) i < bitsF (oF (w 80) (w 81) (i + 1)) 16 then bitsF (oF (w 80) (w 81) (i + 1)) 16 else moF (w 80) (w 81) i)) := ⟨_, rfl⟩
        rw [← hwB]
        have hIB : yInv zgf zga zra zSp wB := by rw [hwB]; exact zup_f hIA (b := (0, 63)) rfl rfl rfl (by have z := bitsF_in (oF (w 80) (w 81) (i + 1)) 16; have z2 := hIA.1 79 8 (0, 63) rfl rfl; rw [hA8] at z2; have z3 : (0 : Int) ≤ moF (w 80) (w 81) i := z2.1; have z4 : moF (w 80) (w 81) i ≤ (63 : Int) := z2.2; split <;> exact ⟨by show (0 : Int) ≤ _; omega, by show _ ≤ (63 : Int); omega⟩)
        have hB8 : wB 79 8 = moF (w 80) (w 81) (i + 1) := by rw [hwB, qup_k]; rfl
        have hBo : ∀ z j, ¬ (z = 79 ∧ j = 8) → wB z j = wA z j := fun z j h => by rw [hwB]; exact qup_f h
        have hB7 : wB 79 7 = asF w 0 (w 80) (w 81) i := (hBo 79 7 (by omega)).trans hA7
        have hBw : ∀ z j, z ≠ 82 → ¬ (z = 79 ∧ 4 ≤ j ∧ j ≤ 9) → wB z j = w z j := fun z j h1 h2 => (hBo z j (by omega)).trans ((tfr z j (by omega)).trans (hfr z j h1 h2))
        have hEB : JE wB := fun c2 d2 a b => by rw [hBw (66 + 5 * c2) d2 (by omega) (by omega), hBw (67 + 5 * c2) d2 (by omega) (by omega), hBw (68 + 5 * c2) d2 (by omega) (by omega), hBw 97 _ (by decide) (by omega), hBw 98 _ (by decide) (by omega), hBw 100 _ (by decide) (by omega)]; exact hE c2 d2 a b
        have hKB : wB 64 0 = wB 96 0 := by rw [hBw 64 0 (by decide) (by omega), hBw 96 0 (by decide) (by omega)]; exact hK
        have hvB : seG wB 0 (wB 79 4) (wB 79 5) (wB 79 6) 10 = vwF w 0 (w 80) (w 81) i := by rw [hBo 79 4 (by omega), hBo 79 5 (by omega), hBo 79 6 (by omega), hA4, hA5, hA6]; exact seG_cg (fun j => hBw 96 j (by decide) (by omega)) (fun j => hBw 97 j (by decide) (by omega)) (fun j => hBw 98 j (by decide) (by omega)) (fun j => hBw 100 j (by decide) (by omega)) 0 _ _ _ 10
        refine qG.call (t := 113) (na := 2) (sk := 1) (md := 1) (ls1 := [(2, 79), (2, 64), (9, 0), (9, 0)]) (r1 := [(0, ((i : Nat) : Int)), (2, 82)]) rfl rfl rfl rfl rfl (K_view79_64 (by omega) m9 hm10 wB hIB ((hBo 79 4 (by omega)).trans (hA4.trans hm9)) hKB hEB) ?_
        rintro _ w7 _ ⟨rfl, hw7, rfl⟩
        rw [hw7, hvB]
        show qG none (d + 1) 111 90 [(2, 79), (2, 64), (0, ((i : Nat) : Int))] [(0, vwF w 0 (w 80) (w 81) i), (0, ((i : Nat) : Int)), (2, 82)] wB 142 Q9
        refine qG.ar (P := 0 ≤ ((i : Nat) : Int) ∧ ((i : Nat) : Int) < ((40 : Nat) : Int)) (P2 := 0 < (82 : Int) ∧ (82 : Int) ≤ ((142 : Nat) : Int)) (pc' := 91) (ls' := [(2, 79), (2, 64), (0, ((i : Nat) : Int))]) (st' := []) (w' := (qup wB 82 i (vwF w 0 (w 80) (w 81) i))) (n' := 142) rfl (by omega) (by decide) ?_
        refine qG.blk 3 (pc' := 96) (ls' := [(2, 79), (2, 64), (0, ((i : Nat) : Int))]) (st' := [(0, wB 79 7), (2, 79)]) (w' := (qup wB 82 i (vwF w 0 (w 80) (w 81) i))) (n' := 142) rfl ?_
        rw [show wB 79 7 = asF w 0 (w 80) (w 81) i from hB7]
        refine qG.blk 2 (pc' := 100) (ls' := [(2, 79), (2, 64), (0, ((i : Nat) : Int))]) (st' := [(2, wB 79 3), (0, asF w 0 (w 80) (w 81) i), (2, 79)]) (w' := (qup wB 82 i (vwF w 0 (w 80) (w 81) i))) (n' := 142) rfl ?_
        rw [show wB 79 3 = 82 from zref hIB rfl rfl]
        refine qG.blk 1 (pc' := 101) (ls' := [(2, 79), (2, 64), (0, ((i : Nat) : Int))]) (st' := [(0, ((i : Nat) : Int)), (2, 82), (0, asF w 0 (w 80) (w 81) i), (2, 79)]) (w' := (qup wB 82 i (vwF w 0 (w 80) (w 81) i))) (n' := 142) rfl ?_
        refine qG.ar (P := 0 ≤ ((i : Nat) : Int) ∧ ((i : Nat) : Int) < ((40 : Nat) : Int)) (P2 := 0 < (82 : Int) ∧ (82 : Int) ≤ ((142 : Nat) : Int)) (pc' := 102) (ls' := [(2, 79), (2, 64), (0, ((i : Nat) : Int))]) (st' := [(0, (qup wB 82 i (vwF w 0 (w 80) (w 81) i)) 82 i), (0, asF w 0 (w 80) (w 81) i), (2, 79)]) (w' := (qup wB 82 i (vwF w 0 (w 80) (w 81) i))) (n' := 142) rfl (by omega) (by decide) ?_
        rw [show (qup wB 82 i (vwF w 0 (w 80) (w 81) i)) 82 i = vwF w 0 (w 80) (w 81) i from by simp (disch := decide) only [qup_ne, qup_k]]
        refine qG.blk 3 (pc' := 109) (ls' := [(2, 79), (2, 64), (0, wrp (((i : Nat) : Int) + 1))]) (st' := []) (w' := (qup (qup wB 82 i (vwF w 0 (w 80) (w 81) i)) 79 7 (qor (asF w 0 (w 80) (w 81) i) (vwF w 0 (w 80) (w 81) i)))) (n' := 142) rfl ?_
        rw [show wrp (((i : Nat) : Int) + 1) = ((i + 1 : Nat) : Int) from wrp_id (by omega) (by omega)]
        refine qG.blk 1 (pc' := 32) (ls' := [(2, 79), (2, 64), (0, ((i + 1 : Nat) : Int))]) (st' := []) (w' := (qup (qup wB 82 i (vwF w 0 (w 80) (w 81) i)) 79 7 (qor (asF w 0 (w 80) (w 81) i) (vwF w 0 (w 80) (w 81) i)))) (n' := 142) rfl ?_
        obtain ⟨wN, hwN⟩ : ∃ z : qW, z = (qup (qup wB 82 i (vwF w 0 (w 80) (w 81) i)) 79 7 (qor (asF w 0 (w 80) (w 81) i) (vwF w 0 (w 80) (w 81) i))) := ⟨_, rfl⟩
        rw [← hwN]
        have hIN : yInv zgf zga zra zSp wN := by rw [hwN]; exact zup_f (zup_a hIB (b := (0, 65535)) rfl rfl (vw_in hI hE (by decide))) (b := (0, 65535)) rfl rfl rfl (as_in hI hE (by decide) (i + 1))
        have hCN : CHP 79 0 w (w 80) (w 81) (i + 1) wN := by rw [hwN]; exact ⟨(by rw [qup_f (by omega), qup_f (by omega), hBo 79 4 (by omega)]; exact hA4), (by rw [qup_f (by omega), qup_f (by omega), hBo 79 5 (by omega)]; exact hA5), (by rw [qup_f (by omega), qup_f (by omega), hBo 79 6 (by omega)]; exact hA6), qup_k, (by rw [qup_f (by omega), qup_f (by omega)]; exact hB8), (by rw [qup_f (by omega), qup_f (by omega), hBo 79 9 (by omega)]; exact hA9), (fun t ht => (qup_f (by omega)).trans (if e : t = i then (by rw [e]; exact qup_k) else ((qup_j e).trans ((hBo 82 t (by omega)).trans ((tfr 82 t (by omega)).trans (cv t (by omega))))))), fun z j h1 h2 => (qup_f (by omega)).trans ((qup_f (by omega)).trans (hBw z j h1 h2))⟩
        exact ih32 _ (by omega) (i + 1) (wN) rfl (⟨by omega, hIN, hCN⟩)
      · exfalso; omega
    · skip
      refine qG.retv rfl rfl ?_
      subst hQ9
      exact ⟨rfl, rfl, hIS, by rw [show L = i by omega]; exact ⟨c4, c5, c6, c7, c8, c9, cv, hfr⟩⟩
  exact L32 _ (0) (w0) rfl (⟨Nat.zero_le _, hI0, hC0⟩)
theorem K_perf79_69 {d : Nat} (hd : 2 ≤ d) (L : Nat) (hL : L ≤ 40) (w : qW) (hI : yInv zgf zga zra zSp w) (hs : w 79 2 = (L : Int)) (hKN : KNr (w 80) (w 81) L) (hK : w 69 0 = w 96 1) (hE : JE w) : qG none d 111 0 [(2, 79), (2, 69), (9, 0)] [] w 142 (fun (r : qV) (w1 : qW) (n1 : Nat) => r = (9, 0) ∧ n1 = 142 ∧ yInv zgf zga zra zSp w1 ∧ CHP 79 1 w (w 80) (w 81) L w1) := by
  generalize hQ9 : (fun (r : qV) (w1 : qW) (n1 : Nat) => r = (9, 0) ∧ n1 = 142 ∧ yInv zgf zga zra zSp w1 ∧ CHP 79 1 w (w 80) (w 81) L w1) = Q9
  obtain ⟨d, rfl⟩ : ∃ d9, d = d9 + 1 := ⟨d - 1, by omega⟩
  refine qG.blk 12 (pc' := 20) (ls' := [(2, 79), (2, 69), (9, 0)]) (st' := []) (w' := (qup (qup (qup (qup w 79 4 0) 79 5 (-1)) 79 6 0) 79 7 0)) (n' := 142) rfl ?_
  refine qG.blk 8 (pc' := 32) (ls' := [(2, 79), (2, 69), (0, 0)]) (st' := []) (w' := (qup (qup (qup (qup (qup (qup w 79 4 0) 79 5 (-1)) 79 6 0) 79 7 0) 79 8 0) 79 9 0)) (n' := 142) rfl ?_
  obtain ⟨w0, hw0⟩ : ∃ z : qW, z = (qup (qup (qup (qup (qup (qup w 79 4 0) 79 5 (-1)) 79 6 0) 79 7 0) 79 8 0) 79 9 0) := ⟨_, rfl⟩
  rw [← hw0]
  have hI0 : yInv zgf zga zra zSp w0 := by rw [hw0]; exact zup_f (zup_f (zup_f (zup_f (zup_f (zup_f hI (b := (-2147483648, 2147483647)) rfl rfl rfl ⟨by decide, by decide⟩) (b := (-2147483648, 2147483647)) rfl rfl rfl ⟨by decide, by decide⟩) (b := (0, 1)) rfl rfl rfl ⟨by decide, by decide⟩) (b := (0, 65535)) rfl rfl rfl ⟨by decide, by decide⟩) (b := (0, 63)) rfl rfl rfl ⟨by decide, by decide⟩) (b := (-2147483648, 2147483647)) rfl rfl rfl ⟨by decide, by decide⟩
  have hC0 : CHP 79 1 w (w 80) (w 81) 0 w0 := by rw [hw0]; exact ⟨(qup_j (by decide)).trans ((qup_j (by decide)).trans ((qup_j (by decide)).trans ((qup_j (by decide)).trans ((qup_j (by decide)).trans (qup_k))))), (qup_j (by decide)).trans ((qup_j (by decide)).trans ((qup_j (by decide)).trans ((qup_j (by decide)).trans (qup_k)))), (qup_j (by decide)).trans ((qup_j (by decide)).trans ((qup_j (by decide)).trans (qup_k))), (qup_j (by decide)).trans ((qup_j (by decide)).trans (qup_k)), (qup_j (by decide)).trans (qup_k), qup_k, fun t ht => absurd ht (Nat.not_lt_zero t), fun z j h1 h2 => (qup_f (by omega)).trans ((qup_f (by omega)).trans ((qup_f (by omega)).trans ((qup_f (by omega)).trans ((qup_f (by omega)).trans (qup_f (by omega))))))⟩
  have L32 : ∀ (m9 : Nat) (i : Nat) (wS : qW), 40 - i = m9 → (i ≤ L ∧ yInv zgf zga zra zSp wS ∧ CHP 79 1 w (w 80) (w 81) i wS) → qG none (d + 1) 111 32 [(2, 79), (2, 69), (0, ((i : Nat) : Int))] [] wS 142 Q9 := by
    intro m9
    induction m9 using Nat.strongRecOn with
    | ind m9 ih32 =>
    intro i wS hm32 hI32
    obtain ⟨hiL, hIS, hC⟩ := hI32
    obtain ⟨c4, c5, c6, c7, c8, c9, cv, hfr⟩ := hC
    refine qG.blk 3 (pc' := 37) (ls' := [(2, 79), (2, 69), (0, ((i : Nat) : Int))]) (st' := [(0, wS 79 2), (0, ((i : Nat) : Int))]) (w' := wS) (n' := 142) rfl ?_
    rw [show wS 79 2 = ((L : Nat) : Int) from (hfr 79 2 (by decide) (by omega)).trans hs]
    refine qG.br (P := ((i : Nat) : Int) < ((L : Nat) : Int)) (pc1 := 40) (pc2 := 112) (st1 := []) rfl (fun hiL2 => ?_) (fun hiL2 => ?_)
    · skip
      refine qG.blk 2 (pc' := 43) (ls' := [(2, 79), (2, 69), (0, ((i : Nat) : Int))]) (st' := [(0, 40), (0, ((i : Nat) : Int))]) (w' := wS) (n' := 142) rfl ?_
      refine qG.br (P := ((i : Nat) : Int) < 40) (pc1 := 46) (pc2 := 112) (st1 := []) rfl (fun hi40 => ?_) (fun hi40 => ?_)
      · skip
        refine qG.blk 3 (pc' := 51) (ls' := [(2, 79), (2, 69), (0, ((i : Nat) : Int))]) (st' := [(2, wS 79 0), (2, 79)]) (w' := wS) (n' := 142) rfl ?_
        rw [show wS 79 0 = 80 from zref hIS rfl rfl]
        refine qG.blk 1 (pc' := 52) (ls' := [(2, 79), (2, 69), (0, ((i : Nat) : Int))]) (st' := [(0, ((i : Nat) : Int)), (2, 80), (2, 79)]) (w' := wS) (n' := 142) rfl ?_
        refine qG.ar (P := 0 ≤ ((i : Nat) : Int) ∧ ((i : Nat) : Int) < ((40 : Nat) : Int)) (P2 := 0 < (80 : Int) ∧ (80 : Int) ≤ ((142 : Nat) : Int)) (pc' := 53) (ls' := [(2, 79), (2, 69), (0, ((i : Nat) : Int))]) (st' := [(0, wS 80 i), (2, 79)]) (w' := wS) (n' := 142) rfl (by omega) (by decide) ?_
        rw [show wS 80 i = w 80 i from hfr 80 i (by decide) (by omega)]
        refine qG.blk 2 (pc' := 57) (ls' := [(2, 79), (2, 69), (0, ((i : Nat) : Int))]) (st' := [(2, wS 79 1), (0, w 80 i), (2, 79)]) (w' := wS) (n' := 142) rfl ?_
        rw [show wS 79 1 = 81 from zref hIS rfl rfl]
        refine qG.blk 1 (pc' := 58) (ls' := [(2, 79), (2, 69), (0, ((i : Nat) : Int))]) (st' := [(0, ((i : Nat) : Int)), (2, 81), (0, w 80 i), (2, 79)]) (w' := wS) (n' := 142) rfl ?_
        refine qG.ar (P := 0 ≤ ((i : Nat) : Int) ∧ ((i : Nat) : Int) < ((40 : Nat) : Int)) (P2 := 0 < (81 : Int) ∧ (81 : Int) ≤ ((142 : Nat) : Int)) (pc' := 59) (ls' := [(2, 79), (2, 69), (0, ((i : Nat) : Int))]) (st' := [(0, wS 81 i), (0, w 80 i), (2, 79)]) (w' := wS) (n' := 142) rfl (by omega) (by decide) ?_
        rw [show wS 81 i = w 81 i from hfr 81 i (by decide) (by omega)]
        refine qG.call (t := 112) (na := 3) (sk := 1) (md := 1) (ls1 := [(2, 79), (0, w 80 i), (0, w 81 i)]) (r1 := []) rfl rfl rfl rfl rfl (K_take79 (Nat.zero_le _) (w 80 i) (w 81 i) (hKN i (by omega)).1 (hI.2.1 81 i (-2147483648, 2147483647) rfl rfl) wS hIS) ?_
        rintro _ wA _ ⟨rfl, rfl, hIA, t4, t5, t6, t9, tfr⟩
        have hA4 : wA 79 4 = oF (w 80) (w 81) (i + 1) := by rw [t4, c4]; rfl
        have hA5 : wA 79 5 = caF (w 80) (w 81) (i + 1) := by rw [t5, c5]; rfl
        have hA6 : wA 79 6 = sdF (w 80) (i + 1) := by rw [t6, c6]; rfl
        have hA9 : wA 79 9 = tuF (w 80) (i + 1) := by rw [t9, c9]; rfl
        have hA8 : wA 79 8 = moF (w 80) (w 81) i := (tfr 79 8 (by omega)).trans c8
        have hA7 : wA 79 7 = asF w 1 (w 80) (w 81) i := (tfr 79 7 (by omega)).trans c7
        obtain ⟨m9, hm9, hm10⟩ := oF_n hKN (i + 1) (by omega)
        show qG none (d + 1) 111 62 [(2, 79), (2, 69), (0, ((i : Nat) : Int))] [] wA 142 Q9
        refine qG.blk 3 (pc' := 67) (ls' := [(2, 79), (2, 69), (0, ((i : Nat) : Int))]) (st' := [(0, wA 79 8), (2, 79)]) (w' := wA) (n' := 142) rfl ?_
        rw [show wA 79 8 = moF (w 80) (w 81) i from hA8]
        refine qG.blk 2 (pc' := 71) (ls' := [(2, 79), (2, 69), (0, ((i : Nat) : Int))]) (st' := [(0, wA 79 4), (0, moF (w 80) (w 81) i), (2, 79)]) (w' := wA) (n' := 142) rfl ?_
        rw [show wA 79 4 = oF (w 80) (w 81) (i + 1) from hA4]
        refine qG.call (t := 302) (na := 1) (sk := 0) (md := 0) (ls1 := [(0, oF (w 80) (w 81) (i + 1))]) (r1 := [(0, moF (w 80) (w 81) i), (2, 79)]) rfl rfl rfl rfl rfl (K_bcJ (Nat.zero_le _) (oF (w 80) (w 81) (i + 1)) (by rw [hm9]; omega) (by rw [hm9]; omega) _) ?_
        rintro _ w7 _ ⟨rfl, hw7, rfl⟩
        rw [hw7, show bitsF (oF (w 80) (w 81) (i + 1)) 30 = bitsF (oF (w 80) (w 81) (i + 1)) 16 from by rw [hm9, bitsF_n (by omega) 30 (by decide), bitsF_n (by omega) 16 (by decide), pcn_h (by omega)]]
        show qG none (d + 1) 111 74 [(2, 79), (2, 69), (0, ((i : Nat) : Int))] [(0, bitsF (oF (w 80) (w 81) (i + 1)) 16), (0, moF (w 80) (w 81) i), (2, 79)] wA 142 Q9
        refine qG.mth rfl rfl rfl rfl (pc' := 77) (ls' := [(2, 79), (2, 69), (0, ((i : Nat) : Int))]) (st' := [(0, (if moF (w 80) (w 81) i < bitsF (oF (w 80) (w 81) (i + 1)) 16 then bitsF (oF (w 80) (w 81) (i + 1)) 16 else moF (w 80) (w 81) i)), (2, 79)]) (w' := wA) (n' := 142) rfl ?_
        refine qG.blk 3 (pc' := 84) (ls' := [(2, 79), (2, 69), (0, ((i : Nat) : Int))]) (st' := [(2, wA 79 3)]) (w' := (qup wA 79 8 (if moF (w 80) (w 81) i < bitsF (oF (w 80) (w 81) (i + 1)) 16 then bitsF (oF (w 80) (w 81) (i + 1)) 16 else moF (w 80) (w 81) i))) (n' := 142) rfl ?_
        rw [show wA 79 3 = 82 from zref hIA rfl rfl]
        refine qG.blk 3 (pc' := 87) (ls' := [(2, 79), (2, 69), (0, ((i : Nat) : Int))]) (st' := [(2, 69), (2, 79), (0, ((i : Nat) : Int)), (2, 82)]) (w' := (qup wA 79 8 (if moF (w 80) (w 81) i < bitsF (oF (w 80) (w 81) (i + 1)) 16 then bitsF (oF (w 80) (w 81) (i + 1)) 16 else moF (w 80) (w 81) i))) (n' := 142) rfl ?_
        obtain ⟨wB, hwB⟩ : ∃ z : qW, z = (qup wA 79 8 (if moF (w 80) (w 81) i < bitsF (oF (w 80) (w 81) (i + 1)) 16 then bitsF (oF (w 80) (w 81) (i + 1)) 16 else moF (w 80) (w 81) i)) := ⟨_, rfl⟩
        rw [← hwB]
        have hIB : yInv zgf zga zra zSp wB := by rw [hwB]; exact zup_f hIA (b := (0, 63)) rfl rfl rfl (by have z := bitsF_in (oF (w 80) (w 81) (i + 1)) 16; have z2 := hIA.1 79 8 (0, 63) rfl rfl; rw [hA8] at z2; have z3 : (0 : Int) ≤ moF (w 80) (w 81) i := z2.1; have z4 : moF (w 80) (w 81) i ≤ (63 : Int) := z2.2; split <;> exact ⟨by show (0 : Int) ≤ _; omega, by show _ ≤ (63 : Int); omega⟩)
        have hB8 : wB 79 8 = moF (w 80) (w 81) (i + 1) := by rw [hwB, qup_k]; rfl
        have hBo : ∀ z j, ¬ (z = 79 ∧ j = 8) → wB z j = wA z j := fun z j h => by rw [hwB]; exact qup_f h
        have hB7 : wB 79 7 = asF w 1 (w 80) (w 81) i := (hBo 79 7 (by omega)).trans hA7
        have hBw : ∀ z j, z ≠ 82 → ¬ (z = 79 ∧ 4 ≤ j ∧ j ≤ 9) → wB z j = w z j := fun z j h1 h2 => (hBo z j (by omega)).trans ((tfr z j (by omega)).trans (hfr z j h1 h2))
        have hEB : JE wB := fun c2 d2 a b => by rw [hBw (66 + 5 * c2) d2 (by omega) (by omega), hBw (67 + 5 * c2) d2 (by omega) (by omega), hBw (68 + 5 * c2) d2 (by omega) (by omega), hBw 97 _ (by decide) (by omega), hBw 98 _ (by decide) (by omega), hBw 100 _ (by decide) (by omega)]; exact hE c2 d2 a b
        have hKB : wB 69 0 = wB 96 1 := by rw [hBw 69 0 (by decide) (by omega), hBw 96 1 (by decide) (by omega)]; exact hK
        have hvB : seG wB 1 (wB 79 4) (wB 79 5) (wB 79 6) 10 = vwF w 1 (w 80) (w 81) i := by rw [hBo 79 4 (by omega), hBo 79 5 (by omega), hBo 79 6 (by omega), hA4, hA5, hA6]; exact seG_cg (fun j => hBw 96 j (by decide) (by omega)) (fun j => hBw 97 j (by decide) (by omega)) (fun j => hBw 98 j (by decide) (by omega)) (fun j => hBw 100 j (by decide) (by omega)) 1 _ _ _ 10
        refine qG.call (t := 113) (na := 2) (sk := 1) (md := 1) (ls1 := [(2, 79), (2, 69), (9, 0), (9, 0)]) (r1 := [(0, ((i : Nat) : Int)), (2, 82)]) rfl rfl rfl rfl rfl (K_view79_69 (by omega) m9 hm10 wB hIB ((hBo 79 4 (by omega)).trans (hA4.trans hm9)) hKB hEB) ?_
        rintro _ w7 _ ⟨rfl, hw7, rfl⟩
        rw [hw7, hvB]
        show qG none (d + 1) 111 90 [(2, 79), (2, 69), (0, ((i : Nat) : Int))] [(0, vwF w 1 (w 80) (w 81) i), (0, ((i : Nat) : Int)), (2, 82)] wB 142 Q9
        refine qG.ar (P := 0 ≤ ((i : Nat) : Int) ∧ ((i : Nat) : Int) < ((40 : Nat) : Int)) (P2 := 0 < (82 : Int) ∧ (82 : Int) ≤ ((142 : Nat) : Int)) (pc' := 91) (ls' := [(2, 79), (2, 69), (0, ((i : Nat) : Int))]) (st' := []) (w' := (qup wB 82 i (vwF w 1 (w 80) (w 81) i))) (n' := 142) rfl (by omega) (by decide) ?_
        refine qG.blk 3 (pc' := 96) (ls' := [(2, 79), (2, 69), (0, ((i : Nat) : Int))]) (st' := [(0, wB 79 7), (2, 79)]) (w' := (qup wB 82 i (vwF w 1 (w 80) (w 81) i))) (n' := 142) rfl ?_
        rw [show wB 79 7 = asF w 1 (w 80) (w 81) i from hB7]
        refine qG.blk 2 (pc' := 100) (ls' := [(2, 79), (2, 69), (0, ((i : Nat) : Int))]) (st' := [(2, wB 79 3), (0, asF w 1 (w 80) (w 81) i), (2, 79)]) (w' := (qup wB 82 i (vwF w 1 (w 80) (w 81) i))) (n' := 142) rfl ?_
        rw [show wB 79 3 = 82 from zref hIB rfl rfl]
        refine qG.blk 1 (pc' := 101) (ls' := [(2, 79), (2, 69), (0, ((i : Nat) : Int))]) (st' := [(0, ((i : Nat) : Int)), (2, 82), (0, asF w 1 (w 80) (w 81) i), (2, 79)]) (w' := (qup wB 82 i (vwF w 1 (w 80) (w 81) i))) (n' := 142) rfl ?_
        refine qG.ar (P := 0 ≤ ((i : Nat) : Int) ∧ ((i : Nat) : Int) < ((40 : Nat) : Int)) (P2 := 0 < (82 : Int) ∧ (82 : Int) ≤ ((142 : Nat) : Int)) (pc' := 102) (ls' := [(2, 79), (2, 69), (0, ((i : Nat) : Int))]) (st' := [(0, (qup wB 82 i (vwF w 1 (w 80) (w 81) i)) 82 i), (0, asF w 1 (w 80) (w 81) i), (2, 79)]) (w' := (qup wB 82 i (vwF w 1 (w 80) (w 81) i))) (n' := 142) rfl (by omega) (by decide) ?_
        rw [show (qup wB 82 i (vwF w 1 (w 80) (w 81) i)) 82 i = vwF w 1 (w 80) (w 81) i from by simp (disch := decide) only [qup_ne, qup_k]]
        refine qG.blk 3 (pc' := 109) (ls' := [(2, 79), (2, 69), (0, wrp (((i : Nat) : Int) + 1))]) (st' := []) (w' := (qup (qup wB 82 i (vwF w 1 (w 80) (w 81) i)) 79 7 (qor (asF w 1 (w 80) (w 81) i) (vwF w 1 (w 80) (w 81) i)))) (n' := 142) rfl ?_
        rw [show wrp (((i : Nat) : Int) + 1) = ((i + 1 : Nat) : Int) from wrp_id (by omega) (by omega)]
        refine qG.blk 1 (pc' := 32) (ls' := [(2, 79), (2, 69), (0, ((i + 1 : Nat) : Int))]) (st' := []) (w' := (qup (qup wB 82 i (vwF w 1 (w 80) (w 81) i)) 79 7 (qor (asF w 1 (w 80) (w 81) i) (vwF w 1 (w 80) (w 81) i)))) (n' := 142) rfl ?_
        obtain ⟨wN, hwN⟩ : ∃ z : qW, z = (qup (qup wB 82 i (vwF w 1 (w 80) (w 81) i)) 79 7 (qor (asF w 1 (w 80) (w 81) i) (vwF w 1 (w 80) (w 81) i))) := ⟨_, rfl⟩
        rw [← hwN]
        have hIN : yInv zgf zga zra zSp wN := by rw [hwN]; exact zup_f (zup_a hIB (b := (0, 65535)) rfl rfl (vw_in hI hE (by decide))) (b := (0, 65535)) rfl rfl rfl (as_in hI hE (by decide) (i + 1))
        have hCN : CHP 79 1 w (w 80) (w 81) (i + 1) wN := by rw [hwN]; exact ⟨(by rw [qup_f (by omega), qup_f (by omega), hBo 79 4 (by omega)]; exact hA4), (by rw [qup_f (by omega), qup_f (by omega), hBo 79 5 (by omega)]; exact hA5), (by rw [qup_f (by omega), qup_f (by omega), hBo 79 6 (by omega)]; exact hA6), qup_k, (by rw [qup_f (by omega), qup_f (by omega)]; exact hB8), (by rw [qup_f (by omega), qup_f (by omega), hBo 79 9 (by omega)]; exact hA9), (fun t ht => (qup_f (by omega)).trans (if e : t = i then (by rw [e]; exact qup_k) else ((qup_j e).trans ((hBo 82 t (by omega)).trans ((tfr 82 t (by omega)).trans (cv t (by omega))))))), fun z j h1 h2 => (qup_f (by omega)).trans ((qup_f (by omega)).trans (hBw z j h1 h2))⟩
        exact ih32 _ (by omega) (i + 1) (wN) rfl (⟨by omega, hIN, hCN⟩)
      · exfalso; omega
    · skip
      refine qG.retv rfl rfl ?_
      subst hQ9
      exact ⟨rfl, rfl, hIS, by rw [show L = i by omega]; exact ⟨c4, c5, c6, c7, c8, c9, cv, hfr⟩⟩
  exact L32 _ (0) (w0) rfl (⟨Nat.zero_le _, hI0, hC0⟩)
theorem K_perf79_74 {d : Nat} (hd : 2 ≤ d) (L : Nat) (hL : L ≤ 40) (w : qW) (hI : yInv zgf zga zra zSp w) (hs : w 79 2 = (L : Int)) (hKN : KNr (w 80) (w 81) L) (hK : w 74 0 = w 96 2) (hE : JE w) : qG none d 111 0 [(2, 79), (2, 74), (9, 0)] [] w 142 (fun (r : qV) (w1 : qW) (n1 : Nat) => r = (9, 0) ∧ n1 = 142 ∧ yInv zgf zga zra zSp w1 ∧ CHP 79 2 w (w 80) (w 81) L w1) := by
  generalize hQ9 : (fun (r : qV) (w1 : qW) (n1 : Nat) => r = (9, 0) ∧ n1 = 142 ∧ yInv zgf zga zra zSp w1 ∧ CHP 79 2 w (w 80) (w 81) L w1) = Q9
  obtain ⟨d, rfl⟩ : ∃ d9, d = d9 + 1 := ⟨d - 1, by omega⟩
  refine qG.blk 12 (pc' := 20) (ls' := [(2, 79), (2, 74), (9, 0)]) (st' := []) (w' := (qup (qup (qup (qup w 79 4 0) 79 5 (-1)) 79 6 0) 79 7 0)) (n' := 142) rfl ?_
  refine qG.blk 8 (pc' := 32) (ls' := [(2, 79), (2, 74), (0, 0)]) (st' := []) (w' := (qup (qup (qup (qup (qup (qup w 79 4 0) 79 5 (-1)) 79 6 0) 79 7 0) 79 8 0) 79 9 0)) (n' := 142) rfl ?_
  obtain ⟨w0, hw0⟩ : ∃ z : qW, z = (qup (qup (qup (qup (qup (qup w 79 4 0) 79 5 (-1)) 79 6 0) 79 7 0) 79 8 0) 79 9 0) := ⟨_, rfl⟩
  rw [← hw0]
  have hI0 : yInv zgf zga zra zSp w0 := by rw [hw0]; exact zup_f (zup_f (zup_f (zup_f (zup_f (zup_f hI (b := (-2147483648, 2147483647)) rfl rfl rfl ⟨by decide, by decide⟩) (b := (-2147483648, 2147483647)) rfl rfl rfl ⟨by decide, by decide⟩) (b := (0, 1)) rfl rfl rfl ⟨by decide, by decide⟩) (b := (0, 65535)) rfl rfl rfl ⟨by decide, by decide⟩) (b := (0, 63)) rfl rfl rfl ⟨by decide, by decide⟩) (b := (-2147483648, 2147483647)) rfl rfl rfl ⟨by decide, by decide⟩
  have hC0 : CHP 79 2 w (w 80) (w 81) 0 w0 := by rw [hw0]; exact ⟨(qup_j (by decide)).trans ((qup_j (by decide)).trans ((qup_j (by decide)).trans ((qup_j (by decide)).trans ((qup_j (by decide)).trans (qup_k))))), (qup_j (by decide)).trans ((qup_j (by decide)).trans ((qup_j (by decide)).trans ((qup_j (by decide)).trans (qup_k)))), (qup_j (by decide)).trans ((qup_j (by decide)).trans ((qup_j (by decide)).trans (qup_k))), (qup_j (by decide)).trans ((qup_j (by decide)).trans (qup_k)), (qup_j (by decide)).trans (qup_k), qup_k, fun t ht => absurd ht (Nat.not_lt_zero t), fun z j h1 h2 => (qup_f (by omega)).trans ((qup_f (by omega)).trans ((qup_f (by omega)).trans ((qup_f (by omega)).trans ((qup_f (by omega)).trans (qup_f (by omega))))))⟩
  have L32 : ∀ (m9 : Nat) (i : Nat) (wS : qW), 40 - i = m9 → (i ≤ L ∧ yInv zgf zga zra zSp wS ∧ CHP 79 2 w (w 80) (w 81) i wS) → qG none (d + 1) 111 32 [(2, 79), (2, 74), (0, ((i : Nat) : Int))] [] wS 142 Q9 := by
    intro m9
    induction m9 using Nat.strongRecOn with
    | ind m9 ih32 =>
    intro i wS hm32 hI32
    obtain ⟨hiL, hIS, hC⟩ := hI32
    obtain ⟨c4, c5, c6, c7, c8, c9, cv, hfr⟩ := hC
    refine qG.blk 3 (pc' := 37) (ls' := [(2, 79), (2, 74), (0, ((i : Nat) : Int))]) (st' := [(0, wS 79 2), (0, ((i : Nat) : Int))]) (w' := wS) (n' := 142) rfl ?_
    rw [show wS 79 2 = ((L : Nat) : Int) from (hfr 79 2 (by decide) (by omega)).trans hs]
    refine qG.br (P := ((i : Nat) : Int) < ((L : Nat) : Int)) (pc1 := 40) (pc2 := 112) (st1 := []) rfl (fun hiL2 => ?_) (fun hiL2 => ?_)
    · skip
      refine qG.blk 2 (pc' := 43) (ls' := [(2, 79), (2, 74), (0, ((i : Nat) : Int))]) (st' := [(0, 40), (0, ((i : Nat) : Int))]) (w' := wS) (n' := 142) rfl ?_
      refine qG.br (P := ((i : Nat) : Int) < 40) (pc1 := 46) (pc2 := 112) (st1 := []) rfl (fun hi40 => ?_) (fun hi40 => ?_)
      · skip
        refine qG.blk 3 (pc' := 51) (ls' := [(2, 79), (2, 74), (0, ((i : Nat) : Int))]) (st' := [(2, wS 79 0), (2, 79)]) (w' := wS) (n' := 142) rfl ?_
        rw [show wS 79 0 = 80 from zref hIS rfl rfl]
        refine qG.blk 1 (pc' := 52) (ls' := [(2, 79), (2, 74), (0, ((i : Nat) : Int))]) (st' := [(0, ((i : Nat) : Int)), (2, 80), (2, 79)]) (w' := wS) (n' := 142) rfl ?_
        refine qG.ar (P := 0 ≤ ((i : Nat) : Int) ∧ ((i : Nat) : Int) < ((40 : Nat) : Int)) (P2 := 0 < (80 : Int) ∧ (80 : Int) ≤ ((142 : Nat) : Int)) (pc' := 53) (ls' := [(2, 79), (2, 74), (0, ((i : Nat) : Int))]) (st' := [(0, wS 80 i), (2, 79)]) (w' := wS) (n' := 142) rfl (by omega) (by decide) ?_
        rw [show wS 80 i = w 80 i from hfr 80 i (by decide) (by omega)]
        refine qG.blk 2 (pc' := 57) (ls' := [(2, 79), (2, 74), (0, ((i : Nat) : Int))]) (st' := [(2, wS 79 1), (0, w 80 i), (2, 79)]) (w' := wS) (n' := 142) rfl ?_
        rw [show wS 79 1 = 81 from zref hIS rfl rfl]
        refine qG.blk 1 (pc' := 58) (ls' := [(2, 79), (2, 74), (0, ((i : Nat) : Int))]) (st' := [(0, ((i : Nat) : Int)), (2, 81), (0, w 80 i), (2, 79)]) (w' := wS) (n' := 142) rfl ?_
        refine qG.ar (P := 0 ≤ ((i : Nat) : Int) ∧ ((i : Nat) : Int) < ((40 : Nat) : Int)) (P2 := 0 < (81 : Int) ∧ (81 : Int) ≤ ((142 : Nat) : Int)) (pc' := 59) (ls' := [(2, 79), (2, 74), (0, ((i : Nat) : Int))]) (st' := [(0, wS 81 i), (0, w 80 i), (2, 79)]) (w' := wS) (n' := 142) rfl (by omega) (by decide) ?_
        rw [show wS 81 i = w 81 i from hfr 81 i (by decide) (by omega)]
        refine qG.call (t := 112) (na := 3) (sk := 1) (md := 1) (ls1 := [(2, 79), (0, w 80 i), (0, w 81 i)]) (r1 := []) rfl rfl rfl rfl rfl (K_take79 (Nat.zero_le _) (w 80 i) (w 81 i) (hKN i (by omega)).1 (hI.2.1 81 i (-2147483648, 2147483647) rfl rfl) wS hIS) ?_
        rintro _ wA _ ⟨rfl, rfl, hIA, t4, t5, t6, t9, tfr⟩
        have hA4 : wA 79 4 = oF (w 80) (w 81) (i + 1) := by rw [t4, c4]; rfl
        have hA5 : wA 79 5 = caF (w 80) (w 81) (i + 1) := by rw [t5, c5]; rfl
        have hA6 : wA 79 6 = sdF (w 80) (i + 1) := by rw [t6, c6]; rfl
        have hA9 : wA 79 9 = tuF (w 80) (i + 1) := by rw [t9, c9]; rfl
        have hA8 : wA 79 8 = moF (w 80) (w 81) i := (tfr 79 8 (by omega)).trans c8
        have hA7 : wA 79 7 = asF w 2 (w 80) (w 81) i := (tfr 79 7 (by omega)).trans c7
        obtain ⟨m9, hm9, hm10⟩ := oF_n hKN (i + 1) (by omega)
        show qG none (d + 1) 111 62 [(2, 79), (2, 74), (0, ((i : Nat) : Int))] [] wA 142 Q9
        refine qG.blk 3 (pc' := 67) (ls' := [(2, 79), (2, 74), (0, ((i : Nat) : Int))]) (st' := [(0, wA 79 8), (2, 79)]) (w' := wA) (n' := 142) rfl ?_
        rw [show wA 79 8 = moF (w 80) (w 81) i from hA8]
        refine qG.blk 2 (pc' := 71) (ls' := [(2, 79), (2, 74), (0, ((i : Nat) : Int))]) (st' := [(0, wA 79 4), (0, moF (w 80) (w 81) i), (2, 79)]) (w' := wA) (n' := 142) rfl ?_
        rw [show wA 79 4 = oF (w 80) (w 81) (i + 1) from hA4]
        refine qG.call (t := 302) (na := 1) (sk := 0) (md := 0) (ls1 := [(0, oF (w 80) (w 81) (i + 1))]) (r1 := [(0, moF (w 80) (w 81) i), (2, 79)]) rfl rfl rfl rfl rfl (K_bcJ (Nat.zero_le _) (oF (w 80) (w 81) (i + 1)) (by rw [hm9]; omega) (by rw [hm9]; omega) _) ?_
        rintro _ w7 _ ⟨rfl, hw7, rfl⟩
        rw [hw7, show bitsF (oF (w 80) (w 81) (i + 1)) 30 = bitsF (oF (w 80) (w 81) (i + 1)) 16 from by rw [hm9, bitsF_n (by omega) 30 (by decide), bitsF_n (by omega) 16 (by decide), pcn_h (by omega)]]
        show qG none (d + 1) 111 74 [(2, 79), (2, 74), (0, ((i : Nat) : Int))] [(0, bitsF (oF (w 80) (w 81) (i + 1)) 16), (0, moF (w 80) (w 81) i), (2, 79)] wA 142 Q9
        refine qG.mth rfl rfl rfl rfl (pc' := 77) (ls' := [(2, 79), (2, 74), (0, ((i : Nat) : Int))]) (st' := [(0, (if moF (w 80) (w 81) i < bitsF (oF (w 80) (w 81) (i + 1)) 16 then bitsF (oF (w 80) (w 81) (i + 1)) 16 else moF (w 80) (w 81) i)), (2, 79)]) (w' := wA) (n' := 142) rfl ?_
        refine qG.blk 3 (pc' := 84) (ls' := [(2, 79), (2, 74), (0, ((i : Nat) : Int))]) (st' := [(2, wA 79 3)]) (w' := (qup wA 79 8 (if moF (w 80) (w 81) i < bitsF (oF (w 80) (w 81) (i + 1)) 16 then bitsF (oF (w 80) (w 81) (i + 1)) 16 else moF (w 80) (w 81) i))) (n' := 142) rfl ?_
        rw [show wA 79 3 = 82 from zref hIA rfl rfl]
        refine qG.blk 3 (pc' := 87) (ls' := [(2, 79), (2, 74), (0, ((i : Nat) : Int))]) (st' := [(2, 74), (2, 79), (0, ((i : Nat) : Int)), (2, 82)]) (w' := (qup wA 79 8 (if moF (w 80) (w 81) i < bitsF (oF (w 80) (w 81) (i + 1)) 16 then bitsF (oF (w 80) (w 81) (i + 1)) 16 else moF (w 80) (w 81) i))) (n' := 142) rfl ?_
        obtain ⟨wB, hwB⟩ : ∃ z : qW, z = (qup wA 79 8 (if moF (w 80) (w 81) i < bitsF (oF (w 80) (w 81) (i + 1)) 16 then bitsF (oF (w 80) (w 81) (i + 1)) 16 else moF (w 80) (w 81) i)) := ⟨_, rfl⟩
        rw [← hwB]
        have hIB : yInv zgf zga zra zSp wB := by rw [hwB]; exact zup_f hIA (b := (0, 63)) rfl rfl rfl (by have z := bitsF_in (oF (w 80) (w 81) (i + 1)) 16; have z2 := hIA.1 79 8 (0, 63) rfl rfl; rw [hA8] at z2; have z3 : (0 : Int) ≤ moF (w 80) (w 81) i := z2.1; have z4 : moF (w 80) (w 81) i ≤ (63 : Int) := z2.2; split <;> exact ⟨by show (0 : Int) ≤ _; omega, by show _ ≤ (63 : Int); omega⟩)
        have hB8 : wB 79 8 = moF (w 80) (w 81) (i + 1) := by rw [hwB, qup_k]; rfl
        have hBo : ∀ z j, ¬ (z = 79 ∧ j = 8) → wB z j = wA z j := fun z j h => by rw [hwB]; exact qup_f h
        have hB7 : wB 79 7 = asF w 2 (w 80) (w 81) i := (hBo 79 7 (by omega)).trans hA7
        have hBw : ∀ z j, z ≠ 82 → ¬ (z = 79 ∧ 4 ≤ j ∧ j ≤ 9) → wB z j = w z j := fun z j h1 h2 => (hBo z j (by omega)).trans ((tfr z j (by omega)).trans (hfr z j h1 h2))
        have hEB : JE wB := fun c2 d2 a b => by rw [hBw (66 + 5 * c2) d2 (by omega) (by omega), hBw (67 + 5 * c2) d2 (by omega) (by omega), hBw (68 + 5 * c2) d2 (by omega) (by omega), hBw 97 _ (by decide) (by omega), hBw 98 _ (by decide) (by omega), hBw 100 _ (by decide) (by omega)]; exact hE c2 d2 a b
        have hKB : wB 74 0 = wB 96 2 := by rw [hBw 74 0 (by decide) (by omega), hBw 96 2 (by decide) (by omega)]; exact hK
        have hvB : seG wB 2 (wB 79 4) (wB 79 5) (wB 79 6) 10 = vwF w 2 (w 80) (w 81) i := by rw [hBo 79 4 (by omega), hBo 79 5 (by omega), hBo 79 6 (by omega), hA4, hA5, hA6]; exact seG_cg (fun j => hBw 96 j (by decide) (by omega)) (fun j => hBw 97 j (by decide) (by omega)) (fun j => hBw 98 j (by decide) (by omega)) (fun j => hBw 100 j (by decide) (by omega)) 2 _ _ _ 10
        refine qG.call (t := 113) (na := 2) (sk := 1) (md := 1) (ls1 := [(2, 79), (2, 74), (9, 0), (9, 0)]) (r1 := [(0, ((i : Nat) : Int)), (2, 82)]) rfl rfl rfl rfl rfl (K_view79_74 (by omega) m9 hm10 wB hIB ((hBo 79 4 (by omega)).trans (hA4.trans hm9)) hKB hEB) ?_
        rintro _ w7 _ ⟨rfl, hw7, rfl⟩
        rw [hw7, hvB]
        show qG none (d + 1) 111 90 [(2, 79), (2, 74), (0, ((i : Nat) : Int))] [(0, vwF w 2 (w 80) (w 81) i), (0, ((i : Nat) : Int)), (2, 82)] wB 142 Q9
        refine qG.ar (P := 0 ≤ ((i : Nat) : Int) ∧ ((i : Nat) : Int) < ((40 : Nat) : Int)) (P2 := 0 < (82 : Int) ∧ (82 : Int) ≤ ((142 : Nat) : Int)) (pc' := 91) (ls' := [(2, 79), (2, 74), (0, ((i : Nat) : Int))]) (st' := []) (w' := (qup wB 82 i (vwF w 2 (w 80) (w 81) i))) (n' := 142) rfl (by omega) (by decide) ?_
        refine qG.blk 3 (pc' := 96) (ls' := [(2, 79), (2, 74), (0, ((i : Nat) : Int))]) (st' := [(0, wB 79 7), (2, 79)]) (w' := (qup wB 82 i (vwF w 2 (w 80) (w 81) i))) (n' := 142) rfl ?_
        rw [show wB 79 7 = asF w 2 (w 80) (w 81) i from hB7]
        refine qG.blk 2 (pc' := 100) (ls' := [(2, 79), (2, 74), (0, ((i : Nat) : Int))]) (st' := [(2, wB 79 3), (0, asF w 2 (w 80) (w 81) i), (2, 79)]) (w' := (qup wB 82 i (vwF w 2 (w 80) (w 81) i))) (n' := 142) rfl ?_
        rw [show wB 79 3 = 82 from zref hIB rfl rfl]
        refine qG.blk 1 (pc' := 101) (ls' := [(2, 79), (2, 74), (0, ((i : Nat) : Int))]) (st' := [(0, ((i : Nat) : Int)), (2, 82), (0, asF w 2 (w 80) (w 81) i), (2, 79)]) (w' := (qup wB 82 i (vwF w 2 (w 80) (w 81) i))) (n' := 142) rfl ?_
        refine qG.ar (P := 0 ≤ ((i : Nat) : Int) ∧ ((i : Nat) : Int) < ((40 : Nat) : Int)) (P2 := 0 < (82 : Int) ∧ (82 : Int) ≤ ((142 : Nat) : Int)) (pc' := 102) (ls' := [(2, 79), (2, 74), (0, ((i : Nat) : Int))]) (st' := [(0, (qup wB 82 i (vwF w 2 (w 80) (w 81) i)) 82 i), (0, asF w 2 (w 80) (w 81) i), (2, 79)]) (w' := (qup wB 82 i (vwF w 2 (w 80) (w 81) i))) (n' := 142) rfl (by omega) (by decide) ?_
        rw [show (qup wB 82 i (vwF w 2 (w 80) (w 81) i)) 82 i = vwF w 2 (w 80) (w 81) i from by simp (disch := decide) only [qup_ne, qup_k]]
        refine qG.blk 3 (pc' := 109) (ls' := [(2, 79), (2, 74), (0, wrp (((i : Nat) : Int) + 1))]) (st' := []) (w' := (qup (qup wB 82 i (vwF w 2 (w 80) (w 81) i)) 79 7 (qor (asF w 2 (w 80) (w 81) i) (vwF w 2 (w 80) (w 81) i)))) (n' := 142) rfl ?_
        rw [show wrp (((i : Nat) : Int) + 1) = ((i + 1 : Nat) : Int) from wrp_id (by omega) (by omega)]
        refine qG.blk 1 (pc' := 32) (ls' := [(2, 79), (2, 74), (0, ((i + 1 : Nat) : Int))]) (st' := []) (w' := (qup (qup wB 82 i (vwF w 2 (w 80) (w 81) i)) 79 7 (qor (asF w 2 (w 80) (w 81) i) (vwF w 2 (w 80) (w 81) i)))) (n' := 142) rfl ?_
        obtain ⟨wN, hwN⟩ : ∃ z : qW, z = (qup (qup wB 82 i (vwF w 2 (w 80) (w 81) i)) 79 7 (qor (asF w 2 (w 80) (w 81) i) (vwF w 2 (w 80) (w 81) i))) := ⟨_, rfl⟩
        rw [← hwN]
        have hIN : yInv zgf zga zra zSp wN := by rw [hwN]; exact zup_f (zup_a hIB (b := (0, 65535)) rfl rfl (vw_in hI hE (by decide))) (b := (0, 65535)) rfl rfl rfl (as_in hI hE (by decide) (i + 1))
        have hCN : CHP 79 2 w (w 80) (w 81) (i + 1) wN := by rw [hwN]; exact ⟨(by rw [qup_f (by omega), qup_f (by omega), hBo 79 4 (by omega)]; exact hA4), (by rw [qup_f (by omega), qup_f (by omega), hBo 79 5 (by omega)]; exact hA5), (by rw [qup_f (by omega), qup_f (by omega), hBo 79 6 (by omega)]; exact hA6), qup_k, (by rw [qup_f (by omega), qup_f (by omega)]; exact hB8), (by rw [qup_f (by omega), qup_f (by omega), hBo 79 9 (by omega)]; exact hA9), (fun t ht => (qup_f (by omega)).trans (if e : t = i then (by rw [e]; exact qup_k) else ((qup_j e).trans ((hBo 82 t (by omega)).trans ((tfr 82 t (by omega)).trans (cv t (by omega))))))), fun z j h1 h2 => (qup_f (by omega)).trans ((qup_f (by omega)).trans (hBw z j h1 h2))⟩
        exact ih32 _ (by omega) (i + 1) (wN) rfl (⟨by omega, hIN, hCN⟩)
      · exfalso; omega
    · skip
      refine qG.retv rfl rfl ?_
      subst hQ9
      exact ⟨rfl, rfl, hIS, by rw [show L = i by omega]; exact ⟨c4, c5, c6, c7, c8, c9, cv, hfr⟩⟩
  exact L32 _ (0) (w0) rfl (⟨Nat.zero_le _, hI0, hC0⟩)
theorem K_perf83_64 {d : Nat} (hd : 2 ≤ d) (L : Nat) (hL : L ≤ 40) (w : qW) (hI : yInv zgf zga zra zSp w) (hs : w 83 2 = (L : Int)) (hKN : KNr (w 84) (w 85) L) (hK : w 64 0 = w 96 0) (hE : JE w) : qG none d 111 0 [(2, 83), (2, 64), (9, 0)] [] w 142 (fun (r : qV) (w1 : qW) (n1 : Nat) => r = (9, 0) ∧ n1 = 142 ∧ yInv zgf zga zra zSp w1 ∧ CHP 83 0 w (w 84) (w 85) L w1) := by
  generalize hQ9 : (fun (r : qV) (w1 : qW) (n1 : Nat) => r = (9, 0) ∧ n1 = 142 ∧ yInv zgf zga zra zSp w1 ∧ CHP 83 0 w (w 84) (w 85) L w1) = Q9
  obtain ⟨d, rfl⟩ : ∃ d9, d = d9 + 1 := ⟨d - 1, by omega⟩
  refine qG.blk 12 (pc' := 20) (ls' := [(2, 83), (2, 64), (9, 0)]) (st' := []) (w' := (qup (qup (qup (qup w 83 4 0) 83 5 (-1)) 83 6 0) 83 7 0)) (n' := 142) rfl ?_
  refine qG.blk 8 (pc' := 32) (ls' := [(2, 83), (2, 64), (0, 0)]) (st' := []) (w' := (qup (qup (qup (qup (qup (qup w 83 4 0) 83 5 (-1)) 83 6 0) 83 7 0) 83 8 0) 83 9 0)) (n' := 142) rfl ?_
  obtain ⟨w0, hw0⟩ : ∃ z : qW, z = (qup (qup (qup (qup (qup (qup w 83 4 0) 83 5 (-1)) 83 6 0) 83 7 0) 83 8 0) 83 9 0) := ⟨_, rfl⟩
  rw [← hw0]
  have hI0 : yInv zgf zga zra zSp w0 := by rw [hw0]; exact zup_f (zup_f (zup_f (zup_f (zup_f (zup_f hI (b := (-2147483648, 2147483647)) rfl rfl rfl ⟨by decide, by decide⟩) (b := (-2147483648, 2147483647)) rfl rfl rfl ⟨by decide, by decide⟩) (b := (0, 1)) rfl rfl rfl ⟨by decide, by decide⟩) (b := (0, 65535)) rfl rfl rfl ⟨by decide, by decide⟩) (b := (0, 63)) rfl rfl rfl ⟨by decide, by decide⟩) (b := (-2147483648, 2147483647)) rfl rfl rfl ⟨by decide, by decide⟩
  have hC0 : CHP 83 0 w (w 84) (w 85) 0 w0 := by rw [hw0]; exact ⟨(qup_j (by decide)).trans ((qup_j (by decide)).trans ((qup_j (by decide)).trans ((qup_j (by decide)).trans ((qup_j (by decide)).trans (qup_k))))), (qup_j (by decide)).trans ((qup_j (by decide)).trans ((qup_j (by decide)).trans ((qup_j (by decide)).trans (qup_k)))), (qup_j (by decide)).trans ((qup_j (by decide)).trans ((qup_j (by decide)).trans (qup_k))), (qup_j (by decide)).trans ((qup_j (by decide)).trans (qup_k)), (qup_j (by decide)).trans (qup_k), qup_k, fun t ht => absurd ht (Nat.not_lt_zero t), fun z j h1 h2 => (qup_f (by omega)).trans ((qup_f (by omega)).trans ((qup_f (by omega)).trans ((qup_f (by omega)).trans ((qup_f (by omega)).trans (qup_f (by omega))))))⟩
  have L32 : ∀ (m9 : Nat) (i : Nat) (wS : qW), 40 - i = m9 → (i ≤ L ∧ yInv zgf zga zra zSp wS ∧ CHP 83 0 w (w 84) (w 85) i wS) → qG none (d + 1) 111 32 [(2, 83), (2, 64), (0, ((i : Nat) : Int))] [] wS 142 Q9 := by
    intro m9
    induction m9 using Nat.strongRecOn with
    | ind m9 ih32 =>
    intro i wS hm32 hI32
    obtain ⟨hiL, hIS, hC⟩ := hI32
    obtain ⟨c4, c5, c6, c7, c8, c9, cv, hfr⟩ := hC
    refine qG.blk 3 (pc' := 37) (ls' := [(2, 83), (2, 64), (0, ((i : Nat) : Int))]) (st' := [(0, wS 83 2), (0, ((i : Nat) : Int))]) (w' := wS) (n' := 142) rfl ?_
    rw [show wS 83 2 = ((L : Nat) : Int) from (hfr 83 2 (by decide) (by omega)).trans hs]
    refine qG.br (P := ((i : Nat) : Int) < ((L : Nat) : Int)) (pc1 := 40) (pc2 := 112) (st1 := []) rfl (fun hiL2 => ?_) (fun hiL2 => ?_)
    · skip
      refine qG.blk 2 (pc' := 43) (ls' := [(2, 83), (2, 64), (0, ((i : Nat) : Int))]) (st' := [(0, 40), (0, ((i : Nat) : Int))]) (w' := wS) (n' := 142) rfl ?_
      refine qG.br (P := ((i : Nat) : Int) < 40) (pc1 := 46) (pc2 := 112) (st1 := []) rfl (fun hi40 => ?_) (fun hi40 => ?_)
      · skip
        refine qG.blk 3 (pc' := 51) (ls' := [(2, 83), (2, 64), (0, ((i : Nat) : Int))]) (st' := [(2, wS 83 0), (2, 83)]) (w' := wS) (n' := 142) rfl ?_
        rw [show wS 83 0 = 84 from zref hIS rfl rfl]
        refine qG.blk 1 (pc' := 52) (ls' := [(2, 83), (2, 64), (0, ((i : Nat) : Int))]) (st' := [(0, ((i : Nat) : Int)), (2, 84), (2, 83)]) (w' := wS) (n' := 142) rfl ?_
        refine qG.ar (P := 0 ≤ ((i : Nat) : Int) ∧ ((i : Nat) : Int) < ((40 : Nat) : Int)) (P2 := 0 < (84 : Int) ∧ (84 : Int) ≤ ((142 : Nat) : Int)) (pc' := 53) (ls' := [(2, 83), (2, 64), (0, ((i : Nat) : Int))]) (st' := [(0, wS 84 i), (2, 83)]) (w' := wS) (n' := 142) rfl (by omega) (by decide) ?_
        rw [show wS 84 i = w 84 i from hfr 84 i (by decide) (by omega)]
        refine qG.blk 2 (pc' := 57) (ls' := [(2, 83), (2, 64), (0, ((i : Nat) : Int))]) (st' := [(2, wS 83 1), (0, w 84 i), (2, 83)]) (w' := wS) (n' := 142) rfl ?_
        rw [show wS 83 1 = 85 from zref hIS rfl rfl]
        refine qG.blk 1 (pc' := 58) (ls' := [(2, 83), (2, 64), (0, ((i : Nat) : Int))]) (st' := [(0, ((i : Nat) : Int)), (2, 85), (0, w 84 i), (2, 83)]) (w' := wS) (n' := 142) rfl ?_
        refine qG.ar (P := 0 ≤ ((i : Nat) : Int) ∧ ((i : Nat) : Int) < ((40 : Nat) : Int)) (P2 := 0 < (85 : Int) ∧ (85 : Int) ≤ ((142 : Nat) : Int)) (pc' := 59) (ls' := [(2, 83), (2, 64), (0, ((i : Nat) : Int))]) (st' := [(0, wS 85 i), (0, w 84 i), (2, 83)]) (w' := wS) (n' := 142) rfl (by omega) (by decide) ?_
        rw [show wS 85 i = w 85 i from hfr 85 i (by decide) (by omega)]
        refine qG.call (t := 112) (na := 3) (sk := 1) (md := 1) (ls1 := [(2, 83), (0, w 84 i), (0, w 85 i)]) (r1 := []) rfl rfl rfl rfl rfl (K_take83 (Nat.zero_le _) (w 84 i) (w 85 i) (hKN i (by omega)).1 (hI.2.1 85 i (-2147483648, 2147483647) rfl rfl) wS hIS) ?_
        rintro _ wA _ ⟨rfl, rfl, hIA, t4, t5, t6, t9, tfr⟩
        have hA4 : wA 83 4 = oF (w 84) (w 85) (i + 1) := by rw [t4, c4]; rfl
        have hA5 : wA 83 5 = caF (w 84) (w 85) (i + 1) := by rw [t5, c5]; rfl
        have hA6 : wA 83 6 = sdF (w 84) (i + 1) := by rw [t6, c6]; rfl
        have hA9 : wA 83 9 = tuF (w 84) (i + 1) := by rw [t9, c9]; rfl
        have hA8 : wA 83 8 = moF (w 84) (w 85) i := (tfr 83 8 (by omega)).trans c8
        have hA7 : wA 83 7 = asF w 0 (w 84) (w 85) i := (tfr 83 7 (by omega)).trans c7
        obtain ⟨m9, hm9, hm10⟩ := oF_n hKN (i + 1) (by omega)
        show qG none (d + 1) 111 62 [(2, 83), (2, 64), (0, ((i : Nat) : Int))] [] wA 142 Q9
        refine qG.blk 3 (pc' := 67) (ls' := [(2, 83), (2, 64), (0, ((i : Nat) : Int))]) (st' := [(0, wA 83 8), (2, 83)]) (w' := wA) (n' := 142) rfl ?_
        rw [show wA 83 8 = moF (w 84) (w 85) i from hA8]
        refine qG.blk 2 (pc' := 71) (ls' := [(2, 83), (2, 64), (0, ((i : Nat) : Int))]) (st' := [(0, wA 83 4), (0, moF (w 84) (w 85) i), (2, 83)]) (w' := wA) (n' := 142) rfl ?_
        rw [show wA 83 4 = oF (w 84) (w 85) (i + 1) from hA4]
        refine qG.call (t := 302) (na := 1) (sk := 0) (md := 0) (ls1 := [(0, oF (w 84) (w 85) (i + 1))]) (r1 := [(0, moF (w 84) (w 85) i), (2, 83)]) rfl rfl rfl rfl rfl (K_bcJ (Nat.zero_le _) (oF (w 84) (w 85) (i + 1)) (by rw [hm9]; omega) (by rw [hm9]; omega) _) ?_
        rintro _ w7 _ ⟨rfl, hw7, rfl⟩
        rw [hw7, show bitsF (oF (w 84) (w 85) (i + 1)) 30 = bitsF (oF (w 84) (w 85) (i + 1)) 16 from by rw [hm9, bitsF_n (by omega) 30 (by decide), bitsF_n (by omega) 16 (by decide), pcn_h (by omega)]]
        show qG none (d + 1) 111 74 [(2, 83), (2, 64), (0, ((i : Nat) : Int))] [(0, bitsF (oF (w 84) (w 85) (i + 1)) 16), (0, moF (w 84) (w 85) i), (2, 83)] wA 142 Q9
        refine qG.mth rfl rfl rfl rfl (pc' := 77) (ls' := [(2, 83), (2, 64), (0, ((i : Nat) : Int))]) (st' := [(0, (if moF (w 84) (w 85) i < bitsF (oF (w 84) (w 85) (i + 1)) 16 then bitsF (oF (w 84) (w 85) (i + 1)) 16 else moF (w 84) (w 85) i)), (2, 83)]) (w' := wA) (n' := 142) rfl ?_
        refine qG.blk 3 (pc' := 84) (ls' := [(2, 83), (2, 64), (0, ((i : Nat) : Int))]) (st' := [(2, wA 83 3)]) (w' := (qup wA 83 8 (if moF (w 84) (w 85) i < bitsF (oF (w 84) (w 85) (i + 1)) 16 then bitsF (oF (w 84) (w 85) (i + 1)) 16 else moF (w 84) (w 85) i))) (n' := 142) rfl ?_
        rw [show wA 83 3 = 86 from zref hIA rfl rfl]
        refine qG.blk 3 (pc' := 87) (ls' := [(2, 83), (2, 64), (0, ((i : Nat) : Int))]) (st' := [(2, 64), (2, 83), (0, ((i : Nat) : Int)), (2, 86)]) (w' := (qup wA 83 8 (if moF (w 84) (w 85) i < bitsF (oF (w 84) (w 85) (i + 1)) 16 then bitsF (oF (w 84) (w 85) (i + 1)) 16 else moF (w 84) (w 85) i))) (n' := 142) rfl ?_
        obtain ⟨wB, hwB⟩ : ∃ z : qW, z = (qup wA 83 8 (if moF (w 84) (w 85) i < bitsF (oF (w 84) (w 85) (i + 1)) 16 then bitsF (oF (w 84) (w 85) (i + 1)) 16 else moF (w 84) (w 85) i)) := ⟨_, rfl⟩
        rw [← hwB]
        have hIB : yInv zgf zga zra zSp wB := by rw [hwB]; exact zup_f hIA (b := (0, 63)) rfl rfl rfl (by have z := bitsF_in (oF (w 84) (w 85) (i + 1)) 16; have z2 := hIA.1 83 8 (0, 63) rfl rfl; rw [hA8] at z2; have z3 : (0 : Int) ≤ moF (w 84) (w 85) i := z2.1; have z4 : moF (w 84) (w 85) i ≤ (63 : Int) := z2.2; split <;> exact ⟨by show (0 : Int) ≤ _; omega, by show _ ≤ (63 : Int); omega⟩)
        have hB8 : wB 83 8 = moF (w 84) (w 85) (i + 1) := by rw [hwB, qup_k]; rfl
        have hBo : ∀ z j, ¬ (z = 83 ∧ j = 8) → wB z j = wA z j := fun z j h => by rw [hwB]; exact qup_f h
        have hB7 : wB 83 7 = asF w 0 (w 84) (w 85) i := (hBo 83 7 (by omega)).trans hA7
        have hBw : ∀ z j, z ≠ 86 → ¬ (z = 83 ∧ 4 ≤ j ∧ j ≤ 9) → wB z j = w z j := fun z j h1 h2 => (hBo z j (by omega)).trans ((tfr z j (by omega)).trans (hfr z j h1 h2))
        have hEB : JE wB := fun c2 d2 a b => by rw [hBw (66 + 5 * c2) d2 (by omega) (by omega), hBw (67 + 5 * c2) d2 (by omega) (by omega), hBw (68 + 5 * c2) d2 (by omega) (by omega), hBw 97 _ (by decide) (by omega), hBw 98 _ (by decide) (by omega), hBw 100 _ (by decide) (by omega)]; exact hE c2 d2 a b
        have hKB : wB 64 0 = wB 96 0 := by rw [hBw 64 0 (by decide) (by omega), hBw 96 0 (by decide) (by omega)]; exact hK
        have hvB : seG wB 0 (wB 83 4) (wB 83 5) (wB 83 6) 10 = vwF w 0 (w 84) (w 85) i := by rw [hBo 83 4 (by omega), hBo 83 5 (by omega), hBo 83 6 (by omega), hA4, hA5, hA6]; exact seG_cg (fun j => hBw 96 j (by decide) (by omega)) (fun j => hBw 97 j (by decide) (by omega)) (fun j => hBw 98 j (by decide) (by omega)) (fun j => hBw 100 j (by decide) (by omega)) 0 _ _ _ 10
        refine qG.call (t := 113) (na := 2) (sk := 1) (md := 1) (ls1 := [(2, 83), (2, 64), (9, 0), (9, 0)]) (r1 := [(0, ((i : Nat) : Int)), (2, 86)]) rfl rfl rfl rfl rfl (K_view83_64 (by omega) m9 hm10 wB hIB ((hBo 83 4 (by omega)).trans (hA4.trans hm9)) hKB hEB) ?_
        rintro _ w7 _ ⟨rfl, hw7, rfl⟩
        rw [hw7, hvB]
        show qG none (d + 1) 111 90 [(2, 83), (2, 64), (0, ((i : Nat) : Int))] [(0, vwF w 0 (w 84) (w 85) i), (0, ((i : Nat) : Int)), (2, 86)] wB 142 Q9
        refine qG.ar (P := 0 ≤ ((i : Nat) : Int) ∧ ((i : Nat) : Int) < ((40 : Nat) : Int)) (P2 := 0 < (86 : Int) ∧ (86 : Int) ≤ ((142 : Nat) : Int)) (pc' := 91) (ls' := [(2, 83), (2, 64), (0, ((i : Nat) : Int))]) (st' := []) (w' := (qup wB 86 i (vwF w 0 (w 84) (w 85) i))) (n' := 142) rfl (by omega) (by decide) ?_
        refine qG.blk 3 (pc' := 96) (ls' := [(2, 83), (2, 64), (0, ((i : Nat) : Int))]) (st' := [(0, wB 83 7), (2, 83)]) (w' := (qup wB 86 i (vwF w 0 (w 84) (w 85) i))) (n' := 142) rfl ?_
        rw [show wB 83 7 = asF w 0 (w 84) (w 85) i from hB7]
        refine qG.blk 2 (pc' := 100) (ls' := [(2, 83), (2, 64), (0, ((i : Nat) : Int))]) (st' := [(2, wB 83 3), (0, asF w 0 (w 84) (w 85) i), (2, 83)]) (w' := (qup wB 86 i (vwF w 0 (w 84) (w 85) i))) (n' := 142) rfl ?_
        rw [show wB 83 3 = 86 from zref hIB rfl rfl]
        refine qG.blk 1 (pc' := 101) (ls' := [(2, 83), (2, 64), (0, ((i : Nat) : Int))]) (st' := [(0, ((i : Nat) : Int)), (2, 86), (0, asF w 0 (w 84) (w 85) i), (2, 83)]) (w' := (qup wB 86 i (vwF w 0 (w 84) (w 85) i))) (n' := 142) rfl ?_
        refine qG.ar (P := 0 ≤ ((i : Nat) : Int) ∧ ((i : Nat) : Int) < ((40 : Nat) : Int)) (P2 := 0 < (86 : Int) ∧ (86 : Int) ≤ ((142 : Nat) : Int)) (pc' := 102) (ls' := [(2, 83), (2, 64), (0, ((i : Nat) : Int))]) (st' := [(0, (qup wB 86 i (vwF w 0 (w 84) (w 85) i)) 86 i), (0, asF w 0 (w 84) (w 85) i), (2, 83)]) (w' := (qup wB 86 i (vwF w 0 (w 84) (w 85) i))) (n' := 142) rfl (by omega) (by decide) ?_
        rw [show (qup wB 86 i (vwF w 0 (w 84) (w 85) i)) 86 i = vwF w 0 (w 84) (w 85) i from by simp (disch := decide) only [qup_ne, qup_k]]
        refine qG.blk 3 (pc' := 109) (ls' := [(2, 83), (2, 64), (0, wrp (((i : Nat) : Int) + 1))]) (st' := []) (w' := (qup (qup wB 86 i (vwF w 0 (w 84) (w 85) i)) 83 7 (qor (asF w 0 (w 84) (w 85) i) (vwF w 0 (w 84) (w 85) i)))) (n' := 142) rfl ?_
        rw [show wrp (((i : Nat) : Int) + 1) = ((i + 1 : Nat) : Int) from wrp_id (by omega) (by omega)]
        refine qG.blk 1 (pc' := 32) (ls' := [(2, 83), (2, 64), (0, ((i + 1 : Nat) : Int))]) (st' := []) (w' := (qup (qup wB 86 i (vwF w 0 (w 84) (w 85) i)) 83 7 (qor (asF w 0 (w 84) (w 85) i) (vwF w 0 (w 84) (w 85) i)))) (n' := 142) rfl ?_
        obtain ⟨wN, hwN⟩ : ∃ z : qW, z = (qup (qup wB 86 i (vwF w 0 (w 84) (w 85) i)) 83 7 (qor (asF w 0 (w 84) (w 85) i) (vwF w 0 (w 84) (w 85) i))) := ⟨_, rfl⟩
        rw [← hwN]
        have hIN : yInv zgf zga zra zSp wN := by rw [hwN]; exact zup_f (zup_a hIB (b := (0, 65535)) rfl rfl (vw_in hI hE (by decide))) (b := (0, 65535)) rfl rfl rfl (as_in hI hE (by decide) (i + 1))
        have hCN : CHP 83 0 w (w 84) (w 85) (i + 1) wN := by rw [hwN]; exact ⟨(by rw [qup_f (by omega), qup_f (by omega), hBo 83 4 (by omega)]; exact hA4), (by rw [qup_f (by omega), qup_f (by omega), hBo 83 5 (by omega)]; exact hA5), (by rw [qup_f (by omega), qup_f (by omega), hBo 83 6 (by omega)]; exact hA6), qup_k, (by rw [qup_f (by omega), qup_f (by omega)]; exact hB8), (by rw [qup_f (by omega), qup_f (by omega), hBo 83 9 (by omega)]; exact hA9), (fun t ht => (qup_f (by omega)).trans (if e : t = i then (by rw [e]; exact qup_k) else ((qup_j e).trans ((hBo 86 t (by omega)).trans ((tfr 86 t (by omega)).trans (cv t (by omega))))))), fun z j h1 h2 => (qup_f (by omega)).trans ((qup_f (by omega)).trans (hBw z j h1 h2))⟩
        exact ih32 _ (by omega) (i + 1) (wN) rfl (⟨by omega, hIN, hCN⟩)
      · exfalso; omega
    · skip
      refine qG.retv rfl rfl ?_
      subst hQ9
      exact ⟨rfl, rfl, hIS, by rw [show L = i by omega]; exact ⟨c4, c5, c6, c7, c8, c9, cv, hfr⟩⟩
  exact L32 _ (0) (w0) rfl (⟨Nat.zero_le _, hI0, hC0⟩)
theorem K_perf83_69 {d : Nat} (hd : 2 ≤ d) (L : Nat) (hL : L ≤ 40) (w : qW) (hI : yInv zgf zga zra zSp w) (hs : w 83 2 = (L : Int)) (hKN : KNr (w 84) (w 85) L) (hK : w 69 0 = w 96 1) (hE : JE w) : qG none d 111 0 [(2, 83), (2, 69), (9, 0)] [] w 142 (fun (r : qV) (w1 : qW) (n1 : Nat) => r = (9, 0) ∧ n1 = 142 ∧ yInv zgf zga zra zSp w1 ∧ CHP 83 1 w (w 84) (w 85) L w1) := by
  generalize hQ9 : (fun (r : qV) (w1 : qW) (n1 : Nat) => r = (9, 0) ∧ n1 = 142 ∧ yInv zgf zga zra zSp w1 ∧ CHP 83 1 w (w 84) (w 85) L w1) = Q9
  obtain ⟨d, rfl⟩ : ∃ d9, d = d9 + 1 := ⟨d - 1, by omega⟩
  refine qG.blk 12 (pc' := 20) (ls' := [(2, 83), (2, 69), (9, 0)]) (st' := []) (w' := (qup (qup (qup (qup w 83 4 0) 83 5 (-1)) 83 6 0) 83 7 0)) (n' := 142) rfl ?_
  refine qG.blk 8 (pc' := 32) (ls' := [(2, 83), (2, 69), (0, 0)]) (st' := []) (w' := (qup (qup (qup (qup (qup (qup w 83 4 0) 83 5 (-1)) 83 6 0) 83 7 0) 83 8 0) 83 9 0)) (n' := 142) rfl ?_
  obtain ⟨w0, hw0⟩ : ∃ z : qW, z = (qup (qup (qup (qup (qup (qup w 83 4 0) 83 5 (-1)) 83 6 0) 83 7 0) 83 8 0) 83 9 0) := ⟨_, rfl⟩
  rw [← hw0]
  have hI0 : yInv zgf zga zra zSp w0 := by rw [hw0]; exact zup_f (zup_f (zup_f (zup_f (zup_f (zup_f hI (b := (-2147483648, 2147483647)) rfl rfl rfl ⟨by decide, by decide⟩) (b := (-2147483648, 2147483647)) rfl rfl rfl ⟨by decide, by decide⟩) (b := (0, 1)) rfl rfl rfl ⟨by decide, by decide⟩) (b := (0, 65535)) rfl rfl rfl ⟨by decide, by decide⟩) (b := (0, 63)) rfl rfl rfl ⟨by decide, by decide⟩) (b := (-2147483648, 2147483647)) rfl rfl rfl ⟨by decide, by decide⟩
  have hC0 : CHP 83 1 w (w 84) (w 85) 0 w0 := by rw [hw0]; exact ⟨(qup_j (by decide)).trans ((qup_j (by decide)).trans ((qup_j (by decide)).trans ((qup_j (by decide)).trans ((qup_j (by decide)).trans (qup_k))))), (qup_j (by decide)).trans ((qup_j (by decide)).trans ((qup_j (by decide)).trans ((qup_j (by decide)).trans (qup_k)))), (qup_j (by decide)).trans ((qup_j (by decide)).trans ((qup_j (by decide)).trans (qup_k))), (qup_j (by decide)).trans ((qup_j (by decide)).trans (qup_k)), (qup_j (by decide)).trans (qup_k), qup_k, fun t ht => absurd ht (Nat.not_lt_zero t), fun z j h1 h2 => (qup_f (by omega)).trans ((qup_f (by omega)).trans ((qup_f (by omega)).trans ((qup_f (by omega)).trans ((qup_f (by omega)).trans (qup_f (by omega))))))⟩
  have L32 : ∀ (m9 : Nat) (i : Nat) (wS : qW), 40 - i = m9 → (i ≤ L ∧ yInv zgf zga zra zSp wS ∧ CHP 83 1 w (w 84) (w 85) i wS) → qG none (d + 1) 111 32 [(2, 83), (2, 69), (0, ((i : Nat) : Int))] [] wS 142 Q9 := by
    intro m9
    induction m9 using Nat.strongRecOn with
    | ind m9 ih32 =>
    intro i wS hm32 hI32
    obtain ⟨hiL, hIS, hC⟩ := hI32
    obtain ⟨c4, c5, c6, c7, c8, c9, cv, hfr⟩ := hC
    refine qG.blk 3 (pc' := 37) (ls' := [(2, 83), (2, 69), (0, ((i : Nat) : Int))]) (st' := [(0, wS 83 2), (0, ((i : Nat) : Int))]) (w' := wS) (n' := 142) rfl ?_
    rw [show wS 83 2 = ((L : Nat) : Int) from (hfr 83 2 (by decide) (by omega)).trans hs]
    refine qG.br (P := ((i : Nat) : Int) < ((L : Nat) : Int)) (pc1 := 40) (pc2 := 112) (st1 := []) rfl (fun hiL2 => ?_) (fun hiL2 => ?_)
    · skip
      refine qG.blk 2 (pc' := 43) (ls' := [(2, 83), (2, 69), (0, ((i : Nat) : Int))]) (st' := [(0, 40), (0, ((i : Nat) : Int))]) (w' := wS) (n' := 142) rfl ?_
      refine qG.br (P := ((i : Nat) : Int) < 40) (pc1 := 46) (pc2 := 112) (st1 := []) rfl (fun hi40 => ?_) (fun hi40 => ?_)
      · skip
        refine qG.blk 3 (pc' := 51) (ls' := [(2, 83), (2, 69), (0, ((i : Nat) : Int))]) (st' := [(2, wS 83 0), (2, 83)]) (w' := wS) (n' := 142) rfl ?_
        rw [show wS 83 0 = 84 from zref hIS rfl rfl]
        refine qG.blk 1 (pc' := 52) (ls' := [(2, 83), (2, 69), (0, ((i : Nat) : Int))]) (st' := [(0, ((i : Nat) : Int)), (2, 84), (2, 83)]) (w' := wS) (n' := 142) rfl ?_
        refine qG.ar (P := 0 ≤ ((i : Nat) : Int) ∧ ((i : Nat) : Int) < ((40 : Nat) : Int)) (P2 := 0 < (84 : Int) ∧ (84 : Int) ≤ ((142 : Nat) : Int)) (pc' := 53) (ls' := [(2, 83), (2, 69), (0, ((i : Nat) : Int))]) (st' := [(0, wS 84 i), (2, 83)]) (w' := wS) (n' := 142) rfl (by omega) (by decide) ?_
        rw [show wS 84 i = w 84 i from hfr 84 i (by decide) (by omega)]
        refine qG.blk 2 (pc' := 57) (ls' := [(2, 83), (2, 69), (0, ((i : Nat) : Int))]) (st' := [(2, wS 83 1), (0, w 84 i), (2, 83)]) (w' := wS) (n' := 142) rfl ?_
        rw [show wS 83 1 = 85 from zref hIS rfl rfl]
        refine qG.blk 1 (pc' := 58) (ls' := [(2, 83), (2, 69), (0, ((i : Nat) : Int))]) (st' := [(0, ((i : Nat) : Int)), (2, 85), (0, w 84 i), (2, 83)]) (w' := wS) (n' := 142) rfl ?_
        refine qG.ar (P := 0 ≤ ((i : Nat) : Int) ∧ ((i : Nat) : Int) < ((40 : Nat) : Int)) (P2 := 0 < (85 : Int) ∧ (85 : Int) ≤ ((142 : Nat) : Int)) (pc' := 59) (ls' := [(2, 83), (2, 69), (0, ((i : Nat) : Int))]) (st' := [(0, wS 85 i), (0, w 84 i), (2, 83)]) (w' := wS) (n' := 142) rfl (by omega) (by decide) ?_
        rw [show wS 85 i = w 85 i from hfr 85 i (by decide) (by omega)]
        refine qG.call (t := 112) (na := 3) (sk := 1) (md := 1) (ls1 := [(2, 83), (0, w 84 i), (0, w 85 i)]) (r1 := []) rfl rfl rfl rfl rfl (K_take83 (Nat.zero_le _) (w 84 i) (w 85 i) (hKN i (by omega)).1 (hI.2.1 85 i (-2147483648, 2147483647) rfl rfl) wS hIS) ?_
        rintro _ wA _ ⟨rfl, rfl, hIA, t4, t5, t6, t9, tfr⟩
        have hA4 : wA 83 4 = oF (w 84) (w 85) (i + 1) := by rw [t4, c4]; rfl
        have hA5 : wA 83 5 = caF (w 84) (w 85) (i + 1) := by rw [t5, c5]; rfl
        have hA6 : wA 83 6 = sdF (w 84) (i + 1) := by rw [t6, c6]; rfl
        have hA9 : wA 83 9 = tuF (w 84) (i + 1) := by rw [t9, c9]; rfl
        have hA8 : wA 83 8 = moF (w 84) (w 85) i := (tfr 83 8 (by omega)).trans c8
        have hA7 : wA 83 7 = asF w 1 (w 84) (w 85) i := (tfr 83 7 (by omega)).trans c7
        obtain ⟨m9, hm9, hm10⟩ := oF_n hKN (i + 1) (by omega)
        show qG none (d + 1) 111 62 [(2, 83), (2, 69), (0, ((i : Nat) : Int))] [] wA 142 Q9
        refine qG.blk 3 (pc' := 67) (ls' := [(2, 83), (2, 69), (0, ((i : Nat) : Int))]) (st' := [(0, wA 83 8), (2, 83)]) (w' := wA) (n' := 142) rfl ?_
        rw [show wA 83 8 = moF (w 84) (w 85) i from hA8]
        refine qG.blk 2 (pc' := 71) (ls' := [(2, 83), (2, 69), (0, ((i : Nat) : Int))]) (st' := [(0, wA 83 4), (0, moF (w 84) (w 85) i), (2, 83)]) (w' := wA) (n' := 142) rfl ?_
        rw [show wA 83 4 = oF (w 84) (w 85) (i + 1) from hA4]
        refine qG.call (t := 302) (na := 1) (sk := 0) (md := 0) (ls1 := [(0, oF (w 84) (w 85) (i + 1))]) (r1 := [(0, moF (w 84) (w 85) i), (2, 83)]) rfl rfl rfl rfl rfl (K_bcJ (Nat.zero_le _) (oF (w 84) (w 85) (i + 1)) (by rw [hm9]; omega) (by rw [hm9]; omega) _) ?_
        rintro _ w7 _ ⟨rfl, hw7, rfl⟩
        rw [hw7, show bitsF (oF (w 84) (w 85) (i + 1)) 30 = bitsF (oF (w 84) (w 85) (i + 1)) 16 from by rw [hm9, bitsF_n (by omega) 30 (by decide), bitsF_n (by omega) 16 (by decide), pcn_h (by omega)]]
        show qG none (d + 1) 111 74 [(2, 83), (2, 69), (0, ((i : Nat) : Int))] [(0, bitsF (oF (w 84) (w 85) (i + 1)) 16), (0, moF (w 84) (w 85) i), (2, 83)] wA 142 Q9
        refine qG.mth rfl rfl rfl rfl (pc' := 77) (ls' := [(2, 83), (2, 69), (0, ((i : Nat) : Int))]) (st' := [(0, (if moF (w 84) (w 85) i < bitsF (oF (w 84) (w 85) (i + 1)) 16 then bitsF (oF (w 84) (w 85) (i + 1)) 16 else moF (w 84) (w 85) i)), (2, 83)]) (w' := wA) (n' := 142) rfl ?_
        refine qG.blk 3 (pc' := 84) (ls' := [(2, 83), (2, 69), (0, ((i : Nat) : Int))]) (st' := [(2, wA 83 3)]) (w' := (qup wA 83 8 (if moF (w 84) (w 85) i < bitsF (oF (w 84) (w 85) (i + 1)) 16 then bitsF (oF (w 84) (w 85) (i + 1)) 16 else moF (w 84) (w 85) i))) (n' := 142) rfl ?_
        rw [show wA 83 3 = 86 from zref hIA rfl rfl]
        refine qG.blk 3 (pc' := 87) (ls' := [(2, 83), (2, 69), (0, ((i : Nat) : Int))]) (st' := [(2, 69), (2, 83), (0, ((i : Nat) : Int)), (2, 86)]) (w' := (qup wA 83 8 (if moF (w 84) (w 85) i < bitsF (oF (w 84) (w 85) (i + 1)) 16 then bitsF (oF (w 84) (w 85) (i + 1)) 16 else moF (w 84) (w 85) i))) (n' := 142) rfl ?_
        obtain ⟨wB, hwB⟩ : ∃ z : qW, z = (qup wA 83 8 (if moF (w 84) (w 85) i < bitsF (oF (w 84) (w 85) (i + 1)) 16 then bitsF (oF (w 84) (w 85) (i + 1)) 16 else moF (w 84) (w 85) i)) := ⟨_, rfl⟩
        rw [← hwB]
        have hIB : yInv zgf zga zra zSp wB := by rw [hwB]; exact zup_f hIA (b := (0, 63)) rfl rfl rfl (by have z := bitsF_in (oF (w 84) (w 85) (i + 1)) 16; have z2 := hIA.1 83 8 (0, 63) rfl rfl; rw [hA8] at z2; have z3 : (0 : Int) ≤ moF (w 84) (w 85) i := z2.1; have z4 : moF (w 84) (w 85) i ≤ (63 : Int) := z2.2; split <;> exact ⟨by show (0 : Int) ≤ _; omega, by show _ ≤ (63 : Int); omega⟩)
        have hB8 : wB 83 8 = moF (w 84) (w 85) (i + 1) := by rw [hwB, qup_k]; rfl
        have hBo : ∀ z j, ¬ (z = 83 ∧ j = 8) → wB z j = wA z j := fun z j h => by rw [hwB]; exact qup_f h
        have hB7 : wB 83 7 = asF w 1 (w 84) (w 85) i := (hBo 83 7 (by omega)).trans hA7
        have hBw : ∀ z j, z ≠ 86 → ¬ (z = 83 ∧ 4 ≤ j ∧ j ≤ 9) → wB z j = w z j := fun z j h1 h2 => (hBo z j (by omega)).trans ((tfr z j (by omega)).trans (hfr z j h1 h2))
        have hEB : JE wB := fun c2 d2 a b => by rw [hBw (66 + 5 * c2) d2 (by omega) (by omega), hBw (67 + 5 * c2) d2 (by omega) (by omega), hBw (68 + 5 * c2) d2 (by omega) (by omega), hBw 97 _ (by decide) (by omega), hBw 98 _ (by decide) (by omega), hBw 100 _ (by decide) (by omega)]; exact hE c2 d2 a b
        have hKB : wB 69 0 = wB 96 1 := by rw [hBw 69 0 (by decide) (by omega), hBw 96 1 (by decide) (by omega)]; exact hK
        have hvB : seG wB 1 (wB 83 4) (wB 83 5) (wB 83 6) 10 = vwF w 1 (w 84) (w 85) i := by rw [hBo 83 4 (by omega), hBo 83 5 (by omega), hBo 83 6 (by omega), hA4, hA5, hA6]; exact seG_cg (fun j => hBw 96 j (by decide) (by omega)) (fun j => hBw 97 j (by decide) (by omega)) (fun j => hBw 98 j (by decide) (by omega)) (fun j => hBw 100 j (by decide) (by omega)) 1 _ _ _ 10
        refine qG.call (t := 113) (na := 2) (sk := 1) (md := 1) (ls1 := [(2, 83), (2, 69), (9, 0), (9, 0)]) (r1 := [(0, ((i : Nat) : Int)), (2, 86)]) rfl rfl rfl rfl rfl (K_view83_69 (by omega) m9 hm10 wB hIB ((hBo 83 4 (by omega)).trans (hA4.trans hm9)) hKB hEB) ?_
        rintro _ w7 _ ⟨rfl, hw7, rfl⟩
        rw [hw7, hvB]
        show qG none (d + 1) 111 90 [(2, 83), (2, 69), (0, ((i : Nat) : Int))] [(0, vwF w 1 (w 84) (w 85) i), (0, ((i : Nat) : Int)), (2, 86)] wB 142 Q9
        refine qG.ar (P := 0 ≤ ((i : Nat) : Int) ∧ ((i : Nat) : Int) < ((40 : Nat) : Int)) (P2 := 0 < (86 : Int) ∧ (86 : Int) ≤ ((142 : Nat) : Int)) (pc' := 91) (ls' := [(2, 83), (2, 69), (0, ((i : Nat) : Int))]) (st' := []) (w' := (qup wB 86 i (vwF w 1 (w 84) (w 85) i))) (n' := 142) rfl (by omega) (by decide) ?_
        refine qG.blk 3 (pc' := 96) (ls' := [(2, 83), (2, 69), (0, ((i : Nat) : Int))]) (st' := [(0, wB 83 7), (2, 83)]) (w' := (qup wB 86 i (vwF w 1 (w 84) (w 85) i))) (n' := 142) rfl ?_
        rw [show wB 83 7 = asF w 1 (w 84) (w 85) i from hB7]
        refine qG.blk 2 (pc' := 100) (ls' := [(2, 83), (2, 69), (0, ((i : Nat) : Int))]) (st' := [(2, wB 83 3), (0, asF w 1 (w 84) (w 85) i), (2, 83)]) (w' := (qup wB 86 i (vwF w 1 (w 84) (w 85) i))) (n' := 142) rfl ?_
        rw [show wB 83 3 = 86 from zref hIB rfl rfl]
        refine qG.blk 1 (pc' := 101) (ls' := [(2, 83), (2, 69), (0, ((i : Nat) : Int))]) (st' := [(0, ((i : Nat) : Int)), (2, 86), (0, asF w 1 (w 84) (w 85) i), (2, 83)]) (w' := (qup wB 86 i (vwF w 1 (w 84) (w 85) i))) (n' := 142) rfl ?_
        refine qG.ar (P := 0 ≤ ((i : Nat) : Int) ∧ ((i : Nat) : Int) < ((40 : Nat) : Int)) (P2 := 0 < (86 : Int) ∧ (86 : Int) ≤ ((142 : Nat) : Int)) (pc' := 102) (ls' := [(2, 83), (2, 69), (0, ((i : Nat) : Int))]) (st' := [(0, (qup wB 86 i (vwF w 1 (w 84) (w 85) i)) 86 i), (0, asF w 1 (w 84) (w 85) i), (2, 83)]) (w' := (qup wB 86 i (vwF w 1 (w 84) (w 85) i))) (n' := 142) rfl (by omega) (by decide) ?_
        rw [show (qup wB 86 i (vwF w 1 (w 84) (w 85) i)) 86 i = vwF w 1 (w 84) (w 85) i from by simp (disch := decide) only [qup_ne, qup_k]]
        refine qG.blk 3 (pc' := 109) (ls' := [(2, 83), (2, 69), (0, wrp (((i : Nat) : Int) + 1))]) (st' := []) (w' := (qup (qup wB 86 i (vwF w 1 (w 84) (w 85) i)) 83 7 (qor (asF w 1 (w 84) (w 85) i) (vwF w 1 (w 84) (w 85) i)))) (n' := 142) rfl ?_
        rw [show wrp (((i : Nat) : Int) + 1) = ((i + 1 : Nat) : Int) from wrp_id (by omega) (by omega)]
        refine qG.blk 1 (pc' := 32) (ls' := [(2, 83), (2, 69), (0, ((i + 1 : Nat) : Int))]) (st' := []) (w' := (qup (qup wB 86 i (vwF w 1 (w 84) (w 85) i)) 83 7 (qor (asF w 1 (w 84) (w 85) i) (vwF w 1 (w 84) (w 85) i)))) (n' := 142) rfl ?_
        obtain ⟨wN, hwN⟩ : ∃ z : qW, z = (qup (qup wB 86 i (vwF w 1 (w 84) (w 85) i)) 83 7 (qor (asF w 1 (w 84) (w 85) i) (vwF w 1 (w 84) (w 85) i))) := ⟨_, rfl⟩
        rw [← hwN]
        have hIN : yInv zgf zga zra zSp wN := by rw [hwN]; exact zup_f (zup_a hIB (b := (0, 65535)) rfl rfl (vw_in hI hE (by decide))) (b := (0, 65535)) rfl rfl rfl (as_in hI hE (by decide) (i + 1))
        have hCN : CHP 83 1 w (w 84) (w 85) (i + 1) wN := by rw [hwN]; exact ⟨(by rw [qup_f (by omega), qup_f (by omega), hBo 83 4 (by omega)]; exact hA4), (by rw [qup_f (by omega), qup_f (by omega), hBo 83 5 (by omega)]; exact hA5), (by rw [qup_f (by omega), qup_f (by omega), hBo 83 6 (by omega)]; exact hA6), qup_k, (by rw [qup_f (by omega), qup_f (by omega)]; exact hB8), (by rw [qup_f (by omega), qup_f (by omega), hBo 83 9 (by omega)]; exact hA9), (fun t ht => (qup_f (by omega)).trans (if e : t = i then (by rw [e]; exact qup_k) else ((qup_j e).trans ((hBo 86 t (by omega)).trans ((tfr 86 t (by omega)).trans (cv t (by omega))))))), fun z j h1 h2 => (qup_f (by omega)).trans ((qup_f (by omega)).trans (hBw z j h1 h2))⟩
        exact ih32 _ (by omega) (i + 1) (wN) rfl (⟨by omega, hIN, hCN⟩)
      · exfalso; omega
    · skip
      refine qG.retv rfl rfl ?_
      subst hQ9
      exact ⟨rfl, rfl, hIS, by rw [show L = i by omega]; exact ⟨c4, c5, c6, c7, c8, c9, cv, hfr⟩⟩
  exact L32 _ (0) (w0) rfl (⟨Nat.zero_le _, hI0, hC0⟩)
theorem K_perf83_74 {d : Nat} (hd : 2 ≤ d) (L : Nat) (hL : L ≤ 40) (w : qW) (hI : yInv zgf zga zra zSp w) (hs : w 83 2 = (L : Int)) (hKN : KNr (w 84) (w 85) L) (hK : w 74 0 = w 96 2) (hE : JE w) : qG none d 111 0 [(2, 83), (2, 74), (9, 0)] [] w 142 (fun (r : qV) (w1 : qW) (n1 : Nat) => r = (9, 0) ∧ n1 = 142 ∧ yInv zgf zga zra zSp w1 ∧ CHP 83 2 w (w 84) (w 85) L w1) := by
  generalize hQ9 : (fun (r : qV) (w1 : qW) (n1 : Nat) => r = (9, 0) ∧ n1 = 142 ∧ yInv zgf zga zra zSp w1 ∧ CHP 83 2 w (w 84) (w 85) L w1) = Q9
  obtain ⟨d, rfl⟩ : ∃ d9, d = d9 + 1 := ⟨d - 1, by omega⟩
  refine qG.blk 12 (pc' := 20) (ls' := [(2, 83), (2, 74), (9, 0)]) (st' := []) (w' := (qup (qup (qup (qup w 83 4 0) 83 5 (-1)) 83 6 0) 83 7 0)) (n' := 142) rfl ?_
  refine qG.blk 8 (pc' := 32) (ls' := [(2, 83), (2, 74), (0, 0)]) (st' := []) (w' := (qup (qup (qup (qup (qup (qup w 83 4 0) 83 5 (-1)) 83 6 0) 83 7 0) 83 8 0) 83 9 0)) (n' := 142) rfl ?_
  obtain ⟨w0, hw0⟩ : ∃ z : qW, z = (qup (qup (qup (qup (qup (qup w 83 4 0) 83 5 (-1)) 83 6 0) 83 7 0) 83 8 0) 83 9 0) := ⟨_, rfl⟩
  rw [← hw0]
  have hI0 : yInv zgf zga zra zSp w0 := by rw [hw0]; exact zup_f (zup_f (zup_f (zup_f (zup_f (zup_f hI (b := (-2147483648, 2147483647)) rfl rfl rfl ⟨by decide, by decide⟩) (b := (-2147483648, 2147483647)) rfl rfl rfl ⟨by decide, by decide⟩) (b := (0, 1)) rfl rfl rfl ⟨by decide, by decide⟩) (b := (0, 65535)) rfl rfl rfl ⟨by decide, by decide⟩) (b := (0, 63)) rfl rfl rfl ⟨by decide, by decide⟩) (b := (-2147483648, 2147483647)) rfl rfl rfl ⟨by decide, by decide⟩
  have hC0 : CHP 83 2 w (w 84) (w 85) 0 w0 := by rw [hw0]; exact ⟨(qup_j (by decide)).trans ((qup_j (by decide)).trans ((qup_j (by decide)).trans ((qup_j (by decide)).trans ((qup_j (by decide)).trans (qup_k))))), (qup_j (by decide)).trans ((qup_j (by decide)).trans ((qup_j (by decide)).trans ((qup_j (by decide)).trans (qup_k)))), (qup_j (by decide)).trans ((qup_j (by decide)).trans ((qup_j (by decide)).trans (qup_k))), (qup_j (by decide)).trans ((qup_j (by decide)).trans (qup_k)), (qup_j (by decide)).trans (qup_k), qup_k, fun t ht => absurd ht (Nat.not_lt_zero t), fun z j h1 h2 => (qup_f (by omega)).trans ((qup_f (by omega)).trans ((qup_f (by omega)).trans ((qup_f (by omega)).trans ((qup_f (by omega)).trans (qup_f (by omega))))))⟩
  have L32 : ∀ (m9 : Nat) (i : Nat) (wS : qW), 40 - i = m9 → (i ≤ L ∧ yInv zgf zga zra zSp wS ∧ CHP 83 2 w (w 84) (w 85) i wS) → qG none (d + 1) 111 32 [(2, 83), (2, 74), (0, ((i : Nat) : Int))] [] wS 142 Q9 := by
    intro m9
    induction m9 using Nat.strongRecOn with
    | ind m9 ih32 =>
    intro i wS hm32 hI32
    obtain ⟨hiL, hIS, hC⟩ := hI32
    obtain ⟨c4, c5, c6, c7, c8, c9, cv, hfr⟩ := hC
    refine qG.blk 3 (pc' := 37) (ls' := [(2, 83), (2, 74), (0, ((i : Nat) : Int))]) (st' := [(0, wS 83 2), (0, ((i : Nat) : Int))]) (w' := wS) (n' := 142) rfl ?_
    rw [show wS 83 2 = ((L : Nat) : Int) from (hfr 83 2 (by decide) (by omega)).trans hs]
    refine qG.br (P := ((i : Nat) : Int) < ((L : Nat) : Int)) (pc1 := 40) (pc2 := 112) (st1 := []) rfl (fun hiL2 => ?_) (fun hiL2 => ?_)
    · skip
      refine qG.blk 2 (pc' := 43) (ls' := [(2, 83), (2, 74), (0, ((i : Nat) : Int))]) (st' := [(0, 40), (0, ((i : Nat) : Int))]) (w' := wS) (n' := 142) rfl ?_
      refine qG.br (P := ((i : Nat) : Int) < 40) (pc1 := 46) (pc2 := 112) (st1 := []) rfl (fun hi40 => ?_) (fun hi40 => ?_)
      · skip
        refine qG.blk 3 (pc' := 51) (ls' := [(2, 83), (2, 74), (0, ((i : Nat) : Int))]) (st' := [(2, wS 83 0), (2, 83)]) (w' := wS) (n' := 142) rfl ?_
        rw [show wS 83 0 = 84 from zref hIS rfl rfl]
        refine qG.blk 1 (pc' := 52) (ls' := [(2, 83), (2, 74), (0, ((i : Nat) : Int))]) (st' := [(0, ((i : Nat) : Int)), (2, 84), (2, 83)]) (w' := wS) (n' := 142) rfl ?_
        refine qG.ar (P := 0 ≤ ((i : Nat) : Int) ∧ ((i : Nat) : Int) < ((40 : Nat) : Int)) (P2 := 0 < (84 : Int) ∧ (84 : Int) ≤ ((142 : Nat) : Int)) (pc' := 53) (ls' := [(2, 83), (2, 74), (0, ((i : Nat) : Int))]) (st' := [(0, wS 84 i), (2, 83)]) (w' := wS) (n' := 142) rfl (by omega) (by decide) ?_
        rw [show wS 84 i = w 84 i from hfr 84 i (by decide) (by omega)]
        refine qG.blk 2 (pc' := 57) (ls' := [(2, 83), (2, 74), (0, ((i : Nat) : Int))]) (st' := [(2, wS 83 1), (0, w 84 i), (2, 83)]) (w' := wS) (n' := 142) rfl ?_
        rw [show wS 83 1 = 85 from zref hIS rfl rfl]
        refine qG.blk 1 (pc' := 58) (ls' := [(2, 83), (2, 74), (0, ((i : Nat) : Int))]) (st' := [(0, ((i : Nat) : Int)), (2, 85), (0, w 84 i), (2, 83)]) (w' := wS) (n' := 142) rfl ?_
        refine qG.ar (P := 0 ≤ ((i : Nat) : Int) ∧ ((i : Nat) : Int) < ((40 : Nat) : Int)) (P2 := 0 < (85 : Int) ∧ (85 : Int) ≤ ((142 : Nat) : Int)) (pc' := 59) (ls' := [(2, 83), (2, 74), (0, ((i : Nat) : Int))]) (st' := [(0, wS 85 i), (0, w 84 i), (2, 83)]) (w' := wS) (n' := 142) rfl (by omega) (by decide) ?_
        rw [show wS 85 i = w 85 i from hfr 85 i (by decide) (by omega)]
        refine qG.call (t := 112) (na := 3) (sk := 1) (md := 1) (ls1 := [(2, 83), (0, w 84 i), (0, w 85 i)]) (r1 := []) rfl rfl rfl rfl rfl (K_take83 (Nat.zero_le _) (w 84 i) (w 85 i) (hKN i (by omega)).1 (hI.2.1 85 i (-2147483648, 2147483647) rfl rfl) wS hIS) ?_
        rintro _ wA _ ⟨rfl, rfl, hIA, t4, t5, t6, t9, tfr⟩
        have hA4 : wA 83 4 = oF (w 84) (w 85) (i + 1) := by rw [t4, c4]; rfl
        have hA5 : wA 83 5 = caF (w 84) (w 85) (i + 1) := by rw [t5, c5]; rfl
        have hA6 : wA 83 6 = sdF (w 84) (i + 1) := by rw [t6, c6]; rfl
        have hA9 : wA 83 9 = tuF (w 84) (i + 1) := by rw [t9, c9]; rfl
        have hA8 : wA 83 8 = moF (w 84) (w 85) i := (tfr 83 8 (by omega)).trans c8
        have hA7 : wA 83 7 = asF w 2 (w 84) (w 85) i := (tfr 83 7 (by omega)).trans c7
        obtain ⟨m9, hm9, hm10⟩ := oF_n hKN (i + 1) (by omega)
        show qG none (d + 1) 111 62 [(2, 83), (2, 74), (0, ((i : Nat) : Int))] [] wA 142 Q9
        refine qG.blk 3 (pc' := 67) (ls' := [(2, 83), (2, 74), (0, ((i : Nat) : Int))]) (st' := [(0, wA 83 8), (2, 83)]) (w' := wA) (n' := 142) rfl ?_
        rw [show wA 83 8 = moF (w 84) (w 85) i from hA8]
        refine qG.blk 2 (pc' := 71) (ls' := [(2, 83), (2, 74), (0, ((i : Nat) : Int))]) (st' := [(0, wA 83 4), (0, moF (w 84) (w 85) i), (2, 83)]) (w' := wA) (n' := 142) rfl ?_
        rw [show wA 83 4 = oF (w 84) (w 85) (i + 1) from hA4]
        refine qG.call (t := 302) (na := 1) (sk := 0) (md := 0) (ls1 := [(0, oF (w 84) (w 85) (i + 1))]) (r1 := [(0, moF (w 84) (w 85) i), (2, 83)]) rfl rfl rfl rfl rfl (K_bcJ (Nat.zero_le _) (oF (w 84) (w 85) (i + 1)) (by rw [hm9]; omega) (by rw [hm9]; omega) _) ?_
        rintro _ w7 _ ⟨rfl, hw7, rfl⟩
        rw [hw7, show bitsF (oF (w 84) (w 85) (i + 1)) 30 = bitsF (oF (w 84) (w 85) (i + 1)) 16 from by rw [hm9, bitsF_n (by omega) 30 (by decide), bitsF_n (by omega) 16 (by decide), pcn_h (by omega)]]
        show qG none (d + 1) 111 74 [(2, 83), (2, 74), (0, ((i : Nat) : Int))] [(0, bitsF (oF (w 84) (w 85) (i + 1)) 16), (0, moF (w 84) (w 85) i), (2, 83)] wA 142 Q9
        refine qG.mth rfl rfl rfl rfl (pc' := 77) (ls' := [(2, 83), (2, 74), (0, ((i : Nat) : Int))]) (st' := [(0, (if moF (w 84) (w 85) i < bitsF (oF (w 84) (w 85) (i + 1)) 16 then bitsF (oF (w 84) (w 85) (i + 1)) 16 else moF (w 84) (w 85) i)), (2, 83)]) (w' := wA) (n' := 142) rfl ?_
        refine qG.blk 3 (pc' := 84) (ls' := [(2, 83), (2, 74), (0, ((i : Nat) : Int))]) (st' := [(2, wA 83 3)]) (w' := (qup wA 83 8 (if moF (w 84) (w 85) i < bitsF (oF (w 84) (w 85) (i + 1)) 16 then bitsF (oF (w 84) (w 85) (i + 1)) 16 else moF (w 84) (w 85) i))) (n' := 142) rfl ?_
        rw [show wA 83 3 = 86 from zref hIA rfl rfl]
        refine qG.blk 3 (pc' := 87) (ls' := [(2, 83), (2, 74), (0, ((i : Nat) : Int))]) (st' := [(2, 74), (2, 83), (0, ((i : Nat) : Int)), (2, 86)]) (w' := (qup wA 83 8 (if moF (w 84) (w 85) i < bitsF (oF (w 84) (w 85) (i + 1)) 16 then bitsF (oF (w 84) (w 85) (i + 1)) 16 else moF (w 84) (w 85) i))) (n' := 142) rfl ?_
        obtain ⟨wB, hwB⟩ : ∃ z : qW, z = (qup wA 83 8 (if moF (w 84) (w 85) i < bitsF (oF (w 84) (w 85) (i + 1)) 16 then bitsF (oF (w 84) (w 85) (i + 1)) 16 else moF (w 84) (w 85) i)) := ⟨_, rfl⟩
        rw [← hwB]
        have hIB : yInv zgf zga zra zSp wB := by rw [hwB]; exact zup_f hIA (b := (0, 63)) rfl rfl rfl (by have z := bitsF_in (oF (w 84) (w 85) (i + 1)) 16; have z2 := hIA.1 83 8 (0, 63) rfl rfl; rw [hA8] at z2; have z3 : (0 : Int) ≤ moF (w 84) (w 85) i := z2.1; have z4 : moF (w 84) (w 85) i ≤ (63 : Int) := z2.2; split <;> exact ⟨by show (0 : Int) ≤ _; omega, by show _ ≤ (63 : Int); omega⟩)
        have hB8 : wB 83 8 = moF (w 84) (w 85) (i + 1) := by rw [hwB, qup_k]; rfl
        have hBo : ∀ z j, ¬ (z = 83 ∧ j = 8) → wB z j = wA z j := fun z j h => by rw [hwB]; exact qup_f h
        have hB7 : wB 83 7 = asF w 2 (w 84) (w 85) i := (hBo 83 7 (by omega)).trans hA7
        have hBw : ∀ z j, z ≠ 86 → ¬ (z = 83 ∧ 4 ≤ j ∧ j ≤ 9) → wB z j = w z j := fun z j h1 h2 => (hBo z j (by omega)).trans ((tfr z j (by omega)).trans (hfr z j h1 h2))
        have hEB : JE wB := fun c2 d2 a b => by rw [hBw (66 + 5 * c2) d2 (by omega) (by omega), hBw (67 + 5 * c2) d2 (by omega) (by omega), hBw (68 + 5 * c2) d2 (by omega) (by omega), hBw 97 _ (by decide) (by omega), hBw 98 _ (by decide) (by omega), hBw 100 _ (by decide) (by omega)]; exact hE c2 d2 a b
        have hKB : wB 74 0 = wB 96 2 := by rw [hBw 74 0 (by decide) (by omega), hBw 96 2 (by decide) (by omega)]; exact hK
        have hvB : seG wB 2 (wB 83 4) (wB 83 5) (wB 83 6) 10 = vwF w 2 (w 84) (w 85) i := by rw [hBo 83 4 (by omega), hBo 83 5 (by omega), hBo 83 6 (by omega), hA4, hA5, hA6]; exact seG_cg (fun j => hBw 96 j (by decide) (by omega)) (fun j => hBw 97 j (by decide) (by omega)) (fun j => hBw 98 j (by decide) (by omega)) (fun j => hBw 100 j (by decide) (by omega)) 2 _ _ _ 10
        refine qG.call (t := 113) (na := 2) (sk := 1) (md := 1) (ls1 := [(2, 83), (2, 74), (9, 0), (9, 0)]) (r1 := [(0, ((i : Nat) : Int)), (2, 86)]) rfl rfl rfl rfl rfl (K_view83_74 (by omega) m9 hm10 wB hIB ((hBo 83 4 (by omega)).trans (hA4.trans hm9)) hKB hEB) ?_
        rintro _ w7 _ ⟨rfl, hw7, rfl⟩
        rw [hw7, hvB]
        show qG none (d + 1) 111 90 [(2, 83), (2, 74), (0, ((i : Nat) : Int))] [(0, vwF w 2 (w 84) (w 85) i), (0, ((i : Nat) : Int)), (2, 86)] wB 142 Q9
        refine qG.ar (P := 0 ≤ ((i : Nat) : Int) ∧ ((i : Nat) : Int) < ((40 : Nat) : Int)) (P2 := 0 < (86 : Int) ∧ (86 : Int) ≤ ((142 : Nat) : Int)) (pc' := 91) (ls' := [(2, 83), (2, 74), (0, ((i : Nat) : Int))]) (st' := []) (w' := (qup wB 86 i (vwF w 2 (w 84) (w 85) i))) (n' := 142) rfl (by omega) (by decide) ?_
        refine qG.blk 3 (pc' := 96) (ls' := [(2, 83), (2, 74), (0, ((i : Nat) : Int))]) (st' := [(0, wB 83 7), (2, 83)]) (w' := (qup wB 86 i (vwF w 2 (w 84) (w 85) i))) (n' := 142) rfl ?_
        rw [show wB 83 7 = asF w 2 (w 84) (w 85) i from hB7]
        refine qG.blk 2 (pc' := 100) (ls' := [(2, 83), (2, 74), (0, ((i : Nat) : Int))]) (st' := [(2, wB 83 3), (0, asF w 2 (w 84) (w 85) i), (2, 83)]) (w' := (qup wB 86 i (vwF w 2 (w 84) (w 85) i))) (n' := 142) rfl ?_
        rw [show wB 83 3 = 86 from zref hIB rfl rfl]
        refine qG.blk 1 (pc' := 101) (ls' := [(2, 83), (2, 74), (0, ((i : Nat) : Int))]) (st' := [(0, ((i : Nat) : Int)), (2, 86), (0, asF w 2 (w 84) (w 85) i), (2, 83)]) (w' := (qup wB 86 i (vwF w 2 (w 84) (w 85) i))) (n' := 142) rfl ?_
        refine qG.ar (P := 0 ≤ ((i : Nat) : Int) ∧ ((i : Nat) : Int) < ((40 : Nat) : Int)) (P2 := 0 < (86 : Int) ∧ (86 : Int) ≤ ((142 : Nat) : Int)) (pc' := 102) (ls' := [(2, 83), (2, 74), (0, ((i : Nat) : Int))]) (st' := [(0, (qup wB 86 i (vwF w 2 (w 84) (w 85) i)) 86 i), (0, asF w 2 (w 84) (w 85) i), (2, 83)]) (w' := (qup wB 86 i (vwF w 2 (w 84) (w 85) i))) (n' := 142) rfl (by omega) (by decide) ?_
        rw [show (qup wB 86 i (vwF w 2 (w 84) (w 85) i)) 86 i = vwF w 2 (w 84) (w 85) i from by simp (disch := decide) only [qup_ne, qup_k]]
        refine qG.blk 3 (pc' := 109) (ls' := [(2, 83), (2, 74), (0, wrp (((i : Nat) : Int) + 1))]) (st' := []) (w' := (qup (qup wB 86 i (vwF w 2 (w 84) (w 85) i)) 83 7 (qor (asF w 2 (w 84) (w 85) i) (vwF w 2 (w 84) (w 85) i)))) (n' := 142) rfl ?_
        rw [show wrp (((i : Nat) : Int) + 1) = ((i + 1 : Nat) : Int) from wrp_id (by omega) (by omega)]
        refine qG.blk 1 (pc' := 32) (ls' := [(2, 83), (2, 74), (0, ((i + 1 : Nat) : Int))]) (st' := []) (w' := (qup (qup wB 86 i (vwF w 2 (w 84) (w 85) i)) 83 7 (qor (asF w 2 (w 84) (w 85) i) (vwF w 2 (w 84) (w 85) i)))) (n' := 142) rfl ?_
        obtain ⟨wN, hwN⟩ : ∃ z : qW, z = (qup (qup wB 86 i (vwF w 2 (w 84) (w 85) i)) 83 7 (qor (asF w 2 (w 84) (w 85) i) (vwF w 2 (w 84) (w 85) i))) := ⟨_, rfl⟩
        rw [← hwN]
        have hIN : yInv zgf zga zra zSp wN := by rw [hwN]; exact zup_f (zup_a hIB (b := (0, 65535)) rfl rfl (vw_in hI hE (by decide))) (b := (0, 65535)) rfl rfl rfl (as_in hI hE (by decide) (i + 1))
        have hCN : CHP 83 2 w (w 84) (w 85) (i + 1) wN := by rw [hwN]; exact ⟨(by rw [qup_f (by omega), qup_f (by omega), hBo 83 4 (by omega)]; exact hA4), (by rw [qup_f (by omega), qup_f (by omega), hBo 83 5 (by omega)]; exact hA5), (by rw [qup_f (by omega), qup_f (by omega), hBo 83 6 (by omega)]; exact hA6), qup_k, (by rw [qup_f (by omega), qup_f (by omega)]; exact hB8), (by rw [qup_f (by omega), qup_f (by omega), hBo 83 9 (by omega)]; exact hA9), (fun t ht => (qup_f (by omega)).trans (if e : t = i then (by rw [e]; exact qup_k) else ((qup_j e).trans ((hBo 86 t (by omega)).trans ((tfr 86 t (by omega)).trans (cv t (by omega))))))), fun z j h1 h2 => (qup_f (by omega)).trans ((qup_f (by omega)).trans (hBw z j h1 h2))⟩
        exact ih32 _ (by omega) (i + 1) (wN) rfl (⟨by omega, hIN, hCN⟩)
      · exfalso; omega
    · skip
      refine qG.retv rfl rfl ?_
      subst hQ9
      exact ⟨rfl, rfl, hIS, by rw [show L = i by omega]; exact ⟨c4, c5, c6, c7, c8, c9, cv, hfr⟩⟩
  exact L32 _ (0) (w0) rfl (⟨Nat.zero_le _, hI0, hC0⟩)
theorem K_perf87_64 {d : Nat} (hd : 2 ≤ d) (L : Nat) (hL : L ≤ 40) (w : qW) (hI : yInv zgf zga zra zSp w) (hs : w 87 2 = (L : Int)) (hKN : KNr (w 88) (w 89) L) (hK : w 64 0 = w 96 0) (hE : JE w) : qG none d 111 0 [(2, 87), (2, 64), (9, 0)] [] w 142 (fun (r : qV) (w1 : qW) (n1 : Nat) => r = (9, 0) ∧ n1 = 142 ∧ yInv zgf zga zra zSp w1 ∧ CHP 87 0 w (w 88) (w 89) L w1) := by
  generalize hQ9 : (fun (r : qV) (w1 : qW) (n1 : Nat) => r = (9, 0) ∧ n1 = 142 ∧ yInv zgf zga zra zSp w1 ∧ CHP 87 0 w (w 88) (w 89) L w1) = Q9
  obtain ⟨d, rfl⟩ : ∃ d9, d = d9 + 1 := ⟨d - 1, by omega⟩
  refine qG.blk 12 (pc' := 20) (ls' := [(2, 87), (2, 64), (9, 0)]) (st' := []) (w' := (qup (qup (qup (qup w 87 4 0) 87 5 (-1)) 87 6 0) 87 7 0)) (n' := 142) rfl ?_
  refine qG.blk 8 (pc' := 32) (ls' := [(2, 87), (2, 64), (0, 0)]) (st' := []) (w' := (qup (qup (qup (qup (qup (qup w 87 4 0) 87 5 (-1)) 87 6 0) 87 7 0) 87 8 0) 87 9 0)) (n' := 142) rfl ?_
  obtain ⟨w0, hw0⟩ : ∃ z : qW, z = (qup (qup (qup (qup (qup (qup w 87 4 0) 87 5 (-1)) 87 6 0) 87 7 0) 87 8 0) 87 9 0) := ⟨_, rfl⟩
  rw [← hw0]
  have hI0 : yInv zgf zga zra zSp w0 := by rw [hw0]; exact zup_f (zup_f (zup_f (zup_f (zup_f (zup_f hI (b := (-2147483648, 2147483647)) rfl rfl rfl ⟨by decide, by decide⟩) (b := (-2147483648, 2147483647)) rfl rfl rfl ⟨by decide, by decide⟩) (b := (0, 1)) rfl rfl rfl ⟨by decide, by decide⟩) (b := (0, 65535)) rfl rfl rfl ⟨by decide, by decide⟩) (b := (0, 63)) rfl rfl rfl ⟨by decide, by decide⟩) (b := (-2147483648, 2147483647)) rfl rfl rfl ⟨by decide, by decide⟩
  have hC0 : CHP 87 0 w (w 88) (w 89) 0 w0 := by rw [hw0]; exact ⟨(qup_j (by decide)).trans ((qup_j (by decide)).trans ((qup_j (by decide)).trans ((qup_j (by decide)).trans ((qup_j (by decide)).trans (qup_k))))), (qup_j (by decide)).trans ((qup_j (by decide)).trans ((qup_j (by decide)).trans ((qup_j (by decide)).trans (qup_k)))), (qup_j (by decide)).trans ((qup_j (by decide)).trans ((qup_j (by decide)).trans (qup_k))), (qup_j (by decide)).trans ((qup_j (by decide)).trans (qup_k)), (qup_j (by decide)).trans (qup_k), qup_k, fun t ht => absurd ht (Nat.not_lt_zero t), fun z j h1 h2 => (qup_f (by omega)).trans ((qup_f (by omega)).trans ((qup_f (by omega)).trans ((qup_f (by omega)).trans ((qup_f (by omega)).trans (qup_f (by omega))))))⟩
  have L32 : ∀ (m9 : Nat) (i : Nat) (wS : qW), 40 - i = m9 → (i ≤ L ∧ yInv zgf zga zra zSp wS ∧ CHP 87 0 w (w 88) (w 89) i wS) → qG none (d + 1) 111 32 [(2, 87), (2, 64), (0, ((i : Nat) : Int))] [] wS 142 Q9 := by
    intro m9
    induction m9 using Nat.strongRecOn with
    | ind m9 ih32 =>
    intro i wS hm32 hI32
    obtain ⟨hiL, hIS, hC⟩ := hI32
    obtain ⟨c4, c5, c6, c7, c8, c9, cv, hfr⟩ := hC
    refine qG.blk 3 (pc' := 37) (ls' := [(2, 87), (2, 64), (0, ((i : Nat) : Int))]) (st' := [(0, wS 87 2), (0, ((i : Nat) : Int))]) (w' := wS) (n' := 142) rfl ?_
    rw [show wS 87 2 = ((L : Nat) : Int) from (hfr 87 2 (by decide) (by omega)).trans hs]
    refine qG.br (P := ((i : Nat) : Int) < ((L : Nat) : Int)) (pc1 := 40) (pc2 := 112) (st1 := []) rfl (fun hiL2 => ?_) (fun hiL2 => ?_)
    · skip
      refine qG.blk 2 (pc' := 43) (ls' := [(2, 87), (2, 64), (0, ((i : Nat) : Int))]) (st' := [(0, 40), (0, ((i : Nat) : Int))]) (w' := wS) (n' := 142) rfl ?_
      refine qG.br (P := ((i : Nat) : Int) < 40) (pc1 := 46) (pc2 := 112) (st1 := []) rfl (fun hi40 => ?_) (fun hi40 => ?_)
      · skip
        refine qG.blk 3 (pc' := 51) (ls' := [(2, 87), (2, 64), (0, ((i : Nat) : Int))]) (st' := [(2, wS 87 0), (2, 87)]) (w' := wS) (n' := 142) rfl ?_
        rw [show wS 87 0 = 88 from zref hIS rfl rfl]
        refine qG.blk 1 (pc' := 52) (ls' := [(2, 87), (2, 64), (0, ((i : Nat) : Int))]) (st' := [(0, ((i : Nat) : Int)), (2, 88), (2, 87)]) (w' := wS) (n' := 142) rfl ?_
        refine qG.ar (P := 0 ≤ ((i : Nat) : Int) ∧ ((i : Nat) : Int) < ((40 : Nat) : Int)) (P2 := 0 < (88 : Int) ∧ (88 : Int) ≤ ((142 : Nat) : Int)) (pc' := 53) (ls' := [(2, 87), (2, 64), (0, ((i : Nat) : Int))]) (st' := [(0, wS 88 i), (2, 87)]) (w' := wS) (n' := 142) rfl (by omega) (by decide) ?_
        rw [show wS 88 i = w 88 i from hfr 88 i (by decide) (by omega)]
        refine qG.blk 2 (pc' := 57) (ls' := [(2, 87), (2, 64), (0, ((i : Nat) : Int))]) (st' := [(2, wS 87 1), (0, w 88 i), (2, 87)]) (w' := wS) (n' := 142) rfl ?_
        rw [show wS 87 1 = 89 from zref hIS rfl rfl]
        refine qG.blk 1 (pc' := 58) (ls' := [(2, 87), (2, 64), (0, ((i : Nat) : Int))]) (st' := [(0, ((i : Nat) : Int)), (2, 89), (0, w 88 i), (2, 87)]) (w' := wS) (n' := 142) rfl ?_
        refine qG.ar (P := 0 ≤ ((i : Nat) : Int) ∧ ((i : Nat) : Int) < ((40 : Nat) : Int)) (P2 := 0 < (89 : Int) ∧ (89 : Int) ≤ ((142 : Nat) : Int)) (pc' := 59) (ls' := [(2, 87), (2, 64), (0, ((i : Nat) : Int))]) (st' := [(0, wS 89 i), (0, w 88 i), (2, 87)]) (w' := wS) (n' := 142) rfl (by omega) (by decide) ?_
        rw [show wS 89 i = w 89 i from hfr 89 i (by decide) (by omega)]
        refine qG.call (t := 112) (na := 3) (sk := 1) (md := 1) (ls1 := [(2, 87), (0, w 88 i), (0, w 89 i)]) (r1 := []) rfl rfl rfl rfl rfl (K_take87 (Nat.zero_le _) (w 88 i) (w 89 i) (hKN i (by omega)).1 (hI.2.1 89 i (-2147483648, 2147483647) rfl rfl) wS hIS) ?_
        rintro _ wA _ ⟨rfl, rfl, hIA, t4, t5, t6, t9, tfr⟩
        have hA4 : wA 87 4 = oF (w 88) (w 89) (i + 1) := by rw [t4, c4]; rfl
        have hA5 : wA 87 5 = caF (w 88) (w 89) (i + 1) := by rw [t5, c5]; rfl
        have hA6 : wA 87 6 = sdF (w 88) (i + 1) := by rw [t6, c6]; rfl
        have hA9 : wA 87 9 = tuF (w 88) (i + 1) := by rw [t9, c9]; rfl
        have hA8 : wA 87 8 = moF (w 88) (w 89) i := (tfr 87 8 (by omega)).trans c8
        have hA7 : wA 87 7 = asF w 0 (w 88) (w 89) i := (tfr 87 7 (by omega)).trans c7
        obtain ⟨m9, hm9, hm10⟩ := oF_n hKN (i + 1) (by omega)
        show qG none (d + 1) 111 62 [(2, 87), (2, 64), (0, ((i : Nat) : Int))] [] wA 142 Q9
        refine qG.blk 3 (pc' := 67) (ls' := [(2, 87), (2, 64), (0, ((i : Nat) : Int))]) (st' := [(0, wA 87 8), (2, 87)]) (w' := wA) (n' := 142) rfl ?_
        rw [show wA 87 8 = moF (w 88) (w 89) i from hA8]
        refine qG.blk 2 (pc' := 71) (ls' := [(2, 87), (2, 64), (0, ((i : Nat) : Int))]) (st' := [(0, wA 87 4), (0, moF (w 88) (w 89) i), (2, 87)]) (w' := wA) (n' := 142) rfl ?_
        rw [show wA 87 4 = oF (w 88) (w 89) (i + 1) from hA4]
        refine qG.call (t := 302) (na := 1) (sk := 0) (md := 0) (ls1 := [(0, oF (w 88) (w 89) (i + 1))]) (r1 := [(0, moF (w 88) (w 89) i), (2, 87)]) rfl rfl rfl rfl rfl (K_bcJ (Nat.zero_le _) (oF (w 88) (w 89) (i + 1)) (by rw [hm9]; omega) (by rw [hm9]; omega) _) ?_
        rintro _ w7 _ ⟨rfl, hw7, rfl⟩
        rw [hw7, show bitsF (oF (w 88) (w 89) (i + 1)) 30 = bitsF (oF (w 88) (w 89) (i + 1)) 16 from by rw [hm9, bitsF_n (by omega) 30 (by decide), bitsF_n (by omega) 16 (by decide), pcn_h (by omega)]]
        show qG none (d + 1) 111 74 [(2, 87), (2, 64), (0, ((i : Nat) : Int))] [(0, bitsF (oF (w 88) (w 89) (i + 1)) 16), (0, moF (w 88) (w 89) i), (2, 87)] wA 142 Q9
        refine qG.mth rfl rfl rfl rfl (pc' := 77) (ls' := [(2, 87), (2, 64), (0, ((i : Nat) : Int))]) (st' := [(0, (if moF (w 88) (w 89) i < bitsF (oF (w 88) (w 89) (i + 1)) 16 then bitsF (oF (w 88) (w 89) (i + 1)) 16 else moF (w 88) (w 89) i)), (2, 87)]) (w' := wA) (n' := 142) rfl ?_
        refine qG.blk 3 (pc' := 84) (ls' := [(2, 87), (2, 64), (0, ((i : Nat) : Int))]) (st' := [(2, wA 87 3)]) (w' := (qup wA 87 8 (if moF (w 88) (w 89) i < bitsF (oF (w 88) (w 89) (i + 1)) 16 then bitsF (oF (w 88) (w 89) (i + 1)) 16 else moF (w 88) (w 89) i))) (n' := 142) rfl ?_
        rw [show wA 87 3 = 90 from zref hIA rfl rfl]
        refine qG.blk 3 (pc' := 87) (ls' := [(2, 87), (2, 64), (0, ((i : Nat) : Int))]) (st' := [(2, 64), (2, 87), (0, ((i : Nat) : Int)), (2, 90)]) (w' := (qup wA 87 8 (if moF (w 88) (w 89) i < bitsF (oF (w 88) (w 89) (i + 1)) 16 then bitsF (oF (w 88) (w 89) (i + 1)) 16 else moF (w 88) (w 89) i))) (n' := 142) rfl ?_
        obtain ⟨wB, hwB⟩ : ∃ z : qW, z = (qup wA 87 8 (if moF (w 88) (w 89) i < bitsF (oF (w 88) (w 89) (i + 1)) 16 then bitsF (oF (w 88) (w 89) (i + 1)) 16 else moF (w 88) (w 89) i)) := ⟨_, rfl⟩
        rw [← hwB]
        have hIB : yInv zgf zga zra zSp wB := by rw [hwB]; exact zup_f hIA (b := (0, 63)) rfl rfl rfl (by have z := bitsF_in (oF (w 88) (w 89) (i + 1)) 16; have z2 := hIA.1 87 8 (0, 63) rfl rfl; rw [hA8] at z2; have z3 : (0 : Int) ≤ moF (w 88) (w 89) i := z2.1; have z4 : moF (w 88) (w 89) i ≤ (63 : Int) := z2.2; split <;> exact ⟨by show (0 : Int) ≤ _; omega, by show _ ≤ (63 : Int); omega⟩)
        have hB8 : wB 87 8 = moF (w 88) (w 89) (i + 1) := by rw [hwB, qup_k]; rfl
        have hBo : ∀ z j, ¬ (z = 87 ∧ j = 8) → wB z j = wA z j := fun z j h => by rw [hwB]; exact qup_f h
        have hB7 : wB 87 7 = asF w 0 (w 88) (w 89) i := (hBo 87 7 (by omega)).trans hA7
        have hBw : ∀ z j, z ≠ 90 → ¬ (z = 87 ∧ 4 ≤ j ∧ j ≤ 9) → wB z j = w z j := fun z j h1 h2 => (hBo z j (by omega)).trans ((tfr z j (by omega)).trans (hfr z j h1 h2))
        have hEB : JE wB := fun c2 d2 a b => by rw [hBw (66 + 5 * c2) d2 (by omega) (by omega), hBw (67 + 5 * c2) d2 (by omega) (by omega), hBw (68 + 5 * c2) d2 (by omega) (by omega), hBw 97 _ (by decide) (by omega), hBw 98 _ (by decide) (by omega), hBw 100 _ (by decide) (by omega)]; exact hE c2 d2 a b
        have hKB : wB 64 0 = wB 96 0 := by rw [hBw 64 0 (by decide) (by omega), hBw 96 0 (by decide) (by omega)]; exact hK
        have hvB : seG wB 0 (wB 87 4) (wB 87 5) (wB 87 6) 10 = vwF w 0 (w 88) (w 89) i := by rw [hBo 87 4 (by omega), hBo 87 5 (by omega), hBo 87 6 (by omega), hA4, hA5, hA6]; exact seG_cg (fun j => hBw 96 j (by decide) (by omega)) (fun j => hBw 97 j (by decide) (by omega)) (fun j => hBw 98 j (by decide) (by omega)) (fun j => hBw 100 j (by decide) (by omega)) 0 _ _ _ 10
        refine qG.call (t := 113) (na := 2) (sk := 1) (md := 1) (ls1 := [(2, 87), (2, 64), (9, 0), (9, 0)]) (r1 := [(0, ((i : Nat) : Int)), (2, 90)]) rfl rfl rfl rfl rfl (K_view87_64 (by omega) m9 hm10 wB hIB ((hBo 87 4 (by omega)).trans (hA4.trans hm9)) hKB hEB) ?_
        rintro _ w7 _ ⟨rfl, hw7, rfl⟩
        rw [hw7, hvB]
        show qG none (d + 1) 111 90 [(2, 87), (2, 64), (0, ((i : Nat) : Int))] [(0, vwF w 0 (w 88) (w 89) i), (0, ((i : Nat) : Int)), (2, 90)] wB 142 Q9
        refine qG.ar (P := 0 ≤ ((i : Nat) : Int) ∧ ((i : Nat) : Int) < ((40 : Nat) : Int)) (P2 := 0 < (90 : Int) ∧ (90 : Int) ≤ ((142 : Nat) : Int)) (pc' := 91) (ls' := [(2, 87), (2, 64), (0, ((i : Nat) : Int))]) (st' := []) (w' := (qup wB 90 i (vwF w 0 (w 88) (w 89) i))) (n' := 142) rfl (by omega) (by decide) ?_
        refine qG.blk 3 (pc' := 96) (ls' := [(2, 87), (2, 64), (0, ((i : Nat) : Int))]) (st' := [(0, wB 87 7), (2, 87)]) (w' := (qup wB 90 i (vwF w 0 (w 88) (w 89) i))) (n' := 142) rfl ?_
        rw [show wB 87 7 = asF w 0 (w 88) (w 89) i from hB7]
        refine qG.blk 2 (pc' := 100) (ls' := [(2, 87), (2, 64), (0, ((i : Nat) : Int))]) (st' := [(2, wB 87 3), (0, asF w 0 (w 88) (w 89) i), (2, 87)]) (w' := (qup wB 90 i (vwF w 0 (w 88) (w 89) i))) (n' := 142) rfl ?_
        rw [show wB 87 3 = 90 from zref hIB rfl rfl]
        refine qG.blk 1 (pc' := 101) (ls' := [(2, 87), (2, 64), (0, ((i : Nat) : Int))]) (st' := [(0, ((i : Nat) : Int)), (2, 90), (0, asF w 0 (w 88) (w 89) i), (2, 87)]) (w' := (qup wB 90 i (vwF w 0 (w 88) (w 89) i))) (n' := 142) rfl ?_
        refine qG.ar (P := 0 ≤ ((i : Nat) : Int) ∧ ((i : Nat) : Int) < ((40 : Nat) : Int)) (P2 := 0 < (90 : Int) ∧ (90 : Int) ≤ ((142 : Nat) : Int)) (pc' := 102) (ls' := [(2, 87), (2, 64), (0, ((i : Nat) : Int))]) (st' := [(0, (qup wB 90 i (vwF w 0 (w 88) (w 89) i)) 90 i), (0, asF w 0 (w 88) (w 89) i), (2, 87)]) (w' := (qup wB 90 i (vwF w 0 (w 88) (w 89) i))) (n' := 142) rfl (by omega) (by decide) ?_
        rw [show (qup wB 90 i (vwF w 0 (w 88) (w 89) i)) 90 i = vwF w 0 (w 88) (w 89) i from by simp (disch := decide) only [qup_ne, qup_k]]
        refine qG.blk 3 (pc' := 109) (ls' := [(2, 87), (2, 64), (0, wrp (((i : Nat) : Int) + 1))]) (st' := []) (w' := (qup (qup wB 90 i (vwF w 0 (w 88) (w 89) i)) 87 7 (qor (asF w 0 (w 88) (w 89) i) (vwF w 0 (w 88) (w 89) i)))) (n' := 142) rfl ?_
        rw [show wrp (((i : Nat) : Int) + 1) = ((i + 1 : Nat) : Int) from wrp_id (by omega) (by omega)]
        refine qG.blk 1 (pc' := 32) (ls' := [(2, 87), (2, 64), (0, ((i + 1 : Nat) : Int))]) (st' := []) (w' := (qup (qup wB 90 i (vwF w 0 (w 88) (w 89) i)) 87 7 (qor (asF w 0 (w 88) (w 89) i) (vwF w 0 (w 88) (w 89) i)))) (n' := 142) rfl ?_
        obtain ⟨wN, hwN⟩ : ∃ z : qW, z = (qup (qup wB 90 i (vwF w 0 (w 88) (w 89) i)) 87 7 (qor (asF w 0 (w 88) (w 89) i) (vwF w 0 (w 88) (w 89) i))) := ⟨_, rfl⟩
        rw [← hwN]
        have hIN : yInv zgf zga zra zSp wN := by rw [hwN]; exact zup_f (zup_a hIB (b := (0, 65535)) rfl rfl (vw_in hI hE (by decide))) (b := (0, 65535)) rfl rfl rfl (as_in hI hE (by decide) (i + 1))
        have hCN : CHP 87 0 w (w 88) (w 89) (i + 1) wN := by rw [hwN]; exact ⟨(by rw [qup_f (by omega), qup_f (by omega), hBo 87 4 (by omega)]; exact hA4), (by rw [qup_f (by omega), qup_f (by omega), hBo 87 5 (by omega)]; exact hA5), (by rw [qup_f (by omega), qup_f (by omega), hBo 87 6 (by omega)]; exact hA6), qup_k, (by rw [qup_f (by omega), qup_f (by omega)]; exact hB8), (by rw [qup_f (by omega), qup_f (by omega), hBo 87 9 (by omega)]; exact hA9), (fun t ht => (qup_f (by omega)).trans (if e : t = i then (by rw [e]; exact qup_k) else ((qup_j e).trans ((hBo 90 t (by omega)).trans ((tfr 90 t (by omega)).trans (cv t (by omega))))))), fun z j h1 h2 => (qup_f (by omega)).trans ((qup_f (by omega)).trans (hBw z j h1 h2))⟩
        exact ih32 _ (by omega) (i + 1) (wN) rfl (⟨by omega, hIN, hCN⟩)
      · exfalso; omega
    · skip
      refine qG.retv rfl rfl ?_
      subst hQ9
      exact ⟨rfl, rfl, hIS, by rw [show L = i by omega]; exact ⟨c4, c5, c6, c7, c8, c9, cv, hfr⟩⟩
  exact L32 _ (0) (w0) rfl (⟨Nat.zero_le _, hI0, hC0⟩)
theorem K_perf87_69 {d : Nat} (hd : 2 ≤ d) (L : Nat) (hL : L ≤ 40) (w : qW) (hI : yInv zgf zga zra zSp w) (hs : w 87 2 = (L : Int)) (hKN : KNr (w 88) (w 89) L) (hK : w 69 0 = w 96 1) (hE : JE w) : qG none d 111 0 [(2, 87), (2, 69), (9, 0)] [] w 142 (fun (r : qV) (w1 : qW) (n1 : Nat) => r = (9, 0) ∧ n1 = 142 ∧ yInv zgf zga zra zSp w1 ∧ CHP 87 1 w (w 88) (w 89) L w1) := by
  generalize hQ9 : (fun (r : qV) (w1 : qW) (n1 : Nat) => r = (9, 0) ∧ n1 = 142 ∧ yInv zgf zga zra zSp w1 ∧ CHP 87 1 w (w 88) (w 89) L w1) = Q9
  obtain ⟨d, rfl⟩ : ∃ d9, d = d9 + 1 := ⟨d - 1, by omega⟩
  refine qG.blk 12 (pc' := 20) (ls' := [(2, 87), (2, 69), (9, 0)]) (st' := []) (w' := (qup (qup (qup (qup w 87 4 0) 87 5 (-1)) 87 6 0) 87 7 0)) (n' := 142) rfl ?_
  refine qG.blk 8 (pc' := 32) (ls' := [(2, 87), (2, 69), (0, 0)]) (st' := []) (w' := (qup (qup (qup (qup (qup (qup w 87 4 0) 87 5 (-1)) 87 6 0) 87 7 0) 87 8 0) 87 9 0)) (n' := 142) rfl ?_
  obtain ⟨w0, hw0⟩ : ∃ z : qW, z = (qup (qup (qup (qup (qup (qup w 87 4 0) 87 5 (-1)) 87 6 0) 87 7 0) 87 8 0) 87 9 0) := ⟨_, rfl⟩
  rw [← hw0]
  have hI0 : yInv zgf zga zra zSp w0 := by rw [hw0]; exact zup_f (zup_f (zup_f (zup_f (zup_f (zup_f hI (b := (-2147483648, 2147483647)) rfl rfl rfl ⟨by decide, by decide⟩) (b := (-2147483648, 2147483647)) rfl rfl rfl ⟨by decide, by decide⟩) (b := (0, 1)) rfl rfl rfl ⟨by decide, by decide⟩) (b := (0, 65535)) rfl rfl rfl ⟨by decide, by decide⟩) (b := (0, 63)) rfl rfl rfl ⟨by decide, by decide⟩) (b := (-2147483648, 2147483647)) rfl rfl rfl ⟨by decide, by decide⟩
  have hC0 : CHP 87 1 w (w 88) (w 89) 0 w0 := by rw [hw0]; exact ⟨(qup_j (by decide)).trans ((qup_j (by decide)).trans ((qup_j (by decide)).trans ((qup_j (by decide)).trans ((qup_j (by decide)).trans (qup_k))))), (qup_j (by decide)).trans ((qup_j (by decide)).trans ((qup_j (by decide)).trans ((qup_j (by decide)).trans (qup_k)))), (qup_j (by decide)).trans ((qup_j (by decide)).trans ((qup_j (by decide)).trans (qup_k))), (qup_j (by decide)).trans ((qup_j (by decide)).trans (qup_k)), (qup_j (by decide)).trans (qup_k), qup_k, fun t ht => absurd ht (Nat.not_lt_zero t), fun z j h1 h2 => (qup_f (by omega)).trans ((qup_f (by omega)).trans ((qup_f (by omega)).trans ((qup_f (by omega)).trans ((qup_f (by omega)).trans (qup_f (by omega))))))⟩
  have L32 : ∀ (m9 : Nat) (i : Nat) (wS : qW), 40 - i = m9 → (i ≤ L ∧ yInv zgf zga zra zSp wS ∧ CHP 87 1 w (w 88) (w 89) i wS) → qG none (d + 1) 111 32 [(2, 87), (2, 69), (0, ((i : Nat) : Int))] [] wS 142 Q9 := by
    intro m9
    induction m9 using Nat.strongRecOn with
    | ind m9 ih32 =>
    intro i wS hm32 hI32
    obtain ⟨hiL, hIS, hC⟩ := hI32
    obtain ⟨c4, c5, c6, c7, c8, c9, cv, hfr⟩ := hC
    refine qG.blk 3 (pc' := 37) (ls' := [(2, 87), (2, 69), (0, ((i : Nat) : Int))]) (st' := [(0, wS 87 2), (0, ((i : Nat) : Int))]) (w' := wS) (n' := 142) rfl ?_
    rw [show wS 87 2 = ((L : Nat) : Int) from (hfr 87 2 (by decide) (by omega)).trans hs]
    refine qG.br (P := ((i : Nat) : Int) < ((L : Nat) : Int)) (pc1 := 40) (pc2 := 112) (st1 := []) rfl (fun hiL2 => ?_) (fun hiL2 => ?_)
    · skip
      refine qG.blk 2 (pc' := 43) (ls' := [(2, 87), (2, 69), (0, ((i : Nat) : Int))]) (st' := [(0, 40), (0, ((i : Nat) : Int))]) (w' := wS) (n' := 142) rfl ?_
      refine qG.br (P := ((i : Nat) : Int) < 40) (pc1 := 46) (pc2 := 112) (st1 := []) rfl (fun hi40 => ?_) (fun hi40 => ?_)
      · skip
        refine qG.blk 3 (pc' := 51) (ls' := [(2, 87), (2, 69), (0, ((i : Nat) : Int))]) (st' := [(2, wS 87 0), (2, 87)]) (w' := wS) (n' := 142) rfl ?_
        rw [show wS 87 0 = 88 from zref hIS rfl rfl]
        refine qG.blk 1 (pc' := 52) (ls' := [(2, 87), (2, 69), (0, ((i : Nat) : Int))]) (st' := [(0, ((i : Nat) : Int)), (2, 88), (2, 87)]) (w' := wS) (n' := 142) rfl ?_
        refine qG.ar (P := 0 ≤ ((i : Nat) : Int) ∧ ((i : Nat) : Int) < ((40 : Nat) : Int)) (P2 := 0 < (88 : Int) ∧ (88 : Int) ≤ ((142 : Nat) : Int)) (pc' := 53) (ls' := [(2, 87), (2, 69), (0, ((i : Nat) : Int))]) (st' := [(0, wS 88 i), (2, 87)]) (w' := wS) (n' := 142) rfl (by omega) (by decide) ?_
        rw [show wS 88 i = w 88 i from hfr 88 i (by decide) (by omega)]
        refine qG.blk 2 (pc' := 57) (ls' := [(2, 87), (2, 69), (0, ((i : Nat) : Int))]) (st' := [(2, wS 87 1), (0, w 88 i), (2, 87)]) (w' := wS) (n' := 142) rfl ?_
        rw [show wS 87 1 = 89 from zref hIS rfl rfl]
        refine qG.blk 1 (pc' := 58) (ls' := [(2, 87), (2, 69), (0, ((i : Nat) : Int))]) (st' := [(0, ((i : Nat) : Int)), (2, 89), (0, w 88 i), (2, 87)]) (w' := wS) (n' := 142) rfl ?_
        refine qG.ar (P := 0 ≤ ((i : Nat) : Int) ∧ ((i : Nat) : Int) < ((40 : Nat) : Int)) (P2 := 0 < (89 : Int) ∧ (89 : Int) ≤ ((142 : Nat) : Int)) (pc' := 59) (ls' := [(2, 87), (2, 69), (0, ((i : Nat) : Int))]) (st' := [(0, wS 89 i), (0, w 88 i), (2, 87)]) (w' := wS) (n' := 142) rfl (by omega) (by decide) ?_
        rw [show wS 89 i = w 89 i from hfr 89 i (by decide) (by omega)]
        refine qG.call (t := 112) (na := 3) (sk := 1) (md := 1) (ls1 := [(2, 87), (0, w 88 i), (0, w 89 i)]) (r1 := []) rfl rfl rfl rfl rfl (K_take87 (Nat.zero_le _) (w 88 i) (w 89 i) (hKN i (by omega)).1 (hI.2.1 89 i (-2147483648, 2147483647) rfl rfl) wS hIS) ?_
        rintro _ wA _ ⟨rfl, rfl, hIA, t4, t5, t6, t9, tfr⟩
        have hA4 : wA 87 4 = oF (w 88) (w 89) (i + 1) := by rw [t4, c4]; rfl
        have hA5 : wA 87 5 = caF (w 88) (w 89) (i + 1) := by rw [t5, c5]; rfl
        have hA6 : wA 87 6 = sdF (w 88) (i + 1) := by rw [t6, c6]; rfl
        have hA9 : wA 87 9 = tuF (w 88) (i + 1) := by rw [t9, c9]; rfl
        have hA8 : wA 87 8 = moF (w 88) (w 89) i := (tfr 87 8 (by omega)).trans c8
        have hA7 : wA 87 7 = asF w 1 (w 88) (w 89) i := (tfr 87 7 (by omega)).trans c7
        obtain ⟨m9, hm9, hm10⟩ := oF_n hKN (i + 1) (by omega)
        show qG none (d + 1) 111 62 [(2, 87), (2, 69), (0, ((i : Nat) : Int))] [] wA 142 Q9
        refine qG.blk 3 (pc' := 67) (ls' := [(2, 87), (2, 69), (0, ((i : Nat) : Int))]) (st' := [(0, wA 87 8), (2, 87)]) (w' := wA) (n' := 142) rfl ?_
        rw [show wA 87 8 = moF (w 88) (w 89) i from hA8]
        refine qG.blk 2 (pc' := 71) (ls' := [(2, 87), (2, 69), (0, ((i : Nat) : Int))]) (st' := [(0, wA 87 4), (0, moF (w 88) (w 89) i), (2, 87)]) (w' := wA) (n' := 142) rfl ?_
        rw [show wA 87 4 = oF (w 88) (w 89) (i + 1) from hA4]
        refine qG.call (t := 302) (na := 1) (sk := 0) (md := 0) (ls1 := [(0, oF (w 88) (w 89) (i + 1))]) (r1 := [(0, moF (w 88) (w 89) i), (2, 87)]) rfl rfl rfl rfl rfl (K_bcJ (Nat.zero_le _) (oF (w 88) (w 89) (i + 1)) (by rw [hm9]; omega) (by rw [hm9]; omega) _) ?_
        rintro _ w7 _ ⟨rfl, hw7, rfl⟩
        rw [hw7, show bitsF (oF (w 88) (w 89) (i + 1)) 30 = bitsF (oF (w 88) (w 89) (i + 1)) 16 from by rw [hm9, bitsF_n (by omega) 30 (by decide), bitsF_n (by omega) 16 (by decide), pcn_h (by omega)]]
        show qG none (d + 1) 111 74 [(2, 87), (2, 69), (0, ((i : Nat) : Int))] [(0, bitsF (oF (w 88) (w 89) (i + 1)) 16), (0, moF (w 88) (w 89) i), (2, 87)] wA 142 Q9
        refine qG.mth rfl rfl rfl rfl (pc' := 77) (ls' := [(2, 87), (2, 69), (0, ((i : Nat) : Int))]) (st' := [(0, (if moF (w 88) (w 89) i < bitsF (oF (w 88) (w 89) (i + 1)) 16 then bitsF (oF (w 88) (w 89) (i + 1)) 16 else moF (w 88) (w 89) i)), (2, 87)]) (w' := wA) (n' := 142) rfl ?_
        refine qG.blk 3 (pc' := 84) (ls' := [(2, 87), (2, 69), (0, ((i : Nat) : Int))]) (st' := [(2, wA 87 3)]) (w' := (qup wA 87 8 (if moF (w 88) (w 89) i < bitsF (oF (w 88) (w 89) (i + 1)) 16 then bitsF (oF (w 88) (w 89) (i + 1)) 16 else moF (w 88) (w 89) i))) (n' := 142) rfl ?_
        rw [show wA 87 3 = 90 from zref hIA rfl rfl]
        refine qG.blk 3 (pc' := 87) (ls' := [(2, 87), (2, 69), (0, ((i : Nat) : Int))]) (st' := [(2, 69), (2, 87), (0, ((i : Nat) : Int)), (2, 90)]) (w' := (qup wA 87 8 (if moF (w 88) (w 89) i < bitsF (oF (w 88) (w 89) (i + 1)) 16 then bitsF (oF (w 88) (w 89) (i + 1)) 16 else moF (w 88) (w 89) i))) (n' := 142) rfl ?_
        obtain ⟨wB, hwB⟩ : ∃ z : qW, z = (qup wA 87 8 (if moF (w 88) (w 89) i < bitsF (oF (w 88) (w 89) (i + 1)) 16 then bitsF (oF (w 88) (w 89) (i + 1)) 16 else moF (w 88) (w 89) i)) := ⟨_, rfl⟩
        rw [← hwB]
        have hIB : yInv zgf zga zra zSp wB := by rw [hwB]; exact zup_f hIA (b := (0, 63)) rfl rfl rfl (by have z := bitsF_in (oF (w 88) (w 89) (i + 1)) 16; have z2 := hIA.1 87 8 (0, 63) rfl rfl; rw [hA8] at z2; have z3 : (0 : Int) ≤ moF (w 88) (w 89) i := z2.1; have z4 : moF (w 88) (w 89) i ≤ (63 : Int) := z2.2; split <;> exact ⟨by show (0 : Int) ≤ _; omega, by show _ ≤ (63 : Int); omega⟩)
        have hB8 : wB 87 8 = moF (w 88) (w 89) (i + 1) := by rw [hwB, qup_k]; rfl
        have hBo : ∀ z j, ¬ (z = 87 ∧ j = 8) → wB z j = wA z j := fun z j h => by rw [hwB]; exact qup_f h
        have hB7 : wB 87 7 = asF w 1 (w 88) (w 89) i := (hBo 87 7 (by omega)).trans hA7
        have hBw : ∀ z j, z ≠ 90 → ¬ (z = 87 ∧ 4 ≤ j ∧ j ≤ 9) → wB z j = w z j := fun z j h1 h2 => (hBo z j (by omega)).trans ((tfr z j (by omega)).trans (hfr z j h1 h2))
        have hEB : JE wB := fun c2 d2 a b => by rw [hBw (66 + 5 * c2) d2 (by omega) (by omega), hBw (67 + 5 * c2) d2 (by omega) (by omega), hBw (68 + 5 * c2) d2 (by omega) (by omega), hBw 97 _ (by decide) (by omega), hBw 98 _ (by decide) (by omega), hBw 100 _ (by decide) (by omega)]; exact hE c2 d2 a b
        have hKB : wB 69 0 = wB 96 1 := by rw [hBw 69 0 (by decide) (by omega), hBw 96 1 (by decide) (by omega)]; exact hK
        have hvB : seG wB 1 (wB 87 4) (wB 87 5) (wB 87 6) 10 = vwF w 1 (w 88) (w 89) i := by rw [hBo 87 4 (by omega), hBo 87 5 (by omega), hBo 87 6 (by omega), hA4, hA5, hA6]; exact seG_cg (fun j => hBw 96 j (by decide) (by omega)) (fun j => hBw 97 j (by decide) (by omega)) (fun j => hBw 98 j (by decide) (by omega)) (fun j => hBw 100 j (by decide) (by omega)) 1 _ _ _ 10
        refine qG.call (t := 113) (na := 2) (sk := 1) (md := 1) (ls1 := [(2, 87), (2, 69), (9, 0), (9, 0)]) (r1 := [(0, ((i : Nat) : Int)), (2, 90)]) rfl rfl rfl rfl rfl (K_view87_69 (by omega) m9 hm10 wB hIB ((hBo 87 4 (by omega)).trans (hA4.trans hm9)) hKB hEB) ?_
        rintro _ w7 _ ⟨rfl, hw7, rfl⟩
        rw [hw7, hvB]
        show qG none (d + 1) 111 90 [(2, 87), (2, 69), (0, ((i : Nat) : Int))] [(0, vwF w 1 (w 88) (w 89) i), (0, ((i : Nat) : Int)), (2, 90)] wB 142 Q9
        refine qG.ar (P := 0 ≤ ((i : Nat) : Int) ∧ ((i : Nat) : Int) < ((40 : Nat) : Int)) (P2 := 0 < (90 : Int) ∧ (90 : Int) ≤ ((142 : Nat) : Int)) (pc' := 91) (ls' := [(2, 87), (2, 69), (0, ((i : Nat) : Int))]) (st' := []) (w' := (qup wB 90 i (vwF w 1 (w 88) (w 89) i))) (n' := 142) rfl (by omega) (by decide) ?_
        refine qG.blk 3 (pc' := 96) (ls' := [(2, 87), (2, 69), (0, ((i : Nat) : Int))]) (st' := [(0, wB 87 7), (2, 87)]) (w' := (qup wB 90 i (vwF w 1 (w 88) (w 89) i))) (n' := 142) rfl ?_
        rw [show wB 87 7 = asF w 1 (w 88) (w 89) i from hB7]
        refine qG.blk 2 (pc' := 100) (ls' := [(2, 87), (2, 69), (0, ((i : Nat) : Int))]) (st' := [(2, wB 87 3), (0, asF w 1 (w 88) (w 89) i), (2, 87)]) (w' := (qup wB 90 i (vwF w 1 (w 88) (w 89) i))) (n' := 142) rfl ?_
        rw [show wB 87 3 = 90 from zref hIB rfl rfl]
        refine qG.blk 1 (pc' := 101) (ls' := [(2, 87), (2, 69), (0, ((i : Nat) : Int))]) (st' := [(0, ((i : Nat) : Int)), (2, 90), (0, asF w 1 (w 88) (w 89) i), (2, 87)]) (w' := (qup wB 90 i (vwF w 1 (w 88) (w 89) i))) (n' := 142) rfl ?_
        refine qG.ar (P := 0 ≤ ((i : Nat) : Int) ∧ ((i : Nat) : Int) < ((40 : Nat) : Int)) (P2 := 0 < (90 : Int) ∧ (90 : Int) ≤ ((142 : Nat) : Int)) (pc' := 102) (ls' := [(2, 87), (2, 69), (0, ((i : Nat) : Int))]) (st' := [(0, (qup wB 90 i (vwF w 1 (w 88) (w 89) i)) 90 i), (0, asF w 1 (w 88) (w 89) i), (2, 87)]) (w' := (qup wB 90 i (vwF w 1 (w 88) (w 89) i))) (n' := 142) rfl (by omega) (by decide) ?_
        rw [show (qup wB 90 i (vwF w 1 (w 88) (w 89) i)) 90 i = vwF w 1 (w 88) (w 89) i from by simp (disch := decide) only [qup_ne, qup_k]]
        refine qG.blk 3 (pc' := 109) (ls' := [(2, 87), (2, 69), (0, wrp (((i : Nat) : Int) + 1))]) (st' := []) (w' := (qup (qup wB 90 i (vwF w 1 (w 88) (w 89) i)) 87 7 (qor (asF w 1 (w 88) (w 89) i) (vwF w 1 (w 88) (w 89) i)))) (n' := 142) rfl ?_
        rw [show wrp (((i : Nat) : Int) + 1) = ((i + 1 : Nat) : Int) from wrp_id (by omega) (by omega)]
        refine qG.blk 1 (pc' := 32) (ls' := [(2, 87), (2, 69), (0, ((i + 1 : Nat) : Int))]) (st' := []) (w' := (qup (qup wB 90 i (vwF w 1 (w 88) (w 89) i)) 87 7 (qor (asF w 1 (w 88) (w 89) i) (vwF w 1 (w 88) (w 89) i)))) (n' := 142) rfl ?_
        obtain ⟨wN, hwN⟩ : ∃ z : qW, z = (qup (qup wB 90 i (vwF w 1 (w 88) (w 89) i)) 87 7 (qor (asF w 1 (w 88) (w 89) i) (vwF w 1 (w 88) (w 89) i))) := ⟨_, rfl⟩
        rw [← hwN]
        have hIN : yInv zgf zga zra zSp wN := by rw [hwN]; exact zup_f (zup_a hIB (b := (0, 65535)) rfl rfl (vw_in hI hE (by decide))) (b := (0, 65535)) rfl rfl rfl (as_in hI hE (by decide) (i + 1))
        have hCN : CHP 87 1 w (w 88) (w 89) (i + 1) wN := by rw [hwN]; exact ⟨(by rw [qup_f (by omega), qup_f (by omega), hBo 87 4 (by omega)]; exact hA4), (by rw [qup_f (by omega), qup_f (by omega), hBo 87 5 (by omega)]; exact hA5), (by rw [qup_f (by omega), qup_f (by omega), hBo 87 6 (by omega)]; exact hA6), qup_k, (by rw [qup_f (by omega), qup_f (by omega)]; exact hB8), (by rw [qup_f (by omega), qup_f (by omega), hBo 87 9 (by omega)]; exact hA9), (fun t ht => (qup_f (by omega)).trans (if e : t = i then (by rw [e]; exact qup_k) else ((qup_j e).trans ((hBo 90 t (by omega)).trans ((tfr 90 t (by omega)).trans (cv t (by omega))))))), fun z j h1 h2 => (qup_f (by omega)).trans ((qup_f (by omega)).trans (hBw z j h1 h2))⟩
        exact ih32 _ (by omega) (i + 1) (wN) rfl (⟨by omega, hIN, hCN⟩)
      · exfalso; omega
    · skip
      refine qG.retv rfl rfl ?_
      subst hQ9
      exact ⟨rfl, rfl, hIS, by rw [show L = i by omega]; exact ⟨c4, c5, c6, c7, c8, c9, cv, hfr⟩⟩
  exact L32 _ (0) (w0) rfl (⟨Nat.zero_le _, hI0, hC0⟩)
theorem K_perf87_74 {d : Nat} (hd : 2 ≤ d) (L : Nat) (hL : L ≤ 40) (w : qW) (hI : yInv zgf zga zra zSp w) (hs : w 87 2 = (L : Int)) (hKN : KNr (w 88) (w 89) L) (hK : w 74 0 = w 96 2) (hE : JE w) : qG none d 111 0 [(2, 87), (2, 74), (9, 0)] [] w 142 (fun (r : qV) (w1 : qW) (n1 : Nat) => r = (9, 0) ∧ n1 = 142 ∧ yInv zgf zga zra zSp w1 ∧ CHP 87 2 w (w 88) (w 89) L w1) := by
  generalize hQ9 : (fun (r : qV) (w1 : qW) (n1 : Nat) => r = (9, 0) ∧ n1 = 142 ∧ yInv zgf zga zra zSp w1 ∧ CHP 87 2 w (w 88) (w 89) L w1) = Q9
  obtain ⟨d, rfl⟩ : ∃ d9, d = d9 + 1 := ⟨d - 1, by omega⟩
  refine qG.blk 12 (pc' := 20) (ls' := [(2, 87), (2, 74), (9, 0)]) (st' := []) (w' := (qup (qup (qup (qup w 87 4 0) 87 5 (-1)) 87 6 0) 87 7 0)) (n' := 142) rfl ?_
  refine qG.blk 8 (pc' := 32) (ls' := [(2, 87), (2, 74), (0, 0)]) (st' := []) (w' := (qup (qup (qup (qup (qup (qup w 87 4 0) 87 5 (-1)) 87 6 0) 87 7 0) 87 8 0) 87 9 0)) (n' := 142) rfl ?_
  obtain ⟨w0, hw0⟩ : ∃ z : qW, z = (qup (qup (qup (qup (qup (qup w 87 4 0) 87 5 (-1)) 87 6 0) 87 7 0) 87 8 0) 87 9 0) := ⟨_, rfl⟩
  rw [← hw0]
  have hI0 : yInv zgf zga zra zSp w0 := by rw [hw0]; exact zup_f (zup_f (zup_f (zup_f (zup_f (zup_f hI (b := (-2147483648, 2147483647)) rfl rfl rfl ⟨by decide, by decide⟩) (b := (-2147483648, 2147483647)) rfl rfl rfl ⟨by decide, by decide⟩) (b := (0, 1)) rfl rfl rfl ⟨by decide, by decide⟩) (b := (0, 65535)) rfl rfl rfl ⟨by decide, by decide⟩) (b := (0, 63)) rfl rfl rfl ⟨by decide, by decide⟩) (b := (-2147483648, 2147483647)) rfl rfl rfl ⟨by decide, by decide⟩
  have hC0 : CHP 87 2 w (w 88) (w 89) 0 w0 := by rw [hw0]; exact ⟨(qup_j (by decide)).trans ((qup_j (by decide)).trans ((qup_j (by decide)).trans ((qup_j (by decide)).trans ((qup_j (by decide)).trans (qup_k))))), (qup_j (by decide)).trans ((qup_j (by decide)).trans ((qup_j (by decide)).trans ((qup_j (by decide)).trans (qup_k)))), (qup_j (by decide)).trans ((qup_j (by decide)).trans ((qup_j (by decide)).trans (qup_k))), (qup_j (by decide)).trans ((qup_j (by decide)).trans (qup_k)), (qup_j (by decide)).trans (qup_k), qup_k, fun t ht => absurd ht (Nat.not_lt_zero t), fun z j h1 h2 => (qup_f (by omega)).trans ((qup_f (by omega)).trans ((qup_f (by omega)).trans ((qup_f (by omega)).trans ((qup_f (by omega)).trans (qup_f (by omega))))))⟩
  have L32 : ∀ (m9 : Nat) (i : Nat) (wS : qW), 40 - i = m9 → (i ≤ L ∧ yInv zgf zga zra zSp wS ∧ CHP 87 2 w (w 88) (w 89) i wS) → qG none (d + 1) 111 32 [(2, 87), (2, 74), (0, ((i : Nat) : Int))] [] wS 142 Q9 := by
    intro m9
    induction m9 using Nat.strongRecOn with
    | ind m9 ih32 =>
    intro i wS hm32 hI32
    obtain ⟨hiL, hIS, hC⟩ := hI32
    obtain ⟨c4, c5, c6, c7, c8, c9, cv, hfr⟩ := hC
    refine qG.blk 3 (pc' := 37) (ls' := [(2, 87), (2, 74), (0, ((i : Nat) : Int))]) (st' := [(0, wS 87 2), (0, ((i : Nat) : Int))]) (w' := wS) (n' := 142) rfl ?_
    rw [show wS 87 2 = ((L : Nat) : Int) from (hfr 87 2 (by decide) (by omega)).trans hs]
    refine qG.br (P := ((i : Nat) : Int) < ((L : Nat) : Int)) (pc1 := 40) (pc2 := 112) (st1 := []) rfl (fun hiL2 => ?_) (fun hiL2 => ?_)
    · skip
      refine qG.blk 2 (pc' := 43) (ls' := [(2, 87), (2, 74), (0, ((i : Nat) : Int))]) (st' := [(0, 40), (0, ((i : Nat) : Int))]) (w' := wS) (n' := 142) rfl ?_
      refine qG.br (P := ((i : Nat) : Int) < 40) (pc1 := 46) (pc2 := 112) (st1 := []) rfl (fun hi40 => ?_) (fun hi40 => ?_)
      · skip
        refine qG.blk 3 (pc' := 51) (ls' := [(2, 87), (2, 74), (0, ((i : Nat) : Int))]) (st' := [(2, wS 87 0), (2, 87)]) (w' := wS) (n' := 142) rfl ?_
        rw [show wS 87 0 = 88 from zref hIS rfl rfl]
        refine qG.blk 1 (pc' := 52) (ls' := [(2, 87), (2, 74), (0, ((i : Nat) : Int))]) (st' := [(0, ((i : Nat) : Int)), (2, 88), (2, 87)]) (w' := wS) (n' := 142) rfl ?_
        refine qG.ar (P := 0 ≤ ((i : Nat) : Int) ∧ ((i : Nat) : Int) < ((40 : Nat) : Int)) (P2 := 0 < (88 : Int) ∧ (88 : Int) ≤ ((142 : Nat) : Int)) (pc' := 53) (ls' := [(2, 87), (2, 74), (0, ((i : Nat) : Int))]) (st' := [(0, wS 88 i), (2, 87)]) (w' := wS) (n' := 142) rfl (by omega) (by decide) ?_
        rw [show wS 88 i = w 88 i from hfr 88 i (by decide) (by omega)]
        refine qG.blk 2 (pc' := 57) (ls' := [(2, 87), (2, 74), (0, ((i : Nat) : Int))]) (st' := [(2, wS 87 1), (0, w 88 i), (2, 87)]) (w' := wS) (n' := 142) rfl ?_
        rw [show wS 87 1 = 89 from zref hIS rfl rfl]
        refine qG.blk 1 (pc' := 58) (ls' := [(2, 87), (2, 74), (0, ((i : Nat) : Int))]) (st' := [(0, ((i : Nat) : Int)), (2, 89), (0, w 88 i), (2, 87)]) (w' := wS) (n' := 142) rfl ?_
        refine qG.ar (P := 0 ≤ ((i : Nat) : Int) ∧ ((i : Nat) : Int) < ((40 : Nat) : Int)) (P2 := 0 < (89 : Int) ∧ (89 : Int) ≤ ((142 : Nat) : Int)) (pc' := 59) (ls' := [(2, 87), (2, 74), (0, ((i : Nat) : Int))]) (st' := [(0, wS 89 i), (0, w 88 i), (2, 87)]) (w' := wS) (n' := 142) rfl (by omega) (by decide) ?_
        rw [show wS 89 i = w 89 i from hfr 89 i (by decide) (by omega)]
        refine qG.call (t := 112) (na := 3) (sk := 1) (md := 1) (ls1 := [(2, 87), (0, w 88 i), (0, w 89 i)]) (r1 := []) rfl rfl rfl rfl rfl (K_take87 (Nat.zero_le _) (w 88 i) (w 89 i) (hKN i (by omega)).1 (hI.2.1 89 i (-2147483648, 2147483647) rfl rfl) wS hIS) ?_
        rintro _ wA _ ⟨rfl, rfl, hIA, t4, t5, t6, t9, tfr⟩
        have hA4 : wA 87 4 = oF (w 88) (w 89) (i + 1) := by rw [t4, c4]; rfl
        have hA5 : wA 87 5 = caF (w 88) (w 89) (i + 1) := by rw [t5, c5]; rfl
        have hA6 : wA 87 6 = sdF (w 88) (i + 1) := by rw [t6, c6]; rfl
        have hA9 : wA 87 9 = tuF (w 88) (i + 1) := by rw [t9, c9]; rfl
        have hA8 : wA 87 8 = moF (w 88) (w 89) i := (tfr 87 8 (by omega)).trans c8
        have hA7 : wA 87 7 = asF w 2 (w 88) (w 89) i := (tfr 87 7 (by omega)).trans c7
        obtain ⟨m9, hm9, hm10⟩ := oF_n hKN (i + 1) (by omega)
        show qG none (d + 1) 111 62 [(2, 87), (2, 74), (0, ((i : Nat) : Int))] [] wA 142 Q9
        refine qG.blk 3 (pc' := 67) (ls' := [(2, 87), (2, 74), (0, ((i : Nat) : Int))]) (st' := [(0, wA 87 8), (2, 87)]) (w' := wA) (n' := 142) rfl ?_
        rw [show wA 87 8 = moF (w 88) (w 89) i from hA8]
        refine qG.blk 2 (pc' := 71) (ls' := [(2, 87), (2, 74), (0, ((i : Nat) : Int))]) (st' := [(0, wA 87 4), (0, moF (w 88) (w 89) i), (2, 87)]) (w' := wA) (n' := 142) rfl ?_
        rw [show wA 87 4 = oF (w 88) (w 89) (i + 1) from hA4]
        refine qG.call (t := 302) (na := 1) (sk := 0) (md := 0) (ls1 := [(0, oF (w 88) (w 89) (i + 1))]) (r1 := [(0, moF (w 88) (w 89) i), (2, 87)]) rfl rfl rfl rfl rfl (K_bcJ (Nat.zero_le _) (oF (w 88) (w 89) (i + 1)) (by rw [hm9]; omega) (by rw [hm9]; omega) _) ?_
        rintro _ w7 _ ⟨rfl, hw7, rfl⟩
        rw [hw7, show bitsF (oF (w 88) (w 89) (i + 1)) 30 = bitsF (oF (w 88) (w 89) (i + 1)) 16 from by rw [hm9, bitsF_n (by omega) 30 (by decide), bitsF_n (by omega) 16 (by decide), pcn_h (by omega)]]
        show qG none (d + 1) 111 74 [(2, 87), (2, 74), (0, ((i : Nat) : Int))] [(0, bitsF (oF (w 88) (w 89) (i + 1)) 16), (0, moF (w 88) (w 89) i), (2, 87)] wA 142 Q9
        refine qG.mth rfl rfl rfl rfl (pc' := 77) (ls' := [(2, 87), (2, 74), (0, ((i : Nat) : Int))]) (st' := [(0, (if moF (w 88) (w 89) i < bitsF (oF (w 88) (w 89) (i + 1)) 16 then bitsF (oF (w 88) (w 89) (i + 1)) 16 else moF (w 88) (w 89) i)), (2, 87)]) (w' := wA) (n' := 142) rfl ?_
        refine qG.blk 3 (pc' := 84) (ls' := [(2, 87), (2, 74), (0, ((i : Nat) : Int))]) (st' := [(2, wA 87 3)]) (w' := (qup wA 87 8 (if moF (w 88) (w 89) i < bitsF (oF (w 88) (w 89) (i + 1)) 16 then bitsF (oF (w 88) (w 89) (i + 1)) 16 else moF (w 88) (w 89) i))) (n' := 142) rfl ?_
        rw [show wA 87 3 = 90 from zref hIA rfl rfl]
        refine qG.blk 3 (pc' := 87) (ls' := [(2, 87), (2, 74), (0, ((i : Nat) : Int))]) (st' := [(2, 74), (2, 87), (0, ((i : Nat) : Int)), (2, 90)]) (w' := (qup wA 87 8 (if moF (w 88) (w 89) i < bitsF (oF (w 88) (w 89) (i + 1)) 16 then bitsF (oF (w 88) (w 89) (i + 1)) 16 else moF (w 88) (w 89) i))) (n' := 142) rfl ?_
        obtain ⟨wB, hwB⟩ : ∃ z : qW, z = (qup wA 87 8 (if moF (w 88) (w 89) i < bitsF (oF (w 88) (w 89) (i + 1)) 16 then bitsF (oF (w 88) (w 89) (i + 1)) 16 else moF (w 88) (w 89) i)) := ⟨_, rfl⟩
        rw [← hwB]
        have hIB : yInv zgf zga zra zSp wB := by rw [hwB]; exact zup_f hIA (b := (0, 63)) rfl rfl rfl (by have z := bitsF_in (oF (w 88) (w 89) (i + 1)) 16; have z2 := hIA.1 87 8 (0, 63) rfl rfl; rw [hA8] at z2; have z3 : (0 : Int) ≤ moF (w 88) (w 89) i := z2.1; have z4 : moF (w 88) (w 89) i ≤ (63 : Int) := z2.2; split <;> exact ⟨by show (0 : Int) ≤ _; omega, by show _ ≤ (63 : Int); omega⟩)
        have hB8 : wB 87 8 = moF (w 88) (w 89) (i + 1) := by rw [hwB, qup_k]; rfl
        have hBo : ∀ z j, ¬ (z = 87 ∧ j = 8) → wB z j = wA z j := fun z j h => by rw [hwB]; exact qup_f h
        have hB7 : wB 87 7 = asF w 2 (w 88) (w 89) i := (hBo 87 7 (by omega)).trans hA7
        have hBw : ∀ z j, z ≠ 90 → ¬ (z = 87 ∧ 4 ≤ j ∧ j ≤ 9) → wB z j = w z j := fun z j h1 h2 => (hBo z j (by omega)).trans ((tfr z j (by omega)).trans (hfr z j h1 h2))
        have hEB : JE wB := fun c2 d2 a b => by rw [hBw (66 + 5 * c2) d2 (by omega) (by omega), hBw (67 + 5 * c2) d2 (by omega) (by omega), hBw (68 + 5 * c2) d2 (by omega) (by omega), hBw 97 _ (by decide) (by omega), hBw 98 _ (by decide) (by omega), hBw 100 _ (by decide) (by omega)]; exact hE c2 d2 a b
        have hKB : wB 74 0 = wB 96 2 := by rw [hBw 74 0 (by decide) (by omega), hBw 96 2 (by decide) (by omega)]; exact hK
        have hvB : seG wB 2 (wB 87 4) (wB 87 5) (wB 87 6) 10 = vwF w 2 (w 88) (w 89) i := by rw [hBo 87 4 (by omega), hBo 87 5 (by omega), hBo 87 6 (by omega), hA4, hA5, hA6]; exact seG_cg (fun j => hBw 96 j (by decide) (by omega)) (fun j => hBw 97 j (by decide) (by omega)) (fun j => hBw 98 j (by decide) (by omega)) (fun j => hBw 100 j (by decide) (by omega)) 2 _ _ _ 10
        refine qG.call (t := 113) (na := 2) (sk := 1) (md := 1) (ls1 := [(2, 87), (2, 74), (9, 0), (9, 0)]) (r1 := [(0, ((i : Nat) : Int)), (2, 90)]) rfl rfl rfl rfl rfl (K_view87_74 (by omega) m9 hm10 wB hIB ((hBo 87 4 (by omega)).trans (hA4.trans hm9)) hKB hEB) ?_
        rintro _ w7 _ ⟨rfl, hw7, rfl⟩
        rw [hw7, hvB]
        show qG none (d + 1) 111 90 [(2, 87), (2, 74), (0, ((i : Nat) : Int))] [(0, vwF w 2 (w 88) (w 89) i), (0, ((i : Nat) : Int)), (2, 90)] wB 142 Q9
        refine qG.ar (P := 0 ≤ ((i : Nat) : Int) ∧ ((i : Nat) : Int) < ((40 : Nat) : Int)) (P2 := 0 < (90 : Int) ∧ (90 : Int) ≤ ((142 : Nat) : Int)) (pc' := 91) (ls' := [(2, 87), (2, 74), (0, ((i : Nat) : Int))]) (st' := []) (w' := (qup wB 90 i (vwF w 2 (w 88) (w 89) i))) (n' := 142) rfl (by omega) (by decide) ?_
        refine qG.blk 3 (pc' := 96) (ls' := [(2, 87), (2, 74), (0, ((i : Nat) : Int))]) (st' := [(0, wB 87 7), (2, 87)]) (w' := (qup wB 90 i (vwF w 2 (w 88) (w 89) i))) (n' := 142) rfl ?_
        rw [show wB 87 7 = asF w 2 (w 88) (w 89) i from hB7]
        refine qG.blk 2 (pc' := 100) (ls' := [(2, 87), (2, 74), (0, ((i : Nat) : Int))]) (st' := [(2, wB 87 3), (0, asF w 2 (w 88) (w 89) i), (2, 87)]) (w' := (qup wB 90 i (vwF w 2 (w 88) (w 89) i))) (n' := 142) rfl ?_
        rw [show wB 87 3 = 90 from zref hIB rfl rfl]
        refine qG.blk 1 (pc' := 101) (ls' := [(2, 87), (2, 74), (0, ((i : Nat) : Int))]) (st' := [(0, ((i : Nat) : Int)), (2, 90), (0, asF w 2 (w 88) (w 89) i), (2, 87)]) (w' := (qup wB 90 i (vwF w 2 (w 88) (w 89) i))) (n' := 142) rfl ?_
        refine qG.ar (P := 0 ≤ ((i : Nat) : Int) ∧ ((i : Nat) : Int) < ((40 : Nat) : Int)) (P2 := 0 < (90 : Int) ∧ (90 : Int) ≤ ((142 : Nat) : Int)) (pc' := 102) (ls' := [(2, 87), (2, 74), (0, ((i : Nat) : Int))]) (st' := [(0, (qup wB 90 i (vwF w 2 (w 88) (w 89) i)) 90 i), (0, asF w 2 (w 88) (w 89) i), (2, 87)]) (w' := (qup wB 90 i (vwF w 2 (w 88) (w 89) i))) (n' := 142) rfl (by omega) (by decide) ?_
        rw [show (qup wB 90 i (vwF w 2 (w 88) (w 89) i)) 90 i = vwF w 2 (w 88) (w 89) i from by simp (disch := decide) only [qup_ne, qup_k]]
        refine qG.blk 3 (pc' := 109) (ls' := [(2, 87), (2, 74), (0, wrp (((i : Nat) : Int) + 1))]) (st' := []) (w' := (qup (qup wB 90 i (vwF w 2 (w 88) (w 89) i)) 87 7 (qor (asF w 2 (w 88) (w 89) i) (vwF w 2 (w 88) (w 89) i)))) (n' := 142) rfl ?_
        rw [show wrp (((i : Nat) : Int) + 1) = ((i + 1 : Nat) : Int) from wrp_id (by omega) (by omega)]
        refine qG.blk 1 (pc' := 32) (ls' := [(2, 87), (2, 74), (0, ((i + 1 : Nat) : Int))]) (st' := []) (w' := (qup (qup wB 90 i (vwF w 2 (w 88) (w 89) i)) 87 7 (qor (asF w 2 (w 88) (w 89) i) (vwF w 2 (w 88) (w 89) i)))) (n' := 142) rfl ?_
        obtain ⟨wN, hwN⟩ : ∃ z : qW, z = (qup (qup wB 90 i (vwF w 2 (w 88) (w 89) i)) 87 7 (qor (asF w 2 (w 88) (w 89) i) (vwF w 2 (w 88) (w 89) i))) := ⟨_, rfl⟩
        rw [← hwN]
        have hIN : yInv zgf zga zra zSp wN := by rw [hwN]; exact zup_f (zup_a hIB (b := (0, 65535)) rfl rfl (vw_in hI hE (by decide))) (b := (0, 65535)) rfl rfl rfl (as_in hI hE (by decide) (i + 1))
        have hCN : CHP 87 2 w (w 88) (w 89) (i + 1) wN := by rw [hwN]; exact ⟨(by rw [qup_f (by omega), qup_f (by omega), hBo 87 4 (by omega)]; exact hA4), (by rw [qup_f (by omega), qup_f (by omega), hBo 87 5 (by omega)]; exact hA5), (by rw [qup_f (by omega), qup_f (by omega), hBo 87 6 (by omega)]; exact hA6), qup_k, (by rw [qup_f (by omega), qup_f (by omega)]; exact hB8), (by rw [qup_f (by omega), qup_f (by omega), hBo 87 9 (by omega)]; exact hA9), (fun t ht => (qup_f (by omega)).trans (if e : t = i then (by rw [e]; exact qup_k) else ((qup_j e).trans ((hBo 90 t (by omega)).trans ((tfr 90 t (by omega)).trans (cv t (by omega))))))), fun z j h1 h2 => (qup_f (by omega)).trans ((qup_f (by omega)).trans (hBw z j h1 h2))⟩
        exact ih32 _ (by omega) (i + 1) (wN) rfl (⟨by omega, hIN, hCN⟩)
      · exfalso; omega
    · skip
      refine qG.retv rfl rfl ?_
      subst hQ9
      exact ⟨rfl, rfl, hIS, by rw [show L = i by omega]; exact ⟨c4, c5, c6, c7, c8, c9, cv, hfr⟩⟩
  exact L32 _ (0) (w0) rfl (⟨Nat.zero_le _, hI0, hC0⟩)
theorem K_perf91_64 {d : Nat} (hd : 2 ≤ d) (L : Nat) (hL : L ≤ 40) (w : qW) (hI : yInv zgf zga zra zSp w) (hs : w 91 2 = (L : Int)) (hKN : KNr (w 92) (w 93) L) (hK : w 64 0 = w 96 0) (hE : JE w) : qG none d 111 0 [(2, 91), (2, 64), (9, 0)] [] w 142 (fun (r : qV) (w1 : qW) (n1 : Nat) => r = (9, 0) ∧ n1 = 142 ∧ yInv zgf zga zra zSp w1 ∧ CHP 91 0 w (w 92) (w 93) L w1) := by
  generalize hQ9 : (fun (r : qV) (w1 : qW) (n1 : Nat) => r = (9, 0) ∧ n1 = 142 ∧ yInv zgf zga zra zSp w1 ∧ CHP 91 0 w (w 92) (w 93) L w1) = Q9
  obtain ⟨d, rfl⟩ : ∃ d9, d = d9 + 1 := ⟨d - 1, by omega⟩
  refine qG.blk 12 (pc' := 20) (ls' := [(2, 91), (2, 64), (9, 0)]) (st' := []) (w' := (qup (qup (qup (qup w 91 4 0) 91 5 (-1)) 91 6 0) 91 7 0)) (n' := 142) rfl ?_
  refine qG.blk 8 (pc' := 32) (ls' := [(2, 91), (2, 64), (0, 0)]) (st' := []) (w' := (qup (qup (qup (qup (qup (qup w 91 4 0) 91 5 (-1)) 91 6 0) 91 7 0) 91 8 0) 91 9 0)) (n' := 142) rfl ?_
  obtain ⟨w0, hw0⟩ : ∃ z : qW, z = (qup (qup (qup (qup (qup (qup w 91 4 0) 91 5 (-1)) 91 6 0) 91 7 0) 91 8 0) 91 9 0) := ⟨_, rfl⟩
  rw [← hw0]
  have hI0 : yInv zgf zga zra zSp w0 := by rw [hw0]; exact zup_f (zup_f (zup_f (zup_f (zup_f (zup_f hI (b := (-2147483648, 2147483647)) rfl rfl rfl ⟨by decide, by decide⟩) (b := (-2147483648, 2147483647)) rfl rfl rfl ⟨by decide, by decide⟩) (b := (0, 1)) rfl rfl rfl ⟨by decide, by decide⟩) (b := (0, 65535)) rfl rfl rfl ⟨by decide, by decide⟩) (b := (0, 63)) rfl rfl rfl ⟨by decide, by decide⟩) (b := (-2147483648, 2147483647)) rfl rfl rfl ⟨by decide, by decide⟩
  have hC0 : CHP 91 0 w (w 92) (w 93) 0 w0 := by rw [hw0]; exact ⟨(qup_j (by decide)).trans ((qup_j (by decide)).trans ((qup_j (by decide)).trans ((qup_j (by decide)).trans ((qup_j (by decide)).trans (qup_k))))), (qup_j (by decide)).trans ((qup_j (by decide)).trans ((qup_j (by decide)).trans ((qup_j (by decide)).trans (qup_k)))), (qup_j (by decide)).trans ((qup_j (by decide)).trans ((qup_j (by decide)).trans (qup_k))), (qup_j (by decide)).trans ((qup_j (by decide)).trans (qup_k)), (qup_j (by decide)).trans (qup_k), qup_k, fun t ht => absurd ht (Nat.not_lt_zero t), fun z j h1 h2 => (qup_f (by omega)).trans ((qup_f (by omega)).trans ((qup_f (by omega)).trans ((qup_f (by omega)).trans ((qup_f (by omega)).trans (qup_f (by omega))))))⟩
  have L32 : ∀ (m9 : Nat) (i : Nat) (wS : qW), 40 - i = m9 → (i ≤ L ∧ yInv zgf zga zra zSp wS ∧ CHP 91 0 w (w 92) (w 93) i wS) → qG none (d + 1) 111 32 [(2, 91), (2, 64), (0, ((i : Nat) : Int))] [] wS 142 Q9 := by
    intro m9
    induction m9 using Nat.strongRecOn with
    | ind m9 ih32 =>
    intro i wS hm32 hI32
    obtain ⟨hiL, hIS, hC⟩ := hI32
    obtain ⟨c4, c5, c6, c7, c8, c9, cv, hfr⟩ := hC
    refine qG.blk 3 (pc' := 37) (ls' := [(2, 91), (2, 64), (0, ((i : Nat) : Int))]) (st' := [(0, wS 91 2), (0, ((i : Nat) : Int))]) (w' := wS) (n' := 142) rfl ?_
    rw [show wS 91 2 = ((L : Nat) : Int) from (hfr 91 2 (by decide) (by omega)).trans hs]
    refine qG.br (P := ((i : Nat) : Int) < ((L : Nat) : Int)) (pc1 := 40) (pc2 := 112) (st1 := []) rfl (fun hiL2 => ?_) (fun hiL2 => ?_)
    · skip
      refine qG.blk 2 (pc' := 43) (ls' := [(2, 91), (2, 64), (0, ((i : Nat) : Int))]) (st' := [(0, 40), (0, ((i : Nat) : Int))]) (w' := wS) (n' := 142) rfl ?_
      refine qG.br (P := ((i : Nat) : Int) < 40) (pc1 := 46) (pc2 := 112) (st1 := []) rfl (fun hi40 => ?_) (fun hi40 => ?_)
      · skip
        refine qG.blk 3 (pc' := 51) (ls' := [(2, 91), (2, 64), (0, ((i : Nat) : Int))]) (st' := [(2, wS 91 0), (2, 91)]) (w' := wS) (n' := 142) rfl ?_
        rw [show wS 91 0 = 92 from zref hIS rfl rfl]
        refine qG.blk 1 (pc' := 52) (ls' := [(2, 91), (2, 64), (0, ((i : Nat) : Int))]) (st' := [(0, ((i : Nat) : Int)), (2, 92), (2, 91)]) (w' := wS) (n' := 142) rfl ?_
        refine qG.ar (P := 0 ≤ ((i : Nat) : Int) ∧ ((i : Nat) : Int) < ((40 : Nat) : Int)) (P2 := 0 < (92 : Int) ∧ (92 : Int) ≤ ((142 : Nat) : Int)) (pc' := 53) (ls' := [(2, 91), (2, 64), (0, ((i : Nat) : Int))]) (st' := [(0, wS 92 i), (2, 91)]) (w' := wS) (n' := 142) rfl (by omega) (by decide) ?_
        rw [show wS 92 i = w 92 i from hfr 92 i (by decide) (by omega)]
        refine qG.blk 2 (pc' := 57) (ls' := [(2, 91), (2, 64), (0, ((i : Nat) : Int))]) (st' := [(2, wS 91 1), (0, w 92 i), (2, 91)]) (w' := wS) (n' := 142) rfl ?_
        rw [show wS 91 1 = 93 from zref hIS rfl rfl]
        refine qG.blk 1 (pc' := 58) (ls' := [(2, 91), (2, 64), (0, ((i : Nat) : Int))]) (st' := [(0, ((i : Nat) : Int)), (2, 93), (0, w 92 i), (2, 91)]) (w' := wS) (n' := 142) rfl ?_
        refine qG.ar (P := 0 ≤ ((i : Nat) : Int) ∧ ((i : Nat) : Int) < ((40 : Nat) : Int)) (P2 := 0 < (93 : Int) ∧ (93 : Int) ≤ ((142 : Nat) : Int)) (pc' := 59) (ls' := [(2, 91), (2, 64), (0, ((i : Nat) : Int))]) (st' := [(0, wS 93 i), (0, w 92 i), (2, 91)]) (w' := wS) (n' := 142) rfl (by omega) (by decide) ?_
        rw [show wS 93 i = w 93 i from hfr 93 i (by decide) (by omega)]
        refine qG.call (t := 112) (na := 3) (sk := 1) (md := 1) (ls1 := [(2, 91), (0, w 92 i), (0, w 93 i)]) (r1 := []) rfl rfl rfl rfl rfl (K_take91 (Nat.zero_le _) (w 92 i) (w 93 i) (hKN i (by omega)).1 (hI.2.1 93 i (-2147483648, 2147483647) rfl rfl) wS hIS) ?_
        rintro _ wA _ ⟨rfl, rfl, hIA, t4, t5, t6, t9, tfr⟩
        have hA4 : wA 91 4 = oF (w 92) (w 93) (i + 1) := by rw [t4, c4]; rfl
        have hA5 : wA 91 5 = caF (w 92) (w 93) (i + 1) := by rw [t5, c5]; rfl
        have hA6 : wA 91 6 = sdF (w 92) (i + 1) := by rw [t6, c6]; rfl
        have hA9 : wA 91 9 = tuF (w 92) (i + 1) := by rw [t9, c9]; rfl
        have hA8 : wA 91 8 = moF (w 92) (w 93) i := (tfr 91 8 (by omega)).trans c8
        have hA7 : wA 91 7 = asF w 0 (w 92) (w 93) i := (tfr 91 7 (by omega)).trans c7
        obtain ⟨m9, hm9, hm10⟩ := oF_n hKN (i + 1) (by omega)
        show qG none (d + 1) 111 62 [(2, 91), (2, 64), (0, ((i : Nat) : Int))] [] wA 142 Q9
        refine qG.blk 3 (pc' := 67) (ls' := [(2, 91), (2, 64), (0, ((i : Nat) : Int))]) (st' := [(0, wA 91 8), (2, 91)]) (w' := wA) (n' := 142) rfl ?_
        rw [show wA 91 8 = moF (w 92) (w 93) i from hA8]
        refine qG.blk 2 (pc' := 71) (ls' := [(2, 91), (2, 64), (0, ((i : Nat) : Int))]) (st' := [(0, wA 91 4), (0, moF (w 92) (w 93) i), (2, 91)]) (w' := wA) (n' := 142) rfl ?_
        rw [show wA 91 4 = oF (w 92) (w 93) (i + 1) from hA4]
        refine qG.call (t := 302) (na := 1) (sk := 0) (md := 0) (ls1 := [(0, oF (w 92) (w 93) (i + 1))]) (r1 := [(0, moF (w 92) (w 93) i), (2, 91)]) rfl rfl rfl rfl rfl (K_bcJ (Nat.zero_le _) (oF (w 92) (w 93) (i + 1)) (by rw [hm9]; omega) (by rw [hm9]; omega) _) ?_
        rintro _ w7 _ ⟨rfl, hw7, rfl⟩
        rw [hw7, show bitsF (oF (w 92) (w 93) (i + 1)) 30 = bitsF (oF (w 92) (w 93) (i + 1)) 16 from by rw [hm9, bitsF_n (by omega) 30 (by decide), bitsF_n (by omega) 16 (by decide), pcn_h (by omega)]]
        show qG none (d + 1) 111 74 [(2, 91), (2, 64), (0, ((i : Nat) : Int))] [(0, bitsF (oF (w 92) (w 93) (i + 1)) 16), (0, moF (w 92) (w 93) i), (2, 91)] wA 142 Q9
        refine qG.mth rfl rfl rfl rfl (pc' := 77) (ls' := [(2, 91), (2, 64), (0, ((i : Nat) : Int))]) (st' := [(0, (if moF (w 92) (w 93) i < bitsF (oF (w 92) (w 93) (i + 1)) 16 then bitsF (oF (w 92) (w 93) (i + 1)) 16 else moF (w 92) (w 93) i)), (2, 91)]) (w' := wA) (n' := 142) rfl ?_
        refine qG.blk 3 (pc' := 84) (ls' := [(2, 91), (2, 64), (0, ((i : Nat) : Int))]) (st' := [(2, wA 91 3)]) (w' := (qup wA 91 8 (if moF (w 92) (w 93) i < bitsF (oF (w 92) (w 93) (i + 1)) 16 then bitsF (oF (w 92) (w 93) (i + 1)) 16 else moF (w 92) (w 93) i))) (n' := 142) rfl ?_
        rw [show wA 91 3 = 94 from zref hIA rfl rfl]
        refine qG.blk 3 (pc' := 87) (ls' := [(2, 91), (2, 64), (0, ((i : Nat) : Int))]) (st' := [(2, 64), (2, 91), (0, ((i : Nat) : Int)), (2, 94)]) (w' := (qup wA 91 8 (if moF (w 92) (w 93) i < bitsF (oF (w 92) (w 93) (i + 1)) 16 then bitsF (oF (w 92) (w 93) (i + 1)) 16 else moF (w 92) (w 93) i))) (n' := 142) rfl ?_
        obtain ⟨wB, hwB⟩ : ∃ z : qW, z = (qup wA 91 8 (if moF (w 92) (w 93) i < bitsF (oF (w 92) (w 93) (i + 1)) 16 then bitsF (oF (w 92) (w 93) (i + 1)) 16 else moF (w 92) (w 93) i)) := ⟨_, rfl⟩
        rw [← hwB]
        have hIB : yInv zgf zga zra zSp wB := by rw [hwB]; exact zup_f hIA (b := (0, 63)) rfl rfl rfl (by have z := bitsF_in (oF (w 92) (w 93) (i + 1)) 16; have z2 := hIA.1 91 8 (0, 63) rfl rfl; rw [hA8] at z2; have z3 : (0 : Int) ≤ moF (w 92) (w 93) i := z2.1; have z4 : moF (w 92) (w 93) i ≤ (63 : Int) := z2.2; split <;> exact ⟨by show (0 : Int) ≤ _; omega, by show _ ≤ (63 : Int); omega⟩)
        have hB8 : wB 91 8 = moF (w 92) (w 93) (i + 1) := by rw [hwB, qup_k]; rfl
        have hBo : ∀ z j, ¬ (z = 91 ∧ j = 8) → wB z j = wA z j := fun z j h => by rw [hwB]; exact qup_f h
        have hB7 : wB 91 7 = asF w 0 (w 92) (w 93) i := (hBo 91 7 (by omega)).trans hA7
        have hBw : ∀ z j, z ≠ 94 → ¬ (z = 91 ∧ 4 ≤ j ∧ j ≤ 9) → wB z j = w z j := fun z j h1 h2 => (hBo z j (by omega)).trans ((tfr z j (by omega)).trans (hfr z j h1 h2))
        have hEB : JE wB := fun c2 d2 a b => by rw [hBw (66 + 5 * c2) d2 (by omega) (by omega), hBw (67 + 5 * c2) d2 (by omega) (by omega), hBw (68 + 5 * c2) d2 (by omega) (by omega), hBw 97 _ (by decide) (by omega), hBw 98 _ (by decide) (by omega), hBw 100 _ (by decide) (by omega)]; exact hE c2 d2 a b
        have hKB : wB 64 0 = wB 96 0 := by rw [hBw 64 0 (by decide) (by omega), hBw 96 0 (by decide) (by omega)]; exact hK
        have hvB : seG wB 0 (wB 91 4) (wB 91 5) (wB 91 6) 10 = vwF w 0 (w 92) (w 93) i := by rw [hBo 91 4 (by omega), hBo 91 5 (by omega), hBo 91 6 (by omega), hA4, hA5, hA6]; exact seG_cg (fun j => hBw 96 j (by decide) (by omega)) (fun j => hBw 97 j (by decide) (by omega)) (fun j => hBw 98 j (by decide) (by omega)) (fun j => hBw 100 j (by decide) (by omega)) 0 _ _ _ 10
        refine qG.call (t := 113) (na := 2) (sk := 1) (md := 1) (ls1 := [(2, 91), (2, 64), (9, 0), (9, 0)]) (r1 := [(0, ((i : Nat) : Int)), (2, 94)]) rfl rfl rfl rfl rfl (K_view91_64 (by omega) m9 hm10 wB hIB ((hBo 91 4 (by omega)).trans (hA4.trans hm9)) hKB hEB) ?_
        rintro _ w7 _ ⟨rfl, hw7, rfl⟩
        rw [hw7, hvB]
        show qG none (d + 1) 111 90 [(2, 91), (2, 64), (0, ((i : Nat) : Int))] [(0, vwF w 0 (w 92) (w 93) i), (0, ((i : Nat) : Int)), (2, 94)] wB 142 Q9
        refine qG.ar (P := 0 ≤ ((i : Nat) : Int) ∧ ((i : Nat) : Int) < ((40 : Nat) : Int)) (P2 := 0 < (94 : Int) ∧ (94 : Int) ≤ ((142 : Nat) : Int)) (pc' := 91) (ls' := [(2, 91), (2, 64), (0, ((i : Nat) : Int))]) (st' := []) (w' := (qup wB 94 i (vwF w 0 (w 92) (w 93) i))) (n' := 142) rfl (by omega) (by decide) ?_
        refine qG.blk 3 (pc' := 96) (ls' := [(2, 91), (2, 64), (0, ((i : Nat) : Int))]) (st' := [(0, wB 91 7), (2, 91)]) (w' := (qup wB 94 i (vwF w 0 (w 92) (w 93) i))) (n' := 142) rfl ?_
        rw [show wB 91 7 = asF w 0 (w 92) (w 93) i from hB7]
        refine qG.blk 2 (pc' := 100) (ls' := [(2, 91), (2, 64), (0, ((i : Nat) : Int))]) (st' := [(2, wB 91 3), (0, asF w 0 (w 92) (w 93) i), (2, 91)]) (w' := (qup wB 94 i (vwF w 0 (w 92) (w 93) i))) (n' := 142) rfl ?_
        rw [show wB 91 3 = 94 from zref hIB rfl rfl]
        refine qG.blk 1 (pc' := 101) (ls' := [(2, 91), (2, 64), (0, ((i : Nat) : Int))]) (st' := [(0, ((i : Nat) : Int)), (2, 94), (0, asF w 0 (w 92) (w 93) i), (2, 91)]) (w' := (qup wB 94 i (vwF w 0 (w 92) (w 93) i))) (n' := 142) rfl ?_
        refine qG.ar (P := 0 ≤ ((i : Nat) : Int) ∧ ((i : Nat) : Int) < ((40 : Nat) : Int)) (P2 := 0 < (94 : Int) ∧ (94 : Int) ≤ ((142 : Nat) : Int)) (pc' := 102) (ls' := [(2, 91), (2, 64), (0, ((i : Nat) : Int))]) (st' := [(0, (qup wB 94 i (vwF w 0 (w 92) (w 93) i)) 94 i), (0, asF w 0 (w 92) (w 93) i), (2, 91)]) (w' := (qup wB 94 i (vwF w 0 (w 92) (w 93) i))) (n' := 142) rfl (by omega) (by decide) ?_
        rw [show (qup wB 94 i (vwF w 0 (w 92) (w 93) i)) 94 i = vwF w 0 (w 92) (w 93) i from by simp (disch := decide) only [qup_ne, qup_k]]
        refine qG.blk 3 (pc' := 109) (ls' := [(2, 91), (2, 64), (0, wrp (((i : Nat) : Int) + 1))]) (st' := []) (w' := (qup (qup wB 94 i (vwF w 0 (w 92) (w 93) i)) 91 7 (qor (asF w 0 (w 92) (w 93) i) (vwF w 0 (w 92) (w 93) i)))) (n' := 142) rfl ?_
        rw [show wrp (((i : Nat) : Int) + 1) = ((i + 1 : Nat) : Int) from wrp_id (by omega) (by omega)]
        refine qG.blk 1 (pc' := 32) (ls' := [(2, 91), (2, 64), (0, ((i + 1 : Nat) : Int))]) (st' := []) (w' := (qup (qup wB 94 i (vwF w 0 (w 92) (w 93) i)) 91 7 (qor (asF w 0 (w 92) (w 93) i) (vwF w 0 (w 92) (w 93) i)))) (n' := 142) rfl ?_
        obtain ⟨wN, hwN⟩ : ∃ z : qW, z = (qup (qup wB 94 i (vwF w 0 (w 92) (w 93) i)) 91 7 (qor (asF w 0 (w 92) (w 93) i) (vwF w 0 (w 92) (w 93) i))) := ⟨_, rfl⟩
        rw [← hwN]
        have hIN : yInv zgf zga zra zSp wN := by rw [hwN]; exact zup_f (zup_a hIB (b := (0, 65535)) rfl rfl (vw_in hI hE (by decide))) (b := (0, 65535)) rfl rfl rfl (as_in hI hE (by decide) (i + 1))
        have hCN : CHP 91 0 w (w 92) (w 93) (i + 1) wN := by rw [hwN]; exact ⟨(by rw [qup_f (by omega), qup_f (by omega), hBo 91 4 (by omega)]; exact hA4), (by rw [qup_f (by omega), qup_f (by omega), hBo 91 5 (by omega)]; exact hA5), (by rw [qup_f (by omega), qup_f (by omega), hBo 91 6 (by omega)]; exact hA6), qup_k, (by rw [qup_f (by omega), qup_f (by omega)]; exact hB8), (by rw [qup_f (by omega), qup_f (by omega), hBo 91 9 (by omega)]; exact hA9), (fun t ht => (qup_f (by omega)).trans (if e : t = i then (by rw [e]; exact qup_k) else ((qup_j e).trans ((hBo 94 t (by omega)).trans ((tfr 94 t (by omega)).trans (cv t (by omega))))))), fun z j h1 h2 => (qup_f (by omega)).trans ((qup_f (by omega)).trans (hBw z j h1 h2))⟩
        exact ih32 _ (by omega) (i + 1) (wN) rfl (⟨by omega, hIN, hCN⟩)
      · exfalso; omega
    · skip
      refine qG.retv rfl rfl ?_
      subst hQ9
      exact ⟨rfl, rfl, hIS, by rw [show L = i by omega]; exact ⟨c4, c5, c6, c7, c8, c9, cv, hfr⟩⟩
  exact L32 _ (0) (w0) rfl (⟨Nat.zero_le _, hI0, hC0⟩)
theorem K_perf91_69 {d : Nat} (hd : 2 ≤ d) (L : Nat) (hL : L ≤ 40) (w : qW) (hI : yInv zgf zga zra zSp w) (hs : w 91 2 = (L : Int)) (hKN : KNr (w 92) (w 93) L) (hK : w 69 0 = w 96 1) (hE : JE w) : qG none d 111 0 [(2, 91), (2, 69), (9, 0)] [] w 142 (fun (r : qV) (w1 : qW) (n1 : Nat) => r = (9, 0) ∧ n1 = 142 ∧ yInv zgf zga zra zSp w1 ∧ CHP 91 1 w (w 92) (w 93) L w1) := by
  generalize hQ9 : (fun (r : qV) (w1 : qW) (n1 : Nat) => r = (9, 0) ∧ n1 = 142 ∧ yInv zgf zga zra zSp w1 ∧ CHP 91 1 w (w 92) (w 93) L w1) = Q9
  obtain ⟨d, rfl⟩ : ∃ d9, d = d9 + 1 := ⟨d - 1, by omega⟩
  refine qG.blk 12 (pc' := 20) (ls' := [(2, 91), (2, 69), (9, 0)]) (st' := []) (w' := (qup (qup (qup (qup w 91 4 0) 91 5 (-1)) 91 6 0) 91 7 0)) (n' := 142) rfl ?_
  refine qG.blk 8 (pc' := 32) (ls' := [(2, 91), (2, 69), (0, 0)]) (st' := []) (w' := (qup (qup (qup (qup (qup (qup w 91 4 0) 91 5 (-1)) 91 6 0) 91 7 0) 91 8 0) 91 9 0)) (n' := 142) rfl ?_
  obtain ⟨w0, hw0⟩ : ∃ z : qW, z = (qup (qup (qup (qup (qup (qup w 91 4 0) 91 5 (-1)) 91 6 0) 91 7 0) 91 8 0) 91 9 0) := ⟨_, rfl⟩
  rw [← hw0]
  have hI0 : yInv zgf zga zra zSp w0 := by rw [hw0]; exact zup_f (zup_f (zup_f (zup_f (zup_f (zup_f hI (b := (-2147483648, 2147483647)) rfl rfl rfl ⟨by decide, by decide⟩) (b := (-2147483648, 2147483647)) rfl rfl rfl ⟨by decide, by decide⟩) (b := (0, 1)) rfl rfl rfl ⟨by decide, by decide⟩) (b := (0, 65535)) rfl rfl rfl ⟨by decide, by decide⟩) (b := (0, 63)) rfl rfl rfl ⟨by decide, by decide⟩) (b := (-2147483648, 2147483647)) rfl rfl rfl ⟨by decide, by decide⟩
  have hC0 : CHP 91 1 w (w 92) (w 93) 0 w0 := by rw [hw0]; exact ⟨(qup_j (by decide)).trans ((qup_j (by decide)).trans ((qup_j (by decide)).trans ((qup_j (by decide)).trans ((qup_j (by decide)).trans (qup_k))))), (qup_j (by decide)).trans ((qup_j (by decide)).trans ((qup_j (by decide)).trans ((qup_j (by decide)).trans (qup_k)))), (qup_j (by decide)).trans ((qup_j (by decide)).trans ((qup_j (by decide)).trans (qup_k))), (qup_j (by decide)).trans ((qup_j (by decide)).trans (qup_k)), (qup_j (by decide)).trans (qup_k), qup_k, fun t ht => absurd ht (Nat.not_lt_zero t), fun z j h1 h2 => (qup_f (by omega)).trans ((qup_f (by omega)).trans ((qup_f (by omega)).trans ((qup_f (by omega)).trans ((qup_f (by omega)).trans (qup_f (by omega))))))⟩
  have L32 : ∀ (m9 : Nat) (i : Nat) (wS : qW), 40 - i = m9 → (i ≤ L ∧ yInv zgf zga zra zSp wS ∧ CHP 91 1 w (w 92) (w 93) i wS) → qG none (d + 1) 111 32 [(2, 91), (2, 69), (0, ((i : Nat) : Int))] [] wS 142 Q9 := by
    intro m9
    induction m9 using Nat.strongRecOn with
    | ind m9 ih32 =>
    intro i wS hm32 hI32
    obtain ⟨hiL, hIS, hC⟩ := hI32
    obtain ⟨c4, c5, c6, c7, c8, c9, cv, hfr⟩ := hC
    refine qG.blk 3 (pc' := 37) (ls' := [(2, 91), (2, 69), (0, ((i : Nat) : Int))]) (st' := [(0, wS 91 2), (0, ((i : Nat) : Int))]) (w' := wS) (n' := 142) rfl ?_
    rw [show wS 91 2 = ((L : Nat) : Int) from (hfr 91 2 (by decide) (by omega)).trans hs]
    refine qG.br (P := ((i : Nat) : Int) < ((L : Nat) : Int)) (pc1 := 40) (pc2 := 112) (st1 := []) rfl (fun hiL2 => ?_) (fun hiL2 => ?_)
    · skip
      refine qG.blk 2 (pc' := 43) (ls' := [(2, 91), (2, 69), (0, ((i : Nat) : Int))]) (st' := [(0, 40), (0, ((i : Nat) : Int))]) (w' := wS) (n' := 142) rfl ?_
      refine qG.br (P := ((i : Nat) : Int) < 40) (pc1 := 46) (pc2 := 112) (st1 := []) rfl (fun hi40 => ?_) (fun hi40 => ?_)
      · skip
        refine qG.blk 3 (pc' := 51) (ls' := [(2, 91), (2, 69), (0, ((i : Nat) : Int))]) (st' := [(2, wS 91 0), (2, 91)]) (w' := wS) (n' := 142) rfl ?_
        rw [show wS 91 0 = 92 from zref hIS rfl rfl]
        refine qG.blk 1 (pc' := 52) (ls' := [(2, 91), (2, 69), (0, ((i : Nat) : Int))]) (st' := [(0, ((i : Nat) : Int)), (2, 92), (2, 91)]) (w' := wS) (n' := 142) rfl ?_
        refine qG.ar (P := 0 ≤ ((i : Nat) : Int) ∧ ((i : Nat) : Int) < ((40 : Nat) : Int)) (P2 := 0 < (92 : Int) ∧ (92 : Int) ≤ ((142 : Nat) : Int)) (pc' := 53) (ls' := [(2, 91), (2, 69), (0, ((i : Nat) : Int))]) (st' := [(0, wS 92 i), (2, 91)]) (w' := wS) (n' := 142) rfl (by omega) (by decide) ?_
        rw [show wS 92 i = w 92 i from hfr 92 i (by decide) (by omega)]
        refine qG.blk 2 (pc' := 57) (ls' := [(2, 91), (2, 69), (0, ((i : Nat) : Int))]) (st' := [(2, wS 91 1), (0, w 92 i), (2, 91)]) (w' := wS) (n' := 142) rfl ?_
        rw [show wS 91 1 = 93 from zref hIS rfl rfl]
        refine qG.blk 1 (pc' := 58) (ls' := [(2, 91), (2, 69), (0, ((i : Nat) : Int))]) (st' := [(0, ((i : Nat) : Int)), (2, 93), (0, w 92 i), (2, 91)]) (w' := wS) (n' := 142) rfl ?_
        refine qG.ar (P := 0 ≤ ((i : Nat) : Int) ∧ ((i : Nat) : Int) < ((40 : Nat) : Int)) (P2 := 0 < (93 : Int) ∧ (93 : Int) ≤ ((142 : Nat) : Int)) (pc' := 59) (ls' := [(2, 91), (2, 69), (0, ((i : Nat) : Int))]) (st' := [(0, wS 93 i), (0, w 92 i), (2, 91)]) (w' := wS) (n' := 142) rfl (by omega) (by decide) ?_
        rw [show wS 93 i = w 93 i from hfr 93 i (by decide) (by omega)]
        refine qG.call (t := 112) (na := 3) (sk := 1) (md := 1) (ls1 := [(2, 91), (0, w 92 i), (0, w 93 i)]) (r1 := []) rfl rfl rfl rfl rfl (K_take91 (Nat.zero_le _) (w 92 i) (w 93 i) (hKN i (by omega)).1 (hI.2.1 93 i (-2147483648, 2147483647) rfl rfl) wS hIS) ?_
        rintro _ wA _ ⟨rfl, rfl, hIA, t4, t5, t6, t9, tfr⟩
        have hA4 : wA 91 4 = oF (w 92) (w 93) (i + 1) := by rw [t4, c4]; rfl
        have hA5 : wA 91 5 = caF (w 92) (w 93) (i + 1) := by rw [t5, c5]; rfl
        have hA6 : wA 91 6 = sdF (w 92) (i + 1) := by rw [t6, c6]; rfl
        have hA9 : wA 91 9 = tuF (w 92) (i + 1) := by rw [t9, c9]; rfl
        have hA8 : wA 91 8 = moF (w 92) (w 93) i := (tfr 91 8 (by omega)).trans c8
        have hA7 : wA 91 7 = asF w 1 (w 92) (w 93) i := (tfr 91 7 (by omega)).trans c7
        obtain ⟨m9, hm9, hm10⟩ := oF_n hKN (i + 1) (by omega)
        show qG none (d + 1) 111 62 [(2, 91), (2, 69), (0, ((i : Nat) : Int))] [] wA 142 Q9
        refine qG.blk 3 (pc' := 67) (ls' := [(2, 91), (2, 69), (0, ((i : Nat) : Int))]) (st' := [(0, wA 91 8), (2, 91)]) (w' := wA) (n' := 142) rfl ?_
        rw [show wA 91 8 = moF (w 92) (w 93) i from hA8]
        refine qG.blk 2 (pc' := 71) (ls' := [(2, 91), (2, 69), (0, ((i : Nat) : Int))]) (st' := [(0, wA 91 4), (0, moF (w 92) (w 93) i), (2, 91)]) (w' := wA) (n' := 142) rfl ?_
        rw [show wA 91 4 = oF (w 92) (w 93) (i + 1) from hA4]
        refine qG.call (t := 302) (na := 1) (sk := 0) (md := 0) (ls1 := [(0, oF (w 92) (w 93) (i + 1))]) (r1 := [(0, moF (w 92) (w 93) i), (2, 91)]) rfl rfl rfl rfl rfl (K_bcJ (Nat.zero_le _) (oF (w 92) (w 93) (i + 1)) (by rw [hm9]; omega) (by rw [hm9]; omega) _) ?_
        rintro _ w7 _ ⟨rfl, hw7, rfl⟩
        rw [hw7, show bitsF (oF (w 92) (w 93) (i + 1)) 30 = bitsF (oF (w 92) (w 93) (i + 1)) 16 from by rw [hm9, bitsF_n (by omega) 30 (by decide), bitsF_n (by omega) 16 (by decide), pcn_h (by omega)]]
        show qG none (d + 1) 111 74 [(2, 91), (2, 69), (0, ((i : Nat) : Int))] [(0, bitsF (oF (w 92) (w 93) (i + 1)) 16), (0, moF (w 92) (w 93) i), (2, 91)] wA 142 Q9
        refine qG.mth rfl rfl rfl rfl (pc' := 77) (ls' := [(2, 91), (2, 69), (0, ((i : Nat) : Int))]) (st' := [(0, (if moF (w 92) (w 93) i < bitsF (oF (w 92) (w 93) (i + 1)) 16 then bitsF (oF (w 92) (w 93) (i + 1)) 16 else moF (w 92) (w 93) i)), (2, 91)]) (w' := wA) (n' := 142) rfl ?_
        refine qG.blk 3 (pc' := 84) (ls' := [(2, 91), (2, 69), (0, ((i : Nat) : Int))]) (st' := [(2, wA 91 3)]) (w' := (qup wA 91 8 (if moF (w 92) (w 93) i < bitsF (oF (w 92) (w 93) (i + 1)) 16 then bitsF (oF (w 92) (w 93) (i + 1)) 16 else moF (w 92) (w 93) i))) (n' := 142) rfl ?_
        rw [show wA 91 3 = 94 from zref hIA rfl rfl]
        refine qG.blk 3 (pc' := 87) (ls' := [(2, 91), (2, 69), (0, ((i : Nat) : Int))]) (st' := [(2, 69), (2, 91), (0, ((i : Nat) : Int)), (2, 94)]) (w' := (qup wA 91 8 (if moF (w 92) (w 93) i < bitsF (oF (w 92) (w 93) (i + 1)) 16 then bitsF (oF (w 92) (w 93) (i + 1)) 16 else moF (w 92) (w 93) i))) (n' := 142) rfl ?_
        obtain ⟨wB, hwB⟩ : ∃ z : qW, z = (qup wA 91 8 (if moF (w 92) (w 93) i < bitsF (oF (w 92) (w 93) (i + 1)) 16 then bitsF (oF (w 92) (w 93) (i + 1)) 16 else moF (w 92) (w 93) i)) := ⟨_, rfl⟩
        rw [← hwB]
        have hIB : yInv zgf zga zra zSp wB := by rw [hwB]; exact zup_f hIA (b := (0, 63)) rfl rfl rfl (by have z := bitsF_in (oF (w 92) (w 93) (i + 1)) 16; have z2 := hIA.1 91 8 (0, 63) rfl rfl; rw [hA8] at z2; have z3 : (0 : Int) ≤ moF (w 92) (w 93) i := z2.1; have z4 : moF (w 92) (w 93) i ≤ (63 : Int) := z2.2; split <;> exact ⟨by show (0 : Int) ≤ _; omega, by show _ ≤ (63 : Int); omega⟩)
        have hB8 : wB 91 8 = moF (w 92) (w 93) (i + 1) := by rw [hwB, qup_k]; rfl
        have hBo : ∀ z j, ¬ (z = 91 ∧ j = 8) → wB z j = wA z j := fun z j h => by rw [hwB]; exact qup_f h
        have hB7 : wB 91 7 = asF w 1 (w 92) (w 93) i := (hBo 91 7 (by omega)).trans hA7
        have hBw : ∀ z j, z ≠ 94 → ¬ (z = 91 ∧ 4 ≤ j ∧ j ≤ 9) → wB z j = w z j := fun z j h1 h2 => (hBo z j (by omega)).trans ((tfr z j (by omega)).trans (hfr z j h1 h2))
        have hEB : JE wB := fun c2 d2 a b => by rw [hBw (66 + 5 * c2) d2 (by omega) (by omega), hBw (67 + 5 * c2) d2 (by omega) (by omega), hBw (68 + 5 * c2) d2 (by omega) (by omega), hBw 97 _ (by decide) (by omega), hBw 98 _ (by decide) (by omega), hBw 100 _ (by decide) (by omega)]; exact hE c2 d2 a b
        have hKB : wB 69 0 = wB 96 1 := by rw [hBw 69 0 (by decide) (by omega), hBw 96 1 (by decide) (by omega)]; exact hK
        have hvB : seG wB 1 (wB 91 4) (wB 91 5) (wB 91 6) 10 = vwF w 1 (w 92) (w 93) i := by rw [hBo 91 4 (by omega), hBo 91 5 (by omega), hBo 91 6 (by omega), hA4, hA5, hA6]; exact seG_cg (fun j => hBw 96 j (by decide) (by omega)) (fun j => hBw 97 j (by decide) (by omega)) (fun j => hBw 98 j (by decide) (by omega)) (fun j => hBw 100 j (by decide) (by omega)) 1 _ _ _ 10
        refine qG.call (t := 113) (na := 2) (sk := 1) (md := 1) (ls1 := [(2, 91), (2, 69), (9, 0), (9, 0)]) (r1 := [(0, ((i : Nat) : Int)), (2, 94)]) rfl rfl rfl rfl rfl (K_view91_69 (by omega) m9 hm10 wB hIB ((hBo 91 4 (by omega)).trans (hA4.trans hm9)) hKB hEB) ?_
        rintro _ w7 _ ⟨rfl, hw7, rfl⟩
        rw [hw7, hvB]
        show qG none (d + 1) 111 90 [(2, 91), (2, 69), (0, ((i : Nat) : Int))] [(0, vwF w 1 (w 92) (w 93) i), (0, ((i : Nat) : Int)), (2, 94)] wB 142 Q9
        refine qG.ar (P := 0 ≤ ((i : Nat) : Int) ∧ ((i : Nat) : Int) < ((40 : Nat) : Int)) (P2 := 0 < (94 : Int) ∧ (94 : Int) ≤ ((142 : Nat) : Int)) (pc' := 91) (ls' := [(2, 91), (2, 69), (0, ((i : Nat) : Int))]) (st' := []) (w' := (qup wB 94 i (vwF w 1 (w 92) (w 93) i))) (n' := 142) rfl (by omega) (by decide) ?_
        refine qG.blk 3 (pc' := 96) (ls' := [(2, 91), (2, 69), (0, ((i : Nat) : Int))]) (st' := [(0, wB 91 7), (2, 91)]) (w' := (qup wB 94 i (vwF w 1 (w 92) (w 93) i))) (n' := 142) rfl ?_
        rw [show wB 91 7 = asF w 1 (w 92) (w 93) i from hB7]
        refine qG.blk 2 (pc' := 100) (ls' := [(2, 91), (2, 69), (0, ((i : Nat) : Int))]) (st' := [(2, wB 91 3), (0, asF w 1 (w 92) (w 93) i), (2, 91)]) (w' := (qup wB 94 i (vwF w 1 (w 92) (w 93) i))) (n' := 142) rfl ?_
        rw [show wB 91 3 = 94 from zref hIB rfl rfl]
        refine qG.blk 1 (pc' := 101) (ls' := [(2, 91), (2, 69), (0, ((i : Nat) : Int))]) (st' := [(0, ((i : Nat) : Int)), (2, 94), (0, asF w 1 (w 92) (w 93) i), (2, 91)]) (w' := (qup wB 94 i (vwF w 1 (w 92) (w 93) i))) (n' := 142) rfl ?_
        refine qG.ar (P := 0 ≤ ((i : Nat) : Int) ∧ ((i : Nat) : Int) < ((40 : Nat) : Int)) (P2 := 0 < (94 : Int) ∧ (94 : Int) ≤ ((142 : Nat) : Int)) (pc' := 102) (ls' := [(2, 91), (2, 69), (0, ((i : Nat) : Int))]) (st' := [(0, (qup wB 94 i (vwF w 1 (w 92) (w 93) i)) 94 i), (0, asF w 1 (w 92) (w 93) i), (2, 91)]) (w' := (qup wB 94 i (vwF w 1 (w 92) (w 93) i))) (n' := 142) rfl (by omega) (by decide) ?_
        rw [show (qup wB 94 i (vwF w 1 (w 92) (w 93) i)) 94 i = vwF w 1 (w 92) (w 93) i from by simp (disch := decide) only [qup_ne, qup_k]]
        refine qG.blk 3 (pc' := 109) (ls' := [(2, 91), (2, 69), (0, wrp (((i : Nat) : Int) + 1))]) (st' := []) (w' := (qup (qup wB 94 i (vwF w 1 (w 92) (w 93) i)) 91 7 (qor (asF w 1 (w 92) (w 93) i) (vwF w 1 (w 92) (w 93) i)))) (n' := 142) rfl ?_
        rw [show wrp (((i : Nat) : Int) + 1) = ((i + 1 : Nat) : Int) from wrp_id (by omega) (by omega)]
        refine qG.blk 1 (pc' := 32) (ls' := [(2, 91), (2, 69), (0, ((i + 1 : Nat) : Int))]) (st' := []) (w' := (qup (qup wB 94 i (vwF w 1 (w 92) (w 93) i)) 91 7 (qor (asF w 1 (w 92) (w 93) i) (vwF w 1 (w 92) (w 93) i)))) (n' := 142) rfl ?_
        obtain ⟨wN, hwN⟩ : ∃ z : qW, z = (qup (qup wB 94 i (vwF w 1 (w 92) (w 93) i)) 91 7 (qor (asF w 1 (w 92) (w 93) i) (vwF w 1 (w 92) (w 93) i))) := ⟨_, rfl⟩
        rw [← hwN]
        have hIN : yInv zgf zga zra zSp wN := by rw [hwN]; exact zup_f (zup_a hIB (b := (0, 65535)) rfl rfl (vw_in hI hE (by decide))) (b := (0, 65535)) rfl rfl rfl (as_in hI hE (by decide) (i + 1))
        have hCN : CHP 91 1 w (w 92) (w 93) (i + 1) wN := by rw [hwN]; exact ⟨(by rw [qup_f (by omega), qup_f (by omega), hBo 91 4 (by omega)]; exact hA4), (by rw [qup_f (by omega), qup_f (by omega), hBo 91 5 (by omega)]; exact hA5), (by rw [qup_f (by omega), qup_f (by omega), hBo 91 6 (by omega)]; exact hA6), qup_k, (by rw [qup_f (by omega), qup_f (by omega)]; exact hB8), (by rw [qup_f (by omega), qup_f (by omega), hBo 91 9 (by omega)]; exact hA9), (fun t ht => (qup_f (by omega)).trans (if e : t = i then (by rw [e]; exact qup_k) else ((qup_j e).trans ((hBo 94 t (by omega)).trans ((tfr 94 t (by omega)).trans (cv t (by omega))))))), fun z j h1 h2 => (qup_f (by omega)).trans ((qup_f (by omega)).trans (hBw z j h1 h2))⟩
        exact ih32 _ (by omega) (i + 1) (wN) rfl (⟨by omega, hIN, hCN⟩)
      · exfalso; omega
    · skip
      refine qG.retv rfl rfl ?_
      subst hQ9
      exact ⟨rfl, rfl, hIS, by rw [show L = i by omega]; exact ⟨c4, c5, c6, c7, c8, c9, cv, hfr⟩⟩
  exact L32 _ (0) (w0) rfl (⟨Nat.zero_le _, hI0, hC0⟩)
theorem K_perf91_74 {d : Nat} (hd : 2 ≤ d) (L : Nat) (hL : L ≤ 40) (w : qW) (hI : yInv zgf zga zra zSp w) (hs : w 91 2 = (L : Int)) (hKN : KNr (w 92) (w 93) L) (hK : w 74 0 = w 96 2) (hE : JE w) : qG none d 111 0 [(2, 91), (2, 74), (9, 0)] [] w 142 (fun (r : qV) (w1 : qW) (n1 : Nat) => r = (9, 0) ∧ n1 = 142 ∧ yInv zgf zga zra zSp w1 ∧ CHP 91 2 w (w 92) (w 93) L w1) := by
  generalize hQ9 : (fun (r : qV) (w1 : qW) (n1 : Nat) => r = (9, 0) ∧ n1 = 142 ∧ yInv zgf zga zra zSp w1 ∧ CHP 91 2 w (w 92) (w 93) L w1) = Q9
  obtain ⟨d, rfl⟩ : ∃ d9, d = d9 + 1 := ⟨d - 1, by omega⟩
  refine qG.blk 12 (pc' := 20) (ls' := [(2, 91), (2, 74), (9, 0)]) (st' := []) (w' := (qup (qup (qup (qup w 91 4 0) 91 5 (-1)) 91 6 0) 91 7 0)) (n' := 142) rfl ?_
  refine qG.blk 8 (pc' := 32) (ls' := [(2, 91), (2, 74), (0, 0)]) (st' := []) (w' := (qup (qup (qup (qup (qup (qup w 91 4 0) 91 5 (-1)) 91 6 0) 91 7 0) 91 8 0) 91 9 0)) (n' := 142) rfl ?_
  obtain ⟨w0, hw0⟩ : ∃ z : qW, z = (qup (qup (qup (qup (qup (qup w 91 4 0) 91 5 (-1)) 91 6 0) 91 7 0) 91 8 0) 91 9 0) := ⟨_, rfl⟩
  rw [← hw0]
  have hI0 : yInv zgf zga zra zSp w0 := by rw [hw0]; exact zup_f (zup_f (zup_f (zup_f (zup_f (zup_f hI (b := (-2147483648, 2147483647)) rfl rfl rfl ⟨by decide, by decide⟩) (b := (-2147483648, 2147483647)) rfl rfl rfl ⟨by decide, by decide⟩) (b := (0, 1)) rfl rfl rfl ⟨by decide, by decide⟩) (b := (0, 65535)) rfl rfl rfl ⟨by decide, by decide⟩) (b := (0, 63)) rfl rfl rfl ⟨by decide, by decide⟩) (b := (-2147483648, 2147483647)) rfl rfl rfl ⟨by decide, by decide⟩
  have hC0 : CHP 91 2 w (w 92) (w 93) 0 w0 := by rw [hw0]; exact ⟨(qup_j (by decide)).trans ((qup_j (by decide)).trans ((qup_j (by decide)).trans ((qup_j (by decide)).trans ((qup_j (by decide)).trans (qup_k))))), (qup_j (by decide)).trans ((qup_j (by decide)).trans ((qup_j (by decide)).trans ((qup_j (by decide)).trans (qup_k)))), (qup_j (by decide)).trans ((qup_j (by decide)).trans ((qup_j (by decide)).trans (qup_k))), (qup_j (by decide)).trans ((qup_j (by decide)).trans (qup_k)), (qup_j (by decide)).trans (qup_k), qup_k, fun t ht => absurd ht (Nat.not_lt_zero t), fun z j h1 h2 => (qup_f (by omega)).trans ((qup_f (by omega)).trans ((qup_f (by omega)).trans ((qup_f (by omega)).trans ((qup_f (by omega)).trans (qup_f (by omega))))))⟩
  have L32 : ∀ (m9 : Nat) (i : Nat) (wS : qW), 40 - i = m9 → (i ≤ L ∧ yInv zgf zga zra zSp wS ∧ CHP 91 2 w (w 92) (w 93) i wS) → qG none (d + 1) 111 32 [(2, 91), (2, 74), (0, ((i : Nat) : Int))] [] wS 142 Q9 := by
    intro m9
    induction m9 using Nat.strongRecOn with
    | ind m9 ih32 =>
    intro i wS hm32 hI32
    obtain ⟨hiL, hIS, hC⟩ := hI32
    obtain ⟨c4, c5, c6, c7, c8, c9, cv, hfr⟩ := hC
    refine qG.blk 3 (pc' := 37) (ls' := [(2, 91), (2, 74), (0, ((i : Nat) : Int))]) (st' := [(0, wS 91 2), (0, ((i : Nat) : Int))]) (w' := wS) (n' := 142) rfl ?_
    rw [show wS 91 2 = ((L : Nat) : Int) from (hfr 91 2 (by decide) (by omega)).trans hs]
    refine qG.br (P := ((i : Nat) : Int) < ((L : Nat) : Int)) (pc1 := 40) (pc2 := 112) (st1 := []) rfl (fun hiL2 => ?_) (fun hiL2 => ?_)
    · skip
      refine qG.blk 2 (pc' := 43) (ls' := [(2, 91), (2, 74), (0, ((i : Nat) : Int))]) (st' := [(0, 40), (0, ((i : Nat) : Int))]) (w' := wS) (n' := 142) rfl ?_
      refine qG.br (P := ((i : Nat) : Int) < 40) (pc1 := 46) (pc2 := 112) (st1 := []) rfl (fun hi40 => ?_) (fun hi40 => ?_)
      · skip
        refine qG.blk 3 (pc' := 51) (ls' := [(2, 91), (2, 74), (0, ((i : Nat) : Int))]) (st' := [(2, wS 91 0), (2, 91)]) (w' := wS) (n' := 142) rfl ?_
        rw [show wS 91 0 = 92 from zref hIS rfl rfl]
        refine qG.blk 1 (pc' := 52) (ls' := [(2, 91), (2, 74), (0, ((i : Nat) : Int))]) (st' := [(0, ((i : Nat) : Int)), (2, 92), (2, 91)]) (w' := wS) (n' := 142) rfl ?_
        refine qG.ar (P := 0 ≤ ((i : Nat) : Int) ∧ ((i : Nat) : Int) < ((40 : Nat) : Int)) (P2 := 0 < (92 : Int) ∧ (92 : Int) ≤ ((142 : Nat) : Int)) (pc' := 53) (ls' := [(2, 91), (2, 74), (0, ((i : Nat) : Int))]) (st' := [(0, wS 92 i), (2, 91)]) (w' := wS) (n' := 142) rfl (by omega) (by decide) ?_
        rw [show wS 92 i = w 92 i from hfr 92 i (by decide) (by omega)]
        refine qG.blk 2 (pc' := 57) (ls' := [(2, 91), (2, 74), (0, ((i : Nat) : Int))]) (st' := [(2, wS 91 1), (0, w 92 i), (2, 91)]) (w' := wS) (n' := 142) rfl ?_
        rw [show wS 91 1 = 93 from zref hIS rfl rfl]
        refine qG.blk 1 (pc' := 58) (ls' := [(2, 91), (2, 74), (0, ((i : Nat) : Int))]) (st' := [(0, ((i : Nat) : Int)), (2, 93), (0, w 92 i), (2, 91)]) (w' := wS) (n' := 142) rfl ?_
        refine qG.ar (P := 0 ≤ ((i : Nat) : Int) ∧ ((i : Nat) : Int) < ((40 : Nat) : Int)) (P2 := 0 < (93 : Int) ∧ (93 : Int) ≤ ((142 : Nat) : Int)) (pc' := 59) (ls' := [(2, 91), (2, 74), (0, ((i : Nat) : Int))]) (st' := [(0, wS 93 i), (0, w 92 i), (2, 91)]) (w' := wS) (n' := 142) rfl (by omega) (by decide) ?_
        rw [show wS 93 i = w 93 i from hfr 93 i (by decide) (by omega)]
        refine qG.call (t := 112) (na := 3) (sk := 1) (md := 1) (ls1 := [(2, 91), (0, w 92 i), (0, w 93 i)]) (r1 := []) rfl rfl rfl rfl rfl (K_take91 (Nat.zero_le _) (w 92 i) (w 93 i) (hKN i (by omega)).1 (hI.2.1 93 i (-2147483648, 2147483647) rfl rfl) wS hIS) ?_
        rintro _ wA _ ⟨rfl, rfl, hIA, t4, t5, t6, t9, tfr⟩
        have hA4 : wA 91 4 = oF (w 92) (w 93) (i + 1) := by rw [t4, c4]; rfl
        have hA5 : wA 91 5 = caF (w 92) (w 93) (i + 1) := by rw [t5, c5]; rfl
        have hA6 : wA 91 6 = sdF (w 92) (i + 1) := by rw [t6, c6]; rfl
        have hA9 : wA 91 9 = tuF (w 92) (i + 1) := by rw [t9, c9]; rfl
        have hA8 : wA 91 8 = moF (w 92) (w 93) i := (tfr 91 8 (by omega)).trans c8
        have hA7 : wA 91 7 = asF w 2 (w 92) (w 93) i := (tfr 91 7 (by omega)).trans c7
        obtain ⟨m9, hm9, hm10⟩ := oF_n hKN (i + 1) (by omega)
        show qG none (d + 1) 111 62 [(2, 91), (2, 74), (0, ((i : Nat) : Int))] [] wA 142 Q9
        refine qG.blk 3 (pc' := 67) (ls' := [(2, 91), (2, 74), (0, ((i : Nat) : Int))]) (st' := [(0, wA 91 8), (2, 91)]) (w' := wA) (n' := 142) rfl ?_
        rw [show wA 91 8 = moF (w 92) (w 93) i from hA8]
        refine qG.blk 2 (pc' := 71) (ls' := [(2, 91), (2, 74), (0, ((i : Nat) : Int))]) (st' := [(0, wA 91 4), (0, moF (w 92) (w 93) i), (2, 91)]) (w' := wA) (n' := 142) rfl ?_
        rw [show wA 91 4 = oF (w 92) (w 93) (i + 1) from hA4]
        refine qG.call (t := 302) (na := 1) (sk := 0) (md := 0) (ls1 := [(0, oF (w 92) (w 93) (i + 1))]) (r1 := [(0, moF (w 92) (w 93) i), (2, 91)]) rfl rfl rfl rfl rfl (K_bcJ (Nat.zero_le _) (oF (w 92) (w 93) (i + 1)) (by rw [hm9]; omega) (by rw [hm9]; omega) _) ?_
        rintro _ w7 _ ⟨rfl, hw7, rfl⟩
        rw [hw7, show bitsF (oF (w 92) (w 93) (i + 1)) 30 = bitsF (oF (w 92) (w 93) (i + 1)) 16 from by rw [hm9, bitsF_n (by omega) 30 (by decide), bitsF_n (by omega) 16 (by decide), pcn_h (by omega)]]
        show qG none (d + 1) 111 74 [(2, 91), (2, 74), (0, ((i : Nat) : Int))] [(0, bitsF (oF (w 92) (w 93) (i + 1)) 16), (0, moF (w 92) (w 93) i), (2, 91)] wA 142 Q9
        refine qG.mth rfl rfl rfl rfl (pc' := 77) (ls' := [(2, 91), (2, 74), (0, ((i : Nat) : Int))]) (st' := [(0, (if moF (w 92) (w 93) i < bitsF (oF (w 92) (w 93) (i + 1)) 16 then bitsF (oF (w 92) (w 93) (i + 1)) 16 else moF (w 92) (w 93) i)), (2, 91)]) (w' := wA) (n' := 142) rfl ?_
        refine qG.blk 3 (pc' := 84) (ls' := [(2, 91), (2, 74), (0, ((i : Nat) : Int))]) (st' := [(2, wA 91 3)]) (w' := (qup wA 91 8 (if moF (w 92) (w 93) i < bitsF (oF (w 92) (w 93) (i + 1)) 16 then bitsF (oF (w 92) (w 93) (i + 1)) 16 else moF (w 92) (w 93) i))) (n' := 142) rfl ?_
        rw [show wA 91 3 = 94 from zref hIA rfl rfl]
        refine qG.blk 3 (pc' := 87) (ls' := [(2, 91), (2, 74), (0, ((i : Nat) : Int))]) (st' := [(2, 74), (2, 91), (0, ((i : Nat) : Int)), (2, 94)]) (w' := (qup wA 91 8 (if moF (w 92) (w 93) i < bitsF (oF (w 92) (w 93) (i + 1)) 16 then bitsF (oF (w 92) (w 93) (i + 1)) 16 else moF (w 92) (w 93) i))) (n' := 142) rfl ?_
        obtain ⟨wB, hwB⟩ : ∃ z : qW, z = (qup wA 91 8 (if moF (w 92) (w 93) i < bitsF (oF (w 92) (w 93) (i + 1)) 16 then bitsF (oF (w 92) (w 93) (i + 1)) 16 else moF (w 92) (w 93) i)) := ⟨_, rfl⟩
        rw [← hwB]
        have hIB : yInv zgf zga zra zSp wB := by rw [hwB]; exact zup_f hIA (b := (0, 63)) rfl rfl rfl (by have z := bitsF_in (oF (w 92) (w 93) (i + 1)) 16; have z2 := hIA.1 91 8 (0, 63) rfl rfl; rw [hA8] at z2; have z3 : (0 : Int) ≤ moF (w 92) (w 93) i := z2.1; have z4 : moF (w 92) (w 93) i ≤ (63 : Int) := z2.2; split <;> exact ⟨by show (0 : Int) ≤ _; omega, by show _ ≤ (63 : Int); omega⟩)
        have hB8 : wB 91 8 = moF (w 92) (w 93) (i + 1) := by rw [hwB, qup_k]; rfl
        have hBo : ∀ z j, ¬ (z = 91 ∧ j = 8) → wB z j = wA z j := fun z j h => by rw [hwB]; exact qup_f h
        have hB7 : wB 91 7 = asF w 2 (w 92) (w 93) i := (hBo 91 7 (by omega)).trans hA7
        have hBw : ∀ z j, z ≠ 94 → ¬ (z = 91 ∧ 4 ≤ j ∧ j ≤ 9) → wB z j = w z j := fun z j h1 h2 => (hBo z j (by omega)).trans ((tfr z j (by omega)).trans (hfr z j h1 h2))
        have hEB : JE wB := fun c2 d2 a b => by rw [hBw (66 + 5 * c2) d2 (by omega) (by omega), hBw (67 + 5 * c2) d2 (by omega) (by omega), hBw (68 + 5 * c2) d2 (by omega) (by omega), hBw 97 _ (by decide) (by omega), hBw 98 _ (by decide) (by omega), hBw 100 _ (by decide) (by omega)]; exact hE c2 d2 a b
        have hKB : wB 74 0 = wB 96 2 := by rw [hBw 74 0 (by decide) (by omega), hBw 96 2 (by decide) (by omega)]; exact hK
        have hvB : seG wB 2 (wB 91 4) (wB 91 5) (wB 91 6) 10 = vwF w 2 (w 92) (w 93) i := by rw [hBo 91 4 (by omega), hBo 91 5 (by omega), hBo 91 6 (by omega), hA4, hA5, hA6]; exact seG_cg (fun j => hBw 96 j (by decide) (by omega)) (fun j => hBw 97 j (by decide) (by omega)) (fun j => hBw 98 j (by decide) (by omega)) (fun j => hBw 100 j (by decide) (by omega)) 2 _ _ _ 10
        refine qG.call (t := 113) (na := 2) (sk := 1) (md := 1) (ls1 := [(2, 91), (2, 74), (9, 0), (9, 0)]) (r1 := [(0, ((i : Nat) : Int)), (2, 94)]) rfl rfl rfl rfl rfl (K_view91_74 (by omega) m9 hm10 wB hIB ((hBo 91 4 (by omega)).trans (hA4.trans hm9)) hKB hEB) ?_
        rintro _ w7 _ ⟨rfl, hw7, rfl⟩
        rw [hw7, hvB]
        show qG none (d + 1) 111 90 [(2, 91), (2, 74), (0, ((i : Nat) : Int))] [(0, vwF w 2 (w 92) (w 93) i), (0, ((i : Nat) : Int)), (2, 94)] wB 142 Q9
        refine qG.ar (P := 0 ≤ ((i : Nat) : Int) ∧ ((i : Nat) : Int) < ((40 : Nat) : Int)) (P2 := 0 < (94 : Int) ∧ (94 : Int) ≤ ((142 : Nat) : Int)) (pc' := 91) (ls' := [(2, 91), (2, 74), (0, ((i : Nat) : Int))]) (st' := []) (w' := (qup wB 94 i (vwF w 2 (w 92) (w 93) i))) (n' := 142) rfl (by omega) (by decide) ?_
        refine qG.blk 3 (pc' := 96) (ls' := [(2, 91), (2, 74), (0, ((i : Nat) : Int))]) (st' := [(0, wB 91 7), (2, 91)]) (w' := (qup wB 94 i (vwF w 2 (w 92) (w 93) i))) (n' := 142) rfl ?_
        rw [show wB 91 7 = asF w 2 (w 92) (w 93) i from hB7]
        refine qG.blk 2 (pc' := 100) (ls' := [(2, 91), (2, 74), (0, ((i : Nat) : Int))]) (st' := [(2, wB 91 3), (0, asF w 2 (w 92) (w 93) i), (2, 91)]) (w' := (qup wB 94 i (vwF w 2 (w 92) (w 93) i))) (n' := 142) rfl ?_
        rw [show wB 91 3 = 94 from zref hIB rfl rfl]
        refine qG.blk 1 (pc' := 101) (ls' := [(2, 91), (2, 74), (0, ((i : Nat) : Int))]) (st' := [(0, ((i : Nat) : Int)), (2, 94), (0, asF w 2 (w 92) (w 93) i), (2, 91)]) (w' := (qup wB 94 i (vwF w 2 (w 92) (w 93) i))) (n' := 142) rfl ?_
        refine qG.ar (P := 0 ≤ ((i : Nat) : Int) ∧ ((i : Nat) : Int) < ((40 : Nat) : Int)) (P2 := 0 < (94 : Int) ∧ (94 : Int) ≤ ((142 : Nat) : Int)) (pc' := 102) (ls' := [(2, 91), (2, 74), (0, ((i : Nat) : Int))]) (st' := [(0, (qup wB 94 i (vwF w 2 (w 92) (w 93) i)) 94 i), (0, asF w 2 (w 92) (w 93) i), (2, 91)]) (w' := (qup wB 94 i (vwF w 2 (w 92) (w 93) i))) (n' := 142) rfl (by omega) (by decide) ?_
        rw [show (qup wB 94 i (vwF w 2 (w 92) (w 93) i)) 94 i = vwF w 2 (w 92) (w 93) i from by simp (disch := decide) only [qup_ne, qup_k]]
        refine qG.blk 3 (pc' := 109) (ls' := [(2, 91), (2, 74), (0, wrp (((i : Nat) : Int) + 1))]) (st' := []) (w' := (qup (qup wB 94 i (vwF w 2 (w 92) (w 93) i)) 91 7 (qor (asF w 2 (w 92) (w 93) i) (vwF w 2 (w 92) (w 93) i)))) (n' := 142) rfl ?_
        rw [show wrp (((i : Nat) : Int) + 1) = ((i + 1 : Nat) : Int) from wrp_id (by omega) (by omega)]
        refine qG.blk 1 (pc' := 32) (ls' := [(2, 91), (2, 74), (0, ((i + 1 : Nat) : Int))]) (st' := []) (w' := (qup (qup wB 94 i (vwF w 2 (w 92) (w 93) i)) 91 7 (qor (asF w 2 (w 92) (w 93) i) (vwF w 2 (w 92) (w 93) i)))) (n' := 142) rfl ?_
        obtain ⟨wN, hwN⟩ : ∃ z : qW, z = (qup (qup wB 94 i (vwF w 2 (w 92) (w 93) i)) 91 7 (qor (asF w 2 (w 92) (w 93) i) (vwF w 2 (w 92) (w 93) i))) := ⟨_, rfl⟩
        rw [← hwN]
        have hIN : yInv zgf zga zra zSp wN := by rw [hwN]; exact zup_f (zup_a hIB (b := (0, 65535)) rfl rfl (vw_in hI hE (by decide))) (b := (0, 65535)) rfl rfl rfl (as_in hI hE (by decide) (i + 1))
        have hCN : CHP 91 2 w (w 92) (w 93) (i + 1) wN := by rw [hwN]; exact ⟨(by rw [qup_f (by omega), qup_f (by omega), hBo 91 4 (by omega)]; exact hA4), (by rw [qup_f (by omega), qup_f (by omega), hBo 91 5 (by omega)]; exact hA5), (by rw [qup_f (by omega), qup_f (by omega), hBo 91 6 (by omega)]; exact hA6), qup_k, (by rw [qup_f (by omega), qup_f (by omega)]; exact hB8), (by rw [qup_f (by omega), qup_f (by omega), hBo 91 9 (by omega)]; exact hA9), (fun t ht => (qup_f (by omega)).trans (if e : t = i then (by rw [e]; exact qup_k) else ((qup_j e).trans ((hBo 94 t (by omega)).trans ((tfr 94 t (by omega)).trans (cv t (by omega))))))), fun z j h1 h2 => (qup_f (by omega)).trans ((qup_f (by omega)).trans (hBw z j h1 h2))⟩
        exact ih32 _ (by omega) (i + 1) (wN) rfl (⟨by omega, hIN, hCN⟩)
      · exfalso; omega
    · skip
      refine qG.retv rfl rfl ?_
      subst hQ9
      exact ⟨rfl, rfl, hIS, by rw [show L = i by omega]; exact ⟨c4, c5, c6, c7, c8, c9, cv, hfr⟩⟩
  exact L32 _ (0) (w0) rfl (⟨Nat.zero_le _, hI0, hC0⟩)
