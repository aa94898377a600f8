/-! the two outer constructors -/
noncomputable def hbI (w9 E : qW) (a s : Nat) : Prop := ∀ p j, w9 p j = if p = a then (if j < s then 1 else 0) else E p j
theorem hbI.z {E : qW} {a : Nat} (h : ∀ j, E a j = 0) : hbI E E a 0 := fun p j => by
  by_cases h1 : p = a
  · rw [if_pos h1, if_neg (by omega), h1, h]
  · rw [if_neg h1]
theorem hbI.out {w8 E : qW} {a s p : Nat} (h : hbI w8 E a s) (hp : p ≠ a) (j : Nat) : w8 p j = E p j := by rw [h, if_neg hp]
theorem hbI.yes {w8 E : qW} {a s : Nat} (h : hbI w8 E a s) : hbI (qup w8 a s 1) E a (s + 1) := fun p j => by
  by_cases h1 : p = a
  · subst h1
    rw [if_pos rfl]
    by_cases h3 : j = s
    · subst h3
      rw [qup_k, if_pos (by omega)]
    · rw [qup_j h3, h, if_pos rfl]
      by_cases h4 : j < s
      · rw [if_pos h4, if_pos (by omega)]
      · rw [if_neg h4, if_neg (by omega)]
  · rw [qup_ne h1, h, if_neg h1, if_neg h1]
theorem hbI.fin {w9 E X : qW} {a s : Nat} (h : hbI w9 E a s) (hs : s = 36) (hE : ∀ p j, p ≠ a → E p j = X p j) (ha : ∀ j, X a j = if j < 36 then 1 else 0) (p j : Nat) : w9 p j = X p j := by
  subst hs
  rw [h p j]
  by_cases h1 : p = a
  · rw [if_pos h1, h1, ha]
  · rw [if_neg h1, hE p j h1]
theorem K_X4_init_45 {d : Nat} (hd : 1 ≤ d) (w : qW) (hz : ∀ j, w 45 j = 0) : qG none d 54 0 [(2, 45), (9, 0)] [] w 45 (fun (r : qV) (w1 : qW) (n1 : Nat) => r = (9, 0) ∧ qFr w w1 45 56 ∧ n1 = 56) := by
  generalize hQ9 : (fun (r : qV) (w1 : qW) (n1 : Nat) => r = (9, 0) ∧ qFr w w1 45 56 ∧ n1 = 56) = Q9
  obtain ⟨d, rfl⟩ : ∃ d9, d = d9 + 1 := ⟨d - 1, by omega⟩
  refine qG.blk 1 (pc' := 1) (ls' := [(2, 45), (9, 0)]) (st' := [(2, 45)]) (w' := w) (n' := 45) rfl ?_
  refine qG.oin rfl rfl (by decide) ?_
  refine qG.blk 5 (pc' := 12) (ls' := [(2, 45), (9, 0)]) (st' := [(0, 12), (2, 45)]) (w' := (qup w 45 0 0)) (n' := 45) rfl ?_
  refine qG.blk 1 (pc' := 14) (ls' := [(2, 45), (9, 0)]) (st' := [(2, 46), (2, 45)]) (w' := (qclr (qup w 45 0 0) 46)) (n' := 46) rfl ?_
  refine qG.blk 3 (pc' := 20) (ls' := [(2, 45), (9, 0)]) (st' := [(0, 12), (2, 45)]) (w' := (qup (qclr (qup w 45 0 0) 46) 45 1 46)) (n' := 46) rfl ?_
  refine qG.blk 1 (pc' := 22) (ls' := [(2, 45), (9, 0)]) (st' := [(2, 47), (2, 45)]) (w' := (qclr (qup (qclr (qup w 45 0 0) 46) 45 1 46) 47)) (n' := 47) rfl ?_
  refine qG.blk 3 (pc' := 28) (ls' := [(2, 45), (9, 0)]) (st' := [(0, 12), (2, 45)]) (w' := (qup (qclr (qup (qclr (qup w 45 0 0) 46) 45 1 46) 47) 45 2 47)) (n' := 47) rfl ?_
  refine qG.blk 1 (pc' := 30) (ls' := [(2, 45), (9, 0)]) (st' := [(2, 48), (2, 45)]) (w' := (qclr (qup (qclr (qup (qclr (qup w 45 0 0) 46) 45 1 46) 47) 45 2 47) 48)) (n' := 48) rfl ?_
  refine qG.blk 3 (pc' := 36) (ls' := [(2, 45), (9, 0)]) (st' := [(0, 36), (2, 45)]) (w' := (qup (qclr (qup (qclr (qup (qclr (qup w 45 0 0) 46) 45 1 46) 47) 45 2 47) 48) 45 3 48)) (n' := 48) rfl ?_
  refine qG.blk 1 (pc' := 38) (ls' := [(2, 45), (9, 0)]) (st' := [(2, 49), (2, 45)]) (w' := (qclr (qup (qclr (qup (qclr (qup (qclr (qup w 45 0 0) 46) 45 1 46) 47) 45 2 47) 48) 45 3 48) 49)) (n' := 49) rfl ?_
  refine qG.blk 3 (pc' := 45) (ls' := [(2, 45), (9, 0)]) (st' := [(0, 1200), (2, 45)]) (w' := (qup (qclr (qup (qclr (qup (qclr (qup (qclr (qup w 45 0 0) 46) 45 1 46) 47) 45 2 47) 48) 45 3 48) 49) 45 4 49)) (n' := 49) rfl ?_
  refine qG.blk 1 (pc' := 47) (ls' := [(2, 45), (9, 0)]) (st' := [(2, 50), (2, 45)]) (w' := (qclr (qup (qclr (qup (qclr (qup (qclr (qup (qclr (qup w 45 0 0) 46) 45 1 46) 47) 45 2 47) 48) 45 3 48) 49) 45 4 49) 50)) (n' := 50) rfl ?_
  refine qG.blk 9 (pc' := 63) (ls' := [(2, 45), (9, 0)]) (st' := [(0, 60), (2, 45)]) (w' := (qup (qup (qup (qclr (qup (qclr (qup (qclr (qup (qclr (qup (qclr (qup w 45 0 0) 46) 45 1 46) 47) 45 2 47) 48) 45 3 48) 49) 45 4 49) 50) 45 5 50) 45 6 0) 45 7 0)) (n' := 50) rfl ?_
  refine qG.blk 1 (pc' := 65) (ls' := [(2, 45), (9, 0)]) (st' := [(2, 51), (2, 45)]) (w' := (qclr (qup (qup (qup (qclr (qup (qclr (qup (qclr (qup (qclr (qup (qclr (qup w 45 0 0) 46) 45 1 46) 47) 45 2 47) 48) 45 3 48) 49) 45 4 49) 50) 45 5 50) 45 6 0) 45 7 0) 51)) (n' := 51) rfl ?_
  refine qG.blk 3 (pc' := 71) (ls' := [(2, 45), (9, 0)]) (st' := [(0, 60), (2, 45)]) (w' := (qup (qclr (qup (qup (qup (qclr (qup (qclr (qup (qclr (qup (qclr (qup (qclr (qup w 45 0 0) 46) 45 1 46) 47) 45 2 47) 48) 45 3 48) 49) 45 4 49) 50) 45 5 50) 45 6 0) 45 7 0) 51) 45 8 51)) (n' := 51) rfl ?_
  refine qG.blk 1 (pc' := 73) (ls' := [(2, 45), (9, 0)]) (st' := [(2, 52), (2, 45)]) (w' := (qclr (qup (qclr (qup (qup (qup (qclr (qup (qclr (qup (qclr (qup (qclr (qup (qclr (qup w 45 0 0) 46) 45 1 46) 47) 45 2 47) 48) 45 3 48) 49) 45 4 49) 50) 45 5 50) 45 6 0) 45 7 0) 51) 45 8 51) 52)) (n' := 52) rfl ?_
  refine qG.blk 3 (pc' := 79) (ls' := [(2, 45), (9, 0)]) (st' := [(0, 60), (2, 45)]) (w' := (qup (qclr (qup (qclr (qup (qup (qup (qclr (qup (qclr (qup (qclr (qup (qclr (qup (qclr (qup w 45 0 0) 46) 45 1 46) 47) 45 2 47) 48) 45 3 48) 49) 45 4 49) 50) 45 5 50) 45 6 0) 45 7 0) 51) 45 8 51) 52) 45 9 52)) (n' := 52) rfl ?_
  refine qG.blk 1 (pc' := 81) (ls' := [(2, 45), (9, 0)]) (st' := [(2, 53), (2, 45)]) (w' := (qclr (qup (qclr (qup (qclr (qup (qup (qup (qclr (qup (qclr (qup (qclr (qup (qclr (qup (qclr (qup w 45 0 0) 46) 45 1 46) 47) 45 2 47) 48) 45 3 48) 49) 45 4 49) 50) 45 5 50) 45 6 0) 45 7 0) 51) 45 8 51) 52) 45 9 52) 53)) (n' := 53) rfl ?_
  refine qG.blk 3 (pc' := 87) (ls' := [(2, 45), (9, 0)]) (st' := [(0, 60), (2, 45)]) (w' := (qup (qclr (qup (qclr (qup (qclr (qup (qup (qup (qclr (qup (qclr (qup (qclr (qup (qclr (qup (qclr (qup w 45 0 0) 46) 45 1 46) 47) 45 2 47) 48) 45 3 48) 49) 45 4 49) 50) 45 5 50) 45 6 0) 45 7 0) 51) 45 8 51) 52) 45 9 52) 53) 45 10 53)) (n' := 53) rfl ?_
  refine qG.blk 1 (pc' := 89) (ls' := [(2, 45), (9, 0)]) (st' := [(2, 54), (2, 45)]) (w' := (qclr (qup (qclr (qup (qclr (qup (qclr (qup (qup (qup (qclr (qup (qclr (qup (qclr (qup (qclr (qup (qclr (qup w 45 0 0) 46) 45 1 46) 47) 45 2 47) 48) 45 3 48) 49) 45 4 49) 50) 45 5 50) 45 6 0) 45 7 0) 51) 45 8 51) 52) 45 9 52) 53) 45 10 53) 54)) (n' := 54) rfl ?_
  refine qG.blk 3 (pc' := 95) (ls' := [(2, 45), (9, 0)]) (st' := [(0, 60), (2, 45)]) (w' := (qup (qclr (qup (qclr (qup (qclr (qup (qclr (qup (qup (qup (qclr (qup (qclr (qup (qclr (qup (qclr (qup (qclr (qup w 45 0 0) 46) 45 1 46) 47) 45 2 47) 48) 45 3 48) 49) 45 4 49) 50) 45 5 50) 45 6 0) 45 7 0) 51) 45 8 51) 52) 45 9 52) 53) 45 10 53) 54) 45 11 54)) (n' := 54) rfl ?_
  refine qG.blk 1 (pc' := 97) (ls' := [(2, 45), (9, 0)]) (st' := [(2, 55), (2, 45)]) (w' := (qclr (qup (qclr (qup (qclr (qup (qclr (qup (qclr (qup (qup (qup (qclr (qup (qclr (qup (qclr (qup (qclr (qup (qclr (qup w 45 0 0) 46) 45 1 46) 47) 45 2 47) 48) 45 3 48) 49) 45 4 49) 50) 45 5 50) 45 6 0) 45 7 0) 51) 45 8 51) 52) 45 9 52) 53) 45 10 53) 54) 45 11 54) 55)) (n' := 55) rfl ?_
  refine qG.blk 3 (pc' := 103) (ls' := [(2, 45), (9, 0)]) (st' := [(0, 12), (2, 45)]) (w' := (qup (qclr (qup (qclr (qup (qclr (qup (qclr (qup (qclr (qup (qup (qup (qclr (qup (qclr (qup (qclr (qup (qclr (qup (qclr (qup w 45 0 0) 46) 45 1 46) 47) 45 2 47) 48) 45 3 48) 49) 45 4 49) 50) 45 5 50) 45 6 0) 45 7 0) 51) 45 8 51) 52) 45 9 52) 53) 45 10 53) 54) 45 11 54) 55) 45 12 55)) (n' := 55) rfl ?_
  refine qG.blk 1 (pc' := 105) (ls' := [(2, 45), (9, 0)]) (st' := [(2, 56), (2, 45)]) (w' := (qclr (qup (qclr (qup (qclr (qup (qclr (qup (qclr (qup (qclr (qup (qup (qup (qclr (qup (qclr (qup (qclr (qup (qclr (qup (qclr (qup w 45 0 0) 46) 45 1 46) 47) 45 2 47) 48) 45 3 48) 49) 45 4 49) 50) 45 5 50) 45 6 0) 45 7 0) 51) 45 8 51) 52) 45 9 52) 53) 45 10 53) 54) 45 11 54) 55) 45 12 55) 56)) (n' := 56) rfl ?_
  refine qG.blk 3 (pc' := 110) (ls' := [(2, 45), (0, 0)]) (st' := []) (w' := (qup (qclr (qup (qclr (qup (qclr (qup (qclr (qup (qclr (qup (qclr (qup (qup (qup (qclr (qup (qclr (qup (qclr (qup (qclr (qup (qclr (qup w 45 0 0) 46) 45 1 46) 47) 45 2 47) 48) 45 3 48) 49) 45 4 49) 50) 45 5 50) 45 6 0) 45 7 0) 51) 45 8 51) 52) 45 9 52) 53) 45 10 53) 54) 45 11 54) 55) 45 12 55) 56) 45 13 56)) (n' := 56) rfl ?_
  have L110 : ∀ (m9 : Nat) (s : Nat) (w9 : qW), 36 - s = m9 → (s ≤ 36 ∧ hbI w9 (qup (qclr (qup (qclr (qup (qclr (qup (qclr (qup (qclr (qup (qclr (qup (qup (qup (qclr (qup (qclr (qup (qclr (qup (qclr (qup (qclr (qup w 45 0 0) 46) 45 1 46) 47) 45 2 47) 48) 45 3 48) 49) 45 4 49) 50) 45 5 50) 45 6 0) 45 7 0) 51) 45 8 51) 52) 45 9 52) 53) 45 10 53) 54) 45 11 54) 55) 45 12 55) 56) 45 13 56) 49 s) → qG none (d + 1) 54 110 [(2, 45), (0, ((s : Nat) : Int))] [] w9 56 Q9 := by
    intro m9
    induction m9 using Nat.strongRecOn with
    | ind m9 ih110 =>
    intro s w9 hm110 hI110
    refine qG.blk 3 (pc' := 115) (ls' := [(2, 45), (0, ((s : Nat) : Int))]) (st' := [(2, w9 45 4), (0, ((s : Nat) : Int))]) (w' := w9) (n' := 56) rfl ?_
    rw [show w9 45 4 = 49 from by rw [show w9 45 4 = (qup (qclr (qup (qclr (qup (qclr (qup (qclr (qup (qclr (qup (qclr (qup (qup (qup (qclr (qup (qclr (qup (qclr (qup (qclr (qup (qclr (qup w 45 0 0) 46) 45 1 46) 47) 45 2 47) 48) 45 3 48) 49) 45 4 49) 50) 45 5 50) 45 6 0) 45 7 0) 51) 45 8 51) 52) 45 9 52) 53) 45 10 53) 54) 45 11 54) 55) 45 12 55) 56) 45 13 56) 45 4 from hI110.2.out (by decide) 4]; rfl]
    refine qG.blk 1 (pc' := 116) (ls' := [(2, 45), (0, ((s : Nat) : Int))]) (st' := [(0, 36), (0, ((s : Nat) : Int))]) (w' := w9) (n' := 56) rfl ?_
    refine qG.br (P := ((s : Nat) : Int) < 36) (pc1 := 119) (pc2 := 132) (st1 := []) rfl (fun h1 => ?_) (fun h1 => ?_)
    · skip
      refine qG.blk 2 (pc' := 123) (ls' := [(2, 45), (0, ((s : Nat) : Int))]) (st' := [(2, w9 45 4)]) (w' := w9) (n' := 56) rfl ?_
      rw [show w9 45 4 = 49 from by rw [show w9 45 4 = (qup (qclr (qup (qclr (qup (qclr (qup (qclr (qup (qclr (qup (qclr (qup (qup (qup (qclr (qup (qclr (qup (qclr (qup (qclr (qup (qclr (qup w 45 0 0) 46) 45 1 46) 47) 45 2 47) 48) 45 3 48) 49) 45 4 49) 50) 45 5 50) 45 6 0) 45 7 0) 51) 45 8 51) 52) 45 9 52) 53) 45 10 53) 54) 45 11 54) 55) 45 12 55) 56) 45 13 56) 45 4 from hI110.2.out (by decide) 4]; rfl]
      refine qG.blk 2 (pc' := 125) (ls' := [(2, 45), (0, ((s : Nat) : Int))]) (st' := [(0, 1), (0, ((s : Nat) : Int)), (2, 49)]) (w' := w9) (n' := 56) rfl ?_
      refine qG.ar (P := 0 ≤ ((s : Nat) : Int) ∧ ((s : Nat) : Int) < ((36 : Nat) : Int)) (P2 := 0 < (49 : Int) ∧ (49 : Int) ≤ ((56 : Nat) : Int)) (pc' := 126) (ls' := [(2, 45), (0, ((s : Nat) : Int))]) (st' := []) (w' := (qup w9 49 s 1)) (n' := 56) rfl (by omega) (by decide) ?_
      refine qG.blk 1 (pc' := 129) (ls' := [(2, 45), (0, wrp (((s : Nat) : Int) + 1))]) (st' := []) (w' := (qup w9 49 s 1)) (n' := 56) rfl ?_
      rw [show wrp (((s : Nat) : Int) + 1) = ((s + 1 : Nat) : Int) from wrp_id (by omega) (by omega)]
      refine qG.blk 1 (pc' := 110) (ls' := [(2, 45), (0, ((s + 1 : Nat) : Int))]) (st' := []) (w' := (qup w9 49 s 1)) (n' := 56) rfl ?_
      exact ih110 _ (by omega) (s + 1) ((qup w9 49 s 1)) rfl (⟨by omega, hI110.2.yes⟩)
    · skip
      refine qG.retv rfl rfl ?_
      subst hQ9
      refine ⟨rfl, hbI.fin hI110.2 (by omega) (X := fun p j => if p < 45 then w p j else if p ≤ 56 then qW0 p j else 0) (fun p j hp => ?_) (fun j => ?_), rfl⟩
      · show _ = if p < 45 then w p j else if p ≤ 56 then qW0 p j else 0
        by_cases c1 : p < 45
        · rw [if_pos c1]; simp (disch := first | decide | omega) only [qup_ne, qup_j, qclr_lo, qmul_lo]
        rw [if_neg c1]
        by_cases c2 : 56 < p
        · rw [if_neg (by omega)]; simp (disch := first | decide | omega) only [qup_ne, qup_j, qclr_lo, qmul_lo, qclr_at, qmul_hi]
        rw [if_pos (by omega)]
        rcases (show p = 45 ∨ p = 46 ∨ p = 47 ∨ p = 48 ∨ p = 49 ∨ p = 50 ∨ p = 51 ∨ p = 52 ∨ p = 53 ∨ p = 54 ∨ p = 55 ∨ p = 56 by omega) with rfl | rfl | rfl | rfl | rfl | rfl | rfl | rfl | rfl | rfl | rfl | rfl
        · by_cases c3 : j < 14
          · rcases (show j = 0 ∨ j = 1 ∨ j = 2 ∨ j = 3 ∨ j = 4 ∨ j = 5 ∨ j = 6 ∨ j = 7 ∨ j = 8 ∨ j = 9 ∨ j = 10 ∨ j = 11 ∨ j = 12 ∨ j = 13 by omega) with rfl | rfl | rfl | rfl | rfl | rfl | rfl | rfl | rfl | rfl | rfl | rfl | rfl | rfl <;> first | rfl | exact hz _ | (simp (disch := first | decide | omega) only [qup_ne, qup_j, qclr_lo, qmul_lo, qup_k, qclr_at, qmul_hi]; done) | (simp (disch := first | decide | omega) only [qup_ne, qup_j, qclr_lo, qmul_lo, qup_k, qclr_at, qmul_hi]; rfl) | (simp (disch := first | decide | omega) only [qup_ne, qup_j, qclr_lo, qmul_lo, qup_k, qclr_at, hz]; rfl)
          · first | (simp (disch := first | decide | omega) only [qup_ne, qup_j, qclr_lo, qmul_lo, hz]; unfold qW0; simp (disch := first | decide | omega) only [qbeq_f, qble_t]; rfl) | (simp (disch := first | decide | omega) only [qup_ne, qup_j, qclr_lo, qmul_lo, qclr_at]; unfold qW0; simp (disch := first | decide | omega) only [qbeq_f, qble_t]; rfl) | (simp (disch := first | decide | omega) only [qup_ne, qup_j, qclr_lo, qmul_lo, qclr_at]; done)
        · first | rfl | (simp (disch := first | decide | omega) only [qup_ne, qup_j, qclr_lo, qmul_lo, qup_k, qclr_at, qmul_hi]; done) | (simp (disch := first | decide | omega) only [qup_ne, qup_j, qclr_lo, qmul_lo, qup_k, qclr_at, qmul_hi]; rfl)
        · first | rfl | (simp (disch := first | decide | omega) only [qup_ne, qup_j, qclr_lo, qmul_lo, qup_k, qclr_at, qmul_hi]; done) | (simp (disch := first | decide | omega) only [qup_ne, qup_j, qclr_lo, qmul_lo, qup_k, qclr_at, qmul_hi]; rfl)
        · first | rfl | (simp (disch := first | decide | omega) only [qup_ne, qup_j, qclr_lo, qmul_lo, qup_k, qclr_at, qmul_hi]; done) | (simp (disch := first | decide | omega) only [qup_ne, qup_j, qclr_lo, qmul_lo, qup_k, qclr_at, qmul_hi]; rfl)
        · exact absurd rfl hp
        · first | rfl | (simp (disch := first | decide | omega) only [qup_ne, qup_j, qclr_lo, qmul_lo, qup_k, qclr_at, qmul_hi]; done) | (simp (disch := first | decide | omega) only [qup_ne, qup_j, qclr_lo, qmul_lo, qup_k, qclr_at, qmul_hi]; rfl)
        · first | rfl | (simp (disch := first | decide | omega) only [qup_ne, qup_j, qclr_lo, qmul_lo, qup_k, qclr_at, qmul_hi]; done) | (simp (disch := first | decide | omega) only [qup_ne, qup_j, qclr_lo, qmul_lo, qup_k, qclr_at, qmul_hi]; rfl)
        · first | rfl | (simp (disch := first | decide | omega) only [qup_ne, qup_j, qclr_lo, qmul_lo, qup_k, qclr_at, qmul_hi]; done) | (simp (disch := first | decide | omega) only [qup_ne, qup_j, qclr_lo, qmul_lo, qup_k, qclr_at, qmul_hi]; rfl)
        · first | rfl | (simp (disch := first | decide | omega) only [qup_ne, qup_j, qclr_lo, qmul_lo, qup_k, qclr_at, qmul_hi]; done) | (simp (disch := first | decide | omega) only [qup_ne, qup_j, qclr_lo, qmul_lo, qup_k, qclr_at, qmul_hi]; rfl)
        · first | rfl | (simp (disch := first | decide | omega) only [qup_ne, qup_j, qclr_lo, qmul_lo, qup_k, qclr_at, qmul_hi]; done) | (simp (disch := first | decide | omega) only [qup_ne, qup_j, qclr_lo, qmul_lo, qup_k, qclr_at, qmul_hi]; rfl)
        · first | rfl | (simp (disch := first | decide | omega) only [qup_ne, qup_j, qclr_lo, qmul_lo, qup_k, qclr_at, qmul_hi]; done) | (simp (disch := first | decide | omega) only [qup_ne, qup_j, qclr_lo, qmul_lo, qup_k, qclr_at, qmul_hi]; rfl)
        · first | rfl | (simp (disch := first | decide | omega) only [qup_ne, qup_j, qclr_lo, qmul_lo, qup_k, qclr_at, qmul_hi]; done) | (simp (disch := first | decide | omega) only [qup_ne, qup_j, qclr_lo, qmul_lo, qup_k, qclr_at, qmul_hi]; rfl)
      · show (if 49 < 45 then _ else if 49 ≤ 56 then qW0 49 j else 0) = _
        rw [if_neg (by decide), if_pos (by decide)]
        show (bif Nat.blt j 36 then (1 : Int) else 0) = _
        by_cases c3 : j < 36
        · rw [if_pos c3, show Nat.blt j 36 = true from Nat.ble_eq_true_of_le c3]; rfl
        · rw [if_neg c3, show Nat.blt j 36 = false from by cases hq : Nat.blt j 36; rfl; exact absurd (Nat.le_of_ble_eq_true hq) c3]; rfl
  exact L110 _ (0) ((qup (qclr (qup (qclr (qup (qclr (qup (qclr (qup (qclr (qup (qclr (qup (qup (qup (qclr (qup (qclr (qup (qclr (qup (qclr (qup (qclr (qup w 45 0 0) 46) 45 1 46) 47) 45 2 47) 48) 45 3 48) 49) 45 4 49) 50) 45 5 50) 45 6 0) 45 7 0) 51) 45 8 51) 52) 45 9 52) 53) 45 10 53) 54) 45 11 54) 55) 45 12 55) 56) 45 13 56)) rfl (⟨by omega, hbI.z (fun j => rfl)⟩)
theorem K_X11_init_1 {d : Nat} (hd : 3 ≤ d) (w : qW) (hz : ∀ j, w 1 j = 0) : qG none d 163 0 [(2, 1), (9, 0)] [] w 1 (fun (r : qV) (w1 : qW) (n1 : Nat) => r = (9, 0) ∧ qFr w w1 1 94 ∧ n1 = 94) := by
  generalize hQ9 : (fun (r : qV) (w1 : qW) (n1 : Nat) => r = (9, 0) ∧ qFr w w1 1 94 ∧ n1 = 94) = Q9
  obtain ⟨d, rfl⟩ : ∃ d9, d = d9 + 1 := ⟨d - 1, by omega⟩
  refine qG.blk 1 (pc' := 1) (ls' := [(2, 1), (9, 0)]) (st' := [(2, 1)]) (w' := w) (n' := 1) rfl ?_
  refine qG.oin rfl rfl (by decide) ?_
  refine qG.blk 2 (pc' := 6) (ls' := [(2, 1), (9, 0)]) (st' := [(0, 3), (2, 1)]) (w' := w) (n' := 1) rfl ?_
  refine qG.blk 1 (pc' := 9) (ls' := [(2, 1), (9, 0)]) (st' := [(2, 2), (2, 1)]) (w' := (qclr w 2)) (n' := 2) rfl ?_
  refine qG.blk 3 (pc' := 14) (ls' := [(2, 1), (9, 0)]) (st' := [(0, 4), (2, 1)]) (w' := (qup (qclr w 2) 1 0 2)) (n' := 2) rfl ?_
  refine qG.blk 1 (pc' := 17) (ls' := [(2, 1), (9, 0)]) (st' := [(2, 3), (2, 1)]) (w' := (qclr (qup (qclr w 2) 1 0 2) 3)) (n' := 3) rfl ?_
  refine qG.blk 2 (pc' := 21) (ls' := [(2, 1), (9, 0)]) (st' := [(2, 1)]) (w' := (qup (qclr (qup (qclr w 2) 1 0 2) 3) 1 1 3)) (n' := 3) rfl ?_
  refine qG.blk 1 (pc' := 24) (ls' := [(2, 1), (9, 0)]) (st' := [(2, 4), (2, 1)]) (w' := (qclr (qup (qclr (qup (qclr w 2) 1 0 2) 3) 1 1 3) 4)) (n' := 4) rfl ?_
  refine qG.blk 1 (pc' := 25) (ls' := [(2, 1), (9, 0)]) (st' := [(2, 4), (2, 4), (2, 1)]) (w' := (qclr (qup (qclr (qup (qclr w 2) 1 0 2) 3) 1 1 3) 4)) (n' := 4) rfl ?_
  refine qG.call (t := 106) (na := 1) (sk := 2) (md := 2) (ls1 := [(2, 4)]) (r1 := [(2, 4), (2, 1)]) rfl rfl rfl rfl rfl (K_X7_init_4 (by omega) _ (fun j => by first | rfl | simp (disch := first | decide | omega) only [qup_ne, qup_j, qclr_lo, qclr_at])) ?_
  rintro _ u4 _ ⟨rfl, hF4, rfl⟩
  show qG none (d + 1) 163 28 [(2, 1), (9, 0)] [(2, 4), (2, 1)] u4 7 Q9
  refine qG.blk 2 (pc' := 32) (ls' := [(2, 1), (9, 0)]) (st' := [(2, 1)]) (w' := (qup u4 1 2 4)) (n' := 7) rfl ?_
  refine qG.blk 1 (pc' := 35) (ls' := [(2, 1), (9, 0)]) (st' := [(2, 8), (2, 1)]) (w' := (qclr (qup u4 1 2 4) 8)) (n' := 8) rfl ?_
  refine qG.blk 1 (pc' := 36) (ls' := [(2, 1), (9, 0)]) (st' := [(2, 8), (2, 8), (2, 1)]) (w' := (qclr (qup u4 1 2 4) 8)) (n' := 8) rfl ?_
  refine qG.call (t := 128) (na := 1) (sk := 2) (md := 2) (ls1 := [(2, 8)]) (r1 := [(2, 8), (2, 1)]) rfl rfl rfl rfl rfl (K_X9_init_8 (by omega) _ (fun j => by first | rfl | simp (disch := first | decide | omega) only [qup_ne, qup_j, qclr_lo, qclr_at])) ?_
  rintro _ u8 _ ⟨rfl, hF8, rfl⟩
  show qG none (d + 1) 163 39 [(2, 1), (9, 0)] [(2, 8), (2, 1)] u8 11 Q9
  refine qG.blk 2 (pc' := 43) (ls' := [(2, 1), (9, 0)]) (st' := [(2, 1)]) (w' := (qup u8 1 3 8)) (n' := 11) rfl ?_
  refine qG.blk 1 (pc' := 46) (ls' := [(2, 1), (9, 0)]) (st' := [(2, 12), (2, 1)]) (w' := (qclr (qup u8 1 3 8) 12)) (n' := 12) rfl ?_
  refine qG.blk 1 (pc' := 47) (ls' := [(2, 1), (9, 0)]) (st' := [(2, 12), (2, 12), (2, 1)]) (w' := (qclr (qup u8 1 3 8) 12)) (n' := 12) rfl ?_
  refine qG.call (t := 74) (na := 1) (sk := 2) (md := 2) (ls1 := [(2, 12)]) (r1 := [(2, 12), (2, 1)]) rfl rfl rfl rfl rfl (K_X5_init_12 (by omega) _ (fun j => by first | rfl | simp (disch := first | decide | omega) only [qup_ne, qup_j, qclr_lo, qclr_at])) ?_
  rintro _ u12 _ ⟨rfl, hF12, rfl⟩
  show qG none (d + 1) 163 50 [(2, 1), (9, 0)] [(2, 12), (2, 1)] u12 22 Q9
  refine qG.blk 2 (pc' := 54) (ls' := [(2, 1), (9, 0)]) (st' := [(2, 1)]) (w' := (qup u12 1 4 12)) (n' := 22) rfl ?_
  refine qG.blk 1 (pc' := 57) (ls' := [(2, 1), (9, 0)]) (st' := [(2, 23), (2, 1)]) (w' := (qclr (qup u12 1 4 12) 23)) (n' := 23) rfl ?_
  refine qG.blk 1 (pc' := 58) (ls' := [(2, 1), (9, 0)]) (st' := [(2, 23), (2, 23), (2, 1)]) (w' := (qclr (qup u12 1 4 12) 23)) (n' := 23) rfl ?_
  refine qG.call (t := 33) (na := 1) (sk := 2) (md := 2) (ls1 := [(2, 23)]) (r1 := [(2, 23), (2, 1)]) rfl rfl rfl rfl rfl (K_X3_init_23 (by omega) _ (fun j => by first | rfl | simp (disch := first | decide | omega) only [qup_ne, qup_j, qclr_lo, qclr_at])) ?_
  rintro _ u23 _ ⟨rfl, hF23, rfl⟩
  show qG none (d + 1) 163 61 [(2, 1), (9, 0)] [(2, 23), (2, 1)] u23 40 Q9
  refine qG.blk 2 (pc' := 65) (ls' := [(2, 1), (9, 0)]) (st' := [(2, 1)]) (w' := (qup u23 1 5 23)) (n' := 40) rfl ?_
  refine qG.blk 1 (pc' := 68) (ls' := [(2, 1), (9, 0)]) (st' := [(2, 41), (2, 1)]) (w' := (qclr (qup u23 1 5 23) 41)) (n' := 41) rfl ?_
  refine qG.blk 1 (pc' := 69) (ls' := [(2, 1), (9, 0)]) (st' := [(2, 41), (2, 41), (2, 1)]) (w' := (qclr (qup u23 1 5 23) 41)) (n' := 41) rfl ?_
  refine qG.call (t := 8) (na := 1) (sk := 2) (md := 2) (ls1 := [(2, 41)]) (r1 := [(2, 41), (2, 1)]) rfl rfl rfl rfl rfl (K_X1_init_41 (by omega) _ (fun j => by first | rfl | simp (disch := first | decide | omega) only [qup_ne, qup_j, qclr_lo, qclr_at])) ?_
  rintro _ u41 _ ⟨rfl, hF41, rfl⟩
  show qG none (d + 1) 163 72 [(2, 1), (9, 0)] [(2, 41), (2, 1)] u41 44 Q9
  refine qG.blk 2 (pc' := 76) (ls' := [(2, 1), (9, 0)]) (st' := [(2, 1)]) (w' := (qup u41 1 6 41)) (n' := 44) rfl ?_
  refine qG.blk 1 (pc' := 79) (ls' := [(2, 1), (9, 0)]) (st' := [(2, 45), (2, 1)]) (w' := (qclr (qup u41 1 6 41) 45)) (n' := 45) rfl ?_
  refine qG.blk 1 (pc' := 80) (ls' := [(2, 1), (9, 0)]) (st' := [(2, 45), (2, 45), (2, 1)]) (w' := (qclr (qup u41 1 6 41) 45)) (n' := 45) rfl ?_
  refine qG.call (t := 54) (na := 1) (sk := 1) (md := 2) (ls1 := [(2, 45), (9, 0)]) (r1 := [(2, 45), (2, 1)]) rfl rfl rfl rfl rfl (K_X4_init_45 (by omega) _ (fun j => by first | rfl | simp (disch := first | decide | omega) only [qup_ne, qup_j, qclr_lo, qclr_at])) ?_
  rintro _ u45 _ ⟨rfl, hF45, rfl⟩
  show qG none (d + 1) 163 83 [(2, 1), (9, 0)] [(2, 45), (2, 1)] u45 56 Q9
  refine qG.blk 2 (pc' := 87) (ls' := [(2, 1), (9, 0)]) (st' := [(2, 1)]) (w' := (qup u45 1 7 45)) (n' := 56) rfl ?_
  refine qG.blk 1 (pc' := 90) (ls' := [(2, 1), (9, 0)]) (st' := [(2, 57), (2, 1)]) (w' := (qclr (qup u45 1 7 45) 57)) (n' := 57) rfl ?_
  refine qG.blk 1 (pc' := 91) (ls' := [(2, 1), (9, 0)]) (st' := [(2, 57), (2, 57), (2, 1)]) (w' := (qclr (qup u45 1 7 45) 57)) (n' := 57) rfl ?_
  refine qG.call (t := 0) (na := 1) (sk := 2) (md := 2) (ls1 := [(2, 57)]) (r1 := [(2, 57), (2, 1)]) rfl rfl rfl rfl rfl (K_X0_init_57 (by omega) _ (fun j => by first | rfl | simp (disch := first | decide | omega) only [qup_ne, qup_j, qclr_lo, qclr_at])) ?_
  rintro _ u57 _ ⟨rfl, hF57, rfl⟩
  show qG none (d + 1) 163 94 [(2, 1), (9, 0)] [(2, 57), (2, 1)] u57 60 Q9
  refine qG.blk 2 (pc' := 98) (ls' := [(2, 1), (9, 0)]) (st' := [(2, 1)]) (w' := (qup u57 1 8 57)) (n' := 60) rfl ?_
  refine qG.blk 1 (pc' := 101) (ls' := [(2, 1), (9, 0)]) (st' := [(2, 61), (2, 1)]) (w' := (qclr (qup u57 1 8 57) 61)) (n' := 61) rfl ?_
  refine qG.blk 1 (pc' := 102) (ls' := [(2, 1), (9, 0)]) (st' := [(2, 61), (2, 61), (2, 1)]) (w' := (qclr (qup u57 1 8 57) 61)) (n' := 61) rfl ?_
  refine qG.call (t := 154) (na := 1) (sk := 2) (md := 2) (ls1 := [(2, 61)]) (r1 := [(2, 61), (2, 1)]) rfl rfl rfl rfl rfl (K_X10_init_61 (by omega) _ (fun j => by first | rfl | simp (disch := first | decide | omega) only [qup_ne, qup_j, qclr_lo, qclr_at])) ?_
  rintro _ u61 _ ⟨rfl, hF61, rfl⟩
  show qG none (d + 1) 163 105 [(2, 1), (9, 0)] [(2, 61), (2, 1)] u61 63 Q9
  refine qG.blk 5 (pc' := 112) (ls' := [(2, 1), (0, 0)]) (st' := [(0, 3), (0, 0)]) (w' := (qup u61 1 9 61)) (n' := 63) rfl ?_
  refine qG.br (P := (0 : Int) < 3) (pc1 := 115) (pc2 := 134) (st1 := []) rfl (fun h1 => ?_) (fun h1 => ?_)
  · skip
    refine qG.blk 2 (pc' := 119) (ls' := [(2, 1), (0, 0)]) (st' := [(2, u61 1 0)]) (w' := (qup u61 1 9 61)) (n' := 63) rfl ?_
    rw [show u61 1 0 = 2 from by simp (disch := first | decide | omega) only [hF4.lo, hF8.lo, hF12.lo, hF23.lo, hF41.lo, hF45.lo, hF57.lo, hF61.lo, qup_ne, qup_j, qup_k, qclr_lo, qclr_at]]
    refine qG.blk 1 (pc' := 120) (ls' := [(2, 1), (0, 0)]) (st' := [(0, 0), (2, 2)]) (w' := (qup u61 1 9 61)) (n' := 63) rfl ?_
    refine qG.blk 1 (pc' := 123) (ls' := [(2, 1), (0, 0)]) (st' := [(2, 64), (0, 0), (2, 2)]) (w' := (qclr (qup u61 1 9 61) 64)) (n' := 64) rfl ?_
    refine qG.blk 1 (pc' := 124) (ls' := [(2, 1), (0, 0)]) (st' := [(2, 64), (2, 64), (0, 0), (2, 2)]) (w' := (qclr (qup u61 1 9 61) 64)) (n' := 64) rfl ?_
    refine qG.call (t := 17) (na := 1) (sk := 1) (md := 2) (ls1 := [(2, 64), (9, 0), (9, 0)]) (r1 := [(2, 64), (0, 0), (2, 2)]) rfl rfl rfl rfl rfl (K_X2_init_64 (by omega) _ (fun j => by first | rfl | simp (disch := first | decide | omega) only [qup_ne, qup_j, qclr_lo, qclr_at])) ?_
    rintro _ u64 _ ⟨rfl, hF64, rfl⟩
    show qG none (d + 1) 163 127 [(2, 1), (0, 0)] [(2, 64), (0, 0), (2, 2)] u64 68 Q9
    refine qG.ar (P := 0 ≤ 0 ∧ 0 < ((3 : Nat) : Int)) (P2 := (0 < (2 : Int) ∧ (2 : Int) ≤ ((68 : Nat) : Int)) ∧ 0 < 64 ∧ 64 ≤ ((68 : Nat) : Int)) (pc' := 128) (ls' := [(2, 1), (0, 0)]) (st' := []) (w' := (qup u64 2 0 64)) (n' := 68) rfl (by omega) (by omega) ?_
    refine qG.blk 1 (pc' := 131) (ls' := [(2, 1), (0, wrp (0 + 1))]) (st' := []) (w' := (qup u64 2 0 64)) (n' := 68) rfl ?_
    rw [show wrp (0 + 1) = 1 from wrp_id (by omega) (by omega)]
    refine qG.blk 3 (pc' := 112) (ls' := [(2, 1), (0, 1)]) (st' := [(0, 3), (0, 1)]) (w' := (qup u64 2 0 64)) (n' := 68) rfl ?_
    refine qG.br (P := (1 : Int) < 3) (pc1 := 115) (pc2 := 134) (st1 := []) rfl (fun h2 => ?_) (fun h2 => ?_)
    · skip
      refine qG.blk 2 (pc' := 119) (ls' := [(2, 1), (0, 1)]) (st' := [(2, u64 1 0)]) (w' := (qup u64 2 0 64)) (n' := 68) rfl ?_
      rw [show u64 1 0 = 2 from by simp (disch := first | decide | omega) only [hF4.lo, hF8.lo, hF12.lo, hF23.lo, hF41.lo, hF45.lo, hF57.lo, hF61.lo, hF64.lo, qup_ne, qup_j, qup_k, qclr_lo, qclr_at]]
      refine qG.blk 1 (pc' := 120) (ls' := [(2, 1), (0, 1)]) (st' := [(0, 1), (2, 2)]) (w' := (qup u64 2 0 64)) (n' := 68) rfl ?_
      refine qG.blk 1 (pc' := 123) (ls' := [(2, 1), (0, 1)]) (st' := [(2, 69), (0, 1), (2, 2)]) (w' := (qclr (qup u64 2 0 64) 69)) (n' := 69) rfl ?_
      refine qG.blk 1 (pc' := 124) (ls' := [(2, 1), (0, 1)]) (st' := [(2, 69), (2, 69), (0, 1), (2, 2)]) (w' := (qclr (qup u64 2 0 64) 69)) (n' := 69) rfl ?_
      refine qG.call (t := 17) (na := 1) (sk := 1) (md := 2) (ls1 := [(2, 69), (9, 0), (9, 0)]) (r1 := [(2, 69), (0, 1), (2, 2)]) rfl rfl rfl rfl rfl (K_X2_init_69 (by omega) _ (fun j => by first | rfl | simp (disch := first | decide | omega) only [qup_ne, qup_j, qclr_lo, qclr_at])) ?_
      rintro _ u69 _ ⟨rfl, hF69, rfl⟩
      show qG none (d + 1) 163 127 [(2, 1), (0, 1)] [(2, 69), (0, 1), (2, 2)] u69 73 Q9
      refine qG.ar (P := 0 ≤ 1 ∧ 1 < ((3 : Nat) : Int)) (P2 := (0 < (2 : Int) ∧ (2 : Int) ≤ ((73 : Nat) : Int)) ∧ 0 < 69 ∧ 69 ≤ ((73 : Nat) : Int)) (pc' := 128) (ls' := [(2, 1), (0, 1)]) (st' := []) (w' := (qup u69 2 1 69)) (n' := 73) rfl (by omega) (by omega) ?_
      refine qG.blk 1 (pc' := 131) (ls' := [(2, 1), (0, wrp (1 + 1))]) (st' := []) (w' := (qup u69 2 1 69)) (n' := 73) rfl ?_
      rw [show wrp (1 + 1) = 2 from wrp_id (by omega) (by omega)]
      refine qG.blk 3 (pc' := 112) (ls' := [(2, 1), (0, 2)]) (st' := [(0, 3), (0, 2)]) (w' := (qup u69 2 1 69)) (n' := 73) rfl ?_
      refine qG.br (P := (2 : Int) < 3) (pc1 := 115) (pc2 := 134) (st1 := []) rfl (fun h3 => ?_) (fun h3 => ?_)
      · skip
        refine qG.blk 2 (pc' := 119) (ls' := [(2, 1), (0, 2)]) (st' := [(2, u69 1 0)]) (w' := (qup u69 2 1 69)) (n' := 73) rfl ?_
        rw [show u69 1 0 = 2 from by simp (disch := first | decide | omega) only [hF4.lo, hF8.lo, hF12.lo, hF23.lo, hF41.lo, hF45.lo, hF57.lo, hF61.lo, hF64.lo, hF69.lo, qup_ne, qup_j, qup_k, qclr_lo, qclr_at]]
        refine qG.blk 1 (pc' := 120) (ls' := [(2, 1), (0, 2)]) (st' := [(0, 2), (2, 2)]) (w' := (qup u69 2 1 69)) (n' := 73) rfl ?_
        refine qG.blk 1 (pc' := 123) (ls' := [(2, 1), (0, 2)]) (st' := [(2, 74), (0, 2), (2, 2)]) (w' := (qclr (qup u69 2 1 69) 74)) (n' := 74) rfl ?_
        refine qG.blk 1 (pc' := 124) (ls' := [(2, 1), (0, 2)]) (st' := [(2, 74), (2, 74), (0, 2), (2, 2)]) (w' := (qclr (qup u69 2 1 69) 74)) (n' := 74) rfl ?_
        refine qG.call (t := 17) (na := 1) (sk := 1) (md := 2) (ls1 := [(2, 74), (9, 0), (9, 0)]) (r1 := [(2, 74), (0, 2), (2, 2)]) rfl rfl rfl rfl rfl (K_X2_init_74 (by omega) _ (fun j => by first | rfl | simp (disch := first | decide | omega) only [qup_ne, qup_j, qclr_lo, qclr_at])) ?_
        rintro _ u74 _ ⟨rfl, hF74, rfl⟩
        show qG none (d + 1) 163 127 [(2, 1), (0, 2)] [(2, 74), (0, 2), (2, 2)] u74 78 Q9
        refine qG.ar (P := 0 ≤ 2 ∧ 2 < ((3 : Nat) : Int)) (P2 := (0 < (2 : Int) ∧ (2 : Int) ≤ ((78 : Nat) : Int)) ∧ 0 < 74 ∧ 74 ≤ ((78 : Nat) : Int)) (pc' := 128) (ls' := [(2, 1), (0, 2)]) (st' := []) (w' := (qup u74 2 2 74)) (n' := 78) rfl (by omega) (by omega) ?_
        refine qG.blk 1 (pc' := 131) (ls' := [(2, 1), (0, wrp (2 + 1))]) (st' := []) (w' := (qup u74 2 2 74)) (n' := 78) rfl ?_
        rw [show wrp (2 + 1) = 3 from wrp_id (by omega) (by omega)]
        refine qG.blk 3 (pc' := 112) (ls' := [(2, 1), (0, 3)]) (st' := [(0, 3), (0, 3)]) (w' := (qup u74 2 2 74)) (n' := 78) rfl ?_
        refine qG.br (P := (3 : Int) < 3) (pc1 := 115) (pc2 := 134) (st1 := []) rfl (fun h4 => ?_) (fun h4 => ?_)
        · exact absurd h4 (by decide)
        · skip
          refine qG.blk 4 (pc' := 138) (ls' := [(2, 1), (0, 0)]) (st' := [(0, 4), (0, 0)]) (w' := (qup u74 2 2 74)) (n' := 78) rfl ?_
          refine qG.br (P := (0 : Int) < 4) (pc1 := 141) (pc2 := 160) (st1 := []) rfl (fun h5 => ?_) (fun h5 => ?_)
          · skip
            refine qG.blk 2 (pc' := 145) (ls' := [(2, 1), (0, 0)]) (st' := [(2, u74 1 1)]) (w' := (qup u74 2 2 74)) (n' := 78) rfl ?_
            rw [show u74 1 1 = 3 from by simp (disch := first | decide | omega) only [hF4.lo, hF8.lo, hF12.lo, hF23.lo, hF41.lo, hF45.lo, hF57.lo, hF61.lo, hF64.lo, hF69.lo, hF74.lo, qup_ne, qup_j, qup_k, qclr_lo, qclr_at]]
            refine qG.blk 1 (pc' := 146) (ls' := [(2, 1), (0, 0)]) (st' := [(0, 0), (2, 3)]) (w' := (qup u74 2 2 74)) (n' := 78) rfl ?_
            refine qG.blk 1 (pc' := 149) (ls' := [(2, 1), (0, 0)]) (st' := [(2, 79), (0, 0), (2, 3)]) (w' := (qclr (qup u74 2 2 74) 79)) (n' := 79) rfl ?_
            refine qG.blk 1 (pc' := 150) (ls' := [(2, 1), (0, 0)]) (st' := [(2, 79), (2, 79), (0, 0), (2, 3)]) (w' := (qclr (qup u74 2 2 74) 79)) (n' := 79) rfl ?_
            refine qG.call (t := 106) (na := 1) (sk := 2) (md := 2) (ls1 := [(2, 79)]) (r1 := [(2, 79), (0, 0), (2, 3)]) rfl rfl rfl rfl rfl (K_X7_init_79 (by omega) _ (fun j => by first | rfl | simp (disch := first | decide | omega) only [qup_ne, qup_j, qclr_lo, qclr_at])) ?_
            rintro _ u79 _ ⟨rfl, hF79, rfl⟩
            show qG none (d + 1) 163 153 [(2, 1), (0, 0)] [(2, 79), (0, 0), (2, 3)] u79 82 Q9
            refine qG.ar (P := 0 ≤ 0 ∧ 0 < ((4 : Nat) : Int)) (P2 := (0 < (3 : Int) ∧ (3 : Int) ≤ ((82 : Nat) : Int)) ∧ 0 < 79 ∧ 79 ≤ ((82 : Nat) : Int)) (pc' := 154) (ls' := [(2, 1), (0, 0)]) (st' := []) (w' := (qup u79 3 0 79)) (n' := 82) rfl (by omega) (by omega) ?_
            refine qG.blk 1 (pc' := 157) (ls' := [(2, 1), (0, wrp (0 + 1))]) (st' := []) (w' := (qup u79 3 0 79)) (n' := 82) rfl ?_
            rw [show wrp (0 + 1) = 1 from wrp_id (by omega) (by omega)]
            refine qG.blk 3 (pc' := 138) (ls' := [(2, 1), (0, 1)]) (st' := [(0, 4), (0, 1)]) (w' := (qup u79 3 0 79)) (n' := 82) rfl ?_
            refine qG.br (P := (1 : Int) < 4) (pc1 := 141) (pc2 := 160) (st1 := []) rfl (fun h6 => ?_) (fun h6 => ?_)
            · skip
              refine qG.blk 2 (pc' := 145) (ls' := [(2, 1), (0, 1)]) (st' := [(2, u79 1 1)]) (w' := (qup u79 3 0 79)) (n' := 82) rfl ?_
              rw [show u79 1 1 = 3 from by simp (disch := first | decide | omega) only [hF4.lo, hF8.lo, hF12.lo, hF23.lo, hF41.lo, hF45.lo, hF57.lo, hF61.lo, hF64.lo, hF69.lo, hF74.lo, hF79.lo, qup_ne, qup_j, qup_k, qclr_lo, qclr_at]]
              refine qG.blk 1 (pc' := 146) (ls' := [(2, 1), (0, 1)]) (st' := [(0, 1), (2, 3)]) (w' := (qup u79 3 0 79)) (n' := 82) rfl ?_
              refine qG.blk 1 (pc' := 149) (ls' := [(2, 1), (0, 1)]) (st' := [(2, 83), (0, 1), (2, 3)]) (w' := (qclr (qup u79 3 0 79) 83)) (n' := 83) rfl ?_
              refine qG.blk 1 (pc' := 150) (ls' := [(2, 1), (0, 1)]) (st' := [(2, 83), (2, 83), (0, 1), (2, 3)]) (w' := (qclr (qup u79 3 0 79) 83)) (n' := 83) rfl ?_
              refine qG.call (t := 106) (na := 1) (sk := 2) (md := 2) (ls1 := [(2, 83)]) (r1 := [(2, 83), (0, 1), (2, 3)]) rfl rfl rfl rfl rfl (K_X7_init_83 (by omega) _ (fun j => by first | rfl | simp (disch := first | decide | omega) only [qup_ne, qup_j, qclr_lo, qclr_at])) ?_
              rintro _ u83 _ ⟨rfl, hF83, rfl⟩
              show qG none (d + 1) 163 153 [(2, 1), (0, 1)] [(2, 83), (0, 1), (2, 3)] u83 86 Q9
              refine qG.ar (P := 0 ≤ 1 ∧ 1 < ((4 : Nat) : Int)) (P2 := (0 < (3 : Int) ∧ (3 : Int) ≤ ((86 : Nat) : Int)) ∧ 0 < 83 ∧ 83 ≤ ((86 : Nat) : Int)) (pc' := 154) (ls' := [(2, 1), (0, 1)]) (st' := []) (w' := (qup u83 3 1 83)) (n' := 86) rfl (by omega) (by omega) ?_
              refine qG.blk 1 (pc' := 157) (ls' := [(2, 1), (0, wrp (1 + 1))]) (st' := []) (w' := (qup u83 3 1 83)) (n' := 86) rfl ?_
              rw [show wrp (1 + 1) = 2 from wrp_id (by omega) (by omega)]
              refine qG.blk 3 (pc' := 138) (ls' := [(2, 1), (0, 2)]) (st' := [(0, 4), (0, 2)]) (w' := (qup u83 3 1 83)) (n' := 86) rfl ?_
              refine qG.br (P := (2 : Int) < 4) (pc1 := 141) (pc2 := 160) (st1 := []) rfl (fun h7 => ?_) (fun h7 => ?_)
              · skip
                refine qG.blk 2 (pc' := 145) (ls' := [(2, 1), (0, 2)]) (st' := [(2, u83 1 1)]) (w' := (qup u83 3 1 83)) (n' := 86) rfl ?_
                rw [show u83 1 1 = 3 from by simp (disch := first | decide | omega) only [hF4.lo, hF8.lo, hF12.lo, hF23.lo, hF41.lo, hF45.lo, hF57.lo, hF61.lo, hF64.lo, hF69.lo, hF74.lo, hF79.lo, hF83.lo, qup_ne, qup_j, qup_k, qclr_lo, qclr_at]]
                refine qG.blk 1 (pc' := 146) (ls' := [(2, 1), (0, 2)]) (st' := [(0, 2), (2, 3)]) (w' := (qup u83 3 1 83)) (n' := 86) rfl ?_
                refine qG.blk 1 (pc' := 149) (ls' := [(2, 1), (0, 2)]) (st' := [(2, 87), (0, 2), (2, 3)]) (w' := (qclr (qup u83 3 1 83) 87)) (n' := 87) rfl ?_
                refine qG.blk 1 (pc' := 150) (ls' := [(2, 1), (0, 2)]) (st' := [(2, 87), (2, 87), (0, 2), (2, 3)]) (w' := (qclr (qup u83 3 1 83) 87)) (n' := 87) rfl ?_
                refine qG.call (t := 106) (na := 1) (sk := 2) (md := 2) (ls1 := [(2, 87)]) (r1 := [(2, 87), (0, 2), (2, 3)]) rfl rfl rfl rfl rfl (K_X7_init_87 (by omega) _ (fun j => by first | rfl | simp (disch := first | decide | omega) only [qup_ne, qup_j, qclr_lo, qclr_at])) ?_
                rintro _ u87 _ ⟨rfl, hF87, rfl⟩
                show qG none (d + 1) 163 153 [(2, 1), (0, 2)] [(2, 87), (0, 2), (2, 3)] u87 90 Q9
                refine qG.ar (P := 0 ≤ 2 ∧ 2 < ((4 : Nat) : Int)) (P2 := (0 < (3 : Int) ∧ (3 : Int) ≤ ((90 : Nat) : Int)) ∧ 0 < 87 ∧ 87 ≤ ((90 : Nat) : Int)) (pc' := 154) (ls' := [(2, 1), (0, 2)]) (st' := []) (w' := (qup u87 3 2 87)) (n' := 90) rfl (by omega) (by omega) ?_
                refine qG.blk 1 (pc' := 157) (ls' := [(2, 1), (0, wrp (2 + 1))]) (st' := []) (w' := (qup u87 3 2 87)) (n' := 90) rfl ?_
                rw [show wrp (2 + 1) = 3 from wrp_id (by omega) (by omega)]
                refine qG.blk 3 (pc' := 138) (ls' := [(2, 1), (0, 3)]) (st' := [(0, 4), (0, 3)]) (w' := (qup u87 3 2 87)) (n' := 90) rfl ?_
                refine qG.br (P := (3 : Int) < 4) (pc1 := 141) (pc2 := 160) (st1 := []) rfl (fun h8 => ?_) (fun h8 => ?_)
                · skip
                  refine qG.blk 2 (pc' := 145) (ls' := [(2, 1), (0, 3)]) (st' := [(2, u87 1 1)]) (w' := (qup u87 3 2 87)) (n' := 90) rfl ?_
                  rw [show u87 1 1 = 3 from by simp (disch := first | decide | omega) only [hF4.lo, hF8.lo, hF12.lo, hF23.lo, hF41.lo, hF45.lo, hF57.lo, hF61.lo, hF64.lo, hF69.lo, hF74.lo, hF79.lo, hF83.lo, hF87.lo, qup_ne, qup_j, qup_k, qclr_lo, qclr_at]]
                  refine qG.blk 1 (pc' := 146) (ls' := [(2, 1), (0, 3)]) (st' := [(0, 3), (2, 3)]) (w' := (qup u87 3 2 87)) (n' := 90) rfl ?_
                  refine qG.blk 1 (pc' := 149) (ls' := [(2, 1), (0, 3)]) (st' := [(2, 91), (0, 3), (2, 3)]) (w' := (qclr (qup u87 3 2 87) 91)) (n' := 91) rfl ?_
                  refine qG.blk 1 (pc' := 150) (ls' := [(2, 1), (0, 3)]) (st' := [(2, 91), (2, 91), (0, 3), (2, 3)]) (w' := (qclr (qup u87 3 2 87) 91)) (n' := 91) rfl ?_
                  refine qG.call (t := 106) (na := 1) (sk := 2) (md := 2) (ls1 := [(2, 91)]) (r1 := [(2, 91), (0, 3), (2, 3)]) rfl rfl rfl rfl rfl (K_X7_init_91 (by omega) _ (fun j => by first | rfl | simp (disch := first | decide | omega) only [qup_ne, qup_j, qclr_lo, qclr_at])) ?_
                  rintro _ u91 _ ⟨rfl, hF91, rfl⟩
                  show qG none (d + 1) 163 153 [(2, 1), (0, 3)] [(2, 91), (0, 3), (2, 3)] u91 94 Q9
                  refine qG.ar (P := 0 ≤ 3 ∧ 3 < ((4 : Nat) : Int)) (P2 := (0 < (3 : Int) ∧ (3 : Int) ≤ ((94 : Nat) : Int)) ∧ 0 < 91 ∧ 91 ≤ ((94 : Nat) : Int)) (pc' := 154) (ls' := [(2, 1), (0, 3)]) (st' := []) (w' := (qup u91 3 3 91)) (n' := 94) rfl (by omega) (by omega) ?_
                  refine qG.blk 1 (pc' := 157) (ls' := [(2, 1), (0, wrp (3 + 1))]) (st' := []) (w' := (qup u91 3 3 91)) (n' := 94) rfl ?_
                  rw [show wrp (3 + 1) = 4 from wrp_id (by omega) (by omega)]
                  refine qG.blk 3 (pc' := 138) (ls' := [(2, 1), (0, 4)]) (st' := [(0, 4), (0, 4)]) (w' := (qup u91 3 3 91)) (n' := 94) rfl ?_
                  refine qG.br (P := (4 : Int) < 4) (pc1 := 141) (pc2 := 160) (st1 := []) rfl (fun h9 => ?_) (fun h9 => ?_)
                  · exact absurd h9 (by decide)
                  · skip
                    refine qG.retv rfl rfl ?_
                    subst hQ9
                    refine ⟨rfl, fun p j => ?_, rfl⟩
                    by_cases c1 : p < 1
                    · rw [if_pos c1]; simp (disch := first | decide | omega) only [qup_ne, qup_j, qclr_lo, qmul_lo, hF4.lo, hF4.mid, hF4.hi, hF8.lo, hF8.mid, hF8.hi, hF12.lo, hF12.mid, hF12.hi, hF23.lo, hF23.mid, hF23.hi, hF41.lo, hF41.mid, hF41.hi, hF45.lo, hF45.mid, hF45.hi, hF57.lo, hF57.mid, hF57.hi, hF61.lo, hF61.mid, hF61.hi, hF64.lo, hF64.mid, hF64.hi, hF69.lo, hF69.mid, hF69.hi, hF74.lo, hF74.mid, hF74.hi, hF79.lo, hF79.mid, hF79.hi, hF83.lo, hF83.mid, hF83.hi, hF87.lo, hF87.mid, hF87.hi, hF91.lo, hF91.mid, hF91.hi]
                    rw [if_neg c1]
                    by_cases c2 : 94 < p
                    · rw [if_neg (by omega)]; simp (disch := first | decide | omega) only [qup_ne, qup_j, qclr_lo, qmul_lo, hF4.lo, hF4.mid, hF4.hi, hF8.lo, hF8.mid, hF8.hi, hF12.lo, hF12.mid, hF12.hi, hF23.lo, hF23.mid, hF23.hi, hF41.lo, hF41.mid, hF41.hi, hF45.lo, hF45.mid, hF45.hi, hF57.lo, hF57.mid, hF57.hi, hF61.lo, hF61.mid, hF61.hi, hF64.lo, hF64.mid, hF64.hi, hF69.lo, hF69.mid, hF69.hi, hF74.lo, hF74.mid, hF74.hi, hF79.lo, hF79.mid, hF79.hi, hF83.lo, hF83.mid, hF83.hi, hF87.lo, hF87.mid, hF87.hi, hF91.lo, hF91.mid, hF91.hi, qclr_at, qmul_hi]
                    rw [if_pos (by omega)]
                    rcases (show p = 1 ∨ p = 2 ∨ p = 3 ∨ (4 ≤ p ∧ p ≤ 94) by omega) with rfl | rfl | rfl | ⟨g1, g2⟩
                    · by_cases c3 : j < 10
                      · rcases (show j = 0 ∨ j = 1 ∨ j = 2 ∨ j = 3 ∨ j = 4 ∨ j = 5 ∨ j = 6 ∨ j = 7 ∨ j = 8 ∨ j = 9 by omega) with rfl | rfl | rfl | rfl | rfl | rfl | rfl | rfl | rfl | rfl <;> first | rfl | exact hz _ | (simp (disch := first | decide | omega) only [qup_ne, qup_j, qclr_lo, qmul_lo, hF4.lo, hF4.mid, hF4.hi, hF8.lo, hF8.mid, hF8.hi, hF12.lo, hF12.mid, hF12.hi, hF23.lo, hF23.mid, hF23.hi, hF41.lo, hF41.mid, hF41.hi, hF45.lo, hF45.mid, hF45.hi, hF57.lo, hF57.mid, hF57.hi, hF61.lo, hF61.mid, hF61.hi, hF64.lo, hF64.mid, hF64.hi, hF69.lo, hF69.mid, hF69.hi, hF74.lo, hF74.mid, hF74.hi, hF79.lo, hF79.mid, hF79.hi, hF83.lo, hF83.mid, hF83.hi, hF87.lo, hF87.mid, hF87.hi, hF91.lo, hF91.mid, hF91.hi, qup_k, qclr_at, qmul_hi]; done) | (simp (disch := first | decide | omega) only [qup_ne, qup_j, qclr_lo, qmul_lo, hF4.lo, hF4.mid, hF4.hi, hF8.lo, hF8.mid, hF8.hi, hF12.lo, hF12.mid, hF12.hi, hF23.lo, hF23.mid, hF23.hi, hF41.lo, hF41.mid, hF41.hi, hF45.lo, hF45.mid, hF45.hi, hF57.lo, hF57.mid, hF57.hi, hF61.lo, hF61.mid, hF61.hi, hF64.lo, hF64.mid, hF64.hi, hF69.lo, hF69.mid, hF69.hi, hF74.lo, hF74.mid, hF74.hi, hF79.lo, hF79.mid, hF79.hi, hF83.lo, hF83.mid, hF83.hi, hF87.lo, hF87.mid, hF87.hi, hF91.lo, hF91.mid, hF91.hi, qup_k, qclr_at, qmul_hi]; rfl) | (simp (disch := first | decide | omega) only [qup_ne, qup_j, qclr_lo, qmul_lo, hF4.lo, hF4.mid, hF4.hi, hF8.lo, hF8.mid, hF8.hi, hF12.lo, hF12.mid, hF12.hi, hF23.lo, hF23.mid, hF23.hi, hF41.lo, hF41.mid, hF41.hi, hF45.lo, hF45.mid, hF45.hi, hF57.lo, hF57.mid, hF57.hi, hF61.lo, hF61.mid, hF61.hi, hF64.lo, hF64.mid, hF64.hi, hF69.lo, hF69.mid, hF69.hi, hF74.lo, hF74.mid, hF74.hi, hF79.lo, hF79.mid, hF79.hi, hF83.lo, hF83.mid, hF83.hi, hF87.lo, hF87.mid, hF87.hi, hF91.lo, hF91.mid, hF91.hi, qup_k, qclr_at, hz]; rfl)
                      · first | (simp (disch := first | decide | omega) only [qup_ne, qup_j, qclr_lo, qmul_lo, hF4.lo, hF4.mid, hF4.hi, hF8.lo, hF8.mid, hF8.hi, hF12.lo, hF12.mid, hF12.hi, hF23.lo, hF23.mid, hF23.hi, hF41.lo, hF41.mid, hF41.hi, hF45.lo, hF45.mid, hF45.hi, hF57.lo, hF57.mid, hF57.hi, hF61.lo, hF61.mid, hF61.hi, hF64.lo, hF64.mid, hF64.hi, hF69.lo, hF69.mid, hF69.hi, hF74.lo, hF74.mid, hF74.hi, hF79.lo, hF79.mid, hF79.hi, hF83.lo, hF83.mid, hF83.hi, hF87.lo, hF87.mid, hF87.hi, hF91.lo, hF91.mid, hF91.hi, hz]; unfold qW0; simp (disch := first | decide | omega) only [qbeq_f, qble_t]; rfl) | (simp (disch := first | decide | omega) only [qup_ne, qup_j, qclr_lo, qmul_lo, hF4.lo, hF4.mid, hF4.hi, hF8.lo, hF8.mid, hF8.hi, hF12.lo, hF12.mid, hF12.hi, hF23.lo, hF23.mid, hF23.hi, hF41.lo, hF41.mid, hF41.hi, hF45.lo, hF45.mid, hF45.hi, hF57.lo, hF57.mid, hF57.hi, hF61.lo, hF61.mid, hF61.hi, hF64.lo, hF64.mid, hF64.hi, hF69.lo, hF69.mid, hF69.hi, hF74.lo, hF74.mid, hF74.hi, hF79.lo, hF79.mid, hF79.hi, hF83.lo, hF83.mid, hF83.hi, hF87.lo, hF87.mid, hF87.hi, hF91.lo, hF91.mid, hF91.hi, qclr_at]; unfold qW0; simp (disch := first | decide | omega) only [qbeq_f, qble_t]; rfl) | (simp (disch := first | decide | omega) only [qup_ne, qup_j, qclr_lo, qmul_lo, hF4.lo, hF4.mid, hF4.hi, hF8.lo, hF8.mid, hF8.hi, hF12.lo, hF12.mid, hF12.hi, hF23.lo, hF23.mid, hF23.hi, hF41.lo, hF41.mid, hF41.hi, hF45.lo, hF45.mid, hF45.hi, hF57.lo, hF57.mid, hF57.hi, hF61.lo, hF61.mid, hF61.hi, hF64.lo, hF64.mid, hF64.hi, hF69.lo, hF69.mid, hF69.hi, hF74.lo, hF74.mid, hF74.hi, hF79.lo, hF79.mid, hF79.hi, hF83.lo, hF83.mid, hF83.hi, hF87.lo, hF87.mid, hF87.hi, hF91.lo, hF91.mid, hF91.hi, qclr_at]; done)
                    · by_cases c3 : j < 3
                      · rcases (show j = 0 ∨ j = 1 ∨ j = 2 by omega) with rfl | rfl | rfl <;> first | rfl | (simp (disch := first | decide | omega) only [qup_ne, qup_j, qclr_lo, qmul_lo, hF4.lo, hF4.mid, hF4.hi, hF8.lo, hF8.mid, hF8.hi, hF12.lo, hF12.mid, hF12.hi, hF23.lo, hF23.mid, hF23.hi, hF41.lo, hF41.mid, hF41.hi, hF45.lo, hF45.mid, hF45.hi, hF57.lo, hF57.mid, hF57.hi, hF61.lo, hF61.mid, hF61.hi, hF64.lo, hF64.mid, hF64.hi, hF69.lo, hF69.mid, hF69.hi, hF74.lo, hF74.mid, hF74.hi, hF79.lo, hF79.mid, hF79.hi, hF83.lo, hF83.mid, hF83.hi, hF87.lo, hF87.mid, hF87.hi, hF91.lo, hF91.mid, hF91.hi, qup_k, qclr_at, qmul_hi]; done) | (simp (disch := first | decide | omega) only [qup_ne, qup_j, qclr_lo, qmul_lo, hF4.lo, hF4.mid, hF4.hi, hF8.lo, hF8.mid, hF8.hi, hF12.lo, hF12.mid, hF12.hi, hF23.lo, hF23.mid, hF23.hi, hF41.lo, hF41.mid, hF41.hi, hF45.lo, hF45.mid, hF45.hi, hF57.lo, hF57.mid, hF57.hi, hF61.lo, hF61.mid, hF61.hi, hF64.lo, hF64.mid, hF64.hi, hF69.lo, hF69.mid, hF69.hi, hF74.lo, hF74.mid, hF74.hi, hF79.lo, hF79.mid, hF79.hi, hF83.lo, hF83.mid, hF83.hi, hF87.lo, hF87.mid, hF87.hi, hF91.lo, hF91.mid, hF91.hi, qup_k, qclr_at, qmul_hi]; rfl)
                      · first | (simp (disch := first | decide | omega) only [qup_ne, qup_j, qclr_lo, qmul_lo, hF4.lo, hF4.mid, hF4.hi, hF8.lo, hF8.mid, hF8.hi, hF12.lo, hF12.mid, hF12.hi, hF23.lo, hF23.mid, hF23.hi, hF41.lo, hF41.mid, hF41.hi, hF45.lo, hF45.mid, hF45.hi, hF57.lo, hF57.mid, hF57.hi, hF61.lo, hF61.mid, hF61.hi, hF64.lo, hF64.mid, hF64.hi, hF69.lo, hF69.mid, hF69.hi, hF74.lo, hF74.mid, hF74.hi, hF79.lo, hF79.mid, hF79.hi, hF83.lo, hF83.mid, hF83.hi, hF87.lo, hF87.mid, hF87.hi, hF91.lo, hF91.mid, hF91.hi, qclr_at, qmul_hi, qmul_at]; unfold qW0; simp (disch := first | decide | omega) only [qbeq_f, qble_t]; rfl) | (simp (disch := first | decide | omega) only [qup_ne, qup_j, qclr_lo, qmul_lo, hF4.lo, hF4.mid, hF4.hi, hF8.lo, hF8.mid, hF8.hi, hF12.lo, hF12.mid, hF12.hi, hF23.lo, hF23.mid, hF23.hi, hF41.lo, hF41.mid, hF41.hi, hF45.lo, hF45.mid, hF45.hi, hF57.lo, hF57.mid, hF57.hi, hF61.lo, hF61.mid, hF61.hi, hF64.lo, hF64.mid, hF64.hi, hF69.lo, hF69.mid, hF69.hi, hF74.lo, hF74.mid, hF74.hi, hF79.lo, hF79.mid, hF79.hi, hF83.lo, hF83.mid, hF83.hi, hF87.lo, hF87.mid, hF87.hi, hF91.lo, hF91.mid, hF91.hi, qclr_at, qmul_hi, qmul_at]; done)
                    · by_cases c3 : j < 4
                      · rcases (show j = 0 ∨ j = 1 ∨ j = 2 ∨ j = 3 by omega) with rfl | rfl | rfl | rfl <;> first | rfl | (simp (disch := first | decide | omega) only [qup_ne, qup_j, qclr_lo, qmul_lo, hF4.lo, hF4.mid, hF4.hi, hF8.lo, hF8.mid, hF8.hi, hF12.lo, hF12.mid, hF12.hi, hF23.lo, hF23.mid, hF23.hi, hF41.lo, hF41.mid, hF41.hi, hF45.lo, hF45.mid, hF45.hi, hF57.lo, hF57.mid, hF57.hi, hF61.lo, hF61.mid, hF61.hi, hF64.lo, hF64.mid, hF64.hi, hF69.lo, hF69.mid, hF69.hi, hF74.lo, hF74.mid, hF74.hi, hF79.lo, hF79.mid, hF79.hi, hF83.lo, hF83.mid, hF83.hi, hF87.lo, hF87.mid, hF87.hi, hF91.lo, hF91.mid, hF91.hi, qup_k, qclr_at, qmul_hi]; done) | (simp (disch := first | decide | omega) only [qup_ne, qup_j, qclr_lo, qmul_lo, hF4.lo, hF4.mid, hF4.hi, hF8.lo, hF8.mid, hF8.hi, hF12.lo, hF12.mid, hF12.hi, hF23.lo, hF23.mid, hF23.hi, hF41.lo, hF41.mid, hF41.hi, hF45.lo, hF45.mid, hF45.hi, hF57.lo, hF57.mid, hF57.hi, hF61.lo, hF61.mid, hF61.hi, hF64.lo, hF64.mid, hF64.hi, hF69.lo, hF69.mid, hF69.hi, hF74.lo, hF74.mid, hF74.hi, hF79.lo, hF79.mid, hF79.hi, hF83.lo, hF83.mid, hF83.hi, hF87.lo, hF87.mid, hF87.hi, hF91.lo, hF91.mid, hF91.hi, qup_k, qclr_at, qmul_hi]; rfl)
                      · first | (simp (disch := first | decide | omega) only [qup_ne, qup_j, qclr_lo, qmul_lo, hF4.lo, hF4.mid, hF4.hi, hF8.lo, hF8.mid, hF8.hi, hF12.lo, hF12.mid, hF12.hi, hF23.lo, hF23.mid, hF23.hi, hF41.lo, hF41.mid, hF41.hi, hF45.lo, hF45.mid, hF45.hi, hF57.lo, hF57.mid, hF57.hi, hF61.lo, hF61.mid, hF61.hi, hF64.lo, hF64.mid, hF64.hi, hF69.lo, hF69.mid, hF69.hi, hF74.lo, hF74.mid, hF74.hi, hF79.lo, hF79.mid, hF79.hi, hF83.lo, hF83.mid, hF83.hi, hF87.lo, hF87.mid, hF87.hi, hF91.lo, hF91.mid, hF91.hi, qclr_at, qmul_hi, qmul_at]; unfold qW0; simp (disch := first | decide | omega) only [qbeq_f, qble_t]; rfl) | (simp (disch := first | decide | omega) only [qup_ne, qup_j, qclr_lo, qmul_lo, hF4.lo, hF4.mid, hF4.hi, hF8.lo, hF8.mid, hF8.hi, hF12.lo, hF12.mid, hF12.hi, hF23.lo, hF23.mid, hF23.hi, hF41.lo, hF41.mid, hF41.hi, hF45.lo, hF45.mid, hF45.hi, hF57.lo, hF57.mid, hF57.hi, hF61.lo, hF61.mid, hF61.hi, hF64.lo, hF64.mid, hF64.hi, hF69.lo, hF69.mid, hF69.hi, hF74.lo, hF74.mid, hF74.hi, hF79.lo, hF79.mid, hF79.hi, hF83.lo, hF83.mid, hF83.hi, hF87.lo, hF87.mid, hF87.hi, hF91.lo, hF91.mid, hF91.hi, qclr_at, qmul_hi, qmul_at]; done)
                    · have e91 : (qup u91 3 3 91) p = u91 p := by simp (disch := first | decide | omega) only [qup_ne]
                      have e87 : p ≤ 90 → (qup u91 3 3 91) p = u87 p := fun g => (e91).trans (by rw [hF91.lo (p := p) (by omega)]; simp (disch := first | decide | omega) only [qup_ne, qclr_lo, qmul_lo])
                      have e83 : p ≤ 86 → (qup u91 3 3 91) p = u83 p := fun g => (e87 (by omega)).trans (by rw [hF87.lo (p := p) (by omega)]; simp (disch := first | decide | omega) only [qup_ne, qclr_lo, qmul_lo])
                      have e79 : p ≤ 82 → (qup u91 3 3 91) p = u79 p := fun g => (e83 (by omega)).trans (by rw [hF83.lo (p := p) (by omega)]; simp (disch := first | decide | omega) only [qup_ne, qclr_lo, qmul_lo])
                      have e74 : p ≤ 78 → (qup u91 3 3 91) p = u74 p := fun g => (e79 (by omega)).trans (by rw [hF79.lo (p := p) (by omega)]; simp (disch := first | decide | omega) only [qup_ne, qclr_lo, qmul_lo])
                      have e69 : p ≤ 73 → (qup u91 3 3 91) p = u69 p := fun g => (e74 (by omega)).trans (by rw [hF74.lo (p := p) (by omega)]; simp (disch := first | decide | omega) only [qup_ne, qclr_lo, qmul_lo])
                      have e64 : p ≤ 68 → (qup u91 3 3 91) p = u64 p := fun g => (e69 (by omega)).trans (by rw [hF69.lo (p := p) (by omega)]; simp (disch := first | decide | omega) only [qup_ne, qclr_lo, qmul_lo])
                      have e61 : p ≤ 63 → (qup u91 3 3 91) p = u61 p := fun g => (e64 (by omega)).trans (by rw [hF64.lo (p := p) (by omega)]; simp (disch := first | decide | omega) only [qup_ne, qclr_lo, qmul_lo])
                      have e57 : p ≤ 60 → (qup u91 3 3 91) p = u57 p := fun g => (e61 (by omega)).trans (by rw [hF61.lo (p := p) (by omega)]; simp (disch := first | decide | omega) only [qup_ne, qclr_lo, qmul_lo])
                      have e45 : p ≤ 56 → (qup u91 3 3 91) p = u45 p := fun g => (e57 (by omega)).trans (by rw [hF57.lo (p := p) (by omega)]; simp (disch := first | decide | omega) only [qup_ne, qclr_lo, qmul_lo])
                      have e41 : p ≤ 44 → (qup u91 3 3 91) p = u41 p := fun g => (e45 (by omega)).trans (by rw [hF45.lo (p := p) (by omega)]; simp (disch := first | decide | omega) only [qup_ne, qclr_lo, qmul_lo])
                      have e23 : p ≤ 40 → (qup u91 3 3 91) p = u23 p := fun g => (e41 (by omega)).trans (by rw [hF41.lo (p := p) (by omega)]; simp (disch := first | decide | omega) only [qup_ne, qclr_lo, qmul_lo])
                      have e12 : p ≤ 22 → (qup u91 3 3 91) p = u12 p := fun g => (e23 (by omega)).trans (by rw [hF23.lo (p := p) (by omega)]; simp (disch := first | decide | omega) only [qup_ne, qclr_lo, qmul_lo])
                      have e8 : p ≤ 11 → (qup u91 3 3 91) p = u8 p := fun g => (e12 (by omega)).trans (by rw [hF12.lo (p := p) (by omega)]; simp (disch := first | decide | omega) only [qup_ne, qclr_lo, qmul_lo])
                      have e4 : p ≤ 7 → (qup u91 3 3 91) p = u4 p := fun g => (e8 (by omega)).trans (by rw [hF8.lo (p := p) (by omega)]; simp (disch := first | decide | omega) only [qup_ne, qclr_lo, qmul_lo])
                      rcases (show (4 ≤ p ∧ p ≤ 7) ∨ (8 ≤ p ∧ p ≤ 11) ∨ (12 ≤ p ∧ p ≤ 22) ∨ (23 ≤ p ∧ p ≤ 40) ∨ (41 ≤ p ∧ p ≤ 44) ∨ (45 ≤ p ∧ p ≤ 56) ∨ (57 ≤ p ∧ p ≤ 60) ∨ (61 ≤ p ∧ p ≤ 63) ∨ (64 ≤ p ∧ p ≤ 68) ∨ (69 ≤ p ∧ p ≤ 73) ∨ (74 ≤ p ∧ p ≤ 78) ∨ (79 ≤ p ∧ p ≤ 82) ∨ (83 ≤ p ∧ p ≤ 86) ∨ (87 ≤ p ∧ p ≤ 90) ∨ (91 ≤ p ∧ p ≤ 94) by omega) with ⟨g3, g4⟩ | ⟨g3, g4⟩ | ⟨g3, g4⟩ | ⟨g3, g4⟩ | ⟨g3, g4⟩ | ⟨g3, g4⟩ | ⟨g3, g4⟩ | ⟨g3, g4⟩ | ⟨g3, g4⟩ | ⟨g3, g4⟩ | ⟨g3, g4⟩ | ⟨g3, g4⟩ | ⟨g3, g4⟩ | ⟨g3, g4⟩ | ⟨g3, g4⟩
                      · rw [e4 g4, hF4.mid (p := p) g3 g4]
                      · rw [e8 g4, hF8.mid (p := p) g3 g4]
                      · rw [e12 g4, hF12.mid (p := p) g3 g4]
                      · rw [e23 g4, hF23.mid (p := p) g3 g4]
                      · rw [e41 g4, hF41.mid (p := p) g3 g4]
                      · rw [e45 g4, hF45.mid (p := p) g3 g4]
                      · rw [e57 g4, hF57.mid (p := p) g3 g4]
                      · rw [e61 g4, hF61.mid (p := p) g3 g4]
                      · rw [e64 g4, hF64.mid (p := p) g3 g4]
                      · rw [e69 g4, hF69.mid (p := p) g3 g4]
                      · rw [e74 g4, hF74.mid (p := p) g3 g4]
                      · rw [e79 g4, hF79.mid (p := p) g3 g4]
                      · rw [e83 g4, hF83.mid (p := p) g3 g4]
                      · rw [e87 g4, hF87.mid (p := p) g3 g4]
                      · rw [e91, hF91.mid (p := p) g3 g4]
                · exact absurd h8 (by decide)
              · exact absurd h7 (by decide)
            · exact absurd h6 (by decide)
          · exact absurd h5 (by decide)
      · exact absurd h3 (by decide)
    · exact absurd h2 (by decide)
  · exact absurd h1 (by decide)
