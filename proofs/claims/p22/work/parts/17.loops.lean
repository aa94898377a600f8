/-! constructors with loops -/
theorem qdiv_n {s m : Nat} (hs : s < 2147483648) : qdiv (s : Int) (m : Int) = ((s / m : Nat) : Int) := by
  unfold qdiv
  have h1 : (s : Int).tdiv (m : Int) = ((s / m : Nat) : Int) := rfl
  have h2 : s / m ≤ s := Nat.div_le_self _ _
  rw [h1]
  generalize s / m = q at h2 ⊢
  exact wrp_id (by omega) (by omega)
theorem qrem_n {s m : Nat} (hs : s < 2147483648) : qrem (s : Int) (m : Int) = ((s % m : Nat) : Int) := by
  have h0 := qdiv_n (m := m) hs
  unfold qdiv at h0
  unfold qrem
  rw [h0]
  have h : (m : Int) * ((s / m : Nat) : Int) + ((s % m : Nat) : Int) = (s : Int) := by exact_mod_cast Nat.div_add_mod s m
  have h3 : s % m ≤ s := Nat.mod_le _ _
  rw [Int.mul_comm]
  generalize (m : Int) * ((s / m : Nat) : Int) = z at h ⊢
  generalize s % m = r at h h3 ⊢
  rw [show (s : Int) - z = (r : Int) by omega]
  exact wrp_id (by omega) (by omega)
noncomputable def dd (a b : Nat) : Nat := if a ≤ b then b - a else a - b
theorem dd_abs {a b : Nat} (ha : a < 1000) (hb : b < 1000) : (if 0 ≤ (a : Int) - (b : Int) then (a : Int) - (b : Int) else wrp (0 - ((a : Int) - (b : Int)))) = ((dd a b : Nat) : Int) := by
  unfold dd
  by_cases h : a ≤ b
  · rw [if_pos h]
    by_cases h2 : (0 : Int) ≤ (a : Int) - (b : Int)
    · rw [if_pos h2]; omega
    · rw [if_neg h2, wrp_id (by omega) (by omega)]; omega
  · rw [if_neg h, if_pos (by omega)]; omega
theorem dd_lt {a b n : Nat} (ha : a < n) (hb : b < n) : dd a b < n := by unfold dd; split <;> omega
/-- neighbours -/
noncomputable def nbB (s t : Nat) : Bool := Nat.beq (dd (s % 4) (t % 4) + dd (s / 4 % 2) (t / 4 % 2) + dd (s / 8) (t / 8)) 1
noncomputable def nbp (s : Nat) : Nat → Int
  | 0 => 0
  | t + 1 => if nbB s t = true then qor (nbp s t) (qshl 1 (t : Int)) else nbp s t
theorem nbp_16 : ∀ s, s < 16 → nbp s 16 = qW0 65 s ∧ nbp s 16 = qW0 70 s ∧ nbp s 16 = qW0 75 s := by decide +kernel
theorem K_X2_areN {d : Nat} (hd : 1 ≤ d) (s t : Nat) (hs : s < 16) (ht : t < 16) (w : qW) (n : Nat) : qG none d 18 0 [(0, ((s : Nat) : Int)), (0, ((t : Nat) : Int)), (9, 0), (9, 0), (9, 0)] [] w n (fun (r : qV) (w1 : qW) (n1 : Nat) => r = (0, if nbB s t = true then 1 else 0) ∧ w1 = w ∧ n1 = n) := by
  generalize hQ9 : (fun (r : qV) (w1 : qW) (n1 : Nat) => r = (0, if nbB s t = true then 1 else 0) ∧ w1 = w ∧ n1 = n) = Q9
  have e1 := dd_lt (n := 4) (a := s % 4) (b := t % 4) (by omega) (by omega)
  have e2 := dd_lt (n := 2) (a := s / 4 % 2) (b := t / 4 % 2) (by omega) (by omega)
  have e3 := dd_lt (n := 2) (a := s / 8) (b := t / 8) (by omega) (by omega)
  obtain ⟨d, rfl⟩ : ∃ d9, d = d9 + 1 := ⟨d - 1, by omega⟩
  refine qG.blk 2 (pc' := 2) (ls' := [(0, ((s : Nat) : Int)), (0, ((t : Nat) : Int)), (9, 0), (9, 0), (9, 0)]) (st' := [(0, 4), (0, ((s : Nat) : Int))]) (w' := w) (n' := n) rfl ?_
  refine qG.gn (P := 4 = 0) (pc' := 3) (ls' := [(0, ((s : Nat) : Int)), (0, ((t : Nat) : Int)), (9, 0), (9, 0), (9, 0)]) (st' := [(0, qrem ((s : Nat) : Int) 4)]) (w' := w) (n' := n) rfl (by decide) ?_
  rw [show qrem ((s : Nat) : Int) 4 = ((s % 4 : Nat) : Int) from qrem_n (m := 4) (by omega)]
  refine qG.blk 2 (pc' := 5) (ls' := [(0, ((s : Nat) : Int)), (0, ((t : Nat) : Int)), (9, 0), (9, 0), (9, 0)]) (st' := [(0, 4), (0, ((t : Nat) : Int)), (0, ((s % 4 : Nat) : Int))]) (w' := w) (n' := n) rfl ?_
  refine qG.gn (P := 4 = 0) (pc' := 6) (ls' := [(0, ((s : Nat) : Int)), (0, ((t : Nat) : Int)), (9, 0), (9, 0), (9, 0)]) (st' := [(0, qrem ((t : Nat) : Int) 4), (0, ((s % 4 : Nat) : Int))]) (w' := w) (n' := n) rfl (by decide) ?_
  rw [show qrem ((t : Nat) : Int) 4 = ((t % 4 : Nat) : Int) from qrem_n (m := 4) (by omega)]
  refine qG.blk 1 (pc' := 7) (ls' := [(0, ((s : Nat) : Int)), (0, ((t : Nat) : Int)), (9, 0), (9, 0), (9, 0)]) (st' := [(0, wrp (((s % 4 : Nat) : Int) - ((t % 4 : Nat) : Int)))]) (w' := w) (n' := n) rfl ?_
  rw [show wrp (((s % 4 : Nat) : Int) - ((t % 4 : Nat) : Int)) = ((s % 4 : Nat) : Int) - ((t % 4 : Nat) : Int) from wrp_id (by omega) (by omega)]
  refine qG.mth rfl rfl rfl rfl (pc' := 10) (ls' := [(0, ((s : Nat) : Int)), (0, ((t : Nat) : Int)), (9, 0), (9, 0), (9, 0)]) (st' := [(0, (if 0 ≤ ((s % 4 : Nat) : Int) - ((t % 4 : Nat) : Int) then ((s % 4 : Nat) : Int) - ((t % 4 : Nat) : Int) else wrp (0 - (((s % 4 : Nat) : Int) - ((t % 4 : Nat) : Int)))))]) (w' := w) (n' := n) rfl ?_
  rw [show (if 0 ≤ ((s % 4 : Nat) : Int) - ((t % 4 : Nat) : Int) then ((s % 4 : Nat) : Int) - ((t % 4 : Nat) : Int) else wrp (0 - (((s % 4 : Nat) : Int) - ((t % 4 : Nat) : Int)))) = ((dd (s % 4) (t % 4) : Nat) : Int) from dd_abs (by omega) (by omega)]
  refine qG.blk 3 (pc' := 13) (ls' := [(0, ((s : Nat) : Int)), (0, ((t : Nat) : Int)), (0, ((dd (s % 4) (t % 4) : Nat) : Int)), (9, 0), (9, 0)]) (st' := [(0, 4), (0, ((s : Nat) : Int))]) (w' := w) (n' := n) rfl ?_
  refine qG.gn (P := 4 = 0) (pc' := 14) (ls' := [(0, ((s : Nat) : Int)), (0, ((t : Nat) : Int)), (0, ((dd (s % 4) (t % 4) : Nat) : Int)), (9, 0), (9, 0)]) (st' := [(0, qdiv ((s : Nat) : Int) 4)]) (w' := w) (n' := n) rfl (by decide) ?_
  rw [show qdiv ((s : Nat) : Int) 4 = ((s / 4 : Nat) : Int) from qdiv_n (m := 4) (by omega)]
  refine qG.blk 1 (pc' := 15) (ls' := [(0, ((s : Nat) : Int)), (0, ((t : Nat) : Int)), (0, ((dd (s % 4) (t % 4) : Nat) : Int)), (9, 0), (9, 0)]) (st' := [(0, 2), (0, ((s / 4 : Nat) : Int))]) (w' := w) (n' := n) rfl ?_
  refine qG.gn (P := 2 = 0) (pc' := 16) (ls' := [(0, ((s : Nat) : Int)), (0, ((t : Nat) : Int)), (0, ((dd (s % 4) (t % 4) : Nat) : Int)), (9, 0), (9, 0)]) (st' := [(0, qrem ((s / 4 : Nat) : Int) 2)]) (w' := w) (n' := n) rfl (by decide) ?_
  rw [show qrem ((s / 4 : Nat) : Int) 2 = ((s / 4 % 2 : Nat) : Int) from qrem_n (m := 2) (by omega)]
  refine qG.blk 2 (pc' := 18) (ls' := [(0, ((s : Nat) : Int)), (0, ((t : Nat) : Int)), (0, ((dd (s % 4) (t % 4) : Nat) : Int)), (9, 0), (9, 0)]) (st' := [(0, 4), (0, ((t : Nat) : Int)), (0, ((s / 4 % 2 : Nat) : Int))]) (w' := w) (n' := n) rfl ?_
  refine qG.gn (P := 4 = 0) (pc' := 19) (ls' := [(0, ((s : Nat) : Int)), (0, ((t : Nat) : Int)), (0, ((dd (s % 4) (t % 4) : Nat) : Int)), (9, 0), (9, 0)]) (st' := [(0, qdiv ((t : Nat) : Int) 4), (0, ((s / 4 % 2 : Nat) : Int))]) (w' := w) (n' := n) rfl (by decide) ?_
  rw [show qdiv ((t : Nat) : Int) 4 = ((t / 4 : Nat) : Int) from qdiv_n (m := 4) (by omega)]
  refine qG.blk 1 (pc' := 20) (ls' := [(0, ((s : Nat) : Int)), (0, ((t : Nat) : Int)), (0, ((dd (s % 4) (t % 4) : Nat) : Int)), (9, 0), (9, 0)]) (st' := [(0, 2), (0, ((t / 4 : Nat) : Int)), (0, ((s / 4 % 2 : Nat) : Int))]) (w' := w) (n' := n) rfl ?_
  refine qG.gn (P := 2 = 0) (pc' := 21) (ls' := [(0, ((s : Nat) : Int)), (0, ((t : Nat) : Int)), (0, ((dd (s % 4) (t % 4) : Nat) : Int)), (9, 0), (9, 0)]) (st' := [(0, qrem ((t / 4 : Nat) : Int) 2), (0, ((s / 4 % 2 : Nat) : Int))]) (w' := w) (n' := n) rfl (by decide) ?_
  rw [show qrem ((t / 4 : Nat) : Int) 2 = ((t / 4 % 2 : Nat) : Int) from qrem_n (m := 2) (by omega)]
  refine qG.blk 1 (pc' := 22) (ls' := [(0, ((s : Nat) : Int)), (0, ((t : Nat) : Int)), (0, ((dd (s % 4) (t % 4) : Nat) : Int)), (9, 0), (9, 0)]) (st' := [(0, wrp (((s / 4 % 2 : Nat) : Int) - ((t / 4 % 2 : Nat) : Int)))]) (w' := w) (n' := n) rfl ?_
  rw [show wrp (((s / 4 % 2 : Nat) : Int) - ((t / 4 % 2 : Nat) : Int)) = ((s / 4 % 2 : Nat) : Int) - ((t / 4 % 2 : Nat) : Int) from wrp_id (by omega) (by omega)]
  refine qG.mth rfl rfl rfl rfl (pc' := 25) (ls' := [(0, ((s : Nat) : Int)), (0, ((t : Nat) : Int)), (0, ((dd (s % 4) (t % 4) : Nat) : Int)), (9, 0), (9, 0)]) (st' := [(0, (if 0 ≤ ((s / 4 % 2 : Nat) : Int) - ((t / 4 % 2 : Nat) : Int) then ((s / 4 % 2 : Nat) : Int) - ((t / 4 % 2 : Nat) : Int) else wrp (0 - (((s / 4 % 2 : Nat) : Int) - ((t / 4 % 2 : Nat) : Int)))))]) (w' := w) (n' := n) rfl ?_
  rw [show (if 0 ≤ ((s / 4 % 2 : Nat) : Int) - ((t / 4 % 2 : Nat) : Int) then ((s / 4 % 2 : Nat) : Int) - ((t / 4 % 2 : Nat) : Int) else wrp (0 - (((s / 4 % 2 : Nat) : Int) - ((t / 4 % 2 : Nat) : Int)))) = ((dd (s / 4 % 2) (t / 4 % 2) : Nat) : Int) from dd_abs (by omega) (by omega)]
  refine qG.blk 3 (pc' := 29) (ls' := [(0, ((s : Nat) : Int)), (0, ((t : Nat) : Int)), (0, ((dd (s % 4) (t % 4) : Nat) : Int)), (0, ((dd (s / 4 % 2) (t / 4 % 2) : Nat) : Int)), (9, 0)]) (st' := [(0, 8), (0, ((s : Nat) : Int))]) (w' := w) (n' := n) rfl ?_
  refine qG.gn (P := 8 = 0) (pc' := 30) (ls' := [(0, ((s : Nat) : Int)), (0, ((t : Nat) : Int)), (0, ((dd (s % 4) (t % 4) : Nat) : Int)), (0, ((dd (s / 4 % 2) (t / 4 % 2) : Nat) : Int)), (9, 0)]) (st' := [(0, qdiv ((s : Nat) : Int) 8)]) (w' := w) (n' := n) rfl (by decide) ?_
  rw [show qdiv ((s : Nat) : Int) 8 = ((s / 8 : Nat) : Int) from qdiv_n (m := 8) (by omega)]
  refine qG.blk 2 (pc' := 33) (ls' := [(0, ((s : Nat) : Int)), (0, ((t : Nat) : Int)), (0, ((dd (s % 4) (t % 4) : Nat) : Int)), (0, ((dd (s / 4 % 2) (t / 4 % 2) : Nat) : Int)), (9, 0)]) (st' := [(0, 8), (0, ((t : Nat) : Int)), (0, ((s / 8 : Nat) : Int))]) (w' := w) (n' := n) rfl ?_
  refine qG.gn (P := 8 = 0) (pc' := 34) (ls' := [(0, ((s : Nat) : Int)), (0, ((t : Nat) : Int)), (0, ((dd (s % 4) (t % 4) : Nat) : Int)), (0, ((dd (s / 4 % 2) (t / 4 % 2) : Nat) : Int)), (9, 0)]) (st' := [(0, qdiv ((t : Nat) : Int) 8), (0, ((s / 8 : Nat) : Int))]) (w' := w) (n' := n) rfl (by decide) ?_
  rw [show qdiv ((t : Nat) : Int) 8 = ((t / 8 : Nat) : Int) from qdiv_n (m := 8) (by omega)]
  refine qG.blk 1 (pc' := 35) (ls' := [(0, ((s : Nat) : Int)), (0, ((t : Nat) : Int)), (0, ((dd (s % 4) (t % 4) : Nat) : Int)), (0, ((dd (s / 4 % 2) (t / 4 % 2) : Nat) : Int)), (9, 0)]) (st' := [(0, wrp (((s / 8 : Nat) : Int) - ((t / 8 : Nat) : Int)))]) (w' := w) (n' := n) rfl ?_
  rw [show wrp (((s / 8 : Nat) : Int) - ((t / 8 : Nat) : Int)) = ((s / 8 : Nat) : Int) - ((t / 8 : Nat) : Int) from wrp_id (by omega) (by omega)]
  refine qG.mth rfl rfl rfl rfl (pc' := 38) (ls' := [(0, ((s : Nat) : Int)), (0, ((t : Nat) : Int)), (0, ((dd (s % 4) (t % 4) : Nat) : Int)), (0, ((dd (s / 4 % 2) (t / 4 % 2) : Nat) : Int)), (9, 0)]) (st' := [(0, (if 0 ≤ ((s / 8 : Nat) : Int) - ((t / 8 : Nat) : Int) then ((s / 8 : Nat) : Int) - ((t / 8 : Nat) : Int) else wrp (0 - (((s / 8 : Nat) : Int) - ((t / 8 : Nat) : Int)))))]) (w' := w) (n' := n) rfl ?_
  rw [show (if 0 ≤ ((s / 8 : Nat) : Int) - ((t / 8 : Nat) : Int) then ((s / 8 : Nat) : Int) - ((t / 8 : Nat) : Int) else wrp (0 - (((s / 8 : Nat) : Int) - ((t / 8 : Nat) : Int)))) = ((dd (s / 8) (t / 8) : Nat) : Int) from dd_abs (by omega) (by omega)]
  refine qG.blk 4 (pc' := 44) (ls' := [(0, ((s : Nat) : Int)), (0, ((t : Nat) : Int)), (0, ((dd (s % 4) (t % 4) : Nat) : Int)), (0, ((dd (s / 4 % 2) (t / 4 % 2) : Nat) : Int)), (0, ((dd (s / 8) (t / 8) : Nat) : Int))]) (st' := [(0, wrp (((dd (s % 4) (t % 4) : Nat) : Int) + ((dd (s / 8) (t / 8) : Nat) : Int)))]) (w' := w) (n' := n) rfl ?_
  rw [show wrp (((dd (s % 4) (t % 4) : Nat) : Int) + ((dd (s / 8) (t / 8) : Nat) : Int)) = ((dd (s % 4) (t % 4) + dd (s / 8) (t / 8) : Nat) : Int) from wrp_id (by omega) (by omega)]
  refine qG.blk 2 (pc' := 46) (ls' := [(0, ((s : Nat) : Int)), (0, ((t : Nat) : Int)), (0, ((dd (s % 4) (t % 4) : Nat) : Int)), (0, ((dd (s / 4 % 2) (t / 4 % 2) : Nat) : Int)), (0, ((dd (s / 8) (t / 8) : Nat) : Int))]) (st' := [(0, wrp (((dd (s % 4) (t % 4) + dd (s / 8) (t / 8) : Nat) : Int) + ((dd (s / 4 % 2) (t / 4 % 2) : Nat) : Int)))]) (w' := w) (n' := n) rfl ?_
  rw [show wrp (((dd (s % 4) (t % 4) + dd (s / 8) (t / 8) : Nat) : Int) + ((dd (s / 4 % 2) (t / 4 % 2) : Nat) : Int)) = ((dd (s % 4) (t % 4) + dd (s / 8) (t / 8) + dd (s / 4 % 2) (t / 4 % 2) : Nat) : Int) from wrp_id (by omega) (by omega)]
  refine qG.blk 1 (pc' := 47) (ls' := [(0, ((s : Nat) : Int)), (0, ((t : Nat) : Int)), (0, ((dd (s % 4) (t % 4) : Nat) : Int)), (0, ((dd (s / 4 % 2) (t / 4 % 2) : Nat) : Int)), (0, ((dd (s / 8) (t / 8) : Nat) : Int))]) (st' := [(0, 1), (0, ((dd (s % 4) (t % 4) + dd (s / 8) (t / 8) + dd (s / 4 % 2) (t / 4 % 2) : Nat) : Int))]) (w' := w) (n' := n) rfl ?_
  refine qG.br (P := ((dd (s % 4) (t % 4) + dd (s / 8) (t / 8) + dd (s / 4 % 2) (t / 4 % 2) : Nat) : Int) = 1) (pc1 := 50) (pc2 := 54) (st1 := []) rfl (fun h1 => ?_) (fun h1 => ?_)
  · skip
    refine qG.blk 2 (pc' := 55) (ls' := [(0, ((s : Nat) : Int)), (0, ((t : Nat) : Int)), (0, ((dd (s % 4) (t % 4) : Nat) : Int)), (0, ((dd (s / 4 % 2) (t / 4 % 2) : Nat) : Int)), (0, ((dd (s / 8) (t / 8) : Nat) : Int))]) (st' := [(0, 1)]) (w' := w) (n' := n) rfl ?_
    refine qG.ret rfl (by first | rfl | exact decide_eq_true (by omega)) ?_
    subst hQ9
    have hb : nbB s t = true ↔ dd (s % 4) (t % 4) + dd (s / 4 % 2) (t / 4 % 2) + dd (s / 8) (t / 8) = 1 := Nat.beq_eq ▸ Iff.rfl
    exact ⟨by first | (rw [if_pos (hb.mpr (by omega))]; done) | rw [if_neg (fun z => by have := hb.mp z; omega)], rfl, rfl⟩
  · skip
    refine qG.blk 1 (pc' := 55) (ls' := [(0, ((s : Nat) : Int)), (0, ((t : Nat) : Int)), (0, ((dd (s % 4) (t % 4) : Nat) : Int)), (0, ((dd (s / 4 % 2) (t / 4 % 2) : Nat) : Int)), (0, ((dd (s / 8) (t / 8) : Nat) : Int))]) (st' := [(0, 0)]) (w' := w) (n' := n) rfl ?_
    refine qG.ret rfl (by first | rfl | exact decide_eq_true (by omega)) ?_
    subst hQ9
    have hb : nbB s t = true ↔ dd (s % 4) (t % 4) + dd (s / 4 % 2) (t / 4 % 2) + dd (s / 8) (t / 8) = 1 := Nat.beq_eq ▸ Iff.rfl
    exact ⟨by first | (rw [if_pos (hb.mpr (by omega))]; done) | rw [if_neg (fun z => by have := hb.mp z; omega)], rfl, rfl⟩
noncomputable def nbI (w9 E : qW) (a s : Nat) : Prop := ∀ p j, w9 p j = if p = a then (if j < s then nbp j 16 else 0) else E p j
noncomputable def nbJ (w8 E : qW) (a s t : Nat) : Prop := ∀ p j, w8 p j = if p = a then (if j < s then nbp j 16 else if j = s then nbp s t else 0) else E p j
theorem nbI.z {E : qW} {a : Nat} (h : ∀ j, E a j = 0) : nbI E E a 0 := fun p j => by
  by_cases h1 : p = a
  · rw [if_pos h1, if_neg (by omega), h1, h]
  · rw [if_neg h1]
theorem nbI.in {w9 E : qW} {a s : Nat} (h : nbI w9 E a s) : nbJ w9 E a s 0 := fun p j => by
  rw [h p j]
  by_cases h1 : p = a
  · rw [if_pos h1, if_pos h1]
    by_cases h2 : j < s
    · rw [if_pos h2, if_pos h2]
    · rw [if_neg h2, if_neg h2]
      by_cases h3 : j = s
      · rw [if_pos h3]; rfl
      · rw [if_neg h3]
  · rw [if_neg h1, if_neg h1]
theorem nbJ.out {w8 E : qW} {a s t p : Nat} (h : nbJ w8 E a s t) (hp : p ≠ a) (j : Nat) : w8 p j = E p j := by rw [h, if_neg hp]
theorem nbJ.at {w8 E : qW} {a s t : Nat} (h : nbJ w8 E a s t) : w8 a s = nbp s t := by rw [h, if_pos rfl, if_neg (by omega), if_pos rfl]
theorem nbp_s {s t : Nat} : nbp s (t + 1) = if nbB s t = true then qor (nbp s t) (qshl 1 (t : Int)) else nbp s t := rfl
theorem nbJ.yes {w8 E : qW} {a s t : Nat} (h : nbJ w8 E a s t) (hb : nbB s t = true) : nbJ (qup w8 a s (qor (nbp s t) (qshl 1 (t : Int)))) E a s (t + 1) := fun p j => by
  by_cases h1 : p = a
  · subst h1
    rw [if_pos rfl]
    by_cases h3 : j = s
    · subst h3
      rw [qup_k, if_neg (by omega), if_pos rfl, nbp_s, if_pos hb]
    · rw [qup_j h3, h, if_pos rfl, if_neg h3, if_neg h3]
  · rw [qup_ne h1, h, if_neg h1, if_neg h1]
theorem nbJ.no {w8 E : qW} {a s t : Nat} (h : nbJ w8 E a s t) (hb : ¬ nbB s t = true) : nbJ w8 E a s (t + 1) := fun p j => by
  rw [h p j, show nbp s (t + 1) = nbp s t from by rw [nbp_s, if_neg hb]]
theorem nbJ.end {w8 E : qW} {a s t : Nat} (h : nbJ w8 E a s t) (ht : t = 16) : nbI w8 E a (s + 1) := fun p j => by
  subst ht
  rw [h p j]
  by_cases h1 : p = a
  · rw [if_pos h1, if_pos h1]
    by_cases h2 : j < s
    · rw [if_pos h2, if_pos (by omega)]
    · rw [if_neg h2]
      by_cases h3 : j = s
      · rw [if_pos h3, if_pos (by omega), h3]
      · rw [if_neg h3, if_neg (by omega)]
  · rw [if_neg h1, if_neg h1]
theorem nbI.fin {w9 E X : qW} {a s : Nat} (h : nbI w9 E a s) (hs : s = 16) (hE : ∀ p j, p ≠ a → E p j = X p j) (ha : ∀ j, X a j = if j < 16 then nbp j 16 else 0) (p j : Nat) : w9 p j = X p j := by
  subst hs
  rw [h p j]
  by_cases h1 : p = a
  · rw [if_pos h1, h1, ha]
  · rw [if_neg h1, hE p j h1]
theorem ite01 {P : Prop} [Decidable P] : ((if P then (1 : Int) else 0) = 0) ↔ ¬ P := by
  by_cases h : P
  · rw [if_pos h]; exact ⟨fun z => absurd z (by decide), fun z => absurd h z⟩
  · rw [if_neg h]; exact ⟨fun _ => h, fun _ => rfl⟩
theorem K_X2_init_64 {d : Nat} (hd : 2 ≤ d) (w : qW) (hz : ∀ j, w 64 j = 0) : qG none d 17 0 [(2, 64), (9, 0), (9, 0)] [] w 64 (fun (r : qV) (w1 : qW) (n1 : Nat) => r = (9, 0) ∧ qFr w w1 64 68 ∧ n1 = 68) := by
  generalize hQ9 : (fun (r : qV) (w1 : qW) (n1 : Nat) => r = (9, 0) ∧ qFr w w1 64 68 ∧ n1 = 68) = Q9
  obtain ⟨d, rfl⟩ : ∃ d9, d = d9 + 1 := ⟨d - 1, by omega⟩
  refine qG.blk 1 (pc' := 1) (ls' := [(2, 64), (9, 0), (9, 0)]) (st' := [(2, 64)]) (w' := w) (n' := 64) rfl ?_
  refine qG.oin rfl rfl (by decide) ?_
  refine qG.blk 8 (pc' := 17) (ls' := [(2, 64), (9, 0), (9, 0)]) (st' := [(0, 16), (2, 64)]) (w' := (qup (qup w 64 0 0) 64 1 0)) (n' := 64) rfl ?_
  refine qG.blk 1 (pc' := 19) (ls' := [(2, 64), (9, 0), (9, 0)]) (st' := [(2, 65), (2, 64)]) (w' := (qclr (qup (qup w 64 0 0) 64 1 0) 65)) (n' := 65) rfl ?_
  refine qG.blk 3 (pc' := 25) (ls' := [(2, 64), (9, 0), (9, 0)]) (st' := [(0, 10), (2, 64)]) (w' := (qup (qclr (qup (qup w 64 0 0) 64 1 0) 65) 64 2 65)) (n' := 65) rfl ?_
  refine qG.blk 1 (pc' := 27) (ls' := [(2, 64), (9, 0), (9, 0)]) (st' := [(2, 66), (2, 64)]) (w' := (qclr (qup (qclr (qup (qup w 64 0 0) 64 1 0) 65) 64 2 65) 66)) (n' := 66) rfl ?_
  refine qG.blk 3 (pc' := 33) (ls' := [(2, 64), (9, 0), (9, 0)]) (st' := [(0, 10), (2, 64)]) (w' := (qup (qclr (qup (qclr (qup (qup w 64 0 0) 64 1 0) 65) 64 2 65) 66) 64 3 66)) (n' := 66) rfl ?_
  refine qG.blk 1 (pc' := 35) (ls' := [(2, 64), (9, 0), (9, 0)]) (st' := [(2, 67), (2, 64)]) (w' := (qclr (qup (qclr (qup (qclr (qup (qup w 64 0 0) 64 1 0) 65) 64 2 65) 66) 64 3 66) 67)) (n' := 67) rfl ?_
  refine qG.blk 3 (pc' := 41) (ls' := [(2, 64), (9, 0), (9, 0)]) (st' := [(0, 10), (2, 64)]) (w' := (qup (qclr (qup (qclr (qup (qclr (qup (qup w 64 0 0) 64 1 0) 65) 64 2 65) 66) 64 3 66) 67) 64 4 67)) (n' := 67) rfl ?_
  refine qG.blk 1 (pc' := 43) (ls' := [(2, 64), (9, 0), (9, 0)]) (st' := [(2, 68), (2, 64)]) (w' := (qclr (qup (qclr (qup (qclr (qup (qclr (qup (qup w 64 0 0) 64 1 0) 65) 64 2 65) 66) 64 3 66) 67) 64 4 67) 68)) (n' := 68) rfl ?_
  refine qG.blk 3 (pc' := 48) (ls' := [(2, 64), (0, 0), (9, 0)]) (st' := []) (w' := (qup (qclr (qup (qclr (qup (qclr (qup (qclr (qup (qup w 64 0 0) 64 1 0) 65) 64 2 65) 66) 64 3 66) 67) 64 4 67) 68) 64 5 68)) (n' := 68) rfl ?_
  have L48 : ∀ (m9 : Nat) (s : Nat) (w9 : qW) (z : qV), 16 - s = m9 → (s ≤ 16 ∧ nbI w9 (qup (qclr (qup (qclr (qup (qclr (qup (qclr (qup (qup w 64 0 0) 64 1 0) 65) 64 2 65) 66) 64 3 66) 67) 64 4 67) 68) 64 5 68) 65 s) → qG none (d + 1) 17 48 [(2, 64), (0, ((s : Nat) : Int)), z] [] w9 68 Q9 := by
    intro m9
    induction m9 using Nat.strongRecOn with
    | ind m9 ih48 =>
    intro s w9 z hm48 hI48
    refine qG.blk 2 (pc' := 51) (ls' := [(2, 64), (0, ((s : Nat) : Int)), z]) (st' := [(0, 16), (0, ((s : Nat) : Int))]) (w' := w9) (n' := 68) rfl ?_
    refine qG.br (P := ((s : Nat) : Int) < 16) (pc1 := 54) (pc2 := 94) (st1 := []) rfl (fun h1 => ?_) (fun h1 => ?_)
    · skip
      refine qG.blk 2 (pc' := 56) (ls' := [(2, 64), (0, ((s : Nat) : Int)), (0, 0)]) (st' := []) (w' := w9) (n' := 68) rfl ?_
      have L56 : ∀ (m9 : Nat) (t : Nat) (w8 : qW), 16 - t = m9 → (t ≤ 16 ∧ nbJ w8 (qup (qclr (qup (qclr (qup (qclr (qup (qclr (qup (qup w 64 0 0) 64 1 0) 65) 64 2 65) 66) 64 3 66) 67) 64 4 67) 68) 64 5 68) 65 s t) → qG none (d + 1) 17 56 [(2, 64), (0, ((s : Nat) : Int)), (0, ((t : Nat) : Int))] [] w8 68 Q9 := by
        intro m9
        induction m9 using Nat.strongRecOn with
        | ind m9 ih56 =>
        intro t w8 hm56 hI56
        refine qG.blk 2 (pc' := 59) (ls' := [(2, 64), (0, ((s : Nat) : Int)), (0, ((t : Nat) : Int))]) (st' := [(0, 16), (0, ((t : Nat) : Int))]) (w' := w8) (n' := 68) rfl ?_
        refine qG.br (P := ((t : Nat) : Int) < 16) (pc1 := 62) (pc2 := 88) (st1 := []) rfl (fun h2 => ?_) (fun h2 => ?_)
        · skip
          refine qG.blk 2 (pc' := 64) (ls' := [(2, 64), (0, ((s : Nat) : Int)), (0, ((t : Nat) : Int))]) (st' := [(0, ((t : Nat) : Int)), (0, ((s : Nat) : Int))]) (w' := w8) (n' := 68) rfl ?_
          refine qG.call (t := 18) (na := 2) (sk := 0) (md := 0) (ls1 := [(0, ((s : Nat) : Int)), (0, ((t : Nat) : Int)), (9, 0), (9, 0), (9, 0)]) (r1 := []) rfl rfl rfl rfl rfl (K_X2_areN (by omega) s t (by omega) (by omega) _ _) ?_
          rintro _ w7 _ ⟨rfl, hw7, rfl⟩
          rw [hw7]
          show qG none (d + 1) 17 67 [(2, 64), (0, ((s : Nat) : Int)), (0, ((t : Nat) : Int))] [(0, (if nbB s t = true then 1 else 0))] w8 68 Q9
          refine qG.br (P := (if nbB s t = true then 1 else 0) = 0) (pc1 := 82) (pc2 := 70) (st1 := []) rfl (fun hnb => ?_) (fun hnb => ?_)
          · skip
            refine qG.blk 1 (pc' := 85) (ls' := [(2, 64), (0, ((s : Nat) : Int)), (0, wrp (((t : Nat) : Int) + 1))]) (st' := []) (w' := w8) (n' := 68) rfl ?_
            rw [show wrp (((t : Nat) : Int) + 1) = ((t + 1 : Nat) : Int) from wrp_id (by omega) (by omega)]
            refine qG.blk 1 (pc' := 56) (ls' := [(2, 64), (0, ((s : Nat) : Int)), (0, ((t + 1 : Nat) : Int))]) (st' := []) (w' := w8) (n' := 68) rfl ?_
            exact ih56 _ (by omega) (t + 1) (w8) rfl (⟨by omega, hI56.2.no (ite01.mp hnb)⟩)
          · skip
            refine qG.blk 2 (pc' := 74) (ls' := [(2, 64), (0, ((s : Nat) : Int)), (0, ((t : Nat) : Int))]) (st' := [(2, w8 64 2)]) (w' := w8) (n' := 68) rfl ?_
            rw [show w8 64 2 = 65 from by rw [hI56.2.out (by decide)]; rfl]
            refine qG.blk 2 (pc' := 76) (ls' := [(2, 64), (0, ((s : Nat) : Int)), (0, ((t : Nat) : Int))]) (st' := [(0, ((s : Nat) : Int)), (2, 65), (0, ((s : Nat) : Int)), (2, 65)]) (w' := w8) (n' := 68) rfl ?_
            refine qG.ar (P := 0 ≤ ((s : Nat) : Int) ∧ ((s : Nat) : Int) < ((16 : Nat) : Int)) (P2 := 0 < (65 : Int) ∧ (65 : Int) ≤ ((68 : Nat) : Int)) (pc' := 77) (ls' := [(2, 64), (0, ((s : Nat) : Int)), (0, ((t : Nat) : Int))]) (st' := [(0, w8 65 s), (0, ((s : Nat) : Int)), (2, 65)]) (w' := w8) (n' := 68) rfl (by omega) (by decide) ?_
            rw [show w8 65 s = nbp s t from hI56.2.at]
            refine qG.blk 4 (pc' := 81) (ls' := [(2, 64), (0, ((s : Nat) : Int)), (0, ((t : Nat) : Int))]) (st' := [(0, qor (nbp s t) (qshl 1 ((t : Nat) : Int))), (0, ((s : Nat) : Int)), (2, 65)]) (w' := w8) (n' := 68) rfl ?_
            refine qG.ar (P := 0 ≤ ((s : Nat) : Int) ∧ ((s : Nat) : Int) < ((16 : Nat) : Int)) (P2 := 0 < (65 : Int) ∧ (65 : Int) ≤ ((68 : Nat) : Int)) (pc' := 82) (ls' := [(2, 64), (0, ((s : Nat) : Int)), (0, ((t : Nat) : Int))]) (st' := []) (w' := (qup w8 65 s (qor (nbp s t) (qshl 1 ((t : Nat) : Int))))) (n' := 68) rfl (by omega) (by decide) ?_
            refine qG.blk 1 (pc' := 85) (ls' := [(2, 64), (0, ((s : Nat) : Int)), (0, wrp (((t : Nat) : Int) + 1))]) (st' := []) (w' := (qup w8 65 s (qor (nbp s t) (qshl 1 ((t : Nat) : Int))))) (n' := 68) rfl ?_
            rw [show wrp (((t : Nat) : Int) + 1) = ((t + 1 : Nat) : Int) from wrp_id (by omega) (by omega)]
            refine qG.blk 1 (pc' := 56) (ls' := [(2, 64), (0, ((s : Nat) : Int)), (0, ((t + 1 : Nat) : Int))]) (st' := []) (w' := (qup w8 65 s (qor (nbp s t) (qshl 1 ((t : Nat) : Int))))) (n' := 68) rfl ?_
            exact ih56 _ (by omega) (t + 1) ((qup w8 65 s (qor (nbp s t) (qshl 1 ((t : Nat) : Int))))) rfl (⟨by omega, hI56.2.yes (Decidable.of_not_not (fun z => hnb (ite01.mpr z)))⟩)
        · skip
          refine qG.blk 1 (pc' := 91) (ls' := [(2, 64), (0, wrp (((s : Nat) : Int) + 1)), (0, ((t : Nat) : Int))]) (st' := []) (w' := w8) (n' := 68) rfl ?_
          rw [show wrp (((s : Nat) : Int) + 1) = ((s + 1 : Nat) : Int) from wrp_id (by omega) (by omega)]
          refine qG.blk 1 (pc' := 48) (ls' := [(2, 64), (0, ((s + 1 : Nat) : Int)), (0, ((t : Nat) : Int))]) (st' := []) (w' := w8) (n' := 68) rfl ?_
          exact ih48 _ (by omega) (s + 1) (w8) ((0, ((t : Nat) : Int))) rfl (⟨by omega, hI56.2.end (by omega)⟩)
      exact L56 _ (0) (w9) rfl (⟨by omega, hI48.2.in⟩)
    · skip
      refine qG.retv rfl rfl ?_
      subst hQ9
      refine ⟨rfl, nbI.fin hI48.2 (by omega) (X := fun p j => if p < 64 then w p j else if p ≤ 68 then qW0 p j else 0) (fun p j hp => ?_) (fun j => ?_), rfl⟩
      · show _ = if p < 64 then w p j else if p ≤ 68 then qW0 p j else 0
        by_cases c1 : p < 64
        · rw [if_pos c1]; simp (disch := omega) only [qup_ne, qup_j, qclr_lo, qmul_lo]
        rw [if_neg c1]
        by_cases c2 : 68 < p
        · rw [if_neg (by omega)]; simp (disch := omega) only [qup_ne, qup_j, qclr_lo, qmul_lo, qclr_at, qmul_hi]
        rw [if_pos (by omega)]
        rcases (show p = 64 ∨ p = 65 ∨ p = 66 ∨ p = 67 ∨ p = 68 by omega) with rfl | rfl | rfl | rfl | rfl
        · by_cases c3 : j < 6
          · rcases (show j = 0 ∨ j = 1 ∨ j = 2 ∨ j = 3 ∨ j = 4 ∨ j = 5 by omega) with rfl | rfl | rfl | rfl | rfl | rfl <;> first | rfl | exact hz _ | (simp (disch := omega) only [qup_ne, qup_j, qclr_lo, qmul_lo, qup_k, qclr_at, qmul_hi]; done) | (simp (disch := omega) only [qup_ne, qup_j, qclr_lo, qmul_lo, qup_k, qclr_at, qmul_hi]; rfl) | (simp (disch := omega) only [qup_ne, qup_j, qclr_lo, qmul_lo, qup_k, qclr_at, hz]; rfl)
          · first | (simp (disch := omega) only [qup_ne, qup_j, qclr_lo, qmul_lo, hz]; unfold qW0; simp (disch := omega) only [qbeq_f, qble_t]; rfl) | (simp (disch := omega) only [qup_ne, qup_j, qclr_lo, qmul_lo, qclr_at]; unfold qW0; simp (disch := omega) only [qbeq_f, qble_t]; rfl) | (simp (disch := omega) only [qup_ne, qup_j, qclr_lo, qmul_lo, qclr_at]; done)
        · exact absurd rfl hp
        · first | rfl | (simp (disch := omega) only [qup_ne, qup_j, qclr_lo, qmul_lo, qup_k, qclr_at, qmul_hi]; done) | (simp (disch := omega) only [qup_ne, qup_j, qclr_lo, qmul_lo, qup_k, qclr_at, qmul_hi]; rfl)
        · first | rfl | (simp (disch := omega) only [qup_ne, qup_j, qclr_lo, qmul_lo, qup_k, qclr_at, qmul_hi]; done) | (simp (disch := omega) only [qup_ne, qup_j, qclr_lo, qmul_lo, qup_k, qclr_at, qmul_hi]; rfl)
        · first | rfl | (simp (disch := omega) only [qup_ne, qup_j, qclr_lo, qmul_lo, qup_k, qclr_at, qmul_hi]; done) | (simp (disch := omega) only [qup_ne, qup_j, qclr_lo, qmul_lo, qup_k, qclr_at, qmul_hi]; rfl)
      · show (if 65 < 64 then _ else if 65 ≤ 68 then qW0 65 j else 0) = _
        rw [if_neg (by decide), if_pos (by decide)]
        by_cases c3 : j < 16
        · rw [if_pos c3, (nbp_16 j c3).1]
        · rw [if_neg c3]; unfold qW0; simp (disch := omega) only [qbeq_f, qble_t]; rfl
  exact L48 _ (0) ((qup (qclr (qup (qclr (qup (qclr (qup (qclr (qup (qup w 64 0 0) 64 1 0) 65) 64 2 65) 66) 64 3 66) 67) 64 4 67) 68) 64 5 68)) ((9, 0)) rfl (⟨by omega, nbI.z (fun j => rfl)⟩)
theorem K_X2_init_69 {d : Nat} (hd : 2 ≤ d) (w : qW) (hz : ∀ j, w 69 j = 0) : qG none d 17 0 [(2, 69), (9, 0), (9, 0)] [] w 69 (fun (r : qV) (w1 : qW) (n1 : Nat) => r = (9, 0) ∧ qFr w w1 69 73 ∧ n1 = 73) := by
  generalize hQ9 : (fun (r : qV) (w1 : qW) (n1 : Nat) => r = (9, 0) ∧ qFr w w1 69 73 ∧ n1 = 73) = Q9
  obtain ⟨d, rfl⟩ : ∃ d9, d = d9 + 1 := ⟨d - 1, by omega⟩
  refine qG.blk 1 (pc' := 1) (ls' := [(2, 69), (9, 0), (9, 0)]) (st' := [(2, 69)]) (w' := w) (n' := 69) rfl ?_
  refine qG.oin rfl rfl (by decide) ?_
  refine qG.blk 8 (pc' := 17) (ls' := [(2, 69), (9, 0), (9, 0)]) (st' := [(0, 16), (2, 69)]) (w' := (qup (qup w 69 0 0) 69 1 0)) (n' := 69) rfl ?_
  refine qG.blk 1 (pc' := 19) (ls' := [(2, 69), (9, 0), (9, 0)]) (st' := [(2, 70), (2, 69)]) (w' := (qclr (qup (qup w 69 0 0) 69 1 0) 70)) (n' := 70) rfl ?_
  refine qG.blk 3 (pc' := 25) (ls' := [(2, 69), (9, 0), (9, 0)]) (st' := [(0, 10), (2, 69)]) (w' := (qup (qclr (qup (qup w 69 0 0) 69 1 0) 70) 69 2 70)) (n' := 70) rfl ?_
  refine qG.blk 1 (pc' := 27) (ls' := [(2, 69), (9, 0), (9, 0)]) (st' := [(2, 71), (2, 69)]) (w' := (qclr (qup (qclr (qup (qup w 69 0 0) 69 1 0) 70) 69 2 70) 71)) (n' := 71) rfl ?_
  refine qG.blk 3 (pc' := 33) (ls' := [(2, 69), (9, 0), (9, 0)]) (st' := [(0, 10), (2, 69)]) (w' := (qup (qclr (qup (qclr (qup (qup w 69 0 0) 69 1 0) 70) 69 2 70) 71) 69 3 71)) (n' := 71) rfl ?_
  refine qG.blk 1 (pc' := 35) (ls' := [(2, 69), (9, 0), (9, 0)]) (st' := [(2, 72), (2, 69)]) (w' := (qclr (qup (qclr (qup (qclr (qup (qup w 69 0 0) 69 1 0) 70) 69 2 70) 71) 69 3 71) 72)) (n' := 72) rfl ?_
  refine qG.blk 3 (pc' := 41) (ls' := [(2, 69), (9, 0), (9, 0)]) (st' := [(0, 10), (2, 69)]) (w' := (qup (qclr (qup (qclr (qup (qclr (qup (qup w 69 0 0) 69 1 0) 70) 69 2 70) 71) 69 3 71) 72) 69 4 72)) (n' := 72) rfl ?_
  refine qG.blk 1 (pc' := 43) (ls' := [(2, 69), (9, 0), (9, 0)]) (st' := [(2, 73), (2, 69)]) (w' := (qclr (qup (qclr (qup (qclr (qup (qclr (qup (qup w 69 0 0) 69 1 0) 70) 69 2 70) 71) 69 3 71) 72) 69 4 72) 73)) (n' := 73) rfl ?_
  refine qG.blk 3 (pc' := 48) (ls' := [(2, 69), (0, 0), (9, 0)]) (st' := []) (w' := (qup (qclr (qup (qclr (qup (qclr (qup (qclr (qup (qup w 69 0 0) 69 1 0) 70) 69 2 70) 71) 69 3 71) 72) 69 4 72) 73) 69 5 73)) (n' := 73) rfl ?_
  have L48 : ∀ (m9 : Nat) (s : Nat) (w9 : qW) (z : qV), 16 - s = m9 → (s ≤ 16 ∧ nbI w9 (qup (qclr (qup (qclr (qup (qclr (qup (qclr (qup (qup w 69 0 0) 69 1 0) 70) 69 2 70) 71) 69 3 71) 72) 69 4 72) 73) 69 5 73) 70 s) → qG none (d + 1) 17 48 [(2, 69), (0, ((s : Nat) : Int)), z] [] w9 73 Q9 := by
    intro m9
    induction m9 using Nat.strongRecOn with
    | ind m9 ih48 =>
    intro s w9 z hm48 hI48
    refine qG.blk 2 (pc' := 51) (ls' := [(2, 69), (0, ((s : Nat) : Int)), z]) (st' := [(0, 16), (0, ((s : Nat) : Int))]) (w' := w9) (n' := 73) rfl ?_
    refine qG.br (P := ((s : Nat) : Int) < 16) (pc1 := 54) (pc2 := 94) (st1 := []) rfl (fun h1 => ?_) (fun h1 => ?_)
    · skip
      refine qG.blk 2 (pc' := 56) (ls' := [(2, 69), (0, ((s : Nat) : Int)), (0, 0)]) (st' := []) (w' := w9) (n' := 73) rfl ?_
      have L56 : ∀ (m9 : Nat) (t : Nat) (w8 : qW), 16 - t = m9 → (t ≤ 16 ∧ nbJ w8 (qup (qclr (qup (qclr (qup (qclr (qup (qclr (qup (qup w 69 0 0) 69 1 0) 70) 69 2 70) 71) 69 3 71) 72) 69 4 72) 73) 69 5 73) 70 s t) → qG none (d + 1) 17 56 [(2, 69), (0, ((s : Nat) : Int)), (0, ((t : Nat) : Int))] [] w8 73 Q9 := by
        intro m9
        induction m9 using Nat.strongRecOn with
        | ind m9 ih56 =>
        intro t w8 hm56 hI56
        refine qG.blk 2 (pc' := 59) (ls' := [(2, 69), (0, ((s : Nat) : Int)), (0, ((t : Nat) : Int))]) (st' := [(0, 16), (0, ((t : Nat) : Int))]) (w' := w8) (n' := 73) rfl ?_
        refine qG.br (P := ((t : Nat) : Int) < 16) (pc1 := 62) (pc2 := 88) (st1 := []) rfl (fun h2 => ?_) (fun h2 => ?_)
        · skip
          refine qG.blk 2 (pc' := 64) (ls' := [(2, 69), (0, ((s : Nat) : Int)), (0, ((t : Nat) : Int))]) (st' := [(0, ((t : Nat) : Int)), (0, ((s : Nat) : Int))]) (w' := w8) (n' := 73) rfl ?_
          refine qG.call (t := 18) (na := 2) (sk := 0) (md := 0) (ls1 := [(0, ((s : Nat) : Int)), (0, ((t : Nat) : Int)), (9, 0), (9, 0), (9, 0)]) (r1 := []) rfl rfl rfl rfl rfl (K_X2_areN (by omega) s t (by omega) (by omega) _ _) ?_
          rintro _ w7 _ ⟨rfl, hw7, rfl⟩
          rw [hw7]
          show qG none (d + 1) 17 67 [(2, 69), (0, ((s : Nat) : Int)), (0, ((t : Nat) : Int))] [(0, (if nbB s t = true then 1 else 0))] w8 73 Q9
          refine qG.br (P := (if nbB s t = true then 1 else 0) = 0) (pc1 := 82) (pc2 := 70) (st1 := []) rfl (fun hnb => ?_) (fun hnb => ?_)
          · skip
            refine qG.blk 1 (pc' := 85) (ls' := [(2, 69), (0, ((s : Nat) : Int)), (0, wrp (((t : Nat) : Int) + 1))]) (st' := []) (w' := w8) (n' := 73) rfl ?_
            rw [show wrp (((t : Nat) : Int) + 1) = ((t + 1 : Nat) : Int) from wrp_id (by omega) (by omega)]
            refine qG.blk 1 (pc' := 56) (ls' := [(2, 69), (0, ((s : Nat) : Int)), (0, ((t + 1 : Nat) : Int))]) (st' := []) (w' := w8) (n' := 73) rfl ?_
            exact ih56 _ (by omega) (t + 1) (w8) rfl (⟨by omega, hI56.2.no (ite01.mp hnb)⟩)
          · skip
            refine qG.blk 2 (pc' := 74) (ls' := [(2, 69), (0, ((s : Nat) : Int)), (0, ((t : Nat) : Int))]) (st' := [(2, w8 69 2)]) (w' := w8) (n' := 73) rfl ?_
            rw [show w8 69 2 = 70 from by rw [hI56.2.out (by decide)]; rfl]
            refine qG.blk 2 (pc' := 76) (ls' := [(2, 69), (0, ((s : Nat) : Int)), (0, ((t : Nat) : Int))]) (st' := [(0, ((s : Nat) : Int)), (2, 70), (0, ((s : Nat) : Int)), (2, 70)]) (w' := w8) (n' := 73) rfl ?_
            refine qG.ar (P := 0 ≤ ((s : Nat) : Int) ∧ ((s : Nat) : Int) < ((16 : Nat) : Int)) (P2 := 0 < (70 : Int) ∧ (70 : Int) ≤ ((73 : Nat) : Int)) (pc' := 77) (ls' := [(2, 69), (0, ((s : Nat) : Int)), (0, ((t : Nat) : Int))]) (st' := [(0, w8 70 s), (0, ((s : Nat) : Int)), (2, 70)]) (w' := w8) (n' := 73) rfl (by omega) (by decide) ?_
            rw [show w8 70 s = nbp s t from hI56.2.at]
            refine qG.blk 4 (pc' := 81) (ls' := [(2, 69), (0, ((s : Nat) : Int)), (0, ((t : Nat) : Int))]) (st' := [(0, qor (nbp s t) (qshl 1 ((t : Nat) : Int))), (0, ((s : Nat) : Int)), (2, 70)]) (w' := w8) (n' := 73) rfl ?_
            refine qG.ar (P := 0 ≤ ((s : Nat) : Int) ∧ ((s : Nat) : Int) < ((16 : Nat) : Int)) (P2 := 0 < (70 : Int) ∧ (70 : Int) ≤ ((73 : Nat) : Int)) (pc' := 82) (ls' := [(2, 69), (0, ((s : Nat) : Int)), (0, ((t : Nat) : Int))]) (st' := []) (w' := (qup w8 70 s (qor (nbp s t) (qshl 1 ((t : Nat) : Int))))) (n' := 73) rfl (by omega) (by decide) ?_
            refine qG.blk 1 (pc' := 85) (ls' := [(2, 69), (0, ((s : Nat) : Int)), (0, wrp (((t : Nat) : Int) + 1))]) (st' := []) (w' := (qup w8 70 s (qor (nbp s t) (qshl 1 ((t : Nat) : Int))))) (n' := 73) rfl ?_
            rw [show wrp (((t : Nat) : Int) + 1) = ((t + 1 : Nat) : Int) from wrp_id (by omega) (by omega)]
            refine qG.blk 1 (pc' := 56) (ls' := [(2, 69), (0, ((s : Nat) : Int)), (0, ((t + 1 : Nat) : Int))]) (st' := []) (w' := (qup w8 70 s (qor (nbp s t) (qshl 1 ((t : Nat) : Int))))) (n' := 73) rfl ?_
            exact ih56 _ (by omega) (t + 1) ((qup w8 70 s (qor (nbp s t) (qshl 1 ((t : Nat) : Int))))) rfl (⟨by omega, hI56.2.yes (Decidable.of_not_not (fun z => hnb (ite01.mpr z)))⟩)
        · skip
          refine qG.blk 1 (pc' := 91) (ls' := [(2, 69), (0, wrp (((s : Nat) : Int) + 1)), (0, ((t : Nat) : Int))]) (st' := []) (w' := w8) (n' := 73) rfl ?_
          rw [show wrp (((s : Nat) : Int) + 1) = ((s + 1 : Nat) : Int) from wrp_id (by omega) (by omega)]
          refine qG.blk 1 (pc' := 48) (ls' := [(2, 69), (0, ((s + 1 : Nat) : Int)), (0, ((t : Nat) : Int))]) (st' := []) (w' := w8) (n' := 73) rfl ?_
          exact ih48 _ (by omega) (s + 1) (w8) ((0, ((t : Nat) : Int))) rfl (⟨by omega, hI56.2.end (by omega)⟩)
      exact L56 _ (0) (w9) rfl (⟨by omega, hI48.2.in⟩)
    · skip
      refine qG.retv rfl rfl ?_
      subst hQ9
      refine ⟨rfl, nbI.fin hI48.2 (by omega) (X := fun p j => if p < 69 then w p j else if p ≤ 73 then qW0 p j else 0) (fun p j hp => ?_) (fun j => ?_), rfl⟩
      · show _ = if p < 69 then w p j else if p ≤ 73 then qW0 p j else 0
        by_cases c1 : p < 69
        · rw [if_pos c1]; simp (disch := omega) only [qup_ne, qup_j, qclr_lo, qmul_lo]
        rw [if_neg c1]
        by_cases c2 : 73 < p
        · rw [if_neg (by omega)]; simp (disch := omega) only [qup_ne, qup_j, qclr_lo, qmul_lo, qclr_at, qmul_hi]
        rw [if_pos (by omega)]
        rcases (show p = 69 ∨ p = 70 ∨ p = 71 ∨ p = 72 ∨ p = 73 by omega) with rfl | rfl | rfl | rfl | rfl
        · by_cases c3 : j < 6
          · rcases (show j = 0 ∨ j = 1 ∨ j = 2 ∨ j = 3 ∨ j = 4 ∨ j = 5 by omega) with rfl | rfl | rfl | rfl | rfl | rfl <;> first | rfl | exact hz _ | (simp (disch := omega) only [qup_ne, qup_j, qclr_lo, qmul_lo, qup_k, qclr_at, qmul_hi]; done) | (simp (disch := omega) only [qup_ne, qup_j, qclr_lo, qmul_lo, qup_k, qclr_at, qmul_hi]; rfl) | (simp (disch := omega) only [qup_ne, qup_j, qclr_lo, qmul_lo, qup_k, qclr_at, hz]; rfl)
          · first | (simp (disch := omega) only [qup_ne, qup_j, qclr_lo, qmul_lo, hz]; unfold qW0; simp (disch := omega) only [qbeq_f, qble_t]; rfl) | (simp (disch := omega) only [qup_ne, qup_j, qclr_lo, qmul_lo, qclr_at]; unfold qW0; simp (disch := omega) only [qbeq_f, qble_t]; rfl) | (simp (disch := omega) only [qup_ne, qup_j, qclr_lo, qmul_lo, qclr_at]; done)
        · exact absurd rfl hp
        · first | rfl | (simp (disch := omega) only [qup_ne, qup_j, qclr_lo, qmul_lo, qup_k, qclr_at, qmul_hi]; done) | (simp (disch := omega) only [qup_ne, qup_j, qclr_lo, qmul_lo, qup_k, qclr_at, qmul_hi]; rfl)
        · first | rfl | (simp (disch := omega) only [qup_ne, qup_j, qclr_lo, qmul_lo, qup_k, qclr_at, qmul_hi]; done) | (simp (disch := omega) only [qup_ne, qup_j, qclr_lo, qmul_lo, qup_k, qclr_at, qmul_hi]; rfl)
        · first | rfl | (simp (disch := omega) only [qup_ne, qup_j, qclr_lo, qmul_lo, qup_k, qclr_at, qmul_hi]; done) | (simp (disch := omega) only [qup_ne, qup_j, qclr_lo, qmul_lo, qup_k, qclr_at, qmul_hi]; rfl)
      · show (if 70 < 69 then _ else if 70 ≤ 73 then qW0 70 j else 0) = _
        rw [if_neg (by decide), if_pos (by decide)]
        by_cases c3 : j < 16
        · rw [if_pos c3, (nbp_16 j c3).2.1]
        · rw [if_neg c3]; unfold qW0; simp (disch := omega) only [qbeq_f, qble_t]; rfl
  exact L48 _ (0) ((qup (qclr (qup (qclr (qup (qclr (qup (qclr (qup (qup w 69 0 0) 69 1 0) 70) 69 2 70) 71) 69 3 71) 72) 69 4 72) 73) 69 5 73)) ((9, 0)) rfl (⟨by omega, nbI.z (fun j => rfl)⟩)
theorem K_X2_init_74 {d : Nat} (hd : 2 ≤ d) (w : qW) (hz : ∀ j, w 74 j = 0) : qG none d 17 0 [(2, 74), (9, 0), (9, 0)] [] w 74 (fun (r : qV) (w1 : qW) (n1 : Nat) => r = (9, 0) ∧ qFr w w1 74 78 ∧ n1 = 78) := by
  generalize hQ9 : (fun (r : qV) (w1 : qW) (n1 : Nat) => r = (9, 0) ∧ qFr w w1 74 78 ∧ n1 = 78) = Q9
  obtain ⟨d, rfl⟩ : ∃ d9, d = d9 + 1 := ⟨d - 1, by omega⟩
  refine qG.blk 1 (pc' := 1) (ls' := [(2, 74), (9, 0), (9, 0)]) (st' := [(2, 74)]) (w' := w) (n' := 74) rfl ?_
  refine qG.oin rfl rfl (by decide) ?_
  refine qG.blk 8 (pc' := 17) (ls' := [(2, 74), (9, 0), (9, 0)]) (st' := [(0, 16), (2, 74)]) (w' := (qup (qup w 74 0 0) 74 1 0)) (n' := 74) rfl ?_
  refine qG.blk 1 (pc' := 19) (ls' := [(2, 74), (9, 0), (9, 0)]) (st' := [(2, 75), (2, 74)]) (w' := (qclr (qup (qup w 74 0 0) 74 1 0) 75)) (n' := 75) rfl ?_
  refine qG.blk 3 (pc' := 25) (ls' := [(2, 74), (9, 0), (9, 0)]) (st' := [(0, 10), (2, 74)]) (w' := (qup (qclr (qup (qup w 74 0 0) 74 1 0) 75) 74 2 75)) (n' := 75) rfl ?_
  refine qG.blk 1 (pc' := 27) (ls' := [(2, 74), (9, 0), (9, 0)]) (st' := [(2, 76), (2, 74)]) (w' := (qclr (qup (qclr (qup (qup w 74 0 0) 74 1 0) 75) 74 2 75) 76)) (n' := 76) rfl ?_
  refine qG.blk 3 (pc' := 33) (ls' := [(2, 74), (9, 0), (9, 0)]) (st' := [(0, 10), (2, 74)]) (w' := (qup (qclr (qup (qclr (qup (qup w 74 0 0) 74 1 0) 75) 74 2 75) 76) 74 3 76)) (n' := 76) rfl ?_
  refine qG.blk 1 (pc' := 35) (ls' := [(2, 74), (9, 0), (9, 0)]) (st' := [(2, 77), (2, 74)]) (w' := (qclr (qup (qclr (qup (qclr (qup (qup w 74 0 0) 74 1 0) 75) 74 2 75) 76) 74 3 76) 77)) (n' := 77) rfl ?_
  refine qG.blk 3 (pc' := 41) (ls' := [(2, 74), (9, 0), (9, 0)]) (st' := [(0, 10), (2, 74)]) (w' := (qup (qclr (qup (qclr (qup (qclr (qup (qup w 74 0 0) 74 1 0) 75) 74 2 75) 76) 74 3 76) 77) 74 4 77)) (n' := 77) rfl ?_
  refine qG.blk 1 (pc' := 43) (ls' := [(2, 74), (9, 0), (9, 0)]) (st' := [(2, 78), (2, 74)]) (w' := (qclr (qup (qclr (qup (qclr (qup (qclr (qup (qup w 74 0 0) 74 1 0) 75) 74 2 75) 76) 74 3 76) 77) 74 4 77) 78)) (n' := 78) rfl ?_
  refine qG.blk 3 (pc' := 48) (ls' := [(2, 74), (0, 0), (9, 0)]) (st' := []) (w' := (qup (qclr (qup (qclr (qup (qclr (qup (qclr (qup (qup w 74 0 0) 74 1 0) 75) 74 2 75) 76) 74 3 76) 77) 74 4 77) 78) 74 5 78)) (n' := 78) rfl ?_
  have L48 : ∀ (m9 : Nat) (s : Nat) (w9 : qW) (z : qV), 16 - s = m9 → (s ≤ 16 ∧ nbI w9 (qup (qclr (qup (qclr (qup (qclr (qup (qclr (qup (qup w 74 0 0) 74 1 0) 75) 74 2 75) 76) 74 3 76) 77) 74 4 77) 78) 74 5 78) 75 s) → qG none (d + 1) 17 48 [(2, 74), (0, ((s : Nat) : Int)), z] [] w9 78 Q9 := by
    intro m9
    induction m9 using Nat.strongRecOn with
    | ind m9 ih48 =>
    intro s w9 z hm48 hI48
    refine qG.blk 2 (pc' := 51) (ls' := [(2, 74), (0, ((s : Nat) : Int)), z]) (st' := [(0, 16), (0, ((s : Nat) : Int))]) (w' := w9) (n' := 78) rfl ?_
    refine qG.br (P := ((s : Nat) : Int) < 16) (pc1 := 54) (pc2 := 94) (st1 := []) rfl (fun h1 => ?_) (fun h1 => ?_)
    · skip
      refine qG.blk 2 (pc' := 56) (ls' := [(2, 74), (0, ((s : Nat) : Int)), (0, 0)]) (st' := []) (w' := w9) (n' := 78) rfl ?_
      have L56 : ∀ (m9 : Nat) (t : Nat) (w8 : qW), 16 - t = m9 → (t ≤ 16 ∧ nbJ w8 (qup (qclr (qup (qclr (qup (qclr (qup (qclr (qup (qup w 74 0 0) 74 1 0) 75) 74 2 75) 76) 74 3 76) 77) 74 4 77) 78) 74 5 78) 75 s t) → qG none (d + 1) 17 56 [(2, 74), (0, ((s : Nat) : Int)), (0, ((t : Nat) : Int))] [] w8 78 Q9 := by
        intro m9
        induction m9 using Nat.strongRecOn with
        | ind m9 ih56 =>
        intro t w8 hm56 hI56
        refine qG.blk 2 (pc' := 59) (ls' := [(2, 74), (0, ((s : Nat) : Int)), (0, ((t : Nat) : Int))]) (st' := [(0, 16), (0, ((t : Nat) : Int))]) (w' := w8) (n' := 78) rfl ?_
        refine qG.br (P := ((t : Nat) : Int) < 16) (pc1 := 62) (pc2 := 88) (st1 := []) rfl (fun h2 => ?_) (fun h2 => ?_)
        · skip
          refine qG.blk 2 (pc' := 64) (ls' := [(2, 74), (0, ((s : Nat) : Int)), (0, ((t : Nat) : Int))]) (st' := [(0, ((t : Nat) : Int)), (0, ((s : Nat) : Int))]) (w' := w8) (n' := 78) rfl ?_
          refine qG.call (t := 18) (na := 2) (sk := 0) (md := 0) (ls1 := [(0, ((s : Nat) : Int)), (0, ((t : Nat) : Int)), (9, 0), (9, 0), (9, 0)]) (r1 := []) rfl rfl rfl rfl rfl (K_X2_areN (by omega) s t (by omega) (by omega) _ _) ?_
          rintro _ w7 _ ⟨rfl, hw7, rfl⟩
          rw [hw7]
          show qG none (d + 1) 17 67 [(2, 74), (0, ((s : Nat) : Int)), (0, ((t : Nat) : Int))] [(0, (if nbB s t = true then 1 else 0))] w8 78 Q9
          refine qG.br (P := (if nbB s t = true then 1 else 0) = 0) (pc1 := 82) (pc2 := 70) (st1 := []) rfl (fun hnb => ?_) (fun hnb => ?_)
          · skip
            refine qG.blk 1 (pc' := 85) (ls' := [(2, 74), (0, ((s : Nat) : Int)), (0, wrp (((t : Nat) : Int) + 1))]) (st' := []) (w' := w8) (n' := 78) rfl ?_
            rw [show wrp (((t : Nat) : Int) + 1) = ((t + 1 : Nat) : Int) from wrp_id (by omega) (by omega)]
            refine qG.blk 1 (pc' := 56) (ls' := [(2, 74), (0, ((s : Nat) : Int)), (0, ((t + 1 : Nat) : Int))]) (st' := []) (w' := w8) (n' := 78) rfl ?_
            exact ih56 _ (by omega) (t + 1) (w8) rfl (⟨by omega, hI56.2.no (ite01.mp hnb)⟩)
          · skip
            refine qG.blk 2 (pc' := 74) (ls' := [(2, 74), (0, ((s : Nat) : Int)), (0, ((t : Nat) : Int))]) (st' := [(2, w8 74 2)]) (w' := w8) (n' := 78) rfl ?_
            rw [show w8 74 2 = 75 from by rw [hI56.2.out (by decide)]; rfl]
            refine qG.blk 2 (pc' := 76) (ls' := [(2, 74), (0, ((s : Nat) : Int)), (0, ((t : Nat) : Int))]) (st' := [(0, ((s : Nat) : Int)), (2, 75), (0, ((s : Nat) : Int)), (2, 75)]) (w' := w8) (n' := 78) rfl ?_
            refine qG.ar (P := 0 ≤ ((s : Nat) : Int) ∧ ((s : Nat) : Int) < ((16 : Nat) : Int)) (P2 := 0 < (75 : Int) ∧ (75 : Int) ≤ ((78 : Nat) : Int)) (pc' := 77) (ls' := [(2, 74), (0, ((s : Nat) : Int)), (0, ((t : Nat) : Int))]) (st' := [(0, w8 75 s), (0, ((s : Nat) : Int)), (2, 75)]) (w' := w8) (n' := 78) rfl (by omega) (by decide) ?_
            rw [show w8 75 s = nbp s t from hI56.2.at]
            refine qG.blk 4 (pc' := 81) (ls' := [(2, 74), (0, ((s : Nat) : Int)), (0, ((t : Nat) : Int))]) (st' := [(0, qor (nbp s t) (qshl 1 ((t : Nat) : Int))), (0, ((s : Nat) : Int)), (2, 75)]) (w' := w8) (n' := 78) rfl ?_
            refine qG.ar (P := 0 ≤ ((s : Nat) : Int) ∧ ((s : Nat) : Int) < ((16 : Nat) : Int)) (P2 := 0 < (75 : Int) ∧ (75 : Int) ≤ ((78 : Nat) : Int)) (pc' := 82) (ls' := [(2, 74), (0, ((s : Nat) : Int)), (0, ((t : Nat) : Int))]) (st' := []) (w' := (qup w8 75 s (qor (nbp s t) (qshl 1 ((t : Nat) : Int))))) (n' := 78) rfl (by omega) (by decide) ?_
            refine qG.blk 1 (pc' := 85) (ls' := [(2, 74), (0, ((s : Nat) : Int)), (0, wrp (((t : Nat) : Int) + 1))]) (st' := []) (w' := (qup w8 75 s (qor (nbp s t) (qshl 1 ((t : Nat) : Int))))) (n' := 78) rfl ?_
            rw [show wrp (((t : Nat) : Int) + 1) = ((t + 1 : Nat) : Int) from wrp_id (by omega) (by omega)]
            refine qG.blk 1 (pc' := 56) (ls' := [(2, 74), (0, ((s : Nat) : Int)), (0, ((t + 1 : Nat) : Int))]) (st' := []) (w' := (qup w8 75 s (qor (nbp s t) (qshl 1 ((t : Nat) : Int))))) (n' := 78) rfl ?_
            exact ih56 _ (by omega) (t + 1) ((qup w8 75 s (qor (nbp s t) (qshl 1 ((t : Nat) : Int))))) rfl (⟨by omega, hI56.2.yes (Decidable.of_not_not (fun z => hnb (ite01.mpr z)))⟩)
        · skip
          refine qG.blk 1 (pc' := 91) (ls' := [(2, 74), (0, wrp (((s : Nat) : Int) + 1)), (0, ((t : Nat) : Int))]) (st' := []) (w' := w8) (n' := 78) rfl ?_
          rw [show wrp (((s : Nat) : Int) + 1) = ((s + 1 : Nat) : Int) from wrp_id (by omega) (by omega)]
          refine qG.blk 1 (pc' := 48) (ls' := [(2, 74), (0, ((s + 1 : Nat) : Int)), (0, ((t : Nat) : Int))]) (st' := []) (w' := w8) (n' := 78) rfl ?_
          exact ih48 _ (by omega) (s + 1) (w8) ((0, ((t : Nat) : Int))) rfl (⟨by omega, hI56.2.end (by omega)⟩)
      exact L56 _ (0) (w9) rfl (⟨by omega, hI48.2.in⟩)
    · skip
      refine qG.retv rfl rfl ?_
      subst hQ9
      refine ⟨rfl, nbI.fin hI48.2 (by omega) (X := fun p j => if p < 74 then w p j else if p ≤ 78 then qW0 p j else 0) (fun p j hp => ?_) (fun j => ?_), rfl⟩
      · show _ = if p < 74 then w p j else if p ≤ 78 then qW0 p j else 0
        by_cases c1 : p < 74
        · rw [if_pos c1]; simp (disch := omega) only [qup_ne, qup_j, qclr_lo, qmul_lo]
        rw [if_neg c1]
        by_cases c2 : 78 < p
        · rw [if_neg (by omega)]; simp (disch := omega) only [qup_ne, qup_j, qclr_lo, qmul_lo, qclr_at, qmul_hi]
        rw [if_pos (by omega)]
        rcases (show p = 74 ∨ p = 75 ∨ p = 76 ∨ p = 77 ∨ p = 78 by omega) with rfl | rfl | rfl | rfl | rfl
        · by_cases c3 : j < 6
          · rcases (show j = 0 ∨ j = 1 ∨ j = 2 ∨ j = 3 ∨ j = 4 ∨ j = 5 by omega) with rfl | rfl | rfl | rfl | rfl | rfl <;> first | rfl | exact hz _ | (simp (disch := omega) only [qup_ne, qup_j, qclr_lo, qmul_lo, qup_k, qclr_at, qmul_hi]; done) | (simp (disch := omega) only [qup_ne, qup_j, qclr_lo, qmul_lo, qup_k, qclr_at, qmul_hi]; rfl) | (simp (disch := omega) only [qup_ne, qup_j, qclr_lo, qmul_lo, qup_k, qclr_at, hz]; rfl)
          · first | (simp (disch := omega) only [qup_ne, qup_j, qclr_lo, qmul_lo, hz]; unfold qW0; simp (disch := omega) only [qbeq_f, qble_t]; rfl) | (simp (disch := omega) only [qup_ne, qup_j, qclr_lo, qmul_lo, qclr_at]; unfold qW0; simp (disch := omega) only [qbeq_f, qble_t]; rfl) | (simp (disch := omega) only [qup_ne, qup_j, qclr_lo, qmul_lo, qclr_at]; done)
        · exact absurd rfl hp
        · first | rfl | (simp (disch := omega) only [qup_ne, qup_j, qclr_lo, qmul_lo, qup_k, qclr_at, qmul_hi]; done) | (simp (disch := omega) only [qup_ne, qup_j, qclr_lo, qmul_lo, qup_k, qclr_at, qmul_hi]; rfl)
        · first | rfl | (simp (disch := omega) only [qup_ne, qup_j, qclr_lo, qmul_lo, qup_k, qclr_at, qmul_hi]; done) | (simp (disch := omega) only [qup_ne, qup_j, qclr_lo, qmul_lo, qup_k, qclr_at, qmul_hi]; rfl)
        · first | rfl | (simp (disch := omega) only [qup_ne, qup_j, qclr_lo, qmul_lo, qup_k, qclr_at, qmul_hi]; done) | (simp (disch := omega) only [qup_ne, qup_j, qclr_lo, qmul_lo, qup_k, qclr_at, qmul_hi]; rfl)
      · show (if 75 < 74 then _ else if 75 ≤ 78 then qW0 75 j else 0) = _
        rw [if_neg (by decide), if_pos (by decide)]
        by_cases c3 : j < 16
        · rw [if_pos c3, (nbp_16 j c3).2.2]
        · rw [if_neg c3]; unfold qW0; simp (disch := omega) only [qbeq_f, qble_t]; rfl
  exact L48 _ (0) ((qup (qclr (qup (qclr (qup (qclr (qup (qclr (qup (qup w 74 0 0) 74 1 0) 75) 74 2 75) 76) 74 3 76) 77) 74 4 77) 78) 74 5 78)) ((9, 0)) rfl (⟨by omega, nbI.z (fun j => rfl)⟩)
