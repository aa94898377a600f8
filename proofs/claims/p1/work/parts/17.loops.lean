/-! constructors with loops -/
theorem qdiv_n {s m : Nat} (hs : s < 2147483648) : qdiv (s : Int) (m : Int) = ((s / m : Nat) : Int) := by
  unfold qdiv
  have h1 : (s : Int).tdiv (m : Int) = ((s / m : Nat) : Int) := rfl
  have h2 : s / m ≤ s := Nat.div_le_self _ _
  rw [h1]
  generalize s / m = q at h2 ⊢
  exact wrp_id (by omega) (by omega)
theorem qrem_n {s m : Nat} (hs : s < 2147483648) : qrem (s : Int) (m : Int) = ((s % m : Nat) : Int) := by
  have h0 := qdiv_n (m := m) hs
  unfold qdiv at h0
  unfold qrem
  rw [h0]
  have h : (m : Int) * ((s / m : Nat) : Int) + ((s % m : Nat) : Int) = (s : Int) := by exact_mod_cast Nat.div_add_mod s m
  have h3 : s % m ≤ s := Nat.mod_le _ _
  rw [Int.mul_comm]
  generalize (m : Int) * ((s / m : Nat) : Int) = z at h ⊢
  generalize s % m = r at h h3 ⊢
  rw [show (s : Int) - z = (r : Int) by omega]
  exact wrp_id (by omega) (by omega)
def dd (a b : Nat) : Nat := if a ≤ b then b - a else a - b
theorem dd_abs {a b : Nat} (ha : a < 1000) (hb : b < 1000) : (if 0 ≤ (a : Int) - (b : Int) then (a : Int) - (b : Int) else wrp (0 - ((a : Int) - (b : Int)))) = ((dd a b : Nat) : Int) := by
  unfold dd
  by_cases h : a ≤ b
  · rw [if_pos h]
    by_cases h2 : (0 : Int) ≤ (a : Int) - (b : Int)
    · rw [if_pos h2]; omega
    · rw [if_neg h2, wrp_id (by omega) (by omega)]; omega
  · rw [if_neg h, if_pos (by omega)]; omega
theorem dd_lt {a b n : Nat} (ha : a < n) (hb : b < n) : dd a b < n := by unfold dd; split <;> omega
/-- neighbours -/
def nbB (s t : Nat) : Bool := Nat.beq (dd (s % 4) (t % 4) + dd (s / 4 % 2) (t / 4 % 2) + dd (s / 8) (t / 8)) 1
def nbp (s : Nat) : Nat → Int
  | 0 => 0
  | t + 1 => if nbB s t = true then qor (nbp s t) (qshl 1 (t : Int)) else nbp s t
theorem nbp_16 : ∀ s, s < 16 → nbp s 16 = qW0 65 s ∧ nbp s 16 = qW0 70 s ∧ nbp s 16 = qW0 75 s := by decide +kernel
theorem K_X2_areN {d : Nat} (hd : 1 ≤ d) (s t : Nat) (hs : s < 16) (ht : t < 16) (w : qW) (n : Nat) : qG none d 18 0 [(0, ((s : Nat) : Int)), (0, ((t : Nat) : Int)), (9, 0), (9, 0), (9, 0)] [] w n (fun (r : qV) (w1 : qW) (n1 : Nat) => r = (0, if nbB s t = true then 1 else 0) ∧ w1 = w ∧ n1 = n) := by
  generalize hQ9 : (fun (r : qV) (w1 : qW) (n1 : Nat) => r = (0, if nbB s t = true then 1 else 0) ∧ w1 = w ∧ n1 = n) = Q9
  have e1 := dd_lt (n := 4) (a := s % 4) (b := t % 4) (by omega) (by omega)
  have e2 := dd_lt (n := 2) (a := s / 4 % 2) (b := t / 4 % 2) (by omega) (by omega)
  have e3 := dd_lt (n := 2) (a := s / 8) (b := t / 8) (by omega) (by omega)
  obtain ⟨d, rfl⟩ : ∃ d9, d = d9 + 1 := ⟨d - 1, by omega⟩
  refine qG.blk 2 (pc' := 2) (ls' := [(0, ((s : Nat) : Int)), (0, ((t : Nat) : Int)), (9, 0), (9, 0), (9, 0)]) (st' := [(0, 4), (0, ((s : Nat) : Int))]) (w' := w) (n' := n) rfl ?_
  refine qG.gn (P := 4 = 0) (pc' := 3) (ls' := [(0, ((s : Nat) : Int)), (0, ((t : Nat) : Int)), (9, 0), (9, 0), (9, 0)]) (st' := [(0, qrem ((s : Nat) : Int) 4)]) (w' := w) (n' := n) rfl (by decide) ?_
  rw [show qrem ((s : Nat) : Int) 4 = ((s % 4 : Nat) : Int) from qrem_n (m := 4) (by omega)]
  refine qG.blk 2 (pc' := 5) (ls' := [(0, ((s : Nat) : Int)), (0, ((t : Nat) : Int)), (9, 0), (9, 0), (9, 0)]) (st' := [(0, 4), (0, ((t : Nat) : Int)), (0, ((s % 4 : Nat) : Int))]) (w' := w) (n' := n) rfl ?_
  refine qG.gn (P := 4 = 0) (pc' := 6) (ls' := [(0, ((s : Nat) : Int)), (0, ((t : Nat) : Int)), (9, 0), (9, 0), (9, 0)]) (st' := [(0, qrem ((t : Nat) : Int) 4), (0, ((s % 4 : Nat) : Int))]) (w' := w) (n' := n) rfl (by decide) ?_
  rw [show qrem ((t : Nat) : Int) 4 = ((t % 4 : Nat) : Int) from qrem_n (m := 4) (by omega)]
  refine qG.blk 1 (pc' := 7) (ls' := [(0, ((s : Nat) : Int)), (0, ((t : Nat) : Int)), (9, 0), (9, 0), (9, 0)]) (st' := [(0, wrp (((s % 4 : Nat) : Int) - ((t % 4 : Nat) : Int)))]) (w' := w) (n' := n) rfl ?_
  rw [show wrp (((s % 4 : Nat) : Int) - ((t % 4 : Nat) : Int)) = ((s % 4 : Nat) : Int) - ((t % 4 : Nat) : Int) from wrp_id (by omega) (by omega)]
  refine qG.mth rfl rfl rfl (pc' := 10) (ls' := [(0, ((s : Nat) : Int)), (0, ((t : Nat) : Int)), (9, 0), (9, 0), (9, 0)]) (st' := [(0, (if 0 ≤ ((s % 4 : Nat) : Int) - ((t % 4 : Nat) : Int) then ((s % 4 : Nat) : Int) - ((t % 4 : Nat) : Int) else wrp (0 - (((s % 4 : Nat) : Int) - ((t % 4 : Nat) : Int)))))]) (w' := w) (n' := n) rfl ?_
  rw [show (if 0 ≤ ((s % 4 : Nat) : Int) - ((t % 4 : Nat) : Int) then ((s % 4 : Nat) : Int) - ((t % 4 : Nat) : Int) else wrp (0 - (((s % 4 : Nat) : Int) - ((t % 4 : Nat) : Int)))) = ((dd (s % 4) (t % 4) : Nat) : Int) from dd_abs (by omega) (by omega)]
  refine qG.blk 3 (pc' := 13) (ls' := [(0, ((s : Nat) : Int)), (0, ((t : Nat) : Int)), (0, ((dd (s % 4) (t % 4) : Nat) : Int)), (9, 0), (9, 0)]) (st' := [(0, 4), (0, ((s : Nat) : Int))]) (w' := w) (n' := n) rfl ?_
  refine qG.gn (P := 4 = 0) (pc' := 14) (ls' := [(0, ((s : Nat) : Int)), (0, ((t : Nat) : Int)), (0, ((dd (s % 4) (t % 4) : Nat) : Int)), (9, 0), (9, 0)]) (st' := [(0, qdiv ((s : Nat) : Int) 4)]) (w' := w) (n' := n) rfl (by decide) ?_
  rw [show qdiv ((s : Nat) : Int) 4 = ((s / 4 : Nat) : Int) from qdiv_n (m := 4) (by omega)]
  refine qG.blk 1 (pc' := 15) (ls' := [(0, ((s : Nat) : Int)), (0, ((t : Nat) : Int)), (0, ((dd (s % 4) (t % 4) : Nat) : Int)), (9, 0), (9, 0)]) (st' := [(0, 2), (0, ((s / 4 : Nat) : Int))]) (w' := w) (n' := n) rfl ?_
  refine qG.gn (P := 2 = 0) (pc' := 16) (ls' := [(0, ((s : Nat) : Int)), (0, ((t : Nat) : Int)), (0, ((dd (s % 4) (t % 4) : Nat) : Int)), (9, 0), (9, 0)]) (st' := [(0, qrem ((s / 4 : Nat) : Int) 2)]) (w' := w) (n' := n) rfl (by decide) ?_
  rw [show qrem ((s / 4 : Nat) : Int) 2 = ((s / 4 % 2 : Nat) : Int) from qrem_n (m := 2) (by omega)]
  refine qG.blk 2 (pc' := 18) (ls' := [(0, ((s : Nat) : Int)), (0, ((t : Nat) : Int)), (0, ((dd (s % 4) (t % 4) : Nat) : Int)), (9, 0), (9, 0)]) (st' := [(0, 4), (0, ((t : Nat) : Int)), (0, ((s / 4 % 2 : Nat) : Int))]) (w' := w) (n' := n) rfl ?_
  refine qG.gn (P := 4 = 0) (pc' := 19) (ls' := [(0, ((s : Nat) : Int)), (0, ((t : Nat) : Int)), (0, ((dd (s % 4) (t % 4) : Nat) : Int)), (9, 0), (9, 0)]) (st' := [(0, qdiv ((t : Nat) : Int) 4), (0, ((s / 4 % 2 : Nat) : Int))]) (w' := w) (n' := n) rfl (by decide) ?_
  rw [show qdiv ((t : Nat) : Int) 4 = ((t / 4 : Nat) : Int) from qdiv_n (m := 4) (by omega)]
  refine qG.blk 1 (pc' := 20) (ls' := [(0, ((s : Nat) : Int)), (0, ((t : Nat) : Int)), (0, ((dd (s % 4) (t % 4) : Nat) : Int)), (9, 0), (9, 0)]) (st' := [(0, 2), (0, ((t / 4 : Nat) : Int)), (0, ((s / 4 % 2 : Nat) : Int))]) (w' := w) (n' := n) rfl ?_
  refine qG.gn (P := 2 = 0) (pc' := 21) (ls' := [(0, ((s : Nat) : Int)), (0, ((t : Nat) : Int)), (0, ((dd (s % 4) (t % 4) : Nat) : Int)), (9, 0), (9, 0)]) (st' := [(0, qrem ((t / 4 : Nat) : Int) 2), (0, ((s / 4 % 2 : Nat) : Int))]) (w' := w) (n' := n) rfl (by decide) ?_
  rw [show qrem ((t / 4 : Nat) : Int) 2 = ((t / 4 % 2 : Nat) : Int) from qrem_n (m := 2) (by omega)]
  refine qG.blk 1 (pc' := 22) (ls' := [(0, ((s : Nat) : Int)), (0, ((t : Nat) : Int)), (0, ((dd (s % 4) (t % 4) : Nat) : Int)), (9, 0), (9, 0)]) (st' := [(0, wrp (((s / 4 % 2 : Nat) : Int) - ((t / 4 % 2 : Nat) : Int)))]) (w' := w) (n' := n) rfl ?_
  rw [show wrp (((s / 4 % 2 : Nat) : Int) - ((t / 4 % 2 : Nat) : Int)) = ((s / 4 % 2 : Nat) : Int) - ((t / 4 % 2 : Nat) : Int) from wrp_id (by omega) (by omega)]
  refine qG.mth rfl rfl rfl (pc' := 25) (ls' := [(0, ((s : Nat) : Int)), (0, ((t : Nat) : Int)), (0, ((dd (s % 4) (t % 4) : Nat) : Int)), (9, 0), (9, 0)]) (st' := [(0, (if 0 ≤ ((s / 4 % 2 : Nat) : Int) - ((t / 4 % 2 : Nat) : Int) then ((s / 4 % 2 : Nat) : Int) - ((t / 4 % 2 : Nat) : Int) else wrp (0 - (((s / 4 % 2 : Nat) : Int) - ((t / 4 % 2 : Nat) : Int)))))]) (w' := w) (n' := n) rfl ?_
  rw [show (if 0 ≤ ((s / 4 % 2 : Nat) : Int) - ((t / 4 % 2 : Nat) : Int) then ((s / 4 % 2 : Nat) : Int) - ((t / 4 % 2 : Nat) : Int) else wrp (0 - (((s / 4 % 2 : Nat) : Int) - ((t / 4 % 2 : Nat) : Int)))) = ((dd (s / 4 % 2) (t / 4 % 2) : Nat) : Int) from dd_abs (by omega) (by omega)]
  refine qG.blk 3 (pc' := 29) (ls' := [(0, ((s : Nat) : Int)), (0, ((t : Nat) : Int)), (0, ((dd (s % 4) (t % 4) : Nat) : Int)), (0, ((dd (s / 4 % 2) (t / 4 % 2) : Nat) : Int)), (9, 0)]) (st' := [(0, 8), (0, ((s : Nat) : Int))]) (w' := w) (n' := n) rfl ?_
  refine qG.gn (P := 8 = 0) (pc' := 30) (ls' := [(0, ((s : Nat) : Int)), (0, ((t : Nat) : Int)), (0, ((dd (s % 4) (t % 4) : Nat) : Int)), (0, ((dd (s / 4 % 2) (t / 4 % 2) : Nat) : Int)), (9, 0)]) (st' := [(0, qdiv ((s : Nat) : Int) 8)]) (w' := w) (n' := n) rfl (by decide) ?_
  rw [show qdiv ((s : Nat) : Int) 8 = ((s / 8 : Nat) : Int) from qdiv_n (m := 8) (by omega)]
  refine qG.blk 2 (pc' := 33) (ls' := [(0, ((s : Nat) : Int)), (0, ((t : Nat) : Int)), (0, ((dd (s % 4) (t % 4) : Nat) : Int)), (0, ((dd (s / 4 % 2) (t / 4 % 2) : Nat) : Int)), (9, 0)]) (st' := [(0, 8), (0, ((t : Nat) : Int)), (0, ((s / 8 : Nat) : Int))]) (w' := w) (n' := n) rfl ?_
  refine qG.gn (P := 8 = 0) (pc' := 34) (ls' := [(0, ((s : Nat) : Int)), (0, ((t : Nat) : Int)), (0, ((dd (s % 4) (t % 4) : Nat) : Int)), (0, ((dd (s / 4 % 2) (t / 4 % 2) : Nat) : Int)), (9, 0)]) (st' := [(0, qdiv ((t : Nat) : Int) 8), (0, ((s / 8 : Nat) : Int))]) (w' := w) (n' := n) rfl (by decide) ?_
  rw [show qdiv ((t : Nat) : Int) 8 = ((t / 8 : Nat) : Int) from qdiv_n (m := 8) (by omega)]
  refine qG.blk 1 (pc' := 35) (ls' := [(0, ((s : Nat) : Int)), (0, ((t : Nat) : Int)), (0, ((dd (s % 4) (t % 4) : Nat) : Int)), (0, ((dd (s / 4 % 2) (t / 4 % 2) : Nat) : Int)), (9, 0)]) (st' := [(0, wrp (((s / 8 : Nat) : Int) - ((t / 8 : Nat) : Int)))]) (w' := w) (n' := n) rfl ?_
  rw [show wrp (((s / 8 : Nat) : Int) - ((t / 8 : Nat) : Int)) = ((s / 8 : Nat) : Int) - ((t / 8 : Nat) : Int) from wrp_id (by omega) (by omega)]
  refine qG.mth rfl rfl rfl (pc' := 38) (ls' := [(0, ((s : Nat) : Int)), (0, ((t : Nat) : Int)), (0, ((dd (s % 4) (t % 4) : Nat) : Int)), (0, ((dd (s / 4 % 2) (t / 4 % 2) : Nat) : Int)), (9, 0)]) (st' := [(0, (if 0 ≤ ((s / 8 : Nat) : Int) - ((t / 8 : Nat) : Int) then ((s / 8 : Nat) : Int) - ((t / 8 : Nat) : Int) else wrp (0 - (((s / 8 : Nat) : Int) - ((t / 8 : Nat) : Int)))))]) (w' := w) (n' := n) rfl ?_
  rw [show (if 0 ≤ ((s / 8 : Nat) : Int) - ((t / 8 : Nat) : Int) then ((s / 8 : Nat) : Int) - ((t / 8 : Nat) : Int) else wrp (0 - (((s / 8 : Nat) : Int) - ((t / 8 : Nat) : Int)))) = ((dd (s / 8) (t / 8) : Nat) : Int) from dd_abs (by omega) (by omega)]
  refine qG.blk 4 (pc' := 44) (ls' := [(0, ((s : Nat) : Int)), (0, ((t : Nat) : Int)), (0, ((dd (s % 4) (t % 4) : Nat) : Int)), (0, ((dd (s / 4 % 2) (t / 4 % 2) : Nat) : Int)), (0, ((dd (s / 8) (t / 8) : Nat) : Int))]) (st' := [(0, wrp (((dd (s % 4) (t % 4) : Nat) : Int) + ((dd (s / 8) (t / 8) : Nat) : Int)))]) (w' := w) (n' := n) rfl ?_
  rw [show wrp (((dd (s % 4) (t % 4) : Nat) : Int) + ((dd (s / 8) (t / 8) : Nat) : Int)) = ((dd (s % 4) (t % 4) + dd (s / 8) (t / 8) : Nat) : Int) from wrp_id (by omega) (by omega)]
  refine qG.blk 2 (pc' := 46) (ls' := [(0, ((s : Nat) : Int)), (0, ((t : Nat) : Int)), (0, ((dd (s % 4) (t % 4) : Nat) : Int)), (0, ((dd (s / 4 % 2) (t / 4 % 2) : Nat) : Int)), (0, ((dd (s / 8) (t / 8) : Nat) : Int))]) (st' := [(0, wrp (((dd (s % 4) (t % 4) + dd (s / 8) (t / 8) : Nat) : Int) + ((dd (s / 4 % 2) (t / 4 % 2) : Nat) : Int)))]) (w' := w) (n' := n) rfl ?_
  rw [show wrp (((dd (s % 4) (t % 4) + dd (s / 8) (t / 8) : Nat) : Int) + ((dd (s / 4 % 2) (t / 4 % 2) : Nat) : Int)) = ((dd (s % 4) (t % 4) + dd (s / 8) (t / 8) + dd (s / 4 % 2) (t / 4 % 2) : Nat) : Int) from wrp_id (by omega) (by omega)]
  refine qG.blk 1 (pc' := 47) (ls' := [(0, ((s : Nat) : Int)), (0, ((t : Nat) : Int)), (0, ((dd (s % 4) (t % 4) : Nat) : Int)), (0, ((dd (s / 4 % 2) (t / 4 % 2) : Nat) : Int)), (0, ((dd (s / 8) (t / 8) : Nat) : Int))]) (st' := [(0, 1), (0, ((dd (s % 4) (t % 4) + dd (s / 8) (t / 8) + dd (s / 4 % 2) (t / 4 % 2) : Nat) : Int))]) (w' := w) (n' := n) rfl ?_
  refine qG.br (P := ((dd (s % 4) (t % 4) + dd (s / 8) (t / 8) + dd (s / 4 % 2) (t / 4 % 2) : Nat) : Int) = 1) (pc1 := 50) (pc2 := 54) (st1 := []) rfl (fun h1 => ?_) (fun h1 => ?_)
  · skip
    refine qG.blk 2 (pc' := 55) (ls' := [(0, ((s : Nat) : Int)), (0, ((t : Nat) : Int)), (0, ((dd (s % 4) (t % 4) : Nat) : Int)), (0, ((dd (s / 4 % 2) (t / 4 % 2) : Nat) : Int)), (0, ((dd (s / 8) (t / 8) : Nat) : Int))]) (st' := [(0, 1)]) (w' := w) (n' := n) rfl ?_
    refine qG.ret rfl (by first | rfl | exact decide_eq_true (by omega)) ?_
    subst hQ9
    have hb : nbB s t = true ↔ dd (s % 4) (t % 4) + dd (s / 4 % 2) (t / 4 % 2) + dd (s / 8) (t / 8) = 1 := Nat.beq_eq ▸ Iff.rfl
    exact ⟨by first | (rw [if_pos (hb.mpr (by omega))]; done) | rw [if_neg (fun z => by have := hb.mp z; omega)], rfl, rfl⟩
  · skip
    refine qG.blk 1 (pc' := 55) (ls' := [(0, ((s : Nat) : Int)), (0, ((t : Nat) : Int)), (0, ((dd (s % 4) (t % 4) : Nat) : Int)), (0, ((dd (s / 4 % 2) (t / 4 % 2) : Nat) : Int)), (0, ((dd (s / 8) (t / 8) : Nat) : Int))]) (st' := [(0, 0)]) (w' := w) (n' := n) rfl ?_
    refine qG.ret rfl (by first | rfl | exact decide_eq_true (by omega)) ?_
    subst hQ9
    have hb : nbB s t = true ↔ dd (s % 4) (t % 4) + dd (s / 4 % 2) (t / 4 % 2) + dd (s / 8) (t / 8) = 1 := Nat.beq_eq ▸ Iff.rfl
    exact ⟨by first | (rw [if_pos (hb.mpr (by omega))]; done) | rw [if_neg (fun z => by have := hb.mp z; omega)], rfl, rfl⟩
