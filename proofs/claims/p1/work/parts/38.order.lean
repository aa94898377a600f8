/-! order of both sides on the fresh pair -/
theorem K_isInM {d : Nat} (hd : 0 ≤ d) (v a b : Int) (w : qW) : qG none d 206 0 [(0, v), (0, a), (0, b)] [] w 142 (fun (r : qV) (w1 : qW) (n1 : Nat) => r = (0, (if a ≤ v ∧ v ≤ b then 1 else 0)) ∧ w1 = w ∧ n1 = 142) := by
  generalize hQ9 : (fun (r : qV) (w1 : qW) (n1 : Nat) => r = (0, (if a ≤ v ∧ v ≤ b then 1 else 0)) ∧ w1 = w ∧ n1 = 142) = Q9
  refine qG.blk 2 (pc' := 2) (ls' := [(0, v), (0, a), (0, b)]) (st' := [(0, a), (0, v)]) (w' := w) (n' := 142) rfl ?_
  refine qG.br (P := v < a) (pc1 := 14) (pc2 := 5) (st1 := []) rfl (fun h1 => ?_) (fun h1 => ?_)
  · skip
    refine qG.blk 1 (pc' := 15) (ls' := [(0, v), (0, a), (0, b)]) (st' := [(0, 0)]) (w' := w) (n' := 142) rfl ?_
    refine qG.ret rfl (by first | rfl | exact decide_eq_true (by omega)) ?_
    subst hQ9
    exact ⟨by first | rw [if_pos (by omega)] | rw [if_neg (by omega)], rfl, rfl⟩
  · skip
    refine qG.blk 2 (pc' := 7) (ls' := [(0, v), (0, a), (0, b)]) (st' := [(0, b), (0, v)]) (w' := w) (n' := 142) rfl ?_
    refine qG.br (P := b < v) (pc1 := 14) (pc2 := 10) (st1 := []) rfl (fun h2 => ?_) (fun h2 => ?_)
    · skip
      refine qG.blk 1 (pc' := 15) (ls' := [(0, v), (0, a), (0, b)]) (st' := [(0, 0)]) (w' := w) (n' := 142) rfl ?_
      refine qG.ret rfl (by first | rfl | exact decide_eq_true (by omega)) ?_
      subst hQ9
      exact ⟨by first | rw [if_pos (by omega)] | rw [if_neg (by omega)], rfl, rfl⟩
    · skip
      refine qG.blk 2 (pc' := 15) (ls' := [(0, v), (0, a), (0, b)]) (st' := [(0, 1)]) (w' := w) (n' := 142) rfl ?_
      refine qG.ret rfl (by first | rfl | exact decide_eq_true (by omega)) ?_
      subst hQ9
      exact ⟨by first | rw [if_pos (by omega)] | rw [if_neg (by omega)], rfl, rfl⟩
theorem K_chM {d : Nat} (hd : 1 ≤ d) (c : Int) (w : qW) : qG none d 207 0 [(0, c)] [] w 142 (fun (r : qV) (w1 : qW) (n1 : Nat) => r = (0, (if 0 ≤ c ∧ c ≤ 2 then 1 else 0)) ∧ w1 = w ∧ n1 = 142) := by
  generalize hQ9 : (fun (r : qV) (w1 : qW) (n1 : Nat) => r = (0, (if 0 ≤ c ∧ c ≤ 2 then 1 else 0)) ∧ w1 = w ∧ n1 = 142) = Q9
  obtain ⟨d, rfl⟩ : ∃ d9, d = d9 + 1 := ⟨d - 1, by omega⟩
  refine qG.blk 3 (pc' := 3) (ls' := [(0, c)]) (st' := [(0, 2), (0, 0), (0, c)]) (w' := w) (n' := 142) rfl ?_
  refine qG.call (t := 206) (na := 3) (sk := 0) (md := 0) (ls1 := [(0, c), (0, 0), (0, 2)]) (r1 := []) rfl rfl rfl rfl rfl (K_isInM (by omega) c 0 2 w) ?_
  rintro _ w6 _ ⟨rfl, hw6, rfl⟩
  rw [hw6]
  show qG none (d + 1) 207 6 [(0, c)] [(0, (if 0 ≤ c ∧ c ≤ 2 then 1 else 0))] w 142 Q9
  refine qG.ret rfl (by by_cases z : 0 ≤ c ∧ c ≤ 2 <;> simp only [z, if_true, if_false] <;> rfl) ?_
  subst hQ9
  exact ⟨rfl, rfl, rfl⟩
theorem K_szM {d : Nat} (hd : 1 ≤ d) (c : Int) (w : qW) : qG none d 210 0 [(0, c)] [] w 142 (fun (r : qV) (w1 : qW) (n1 : Nat) => r = (0, (if 1 ≤ c ∧ c ≤ 4 then 1 else 0)) ∧ w1 = w ∧ n1 = 142) := by
  generalize hQ9 : (fun (r : qV) (w1 : qW) (n1 : Nat) => r = (0, (if 1 ≤ c ∧ c ≤ 4 then 1 else 0)) ∧ w1 = w ∧ n1 = 142) = Q9
  obtain ⟨d, rfl⟩ : ∃ d9, d = d9 + 1 := ⟨d - 1, by omega⟩
  refine qG.blk 3 (pc' := 3) (ls' := [(0, c)]) (st' := [(0, 4), (0, 1), (0, c)]) (w' := w) (n' := 142) rfl ?_
  refine qG.call (t := 206) (na := 3) (sk := 0) (md := 0) (ls1 := [(0, c), (0, 1), (0, 4)]) (r1 := []) rfl rfl rfl rfl rfl (K_isInM (by omega) c 1 4 w) ?_
  rintro _ w6 _ ⟨rfl, hw6, rfl⟩
  rw [hw6]
  show qG none (d + 1) 210 6 [(0, c)] [(0, (if 1 ≤ c ∧ c ≤ 4 then 1 else 0))] w 142 Q9
  refine qG.ret rfl (by by_cases z : 1 ≤ c ∧ c ≤ 4 <;> simp only [z, if_true, if_false] <;> rfl) ?_
  subst hQ9
  exact ⟨rfl, rfl, rfl⟩
theorem K_chX {d : Nat} (hd : 0 ≤ d) (c : Int) (w : qW) : qG none d 198 0 [(0, c)] [] w 142 (fun (r : qV) (w1 : qW) (n1 : Nat) => r = (0, (if 0 ≤ c ∧ c ≤ 2 then 1 else 0)) ∧ w1 = w ∧ n1 = 142) := by
  generalize hQ9 : (fun (r : qV) (w1 : qW) (n1 : Nat) => r = (0, (if 0 ≤ c ∧ c ≤ 2 then 1 else 0)) ∧ w1 = w ∧ n1 = 142) = Q9
  refine qG.blk 1 (pc' := 1) (ls' := [(0, c)]) (st' := [(0, c)]) (w' := w) (n' := 142) rfl ?_
  refine qG.br (P := c < 0) (pc1 := 13) (pc2 := 4) (st1 := []) rfl (fun h1 => ?_) (fun h1 => ?_)
  · skip
    refine qG.blk 1 (pc' := 14) (ls' := [(0, c)]) (st' := [(0, 0)]) (w' := w) (n' := 142) rfl ?_
    refine qG.ret rfl (by first | rfl | exact decide_eq_true (by omega)) ?_
    subst hQ9
    exact ⟨by first | rw [if_pos (by omega)] | rw [if_neg (by omega)], rfl, rfl⟩
  · skip
    refine qG.blk 2 (pc' := 6) (ls' := [(0, c)]) (st' := [(0, 3), (0, c)]) (w' := w) (n' := 142) rfl ?_
    refine qG.br (P := c < 3) (pc1 := 9) (pc2 := 13) (st1 := []) rfl (fun h2 => ?_) (fun h2 => ?_)
    · skip
      refine qG.blk 2 (pc' := 14) (ls' := [(0, c)]) (st' := [(0, 1)]) (w' := w) (n' := 142) rfl ?_
      refine qG.ret rfl (by first | rfl | exact decide_eq_true (by omega)) ?_
      subst hQ9
      exact ⟨by first | rw [if_pos (by omega)] | rw [if_neg (by omega)], rfl, rfl⟩
    · skip
      refine qG.blk 1 (pc' := 14) (ls' := [(0, c)]) (st' := [(0, 0)]) (w' := w) (n' := 142) rfl ?_
      refine qG.ret rfl (by first | rfl | exact decide_eq_true (by omega)) ?_
      subst hQ9
      exact ⟨by first | rw [if_pos (by omega)] | rw [if_neg (by omega)], rfl, rfl⟩
theorem K_dsX {d : Nat} (hd : 0 ≤ d) (c : Int) (w : qW) : qG none d 201 0 [(0, c)] [] w 142 (fun (r : qV) (w1 : qW) (n1 : Nat) => r = (0, (if 0 ≤ c ∧ c ≤ 1023 then 1 else 0)) ∧ w1 = w ∧ n1 = 142) := by
  generalize hQ9 : (fun (r : qV) (w1 : qW) (n1 : Nat) => r = (0, (if 0 ≤ c ∧ c ≤ 1023 then 1 else 0)) ∧ w1 = w ∧ n1 = 142) = Q9
  obtain ⟨N6, hN6⟩ : ∃ N : Int, N = 1023 := ⟨_, rfl⟩
  refine qG.blk 1 (pc' := 1) (ls' := [(0, c)]) (st' := [(0, c)]) (w' := w) (n' := 142) rfl ?_
  refine qG.br (P := c < 0) (pc1 := 15) (pc2 := 4) (st1 := []) rfl (fun h1 => ?_) (fun h1 => ?_)
  · skip
    refine qG.blk 1 (pc' := 16) (ls' := [(0, c)]) (st' := [(0, 0)]) (w' := w) (n' := 142) rfl ?_
    refine qG.ret rfl (by first | rfl | exact decide_eq_true (by omega)) ?_
    subst hQ9
    exact ⟨by first | rw [if_pos (by omega)] | rw [if_neg (by omega)], rfl, rfl⟩
  · skip
    refine qG.blk 2 (pc' := 8) (ls' := [(0, c)]) (st' := [(0, 1023), (0, c)]) (w' := w) (n' := 142) rfl ?_
    rw [show (1023 : Int) = N6 from hN6.symm]
    refine qG.br (P := N6 < c) (pc1 := 15) (pc2 := 11) (st1 := []) rfl (fun h2 => ?_) (fun h2 => ?_)
    · skip
      refine qG.blk 1 (pc' := 16) (ls' := [(0, c)]) (st' := [(0, 0)]) (w' := w) (n' := 142) rfl ?_
      refine qG.ret rfl (by first | rfl | exact decide_eq_true (by omega)) ?_
      subst hQ9
      exact ⟨by first | rw [if_pos (by omega)] | rw [if_neg (by omega)], rfl, rfl⟩
    · skip
      refine qG.blk 2 (pc' := 16) (ls' := [(0, c)]) (st' := [(0, 1)]) (w' := w) (n' := 142) rfl ?_
      refine qG.ret rfl (by first | rfl | exact decide_eq_true (by omega)) ?_
      subst hQ9
      exact ⟨by first | rw [if_pos (by omega)] | rw [if_neg (by omega)], rfl, rfl⟩
theorem K_szX {d : Nat} (hd : 0 ≤ d) (c : Int) (w : qW) : qG none d 200 0 [(0, c)] [] w 142 (fun (r : qV) (w1 : qW) (n1 : Nat) => r = (0, (if 1 ≤ c ∧ c ≤ 4 then 1 else 0)) ∧ w1 = w ∧ n1 = 142) := by
  generalize hQ9 : (fun (r : qV) (w1 : qW) (n1 : Nat) => r = (0, (if 1 ≤ c ∧ c ≤ 4 then 1 else 0)) ∧ w1 = w ∧ n1 = 142) = Q9
  refine qG.blk 2 (pc' := 2) (ls' := [(0, c)]) (st' := [(0, 1), (0, c)]) (w' := w) (n' := 142) rfl ?_
  refine qG.br (P := c < 1) (pc1 := 14) (pc2 := 5) (st1 := []) rfl (fun h1 => ?_) (fun h1 => ?_)
  · skip
    refine qG.blk 1 (pc' := 15) (ls' := [(0, c)]) (st' := [(0, 0)]) (w' := w) (n' := 142) rfl ?_
    refine qG.ret rfl (by first | rfl | exact decide_eq_true (by omega)) ?_
    subst hQ9
    exact ⟨by first | rw [if_pos (by omega)] | rw [if_neg (by omega)], rfl, rfl⟩
  · skip
    refine qG.blk 2 (pc' := 7) (ls' := [(0, c)]) (st' := [(0, 4), (0, c)]) (w' := w) (n' := 142) rfl ?_
    refine qG.br (P := 4 < c) (pc1 := 14) (pc2 := 10) (st1 := []) rfl (fun h2 => ?_) (fun h2 => ?_)
    · skip
      refine qG.blk 1 (pc' := 15) (ls' := [(0, c)]) (st' := [(0, 0)]) (w' := w) (n' := 142) rfl ?_
      refine qG.ret rfl (by first | rfl | exact decide_eq_true (by omega)) ?_
      subst hQ9
      exact ⟨by first | rw [if_pos (by omega)] | rw [if_neg (by omega)], rfl, rfl⟩
    · skip
      refine qG.blk 2 (pc' := 15) (ls' := [(0, c)]) (st' := [(0, 1)]) (w' := w) (n' := 142) rfl ?_
      refine qG.ret rfl (by first | rfl | exact decide_eq_true (by omega)) ?_
      subst hQ9
      exact ⟨by first | rw [if_pos (by omega)] | rw [if_neg (by omega)], rfl, rfl⟩
def ordV (c D W k v : Int) : Int := if (0 ≤ c ∧ c ≤ 2) ∧ (0 ≤ D ∧ D ≤ 1023) ∧ bitsF D 16 ≤ 4 ∧ (1 ≤ W ∧ W ≤ 5) ∧ (1 ≤ k ∧ k ≤ 4) ∧ (v = 0 ∨ v = 1) then 0 else -1
theorem ordV_n {c D W k v : Int} (h : ¬ ((0 ≤ c ∧ c ≤ 2) ∧ (0 ≤ D ∧ D ≤ 1023) ∧ bitsF D 16 ≤ 4 ∧ (1 ≤ W ∧ W ≤ 5) ∧ (1 ≤ k ∧ k ≤ 4) ∧ (v = 0 ∨ v = 1))) : ordV c D W k v = -1 := if_neg h
theorem ordV_y {c D W k v : Int} (h : (0 ≤ c ∧ c ≤ 2) ∧ (0 ≤ D ∧ D ≤ 1023) ∧ bitsF D 16 ≤ 4 ∧ (1 ≤ W ∧ W ≤ 5) ∧ (1 ≤ k ∧ k ≤ 4) ∧ (v = 0 ∨ v = 1)) : ordV c D W k v = 0 := if_pos h
theorem pc_10 (n : Nat) : pc n 10 ≤ pc n 16 := by
  have s : ∀ m, pc n m ≤ pc n (m + 1) := fun m => Nat.le_add_right _ _
  exact Nat.le_trans (s 10) (Nat.le_trans (s 11) (Nat.le_trans (s 12) (Nat.le_trans (s 13) (Nat.le_trans (s 14) (s 15)))))
theorem TR_0 {w0 w : qW} (hF : zF w0) {d : Nat} (hd : 20 ≤ d) {c D W k : Int} (hc : 0 ≤ c ∧ c ≤ 2) (hD : 0 ≤ D ∧ D ≤ 1023) (hW : 1 ≤ W ∧ W ≤ 5) (hk : 1 ≤ k ∧ k ≤ 4) (hb : bitsF D 16 ≤ 4) (hI : yInv zgf zga zra zSp w) (hw : ∀ p, ymem p trN = true → ∀ j, w p j = w0 p j) (h50 : w 95 50 = -1) (h9 : w 95 9 = -1) : qG none d 262 0 [(2, 95), (0, c), (0, D), (0, W), (0, k), (0, 0), (0, 0), (9, 0), (9, 0), (9, 0)] [] w 142 (fun (r : qV) (w1 : qW) (n1 : Nat) => r = (9, 0) ∧ n1 = 142 ∧ yInv zgf zga zra zSp w1 ∧ w1 95 50 = 0 ∧ w1 95 51 = 0 ∧ (∀ p j, ymd p j trM2 = false → w1 p j = w p j)) := by
  obtain ⟨n, rfl⟩ : ∃ n : Nat, D = n := ⟨D.toNat, by omega⟩
  have hn : n < 1024 := by omega
  have hp : pc (trX n 0) 10 ≤ 4 := by
    rw [bitsF_pc (by omega) 16 (Nat.le_refl 16)] at hb
    have e : trX n 0 = n := by
      show n &&& 1023 = n
      rw [show n &&& 1023 = n % 1024 from Nat.and_two_pow_sub_one_eq_mod n 10, Nat.mod_eq_of_lt hn]
    rw [e]
    have := pc_10 n
    omega
  have hk4 : k = 1 ∨ k = 2 ∨ k = 3 ∨ k = 4 := by omega
  rcases hk4 with rfl | rfl | rfl | rfl
  · exact TR_0_1 hF hd hc hn hW hp hI hw h50 h9
  · exact TR_0_2 hF hd hc hn hW hp hI hw h50 h9
  · exact TR_0_3 hF hd hc hn hW hp hI hw h50 h9
  · exact TR_0_4 hF hd hc hn hW hp hI hw h50 h9
theorem qf50 {w : qW} {x : Int} {p j : Nat} (hp : ymd p j trM2 = false) : qup w 95 50 x p j = w p j := by
  by_cases h : p = 95
  · subst h
    rw [qup_j (fun z => (by subst z; cases hp))]
  · rw [qup_ne h]
theorem K_order_m {d : Nat} (hd : 22 ≤ d) {w0 : qW} (hF : zF w0) (c D W k v : Int) (w : qW) (hI : yInv zgf zga zra zSp w) (hn : ∀ p, ymem p trN = true → ∀ j, w p j = w0 p j) (h9 : w 95 9 = -1) : qG none d 263 0 [(2, 95), (0, c), (0, D), (0, W), (0, k), (0, v)] [] w 142 (fun (r : qV) (w1 : qW) (n1 : Nat) => r = (0, ordV c D W k v) ∧ n1 = 142 ∧ yInv zgf zga zra zSp w1 ∧ (∀ p j, ymd p j trM2 = false → w1 p j = w p j)) := by
  generalize hQ9 : (fun (r : qV) (w1 : qW) (n1 : Nat) => r = (0, ordV c D W k v) ∧ n1 = 142 ∧ yInv zgf zga zra zSp w1 ∧ (∀ p j, ymd p j trM2 = false → w1 p j = w p j)) = Q9
  obtain ⟨d, rfl⟩ : ∃ d9, d = d9 + 1 := ⟨d - 1, by omega⟩
  refine qG.blk 1 (pc' := 1) (ls' := [(2, 95), (0, c), (0, D), (0, W), (0, k), (0, v)]) (st' := [(0, c)]) (w' := w) (n' := 142) rfl ?_
  refine qG.call (t := 207) (na := 1) (sk := 0) (md := 0) (ls1 := [(0, c)]) (r1 := []) rfl rfl rfl rfl rfl (K_chM (by omega) c w) ?_
  rintro _ w6 _ ⟨rfl, hw6, rfl⟩
  rw [hw6]
  show qG none (d + 1) 263 4 [(2, 95), (0, c), (0, D), (0, W), (0, k), (0, v)] [(0, (if 0 ≤ c ∧ c ≤ 2 then 1 else 0))] w 142 Q9
  refine qG.br (P := (if 0 ≤ c ∧ c ≤ 2 then 1 else 0) = 0) (pc1 := 53) (pc2 := 7) (st1 := []) rfl (fun hg1 => ?_) (fun hg1 => ?_)
  · skip
    have hg1 := ite01.mp hg1
    refine qG.blk 1 (pc' := 54) (ls' := [(2, 95), (0, c), (0, D), (0, W), (0, k), (0, v)]) (st' := [(0, (-1))]) (w' := w) (n' := 142) rfl ?_
    refine qG.ret rfl rfl ?_
    subst hQ9
    first | exact ⟨by rw [ordV_n (by omega)], rfl, hI, fun _ _ _ => rfl⟩ | exact ⟨by rw [ordV_y (by omega)], rfl, hI7, fun p j hp => (hf7 p j hp).trans (qf50 hp)⟩ | exact ⟨by rw [ordV_n (by omega)], rfl, hI7, fun p j hp => (hf7 p j hp).trans (qf50 hp)⟩
  · skip
    have hg1 := Decidable.of_not_not (fun z => hg1 (ite01.mpr z))
    refine qG.blk 3 (pc' := 12) (ls' := [(2, 95), (0, c), (0, D), (0, W), (0, k), (0, v)]) (st' := [(0, 1023), (0, 0), (0, D)]) (w' := w) (n' := 142) rfl ?_
    refine qG.call (t := 206) (na := 3) (sk := 0) (md := 0) (ls1 := [(0, D), (0, 0), (0, 1023)]) (r1 := []) rfl rfl rfl rfl rfl (K_isInM (by omega) D 0 1023 w) ?_
    rintro _ w6 _ ⟨rfl, hw6, rfl⟩
    rw [hw6]
    show qG none (d + 1) 263 15 [(2, 95), (0, c), (0, D), (0, W), (0, k), (0, v)] [(0, (if 0 ≤ D ∧ D ≤ 1023 then 1 else 0))] w 142 Q9
    refine qG.br (P := (if 0 ≤ D ∧ D ≤ 1023 then 1 else 0) = 0) (pc1 := 53) (pc2 := 18) (st1 := []) rfl (fun hg2 => ?_) (fun hg2 => ?_)
    · skip
      have hg2 := ite01.mp hg2
      refine qG.blk 1 (pc' := 54) (ls' := [(2, 95), (0, c), (0, D), (0, W), (0, k), (0, v)]) (st' := [(0, (-1))]) (w' := w) (n' := 142) rfl ?_
      refine qG.ret rfl rfl ?_
      subst hQ9
      first | exact ⟨by rw [ordV_n (by omega)], rfl, hI, fun _ _ _ => rfl⟩ | exact ⟨by rw [ordV_y (by omega)], rfl, hI7, fun p j hp => (hf7 p j hp).trans (qf50 hp)⟩ | exact ⟨by rw [ordV_n (by omega)], rfl, hI7, fun p j hp => (hf7 p j hp).trans (qf50 hp)⟩
    · skip
      have hg2 := Decidable.of_not_not (fun z => hg2 (ite01.mpr z))
      refine qG.blk 1 (pc' := 19) (ls' := [(2, 95), (0, c), (0, D), (0, W), (0, k), (0, v)]) (st' := [(0, D)]) (w' := w) (n' := 142) rfl ?_
      refine qG.call (t := 211) (na := 1) (sk := 0) (md := 0) (ls1 := [(0, D), (9, 0), (9, 0)]) (r1 := []) rfl rfl rfl rfl rfl (K_bits (by omega) D w) ?_
      rintro _ w6 _ ⟨rfl, hw6, rfl⟩
      rw [hw6]
      show qG none (d + 1) 263 22 [(2, 95), (0, c), (0, D), (0, W), (0, k), (0, v)] [(0, bitsF D 16)] w 142 Q9
      refine qG.blk 1 (pc' := 23) (ls' := [(2, 95), (0, c), (0, D), (0, W), (0, k), (0, v)]) (st' := [(0, 4), (0, bitsF D 16)]) (w' := w) (n' := 142) rfl ?_
      refine qG.br (P := 4 < bitsF D 16) (pc1 := 53) (pc2 := 26) (st1 := []) rfl (fun hg3 => ?_) (fun hg3 => ?_)
      · skip
        refine qG.blk 1 (pc' := 54) (ls' := [(2, 95), (0, c), (0, D), (0, W), (0, k), (0, v)]) (st' := [(0, (-1))]) (w' := w) (n' := 142) rfl ?_
        refine qG.ret rfl rfl ?_
        subst hQ9
        first | exact ⟨by rw [ordV_n (by omega)], rfl, hI, fun _ _ _ => rfl⟩ | exact ⟨by rw [ordV_y (by omega)], rfl, hI7, fun p j hp => (hf7 p j hp).trans (qf50 hp)⟩ | exact ⟨by rw [ordV_n (by omega)], rfl, hI7, fun p j hp => (hf7 p j hp).trans (qf50 hp)⟩
      · skip
        refine qG.blk 3 (pc' := 29) (ls' := [(2, 95), (0, c), (0, D), (0, W), (0, k), (0, v)]) (st' := [(0, 5), (0, 1), (0, W)]) (w' := w) (n' := 142) rfl ?_
        refine qG.call (t := 206) (na := 3) (sk := 0) (md := 0) (ls1 := [(0, W), (0, 1), (0, 5)]) (r1 := []) rfl rfl rfl rfl rfl (K_isInM (by omega) W 1 5 w) ?_
        rintro _ w6 _ ⟨rfl, hw6, rfl⟩
        rw [hw6]
        show qG none (d + 1) 263 32 [(2, 95), (0, c), (0, D), (0, W), (0, k), (0, v)] [(0, (if 1 ≤ W ∧ W ≤ 5 then 1 else 0))] w 142 Q9
        refine qG.br (P := (if 1 ≤ W ∧ W ≤ 5 then 1 else 0) = 0) (pc1 := 53) (pc2 := 35) (st1 := []) rfl (fun hg4 => ?_) (fun hg4 => ?_)
        · skip
          have hg4 := ite01.mp hg4
          refine qG.blk 1 (pc' := 54) (ls' := [(2, 95), (0, c), (0, D), (0, W), (0, k), (0, v)]) (st' := [(0, (-1))]) (w' := w) (n' := 142) rfl ?_
          refine qG.ret rfl rfl ?_
          subst hQ9
          first | exact ⟨by rw [ordV_n (by omega)], rfl, hI, fun _ _ _ => rfl⟩ | exact ⟨by rw [ordV_y (by omega)], rfl, hI7, fun p j hp => (hf7 p j hp).trans (qf50 hp)⟩ | exact ⟨by rw [ordV_n (by omega)], rfl, hI7, fun p j hp => (hf7 p j hp).trans (qf50 hp)⟩
        · skip
          have hg4 := Decidable.of_not_not (fun z => hg4 (ite01.mpr z))
          refine qG.blk 1 (pc' := 37) (ls' := [(2, 95), (0, c), (0, D), (0, W), (0, k), (0, v)]) (st' := [(0, k)]) (w' := w) (n' := 142) rfl ?_
          refine qG.call (t := 210) (na := 1) (sk := 0) (md := 0) (ls1 := [(0, k)]) (r1 := []) rfl rfl rfl rfl rfl (K_szM (by omega) k w) ?_
          rintro _ w6 _ ⟨rfl, hw6, rfl⟩
          rw [hw6]
          show qG none (d + 1) 263 40 [(2, 95), (0, c), (0, D), (0, W), (0, k), (0, v)] [(0, (if 1 ≤ k ∧ k ≤ 4 then 1 else 0))] w 142 Q9
          refine qG.br (P := (if 1 ≤ k ∧ k ≤ 4 then 1 else 0) = 0) (pc1 := 53) (pc2 := 43) (st1 := []) rfl (fun hg5 => ?_) (fun hg5 => ?_)
          · skip
            have hg5 := ite01.mp hg5
            refine qG.blk 1 (pc' := 54) (ls' := [(2, 95), (0, c), (0, D), (0, W), (0, k), (0, v)]) (st' := [(0, (-1))]) (w' := w) (n' := 142) rfl ?_
            refine qG.ret rfl rfl ?_
            subst hQ9
            first | exact ⟨by rw [ordV_n (by omega)], rfl, hI, fun _ _ _ => rfl⟩ | exact ⟨by rw [ordV_y (by omega)], rfl, hI7, fun p j hp => (hf7 p j hp).trans (qf50 hp)⟩ | exact ⟨by rw [ordV_n (by omega)], rfl, hI7, fun p j hp => (hf7 p j hp).trans (qf50 hp)⟩
          · skip
            have hg5 := Decidable.of_not_not (fun z => hg5 (ite01.mpr z))
            refine qG.blk 3 (pc' := 47) (ls' := [(2, 95), (0, c), (0, D), (0, W), (0, k), (0, v)]) (st' := [(0, 5), (0, 0), (0, v)]) (w' := w) (n' := 142) rfl ?_
            refine qG.call (t := 206) (na := 3) (sk := 0) (md := 0) (ls1 := [(0, v), (0, 0), (0, 5)]) (r1 := []) rfl rfl rfl rfl rfl (K_isInM (by omega) v 0 5 w) ?_
            rintro _ w6 _ ⟨rfl, hw6, rfl⟩
            rw [hw6]
            show qG none (d + 1) 263 50 [(2, 95), (0, c), (0, D), (0, W), (0, k), (0, v)] [(0, (if 0 ≤ v ∧ v ≤ 5 then 1 else 0))] w 142 Q9
            refine qG.br (P := (if 0 ≤ v ∧ v ≤ 5 then 1 else 0) = 0) (pc1 := 53) (pc2 := 55) (st1 := []) rfl (fun hg6 => ?_) (fun hg6 => ?_)
            · skip
              have hg6 := ite01.mp hg6
              refine qG.blk 1 (pc' := 54) (ls' := [(2, 95), (0, c), (0, D), (0, W), (0, k), (0, v)]) (st' := [(0, (-1))]) (w' := w) (n' := 142) rfl ?_
              refine qG.ret rfl rfl ?_
              subst hQ9
              first | exact ⟨by rw [ordV_n (by omega)], rfl, hI, fun _ _ _ => rfl⟩ | exact ⟨by rw [ordV_y (by omega)], rfl, hI7, fun p j hp => (hf7 p j hp).trans (qf50 hp)⟩ | exact ⟨by rw [ordV_n (by omega)], rfl, hI7, fun p j hp => (hf7 p j hp).trans (qf50 hp)⟩
            · skip
              have hg6 := Decidable.of_not_not (fun z => hg6 (ite01.mpr z))
              refine qG.blk 10 (pc' := 68) (ls' := [(2, 95), (0, c), (0, D), (0, W), (0, k), (0, v)]) (st' := [(0, 0), (0, 0), (0, k), (0, W), (0, D), (0, c), (2, 95)]) (w' := (qup w 95 50 (-1))) (n' := 142) rfl ?_
              refine qG.call (t := 262) (na := 7) (sk := 1) (md := 1) (ls1 := [(2, 95), (0, c), (0, D), (0, W), (0, k), (0, 0), (0, 0), (9, 0), (9, 0), (9, 0)]) (r1 := []) rfl rfl rfl rfl rfl (TR_0 hF (by omega) hg1 hg2 hg4 hg5 (by omega) (zup_f hI (b := (-1, 4)) rfl rfl rfl ⟨by decide, by decide⟩) (fun p hp j => by rw [qup_ne (fun z => (by subst z; cases hp))]; exact hn p hp j) qup_k ((qup_j (show 9 ≠ 50 by decide)).trans h9)) ?_
              rintro _ w7 _ ⟨rfl, rfl, hI7, h50, h51, hf7⟩
              show qG none (d + 1) 263 71 [(2, 95), (0, c), (0, D), (0, W), (0, k), (0, v)] [] w7 142 Q9
              refine qG.blk 2 (pc' := 75) (ls' := [(2, 95), (0, c), (0, D), (0, W), (0, k), (0, v)]) (st' := [(0, w7 95 50)]) (w' := w7) (n' := 142) rfl ?_
              rw [show w7 95 50 = 0 from h50]
              refine qG.blk 1 (pc' := 76) (ls' := [(2, 95), (0, c), (0, D), (0, W), (0, k), (0, v)]) (st' := [(0, (-1)), (0, 0)]) (w' := w7) (n' := 142) rfl ?_
              refine qG.br (P := (0 : Int) = (-1)) (pc1 := 79) (pc2 := 81) (st1 := []) rfl (fun h1 => ?_) (fun h1 => ?_)
              · exact absurd h1 (by decide)
              · skip
                refine qG.blk 1 (pc' := 83) (ls' := [(2, 95), (0, c), (0, D), (0, W), (0, k), (0, v)]) (st' := [(0, v)]) (w' := w7) (n' := 142) rfl ?_
                refine qG.br (P := v = 0) (pc1 := 86) (pc2 := 93) (st1 := []) rfl (fun h2 => ?_) (fun h2 => ?_)
                · skip
                  refine qG.blk 2 (pc' := 90) (ls' := [(2, 95), (0, c), (0, D), (0, W), (0, k), (0, v)]) (st' := [(0, w7 95 51)]) (w' := w7) (n' := 142) rfl ?_
                  rw [show w7 95 51 = 0 from h51]
                  refine qG.blk 1 (pc' := 130) (ls' := [(2, 95), (0, c), (0, D), (0, W), (0, k), (0, v)]) (st' := [(0, 0)]) (w' := w7) (n' := 142) rfl ?_
                  refine qG.ret rfl rfl ?_
                  subst hQ9
                  first | exact ⟨by rw [ordV_n (by omega)], rfl, hI, fun _ _ _ => rfl⟩ | exact ⟨by rw [ordV_y (by omega)], rfl, hI7, fun p j hp => (hf7 p j hp).trans (qf50 hp)⟩ | exact ⟨by rw [ordV_n (by omega)], rfl, hI7, fun p j hp => (hf7 p j hp).trans (qf50 hp)⟩
                · skip
                  refine qG.blk 2 (pc' := 96) (ls' := [(2, 95), (0, c), (0, D), (0, W), (0, k), (0, v)]) (st' := [(0, 1), (0, v)]) (w' := w7) (n' := 142) rfl ?_
                  refine qG.br (P := v = 1) (pc1 := 99) (pc2 := 106) (st1 := []) rfl (fun h3 => ?_) (fun h3 => ?_)
                  · skip
                    refine qG.blk 2 (pc' := 103) (ls' := [(2, 95), (0, c), (0, D), (0, W), (0, k), (0, v)]) (st' := [(0, w7 95 50)]) (w' := w7) (n' := 142) rfl ?_
                    rw [show w7 95 50 = 0 from h50]
                    refine qG.blk 1 (pc' := 130) (ls' := [(2, 95), (0, c), (0, D), (0, W), (0, k), (0, v)]) (st' := [(0, 0)]) (w' := w7) (n' := 142) rfl ?_
                    refine qG.ret rfl rfl ?_
                    subst hQ9
                    first | exact ⟨by rw [ordV_n (by omega)], rfl, hI, fun _ _ _ => rfl⟩ | exact ⟨by rw [ordV_y (by omega)], rfl, hI7, fun p j hp => (hf7 p j hp).trans (qf50 hp)⟩ | exact ⟨by rw [ordV_n (by omega)], rfl, hI7, fun p j hp => (hf7 p j hp).trans (qf50 hp)⟩
                  · skip
                    refine qG.blk 3 (pc' := 110) (ls' := [(2, 95), (0, c), (0, D), (0, W), (0, k), (0, v)]) (st' := [(0, wrp (v - 2))]) (w' := w7) (n' := 142) rfl ?_
                    rw [show wrp (v - 2) = v - 2 from wrp_id (by omega) (by omega)]
                    refine qG.blk 2 (pc' := 114) (ls' := [(2, 95), (0, c), (0, D), (0, W), (0, k), (0, v)]) (st' := [(0, w7 95 50), (0, v - 2)]) (w' := w7) (n' := 142) rfl ?_
                    rw [show w7 95 50 = 0 from h50]
                    refine qG.br (P := v - 2 < 0) (pc1 := 117) (pc2 := 129) (st1 := []) rfl (fun h4 => ?_) (fun h4 => ?_)
                    · exfalso; omega
                    · skip
                      refine qG.blk 1 (pc' := 130) (ls' := [(2, 95), (0, c), (0, D), (0, W), (0, k), (0, v)]) (st' := [(0, (-1))]) (w' := w7) (n' := 142) rfl ?_
                      refine qG.ret rfl rfl ?_
                      subst hQ9
                      first | exact ⟨by rw [ordV_n (by omega)], rfl, hI, fun _ _ _ => rfl⟩ | exact ⟨by rw [ordV_y (by omega)], rfl, hI7, fun p j hp => (hf7 p j hp).trans (qf50 hp)⟩ | exact ⟨by rw [ordV_n (by omega)], rfl, hI7, fun p j hp => (hf7 p j hp).trans (qf50 hp)⟩
