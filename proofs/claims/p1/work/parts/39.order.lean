/-! the class's order on the fresh pair -/
def BCF (x : Int) : Int :=
  let y1 := wrp (x - qand (qush x 1) 1431655765)
  let y2 := wrp (qand y1 858993459 + qand (qush y1 2) 858993459)
  let y3 := qand (wrp (y2 + qush y2 4)) 252645135
  let y4 := wrp (y3 + qush y3 8)
  let y5 := wrp (y4 + qush y4 16)
  qand y5 63
theorem K_bcI {d : Nat} (hd : 0 ≤ d) (x : Int) (w : qW) : qG none d 302 0 [(0, x)] [] w 142 (fun (r : qV) (w1 : qW) (n1 : Nat) => r = (0, BCF x) ∧ w1 = w ∧ n1 = 142) := by
  refine qG.blk 8 (pc' := 10) (ls' := [(0, wrp (x - qand (qush x 1) 1431655765))]) (st' := []) (w' := w) (n' := 142) rfl ?_
  generalize h1 : wrp (x - qand (qush x 1) 1431655765) = y1
  refine qG.blk 10 (pc' := 24) (ls' := [(0, wrp (qand y1 858993459 + qand (qush y1 2) 858993459))]) (st' := []) (w' := w) (n' := 142) rfl ?_
  generalize h2 : wrp (qand y1 858993459 + qand (qush y1 2) 858993459) = y2
  refine qG.blk 8 (pc' := 34) (ls' := [(0, qand (wrp (y2 + qush y2 4)) 252645135)]) (st' := []) (w' := w) (n' := 142) rfl ?_
  generalize h3 : qand (wrp (y2 + qush y2 4)) 252645135 = y3
  refine qG.blk 6 (pc' := 41) (ls' := [(0, wrp (y3 + qush y3 8))]) (st' := []) (w' := w) (n' := 142) rfl ?_
  generalize h4 : wrp (y3 + qush y3 8) = y4
  refine qG.blk 6 (pc' := 48) (ls' := [(0, wrp (y4 + qush y4 16))]) (st' := []) (w' := w) (n' := 142) rfl ?_
  generalize h5 : wrp (y4 + qush y4 16) = y5
  refine qG.blk 3 (pc' := 52) (ls' := [(0, y5)]) (st' := [(0, qand y5 63)]) (w' := w) (n' := 142) rfl ?_
  refine qG.ret rfl rfl ⟨?_, rfl, rfl⟩
  subst h1 h2 h3 h4 h5
  rfl
theorem bc_tab : ∀ n : Nat, n < 1024 → BCF (n : Int) = ((pc n 16 : Nat) : Int) := by decide +kernel
theorem bc_eq {D : Int} (h1 : 0 ≤ D) (h2 : D ≤ 1023) : BCF D = bitsF D 16 := by
  obtain ⟨n, rfl⟩ : ∃ n : Nat, D = n := ⟨D.toNat, by omega⟩
  rw [bc_tab n (by omega), bitsF_pc (by omega) 16 (Nat.le_refl 16)]
theorem bc_0 : BCF 0 = 0 := by decide +kernel
theorem ordV_if {c D W k v : Int} (h : (0 ≤ c ∧ c ≤ 2) ∧ (0 ≤ D ∧ D ≤ 1023) ∧ bitsF D 16 ≤ 4 ∧ (1 ≤ W ∧ W ≤ 5) ∧ (1 ≤ k ∧ k ≤ 4)) : ordV c D W k v = (if v = 0 ∨ v = 1 then 0 else -1) := by
  by_cases z : v = 0 ∨ v = 1
  · rw [ordV_y ⟨h.1, h.2.1, h.2.2.1, h.2.2.2.1, h.2.2.2.2, z⟩, if_pos z]
  · rw [ordV_n (fun y => z y.2.2.2.2.2), if_neg z]
def trMX : List Nat := [25, 26, 27, 28, 29, 31, 32, 34, 35, 36, 37, 38, 39, 1024, 2024, 3024, 4024, 8023, 9023, 14023, 15023]
def trNX : List Nat := [24, 31, 64, 65, 66, 67, 68, 69, 70, 71, 72, 73, 74, 75, 76, 77, 78]
theorem K_rowFact {d : Nat} (hd : 1 ≤ d) (v : Int) (hv : v ≤ 2147483647) (w : qW) (hI : yInv zgf zga zra zSp w) (h13 : w 23 13 = 0) (h14 : w 23 14 = 0) : qG none d 43 0 [(2, 23), (0, v), (9, 0)] [] w 142 (fun (r : qV) (w1 : qW) (n1 : Nat) => r = (0, (if v = 0 ∨ v = 1 then 0 else -1)) ∧ w1 = w ∧ n1 = 142) := by
  generalize hQ9 : (fun (r : qV) (w1 : qW) (n1 : Nat) => r = (0, (if v = 0 ∨ v = 1 then 0 else -1)) ∧ w1 = w ∧ n1 = 142) = Q9
  obtain ⟨d, rfl⟩ : ∃ d9, d = d9 + 1 := ⟨d - 1, by omega⟩
  refine qG.blk 2 (pc' := 4) (ls' := [(2, 23), (0, v), (9, 0)]) (st' := [(0, w 23 13)]) (w' := w) (n' := 142) rfl ?_
  rw [show w 23 13 = 0 from h13]
  refine qG.blk 1 (pc' := 5) (ls' := [(2, 23), (0, v), (9, 0)]) (st' := [(0, (-1)), (0, 0)]) (w' := w) (n' := 142) rfl ?_
  refine qG.br (P := (0 : Int) = (-1)) (pc1 := 12) (pc2 := 8) (st1 := []) rfl (fun h1 => ?_) (fun h1 => ?_)
  · exact absurd h1 (by decide)
  · skip
    refine qG.blk 1 (pc' := 9) (ls' := [(2, 23), (0, v), (9, 0)]) (st' := [(0, v)]) (w' := w) (n' := 142) rfl ?_
    refine qG.br (P := v < 0) (pc1 := 12) (pc2 := 14) (st1 := []) rfl (fun h2 => ?_) (fun h2 => ?_)
    · skip
      refine qG.blk 1 (pc' := 13) (ls' := [(2, 23), (0, v), (9, 0)]) (st' := [(0, (-1))]) (w' := w) (n' := 142) rfl ?_
      refine qG.ret rfl rfl ?_
      subst hQ9
      exact ⟨by first | rw [if_pos (by omega)] | rw [if_neg (by omega)], rfl, rfl⟩
    · skip
      refine qG.blk 2 (pc' := 16) (ls' := [(2, 23), (0, v), (9, 0)]) (st' := [(0, 2), (0, v)]) (w' := w) (n' := 142) rfl ?_
      refine qG.br (P := v < 2) (pc1 := 19) (pc2 := 38) (st1 := []) rfl (fun h3 => ?_) (fun h3 => ?_)
      · skip
        refine qG.blk 1 (pc' := 20) (ls' := [(2, 23), (0, v), (9, 0)]) (st' := [(0, v)]) (w' := w) (n' := 142) rfl ?_
        refine qG.br (P := v = 0) (pc1 := 23) (pc2 := 33) (st1 := []) rfl (fun h4 => ?_) (fun h4 => ?_)
        · skip
          refine qG.blk 2 (pc' := 27) (ls' := [(2, 23), (0, v), (9, 0)]) (st' := [(0, w 23 14)]) (w' := w) (n' := 142) rfl ?_
          rw [show w 23 14 = 0 from h14]
          refine qG.call (t := 302) (na := 1) (sk := 0) (md := 0) (ls1 := [(0, 0)]) (r1 := []) rfl rfl rfl rfl rfl (K_bcI (by omega) 0 w) ?_
          rintro _ w6 _ ⟨rfl, hw6, rfl⟩
          rw [hw6, bc_0]
          show qG none (d + 1) 43 30 [(2, 23), (0, v), (9, 0)] [(0, 0)] w 142 Q9
          refine qG.blk 1 (pc' := 37) (ls' := [(2, 23), (0, v), (9, 0)]) (st' := [(0, 0)]) (w' := w) (n' := 142) rfl ?_
          refine qG.ret rfl rfl ?_
          subst hQ9
          exact ⟨by first | rw [if_pos (by omega)] | rw [if_neg (by omega)], rfl, rfl⟩
        · skip
          refine qG.blk 2 (pc' := 37) (ls' := [(2, 23), (0, v), (9, 0)]) (st' := [(0, w 23 13)]) (w' := w) (n' := 142) rfl ?_
          rw [show w 23 13 = 0 from h13]
          refine qG.ret rfl rfl ?_
          subst hQ9
          exact ⟨by first | rw [if_pos (by omega)] | rw [if_neg (by omega)], rfl, rfl⟩
      · skip
        refine qG.blk 3 (pc' := 41) (ls' := [(2, 23), (0, v), (9, 0)]) (st' := [(0, wrp (v - 2))]) (w' := w) (n' := 142) rfl ?_
        rw [show wrp (v - 2) = v - 2 from wrp_id (by omega) (by omega)]
        refine qG.blk 4 (pc' := 47) (ls' := [(2, 23), (0, v), (0, v - 2)]) (st' := [(0, w 23 13), (0, v - 2)]) (w' := w) (n' := 142) rfl ?_
        rw [show w 23 13 = 0 from h13]
        refine qG.br (P := v - 2 < 0) (pc1 := 50) (pc2 := 64) (st1 := []) rfl (fun h5 => ?_) (fun h5 => ?_)
        · exfalso; omega
        · skip
          refine qG.blk 1 (pc' := 65) (ls' := [(2, 23), (0, v), (0, v - 2)]) (st' := [(0, (-1))]) (w' := w) (n' := 142) rfl ?_
          refine qG.ret rfl rfl ?_
          subst hQ9
          exact ⟨by first | rw [if_pos (by omega)] | rw [if_neg (by omega)], rfl, rfl⟩
theorem FR_64_1 {w0 w : qW} (hF : zF w0) (hI : yInv zgf zga zra zSp w) (hn : ∀ p, ymem p trNX = true → ∀ j, w p j = w0 p j) {d : Nat} (hd : 20 ≤ d) {D W : Int} (hD : 0 ≤ D ∧ D ≤ 1023) (hW : 1 ≤ W ∧ W ≤ 5) : qG none d 42 0 [(2, 23), (2, 64), (0, D), (0, W), (0, 1), (9, 0)] [] w 142 (fun (r : qV) (w1 : qW) (n1 : Nat) => r = (9, 0) ∧ n1 = 142 ∧ yInv zgf zga zra zSp w1 ∧ w1 23 13 = 0 ∧ w1 23 14 = 0 ∧ (∀ p j, (p < 1000 → ymo p j trMX = false) → w1 p j = w p j)) :=
  qG.mono (T_frx_64_1 hF d [(2, 23), (2, 64), (0, D), (0, W), (0, 1)] w hd ⟨⟨rfl, Int.le_refl 23, Int.le_refl 23⟩, ⟨rfl, Int.le_refl 64, Int.le_refl 64⟩, ⟨rfl, hD⟩, ⟨rfl, hW⟩, ⟨rfl, Int.le_refl 1, Int.le_refl 1⟩, trivial⟩ hI (fun p hp j => hn p (yneed (by decide +kernel) hp) j) (fun e he => (by cases he))) (fun v w1 n1 hh => ⟨Prod.ext hh.1.1 (yin00 hh.1.2), hh.2.2.1, hh.2.1, (hh.2.2.2.2.1 (23, 13, 0) List.mem_cons_self).2, (hh.2.2.2.2.1 (23, 14, 0) (List.mem_cons_of_mem _ List.mem_cons_self)).2, fun p j hp => hh.2.2.2.1 p j hp⟩)
theorem FR_64_2 {w0 w : qW} (hF : zF w0) (hI : yInv zgf zga zra zSp w) (hn : ∀ p, ymem p trNX = true → ∀ j, w p j = w0 p j) {d : Nat} (hd : 20 ≤ d) {D W : Int} (hD : 0 ≤ D ∧ D ≤ 1023) (hW : 1 ≤ W ∧ W ≤ 5) : qG none d 42 0 [(2, 23), (2, 64), (0, D), (0, W), (0, 2), (9, 0)] [] w 142 (fun (r : qV) (w1 : qW) (n1 : Nat) => r = (9, 0) ∧ n1 = 142 ∧ yInv zgf zga zra zSp w1 ∧ w1 23 13 = 0 ∧ w1 23 14 = 0 ∧ (∀ p j, (p < 1000 → ymo p j trMX = false) → w1 p j = w p j)) :=
  qG.mono (T_frx_64_2 hF d [(2, 23), (2, 64), (0, D), (0, W), (0, 2)] w hd ⟨⟨rfl, Int.le_refl 23, Int.le_refl 23⟩, ⟨rfl, Int.le_refl 64, Int.le_refl 64⟩, ⟨rfl, hD⟩, ⟨rfl, hW⟩, ⟨rfl, Int.le_refl 2, Int.le_refl 2⟩, trivial⟩ hI (fun p hp j => hn p (yneed (by decide +kernel) hp) j) (fun e he => (by cases he))) (fun v w1 n1 hh => ⟨Prod.ext hh.1.1 (yin00 hh.1.2), hh.2.2.1, hh.2.1, (hh.2.2.2.2.1 (23, 13, 0) List.mem_cons_self).2, (hh.2.2.2.2.1 (23, 14, 0) (List.mem_cons_of_mem _ List.mem_cons_self)).2, fun p j hp => hh.2.2.2.1 p j hp⟩)
theorem FR_64_3 {w0 w : qW} (hF : zF w0) (hI : yInv zgf zga zra zSp w) (hn : ∀ p, ymem p trNX = true → ∀ j, w p j = w0 p j) {d : Nat} (hd : 20 ≤ d) {D W : Int} (hD : 0 ≤ D ∧ D ≤ 1023) (hW : 1 ≤ W ∧ W ≤ 5) : qG none d 42 0 [(2, 23), (2, 64), (0, D), (0, W), (0, 3), (9, 0)] [] w 142 (fun (r : qV) (w1 : qW) (n1 : Nat) => r = (9, 0) ∧ n1 = 142 ∧ yInv zgf zga zra zSp w1 ∧ w1 23 13 = 0 ∧ w1 23 14 = 0 ∧ (∀ p j, (p < 1000 → ymo p j trMX = false) → w1 p j = w p j)) :=
  qG.mono (T_frx_64_3 hF d [(2, 23), (2, 64), (0, D), (0, W), (0, 3)] w hd ⟨⟨rfl, Int.le_refl 23, Int.le_refl 23⟩, ⟨rfl, Int.le_refl 64, Int.le_refl 64⟩, ⟨rfl, hD⟩, ⟨rfl, hW⟩, ⟨rfl, Int.le_refl 3, Int.le_refl 3⟩, trivial⟩ hI (fun p hp j => hn p (yneed (by decide +kernel) hp) j) (fun e he => (by cases he))) (fun v w1 n1 hh => ⟨Prod.ext hh.1.1 (yin00 hh.1.2), hh.2.2.1, hh.2.1, (hh.2.2.2.2.1 (23, 13, 0) List.mem_cons_self).2, (hh.2.2.2.2.1 (23, 14, 0) (List.mem_cons_of_mem _ List.mem_cons_self)).2, fun p j hp => hh.2.2.2.1 p j hp⟩)
theorem FR_64_4 {w0 w : qW} (hF : zF w0) (hI : yInv zgf zga zra zSp w) (hn : ∀ p, ymem p trNX = true → ∀ j, w p j = w0 p j) {d : Nat} (hd : 20 ≤ d) {D W : Int} (hD : 0 ≤ D ∧ D ≤ 1023) (hW : 1 ≤ W ∧ W ≤ 5) : qG none d 42 0 [(2, 23), (2, 64), (0, D), (0, W), (0, 4), (9, 0)] [] w 142 (fun (r : qV) (w1 : qW) (n1 : Nat) => r = (9, 0) ∧ n1 = 142 ∧ yInv zgf zga zra zSp w1 ∧ w1 23 13 = 0 ∧ w1 23 14 = 0 ∧ (∀ p j, (p < 1000 → ymo p j trMX = false) → w1 p j = w p j)) :=
  qG.mono (T_frx_64_4 hF d [(2, 23), (2, 64), (0, D), (0, W), (0, 4)] w hd ⟨⟨rfl, Int.le_refl 23, Int.le_refl 23⟩, ⟨rfl, Int.le_refl 64, Int.le_refl 64⟩, ⟨rfl, hD⟩, ⟨rfl, hW⟩, ⟨rfl, Int.le_refl 4, Int.le_refl 4⟩, trivial⟩ hI (fun p hp j => hn p (yneed (by decide +kernel) hp) j) (fun e he => (by cases he))) (fun v w1 n1 hh => ⟨Prod.ext hh.1.1 (yin00 hh.1.2), hh.2.2.1, hh.2.1, (hh.2.2.2.2.1 (23, 13, 0) List.mem_cons_self).2, (hh.2.2.2.2.1 (23, 14, 0) (List.mem_cons_of_mem _ List.mem_cons_self)).2, fun p j hp => hh.2.2.2.1 p j hp⟩)
theorem FR_69_1 {w0 w : qW} (hF : zF w0) (hI : yInv zgf zga zra zSp w) (hn : ∀ p, ymem p trNX = true → ∀ j, w p j = w0 p j) {d : Nat} (hd : 20 ≤ d) {D W : Int} (hD : 0 ≤ D ∧ D ≤ 1023) (hW : 1 ≤ W ∧ W ≤ 5) : qG none d 42 0 [(2, 23), (2, 69), (0, D), (0, W), (0, 1), (9, 0)] [] w 142 (fun (r : qV) (w1 : qW) (n1 : Nat) => r = (9, 0) ∧ n1 = 142 ∧ yInv zgf zga zra zSp w1 ∧ w1 23 13 = 0 ∧ w1 23 14 = 0 ∧ (∀ p j, (p < 1000 → ymo p j trMX = false) → w1 p j = w p j)) :=
  qG.mono (T_frx_69_1 hF d [(2, 23), (2, 69), (0, D), (0, W), (0, 1)] w hd ⟨⟨rfl, Int.le_refl 23, Int.le_refl 23⟩, ⟨rfl, Int.le_refl 69, Int.le_refl 69⟩, ⟨rfl, hD⟩, ⟨rfl, hW⟩, ⟨rfl, Int.le_refl 1, Int.le_refl 1⟩, trivial⟩ hI (fun p hp j => hn p (yneed (by decide +kernel) hp) j) (fun e he => (by cases he))) (fun v w1 n1 hh => ⟨Prod.ext hh.1.1 (yin00 hh.1.2), hh.2.2.1, hh.2.1, (hh.2.2.2.2.1 (23, 13, 0) List.mem_cons_self).2, (hh.2.2.2.2.1 (23, 14, 0) (List.mem_cons_of_mem _ List.mem_cons_self)).2, fun p j hp => hh.2.2.2.1 p j hp⟩)
theorem FR_69_2 {w0 w : qW} (hF : zF w0) (hI : yInv zgf zga zra zSp w) (hn : ∀ p, ymem p trNX = true → ∀ j, w p j = w0 p j) {d : Nat} (hd : 20 ≤ d) {D W : Int} (hD : 0 ≤ D ∧ D ≤ 1023) (hW : 1 ≤ W ∧ W ≤ 5) : qG none d 42 0 [(2, 23), (2, 69), (0, D), (0, W), (0, 2), (9, 0)] [] w 142 (fun (r : qV) (w1 : qW) (n1 : Nat) => r = (9, 0) ∧ n1 = 142 ∧ yInv zgf zga zra zSp w1 ∧ w1 23 13 = 0 ∧ w1 23 14 = 0 ∧ (∀ p j, (p < 1000 → ymo p j trMX = false) → w1 p j = w p j)) :=
  qG.mono (T_frx_69_2 hF d [(2, 23), (2, 69), (0, D), (0, W), (0, 2)] w hd ⟨⟨rfl, Int.le_refl 23, Int.le_refl 23⟩, ⟨rfl, Int.le_refl 69, Int.le_refl 69⟩, ⟨rfl, hD⟩, ⟨rfl, hW⟩, ⟨rfl, Int.le_refl 2, Int.le_refl 2⟩, trivial⟩ hI (fun p hp j => hn p (yneed (by decide +kernel) hp) j) (fun e he => (by cases he))) (fun v w1 n1 hh => ⟨Prod.ext hh.1.1 (yin00 hh.1.2), hh.2.2.1, hh.2.1, (hh.2.2.2.2.1 (23, 13, 0) List.mem_cons_self).2, (hh.2.2.2.2.1 (23, 14, 0) (List.mem_cons_of_mem _ List.mem_cons_self)).2, fun p j hp => hh.2.2.2.1 p j hp⟩)
theorem FR_69_3 {w0 w : qW} (hF : zF w0) (hI : yInv zgf zga zra zSp w) (hn : ∀ p, ymem p trNX = true → ∀ j, w p j = w0 p j) {d : Nat} (hd : 20 ≤ d) {D W : Int} (hD : 0 ≤ D ∧ D ≤ 1023) (hW : 1 ≤ W ∧ W ≤ 5) : qG none d 42 0 [(2, 23), (2, 69), (0, D), (0, W), (0, 3), (9, 0)] [] w 142 (fun (r : qV) (w1 : qW) (n1 : Nat) => r = (9, 0) ∧ n1 = 142 ∧ yInv zgf zga zra zSp w1 ∧ w1 23 13 = 0 ∧ w1 23 14 = 0 ∧ (∀ p j, (p < 1000 → ymo p j trMX = false) → w1 p j = w p j)) :=
  qG.mono (T_frx_69_3 hF d [(2, 23), (2, 69), (0, D), (0, W), (0, 3)] w hd ⟨⟨rfl, Int.le_refl 23, Int.le_refl 23⟩, ⟨rfl, Int.le_refl 69, Int.le_refl 69⟩, ⟨rfl, hD⟩, ⟨rfl, hW⟩, ⟨rfl, Int.le_refl 3, Int.le_refl 3⟩, trivial⟩ hI (fun p hp j => hn p (yneed (by decide +kernel) hp) j) (fun e he => (by cases he))) (fun v w1 n1 hh => ⟨Prod.ext hh.1.1 (yin00 hh.1.2), hh.2.2.1, hh.2.1, (hh.2.2.2.2.1 (23, 13, 0) List.mem_cons_self).2, (hh.2.2.2.2.1 (23, 14, 0) (List.mem_cons_of_mem _ List.mem_cons_self)).2, fun p j hp => hh.2.2.2.1 p j hp⟩)
theorem FR_69_4 {w0 w : qW} (hF : zF w0) (hI : yInv zgf zga zra zSp w) (hn : ∀ p, ymem p trNX = true → ∀ j, w p j = w0 p j) {d : Nat} (hd : 20 ≤ d) {D W : Int} (hD : 0 ≤ D ∧ D ≤ 1023) (hW : 1 ≤ W ∧ W ≤ 5) : qG none d 42 0 [(2, 23), (2, 69), (0, D), (0, W), (0, 4), (9, 0)] [] w 142 (fun (r : qV) (w1 : qW) (n1 : Nat) => r = (9, 0) ∧ n1 = 142 ∧ yInv zgf zga zra zSp w1 ∧ w1 23 13 = 0 ∧ w1 23 14 = 0 ∧ (∀ p j, (p < 1000 → ymo p j trMX = false) → w1 p j = w p j)) :=
  qG.mono (T_frx_69_4 hF d [(2, 23), (2, 69), (0, D), (0, W), (0, 4)] w hd ⟨⟨rfl, Int.le_refl 23, Int.le_refl 23⟩, ⟨rfl, Int.le_refl 69, Int.le_refl 69⟩, ⟨rfl, hD⟩, ⟨rfl, hW⟩, ⟨rfl, Int.le_refl 4, Int.le_refl 4⟩, trivial⟩ hI (fun p hp j => hn p (yneed (by decide +kernel) hp) j) (fun e he => (by cases he))) (fun v w1 n1 hh => ⟨Prod.ext hh.1.1 (yin00 hh.1.2), hh.2.2.1, hh.2.1, (hh.2.2.2.2.1 (23, 13, 0) List.mem_cons_self).2, (hh.2.2.2.2.1 (23, 14, 0) (List.mem_cons_of_mem _ List.mem_cons_self)).2, fun p j hp => hh.2.2.2.1 p j hp⟩)
theorem FR_74_1 {w0 w : qW} (hF : zF w0) (hI : yInv zgf zga zra zSp w) (hn : ∀ p, ymem p trNX = true → ∀ j, w p j = w0 p j) {d : Nat} (hd : 20 ≤ d) {D W : Int} (hD : 0 ≤ D ∧ D ≤ 1023) (hW : 1 ≤ W ∧ W ≤ 5) : qG none d 42 0 [(2, 23), (2, 74), (0, D), (0, W), (0, 1), (9, 0)] [] w 142 (fun (r : qV) (w1 : qW) (n1 : Nat) => r = (9, 0) ∧ n1 = 142 ∧ yInv zgf zga zra zSp w1 ∧ w1 23 13 = 0 ∧ w1 23 14 = 0 ∧ (∀ p j, (p < 1000 → ymo p j trMX = false) → w1 p j = w p j)) :=
  qG.mono (T_frx_74_1 hF d [(2, 23), (2, 74), (0, D), (0, W), (0, 1)] w hd ⟨⟨rfl, Int.le_refl 23, Int.le_refl 23⟩, ⟨rfl, Int.le_refl 74, Int.le_refl 74⟩, ⟨rfl, hD⟩, ⟨rfl, hW⟩, ⟨rfl, Int.le_refl 1, Int.le_refl 1⟩, trivial⟩ hI (fun p hp j => hn p (yneed (by decide +kernel) hp) j) (fun e he => (by cases he))) (fun v w1 n1 hh => ⟨Prod.ext hh.1.1 (yin00 hh.1.2), hh.2.2.1, hh.2.1, (hh.2.2.2.2.1 (23, 13, 0) List.mem_cons_self).2, (hh.2.2.2.2.1 (23, 14, 0) (List.mem_cons_of_mem _ List.mem_cons_self)).2, fun p j hp => hh.2.2.2.1 p j hp⟩)
theorem FR_74_2 {w0 w : qW} (hF : zF w0) (hI : yInv zgf zga zra zSp w) (hn : ∀ p, ymem p trNX = true → ∀ j, w p j = w0 p j) {d : Nat} (hd : 20 ≤ d) {D W : Int} (hD : 0 ≤ D ∧ D ≤ 1023) (hW : 1 ≤ W ∧ W ≤ 5) : qG none d 42 0 [(2, 23), (2, 74), (0, D), (0, W), (0, 2), (9, 0)] [] w 142 (fun (r : qV) (w1 : qW) (n1 : Nat) => r = (9, 0) ∧ n1 = 142 ∧ yInv zgf zga zra zSp w1 ∧ w1 23 13 = 0 ∧ w1 23 14 = 0 ∧ (∀ p j, (p < 1000 → ymo p j trMX = false) → w1 p j = w p j)) :=
  qG.mono (T_frx_74_2 hF d [(2, 23), (2, 74), (0, D), (0, W), (0, 2)] w hd ⟨⟨rfl, Int.le_refl 23, Int.le_refl 23⟩, ⟨rfl, Int.le_refl 74, Int.le_refl 74⟩, ⟨rfl, hD⟩, ⟨rfl, hW⟩, ⟨rfl, Int.le_refl 2, Int.le_refl 2⟩, trivial⟩ hI (fun p hp j => hn p (yneed (by decide +kernel) hp) j) (fun e he => (by cases he))) (fun v w1 n1 hh => ⟨Prod.ext hh.1.1 (yin00 hh.1.2), hh.2.2.1, hh.2.1, (hh.2.2.2.2.1 (23, 13, 0) List.mem_cons_self).2, (hh.2.2.2.2.1 (23, 14, 0) (List.mem_cons_of_mem _ List.mem_cons_self)).2, fun p j hp => hh.2.2.2.1 p j hp⟩)
theorem FR_74_3 {w0 w : qW} (hF : zF w0) (hI : yInv zgf zga zra zSp w) (hn : ∀ p, ymem p trNX = true → ∀ j, w p j = w0 p j) {d : Nat} (hd : 20 ≤ d) {D W : Int} (hD : 0 ≤ D ∧ D ≤ 1023) (hW : 1 ≤ W ∧ W ≤ 5) : qG none d 42 0 [(2, 23), (2, 74), (0, D), (0, W), (0, 3), (9, 0)] [] w 142 (fun (r : qV) (w1 : qW) (n1 : Nat) => r = (9, 0) ∧ n1 = 142 ∧ yInv zgf zga zra zSp w1 ∧ w1 23 13 = 0 ∧ w1 23 14 = 0 ∧ (∀ p j, (p < 1000 → ymo p j trMX = false) → w1 p j = w p j)) :=
  qG.mono (T_frx_74_3 hF d [(2, 23), (2, 74), (0, D), (0, W), (0, 3)] w hd ⟨⟨rfl, Int.le_refl 23, Int.le_refl 23⟩, ⟨rfl, Int.le_refl 74, Int.le_refl 74⟩, ⟨rfl, hD⟩, ⟨rfl, hW⟩, ⟨rfl, Int.le_refl 3, Int.le_refl 3⟩, trivial⟩ hI (fun p hp j => hn p (yneed (by decide +kernel) hp) j) (fun e he => (by cases he))) (fun v w1 n1 hh => ⟨Prod.ext hh.1.1 (yin00 hh.1.2), hh.2.2.1, hh.2.1, (hh.2.2.2.2.1 (23, 13, 0) List.mem_cons_self).2, (hh.2.2.2.2.1 (23, 14, 0) (List.mem_cons_of_mem _ List.mem_cons_self)).2, fun p j hp => hh.2.2.2.1 p j hp⟩)
theorem FR_74_4 {w0 w : qW} (hF : zF w0) (hI : yInv zgf zga zra zSp w) (hn : ∀ p, ymem p trNX = true → ∀ j, w p j = w0 p j) {d : Nat} (hd : 20 ≤ d) {D W : Int} (hD : 0 ≤ D ∧ D ≤ 1023) (hW : 1 ≤ W ∧ W ≤ 5) : qG none d 42 0 [(2, 23), (2, 74), (0, D), (0, W), (0, 4), (9, 0)] [] w 142 (fun (r : qV) (w1 : qW) (n1 : Nat) => r = (9, 0) ∧ n1 = 142 ∧ yInv zgf zga zra zSp w1 ∧ w1 23 13 = 0 ∧ w1 23 14 = 0 ∧ (∀ p j, (p < 1000 → ymo p j trMX = false) → w1 p j = w p j)) :=
  qG.mono (T_frx_74_4 hF d [(2, 23), (2, 74), (0, D), (0, W), (0, 4)] w hd ⟨⟨rfl, Int.le_refl 23, Int.le_refl 23⟩, ⟨rfl, Int.le_refl 74, Int.le_refl 74⟩, ⟨rfl, hD⟩, ⟨rfl, hW⟩, ⟨rfl, Int.le_refl 4, Int.le_refl 4⟩, trivial⟩ hI (fun p hp j => hn p (yneed (by decide +kernel) hp) j) (fun e he => (by cases he))) (fun v w1 n1 hh => ⟨Prod.ext hh.1.1 (yin00 hh.1.2), hh.2.2.1, hh.2.1, (hh.2.2.2.2.1 (23, 13, 0) List.mem_cons_self).2, (hh.2.2.2.2.1 (23, 14, 0) (List.mem_cons_of_mem _ List.mem_cons_self)).2, fun p j hp => hh.2.2.2.1 p j hp⟩)
theorem FR {w0 w : qW} (hF : zF w0) (hI : yInv zgf zga zra zSp w) (hn : ∀ p, ymem p trNX = true → ∀ j, w p j = w0 p j) {d : Nat} (hd : 20 ≤ d) {c D W k : Int} (hc : 0 ≤ c ∧ c ≤ 2) (hD : 0 ≤ D ∧ D ≤ 1023) (hW : 1 ≤ W ∧ W ≤ 5) (hk : 1 ≤ k ∧ k ≤ 4) : qG none d 42 0 [(2, 23), (2, w 2 c.toNat), (0, D), (0, W), (0, k), (9, 0)] [] w 142 (fun (r : qV) (w1 : qW) (n1 : Nat) => r = (9, 0) ∧ n1 = 142 ∧ yInv zgf zga zra zSp w1 ∧ w1 23 13 = 0 ∧ w1 23 14 = 0 ∧ (∀ p j, (p < 1000 → ymo p j trMX = false) → w1 p j = w p j)) := by
  have hc3 : c = 0 ∨ c = 1 ∨ c = 2 := by omega
  have hk4 : k = 1 ∨ k = 2 ∨ k = 3 ∨ k = 4 := by omega
  have r0 : w 2 (0 : Int).toNat = 64 := zref hI (p := 2) (j := 0) rfl rfl
  have r1 : w 2 (1 : Int).toNat = 69 := zref hI (p := 2) (j := 1) rfl rfl
  have r2 : w 2 (2 : Int).toNat = 74 := zref hI (p := 2) (j := 2) rfl rfl
  rcases hc3 with rfl | rfl | rfl
  · rw [r0]
    rcases hk4 with rfl | rfl | rfl | rfl
    · exact FR_64_1 hF hI hn hd hD hW
    · exact FR_64_2 hF hI hn hd hD hW
    · exact FR_64_3 hF hI hn hd hD hW
    · exact FR_64_4 hF hI hn hd hD hW
  · rw [r1]
    rcases hk4 with rfl | rfl | rfl | rfl
    · exact FR_69_1 hF hI hn hd hD hW
    · exact FR_69_2 hF hI hn hd hD hW
    · exact FR_69_3 hF hI hn hd hD hW
    · exact FR_69_4 hF hI hn hd hD hW
  · rw [r2]
    rcases hk4 with rfl | rfl | rfl | rfl
    · exact FR_74_1 hF hI hn hd hD hW
    · exact FR_74_2 hF hI hn hd hD hW
    · exact FR_74_3 hF hI hn hd hD hW
    · exact FR_74_4 hF hI hn hd hD hW
theorem K_order_x {d : Nat} (hd : 22 ≤ d) {w0 : qW} (hF : zF w0) (c D W k v : Int) (hv : v ≤ 2147483647) (w : qW) (hI : yInv zgf zga zra zSp w) (hn : ∀ p, ymem p trNX = true → ∀ j, w p j = w0 p j) : qG none d 176 0 [(2, 1), (0, c), (0, D), (0, W), (0, k), (0, v)] [] w 142 (fun (r : qV) (w1 : qW) (n1 : Nat) => r = (0, ordV c D W k v) ∧ n1 = 142 ∧ yInv zgf zga zra zSp w1 ∧ (∀ p j, (p < 1000 → ymo p j trMX = false) → w1 p j = w p j)) := by
  generalize hQ9 : (fun (r : qV) (w1 : qW) (n1 : Nat) => r = (0, ordV c D W k v) ∧ n1 = 142 ∧ yInv zgf zga zra zSp w1 ∧ (∀ p j, (p < 1000 → ymo p j trMX = false) → w1 p j = w p j)) = Q9
  obtain ⟨d, rfl⟩ : ∃ d9, d = d9 + 1 := ⟨d - 1, by omega⟩
  refine qG.blk 1 (pc' := 1) (ls' := [(2, 1), (0, c), (0, D), (0, W), (0, k), (0, v)]) (st' := [(0, c)]) (w' := w) (n' := 142) rfl ?_
  refine qG.call (t := 198) (na := 1) (sk := 0) (md := 0) (ls1 := [(0, c)]) (r1 := []) rfl rfl rfl rfl rfl (K_chX (by omega) c w) ?_
  rintro _ w6 _ ⟨rfl, hw6, rfl⟩
  rw [hw6]
  show qG none (d + 1) 176 4 [(2, 1), (0, c), (0, D), (0, W), (0, k), (0, v)] [(0, (if 0 ≤ c ∧ c ≤ 2 then 1 else 0))] w 142 Q9
  refine qG.br (P := (if 0 ≤ c ∧ c ≤ 2 then 1 else 0) = 0) (pc1 := 22) (pc2 := 7) (st1 := []) rfl (fun hg1 => ?_) (fun hg1 => ?_)
  · skip
    have hg1 := ite01.mp hg1
    refine qG.blk 1 (pc' := 23) (ls' := [(2, 1), (0, c), (0, D), (0, W), (0, k), (0, v)]) (st' := [(0, (-1))]) (w' := w) (n' := 142) rfl ?_
    refine qG.ret rfl rfl ?_
    subst hQ9
    first | exact ⟨by rw [ordV_n (by omega)], rfl, hI, fun _ _ _ => rfl⟩ | exact ⟨by rw [ordV_if (by omega)], rfl, hI7, hf7⟩
  · skip
    have hg1 := Decidable.of_not_not (fun z => hg1 (ite01.mpr z))
    refine qG.blk 1 (pc' := 9) (ls' := [(2, 1), (0, c), (0, D), (0, W), (0, k), (0, v)]) (st' := [(0, k)]) (w' := w) (n' := 142) rfl ?_
    refine qG.call (t := 200) (na := 1) (sk := 0) (md := 0) (ls1 := [(0, k)]) (r1 := []) rfl rfl rfl rfl rfl (K_szX (by omega) k w) ?_
    rintro _ w6 _ ⟨rfl, hw6, rfl⟩
    rw [hw6]
    show qG none (d + 1) 176 12 [(2, 1), (0, c), (0, D), (0, W), (0, k), (0, v)] [(0, (if 1 ≤ k ∧ k ≤ 4 then 1 else 0))] w 142 Q9
    refine qG.br (P := (if 1 ≤ k ∧ k ≤ 4 then 1 else 0) = 0) (pc1 := 22) (pc2 := 15) (st1 := []) rfl (fun hg5 => ?_) (fun hg5 => ?_)
    · skip
      have hg5 := ite01.mp hg5
      refine qG.blk 1 (pc' := 23) (ls' := [(2, 1), (0, c), (0, D), (0, W), (0, k), (0, v)]) (st' := [(0, (-1))]) (w' := w) (n' := 142) rfl ?_
      refine qG.ret rfl rfl ?_
      subst hQ9
      first | exact ⟨by rw [ordV_n (by omega)], rfl, hI, fun _ _ _ => rfl⟩ | exact ⟨by rw [ordV_if (by omega)], rfl, hI7, hf7⟩
    · skip
      have hg5 := Decidable.of_not_not (fun z => hg5 (ite01.mpr z))
      refine qG.blk 1 (pc' := 16) (ls' := [(2, 1), (0, c), (0, D), (0, W), (0, k), (0, v)]) (st' := [(0, D)]) (w' := w) (n' := 142) rfl ?_
      refine qG.call (t := 201) (na := 1) (sk := 0) (md := 0) (ls1 := [(0, D)]) (r1 := []) rfl rfl rfl rfl rfl (K_dsX (by omega) D w) ?_
      rintro _ w6 _ ⟨rfl, hw6, rfl⟩
      rw [hw6]
      show qG none (d + 1) 176 19 [(2, 1), (0, c), (0, D), (0, W), (0, k), (0, v)] [(0, (if 0 ≤ D ∧ D ≤ 1023 then 1 else 0))] w 142 Q9
      refine qG.br (P := (if 0 ≤ D ∧ D ≤ 1023 then 1 else 0) = 0) (pc1 := 22) (pc2 := 24) (st1 := []) rfl (fun hg2 => ?_) (fun hg2 => ?_)
      · skip
        have hg2 := ite01.mp hg2
        refine qG.blk 1 (pc' := 23) (ls' := [(2, 1), (0, c), (0, D), (0, W), (0, k), (0, v)]) (st' := [(0, (-1))]) (w' := w) (n' := 142) rfl ?_
        refine qG.ret rfl rfl ?_
        subst hQ9
        first | exact ⟨by rw [ordV_n (by omega)], rfl, hI, fun _ _ _ => rfl⟩ | exact ⟨by rw [ordV_if (by omega)], rfl, hI7, hf7⟩
      · skip
        have hg2 := Decidable.of_not_not (fun z => hg2 (ite01.mpr z))
        refine qG.blk 1 (pc' := 25) (ls' := [(2, 1), (0, c), (0, D), (0, W), (0, k), (0, v)]) (st' := [(0, D)]) (w' := w) (n' := 142) rfl ?_
        refine qG.call (t := 302) (na := 1) (sk := 0) (md := 0) (ls1 := [(0, D)]) (r1 := []) rfl rfl rfl rfl rfl (K_bcI (by omega) D w) ?_
        rintro _ w6 _ ⟨rfl, hw6, rfl⟩
        rw [hw6]
        show qG none (d + 1) 176 28 [(2, 1), (0, c), (0, D), (0, W), (0, k), (0, v)] [(0, BCF D)] w 142 Q9
        refine qG.blk 1 (pc' := 29) (ls' := [(2, 1), (0, c), (0, D), (0, W), (0, k), (0, v)]) (st' := [(0, 4), (0, BCF D)]) (w' := w) (n' := 142) rfl ?_
        refine qG.br (P := 4 < BCF D) (pc1 := 42) (pc2 := 32) (st1 := []) rfl (fun hg3 => ?_) (fun hg3 => ?_)
        · skip
          have hbe := bc_eq hg2.1 hg2.2
          refine qG.blk 1 (pc' := 43) (ls' := [(2, 1), (0, c), (0, D), (0, W), (0, k), (0, v)]) (st' := [(0, (-1))]) (w' := w) (n' := 142) rfl ?_
          refine qG.ret rfl rfl ?_
          subst hQ9
          first | exact ⟨by rw [ordV_n (by omega)], rfl, hI, fun _ _ _ => rfl⟩ | exact ⟨by rw [ordV_if (by omega)], rfl, hI7, hf7⟩
        · skip
          have hbe := bc_eq hg2.1 hg2.2
          refine qG.blk 2 (pc' := 34) (ls' := [(2, 1), (0, c), (0, D), (0, W), (0, k), (0, v)]) (st' := [(0, 1), (0, W)]) (w' := w) (n' := 142) rfl ?_
          refine qG.br (P := W < 1) (pc1 := 42) (pc2 := 37) (st1 := []) rfl (fun h1 => ?_) (fun h1 => ?_)
          · skip
            refine qG.blk 1 (pc' := 43) (ls' := [(2, 1), (0, c), (0, D), (0, W), (0, k), (0, v)]) (st' := [(0, (-1))]) (w' := w) (n' := 142) rfl ?_
            refine qG.ret rfl rfl ?_
            subst hQ9
            first | exact ⟨by rw [ordV_n (by omega)], rfl, hI, fun _ _ _ => rfl⟩ | exact ⟨by rw [ordV_if (by omega)], rfl, hI7, hf7⟩
          · skip
            refine qG.blk 2 (pc' := 39) (ls' := [(2, 1), (0, c), (0, D), (0, W), (0, k), (0, v)]) (st' := [(0, 5), (0, W)]) (w' := w) (n' := 142) rfl ?_
            refine qG.br (P := 5 < W) (pc1 := 42) (pc2 := 44) (st1 := []) rfl (fun h2 => ?_) (fun h2 => ?_)
            · skip
              refine qG.blk 1 (pc' := 43) (ls' := [(2, 1), (0, c), (0, D), (0, W), (0, k), (0, v)]) (st' := [(0, (-1))]) (w' := w) (n' := 142) rfl ?_
              refine qG.ret rfl rfl ?_
              subst hQ9
              first | exact ⟨by rw [ordV_n (by omega)], rfl, hI, fun _ _ _ => rfl⟩ | exact ⟨by rw [ordV_if (by omega)], rfl, hI7, hf7⟩
            · skip
              refine qG.blk 2 (pc' := 48) (ls' := [(2, 1), (0, c), (0, D), (0, W), (0, k), (0, v)]) (st' := [(2, w 1 5)]) (w' := w) (n' := 142) rfl ?_
              rw [show w 1 5 = 23 from zref hI rfl rfl]
              refine qG.blk 2 (pc' := 52) (ls' := [(2, 1), (0, c), (0, D), (0, W), (0, k), (0, v)]) (st' := [(2, w 1 0), (2, 23)]) (w' := w) (n' := 142) rfl ?_
              rw [show w 1 0 = 2 from zref hI rfl rfl]
              refine qG.blk 1 (pc' := 53) (ls' := [(2, 1), (0, c), (0, D), (0, W), (0, k), (0, v)]) (st' := [(0, c), (2, 2), (2, 23)]) (w' := w) (n' := 142) rfl ?_
              refine qG.ar (P := 0 ≤ c ∧ c < ((3 : Nat) : Int)) (P2 := 0 < (2 : Int) ∧ (2 : Int) ≤ ((142 : Nat) : Int)) (pc' := 54) (ls' := [(2, 1), (0, c), (0, D), (0, W), (0, k), (0, v)]) (st' := [(2, w 2 c.toNat), (2, 23)]) (w' := w) (n' := 142) rfl (by omega) (by decide) ?_
              refine qG.blk 3 (pc' := 58) (ls' := [(2, 1), (0, c), (0, D), (0, W), (0, k), (0, v)]) (st' := [(0, k), (0, W), (0, D), (2, w 2 c.toNat), (2, 23)]) (w' := w) (n' := 142) rfl ?_
              refine qG.call (t := 42) (na := 5) (sk := 1) (md := 1) (ls1 := [(2, 23), (2, w 2 c.toNat), (0, D), (0, W), (0, k), (9, 0)]) (r1 := []) rfl rfl rfl rfl rfl (FR hF hI hn (by omega) hg1 hg2 (by omega) hg5) ?_
              rintro _ w7 _ ⟨rfl, rfl, hI7, h13, h14, hf7⟩
              show qG none (d + 1) 176 61 [(2, 1), (0, c), (0, D), (0, W), (0, k), (0, v)] [] w7 142 Q9
              refine qG.blk 2 (pc' := 65) (ls' := [(2, 1), (0, c), (0, D), (0, W), (0, k), (0, v)]) (st' := [(2, w7 1 5)]) (w' := w7) (n' := 142) rfl ?_
              rw [show w7 1 5 = 23 from zref hI7 rfl rfl]
              refine qG.blk 1 (pc' := 67) (ls' := [(2, 1), (0, c), (0, D), (0, W), (0, k), (0, v)]) (st' := [(0, v), (2, 23)]) (w' := w7) (n' := 142) rfl ?_
              refine qG.call (t := 43) (na := 2) (sk := 1) (md := 1) (ls1 := [(2, 23), (0, v), (9, 0)]) (r1 := []) rfl rfl rfl rfl rfl (K_rowFact (by omega) v hv w7 hI7 h13 h14) ?_
              rintro _ w6 _ ⟨rfl, hw6, rfl⟩
              rw [hw6]
              show qG none (d + 1) 176 70 [(2, 1), (0, c), (0, D), (0, W), (0, k), (0, v)] [(0, (if v = 0 ∨ v = 1 then 0 else -1))] w7 142 Q9
              refine qG.ret rfl rfl ?_
              subst hQ9
              first | exact ⟨by rw [ordV_n (by omega)], rfl, hI, fun _ _ _ => rfl⟩ | exact ⟨by rw [ordV_if (by omega)], rfl, hI7, hf7⟩
