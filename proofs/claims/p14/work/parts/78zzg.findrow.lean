/-! order: the class's findRow, rowFact, order -/
theorem pzM_rf {w : qW} {c k i : Nat} : pzM w c k i i = true := by
  unfold pzM mvB
  rw [decide_eq_true rfl, Bool.true_or]
theorem vD_sh {w : qW} {c j : Nat} (hI : yInv zgf zga zra zSp w) (hE : JE w) (hc : c < 3) (hj : j < 10) (h : w 97 (10 * c + j) = 0) : shD w c j 1 = vD w c j := by
  have q := thrF_in (w := w) (c := c) (dd := j) (lit := 1) hI hE hc hj
  unfold vD shD
  rw [if_pos h, if_pos hj, qor_0l ⟨by omega, by omega⟩]
theorem vD_in {w : qW} {c j : Nat} (hI : yInv zgf zga zra zSp w) (hE : JE w) (hc : c < 3) (hj : j < 10) : 0 ≤ vD w c j ∧ vD w c j ≤ 65535 := by
  have q := thrF_in (w := w) (c := c) (dd := j) (lit := 1) hI hE hc hj
  unfold vD
  split
  · rw [qor_0l ⟨by omega, by omega⟩]; exact q
  · decide
theorem vD_cg {w w1 : qW} (h96 : ∀ i, w1 96 i = w 96 i) (h97 : ∀ i, w1 97 i = w 97 i) (h98 : ∀ i, w1 98 i = w 98 i) (h100 : ∀ i, w1 100 i = w 100 i) (c j : Nat) : vD w1 c j = vD w c j := by
  unfold vD
  rw [h97, thr_g h96 h97 h98 h100]
theorem JE.cg9 {w w1 : qW} (hE : JE w) (h : ∀ q j, (66 ≤ q ∧ q ≤ 78) ∨ q = 97 ∨ q = 98 ∨ q = 100 → w1 q j = w q j) : JE w1 := fun c d a b => by
  rw [h (66 + 5 * c) d (by omega), h (67 + 5 * c) d (by omega), h (68 + 5 * c) d (by omega), h 97 _ (by omega), h 98 _ (by omega), h 100 _ (by omega)]
  exact hE c d a b
theorem K_findRow64 {d : Nat} (hd : 32 ≤ d) (k : Nat) (hk1 : 1 ≤ k) (hk2 : k ≤ 4) (D W : Nat) (hD : D < 1024) (hW : 1 ≤ W ∧ W ≤ 5) (hpc : pc (trX D 0) 10 ≤ 4) (n : Nat) (w : qW) (hI : yInv zgf zga zra zSp w) (hJ : J9 n w) (hK : w 64 0 = w 96 0) (hE : JE w) : qG none d 42 0 [(2, 23), (2, 64), (0, ((D : Nat) : Int)), (0, ((W : Nat) : Int)), (0, ((k : Nat) : Int)), (9, 0)] [] w 142 (fun (r : qV) (w1 : qW) (n1 : Nat) => r = (9, 0) ∧ n1 = 142 ∧ yInv zgf zga zra zSp w1 ∧ OCs w1 (odS w 0 D (W : Int) k)) := by
  generalize hQ9 : (fun (r : qV) (w1 : qW) (n1 : Nat) => r = (9, 0) ∧ n1 = 142 ∧ yInv zgf zga zra zSp w1 ∧ OCs w1 (odS w 0 D (W : Int) k)) = Q9
  obtain ⟨d, rfl⟩ : ∃ d9, d = d9 + 1 := ⟨d - 1, by omega⟩
  refine qG.blk 2 (pc' := 4) (ls' := [(2, 23), (2, 64), (0, ((D : Nat) : Int)), (0, ((W : Nat) : Int)), (0, ((k : Nat) : Int)), (9, 0)]) (st' := [(2, w 23 0)]) (w' := w) (n' := 142) rfl ?_
  rw [show w 23 0 = 24 from zref hI rfl rfl]
  refine qG.blk 2 (pc' := 7) (ls' := [(2, 23), (2, 64), (0, ((D : Nat) : Int)), (0, ((W : Nat) : Int)), (0, ((k : Nat) : Int)), (9, 0)]) (st' := [(0, ((k : Nat) : Int)), (2, 64), (2, 24)]) (w' := w) (n' := 142) rfl ?_
  refine qG.call (t := 94) (na := 3) (sk := 1) (md := 1) (ls1 := [(2, 24), (2, 64), (0, ((k : Nat) : Int))]) (r1 := []) rfl rfl rfl rfl rfl (qG.and (T_findFor_64 (w0 := w) d [(2, 24), (2, 64), (0, ((k : Nat) : Int))] w (show C_findFor_64.2.1 ≤ d by exact Nat.le_trans (show C_findFor_64.2.1 ≤ 7 by decide) (by omega)) ⟨⟨rfl, by decide, by decide⟩, ⟨rfl, by decide, by decide⟩, ⟨rfl, by show (1 : Int) ≤ _; omega, by show _ ≤ (4 : Int); omega⟩, trivial⟩ hI (fun p hp => by cases hp) (fun e he => by cases he)) (K_findForC64 (by omega) k hk1 hk2 n w hI hJ)) ?_
  rintro _ wF _ ⟨⟨-, hIF, -, -, -⟩, rfl, rfl, hF⟩
  obtain ⟨f0, f1, f2, hTX, hfr⟩ := hF
  have eF : ∀ q j, q ≠ 24 → q ≠ 25 → q ≠ 26 → wF q j = w q j := fun q j a b e => hfr q j (fun z => a z.1) b e
  obtain ⟨z1, z2, z3⟩ := pz_cg (w := w) (w1 := wF) (fun i => eF 96 i (by decide) (by decide) (by decide)) (fun i => eF 99 i (by decide) (by decide) (by decide)) 0 k
  have hTF : CTB (pzN w 0 k) (pzP w 0 k) (pzM w 0 k) wF := by have z := hTX.ctb hk1 hk2; rw [z1, z2, z3] at z; exact z
  show qG none (d + 1) 42 10 [(2, 23), (2, 64), (0, ((D : Nat) : Int)), (0, ((W : Nat) : Int)), (0, ((k : Nat) : Int)), (9, 0)] [] wF 142 Q9
  refine qG.blk 2 (pc' := 13) (ls' := [(2, 23), (2, 64), (0, ((D : Nat) : Int)), (0, ((W : Nat) : Int)), (0, ((k : Nat) : Int)), (0, 0)]) (st' := []) (w' := wF) (n' := 142) rfl ?_
  have L13 : ∀ (m9 : Nat) (j : Nat) (wQ : qW), 10 - j = m9 → (j ≤ 10 ∧ yInv zgf zga zra zSp wQ ∧ (∀ q k, q ≠ 31 → wQ q k = wF q k) ∧ ∀ i, i < j → wQ 31 i = vD w 0 i) → qG none (d + 1) 42 13 [(2, 23), (2, 64), (0, ((D : Nat) : Int)), (0, ((W : Nat) : Int)), (0, ((k : Nat) : Int)), (0, ((j : Nat) : Int))] [] wQ 142 Q9 := by
    intro m9
    induction m9 using Nat.strongRecOn with
    | ind m9 ih13 =>
    intro j wQ hm13 hI13
    obtain ⟨hj10, hIQ, hQf, hQv⟩ := hI13
    have eQ : ∀ q k, q ≠ 31 → q ≠ 24 → q ≠ 25 → q ≠ 26 → wQ q k = w q k := fun q k a1 a2 a3 a4 => (hQf q k a1).trans (eF q k a2 a3 a4)
    have hEQ : JE wQ := hE.cg9 (fun q k h => eQ q k (by omega) (by omega) (by omega) (by omega))
    have evD : ∀ d, vD wQ 0 d = vD w 0 d := vD_cg (fun i => eQ 96 i (by decide) (by decide) (by decide) (by decide)) (fun i => eQ 97 i (by decide) (by decide) (by decide) (by decide)) (fun i => eQ 98 i (by decide) (by decide) (by decide) (by decide)) (fun i => eQ 100 i (by decide) (by decide) (by decide) (by decide)) 0
    refine qG.blk 2 (pc' := 17) (ls' := [(2, 23), (2, 64), (0, ((D : Nat) : Int)), (0, ((W : Nat) : Int)), (0, ((k : Nat) : Int)), (0, ((j : Nat) : Int))]) (st' := [(0, 10), (0, ((j : Nat) : Int))]) (w' := wQ) (n' := 142) rfl ?_
    refine qG.br (P := ((j : Nat) : Int) < 10) (pc1 := 20) (pc2 := 53) (st1 := []) rfl (fun h1 => ?_) (fun h1 => ?_)
    · skip
      refine qG.blk 2 (pc' := 24) (ls' := [(2, 23), (2, 64), (0, ((D : Nat) : Int)), (0, ((W : Nat) : Int)), (0, ((k : Nat) : Int)), (0, ((j : Nat) : Int))]) (st' := [(2, wQ 23 9)]) (w' := wQ) (n' := 142) rfl ?_
      rw [show wQ 23 9 = 31 from (hQf 23 9 (by decide)).trans ((eF 23 9 (by decide) (by decide) (by decide)).trans (zref hI rfl rfl))]
      refine qG.blk 3 (pc' := 29) (ls' := [(2, 23), (2, 64), (0, ((D : Nat) : Int)), (0, ((W : Nat) : Int)), (0, ((k : Nat) : Int)), (0, ((j : Nat) : Int))]) (st' := [(0, ((j : Nat) : Int)), (2, 64), (0, ((j : Nat) : Int)), (2, 31)]) (w' := wQ) (n' := 142) rfl ?_
      refine qG.call (t := 26) (na := 2) (sk := 1) (md := 1) (ls1 := [(2, 64), (0, ((j : Nat) : Int))]) (r1 := [(0, ((j : Nat) : Int)), (2, 31)]) rfl rfl rfl rfl rfl (K_sideOf64 (Nat.zero_le _) j (by omega) wQ hIQ hEQ) ?_
      rintro _ w7 _ ⟨rfl, hw7, rfl⟩
      rw [hw7]
      show qG none (d + 1) 42 32 [(2, 23), (2, 64), (0, ((D : Nat) : Int)), (0, ((W : Nat) : Int)), (0, ((k : Nat) : Int)), (0, ((j : Nat) : Int))] [(0, wQ 97 (10 * 0 + j)), (0, ((j : Nat) : Int)), (2, 31)] wQ 142 Q9
      refine qG.br (P := wQ 97 (10 * 0 + j) = 0) (pc1 := 35) (pc2 := 45) (st1 := [(0, ((j : Nat) : Int)), (2, 31)]) rfl (fun hsd => ?_) (fun hsd => ?_)
      · skip
        refine qG.blk 3 (pc' := 39) (ls' := [(2, 23), (2, 64), (0, ((D : Nat) : Int)), (0, ((W : Nat) : Int)), (0, ((k : Nat) : Int)), (0, ((j : Nat) : Int))]) (st' := [(0, 1), (0, ((j : Nat) : Int)), (2, 64), (0, ((j : Nat) : Int)), (2, 31)]) (w' := wQ) (n' := 142) rfl ?_
        refine qG.call (t := 27) (na := 3) (sk := 1) (md := 1) (ls1 := [(2, 64), (0, ((j : Nat) : Int)), (0, 1), (9, 0), (9, 0)]) (r1 := [(0, ((j : Nat) : Int)), (2, 31)]) rfl rfl rfl rfl rfl (K_shown64 (Nat.zero_le _) j 1 wQ hIQ ((eQ 64 0 (by decide) (by decide) (by decide) (by decide)).trans (hK.trans (eQ 96 0 (by decide) (by decide) (by decide) (by decide)).symm)) hEQ) ?_
        rintro _ w7 _ ⟨rfl, hw7, rfl⟩
        rw [hw7, vD_sh hIQ hEQ (by decide) (by omega) hsd, evD]
        show qG none (d + 1) 42 42 [(2, 23), (2, 64), (0, ((D : Nat) : Int)), (0, ((W : Nat) : Int)), (0, ((k : Nat) : Int)), (0, ((j : Nat) : Int))] [(0, vD w 0 j), (0, ((j : Nat) : Int)), (2, 31)] wQ 142 Q9
        refine qG.blk 1 (pc' := 46) (ls' := [(2, 23), (2, 64), (0, ((D : Nat) : Int)), (0, ((W : Nat) : Int)), (0, ((k : Nat) : Int)), (0, ((j : Nat) : Int))]) (st' := [(0, vD w 0 j), (0, ((j : Nat) : Int)), (2, 31)]) (w' := wQ) (n' := 142) rfl ?_
        refine qG.ar (P := 0 ≤ ((j : Nat) : Int) ∧ ((j : Nat) : Int) < ((10 : Nat) : Int)) (P2 := 0 < (31 : Int) ∧ (31 : Int) ≤ ((142 : Nat) : Int)) (pc' := 47) (ls' := [(2, 23), (2, 64), (0, ((D : Nat) : Int)), (0, ((W : Nat) : Int)), (0, ((k : Nat) : Int)), (0, ((j : Nat) : Int))]) (st' := []) (w' := (qup wQ 31 j (vD w 0 j))) (n' := 142) rfl (by omega) (by decide) ?_
        refine qG.blk 1 (pc' := 50) (ls' := [(2, 23), (2, 64), (0, ((D : Nat) : Int)), (0, ((W : Nat) : Int)), (0, ((k : Nat) : Int)), (0, wrp (((j : Nat) : Int) + 1))]) (st' := []) (w' := (qup wQ 31 j (vD w 0 j))) (n' := 142) rfl ?_
        rw [show wrp (((j : Nat) : Int) + 1) = ((j + 1 : Nat) : Int) from wrp_id (by omega) (by omega)]
        refine qG.blk 1 (pc' := 13) (ls' := [(2, 23), (2, 64), (0, ((D : Nat) : Int)), (0, ((W : Nat) : Int)), (0, ((k : Nat) : Int)), (0, ((j + 1 : Nat) : Int))]) (st' := []) (w' := (qup wQ 31 j (vD w 0 j))) (n' := 142) rfl ?_
        exact ih13 _ (by omega) (j + 1) ((qup wQ 31 j (vD w 0 j))) rfl (⟨by omega, zup_a hIQ (b := (0, 65535)) rfl rfl (by rw [← evD]; exact vD_in hIQ hEQ (by decide) (by omega)), fun q k h => by rw [qup_nq h]; exact hQf q k h, fun i hi => by by_cases e : i = j; (rw [e, qup_k]); (rw [qup_j e]; exact hQv i (by omega))⟩)
      · skip
        refine qG.blk 1 (pc' := 46) (ls' := [(2, 23), (2, 64), (0, ((D : Nat) : Int)), (0, ((W : Nat) : Int)), (0, ((k : Nat) : Int)), (0, ((j : Nat) : Int))]) (st' := [(0, 0), (0, ((j : Nat) : Int)), (2, 31)]) (w' := wQ) (n' := 142) rfl ?_
        refine qG.ar (P := 0 ≤ ((j : Nat) : Int) ∧ ((j : Nat) : Int) < ((10 : Nat) : Int)) (P2 := 0 < (31 : Int) ∧ (31 : Int) ≤ ((142 : Nat) : Int)) (pc' := 47) (ls' := [(2, 23), (2, 64), (0, ((D : Nat) : Int)), (0, ((W : Nat) : Int)), (0, ((k : Nat) : Int)), (0, ((j : Nat) : Int))]) (st' := []) (w' := (qup wQ 31 j 0)) (n' := 142) rfl (by omega) (by decide) ?_
        refine qG.blk 1 (pc' := 50) (ls' := [(2, 23), (2, 64), (0, ((D : Nat) : Int)), (0, ((W : Nat) : Int)), (0, ((k : Nat) : Int)), (0, wrp (((j : Nat) : Int) + 1))]) (st' := []) (w' := (qup wQ 31 j 0)) (n' := 142) rfl ?_
        rw [show wrp (((j : Nat) : Int) + 1) = ((j + 1 : Nat) : Int) from wrp_id (by omega) (by omega)]
        refine qG.blk 1 (pc' := 13) (ls' := [(2, 23), (2, 64), (0, ((D : Nat) : Int)), (0, ((W : Nat) : Int)), (0, ((k : Nat) : Int)), (0, ((j + 1 : Nat) : Int))]) (st' := []) (w' := (qup wQ 31 j 0)) (n' := 142) rfl ?_
        exact ih13 _ (by omega) (j + 1) ((qup wQ 31 j 0)) rfl (⟨by omega, zup_a hIQ (b := (0, 65535)) rfl rfl (by exact ⟨by decide, by decide⟩), fun q k h => by rw [qup_nq h]; exact hQf q k h, fun i hi => by by_cases e : i = j; (rw [e, qup_k]; rw [← evD]; unfold vD; rw [if_neg hsd]); (rw [qup_j e]; exact hQv i (by omega))⟩)
    · skip
      refine qG.blk 12 (pc' := 73) (ls' := [(2, 23), (2, 64), (0, ((D : Nat) : Int)), (0, ((W : Nat) : Int)), (0, ((k : Nat) : Int)), (0, ((j : Nat) : Int))]) (st' := []) (w' := (qup (qup (qup (qup wQ 23 7 ((D : Nat) : Int)) 23 8 ((W : Nat) : Int)) 23 13 (-1)) 23 14 0)) (n' := 142) rfl ?_
      refine qG.blk 2 (pc' := 77) (ls' := [(2, 23), (2, 64), (0, ((D : Nat) : Int)), (0, ((W : Nat) : Int)), (0, ((k : Nat) : Int)), (0, ((j : Nat) : Int))]) (st' := [(2, wQ 23 0)]) (w' := (qup (qup (qup (qup wQ 23 7 ((D : Nat) : Int)) 23 8 ((W : Nat) : Int)) 23 13 (-1)) 23 14 0)) (n' := 142) rfl ?_
      rw [show wQ 23 0 = 24 from (hQf 23 0 (by decide)).trans ((eF 23 0 (by decide) (by decide) (by decide)).trans (zref hI rfl rfl))]
      refine qG.blk 3 (pc' := 82) (ls' := [(2, 23), (2, 64), (0, ((D : Nat) : Int)), (0, ((W : Nat) : Int)), (0, ((k : Nat) : Int)), (0, ((j : Nat) : Int))]) (st' := [(2, wQ 23 11), (0, 0), (2, 24)]) (w' := (qup (qup (qup (qup wQ 23 7 ((D : Nat) : Int)) 23 8 ((W : Nat) : Int)) 23 13 (-1)) 23 14 0)) (n' := 142) rfl ?_
      rw [show wQ 23 11 = 33 from (hQf 23 11 (by decide)).trans ((eF 23 11 (by decide) (by decide) (by decide)).trans (zref hI rfl rfl))]
      refine qG.blk 1 (pc' := 83) (ls' := [(2, 23), (2, 64), (0, ((D : Nat) : Int)), (0, ((W : Nat) : Int)), (0, ((k : Nat) : Int)), (0, ((j : Nat) : Int))]) (st' := [(0, 0), (2, 33), (0, 0), (2, 24)]) (w' := (qup (qup (qup (qup wQ 23 7 ((D : Nat) : Int)) 23 8 ((W : Nat) : Int)) 23 13 (-1)) 23 14 0)) (n' := 142) rfl ?_
      refine qG.ar (P := 0 ≤ 0 ∧ 0 < ((5 : Nat) : Int)) (P2 := 0 < (33 : Int) ∧ (33 : Int) ≤ ((142 : Nat) : Int)) (pc' := 84) (ls' := [(2, 23), (2, 64), (0, ((D : Nat) : Int)), (0, ((W : Nat) : Int)), (0, ((k : Nat) : Int)), (0, ((j : Nat) : Int))]) (st' := [(2, wQ 33 0), (0, 0), (2, 24)]) (w' := (qup (qup (qup (qup wQ 23 7 ((D : Nat) : Int)) 23 8 ((W : Nat) : Int)) 23 13 (-1)) 23 14 0)) (n' := 142) rfl (by omega) (by decide) ?_
      rw [show wQ 33 0 = 34 from (hQf 33 0 (by decide)).trans ((eF 33 0 (by decide) (by decide) (by decide)).trans (zref hI rfl rfl))]
      obtain ⟨wS, hwS⟩ : ∃ z : qW, z = (qup (qup (qup (qup wQ 23 7 ((D : Nat) : Int)) 23 8 ((W : Nat) : Int)) 23 13 (-1)) 23 14 0) := ⟨_, rfl⟩
      rw [← hwS]
      have hIS : yInv zgf zga zra zSp wS := by rw [hwS]; exact zup_f (zup_f (zup_f (zup_f hIQ (b := (0, 1023)) rfl rfl rfl ⟨by show (0 : Int) ≤ _; omega, by show _ ≤ (1023 : Int); omega⟩) (b := (0, 5)) rfl rfl rfl ⟨by show (0 : Int) ≤ _; omega, by show _ ≤ (5 : Int); omega⟩) (b := (-1, 4)) rfl rfl rfl ⟨by decide, by decide⟩) (b := (0, 65535)) rfl rfl rfl ⟨by decide, by decide⟩
      have hSf : ∀ q k, q ≠ 23 ∨ k < 7 ∨ (8 < k ∧ k ≤ 12) → wS q k = wQ q k := fun q k h => by rw [hwS, qup_f (by omega), qup_f (by omega), qup_f (by omega), qup_f (by omega)]
      have hTS : CTB (pzN w 0 k) (pzP w 0 k) (pzM w 0 k) wS := hTF.cg (fun q k h => (hSf q k (by omega)).trans (hQf q k (by omega)))
      refine qG.call (t := 103) (na := 3) (sk := 1) (md := 1) (ls1 := [(2, 24), (0, 0), (2, 34), (9, 0), (9, 0)]) (r1 := []) rfl rfl rfl rfl rfl (K_unseen34 (by omega) 0 _ hTS.1 wS hIS hTS.2.1) ?_
      rintro _ wV _ ⟨rfl, rfl, hRV⟩
      have hIV := hRV.2.2
      have hVf : ∀ q k, q ≠ 34 → wV q k = wS q k := fun q k h => hRV.2.1 q k h
      have hTV := hTS.cg (w1 := wV) (fun q k h => hVf q k (by omega))
      have hH : HOLD wV 34 (hz (pzN w 0 k) (pzP w 0 k) (pzM w 0 k) (fun t => siF w 0 kR (nR (fun _ => 0) (W : Int)) (4 * 0) t) (scF kR (nR (fun _ => 0) (W : Int)) (4 * 0))) := fun j hj => by rw [show sb wV 34 j = (decide (j < pzN w 0 k) && decide (qand (wS 25 j) 0 = 0)) from hRV.1 j hj, qand_z0, decide_eq_true rfl, Bool.and_true]; rfl
      have h7 : wV 23 7 = (D : Int) := (hVf 23 7 (by decide)).trans (by rw [hwS, qup_j (by decide), qup_j (by decide), qup_j (by decide), qup_k])
      have h8 : wV 23 8 = (W : Int) := (hVf 23 8 (by decide)).trans (by rw [hwS, qup_j (by decide), qup_j (by decide), qup_k])
      have h13 : wV 23 13 = -1 := (hVf 23 13 (by decide)).trans (by rw [hwS, qup_j (by decide), qup_k])
      have h14 : wV 23 14 = 0 := (hVf 23 14 (by decide)).trans (by rw [hwS, qup_k])
      have hC0 : OCs wV (-1, 0, fun _ => 0) := ⟨h13, h14, fun k hk => by have hk : (k : Int) < -1 := hk; omega⟩
      have hOV : OW (pzN w 0 k) (pzP w 0 k) (pzM w 0 k) D W (fun j => vD w 0 j) wV := ⟨hTV, h7, h8, fun i hi => (hVf 31 i (by decide)).trans ((hSf 31 i (by omega)).trans (hQv i (by omega)))⟩
      show qG none (d + 1) 42 87 [(2, 23), (2, 64), (0, ((D : Nat) : Int)), (0, ((W : Nat) : Int)), (0, ((k : Nat) : Int)), (0, ((j : Nat) : Int))] [] wV 142 Q9
      refine qG.blk 2 (pc' := 91) (ls' := [(2, 23), (2, 64), (0, ((D : Nat) : Int)), (0, ((W : Nat) : Int)), (0, ((k : Nat) : Int)), (0, ((j : Nat) : Int))]) (st' := [(2, wV 23 11)]) (w' := wV) (n' := 142) rfl ?_
      rw [show wV 23 11 = 33 from (hVf 23 11 (by decide)).trans ((hSf 23 11 (by decide)).trans ((hQf 23 11 (by decide)).trans ((eF 23 11 (by decide) (by decide) (by decide)).trans (zref hI rfl rfl))))]
      refine qG.blk 1 (pc' := 92) (ls' := [(2, 23), (2, 64), (0, ((D : Nat) : Int)), (0, ((W : Nat) : Int)), (0, ((k : Nat) : Int)), (0, ((j : Nat) : Int))]) (st' := [(0, 0), (2, 33)]) (w' := wV) (n' := 142) rfl ?_
      refine qG.ar (P := 0 ≤ 0 ∧ 0 < ((5 : Nat) : Int)) (P2 := 0 < (33 : Int) ∧ (33 : Int) ≤ ((142 : Nat) : Int)) (pc' := 93) (ls' := [(2, 23), (2, 64), (0, ((D : Nat) : Int)), (0, ((W : Nat) : Int)), (0, ((k : Nat) : Int)), (0, ((j : Nat) : Int))]) (st' := [(2, wV 33 0)]) (w' := wV) (n' := 142) rfl (by omega) (by decide) ?_
      rw [show wV 33 0 = 34 from (hVf 33 0 (by decide)).trans ((hSf 33 0 (by decide)).trans ((hQf 33 0 (by decide)).trans ((eF 33 0 (by decide) (by decide) (by decide)).trans (zref hI rfl rfl))))]
      refine qG.call (t := 51) (na := 1) (sk := 0) (md := 0) (ls1 := [(2, 34)]) (r1 := []) rfl rfl rfl rfl rfl (K_isEmpty34 (by omega) wV) ?_
      rintro _ w7 _ ⟨rfl, hw7, rfl⟩
      rw [hw7]
      show qG none (d + 1) 42 96 [(2, 23), (2, 64), (0, ((D : Nat) : Int)), (0, ((W : Nat) : Int)), (0, ((k : Nat) : Int)), (0, ((j : Nat) : Int))] [(0, (if ctb (fun j => sb wV 34 j) 192 = 0 then 1 else 0))] wV 142 Q9
      refine qG.br (P := (if ctb (fun j => sb wV 34 j) 192 = 0 then 1 else 0) = 0) (pc1 := 99) (pc2 := 106) (st1 := []) rfl (fun hem0 => ?_) (fun hem0 => ?_)
      · skip
        have hem : ¬ ctb (fun j => sb wV 34 j) 192 = 0 := fun z => by rw [if_pos z] at hem0; cases hem0
        refine qG.blk 4 (pc' := 103) (ls' := [(2, 23), (2, 64), (0, ((D : Nat) : Int)), (0, ((W : Nat) : Int)), (0, ((k : Nat) : Int)), (0, ((j : Nat) : Int))]) (st' := [(0, 0), (0, 0), (0, 0), (2, 23)]) (w' := wV) (n' := 142) rfl ?_
        have hok0 : (okO (pzN w 0 k) (pzP w 0 k) (pzM w 0 k) w 0 (W : Int)) 0 (fun _ => 0) = true := by
          cases q : (okO (pzN w 0 k) (pzP w 0 k) (pzM w 0 k) w 0 (W : Int)) 0 (fun _ => 0) with
          | true => rfl
          | false =>
            have z := okO_no.mp q
            exact absurd (ctb_0.mpr (fun j hj => (hH j hj).trans (z j))) hem
        refine qG.call (t := 44) (na := 4) (sk := 1) (md := 1) (ls1 := [(2, 23), (0, 0), (0, 0), (0, 0), (9, 0)]) (r1 := []) rfl rfl rfl rfl rfl ((TRC_0 w 0 (pzN w 0 k) (pzP w 0 k) (pzM w 0 k) D W hD hW (fun _ _ => pzM_rf) (fun j hj => vD_in hI hE (by decide) hj) d wV (fun _ => 0) 0 (-1, 0, fun _ => 0) 0 (by omega) hIV hOV (fun k hk => absurd hk (Nat.not_lt_zero k)) (fun k hk => absurd hk (Nat.not_lt_zero k)) (by decide) (by omega) rfl ⟨by decide, by decide⟩ hH hok0 hC0 : qG none d 44 0 [(2, 23), (0, 0), (0, 0), (0, 0), (9, 0)] [] wV 142 _)) ?_
        rintro _ wR _ ⟨rfl, rfl, hIR, -, hCR⟩
        show qG none (d + 1) 42 106 [(2, 23), (2, 64), (0, ((D : Nat) : Int)), (0, ((W : Nat) : Int)), (0, ((k : Nat) : Int)), (0, ((j : Nat) : Int))] [] wR 142 Q9
        refine qG.retv rfl rfl ?_
        subst hQ9
        exact ⟨rfl, rfl, hIR, hCR⟩
      · skip
        have hem : ctb (fun j => sb wV 34 j) 192 = 0 := Decidable.of_not_not (fun z => hem0 (if_neg z))
        refine qG.retv rfl rfl ?_
        subst hQ9
        have hno : (okO (pzN w 0 k) (pzP w 0 k) (pzM w 0 k) w 0 (W : Int)) 0 (fun _ => 0) = false := okO_no.mpr (fun j => if y : j < 192 then (hH j y).symm.trans (ctb_0.mp hem j y) else hz_N (by have := hTV.1; omega))
        refine ⟨rfl, rfl, hIV, ?_⟩
        unfold odS
        rw [XPo_no (fun n r j h => okO_x n r j h) _ _ _ _ _ hno]
        exact hC0
  exact L13 _ (0) (wF) rfl (⟨Nat.zero_le _, hIF, fun _ _ _ => rfl, fun i hi => absurd hi (Nat.not_lt_zero i)⟩)
theorem K_findRow69 {d : Nat} (hd : 32 ≤ d) (k : Nat) (hk1 : 1 ≤ k) (hk2 : k ≤ 4) (D W : Nat) (hD : D < 1024) (hW : 1 ≤ W ∧ W ≤ 5) (hpc : pc (trX D 0) 10 ≤ 4) (n : Nat) (w : qW) (hI : yInv zgf zga zra zSp w) (hJ : J9 n w) (hK : w 69 0 = w 96 1) (hE : JE w) : qG none d 42 0 [(2, 23), (2, 69), (0, ((D : Nat) : Int)), (0, ((W : Nat) : Int)), (0, ((k : Nat) : Int)), (9, 0)] [] w 142 (fun (r : qV) (w1 : qW) (n1 : Nat) => r = (9, 0) ∧ n1 = 142 ∧ yInv zgf zga zra zSp w1 ∧ OCs w1 (odS w 1 D (W : Int) k)) := by
  generalize hQ9 : (fun (r : qV) (w1 : qW) (n1 : Nat) => r = (9, 0) ∧ n1 = 142 ∧ yInv zgf zga zra zSp w1 ∧ OCs w1 (odS w 1 D (W : Int) k)) = Q9
  obtain ⟨d, rfl⟩ : ∃ d9, d = d9 + 1 := ⟨d - 1, by omega⟩
  refine qG.blk 2 (pc' := 4) (ls' := [(2, 23), (2, 69), (0, ((D : Nat) : Int)), (0, ((W : Nat) : Int)), (0, ((k : Nat) : Int)), (9, 0)]) (st' := [(2, w 23 0)]) (w' := w) (n' := 142) rfl ?_
  rw [show w 23 0 = 24 from zref hI rfl rfl]
  refine qG.blk 2 (pc' := 7) (ls' := [(2, 23), (2, 69), (0, ((D : Nat) : Int)), (0, ((W : Nat) : Int)), (0, ((k : Nat) : Int)), (9, 0)]) (st' := [(0, ((k : Nat) : Int)), (2, 69), (2, 24)]) (w' := w) (n' := 142) rfl ?_
  refine qG.call (t := 94) (na := 3) (sk := 1) (md := 1) (ls1 := [(2, 24), (2, 69), (0, ((k : Nat) : Int))]) (r1 := []) rfl rfl rfl rfl rfl (qG.and (T_findFor_69 (w0 := w) d [(2, 24), (2, 69), (0, ((k : Nat) : Int))] w (show C_findFor_69.2.1 ≤ d by exact Nat.le_trans (show C_findFor_69.2.1 ≤ 7 by decide) (by omega)) ⟨⟨rfl, by decide, by decide⟩, ⟨rfl, by decide, by decide⟩, ⟨rfl, by show (1 : Int) ≤ _; omega, by show _ ≤ (4 : Int); omega⟩, trivial⟩ hI (fun p hp => by cases hp) (fun e he => by cases he)) (K_findForC69 (by omega) k hk1 hk2 n w hI hJ)) ?_
  rintro _ wF _ ⟨⟨-, hIF, -, -, -⟩, rfl, rfl, hF⟩
  obtain ⟨f0, f1, f2, hTX, hfr⟩ := hF
  have eF : ∀ q j, q ≠ 24 → q ≠ 25 → q ≠ 26 → wF q j = w q j := fun q j a b e => hfr q j (fun z => a z.1) b e
  obtain ⟨z1, z2, z3⟩ := pz_cg (w := w) (w1 := wF) (fun i => eF 96 i (by decide) (by decide) (by decide)) (fun i => eF 99 i (by decide) (by decide) (by decide)) 1 k
  have hTF : CTB (pzN w 1 k) (pzP w 1 k) (pzM w 1 k) wF := by have z := hTX.ctb hk1 hk2; rw [z1, z2, z3] at z; exact z
  show qG none (d + 1) 42 10 [(2, 23), (2, 69), (0, ((D : Nat) : Int)), (0, ((W : Nat) : Int)), (0, ((k : Nat) : Int)), (9, 0)] [] wF 142 Q9
  refine qG.blk 2 (pc' := 13) (ls' := [(2, 23), (2, 69), (0, ((D : Nat) : Int)), (0, ((W : Nat) : Int)), (0, ((k : Nat) : Int)), (0, 0)]) (st' := []) (w' := wF) (n' := 142) rfl ?_
  have L13 : ∀ (m9 : Nat) (j : Nat) (wQ : qW), 10 - j = m9 → (j ≤ 10 ∧ yInv zgf zga zra zSp wQ ∧ (∀ q k, q ≠ 31 → wQ q k = wF q k) ∧ ∀ i, i < j → wQ 31 i = vD w 1 i) → qG none (d + 1) 42 13 [(2, 23), (2, 69), (0, ((D : Nat) : Int)), (0, ((W : Nat) : Int)), (0, ((k : Nat) : Int)), (0, ((j : Nat) : Int))] [] wQ 142 Q9 := by
    intro m9
    induction m9 using Nat.strongRecOn with
    | ind m9 ih13 =>
    intro j wQ hm13 hI13
    obtain ⟨hj10, hIQ, hQf, hQv⟩ := hI13
    have eQ : ∀ q k, q ≠ 31 → q ≠ 24 → q ≠ 25 → q ≠ 26 → wQ q k = w q k := fun q k a1 a2 a3 a4 => (hQf q k a1).trans (eF q k a2 a3 a4)
    have hEQ : JE wQ := hE.cg9 (fun q k h => eQ q k (by omega) (by omega) (by omega) (by omega))
    have evD : ∀ d, vD wQ 1 d = vD w 1 d := vD_cg (fun i => eQ 96 i (by decide) (by decide) (by decide) (by decide)) (fun i => eQ 97 i (by decide) (by decide) (by decide) (by decide)) (fun i => eQ 98 i (by decide) (by decide) (by decide) (by decide)) (fun i => eQ 100 i (by decide) (by decide) (by decide) (by decide)) 1
    refine qG.blk 2 (pc' := 17) (ls' := [(2, 23), (2, 69), (0, ((D : Nat) : Int)), (0, ((W : Nat) : Int)), (0, ((k : Nat) : Int)), (0, ((j : Nat) : Int))]) (st' := [(0, 10), (0, ((j : Nat) : Int))]) (w' := wQ) (n' := 142) rfl ?_
    refine qG.br (P := ((j : Nat) : Int) < 10) (pc1 := 20) (pc2 := 53) (st1 := []) rfl (fun h1 => ?_) (fun h1 => ?_)
    · skip
      refine qG.blk 2 (pc' := 24) (ls' := [(2, 23), (2, 69), (0, ((D : Nat) : Int)), (0, ((W : Nat) : Int)), (0, ((k : Nat) : Int)), (0, ((j : Nat) : Int))]) (st' := [(2, wQ 23 9)]) (w' := wQ) (n' := 142) rfl ?_
      rw [show wQ 23 9 = 31 from (hQf 23 9 (by decide)).trans ((eF 23 9 (by decide) (by decide) (by decide)).trans (zref hI rfl rfl))]
      refine qG.blk 3 (pc' := 29) (ls' := [(2, 23), (2, 69), (0, ((D : Nat) : Int)), (0, ((W : Nat) : Int)), (0, ((k : Nat) : Int)), (0, ((j : Nat) : Int))]) (st' := [(0, ((j : Nat) : Int)), (2, 69), (0, ((j : Nat) : Int)), (2, 31)]) (w' := wQ) (n' := 142) rfl ?_
      refine qG.call (t := 26) (na := 2) (sk := 1) (md := 1) (ls1 := [(2, 69), (0, ((j : Nat) : Int))]) (r1 := [(0, ((j : Nat) : Int)), (2, 31)]) rfl rfl rfl rfl rfl (K_sideOf69 (Nat.zero_le _) j (by omega) wQ hIQ hEQ) ?_
      rintro _ w7 _ ⟨rfl, hw7, rfl⟩
      rw [hw7]
      show qG none (d + 1) 42 32 [(2, 23), (2, 69), (0, ((D : Nat) : Int)), (0, ((W : Nat) : Int)), (0, ((k : Nat) : Int)), (0, ((j : Nat) : Int))] [(0, wQ 97 (10 * 1 + j)), (0, ((j : Nat) : Int)), (2, 31)] wQ 142 Q9
      refine qG.br (P := wQ 97 (10 * 1 + j) = 0) (pc1 := 35) (pc2 := 45) (st1 := [(0, ((j : Nat) : Int)), (2, 31)]) rfl (fun hsd => ?_) (fun hsd => ?_)
      · skip
        refine qG.blk 3 (pc' := 39) (ls' := [(2, 23), (2, 69), (0, ((D : Nat) : Int)), (0, ((W : Nat) : Int)), (0, ((k : Nat) : Int)), (0, ((j : Nat) : Int))]) (st' := [(0, 1), (0, ((j : Nat) : Int)), (2, 69), (0, ((j : Nat) : Int)), (2, 31)]) (w' := wQ) (n' := 142) rfl ?_
        refine qG.call (t := 27) (na := 3) (sk := 1) (md := 1) (ls1 := [(2, 69), (0, ((j : Nat) : Int)), (0, 1), (9, 0), (9, 0)]) (r1 := [(0, ((j : Nat) : Int)), (2, 31)]) rfl rfl rfl rfl rfl (K_shown69 (Nat.zero_le _) j 1 wQ hIQ ((eQ 69 0 (by decide) (by decide) (by decide) (by decide)).trans (hK.trans (eQ 96 1 (by decide) (by decide) (by decide) (by decide)).symm)) hEQ) ?_
        rintro _ w7 _ ⟨rfl, hw7, rfl⟩
        rw [hw7, vD_sh hIQ hEQ (by decide) (by omega) hsd, evD]
        show qG none (d + 1) 42 42 [(2, 23), (2, 69), (0, ((D : Nat) : Int)), (0, ((W : Nat) : Int)), (0, ((k : Nat) : Int)), (0, ((j : Nat) : Int))] [(0, vD w 1 j), (0, ((j : Nat) : Int)), (2, 31)] wQ 142 Q9
        refine qG.blk 1 (pc' := 46) (ls' := [(2, 23), (2, 69), (0, ((D : Nat) : Int)), (0, ((W : Nat) : Int)), (0, ((k : Nat) : Int)), (0, ((j : Nat) : Int))]) (st' := [(0, vD w 1 j), (0, ((j : Nat) : Int)), (2, 31)]) (w' := wQ) (n' := 142) rfl ?_
        refine qG.ar (P := 0 ≤ ((j : Nat) : Int) ∧ ((j : Nat) : Int) < ((10 : Nat) : Int)) (P2 := 0 < (31 : Int) ∧ (31 : Int) ≤ ((142 : Nat) : Int)) (pc' := 47) (ls' := [(2, 23), (2, 69), (0, ((D : Nat) : Int)), (0, ((W : Nat) : Int)), (0, ((k : Nat) : Int)), (0, ((j : Nat) : Int))]) (st' := []) (w' := (qup wQ 31 j (vD w 1 j))) (n' := 142) rfl (by omega) (by decide) ?_
        refine qG.blk 1 (pc' := 50) (ls' := [(2, 23), (2, 69), (0, ((D : Nat) : Int)), (0, ((W : Nat) : Int)), (0, ((k : Nat) : Int)), (0, wrp (((j : Nat) : Int) + 1))]) (st' := []) (w' := (qup wQ 31 j (vD w 1 j))) (n' := 142) rfl ?_
        rw [show wrp (((j : Nat) : Int) + 1) = ((j + 1 : Nat) : Int) from wrp_id (by omega) (by omega)]
        refine qG.blk 1 (pc' := 13) (ls' := [(2, 23), (2, 69), (0, ((D : Nat) : Int)), (0, ((W : Nat) : Int)), (0, ((k : Nat) : Int)), (0, ((j + 1 : Nat) : Int))]) (st' := []) (w' := (qup wQ 31 j (vD w 1 j))) (n' := 142) rfl ?_
        exact ih13 _ (by omega) (j + 1) ((qup wQ 31 j (vD w 1 j))) rfl (⟨by omega, zup_a hIQ (b := (0, 65535)) rfl rfl (by rw [← evD]; exact vD_in hIQ hEQ (by decide) (by omega)), fun q k h => by rw [qup_nq h]; exact hQf q k h, fun i hi => by by_cases e : i = j; (rw [e, qup_k]); (rw [qup_j e]; exact hQv i (by omega))⟩)
      · skip
        refine qG.blk 1 (pc' := 46) (ls' := [(2, 23), (2, 69), (0, ((D : Nat) : Int)), (0, ((W : Nat) : Int)), (0, ((k : Nat) : Int)), (0, ((j : Nat) : Int))]) (st' := [(0, 0), (0, ((j : Nat) : Int)), (2, 31)]) (w' := wQ) (n' := 142) rfl ?_
        refine qG.ar (P := 0 ≤ ((j : Nat) : Int) ∧ ((j : Nat) : Int) < ((10 : Nat) : Int)) (P2 := 0 < (31 : Int) ∧ (31 : Int) ≤ ((142 : Nat) : Int)) (pc' := 47) (ls' := [(2, 23), (2, 69), (0, ((D : Nat) : Int)), (0, ((W : Nat) : Int)), (0, ((k : Nat) : Int)), (0, ((j : Nat) : Int))]) (st' := []) (w' := (qup wQ 31 j 0)) (n' := 142) rfl (by omega) (by decide) ?_
        refine qG.blk 1 (pc' := 50) (ls' := [(2, 23), (2, 69), (0, ((D : Nat) : Int)), (0, ((W : Nat) : Int)), (0, ((k : Nat) : Int)), (0, wrp (((j : Nat) : Int) + 1))]) (st' := []) (w' := (qup wQ 31 j 0)) (n' := 142) rfl ?_
        rw [show wrp (((j : Nat) : Int) + 1) = ((j + 1 : Nat) : Int) from wrp_id (by omega) (by omega)]
        refine qG.blk 1 (pc' := 13) (ls' := [(2, 23), (2, 69), (0, ((D : Nat) : Int)), (0, ((W : Nat) : Int)), (0, ((k : Nat) : Int)), (0, ((j + 1 : Nat) : Int))]) (st' := []) (w' := (qup wQ 31 j 0)) (n' := 142) rfl ?_
        exact ih13 _ (by omega) (j + 1) ((qup wQ 31 j 0)) rfl (⟨by omega, zup_a hIQ (b := (0, 65535)) rfl rfl (by exact ⟨by decide, by decide⟩), fun q k h => by rw [qup_nq h]; exact hQf q k h, fun i hi => by by_cases e : i = j; (rw [e, qup_k]; rw [← evD]; unfold vD; rw [if_neg hsd]); (rw [qup_j e]; exact hQv i (by omega))⟩)
    · skip
      refine qG.blk 12 (pc' := 73) (ls' := [(2, 23), (2, 69), (0, ((D : Nat) : Int)), (0, ((W : Nat) : Int)), (0, ((k : Nat) : Int)), (0, ((j : Nat) : Int))]) (st' := []) (w' := (qup (qup (qup (qup wQ 23 7 ((D : Nat) : Int)) 23 8 ((W : Nat) : Int)) 23 13 (-1)) 23 14 0)) (n' := 142) rfl ?_
      refine qG.blk 2 (pc' := 77) (ls' := [(2, 23), (2, 69), (0, ((D : Nat) : Int)), (0, ((W : Nat) : Int)), (0, ((k : Nat) : Int)), (0, ((j : Nat) : Int))]) (st' := [(2, wQ 23 0)]) (w' := (qup (qup (qup (qup wQ 23 7 ((D : Nat) : Int)) 23 8 ((W : Nat) : Int)) 23 13 (-1)) 23 14 0)) (n' := 142) rfl ?_
      rw [show wQ 23 0 = 24 from (hQf 23 0 (by decide)).trans ((eF 23 0 (by decide) (by decide) (by decide)).trans (zref hI rfl rfl))]
      refine qG.blk 3 (pc' := 82) (ls' := [(2, 23), (2, 69), (0, ((D : Nat) : Int)), (0, ((W : Nat) : Int)), (0, ((k : Nat) : Int)), (0, ((j : Nat) : Int))]) (st' := [(2, wQ 23 11), (0, 0), (2, 24)]) (w' := (qup (qup (qup (qup wQ 23 7 ((D : Nat) : Int)) 23 8 ((W : Nat) : Int)) 23 13 (-1)) 23 14 0)) (n' := 142) rfl ?_
      rw [show wQ 23 11 = 33 from (hQf 23 11 (by decide)).trans ((eF 23 11 (by decide) (by decide) (by decide)).trans (zref hI rfl rfl))]
      refine qG.blk 1 (pc' := 83) (ls' := [(2, 23), (2, 69), (0, ((D : Nat) : Int)), (0, ((W : Nat) : Int)), (0, ((k : Nat) : Int)), (0, ((j : Nat) : Int))]) (st' := [(0, 0), (2, 33), (0, 0), (2, 24)]) (w' := (qup (qup (qup (qup wQ 23 7 ((D : Nat) : Int)) 23 8 ((W : Nat) : Int)) 23 13 (-1)) 23 14 0)) (n' := 142) rfl ?_
      refine qG.ar (P := 0 ≤ 0 ∧ 0 < ((5 : Nat) : Int)) (P2 := 0 < (33 : Int) ∧ (33 : Int) ≤ ((142 : Nat) : Int)) (pc' := 84) (ls' := [(2, 23), (2, 69), (0, ((D : Nat) : Int)), (0, ((W : Nat) : Int)), (0, ((k : Nat) : Int)), (0, ((j : Nat) : Int))]) (st' := [(2, wQ 33 0), (0, 0), (2, 24)]) (w' := (qup (qup (qup (qup wQ 23 7 ((D : Nat) : Int)) 23 8 ((W : Nat) : Int)) 23 13 (-1)) 23 14 0)) (n' := 142) rfl (by omega) (by decide) ?_
      rw [show wQ 33 0 = 34 from (hQf 33 0 (by decide)).trans ((eF 33 0 (by decide) (by decide) (by decide)).trans (zref hI rfl rfl))]
      obtain ⟨wS, hwS⟩ : ∃ z : qW, z = (qup (qup (qup (qup wQ 23 7 ((D : Nat) : Int)) 23 8 ((W : Nat) : Int)) 23 13 (-1)) 23 14 0) := ⟨_, rfl⟩
      rw [← hwS]
      have hIS : yInv zgf zga zra zSp wS := by rw [hwS]; exact zup_f (zup_f (zup_f (zup_f hIQ (b := (0, 1023)) rfl rfl rfl ⟨by show (0 : Int) ≤ _; omega, by show _ ≤ (1023 : Int); omega⟩) (b := (0, 5)) rfl rfl rfl ⟨by show (0 : Int) ≤ _; omega, by show _ ≤ (5 : Int); omega⟩) (b := (-1, 4)) rfl rfl rfl ⟨by decide, by decide⟩) (b := (0, 65535)) rfl rfl rfl ⟨by decide, by decide⟩
      have hSf : ∀ q k, q ≠ 23 ∨ k < 7 ∨ (8 < k ∧ k ≤ 12) → wS q k = wQ q k := fun q k h => by rw [hwS, qup_f (by omega), qup_f (by omega), qup_f (by omega), qup_f (by omega)]
      have hTS : CTB (pzN w 1 k) (pzP w 1 k) (pzM w 1 k) wS := hTF.cg (fun q k h => (hSf q k (by omega)).trans (hQf q k (by omega)))
      refine qG.call (t := 103) (na := 3) (sk := 1) (md := 1) (ls1 := [(2, 24), (0, 0), (2, 34), (9, 0), (9, 0)]) (r1 := []) rfl rfl rfl rfl rfl (K_unseen34 (by omega) 0 _ hTS.1 wS hIS hTS.2.1) ?_
      rintro _ wV _ ⟨rfl, rfl, hRV⟩
      have hIV := hRV.2.2
      have hVf : ∀ q k, q ≠ 34 → wV q k = wS q k := fun q k h => hRV.2.1 q k h
      have hTV := hTS.cg (w1 := wV) (fun q k h => hVf q k (by omega))
      have hH : HOLD wV 34 (hz (pzN w 1 k) (pzP w 1 k) (pzM w 1 k) (fun t => siF w 1 kR (nR (fun _ => 0) (W : Int)) (4 * 0) t) (scF kR (nR (fun _ => 0) (W : Int)) (4 * 0))) := fun j hj => by rw [show sb wV 34 j = (decide (j < pzN w 1 k) && decide (qand (wS 25 j) 0 = 0)) from hRV.1 j hj, qand_z0, decide_eq_true rfl, Bool.and_true]; rfl
      have h7 : wV 23 7 = (D : Int) := (hVf 23 7 (by decide)).trans (by rw [hwS, qup_j (by decide), qup_j (by decide), qup_j (by decide), qup_k])
      have h8 : wV 23 8 = (W : Int) := (hVf 23 8 (by decide)).trans (by rw [hwS, qup_j (by decide), qup_j (by decide), qup_k])
      have h13 : wV 23 13 = -1 := (hVf 23 13 (by decide)).trans (by rw [hwS, qup_j (by decide), qup_k])
      have h14 : wV 23 14 = 0 := (hVf 23 14 (by decide)).trans (by rw [hwS, qup_k])
      have hC0 : OCs wV (-1, 0, fun _ => 0) := ⟨h13, h14, fun k hk => by have hk : (k : Int) < -1 := hk; omega⟩
      have hOV : OW (pzN w 1 k) (pzP w 1 k) (pzM w 1 k) D W (fun j => vD w 1 j) wV := ⟨hTV, h7, h8, fun i hi => (hVf 31 i (by decide)).trans ((hSf 31 i (by omega)).trans (hQv i (by omega)))⟩
      show qG none (d + 1) 42 87 [(2, 23), (2, 69), (0, ((D : Nat) : Int)), (0, ((W : Nat) : Int)), (0, ((k : Nat) : Int)), (0, ((j : Nat) : Int))] [] wV 142 Q9
      refine qG.blk 2 (pc' := 91) (ls' := [(2, 23), (2, 69), (0, ((D : Nat) : Int)), (0, ((W : Nat) : Int)), (0, ((k : Nat) : Int)), (0, ((j : Nat) : Int))]) (st' := [(2, wV 23 11)]) (w' := wV) (n' := 142) rfl ?_
      rw [show wV 23 11 = 33 from (hVf 23 11 (by decide)).trans ((hSf 23 11 (by decide)).trans ((hQf 23 11 (by decide)).trans ((eF 23 11 (by decide) (by decide) (by decide)).trans (zref hI rfl rfl))))]
      refine qG.blk 1 (pc' := 92) (ls' := [(2, 23), (2, 69), (0, ((D : Nat) : Int)), (0, ((W : Nat) : Int)), (0, ((k : Nat) : Int)), (0, ((j : Nat) : Int))]) (st' := [(0, 0), (2, 33)]) (w' := wV) (n' := 142) rfl ?_
      refine qG.ar (P := 0 ≤ 0 ∧ 0 < ((5 : Nat) : Int)) (P2 := 0 < (33 : Int) ∧ (33 : Int) ≤ ((142 : Nat) : Int)) (pc' := 93) (ls' := [(2, 23), (2, 69), (0, ((D : Nat) : Int)), (0, ((W : Nat) : Int)), (0, ((k : Nat) : Int)), (0, ((j : Nat) : Int))]) (st' := [(2, wV 33 0)]) (w' := wV) (n' := 142) rfl (by omega) (by decide) ?_
      rw [show wV 33 0 = 34 from (hVf 33 0 (by decide)).trans ((hSf 33 0 (by decide)).trans ((hQf 33 0 (by decide)).trans ((eF 33 0 (by decide) (by decide) (by decide)).trans (zref hI rfl rfl))))]
      refine qG.call (t := 51) (na := 1) (sk := 0) (md := 0) (ls1 := [(2, 34)]) (r1 := []) rfl rfl rfl rfl rfl (K_isEmpty34 (by omega) wV) ?_
      rintro _ w7 _ ⟨rfl, hw7, rfl⟩
      rw [hw7]
      show qG none (d + 1) 42 96 [(2, 23), (2, 69), (0, ((D : Nat) : Int)), (0, ((W : Nat) : Int)), (0, ((k : Nat) : Int)), (0, ((j : Nat) : Int))] [(0, (if ctb (fun j => sb wV 34 j) 192 = 0 then 1 else 0))] wV 142 Q9
      refine qG.br (P := (if ctb (fun j => sb wV 34 j) 192 = 0 then 1 else 0) = 0) (pc1 := 99) (pc2 := 106) (st1 := []) rfl (fun hem0 => ?_) (fun hem0 => ?_)
      · skip
        have hem : ¬ ctb (fun j => sb wV 34 j) 192 = 0 := fun z => by rw [if_pos z] at hem0; cases hem0
        refine qG.blk 4 (pc' := 103) (ls' := [(2, 23), (2, 69), (0, ((D : Nat) : Int)), (0, ((W : Nat) : Int)), (0, ((k : Nat) : Int)), (0, ((j : Nat) : Int))]) (st' := [(0, 0), (0, 0), (0, 0), (2, 23)]) (w' := wV) (n' := 142) rfl ?_
        have hok0 : (okO (pzN w 1 k) (pzP w 1 k) (pzM w 1 k) w 1 (W : Int)) 0 (fun _ => 0) = true := by
          cases q : (okO (pzN w 1 k) (pzP w 1 k) (pzM w 1 k) w 1 (W : Int)) 0 (fun _ => 0) with
          | true => rfl
          | false =>
            have z := okO_no.mp q
            exact absurd (ctb_0.mpr (fun j hj => (hH j hj).trans (z j))) hem
        refine qG.call (t := 44) (na := 4) (sk := 1) (md := 1) (ls1 := [(2, 23), (0, 0), (0, 0), (0, 0), (9, 0)]) (r1 := []) rfl rfl rfl rfl rfl ((TRC_0 w 1 (pzN w 1 k) (pzP w 1 k) (pzM w 1 k) D W hD hW (fun _ _ => pzM_rf) (fun j hj => vD_in hI hE (by decide) hj) d wV (fun _ => 0) 0 (-1, 0, fun _ => 0) 0 (by omega) hIV hOV (fun k hk => absurd hk (Nat.not_lt_zero k)) (fun k hk => absurd hk (Nat.not_lt_zero k)) (by decide) (by omega) rfl ⟨by decide, by decide⟩ hH hok0 hC0 : qG none d 44 0 [(2, 23), (0, 0), (0, 0), (0, 0), (9, 0)] [] wV 142 _)) ?_
        rintro _ wR _ ⟨rfl, rfl, hIR, -, hCR⟩
        show qG none (d + 1) 42 106 [(2, 23), (2, 69), (0, ((D : Nat) : Int)), (0, ((W : Nat) : Int)), (0, ((k : Nat) : Int)), (0, ((j : Nat) : Int))] [] wR 142 Q9
        refine qG.retv rfl rfl ?_
        subst hQ9
        exact ⟨rfl, rfl, hIR, hCR⟩
      · skip
        have hem : ctb (fun j => sb wV 34 j) 192 = 0 := Decidable.of_not_not (fun z => hem0 (if_neg z))
        refine qG.retv rfl rfl ?_
        subst hQ9
        have hno : (okO (pzN w 1 k) (pzP w 1 k) (pzM w 1 k) w 1 (W : Int)) 0 (fun _ => 0) = false := okO_no.mpr (fun j => if y : j < 192 then (hH j y).symm.trans (ctb_0.mp hem j y) else hz_N (by have := hTV.1; omega))
        refine ⟨rfl, rfl, hIV, ?_⟩
        unfold odS
        rw [XPo_no (fun n r j h => okO_x n r j h) _ _ _ _ _ hno]
        exact hC0
  exact L13 _ (0) (wF) rfl (⟨Nat.zero_le _, hIF, fun _ _ _ => rfl, fun i hi => absurd hi (Nat.not_lt_zero i)⟩)
theorem K_findRow74 {d : Nat} (hd : 32 ≤ d) (k : Nat) (hk1 : 1 ≤ k) (hk2 : k ≤ 4) (D W : Nat) (hD : D < 1024) (hW : 1 ≤ W ∧ W ≤ 5) (hpc : pc (trX D 0) 10 ≤ 4) (n : Nat) (w : qW) (hI : yInv zgf zga zra zSp w) (hJ : J9 n w) (hK : w 74 0 = w 96 2) (hE : JE w) : qG none d 42 0 [(2, 23), (2, 74), (0, ((D : Nat) : Int)), (0, ((W : Nat) : Int)), (0, ((k : Nat) : Int)), (9, 0)] [] w 142 (fun (r : qV) (w1 : qW) (n1 : Nat) => r = (9, 0) ∧ n1 = 142 ∧ yInv zgf zga zra zSp w1 ∧ OCs w1 (odS w 2 D (W : Int) k)) := by
  generalize hQ9 : (fun (r : qV) (w1 : qW) (n1 : Nat) => r = (9, 0) ∧ n1 = 142 ∧ yInv zgf zga zra zSp w1 ∧ OCs w1 (odS w 2 D (W : Int) k)) = Q9
  obtain ⟨d, rfl⟩ : ∃ d9, d = d9 + 1 := ⟨d - 1, by omega⟩
  refine qG.blk 2 (pc' := 4) (ls' := [(2, 23), (2, 74), (0, ((D : Nat) : Int)), (0, ((W : Nat) : Int)), (0, ((k : Nat) : Int)), (9, 0)]) (st' := [(2, w 23 0)]) (w' := w) (n' := 142) rfl ?_
  rw [show w 23 0 = 24 from zref hI rfl rfl]
  refine qG.blk 2 (pc' := 7) (ls' := [(2, 23), (2, 74), (0, ((D : Nat) : Int)), (0, ((W : Nat) : Int)), (0, ((k : Nat) : Int)), (9, 0)]) (st' := [(0, ((k : Nat) : Int)), (2, 74), (2, 24)]) (w' := w) (n' := 142) rfl ?_
  refine qG.call (t := 94) (na := 3) (sk := 1) (md := 1) (ls1 := [(2, 24), (2, 74), (0, ((k : Nat) : Int))]) (r1 := []) rfl rfl rfl rfl rfl (qG.and (T_findFor_74 (w0 := w) d [(2, 24), (2, 74), (0, ((k : Nat) : Int))] w (show C_findFor_74.2.1 ≤ d by exact Nat.le_trans (show C_findFor_74.2.1 ≤ 7 by decide) (by omega)) ⟨⟨rfl, by decide, by decide⟩, ⟨rfl, by decide, by decide⟩, ⟨rfl, by show (1 : Int) ≤ _; omega, by show _ ≤ (4 : Int); omega⟩, trivial⟩ hI (fun p hp => by cases hp) (fun e he => by cases he)) (K_findForC74 (by omega) k hk1 hk2 n w hI hJ)) ?_
  rintro _ wF _ ⟨⟨-, hIF, -, -, -⟩, rfl, rfl, hF⟩
  obtain ⟨f0, f1, f2, hTX, hfr⟩ := hF
  have eF : ∀ q j, q ≠ 24 → q ≠ 25 → q ≠ 26 → wF q j = w q j := fun q j a b e => hfr q j (fun z => a z.1) b e
  obtain ⟨z1, z2, z3⟩ := pz_cg (w := w) (w1 := wF) (fun i => eF 96 i (by decide) (by decide) (by decide)) (fun i => eF 99 i (by decide) (by decide) (by decide)) 2 k
  have hTF : CTB (pzN w 2 k) (pzP w 2 k) (pzM w 2 k) wF := by have z := hTX.ctb hk1 hk2; rw [z1, z2, z3] at z; exact z
  show qG none (d + 1) 42 10 [(2, 23), (2, 74), (0, ((D : Nat) : Int)), (0, ((W : Nat) : Int)), (0, ((k : Nat) : Int)), (9, 0)] [] wF 142 Q9
  refine qG.blk 2 (pc' := 13) (ls' := [(2, 23), (2, 74), (0, ((D : Nat) : Int)), (0, ((W : Nat) : Int)), (0, ((k : Nat) : Int)), (0, 0)]) (st' := []) (w' := wF) (n' := 142) rfl ?_
  have L13 : ∀ (m9 : Nat) (j : Nat) (wQ : qW), 10 - j = m9 → (j ≤ 10 ∧ yInv zgf zga zra zSp wQ ∧ (∀ q k, q ≠ 31 → wQ q k = wF q k) ∧ ∀ i, i < j → wQ 31 i = vD w 2 i) → qG none (d + 1) 42 13 [(2, 23), (2, 74), (0, ((D : Nat) : Int)), (0, ((W : Nat) : Int)), (0, ((k : Nat) : Int)), (0, ((j : Nat) : Int))] [] wQ 142 Q9 := by
    intro m9
    induction m9 using Nat.strongRecOn with
    | ind m9 ih13 =>
    intro j wQ hm13 hI13
    obtain ⟨hj10, hIQ, hQf, hQv⟩ := hI13
    have eQ : ∀ q k, q ≠ 31 → q ≠ 24 → q ≠ 25 → q ≠ 26 → wQ q k = w q k := fun q k a1 a2 a3 a4 => (hQf q k a1).trans (eF q k a2 a3 a4)
    have hEQ : JE wQ := hE.cg9 (fun q k h => eQ q k (by omega) (by omega) (by omega) (by omega))
    have evD : ∀ d, vD wQ 2 d = vD w 2 d := vD_cg (fun i => eQ 96 i (by decide) (by decide) (by decide) (by decide)) (fun i => eQ 97 i (by decide) (by decide) (by decide) (by decide)) (fun i => eQ 98 i (by decide) (by decide) (by decide) (by decide)) (fun i => eQ 100 i (by decide) (by decide) (by decide) (by decide)) 2
    refine qG.blk 2 (pc' := 17) (ls' := [(2, 23), (2, 74), (0, ((D : Nat) : Int)), (0, ((W : Nat) : Int)), (0, ((k : Nat) : Int)), (0, ((j : Nat) : Int))]) (st' := [(0, 10), (0, ((j : Nat) : Int))]) (w' := wQ) (n' := 142) rfl ?_
    refine qG.br (P := ((j : Nat) : Int) < 10) (pc1 := 20) (pc2 := 53) (st1 := []) rfl (fun h1 => ?_) (fun h1 => ?_)
    · skip
      refine qG.blk 2 (pc' := 24) (ls' := [(2, 23), (2, 74), (0, ((D : Nat) : Int)), (0, ((W : Nat) : Int)), (0, ((k : Nat) : Int)), (0, ((j : Nat) : Int))]) (st' := [(2, wQ 23 9)]) (w' := wQ) (n' := 142) rfl ?_
      rw [show wQ 23 9 = 31 from (hQf 23 9 (by decide)).trans ((eF 23 9 (by decide) (by decide) (by decide)).trans (zref hI rfl rfl))]
      refine qG.blk 3 (pc' := 29) (ls' := [(2, 23), (2, 74), (0, ((D : Nat) : Int)), (0, ((W : Nat) : Int)), (0, ((k : Nat) : Int)), (0, ((j : Nat) : Int))]) (st' := [(0, ((j : Nat) : Int)), (2, 74), (0, ((j : Nat) : Int)), (2, 31)]) (w' := wQ) (n' := 142) rfl ?_
      refine qG.call (t := 26) (na := 2) (sk := 1) (md := 1) (ls1 := [(2, 74), (0, ((j : Nat) : Int))]) (r1 := [(0, ((j : Nat) : Int)), (2, 31)]) rfl rfl rfl rfl rfl (K_sideOf74 (Nat.zero_le _) j (by omega) wQ hIQ hEQ) ?_
      rintro _ w7 _ ⟨rfl, hw7, rfl⟩
      rw [hw7]
      show qG none (d + 1) 42 32 [(2, 23), (2, 74), (0, ((D : Nat) : Int)), (0, ((W : Nat) : Int)), (0, ((k : Nat) : Int)), (0, ((j : Nat) : Int))] [(0, wQ 97 (10 * 2 + j)), (0, ((j : Nat) : Int)), (2, 31)] wQ 142 Q9
      refine qG.br (P := wQ 97 (10 * 2 + j) = 0) (pc1 := 35) (pc2 := 45) (st1 := [(0, ((j : Nat) : Int)), (2, 31)]) rfl (fun hsd => ?_) (fun hsd => ?_)
      · skip
        refine qG.blk 3 (pc' := 39) (ls' := [(2, 23), (2, 74), (0, ((D : Nat) : Int)), (0, ((W : Nat) : Int)), (0, ((k : Nat) : Int)), (0, ((j : Nat) : Int))]) (st' := [(0, 1), (0, ((j : Nat) : Int)), (2, 74), (0, ((j : Nat) : Int)), (2, 31)]) (w' := wQ) (n' := 142) rfl ?_
        refine qG.call (t := 27) (na := 3) (sk := 1) (md := 1) (ls1 := [(2, 74), (0, ((j : Nat) : Int)), (0, 1), (9, 0), (9, 0)]) (r1 := [(0, ((j : Nat) : Int)), (2, 31)]) rfl rfl rfl rfl rfl (K_shown74 (Nat.zero_le _) j 1 wQ hIQ ((eQ 74 0 (by decide) (by decide) (by decide) (by decide)).trans (hK.trans (eQ 96 2 (by decide) (by decide) (by decide) (by decide)).symm)) hEQ) ?_
        rintro _ w7 _ ⟨rfl, hw7, rfl⟩
        rw [hw7, vD_sh hIQ hEQ (by decide) (by omega) hsd, evD]
        show qG none (d + 1) 42 42 [(2, 23), (2, 74), (0, ((D : Nat) : Int)), (0, ((W : Nat) : Int)), (0, ((k : Nat) : Int)), (0, ((j : Nat) : Int))] [(0, vD w 2 j), (0, ((j : Nat) : Int)), (2, 31)] wQ 142 Q9
        refine qG.blk 1 (pc' := 46) (ls' := [(2, 23), (2, 74), (0, ((D : Nat) : Int)), (0, ((W : Nat) : Int)), (0, ((k : Nat) : Int)), (0, ((j : Nat) : Int))]) (st' := [(0, vD w 2 j), (0, ((j : Nat) : Int)), (2, 31)]) (w' := wQ) (n' := 142) rfl ?_
        refine qG.ar (P := 0 ≤ ((j : Nat) : Int) ∧ ((j : Nat) : Int) < ((10 : Nat) : Int)) (P2 := 0 < (31 : Int) ∧ (31 : Int) ≤ ((142 : Nat) : Int)) (pc' := 47) (ls' := [(2, 23), (2, 74), (0, ((D : Nat) : Int)), (0, ((W : Nat) : Int)), (0, ((k : Nat) : Int)), (0, ((j : Nat) : Int))]) (st' := []) (w' := (qup wQ 31 j (vD w 2 j))) (n' := 142) rfl (by omega) (by decide) ?_
        refine qG.blk 1 (pc' := 50) (ls' := [(2, 23), (2, 74), (0, ((D : Nat) : Int)), (0, ((W : Nat) : Int)), (0, ((k : Nat) : Int)), (0, wrp (((j : Nat) : Int) + 1))]) (st' := []) (w' := (qup wQ 31 j (vD w 2 j))) (n' := 142) rfl ?_
        rw [show wrp (((j : Nat) : Int) + 1) = ((j + 1 : Nat) : Int) from wrp_id (by omega) (by omega)]
        refine qG.blk 1 (pc' := 13) (ls' := [(2, 23), (2, 74), (0, ((D : Nat) : Int)), (0, ((W : Nat) : Int)), (0, ((k : Nat) : Int)), (0, ((j + 1 : Nat) : Int))]) (st' := []) (w' := (qup wQ 31 j (vD w 2 j))) (n' := 142) rfl ?_
        exact ih13 _ (by omega) (j + 1) ((qup wQ 31 j (vD w 2 j))) rfl (⟨by omega, zup_a hIQ (b := (0, 65535)) rfl rfl (by rw [← evD]; exact vD_in hIQ hEQ (by decide) (by omega)), fun q k h => by rw [qup_nq h]; exact hQf q k h, fun i hi => by by_cases e : i = j; (rw [e, qup_k]); (rw [qup_j e]; exact hQv i (by omega))⟩)
      · skip
        refine qG.blk 1 (pc' := 46) (ls' := [(2, 23), (2, 74), (0, ((D : Nat) : Int)), (0, ((W : Nat) : Int)), (0, ((k : Nat) : Int)), (0, ((j : Nat) : Int))]) (st' := [(0, 0), (0, ((j : Nat) : Int)), (2, 31)]) (w' := wQ) (n' := 142) rfl ?_
        refine qG.ar (P := 0 ≤ ((j : Nat) : Int) ∧ ((j : Nat) : Int) < ((10 : Nat) : Int)) (P2 := 0 < (31 : Int) ∧ (31 : Int) ≤ ((142 : Nat) : Int)) (pc' := 47) (ls' := [(2, 23), (2, 74), (0, ((D : Nat) : Int)), (0, ((W : Nat) : Int)), (0, ((k : Nat) : Int)), (0, ((j : Nat) : Int))]) (st' := []) (w' := (qup wQ 31 j 0)) (n' := 142) rfl (by omega) (by decide) ?_
        refine qG.blk 1 (pc' := 50) (ls' := [(2, 23), (2, 74), (0, ((D : Nat) : Int)), (0, ((W : Nat) : Int)), (0, ((k : Nat) : Int)), (0, wrp (((j : Nat) : Int) + 1))]) (st' := []) (w' := (qup wQ 31 j 0)) (n' := 142) rfl ?_
        rw [show wrp (((j : Nat) : Int) + 1) = ((j + 1 : Nat) : Int) from wrp_id (by omega) (by omega)]
        refine qG.blk 1 (pc' := 13) (ls' := [(2, 23), (2, 74), (0, ((D : Nat) : Int)), (0, ((W : Nat) : Int)), (0, ((k : Nat) : Int)), (0, ((j + 1 : Nat) : Int))]) (st' := []) (w' := (qup wQ 31 j 0)) (n' := 142) rfl ?_
        exact ih13 _ (by omega) (j + 1) ((qup wQ 31 j 0)) rfl (⟨by omega, zup_a hIQ (b := (0, 65535)) rfl rfl (by exact ⟨by decide, by decide⟩), fun q k h => by rw [qup_nq h]; exact hQf q k h, fun i hi => by by_cases e : i = j; (rw [e, qup_k]; rw [← evD]; unfold vD; rw [if_neg hsd]); (rw [qup_j e]; exact hQv i (by omega))⟩)
    · skip
      refine qG.blk 12 (pc' := 73) (ls' := [(2, 23), (2, 74), (0, ((D : Nat) : Int)), (0, ((W : Nat) : Int)), (0, ((k : Nat) : Int)), (0, ((j : Nat) : Int))]) (st' := []) (w' := (qup (qup (qup (qup wQ 23 7 ((D : Nat) : Int)) 23 8 ((W : Nat) : Int)) 23 13 (-1)) 23 14 0)) (n' := 142) rfl ?_
      refine qG.blk 2 (pc' := 77) (ls' := [(2, 23), (2, 74), (0, ((D : Nat) : Int)), (0, ((W : Nat) : Int)), (0, ((k : Nat) : Int)), (0, ((j : Nat) : Int))]) (st' := [(2, wQ 23 0)]) (w' := (qup (qup (qup (qup wQ 23 7 ((D : Nat) : Int)) 23 8 ((W : Nat) : Int)) 23 13 (-1)) 23 14 0)) (n' := 142) rfl ?_
      rw [show wQ 23 0 = 24 from (hQf 23 0 (by decide)).trans ((eF 23 0 (by decide) (by decide) (by decide)).trans (zref hI rfl rfl))]
      refine qG.blk 3 (pc' := 82) (ls' := [(2, 23), (2, 74), (0, ((D : Nat) : Int)), (0, ((W : Nat) : Int)), (0, ((k : Nat) : Int)), (0, ((j : Nat) : Int))]) (st' := [(2, wQ 23 11), (0, 0), (2, 24)]) (w' := (qup (qup (qup (qup wQ 23 7 ((D : Nat) : Int)) 23 8 ((W : Nat) : Int)) 23 13 (-1)) 23 14 0)) (n' := 142) rfl ?_
      rw [show wQ 23 11 = 33 from (hQf 23 11 (by decide)).trans ((eF 23 11 (by decide) (by decide) (by decide)).trans (zref hI rfl rfl))]
      refine qG.blk 1 (pc' := 83) (ls' := [(2, 23), (2, 74), (0, ((D : Nat) : Int)), (0, ((W : Nat) : Int)), (0, ((k : Nat) : Int)), (0, ((j : Nat) : Int))]) (st' := [(0, 0), (2, 33), (0, 0), (2, 24)]) (w' := (qup (qup (qup (qup wQ 23 7 ((D : Nat) : Int)) 23 8 ((W : Nat) : Int)) 23 13 (-1)) 23 14 0)) (n' := 142) rfl ?_
      refine qG.ar (P := 0 ≤ 0 ∧ 0 < ((5 : Nat) : Int)) (P2 := 0 < (33 : Int) ∧ (33 : Int) ≤ ((142 : Nat) : Int)) (pc' := 84) (ls' := [(2, 23), (2, 74), (0, ((D : Nat) : Int)), (0, ((W : Nat) : Int)), (0, ((k : Nat) : Int)), (0, ((j : Nat) : Int))]) (st' := [(2, wQ 33 0), (0, 0), (2, 24)]) (w' := (qup (qup (qup (qup wQ 23 7 ((D : Nat) : Int)) 23 8 ((W : Nat) : Int)) 23 13 (-1)) 23 14 0)) (n' := 142) rfl (by omega) (by decide) ?_
      rw [show wQ 33 0 = 34 from (hQf 33 0 (by decide)).trans ((eF 33 0 (by decide) (by decide) (by decide)).trans (zref hI rfl rfl))]
      obtain ⟨wS, hwS⟩ : ∃ z : qW, z = (qup (qup (qup (qup wQ 23 7 ((D : Nat) : Int)) 23 8 ((W : Nat) : Int)) 23 13 (-1)) 23 14 0) := ⟨_, rfl⟩
      rw [← hwS]
      have hIS : yInv zgf zga zra zSp wS := by rw [hwS]; exact zup_f (zup_f (zup_f (zup_f hIQ (b := (0, 1023)) rfl rfl rfl ⟨by show (0 : Int) ≤ _; omega, by show _ ≤ (1023 : Int); omega⟩) (b := (0, 5)) rfl rfl rfl ⟨by show (0 : Int) ≤ _; omega, by show _ ≤ (5 : Int); omega⟩) (b := (-1, 4)) rfl rfl rfl ⟨by decide, by decide⟩) (b := (0, 65535)) rfl rfl rfl ⟨by decide, by decide⟩
      have hSf : ∀ q k, q ≠ 23 ∨ k < 7 ∨ (8 < k ∧ k ≤ 12) → wS q k = wQ q k := fun q k h => by rw [hwS, qup_f (by omega), qup_f (by omega), qup_f (by omega), qup_f (by omega)]
      have hTS : CTB (pzN w 2 k) (pzP w 2 k) (pzM w 2 k) wS := hTF.cg (fun q k h => (hSf q k (by omega)).trans (hQf q k (by omega)))
      refine qG.call (t := 103) (na := 3) (sk := 1) (md := 1) (ls1 := [(2, 24), (0, 0), (2, 34), (9, 0), (9, 0)]) (r1 := []) rfl rfl rfl rfl rfl (K_unseen34 (by omega) 0 _ hTS.1 wS hIS hTS.2.1) ?_
      rintro _ wV _ ⟨rfl, rfl, hRV⟩
      have hIV := hRV.2.2
      have hVf : ∀ q k, q ≠ 34 → wV q k = wS q k := fun q k h => hRV.2.1 q k h
      have hTV := hTS.cg (w1 := wV) (fun q k h => hVf q k (by omega))
      have hH : HOLD wV 34 (hz (pzN w 2 k) (pzP w 2 k) (pzM w 2 k) (fun t => siF w 2 kR (nR (fun _ => 0) (W : Int)) (4 * 0) t) (scF kR (nR (fun _ => 0) (W : Int)) (4 * 0))) := fun j hj => by rw [show sb wV 34 j = (decide (j < pzN w 2 k) && decide (qand (wS 25 j) 0 = 0)) from hRV.1 j hj, qand_z0, decide_eq_true rfl, Bool.and_true]; rfl
      have h7 : wV 23 7 = (D : Int) := (hVf 23 7 (by decide)).trans (by rw [hwS, qup_j (by decide), qup_j (by decide), qup_j (by decide), qup_k])
      have h8 : wV 23 8 = (W : Int) := (hVf 23 8 (by decide)).trans (by rw [hwS, qup_j (by decide), qup_j (by decide), qup_k])
      have h13 : wV 23 13 = -1 := (hVf 23 13 (by decide)).trans (by rw [hwS, qup_j (by decide), qup_k])
      have h14 : wV 23 14 = 0 := (hVf 23 14 (by decide)).trans (by rw [hwS, qup_k])
      have hC0 : OCs wV (-1, 0, fun _ => 0) := ⟨h13, h14, fun k hk => by have hk : (k : Int) < -1 := hk; omega⟩
      have hOV : OW (pzN w 2 k) (pzP w 2 k) (pzM w 2 k) D W (fun j => vD w 2 j) wV := ⟨hTV, h7, h8, fun i hi => (hVf 31 i (by decide)).trans ((hSf 31 i (by omega)).trans (hQv i (by omega)))⟩
      show qG none (d + 1) 42 87 [(2, 23), (2, 74), (0, ((D : Nat) : Int)), (0, ((W : Nat) : Int)), (0, ((k : Nat) : Int)), (0, ((j : Nat) : Int))] [] wV 142 Q9
      refine qG.blk 2 (pc' := 91) (ls' := [(2, 23), (2, 74), (0, ((D : Nat) : Int)), (0, ((W : Nat) : Int)), (0, ((k : Nat) : Int)), (0, ((j : Nat) : Int))]) (st' := [(2, wV 23 11)]) (w' := wV) (n' := 142) rfl ?_
      rw [show wV 23 11 = 33 from (hVf 23 11 (by decide)).trans ((hSf 23 11 (by decide)).trans ((hQf 23 11 (by decide)).trans ((eF 23 11 (by decide) (by decide) (by decide)).trans (zref hI rfl rfl))))]
      refine qG.blk 1 (pc' := 92) (ls' := [(2, 23), (2, 74), (0, ((D : Nat) : Int)), (0, ((W : Nat) : Int)), (0, ((k : Nat) : Int)), (0, ((j : Nat) : Int))]) (st' := [(0, 0), (2, 33)]) (w' := wV) (n' := 142) rfl ?_
      refine qG.ar (P := 0 ≤ 0 ∧ 0 < ((5 : Nat) : Int)) (P2 := 0 < (33 : Int) ∧ (33 : Int) ≤ ((142 : Nat) : Int)) (pc' := 93) (ls' := [(2, 23), (2, 74), (0, ((D : Nat) : Int)), (0, ((W : Nat) : Int)), (0, ((k : Nat) : Int)), (0, ((j : Nat) : Int))]) (st' := [(2, wV 33 0)]) (w' := wV) (n' := 142) rfl (by omega) (by decide) ?_
      rw [show wV 33 0 = 34 from (hVf 33 0 (by decide)).trans ((hSf 33 0 (by decide)).trans ((hQf 33 0 (by decide)).trans ((eF 33 0 (by decide) (by decide) (by decide)).trans (zref hI rfl rfl))))]
      refine qG.call (t := 51) (na := 1) (sk := 0) (md := 0) (ls1 := [(2, 34)]) (r1 := []) rfl rfl rfl rfl rfl (K_isEmpty34 (by omega) wV) ?_
      rintro _ w7 _ ⟨rfl, hw7, rfl⟩
      rw [hw7]
      show qG none (d + 1) 42 96 [(2, 23), (2, 74), (0, ((D : Nat) : Int)), (0, ((W : Nat) : Int)), (0, ((k : Nat) : Int)), (0, ((j : Nat) : Int))] [(0, (if ctb (fun j => sb wV 34 j) 192 = 0 then 1 else 0))] wV 142 Q9
      refine qG.br (P := (if ctb (fun j => sb wV 34 j) 192 = 0 then 1 else 0) = 0) (pc1 := 99) (pc2 := 106) (st1 := []) rfl (fun hem0 => ?_) (fun hem0 => ?_)
      · skip
        have hem : ¬ ctb (fun j => sb wV 34 j) 192 = 0 := fun z => by rw [if_pos z] at hem0; cases hem0
        refine qG.blk 4 (pc' := 103) (ls' := [(2, 23), (2, 74), (0, ((D : Nat) : Int)), (0, ((W : Nat) : Int)), (0, ((k : Nat) : Int)), (0, ((j : Nat) : Int))]) (st' := [(0, 0), (0, 0), (0, 0), (2, 23)]) (w' := wV) (n' := 142) rfl ?_
        have hok0 : (okO (pzN w 2 k) (pzP w 2 k) (pzM w 2 k) w 2 (W : Int)) 0 (fun _ => 0) = true := by
          cases q : (okO (pzN w 2 k) (pzP w 2 k) (pzM w 2 k) w 2 (W : Int)) 0 (fun _ => 0) with
          | true => rfl
          | false =>
            have z := okO_no.mp q
            exact absurd (ctb_0.mpr (fun j hj => (hH j hj).trans (z j))) hem
        refine qG.call (t := 44) (na := 4) (sk := 1) (md := 1) (ls1 := [(2, 23), (0, 0), (0, 0), (0, 0), (9, 0)]) (r1 := []) rfl rfl rfl rfl rfl ((TRC_0 w 2 (pzN w 2 k) (pzP w 2 k) (pzM w 2 k) D W hD hW (fun _ _ => pzM_rf) (fun j hj => vD_in hI hE (by decide) hj) d wV (fun _ => 0) 0 (-1, 0, fun _ => 0) 0 (by omega) hIV hOV (fun k hk => absurd hk (Nat.not_lt_zero k)) (fun k hk => absurd hk (Nat.not_lt_zero k)) (by decide) (by omega) rfl ⟨by decide, by decide⟩ hH hok0 hC0 : qG none d 44 0 [(2, 23), (0, 0), (0, 0), (0, 0), (9, 0)] [] wV 142 _)) ?_
        rintro _ wR _ ⟨rfl, rfl, hIR, -, hCR⟩
        show qG none (d + 1) 42 106 [(2, 23), (2, 74), (0, ((D : Nat) : Int)), (0, ((W : Nat) : Int)), (0, ((k : Nat) : Int)), (0, ((j : Nat) : Int))] [] wR 142 Q9
        refine qG.retv rfl rfl ?_
        subst hQ9
        exact ⟨rfl, rfl, hIR, hCR⟩
      · skip
        have hem : ctb (fun j => sb wV 34 j) 192 = 0 := Decidable.of_not_not (fun z => hem0 (if_neg z))
        refine qG.retv rfl rfl ?_
        subst hQ9
        have hno : (okO (pzN w 2 k) (pzP w 2 k) (pzM w 2 k) w 2 (W : Int)) 0 (fun _ => 0) = false := okO_no.mpr (fun j => if y : j < 192 then (hH j y).symm.trans (ctb_0.mp hem j y) else hz_N (by have := hTV.1; omega))
        refine ⟨rfl, rfl, hIV, ?_⟩
        unfold odS
        rw [XPo_no (fun n r j h => okO_x n r j h) _ _ _ _ _ hno]
        exact hC0
  exact L13 _ (0) (wF) rfl (⟨Nat.zero_le _, hIF, fun _ _ _ => rfl, fun i hi => absurd hi (Nat.not_lt_zero i)⟩)
theorem K_rowFact {d : Nat} (hd : 1 ≤ d) (v : Int) (hv : v ≤ 2147483647) (s : oSt) (w : qW) (hI : yInv zgf zga zra zSp w) (hC : OCs w s) : qG none d 43 0 [(2, 23), (0, v), (9, 0)] [] w 142 (fun (r : qV) (_ : qW) (n1 : Nat) => n1 = 142 ∧ r = (0, odA s v)) := by
  generalize hQ9 : (fun (r : qV) (_ : qW) (n1 : Nat) => n1 = 142 ∧ r = (0, odA s v)) = Q9
  have h14 := hI.1 23 14 (0, 65535) rfl rfl
  have hs2 : 0 ≤ s.2.1 ∧ s.2.1 ≤ 65535 := by rw [← hC.2.1]; exact h14
  have h13 := hI.1 23 13 (-1, 4) rfl rfl
  have h13a : (-1 : Int) ≤ w 23 13 := h13.1
  have h13b : w 23 13 ≤ (4 : Int) := h13.2
  have e13 := hC.1
  obtain ⟨d, rfl⟩ : ∃ d9, d = d9 + 1 := ⟨d - 1, by omega⟩
  refine qG.blk 2 (pc' := 4) (ls' := [(2, 23), (0, v), (9, 0)]) (st' := [(0, w 23 13)]) (w' := w) (n' := 142) rfl ?_
  rw [show w 23 13 = s.1 from hC.1]
  refine qG.blk 1 (pc' := 5) (ls' := [(2, 23), (0, v), (9, 0)]) (st' := [(0, (-1)), (0, s.1)]) (w' := w) (n' := 142) rfl ?_
  refine qG.br (P := s.1 = (-1)) (pc1 := 12) (pc2 := 8) (st1 := []) rfl (fun h1 => ?_) (fun h1 => ?_)
  · skip
    refine qG.blk 1 (pc' := 13) (ls' := [(2, 23), (0, v), (9, 0)]) (st' := [(0, (-1))]) (w' := w) (n' := 142) rfl ?_
    refine qG.ret rfl rfl ?_
    subst hQ9
    exact ⟨rfl, congrArg (Prod.mk 0) (by unfold odA; (repeat' split) <;> first | rfl | omega)⟩
  · skip
    refine qG.blk 1 (pc' := 9) (ls' := [(2, 23), (0, v), (9, 0)]) (st' := [(0, v)]) (w' := w) (n' := 142) rfl ?_
    refine qG.br (P := v < 0) (pc1 := 12) (pc2 := 14) (st1 := []) rfl (fun g9 => ?_) (fun g9 => ?_)
    · skip
      refine qG.blk 1 (pc' := 13) (ls' := [(2, 23), (0, v), (9, 0)]) (st' := [(0, (-1))]) (w' := w) (n' := 142) rfl ?_
      refine qG.ret rfl rfl ?_
      subst hQ9
      exact ⟨rfl, congrArg (Prod.mk 0) (by unfold odA; (repeat' split) <;> first | rfl | omega)⟩
    · skip
      refine qG.blk 2 (pc' := 16) (ls' := [(2, 23), (0, v), (9, 0)]) (st' := [(0, 2), (0, v)]) (w' := w) (n' := 142) rfl ?_
      refine qG.br (P := v < 2) (pc1 := 19) (pc2 := 38) (st1 := []) rfl (fun g16 => ?_) (fun g16 => ?_)
      · skip
        refine qG.blk 1 (pc' := 20) (ls' := [(2, 23), (0, v), (9, 0)]) (st' := [(0, v)]) (w' := w) (n' := 142) rfl ?_
        refine qG.br (P := v = 0) (pc1 := 23) (pc2 := 33) (st1 := []) rfl (fun g20 => ?_) (fun g20 => ?_)
        · skip
          refine qG.blk 2 (pc' := 27) (ls' := [(2, 23), (0, v), (9, 0)]) (st' := [(0, w 23 14)]) (w' := w) (n' := 142) rfl ?_
          rw [show w 23 14 = s.2.1 from hC.2.1]
          refine qG.call (t := 302) (na := 1) (sk := 0) (md := 0) (ls1 := [(0, s.2.1)]) (r1 := []) rfl rfl rfl rfl rfl (K_bcJ (Nat.zero_le _) (s.2.1) hs2.1 (Int.le_trans hs2.2 (by decide)) w) ?_
          rintro _ w7 _ ⟨rfl, hw7, rfl⟩
          rw [hw7, bits_36 hs2.1 hs2.2]
          show qG none (d + 1) 43 30 [(2, 23), (0, v), (9, 0)] [(0, bitsF s.2.1 16)] w 142 Q9
          refine qG.blk 1 (pc' := 37) (ls' := [(2, 23), (0, v), (9, 0)]) (st' := [(0, bitsF s.2.1 16)]) (w' := w) (n' := 142) rfl ?_
          refine qG.ret rfl rfl ?_
          subst hQ9
          exact ⟨rfl, congrArg (Prod.mk 0) (by unfold odA; (repeat' split) <;> first | rfl | omega)⟩
        · skip
          refine qG.blk 2 (pc' := 37) (ls' := [(2, 23), (0, v), (9, 0)]) (st' := [(0, w 23 13)]) (w' := w) (n' := 142) rfl ?_
          rw [show w 23 13 = s.1 from hC.1]
          refine qG.ret rfl rfl ?_
          subst hQ9
          exact ⟨rfl, congrArg (Prod.mk 0) (by unfold odA; (repeat' split) <;> first | rfl | omega)⟩
      · skip
        refine qG.blk 3 (pc' := 41) (ls' := [(2, 23), (0, v), (9, 0)]) (st' := [(0, wrp (v - 2))]) (w' := w) (n' := 142) rfl ?_
        rw [show wrp (v - 2) = (((v - 2).toNat : Nat) : Int) from by rw [wrp_id (by omega) (by omega)]; omega]
        refine qG.blk 4 (pc' := 47) (ls' := [(2, 23), (0, v), (0, (((v - 2).toNat : Nat) : Int))]) (st' := [(0, w 23 13), (0, (((v - 2).toNat : Nat) : Int))]) (w' := w) (n' := 142) rfl ?_
        rw [show w 23 13 = s.1 from hC.1]
        refine qG.br (P := (((v - 2).toNat : Nat) : Int) < s.1) (pc1 := 50) (pc2 := 64) (st1 := []) rfl (fun g47 => ?_) (fun g47 => ?_)
        · skip
          refine qG.blk 2 (pc' := 52) (ls' := [(2, 23), (0, v), (0, (((v - 2).toNat : Nat) : Int))]) (st' := [(0, 4), (0, (((v - 2).toNat : Nat) : Int))]) (w' := w) (n' := 142) rfl ?_
          refine qG.br (P := (((v - 2).toNat : Nat) : Int) < 4) (pc1 := 55) (pc2 := 64) (st1 := []) rfl (fun g52 => ?_) (fun g52 => ?_)
          · skip
            refine qG.blk 2 (pc' := 59) (ls' := [(2, 23), (0, v), (0, (((v - 2).toNat : Nat) : Int))]) (st' := [(2, w 23 12)]) (w' := w) (n' := 142) rfl ?_
            rw [show w 23 12 = 39 from zref hI rfl rfl]
            refine qG.blk 1 (pc' := 60) (ls' := [(2, 23), (0, v), (0, (((v - 2).toNat : Nat) : Int))]) (st' := [(0, (((v - 2).toNat : Nat) : Int)), (2, 39)]) (w' := w) (n' := 142) rfl ?_
            refine qG.ar (P := 0 ≤ (((v - 2).toNat : Nat) : Int) ∧ (((v - 2).toNat : Nat) : Int) < ((4 : Nat) : Int)) (P2 := 0 < (39 : Int) ∧ (39 : Int) ≤ ((142 : Nat) : Int)) (pc' := 61) (ls' := [(2, 23), (0, v), (0, (((v - 2).toNat : Nat) : Int))]) (st' := [(0, w 39 ((v - 2).toNat))]) (w' := w) (n' := 142) rfl (by omega) (by decide) ?_
            rw [show w 39 ((v - 2).toNat) = s.2.2 (v - 2).toNat from hC.2.2 (v - 2).toNat (by omega)]
            refine qG.blk 1 (pc' := 65) (ls' := [(2, 23), (0, v), (0, (((v - 2).toNat : Nat) : Int))]) (st' := [(0, s.2.2 (v - 2).toNat)]) (w' := w) (n' := 142) rfl ?_
            refine qG.ret rfl rfl ?_
            subst hQ9
            exact ⟨rfl, congrArg (Prod.mk 0) (by unfold odA; (repeat' split) <;> first | rfl | omega)⟩
          · skip
            refine qG.blk 1 (pc' := 65) (ls' := [(2, 23), (0, v), (0, (((v - 2).toNat : Nat) : Int))]) (st' := [(0, (-1))]) (w' := w) (n' := 142) rfl ?_
            refine qG.ret rfl rfl ?_
            subst hQ9
            exact ⟨rfl, congrArg (Prod.mk 0) (by unfold odA; (repeat' split) <;> first | rfl | omega)⟩
        · skip
          refine qG.blk 1 (pc' := 65) (ls' := [(2, 23), (0, v), (0, (((v - 2).toNat : Nat) : Int))]) (st' := [(0, (-1))]) (w' := w) (n' := 142) rfl ?_
          refine qG.ret rfl rfl ?_
          subst hQ9
          exact ⟨rfl, congrArg (Prod.mk 0) (by unfold odA; (repeat' split) <;> first | rfl | omega)⟩
theorem isV_o {x a b : Int} (h : x < a ∨ b < x) : isInV x a b = 0 := by
  unfold isInV
  (repeat' split) <;> first | rfl | omega
theorem isV_i {x a b : Int} (h : a ≤ x ∧ x ≤ b) : ¬ isInV x a b = 0 := by
  unfold isInV
  rw [if_neg (by omega), if_neg (by omega)]
  decide
theorem K_X11_orderA_0 {d : Nat} (hd : 33 ≤ d) (D W s v : Int) (hv : v ≤ 2147483647) (n : Nat) (w : qW) (hI : yInv zgf zga zra zSp w) (hJ : J9 n w) (hE : JE w) : qG none d 176 0 [(2, 1), (0, 0), (0, D), (0, W), (0, s), (0, v)] [] w 142 (fun (r : qV) (_ : qW) (_ : Nat) => ∃ x, r = (0, x) ∧ ORT w 0 D W s v x) := by
  generalize hQ9 : (fun (r : qV) (_ : qW) (_ : Nat) => ∃ x, r = (0, x) ∧ ORT w 0 D W s v x) = Q9
  obtain ⟨d, rfl⟩ : ∃ d9, d = d9 + 1 := ⟨d - 1, by omega⟩
  refine qG.blk 1 (pc' := 1) (ls' := [(2, 1), (0, 0), (0, D), (0, W), (0, s), (0, v)]) (st' := [(0, 0)]) (w' := w) (n' := 142) rfl ?_
  refine qG.call (t := 198) (na := 1) (sk := 0) (md := 0) (ls1 := [(0, 0)]) (r1 := []) rfl rfl rfl rfl rfl (K_X11_isChest (Nat.zero_le _) _ _) ?_
  rintro _ w7 _ ⟨rfl, hw7, rfl⟩
  rw [hw7, show isInV 0 0 2 = 1 from by decide]
  show qG none (d + 1) 176 4 [(2, 1), (0, 0), (0, D), (0, W), (0, s), (0, v)] [(0, 1)] w 142 Q9
  refine qG.br (P := (1 : Int) = 0) (pc1 := 22) (pc2 := 7) (st1 := []) rfl (fun h1 => ?_) (fun h1 => ?_)
  · exact absurd h1 (by decide)
  · skip
    refine qG.blk 1 (pc' := 9) (ls' := [(2, 1), (0, 0), (0, D), (0, W), (0, s), (0, v)]) (st' := [(0, s)]) (w' := w) (n' := 142) rfl ?_
    refine qG.call (t := 200) (na := 1) (sk := 0) (md := 0) (ls1 := [(0, s)]) (r1 := []) rfl rfl rfl rfl rfl (K_X11_isSize2 (Nat.zero_le _) _ _) ?_
    rintro _ w7 _ ⟨rfl, hw7, rfl⟩
    rw [hw7]
    show qG none (d + 1) 176 12 [(2, 1), (0, 0), (0, D), (0, W), (0, s), (0, v)] [(0, isInV s 1 4)] w 142 Q9
    refine qG.br (P := isInV s 1 4 = 0) (pc1 := 22) (pc2 := 15) (st1 := []) rfl (fun hs0 => ?_) (fun hs0 => ?_)
    · skip
      refine qG.blk 1 (pc' := 23) (ls' := [(2, 1), (0, 0), (0, D), (0, W), (0, s), (0, v)]) (st' := [(0, (-1))]) (w' := w) (n' := 142) rfl ?_
      refine qG.ret rfl rfl ?_
      subst hQ9
      exact ⟨_, rfl, .inl ⟨by unfold odB; first | exact .inr (.inr (.inr (.inr hs0))) | exact .inr (.inl hD0) | exact .inr (.inr (.inl (by omega))) | exact .inr (.inr (.inr (.inl (isV_o (by omega))))), rfl⟩⟩
    · skip
      obtain ⟨s9, rfl, hls9, hus9⟩ := isIn_n (by decide) hs0
      refine qG.blk 1 (pc' := 16) (ls' := [(2, 1), (0, 0), (0, D), (0, W), (0, ((s9 : Nat) : Int)), (0, v)]) (st' := [(0, D)]) (w' := w) (n' := 142) rfl ?_
      refine qG.call (t := 201) (na := 1) (sk := 0) (md := 0) (ls1 := [(0, D)]) (r1 := []) rfl rfl rfl rfl rfl (K_X11_isDoorSet (Nat.zero_le _) _ _) ?_
      rintro _ w7 _ ⟨rfl, hw7, rfl⟩
      rw [hw7]
      show qG none (d + 1) 176 19 [(2, 1), (0, 0), (0, D), (0, W), (0, ((s9 : Nat) : Int)), (0, v)] [(0, isInV D 0 1023)] w 142 Q9
      refine qG.br (P := isInV D 0 1023 = 0) (pc1 := 22) (pc2 := 24) (st1 := []) rfl (fun hD0 => ?_) (fun hD0 => ?_)
      · skip
        refine qG.blk 1 (pc' := 23) (ls' := [(2, 1), (0, 0), (0, D), (0, W), (0, ((s9 : Nat) : Int)), (0, v)]) (st' := [(0, (-1))]) (w' := w) (n' := 142) rfl ?_
        refine qG.ret rfl rfl ?_
        subst hQ9
        exact ⟨_, rfl, .inl ⟨by unfold odB; first | exact .inr (.inr (.inr (.inr hs0))) | exact .inr (.inl hD0) | exact .inr (.inr (.inl (by omega))) | exact .inr (.inr (.inr (.inl (isV_o (by omega))))), rfl⟩⟩
      · skip
        obtain ⟨D9, rfl, hlD9, huD9⟩ := isIn_n (by decide) hD0
        refine qG.blk 1 (pc' := 25) (ls' := [(2, 1), (0, 0), (0, ((D9 : Nat) : Int)), (0, W), (0, ((s9 : Nat) : Int)), (0, v)]) (st' := [(0, ((D9 : Nat) : Int))]) (w' := w) (n' := 142) rfl ?_
        refine qG.call (t := 302) (na := 1) (sk := 0) (md := 0) (ls1 := [(0, ((D9 : Nat) : Int))]) (r1 := []) rfl rfl rfl rfl rfl (K_bcJ (Nat.zero_le _) ((D9 : Nat) : Int) (by omega) (by omega) w) ?_
        rintro _ w7 _ ⟨rfl, hw7, rfl⟩
        rw [hw7, bits_36 (by omega) (by omega)]
        show qG none (d + 1) 176 28 [(2, 1), (0, 0), (0, ((D9 : Nat) : Int)), (0, W), (0, ((s9 : Nat) : Int)), (0, v)] [(0, bitsF ((D9 : Nat) : Int) 16)] w 142 Q9
        refine qG.blk 1 (pc' := 29) (ls' := [(2, 1), (0, 0), (0, ((D9 : Nat) : Int)), (0, W), (0, ((s9 : Nat) : Int)), (0, v)]) (st' := [(0, 4), (0, bitsF ((D9 : Nat) : Int) 16)]) (w' := w) (n' := 142) rfl ?_
        refine qG.br (P := 4 < bitsF ((D9 : Nat) : Int) 16) (pc1 := 42) (pc2 := 32) (st1 := []) rfl (fun hb4 => ?_) (fun hb4 => ?_)
        · skip
          refine qG.blk 1 (pc' := 43) (ls' := [(2, 1), (0, 0), (0, ((D9 : Nat) : Int)), (0, W), (0, ((s9 : Nat) : Int)), (0, v)]) (st' := [(0, (-1))]) (w' := w) (n' := 142) rfl ?_
          refine qG.ret rfl rfl ?_
          subst hQ9
          exact ⟨_, rfl, .inl ⟨by unfold odB; first | exact .inr (.inr (.inr (.inr hs0))) | exact .inr (.inl hD0) | exact .inr (.inr (.inl (by omega))) | exact .inr (.inr (.inr (.inl (isV_o (by omega))))), rfl⟩⟩
        · skip
          refine qG.blk 2 (pc' := 34) (ls' := [(2, 1), (0, 0), (0, ((D9 : Nat) : Int)), (0, W), (0, ((s9 : Nat) : Int)), (0, v)]) (st' := [(0, 1), (0, W)]) (w' := w) (n' := 142) rfl ?_
          refine qG.br (P := W < 1) (pc1 := 42) (pc2 := 37) (st1 := []) rfl (fun hW1 => ?_) (fun hW1 => ?_)
          · skip
            refine qG.blk 1 (pc' := 43) (ls' := [(2, 1), (0, 0), (0, ((D9 : Nat) : Int)), (0, W), (0, ((s9 : Nat) : Int)), (0, v)]) (st' := [(0, (-1))]) (w' := w) (n' := 142) rfl ?_
            refine qG.ret rfl rfl ?_
            subst hQ9
            exact ⟨_, rfl, .inl ⟨by unfold odB; first | exact .inr (.inr (.inr (.inr hs0))) | exact .inr (.inl hD0) | exact .inr (.inr (.inl (by omega))) | exact .inr (.inr (.inr (.inl (isV_o (by omega))))), rfl⟩⟩
          · skip
            obtain ⟨W9, rfl⟩ : ∃ W9 : Nat, W = (W9 : Int) := ⟨W.toNat, by omega⟩
            refine qG.blk 2 (pc' := 39) (ls' := [(2, 1), (0, 0), (0, ((D9 : Nat) : Int)), (0, ((W9 : Nat) : Int)), (0, ((s9 : Nat) : Int)), (0, v)]) (st' := [(0, 5), (0, ((W9 : Nat) : Int))]) (w' := w) (n' := 142) rfl ?_
            refine qG.br (P := 5 < ((W9 : Nat) : Int)) (pc1 := 42) (pc2 := 44) (st1 := []) rfl (fun hW5 => ?_) (fun hW5 => ?_)
            · skip
              refine qG.blk 1 (pc' := 43) (ls' := [(2, 1), (0, 0), (0, ((D9 : Nat) : Int)), (0, ((W9 : Nat) : Int)), (0, ((s9 : Nat) : Int)), (0, v)]) (st' := [(0, (-1))]) (w' := w) (n' := 142) rfl ?_
              refine qG.ret rfl rfl ?_
              subst hQ9
              exact ⟨_, rfl, .inl ⟨by unfold odB; first | exact .inr (.inr (.inr (.inr hs0))) | exact .inr (.inl hD0) | exact .inr (.inr (.inl (by omega))) | exact .inr (.inr (.inr (.inl (isV_o (by omega))))), rfl⟩⟩
            · skip
              refine qG.blk 2 (pc' := 48) (ls' := [(2, 1), (0, 0), (0, ((D9 : Nat) : Int)), (0, ((W9 : Nat) : Int)), (0, ((s9 : Nat) : Int)), (0, v)]) (st' := [(2, w 1 5)]) (w' := w) (n' := 142) rfl ?_
              rw [show w 1 5 = 23 from zref hI rfl rfl]
              refine qG.blk 2 (pc' := 52) (ls' := [(2, 1), (0, 0), (0, ((D9 : Nat) : Int)), (0, ((W9 : Nat) : Int)), (0, ((s9 : Nat) : Int)), (0, v)]) (st' := [(2, w 1 0), (2, 23)]) (w' := w) (n' := 142) rfl ?_
              rw [show w 1 0 = 2 from zref hI rfl rfl]
              refine qG.blk 1 (pc' := 53) (ls' := [(2, 1), (0, 0), (0, ((D9 : Nat) : Int)), (0, ((W9 : Nat) : Int)), (0, ((s9 : Nat) : Int)), (0, v)]) (st' := [(0, 0), (2, 2), (2, 23)]) (w' := w) (n' := 142) rfl ?_
              refine qG.ar (P := 0 ≤ 0 ∧ 0 < ((3 : Nat) : Int)) (P2 := 0 < (2 : Int) ∧ (2 : Int) ≤ ((142 : Nat) : Int)) (pc' := 54) (ls' := [(2, 1), (0, 0), (0, ((D9 : Nat) : Int)), (0, ((W9 : Nat) : Int)), (0, ((s9 : Nat) : Int)), (0, v)]) (st' := [(2, w 2 0), (2, 23)]) (w' := w) (n' := 142) rfl (by omega) (by decide) ?_
              rw [show w 2 0 = 64 from zref hI rfl rfl]
              refine qG.blk 3 (pc' := 58) (ls' := [(2, 1), (0, 0), (0, ((D9 : Nat) : Int)), (0, ((W9 : Nat) : Int)), (0, ((s9 : Nat) : Int)), (0, v)]) (st' := [(0, ((s9 : Nat) : Int)), (0, ((W9 : Nat) : Int)), (0, ((D9 : Nat) : Int)), (2, 64), (2, 23)]) (w' := w) (n' := 142) rfl ?_
              refine qG.call (t := 42) (na := 5) (sk := 1) (md := 1) (ls1 := [(2, 23), (2, 64), (0, ((D9 : Nat) : Int)), (0, ((W9 : Nat) : Int)), (0, ((s9 : Nat) : Int)), (9, 0)]) (r1 := []) rfl rfl rfl rfl rfl (K_findRow64 (by omega) s9 (by omega) (by omega) D9 W9 (by omega) (by omega) (by rw [trD_0 D9 (by omega)]; rw [bitsF_pc (by omega) 16 (by decide)] at hb4; omega) n w hI hJ (hJ.1 0 (by decide)) hE) ?_
              rintro _ w1 _ ⟨rfl, rfl, hI1, hC1⟩
              show qG none (d + 1) 176 61 [(2, 1), (0, 0), (0, ((D9 : Nat) : Int)), (0, ((W9 : Nat) : Int)), (0, ((s9 : Nat) : Int)), (0, v)] [] w1 142 Q9
              refine qG.blk 2 (pc' := 65) (ls' := [(2, 1), (0, 0), (0, ((D9 : Nat) : Int)), (0, ((W9 : Nat) : Int)), (0, ((s9 : Nat) : Int)), (0, v)]) (st' := [(2, w1 1 5)]) (w' := w1) (n' := 142) rfl ?_
              rw [show w1 1 5 = 23 from zref hI1 rfl rfl]
              refine qG.blk 1 (pc' := 67) (ls' := [(2, 1), (0, 0), (0, ((D9 : Nat) : Int)), (0, ((W9 : Nat) : Int)), (0, ((s9 : Nat) : Int)), (0, v)]) (st' := [(0, v), (2, 23)]) (w' := w1) (n' := 142) rfl ?_
              refine qG.call (t := 43) (na := 2) (sk := 1) (md := 1) (ls1 := [(2, 23), (0, v), (9, 0)]) (r1 := []) rfl rfl rfl rfl rfl (K_rowFact (by omega) v hv _ w1 hI1 hC1) ?_
              rintro _ w2 _ ⟨rfl, rfl⟩
              show qG none (d + 1) 176 70 [(2, 1), (0, 0), (0, ((D9 : Nat) : Int)), (0, ((W9 : Nat) : Int)), (0, ((s9 : Nat) : Int)), (0, v)] [(0, odA (odS w 0 D9 (W9 : Int) s9) v)] w2 142 Q9
              refine qG.ret rfl rfl ?_
              subst hQ9
              refine ⟨_, rfl, .inr ⟨fun z => ?_, ?_⟩⟩
              · unfold odB at z; exact z.elim (fun z => absurd z (by decide)) (fun z => z.elim hD0 (fun z => z.elim (fun z => by omega) (fun z => z.elim (isV_i (by omega)) hs0)))
              · rw [Int.toNat_natCast, Int.toNat_natCast]; rfl
theorem K_X11_orderA_1 {d : Nat} (hd : 33 ≤ d) (D W s v : Int) (hv : v ≤ 2147483647) (n : Nat) (w : qW) (hI : yInv zgf zga zra zSp w) (hJ : J9 n w) (hE : JE w) : qG none d 176 0 [(2, 1), (0, 1), (0, D), (0, W), (0, s), (0, v)] [] w 142 (fun (r : qV) (_ : qW) (_ : Nat) => ∃ x, r = (0, x) ∧ ORT w 1 D W s v x) := by
  generalize hQ9 : (fun (r : qV) (_ : qW) (_ : Nat) => ∃ x, r = (0, x) ∧ ORT w 1 D W s v x) = Q9
  obtain ⟨d, rfl⟩ : ∃ d9, d = d9 + 1 := ⟨d - 1, by omega⟩
  refine qG.blk 1 (pc' := 1) (ls' := [(2, 1), (0, 1), (0, D), (0, W), (0, s), (0, v)]) (st' := [(0, 1)]) (w' := w) (n' := 142) rfl ?_
  refine qG.call (t := 198) (na := 1) (sk := 0) (md := 0) (ls1 := [(0, 1)]) (r1 := []) rfl rfl rfl rfl rfl (K_X11_isChest (Nat.zero_le _) _ _) ?_
  rintro _ w7 _ ⟨rfl, hw7, rfl⟩
  rw [hw7, show isInV 1 0 2 = 1 from by decide]
  show qG none (d + 1) 176 4 [(2, 1), (0, 1), (0, D), (0, W), (0, s), (0, v)] [(0, 1)] w 142 Q9
  refine qG.br (P := (1 : Int) = 0) (pc1 := 22) (pc2 := 7) (st1 := []) rfl (fun h1 => ?_) (fun h1 => ?_)
  · exact absurd h1 (by decide)
  · skip
    refine qG.blk 1 (pc' := 9) (ls' := [(2, 1), (0, 1), (0, D), (0, W), (0, s), (0, v)]) (st' := [(0, s)]) (w' := w) (n' := 142) rfl ?_
    refine qG.call (t := 200) (na := 1) (sk := 0) (md := 0) (ls1 := [(0, s)]) (r1 := []) rfl rfl rfl rfl rfl (K_X11_isSize2 (Nat.zero_le _) _ _) ?_
    rintro _ w7 _ ⟨rfl, hw7, rfl⟩
    rw [hw7]
    show qG none (d + 1) 176 12 [(2, 1), (0, 1), (0, D), (0, W), (0, s), (0, v)] [(0, isInV s 1 4)] w 142 Q9
    refine qG.br (P := isInV s 1 4 = 0) (pc1 := 22) (pc2 := 15) (st1 := []) rfl (fun hs0 => ?_) (fun hs0 => ?_)
    · skip
      refine qG.blk 1 (pc' := 23) (ls' := [(2, 1), (0, 1), (0, D), (0, W), (0, s), (0, v)]) (st' := [(0, (-1))]) (w' := w) (n' := 142) rfl ?_
      refine qG.ret rfl rfl ?_
      subst hQ9
      exact ⟨_, rfl, .inl ⟨by unfold odB; first | exact .inr (.inr (.inr (.inr hs0))) | exact .inr (.inl hD0) | exact .inr (.inr (.inl (by omega))) | exact .inr (.inr (.inr (.inl (isV_o (by omega))))), rfl⟩⟩
    · skip
      obtain ⟨s9, rfl, hls9, hus9⟩ := isIn_n (by decide) hs0
      refine qG.blk 1 (pc' := 16) (ls' := [(2, 1), (0, 1), (0, D), (0, W), (0, ((s9 : Nat) : Int)), (0, v)]) (st' := [(0, D)]) (w' := w) (n' := 142) rfl ?_
      refine qG.call (t := 201) (na := 1) (sk := 0) (md := 0) (ls1 := [(0, D)]) (r1 := []) rfl rfl rfl rfl rfl (K_X11_isDoorSet (Nat.zero_le _) _ _) ?_
      rintro _ w7 _ ⟨rfl, hw7, rfl⟩
      rw [hw7]
      show qG none (d + 1) 176 19 [(2, 1), (0, 1), (0, D), (0, W), (0, ((s9 : Nat) : Int)), (0, v)] [(0, isInV D 0 1023)] w 142 Q9
      refine qG.br (P := isInV D 0 1023 = 0) (pc1 := 22) (pc2 := 24) (st1 := []) rfl (fun hD0 => ?_) (fun hD0 => ?_)
      · skip
        refine qG.blk 1 (pc' := 23) (ls' := [(2, 1), (0, 1), (0, D), (0, W), (0, ((s9 : Nat) : Int)), (0, v)]) (st' := [(0, (-1))]) (w' := w) (n' := 142) rfl ?_
        refine qG.ret rfl rfl ?_
        subst hQ9
        exact ⟨_, rfl, .inl ⟨by unfold odB; first | exact .inr (.inr (.inr (.inr hs0))) | exact .inr (.inl hD0) | exact .inr (.inr (.inl (by omega))) | exact .inr (.inr (.inr (.inl (isV_o (by omega))))), rfl⟩⟩
      · skip
        obtain ⟨D9, rfl, hlD9, huD9⟩ := isIn_n (by decide) hD0
        refine qG.blk 1 (pc' := 25) (ls' := [(2, 1), (0, 1), (0, ((D9 : Nat) : Int)), (0, W), (0, ((s9 : Nat) : Int)), (0, v)]) (st' := [(0, ((D9 : Nat) : Int))]) (w' := w) (n' := 142) rfl ?_
        refine qG.call (t := 302) (na := 1) (sk := 0) (md := 0) (ls1 := [(0, ((D9 : Nat) : Int))]) (r1 := []) rfl rfl rfl rfl rfl (K_bcJ (Nat.zero_le _) ((D9 : Nat) : Int) (by omega) (by omega) w) ?_
        rintro _ w7 _ ⟨rfl, hw7, rfl⟩
        rw [hw7, bits_36 (by omega) (by omega)]
        show qG none (d + 1) 176 28 [(2, 1), (0, 1), (0, ((D9 : Nat) : Int)), (0, W), (0, ((s9 : Nat) : Int)), (0, v)] [(0, bitsF ((D9 : Nat) : Int) 16)] w 142 Q9
        refine qG.blk 1 (pc' := 29) (ls' := [(2, 1), (0, 1), (0, ((D9 : Nat) : Int)), (0, W), (0, ((s9 : Nat) : Int)), (0, v)]) (st' := [(0, 4), (0, bitsF ((D9 : Nat) : Int) 16)]) (w' := w) (n' := 142) rfl ?_
        refine qG.br (P := 4 < bitsF ((D9 : Nat) : Int) 16) (pc1 := 42) (pc2 := 32) (st1 := []) rfl (fun hb4 => ?_) (fun hb4 => ?_)
        · skip
          refine qG.blk 1 (pc' := 43) (ls' := [(2, 1), (0, 1), (0, ((D9 : Nat) : Int)), (0, W), (0, ((s9 : Nat) : Int)), (0, v)]) (st' := [(0, (-1))]) (w' := w) (n' := 142) rfl ?_
          refine qG.ret rfl rfl ?_
          subst hQ9
          exact ⟨_, rfl, .inl ⟨by unfold odB; first | exact .inr (.inr (.inr (.inr hs0))) | exact .inr (.inl hD0) | exact .inr (.inr (.inl (by omega))) | exact .inr (.inr (.inr (.inl (isV_o (by omega))))), rfl⟩⟩
        · skip
          refine qG.blk 2 (pc' := 34) (ls' := [(2, 1), (0, 1), (0, ((D9 : Nat) : Int)), (0, W), (0, ((s9 : Nat) : Int)), (0, v)]) (st' := [(0, 1), (0, W)]) (w' := w) (n' := 142) rfl ?_
          refine qG.br (P := W < 1) (pc1 := 42) (pc2 := 37) (st1 := []) rfl (fun hW1 => ?_) (fun hW1 => ?_)
          · skip
            refine qG.blk 1 (pc' := 43) (ls' := [(2, 1), (0, 1), (0, ((D9 : Nat) : Int)), (0, W), (0, ((s9 : Nat) : Int)), (0, v)]) (st' := [(0, (-1))]) (w' := w) (n' := 142) rfl ?_
            refine qG.ret rfl rfl ?_
            subst hQ9
            exact ⟨_, rfl, .inl ⟨by unfold odB; first | exact .inr (.inr (.inr (.inr hs0))) | exact .inr (.inl hD0) | exact .inr (.inr (.inl (by omega))) | exact .inr (.inr (.inr (.inl (isV_o (by omega))))), rfl⟩⟩
          · skip
            obtain ⟨W9, rfl⟩ : ∃ W9 : Nat, W = (W9 : Int) := ⟨W.toNat, by omega⟩
            refine qG.blk 2 (pc' := 39) (ls' := [(2, 1), (0, 1), (0, ((D9 : Nat) : Int)), (0, ((W9 : Nat) : Int)), (0, ((s9 : Nat) : Int)), (0, v)]) (st' := [(0, 5), (0, ((W9 : Nat) : Int))]) (w' := w) (n' := 142) rfl ?_
            refine qG.br (P := 5 < ((W9 : Nat) : Int)) (pc1 := 42) (pc2 := 44) (st1 := []) rfl (fun hW5 => ?_) (fun hW5 => ?_)
            · skip
              refine qG.blk 1 (pc' := 43) (ls' := [(2, 1), (0, 1), (0, ((D9 : Nat) : Int)), (0, ((W9 : Nat) : Int)), (0, ((s9 : Nat) : Int)), (0, v)]) (st' := [(0, (-1))]) (w' := w) (n' := 142) rfl ?_
              refine qG.ret rfl rfl ?_
              subst hQ9
              exact ⟨_, rfl, .inl ⟨by unfold odB; first | exact .inr (.inr (.inr (.inr hs0))) | exact .inr (.inl hD0) | exact .inr (.inr (.inl (by omega))) | exact .inr (.inr (.inr (.inl (isV_o (by omega))))), rfl⟩⟩
            · skip
              refine qG.blk 2 (pc' := 48) (ls' := [(2, 1), (0, 1), (0, ((D9 : Nat) : Int)), (0, ((W9 : Nat) : Int)), (0, ((s9 : Nat) : Int)), (0, v)]) (st' := [(2, w 1 5)]) (w' := w) (n' := 142) rfl ?_
              rw [show w 1 5 = 23 from zref hI rfl rfl]
              refine qG.blk 2 (pc' := 52) (ls' := [(2, 1), (0, 1), (0, ((D9 : Nat) : Int)), (0, ((W9 : Nat) : Int)), (0, ((s9 : Nat) : Int)), (0, v)]) (st' := [(2, w 1 0), (2, 23)]) (w' := w) (n' := 142) rfl ?_
              rw [show w 1 0 = 2 from zref hI rfl rfl]
              refine qG.blk 1 (pc' := 53) (ls' := [(2, 1), (0, 1), (0, ((D9 : Nat) : Int)), (0, ((W9 : Nat) : Int)), (0, ((s9 : Nat) : Int)), (0, v)]) (st' := [(0, 1), (2, 2), (2, 23)]) (w' := w) (n' := 142) rfl ?_
              refine qG.ar (P := 0 ≤ 1 ∧ 1 < ((3 : Nat) : Int)) (P2 := 0 < (2 : Int) ∧ (2 : Int) ≤ ((142 : Nat) : Int)) (pc' := 54) (ls' := [(2, 1), (0, 1), (0, ((D9 : Nat) : Int)), (0, ((W9 : Nat) : Int)), (0, ((s9 : Nat) : Int)), (0, v)]) (st' := [(2, w 2 1), (2, 23)]) (w' := w) (n' := 142) rfl (by omega) (by decide) ?_
              rw [show w 2 1 = 69 from zref hI rfl rfl]
              refine qG.blk 3 (pc' := 58) (ls' := [(2, 1), (0, 1), (0, ((D9 : Nat) : Int)), (0, ((W9 : Nat) : Int)), (0, ((s9 : Nat) : Int)), (0, v)]) (st' := [(0, ((s9 : Nat) : Int)), (0, ((W9 : Nat) : Int)), (0, ((D9 : Nat) : Int)), (2, 69), (2, 23)]) (w' := w) (n' := 142) rfl ?_
              refine qG.call (t := 42) (na := 5) (sk := 1) (md := 1) (ls1 := [(2, 23), (2, 69), (0, ((D9 : Nat) : Int)), (0, ((W9 : Nat) : Int)), (0, ((s9 : Nat) : Int)), (9, 0)]) (r1 := []) rfl rfl rfl rfl rfl (K_findRow69 (by omega) s9 (by omega) (by omega) D9 W9 (by omega) (by omega) (by rw [trD_0 D9 (by omega)]; rw [bitsF_pc (by omega) 16 (by decide)] at hb4; omega) n w hI hJ (hJ.1 1 (by decide)) hE) ?_
              rintro _ w1 _ ⟨rfl, rfl, hI1, hC1⟩
              show qG none (d + 1) 176 61 [(2, 1), (0, 1), (0, ((D9 : Nat) : Int)), (0, ((W9 : Nat) : Int)), (0, ((s9 : Nat) : Int)), (0, v)] [] w1 142 Q9
              refine qG.blk 2 (pc' := 65) (ls' := [(2, 1), (0, 1), (0, ((D9 : Nat) : Int)), (0, ((W9 : Nat) : Int)), (0, ((s9 : Nat) : Int)), (0, v)]) (st' := [(2, w1 1 5)]) (w' := w1) (n' := 142) rfl ?_
              rw [show w1 1 5 = 23 from zref hI1 rfl rfl]
              refine qG.blk 1 (pc' := 67) (ls' := [(2, 1), (0, 1), (0, ((D9 : Nat) : Int)), (0, ((W9 : Nat) : Int)), (0, ((s9 : Nat) : Int)), (0, v)]) (st' := [(0, v), (2, 23)]) (w' := w1) (n' := 142) rfl ?_
              refine qG.call (t := 43) (na := 2) (sk := 1) (md := 1) (ls1 := [(2, 23), (0, v), (9, 0)]) (r1 := []) rfl rfl rfl rfl rfl (K_rowFact (by omega) v hv _ w1 hI1 hC1) ?_
              rintro _ w2 _ ⟨rfl, rfl⟩
              show qG none (d + 1) 176 70 [(2, 1), (0, 1), (0, ((D9 : Nat) : Int)), (0, ((W9 : Nat) : Int)), (0, ((s9 : Nat) : Int)), (0, v)] [(0, odA (odS w 1 D9 (W9 : Int) s9) v)] w2 142 Q9
              refine qG.ret rfl rfl ?_
              subst hQ9
              refine ⟨_, rfl, .inr ⟨fun z => ?_, ?_⟩⟩
              · unfold odB at z; exact z.elim (fun z => absurd z (by decide)) (fun z => z.elim hD0 (fun z => z.elim (fun z => by omega) (fun z => z.elim (isV_i (by omega)) hs0)))
              · rw [Int.toNat_natCast, Int.toNat_natCast]; rfl
theorem K_X11_orderA_2 {d : Nat} (hd : 33 ≤ d) (D W s v : Int) (hv : v ≤ 2147483647) (n : Nat) (w : qW) (hI : yInv zgf zga zra zSp w) (hJ : J9 n w) (hE : JE w) : qG none d 176 0 [(2, 1), (0, 2), (0, D), (0, W), (0, s), (0, v)] [] w 142 (fun (r : qV) (_ : qW) (_ : Nat) => ∃ x, r = (0, x) ∧ ORT w 2 D W s v x) := by
  generalize hQ9 : (fun (r : qV) (_ : qW) (_ : Nat) => ∃ x, r = (0, x) ∧ ORT w 2 D W s v x) = Q9
  obtain ⟨d, rfl⟩ : ∃ d9, d = d9 + 1 := ⟨d - 1, by omega⟩
  refine qG.blk 1 (pc' := 1) (ls' := [(2, 1), (0, 2), (0, D), (0, W), (0, s), (0, v)]) (st' := [(0, 2)]) (w' := w) (n' := 142) rfl ?_
  refine qG.call (t := 198) (na := 1) (sk := 0) (md := 0) (ls1 := [(0, 2)]) (r1 := []) rfl rfl rfl rfl rfl (K_X11_isChest (Nat.zero_le _) _ _) ?_
  rintro _ w7 _ ⟨rfl, hw7, rfl⟩
  rw [hw7, show isInV 2 0 2 = 1 from by decide]
  show qG none (d + 1) 176 4 [(2, 1), (0, 2), (0, D), (0, W), (0, s), (0, v)] [(0, 1)] w 142 Q9
  refine qG.br (P := (1 : Int) = 0) (pc1 := 22) (pc2 := 7) (st1 := []) rfl (fun h1 => ?_) (fun h1 => ?_)
  · exact absurd h1 (by decide)
  · skip
    refine qG.blk 1 (pc' := 9) (ls' := [(2, 1), (0, 2), (0, D), (0, W), (0, s), (0, v)]) (st' := [(0, s)]) (w' := w) (n' := 142) rfl ?_
    refine qG.call (t := 200) (na := 1) (sk := 0) (md := 0) (ls1 := [(0, s)]) (r1 := []) rfl rfl rfl rfl rfl (K_X11_isSize2 (Nat.zero_le _) _ _) ?_
    rintro _ w7 _ ⟨rfl, hw7, rfl⟩
    rw [hw7]
    show qG none (d + 1) 176 12 [(2, 1), (0, 2), (0, D), (0, W), (0, s), (0, v)] [(0, isInV s 1 4)] w 142 Q9
    refine qG.br (P := isInV s 1 4 = 0) (pc1 := 22) (pc2 := 15) (st1 := []) rfl (fun hs0 => ?_) (fun hs0 => ?_)
    · skip
      refine qG.blk 1 (pc' := 23) (ls' := [(2, 1), (0, 2), (0, D), (0, W), (0, s), (0, v)]) (st' := [(0, (-1))]) (w' := w) (n' := 142) rfl ?_
      refine qG.ret rfl rfl ?_
      subst hQ9
      exact ⟨_, rfl, .inl ⟨by unfold odB; first | exact .inr (.inr (.inr (.inr hs0))) | exact .inr (.inl hD0) | exact .inr (.inr (.inl (by omega))) | exact .inr (.inr (.inr (.inl (isV_o (by omega))))), rfl⟩⟩
    · skip
      obtain ⟨s9, rfl, hls9, hus9⟩ := isIn_n (by decide) hs0
      refine qG.blk 1 (pc' := 16) (ls' := [(2, 1), (0, 2), (0, D), (0, W), (0, ((s9 : Nat) : Int)), (0, v)]) (st' := [(0, D)]) (w' := w) (n' := 142) rfl ?_
      refine qG.call (t := 201) (na := 1) (sk := 0) (md := 0) (ls1 := [(0, D)]) (r1 := []) rfl rfl rfl rfl rfl (K_X11_isDoorSet (Nat.zero_le _) _ _) ?_
      rintro _ w7 _ ⟨rfl, hw7, rfl⟩
      rw [hw7]
      show qG none (d + 1) 176 19 [(2, 1), (0, 2), (0, D), (0, W), (0, ((s9 : Nat) : Int)), (0, v)] [(0, isInV D 0 1023)] w 142 Q9
      refine qG.br (P := isInV D 0 1023 = 0) (pc1 := 22) (pc2 := 24) (st1 := []) rfl (fun hD0 => ?_) (fun hD0 => ?_)
      · skip
        refine qG.blk 1 (pc' := 23) (ls' := [(2, 1), (0, 2), (0, D), (0, W), (0, ((s9 : Nat) : Int)), (0, v)]) (st' := [(0, (-1))]) (w' := w) (n' := 142) rfl ?_
        refine qG.ret rfl rfl ?_
        subst hQ9
        exact ⟨_, rfl, .inl ⟨by unfold odB; first | exact .inr (.inr (.inr (.inr hs0))) | exact .inr (.inl hD0) | exact .inr (.inr (.inl (by omega))) | exact .inr (.inr (.inr (.inl (isV_o (by omega))))), rfl⟩⟩
      · skip
        obtain ⟨D9, rfl, hlD9, huD9⟩ := isIn_n (by decide) hD0
        refine qG.blk 1 (pc' := 25) (ls' := [(2, 1), (0, 2), (0, ((D9 : Nat) : Int)), (0, W), (0, ((s9 : Nat) : Int)), (0, v)]) (st' := [(0, ((D9 : Nat) : Int))]) (w' := w) (n' := 142) rfl ?_
        refine qG.call (t := 302) (na := 1) (sk := 0) (md := 0) (ls1 := [(0, ((D9 : Nat) : Int))]) (r1 := []) rfl rfl rfl rfl rfl (K_bcJ (Nat.zero_le _) ((D9 : Nat) : Int) (by omega) (by omega) w) ?_
        rintro _ w7 _ ⟨rfl, hw7, rfl⟩
        rw [hw7, bits_36 (by omega) (by omega)]
        show qG none (d + 1) 176 28 [(2, 1), (0, 2), (0, ((D9 : Nat) : Int)), (0, W), (0, ((s9 : Nat) : Int)), (0, v)] [(0, bitsF ((D9 : Nat) : Int) 16)] w 142 Q9
        refine qG.blk 1 (pc' := 29) (ls' := [(2, 1), (0, 2), (0, ((D9 : Nat) : Int)), (0, W), (0, ((s9 : Nat) : Int)), (0, v)]) (st' := [(0, 4), (0, bitsF ((D9 : Nat) : Int) 16)]) (w' := w) (n' := 142) rfl ?_
        refine qG.br (P := 4 < bitsF ((D9 : Nat) : Int) 16) (pc1 := 42) (pc2 := 32) (st1 := []) rfl (fun hb4 => ?_) (fun hb4 => ?_)
        · skip
          refine qG.blk 1 (pc' := 43) (ls' := [(2, 1), (0, 2), (0, ((D9 : Nat) : Int)), (0, W), (0, ((s9 : Nat) : Int)), (0, v)]) (st' := [(0, (-1))]) (w' := w) (n' := 142) rfl ?_
          refine qG.ret rfl rfl ?_
          subst hQ9
          exact ⟨_, rfl, .inl ⟨by unfold odB; first | exact .inr (.inr (.inr (.inr hs0))) | exact .inr (.inl hD0) | exact .inr (.inr (.inl (by omega))) | exact .inr (.inr (.inr (.inl (isV_o (by omega))))), rfl⟩⟩
        · skip
          refine qG.blk 2 (pc' := 34) (ls' := [(2, 1), (0, 2), (0, ((D9 : Nat) : Int)), (0, W), (0, ((s9 : Nat) : Int)), (0, v)]) (st' := [(0, 1), (0, W)]) (w' := w) (n' := 142) rfl ?_
          refine qG.br (P := W < 1) (pc1 := 42) (pc2 := 37) (st1 := []) rfl (fun hW1 => ?_) (fun hW1 => ?_)
          · skip
            refine qG.blk 1 (pc' := 43) (ls' := [(2, 1), (0, 2), (0, ((D9 : Nat) : Int)), (0, W), (0, ((s9 : Nat) : Int)), (0, v)]) (st' := [(0, (-1))]) (w' := w) (n' := 142) rfl ?_
            refine qG.ret rfl rfl ?_
            subst hQ9
            exact ⟨_, rfl, .inl ⟨by unfold odB; first | exact .inr (.inr (.inr (.inr hs0))) | exact .inr (.inl hD0) | exact .inr (.inr (.inl (by omega))) | exact .inr (.inr (.inr (.inl (isV_o (by omega))))), rfl⟩⟩
          · skip
            obtain ⟨W9, rfl⟩ : ∃ W9 : Nat, W = (W9 : Int) := ⟨W.toNat, by omega⟩
            refine qG.blk 2 (pc' := 39) (ls' := [(2, 1), (0, 2), (0, ((D9 : Nat) : Int)), (0, ((W9 : Nat) : Int)), (0, ((s9 : Nat) : Int)), (0, v)]) (st' := [(0, 5), (0, ((W9 : Nat) : Int))]) (w' := w) (n' := 142) rfl ?_
            refine qG.br (P := 5 < ((W9 : Nat) : Int)) (pc1 := 42) (pc2 := 44) (st1 := []) rfl (fun hW5 => ?_) (fun hW5 => ?_)
            · skip
              refine qG.blk 1 (pc' := 43) (ls' := [(2, 1), (0, 2), (0, ((D9 : Nat) : Int)), (0, ((W9 : Nat) : Int)), (0, ((s9 : Nat) : Int)), (0, v)]) (st' := [(0, (-1))]) (w' := w) (n' := 142) rfl ?_
              refine qG.ret rfl rfl ?_
              subst hQ9
              exact ⟨_, rfl, .inl ⟨by unfold odB; first | exact .inr (.inr (.inr (.inr hs0))) | exact .inr (.inl hD0) | exact .inr (.inr (.inl (by omega))) | exact .inr (.inr (.inr (.inl (isV_o (by omega))))), rfl⟩⟩
            · skip
              refine qG.blk 2 (pc' := 48) (ls' := [(2, 1), (0, 2), (0, ((D9 : Nat) : Int)), (0, ((W9 : Nat) : Int)), (0, ((s9 : Nat) : Int)), (0, v)]) (st' := [(2, w 1 5)]) (w' := w) (n' := 142) rfl ?_
              rw [show w 1 5 = 23 from zref hI rfl rfl]
              refine qG.blk 2 (pc' := 52) (ls' := [(2, 1), (0, 2), (0, ((D9 : Nat) : Int)), (0, ((W9 : Nat) : Int)), (0, ((s9 : Nat) : Int)), (0, v)]) (st' := [(2, w 1 0), (2, 23)]) (w' := w) (n' := 142) rfl ?_
              rw [show w 1 0 = 2 from zref hI rfl rfl]
              refine qG.blk 1 (pc' := 53) (ls' := [(2, 1), (0, 2), (0, ((D9 : Nat) : Int)), (0, ((W9 : Nat) : Int)), (0, ((s9 : Nat) : Int)), (0, v)]) (st' := [(0, 2), (2, 2), (2, 23)]) (w' := w) (n' := 142) rfl ?_
              refine qG.ar (P := 0 ≤ 2 ∧ 2 < ((3 : Nat) : Int)) (P2 := 0 < (2 : Int) ∧ (2 : Int) ≤ ((142 : Nat) : Int)) (pc' := 54) (ls' := [(2, 1), (0, 2), (0, ((D9 : Nat) : Int)), (0, ((W9 : Nat) : Int)), (0, ((s9 : Nat) : Int)), (0, v)]) (st' := [(2, w 2 2), (2, 23)]) (w' := w) (n' := 142) rfl (by omega) (by decide) ?_
              rw [show w 2 2 = 74 from zref hI rfl rfl]
              refine qG.blk 3 (pc' := 58) (ls' := [(2, 1), (0, 2), (0, ((D9 : Nat) : Int)), (0, ((W9 : Nat) : Int)), (0, ((s9 : Nat) : Int)), (0, v)]) (st' := [(0, ((s9 : Nat) : Int)), (0, ((W9 : Nat) : Int)), (0, ((D9 : Nat) : Int)), (2, 74), (2, 23)]) (w' := w) (n' := 142) rfl ?_
              refine qG.call (t := 42) (na := 5) (sk := 1) (md := 1) (ls1 := [(2, 23), (2, 74), (0, ((D9 : Nat) : Int)), (0, ((W9 : Nat) : Int)), (0, ((s9 : Nat) : Int)), (9, 0)]) (r1 := []) rfl rfl rfl rfl rfl (K_findRow74 (by omega) s9 (by omega) (by omega) D9 W9 (by omega) (by omega) (by rw [trD_0 D9 (by omega)]; rw [bitsF_pc (by omega) 16 (by decide)] at hb4; omega) n w hI hJ (hJ.1 2 (by decide)) hE) ?_
              rintro _ w1 _ ⟨rfl, rfl, hI1, hC1⟩
              show qG none (d + 1) 176 61 [(2, 1), (0, 2), (0, ((D9 : Nat) : Int)), (0, ((W9 : Nat) : Int)), (0, ((s9 : Nat) : Int)), (0, v)] [] w1 142 Q9
              refine qG.blk 2 (pc' := 65) (ls' := [(2, 1), (0, 2), (0, ((D9 : Nat) : Int)), (0, ((W9 : Nat) : Int)), (0, ((s9 : Nat) : Int)), (0, v)]) (st' := [(2, w1 1 5)]) (w' := w1) (n' := 142) rfl ?_
              rw [show w1 1 5 = 23 from zref hI1 rfl rfl]
              refine qG.blk 1 (pc' := 67) (ls' := [(2, 1), (0, 2), (0, ((D9 : Nat) : Int)), (0, ((W9 : Nat) : Int)), (0, ((s9 : Nat) : Int)), (0, v)]) (st' := [(0, v), (2, 23)]) (w' := w1) (n' := 142) rfl ?_
              refine qG.call (t := 43) (na := 2) (sk := 1) (md := 1) (ls1 := [(2, 23), (0, v), (9, 0)]) (r1 := []) rfl rfl rfl rfl rfl (K_rowFact (by omega) v hv _ w1 hI1 hC1) ?_
              rintro _ w2 _ ⟨rfl, rfl⟩
              show qG none (d + 1) 176 70 [(2, 1), (0, 2), (0, ((D9 : Nat) : Int)), (0, ((W9 : Nat) : Int)), (0, ((s9 : Nat) : Int)), (0, v)] [(0, odA (odS w 2 D9 (W9 : Int) s9) v)] w2 142 Q9
              refine qG.ret rfl rfl ?_
              subst hQ9
              refine ⟨_, rfl, .inr ⟨fun z => ?_, ?_⟩⟩
              · unfold odB at z; exact z.elim (fun z => absurd z (by decide)) (fun z => z.elim hD0 (fun z => z.elim (fun z => by omega) (fun z => z.elim (isV_i (by omega)) hs0)))
              · rw [Int.toNat_natCast, Int.toNat_natCast]; rfl
theorem K_X11_orderA_n {d : Nat} (hd : 33 ≤ d) (c D W s v : Int) (hc : isInV c 0 2 = 0) (w : qW) (hI : yInv zgf zga zra zSp w) : qG none d 176 0 [(2, 1), (0, c), (0, D), (0, W), (0, s), (0, v)] [] w 142 (fun (r : qV) (_ : qW) (_ : Nat) => ∃ x, r = (0, x) ∧ ORT w c D W s v x) := by
  generalize hQ9 : (fun (r : qV) (_ : qW) (_ : Nat) => ∃ x, r = (0, x) ∧ ORT w c D W s v x) = Q9
  obtain ⟨d, rfl⟩ : ∃ d9, d = d9 + 1 := ⟨d - 1, by omega⟩
  refine qG.blk 1 (pc' := 1) (ls' := [(2, 1), (0, c), (0, D), (0, W), (0, s), (0, v)]) (st' := [(0, c)]) (w' := w) (n' := 142) rfl ?_
  refine qG.call (t := 198) (na := 1) (sk := 0) (md := 0) (ls1 := [(0, c)]) (r1 := []) rfl rfl rfl rfl rfl (K_X11_isChest (Nat.zero_le _) _ _) ?_
  rintro _ w7 _ ⟨rfl, hw7, rfl⟩
  rw [hw7]
  show qG none (d + 1) 176 4 [(2, 1), (0, c), (0, D), (0, W), (0, s), (0, v)] [(0, isInV c 0 2)] w 142 Q9
  refine qG.br (P := isInV c 0 2 = 0) (pc1 := 22) (pc2 := 7) (st1 := []) rfl (fun hc0 => ?_) (fun hc0 => ?_)
  · skip
    refine qG.blk 1 (pc' := 23) (ls' := [(2, 1), (0, c), (0, D), (0, W), (0, s), (0, v)]) (st' := [(0, (-1))]) (w' := w) (n' := 142) rfl ?_
    refine qG.ret rfl rfl ?_
    subst hQ9
    exact ⟨_, rfl, .inl ⟨.inl hc, rfl⟩⟩
  · exfalso; exact hc0 hc
theorem K_X11_orderA {d : Nat} (hd : 33 ≤ d) (c D W s v : Int) (hv : v ≤ 2147483647) (n : Nat) (w : qW) (hI : yInv zgf zga zra zSp w) (hJ : J9 n w) (hE : JE w) (_ : JR w) : qG none d 176 0 (qini 176 [(2, 1), (0, c), (0, D), (0, W), (0, s), (0, v)]) [] w 142 (fun (r : qV) (_ : qW) (_ : Nat) => ∃ x, r = (0, x) ∧ ORT w c D W s v x) := by
  by_cases h : isInV c 0 2 = 0
  · exact K_X11_orderA_n hd c D W s v h w hI
  · obtain ⟨m, rfl, h1, h2⟩ := isIn_n (by decide) h
    rcases (show m = 0 ∨ m = 1 ∨ m = 2 by omega) with rfl | rfl | rfl
    · exact K_X11_orderA_0 hd D W s v hv n w hI hJ hE
    · exact K_X11_orderA_1 hd D W s v hv n w hI hJ hE
    · exact K_X11_orderA_2 hd D W s v hv n w hI hJ hE
