/-! order: the class's rows of doors -/
theorem hz_0 {N : Nat} {P : Nat → Int} {M : Nat → Nat → Bool} {V : Nat → Int} {t : Nat} (hrf : ∀ i, i < N → M i i = true) (hv : V t = 0) (h : ¬ hzE (hz N P M V t)) : ¬ hzE (hz N P M V (t + 1)) := fun z => h (fun i => by
  cases hb : hz N P M V t i with
  | false => rfl
  | true =>
    by_cases hi : i < N
    · have y := z i
      rw [hz_s, hv, qand_z0, decide_eq_true hi, decide_eq_true rfl, Bool.true_and, Bool.true_and] at y
      have q : exN (fun k => hz N P M V t k && M k i) N = true := exN_iff.mpr ⟨i, hi, by show (hz N P M V t i && M i i) = true; rw [hb, hrf i hi]; rfl⟩
      rw [q] at y; cases y
    · rw [hz_N hi] at hb; cases hb)
theorem cp_q {w : qW} : qcpy w 32 39 0 0 4 = qup (qup (qup (qup w 39 0 (w 32 0)) 39 1 (w 32 1)) 39 2 (w 32 2)) 39 3 (w 32 3) := by
  funext p j
  by_cases hp : p = 39
  · subst hp
    show (if 0 ≤ j ∧ j < 0 + 4 then w 32 (0 + (j - 0)) else w 39 j) = _
    rcases (show j = 0 ∨ j = 1 ∨ j = 2 ∨ j = 3 ∨ 4 ≤ j by omega) with e | e | e | e | e
    · rw [e, if_pos (by omega), qup_j (by omega), qup_j (by omega), qup_j (by omega), qup_k]
    · rw [e, if_pos (by omega), qup_j (by omega), qup_j (by omega), qup_k]
    · rw [e, if_pos (by omega), qup_j (by omega), qup_k]
    · rw [e, if_pos (by omega), qup_k]
    · rw [if_neg (by omega), qup_j (by omega), qup_j (by omega), qup_j (by omega), qup_j (by omega)]
  · rw [show qcpy w 32 39 0 0 4 p = w p from if_neg hp, qup_nq hp, qup_nq hp, qup_nq hp, qup_nq hp]
theorem bits_36 {x : Int} (h0 : 0 ≤ x) (h1 : x ≤ 65535) : bitsF x 30 = bitsF x 16 := by
  obtain ⟨n, rfl⟩ : ∃ n : Nat, x = (n : Int) := ⟨x.toNat, by omega⟩
  rw [bitsF_n (by omega) 30 (by decide), bitsF_n (by omega) 16 (by decide), pcn_h (by omega)]
/-- the class holds s as what it kept -/
noncomputable def OCs (w : qW) (s : oSt) : Prop := w 23 13 = s.1 ∧ w 23 14 = s.2.1 ∧ ∀ k : Nat, (k : Int) < s.1 → w 39 k = s.2.2 k
theorem OCs.cg {w w1 : qW} {s : oSt} (h : OCs w s) (e1 : w1 23 13 = w 23 13) (e2 : w1 23 14 = w 23 14) (e3 : ∀ k, w1 39 k = w 39 k) : OCs w1 s := ⟨e1.trans h.1, e2.trans h.2.1, fun k hk => (e3 k).trans (h.2.2 k hk)⟩
/-- what the class's rows stand on: the table of poses, the set of doors, the wait, the doors' views -/
noncomputable def OW (N : Nat) (P : Nat → Int) (M : Nat → Nat → Bool) (D W : Nat) (fv : Nat → Int) (w : qW) : Prop := CTB N P M w ∧ w 23 7 = (D : Int) ∧ w 23 8 = (W : Int) ∧ ∀ j, j < 10 → w 31 j = fv j
/-- what tryRows leaves from the row n on -/
noncomputable def OFR (n : Nat) (w w1 : qW) : Prop := ∀ q j, ¬ (27 ≤ q ∧ q ≤ 29) → ¬ (34 + n < q ∧ q ≤ 38) → q ≠ 39 → ¬ (q = 32 ∧ n ≤ j) → ¬ (q = 23 ∧ 13 ≤ j ∧ j ≤ 14) → w1 q j = w q j
theorem OFR.tr {n m : Nat} {w w1 w2 : qW} (h : OFR n w w1) (h2 : OFR m w1 w2) (hm : n ≤ m) : OFR n w w2 := fun q j a b c d e => (h2 q j a (by omega) c (by omega) e).trans (h q j a b c d e)
theorem OW.cg {N : Nat} {P : Nat → Int} {M : Nat → Nat → Bool} {D W : Nat} {fv : Nat → Int} {n : Nat} {w w1 : qW} (h : OW N P M D W fv w) (e : OFR n w w1) : OW N P M D W fv w1 := ⟨h.1.cg (fun q j hq => e q j (by omega) (by omega) (by omega) (by omega) (by omega)), (e 23 7 (by omega) (by omega) (by omega) (by omega) (by omega)).trans h.2.1, (e 23 8 (by omega) (by omega) (by omega) (by omega) (by omega)).trans h.2.2.1, fun j hj => (e 31 j (by omega) (by omega) (by omega) (by omega) (by omega)).trans (h.2.2.2 j hj)⟩
theorem OFR.hold {n m : Nat} {w w1 : qW} {f : Nat → Bool} (e : OFR n w w1) (hm : m ≤ n) (hm4 : m ≤ 4) (h : HOLD w (34 + m) f) : HOLD w1 (34 + m) f := fun j hj => by
  rw [show sb w1 (34 + m) j = sb w (34 + m) j from by unfold sb; rw [e (34 + m) _ (by omega) (by omega) (by omega) (by omega) (by omega)]]
  exact h j hj
theorem K_pass0 {d : Nat} (hd : 4 ≤ d) (N : Nat) (P : Nat → Int) (M : Nat → Nat → Bool) (V : Nat → Int) (S W : Nat) (v : Int) (hW5 : W ≤ 5) (hV0 : V S = 0) (hVv : ∀ u, u < 1 + W → V (S + 1 + u) = v) (hV1 : V (S + 1 + (1 + W)) = 0) (hrf : ∀ i, i < N → M i i = true) (w : qW) (hI : yInv zgf zga zra zSp w) (hT : CTB N P M w) (hw8 : w 23 8 = (W : Int)) (hH : HOLD w 34 (hz N P M V S)) (hne : ¬ hzE (hz N P M V S)) : qG none d 47 0 [(2, 23), (0, v), (2, 34), (2, 35)] [] w 142 (fun (r : qV) (w1 : qW) (n1 : Nat) => n1 = 142 ∧ yInv zgf zga zra zSp w1 ∧ (∀ q j, ¬ (27 ≤ q ∧ q ≤ 29) → q ≠ 35 → w1 q j = w q j) ∧ ((r = (0, 1) ∧ HOLD w1 35 (hz N P M V (S + 1 + (1 + W) + 1)) ∧ ¬ hzE (hz N P M V (S + 1 + (1 + W) + 1))) ∨ (r = (0, 0) ∧ hzE (hz N P M V (S + 1 + (1 + W) + 1))))) := by
  generalize hQ9 : (fun (r : qV) (w1 : qW) (n1 : Nat) => n1 = 142 ∧ yInv zgf zga zra zSp w1 ∧ (∀ q j, ¬ (27 ≤ q ∧ q ≤ 29) → q ≠ 35 → w1 q j = w q j) ∧ ((r = (0, 1) ∧ HOLD w1 35 (hz N P M V (S + 1 + (1 + W) + 1)) ∧ ¬ hzE (hz N P M V (S + 1 + (1 + W) + 1))) ∨ (r = (0, 0) ∧ hzE (hz N P M V (S + 1 + (1 + W) + 1))))) = Q9
  obtain ⟨d, rfl⟩ : ∃ d9, d = d9 + 1 := ⟨d - 1, by omega⟩
  refine qG.blk 2 (pc' := 4) (ls' := [(2, 23), (0, v), (2, 34), (2, 35)]) (st' := [(2, w 23 0)]) (w' := w) (n' := 142) rfl ?_
  rw [show w 23 0 = 24 from zref hI rfl rfl]
  refine qG.blk 3 (pc' := 9) (ls' := [(2, 23), (0, v), (2, 34), (2, 35)]) (st' := [(2, w 23 3), (0, v), (2, 24)]) (w' := w) (n' := 142) rfl ?_
  rw [show w 23 3 = 29 from zref hI rfl rfl]
  refine qG.call (t := 103) (na := 3) (sk := 1) (md := 1) (ls1 := [(2, 24), (0, v), (2, 29), (9, 0), (9, 0)]) (r1 := []) rfl rfl rfl rfl rfl (K_unseen29 (by omega) v N hT.1 w hI hT.2.1) ?_
  rintro _ wU _ ⟨rfl, rfl, hRU⟩
  have hIU := hRU.2.2
  have hUf : (∀ q j, ¬ (27 ≤ q ∧ q ≤ 29) → q ≠ 35 → wU q j = w q j) := fun q j x y => hRU.2.1 q j (by omega)
  have hTU := hT.cg (w1 := wU) (fun q j h => hRU.2.1 q j (by omega))
  have hU29 : HOLD wU 29 (fun j => decide (j < N) && decide (qand (P j) v = 0)) := fun j hj => by
    rw [show sb wU 29 j = (decide (j < N) && decide (qand (w 25 j) v = 0)) from hRU.1 j hj]
    show _ = (decide (j < N) && decide (qand (P j) v = 0))
    by_cases hjN : j < N
    · rw [hT.2.2.1 j hjN]
    · rw [decide_eq_false hjN, Bool.false_and, Bool.false_and]
  show qG none (d + 1) 47 12 [(2, 23), (0, v), (2, 34), (2, 35)] [] wU 142 Q9
  refine qG.blk 2 (pc' := 16) (ls' := [(2, 23), (0, v), (2, 34), (2, 35)]) (st' := [(2, wU 23 0)]) (w' := wU) (n' := 142) rfl ?_
  rw [show wU 23 0 = 24 from (hUf 23 0 (by decide) (by decide)).trans (zref hI rfl rfl)]
  refine qG.blk 3 (pc' := 21) (ls' := [(2, 23), (0, v), (2, 34), (2, 35)]) (st' := [(2, wU 23 1), (2, 34), (2, 24)]) (w' := wU) (n' := 142) rfl ?_
  rw [show wU 23 1 = 27 from (hUf 23 1 (by decide) (by decide)).trans (zref hI rfl rfl)]
  refine qG.call (t := 101) (na := 3) (sk := 1) (md := 1) (ls1 := [(2, 24), (2, 34), (2, 27), (9, 0), (9, 0), (9, 0), (9, 0), (9, 0), (9, 0), (9, 0), (9, 0), (9, 0), (9, 0), (9, 0)]) (r1 := []) rfl rfl rfl rfl rfl (K_spread34_27 (by omega) wU hIU) ?_
  rintro _ wA _ ⟨rfl, rfl, hRA⟩
  have hIA := hRA.2.2
  have hAf : (∀ q j, ¬ (27 ≤ q ∧ q ≤ 29) → q ≠ 35 → wA q j = w q j) := fun q j x y => (hRA.2.1 q j (by omega)).trans (hUf q j x y)
  have hTA := hTU.cg (w1 := wA) (fun q j h => hRA.2.1 q j (by omega))
  have hHU : HOLD wU 34 (hz N P M V S) := fun j hj => by rw [hRU.o (by decide)]; exact hH j hj
  have hA27 : HOLD wA 27 (hz N P M V (S + 1)) := fun j hj => by rw [show sb wA 27 j = spF wU 34 j 192 from hRA.1 j hj, hHU.sp hTU (fun j hj => hz_N hj) hj, hz_s, hV0, qand_z0, decide_eq_true rfl, Bool.true_and]
  have hA29 : HOLD wA 29 (fun j => decide (j < N) && decide (qand (P j) v = 0)) := fun j hj => by rw [hRA.o (by decide)]; exact hU29 j hj
  show qG none (d + 1) 47 24 [(2, 23), (0, v), (2, 34), (2, 35)] [] wA 142 Q9
  refine qG.blk 4 (pc' := 30) (ls' := [(2, 23), (0, v), (2, 34), (2, 35)]) (st' := [(0, wA 23 8), (0, 1), (2, 23)]) (w' := wA) (n' := 142) rfl ?_
  rw [show wA 23 8 = ((W : Nat) : Int) from (hAf 23 8 (by decide) (by decide)).trans hw8]
  refine qG.blk 1 (pc' := 31) (ls' := [(2, 23), (0, v), (2, 34), (2, 35)]) (st' := [(0, wrp (1 + ((W : Nat) : Int))), (2, 23)]) (w' := wA) (n' := 142) rfl ?_
  rw [show wrp (1 + ((W : Nat) : Int)) = ((1 + W : Nat) : Int) from by rw [wrp_id (by omega) (by omega)]; omega]
  refine qG.call (t := 36) (na := 2) (sk := 1) (md := 1) (ls1 := [(2, 23), (0, ((1 + W : Nat) : Int)), (9, 0)]) (r1 := []) rfl rfl rfl rfl rfl (K_stayU (by omega) N P M V (S + 1) (1 + W) v (by omega) hVv wA hIA hTA hA27 hA29 (hz_0 hrf hV0 hne)) ?_
  rintro _ wX _ ⟨rfl, hX9, hIX, ⟨rfl, hX27, hXE⟩ | ⟨e, he, rfl, hX27, hXE, hXE2⟩⟩ <;> have hXf : (∀ q j, ¬ (27 ≤ q ∧ q ≤ 29) → q ≠ 35 → wX q j = w q j) := fun q j x y => (hX9 q j (by omega) (by omega)).trans (hAf q j x y)
  · skip
    show qG none (d + 1) 47 34 [(2, 23), (0, v), (2, 34), (2, 35)] [(0, ((1 + W : Nat) : Int))] wX 142 Q9
    refine qG.blk 3 (pc' := 39) (ls' := [(2, 23), (0, v), (2, 34), (2, 35)]) (st' := [(0, wX 23 8), (0, 1), (0, ((1 + W : Nat) : Int))]) (w' := wX) (n' := 142) rfl ?_
    rw [show wX 23 8 = ((W : Nat) : Int) from (hXf 23 8 (by decide) (by decide)).trans hw8]
    refine qG.blk 1 (pc' := 40) (ls' := [(2, 23), (0, v), (2, 34), (2, 35)]) (st' := [(0, wrp (1 + ((W : Nat) : Int))), (0, ((1 + W : Nat) : Int))]) (w' := wX) (n' := 142) rfl ?_
    rw [show wrp (1 + ((W : Nat) : Int)) = ((1 + W : Nat) : Int) from by rw [wrp_id (by omega) (by omega)]; omega]
    refine qG.br (P := ((1 + W : Nat) : Int) < ((1 + W : Nat) : Int)) (pc1 := 43) (pc2 := 45) (st1 := []) rfl (fun h40 => ?_) (fun h40 => ?_)
    · skip
      refine qG.blk 1 (pc' := 44) (ls' := [(2, 23), (0, v), (2, 34), (2, 35)]) (st' := [(0, 0)]) (w' := wX) (n' := 142) rfl ?_
      refine qG.ret rfl (by first | rfl | exact decide_eq_true (by omega)) ?_
      subst hQ9
      first | (exfalso; omega) | exact ⟨rfl, hIX, hXf, .inr ⟨rfl, by have z := hzE_u hXE2 (1 + W - e); rw [show S + 1 + e + 1 + (1 + W - e) = S + 1 + (1 + W) + 1 by omega] at z; exact z⟩⟩
    · skip
      refine qG.blk 2 (pc' := 49) (ls' := [(2, 23), (0, v), (2, 34), (2, 35)]) (st' := [(2, wX 23 0)]) (w' := wX) (n' := 142) rfl ?_
      rw [show wX 23 0 = 24 from (hXf 23 0 (by decide) (by decide)).trans (zref hI rfl rfl)]
      refine qG.blk 2 (pc' := 53) (ls' := [(2, 23), (0, v), (2, 34), (2, 35)]) (st' := [(2, wX 23 1), (2, 24)]) (w' := wX) (n' := 142) rfl ?_
      rw [show wX 23 1 = 27 from (hXf 23 1 (by decide) (by decide)).trans (zref hI rfl rfl)]
      refine qG.blk 1 (pc' := 54) (ls' := [(2, 23), (0, v), (2, 34), (2, 35)]) (st' := [(2, 35), (2, 27), (2, 24)]) (w' := wX) (n' := 142) rfl ?_
      refine qG.call (t := 101) (na := 3) (sk := 1) (md := 1) (ls1 := [(2, 24), (2, 27), (2, 35), (9, 0), (9, 0), (9, 0), (9, 0), (9, 0), (9, 0), (9, 0), (9, 0), (9, 0), (9, 0), (9, 0)]) (r1 := []) rfl rfl rfl rfl rfl (K_spread27_35 (by omega) wX hIX) ?_
      rintro _ wB _ ⟨rfl, rfl, hRB⟩
      show qG none (d + 1) 47 57 [(2, 23), (0, v), (2, 34), (2, 35)] [] wB 142 Q9
      refine qG.blk 1 (pc' := 58) (ls' := [(2, 23), (0, v), (2, 34), (2, 35)]) (st' := [(0, 1)]) (w' := wB) (n' := 142) rfl ?_
      refine qG.ret rfl (by first | rfl | exact decide_eq_true (by omega)) ?_
      subst hQ9
      first | (exfalso; omega) | exact ⟨rfl, hRB.2.2, fun q j x y => (hRB.2.1 q j y).trans (hXf q j x y), .inl ⟨rfl, fun j hj => by rw [show sb wB 35 j = spF wX 27 j 192 from hRB.1 j hj, hX27.sp (hTA.cg (fun q j h => hX9 q j (by omega) (by omega))) (fun j hj => hz_N hj) hj, hz_s, hV1, qand_z0, decide_eq_true rfl, Bool.true_and], hz_0 hrf hV1 hXE⟩⟩
  · skip
    show qG none (d + 1) 47 34 [(2, 23), (0, v), (2, 34), (2, 35)] [(0, ((e : Nat) : Int))] wX 142 Q9
    refine qG.blk 3 (pc' := 39) (ls' := [(2, 23), (0, v), (2, 34), (2, 35)]) (st' := [(0, wX 23 8), (0, 1), (0, ((e : Nat) : Int))]) (w' := wX) (n' := 142) rfl ?_
    rw [show wX 23 8 = ((W : Nat) : Int) from (hXf 23 8 (by decide) (by decide)).trans hw8]
    refine qG.blk 1 (pc' := 40) (ls' := [(2, 23), (0, v), (2, 34), (2, 35)]) (st' := [(0, wrp (1 + ((W : Nat) : Int))), (0, ((e : Nat) : Int))]) (w' := wX) (n' := 142) rfl ?_
    rw [show wrp (1 + ((W : Nat) : Int)) = ((1 + W : Nat) : Int) from by rw [wrp_id (by omega) (by omega)]; omega]
    refine qG.br (P := ((e : Nat) : Int) < ((1 + W : Nat) : Int)) (pc1 := 43) (pc2 := 45) (st1 := []) rfl (fun h40 => ?_) (fun h40 => ?_)
    · skip
      refine qG.blk 1 (pc' := 44) (ls' := [(2, 23), (0, v), (2, 34), (2, 35)]) (st' := [(0, 0)]) (w' := wX) (n' := 142) rfl ?_
      refine qG.ret rfl (by first | rfl | exact decide_eq_true (by omega)) ?_
      subst hQ9
      first | (exfalso; omega) | exact ⟨rfl, hIX, hXf, .inr ⟨rfl, by have z := hzE_u hXE2 (1 + W - e); rw [show S + 1 + e + 1 + (1 + W - e) = S + 1 + (1 + W) + 1 by omega] at z; exact z⟩⟩
    · skip
      refine qG.blk 2 (pc' := 49) (ls' := [(2, 23), (0, v), (2, 34), (2, 35)]) (st' := [(2, wX 23 0)]) (w' := wX) (n' := 142) rfl ?_
      rw [show wX 23 0 = 24 from (hXf 23 0 (by decide) (by decide)).trans (zref hI rfl rfl)]
      refine qG.blk 2 (pc' := 53) (ls' := [(2, 23), (0, v), (2, 34), (2, 35)]) (st' := [(2, wX 23 1), (2, 24)]) (w' := wX) (n' := 142) rfl ?_
      rw [show wX 23 1 = 27 from (hXf 23 1 (by decide) (by decide)).trans (zref hI rfl rfl)]
      refine qG.blk 1 (pc' := 54) (ls' := [(2, 23), (0, v), (2, 34), (2, 35)]) (st' := [(2, 35), (2, 27), (2, 24)]) (w' := wX) (n' := 142) rfl ?_
      refine qG.call (t := 101) (na := 3) (sk := 1) (md := 1) (ls1 := [(2, 24), (2, 27), (2, 35), (9, 0), (9, 0), (9, 0), (9, 0), (9, 0), (9, 0), (9, 0), (9, 0), (9, 0), (9, 0), (9, 0)]) (r1 := []) rfl rfl rfl rfl rfl (K_spread27_35 (by omega) wX hIX) ?_
      rintro _ wB _ ⟨rfl, rfl, hRB⟩
      show qG none (d + 1) 47 57 [(2, 23), (0, v), (2, 34), (2, 35)] [] wB 142 Q9
      refine qG.blk 1 (pc' := 58) (ls' := [(2, 23), (0, v), (2, 34), (2, 35)]) (st' := [(0, 1)]) (w' := wB) (n' := 142) rfl ?_
      refine qG.ret rfl (by first | rfl | exact decide_eq_true (by omega)) ?_
      subst hQ9
      first | (exfalso; omega) | exact ⟨rfl, hRB.2.2, fun q j x y => (hRB.2.1 q j y).trans (hXf q j x y), .inl ⟨rfl, fun j hj => by rw [show sb wB 35 j = spF wX 27 j 192 from hRB.1 j hj, hX27.sp (hTA.cg (fun q j h => hX9 q j (by omega) (by omega))) (fun j hj => hz_N hj) hj, hz_s, hV1, qand_z0, decide_eq_true rfl, Bool.true_and], hz_0 hrf hV1 hXE⟩⟩
theorem K_pass1 {d : Nat} (hd : 4 ≤ d) (N : Nat) (P : Nat → Int) (M : Nat → Nat → Bool) (V : Nat → Int) (S W : Nat) (v : Int) (hW5 : W ≤ 5) (hV0 : V S = 0) (hVv : ∀ u, u < 1 + W → V (S + 1 + u) = v) (hV1 : V (S + 1 + (1 + W)) = 0) (hrf : ∀ i, i < N → M i i = true) (w : qW) (hI : yInv zgf zga zra zSp w) (hT : CTB N P M w) (hw8 : w 23 8 = (W : Int)) (hH : HOLD w 35 (hz N P M V S)) (hne : ¬ hzE (hz N P M V S)) : qG none d 47 0 [(2, 23), (0, v), (2, 35), (2, 36)] [] w 142 (fun (r : qV) (w1 : qW) (n1 : Nat) => n1 = 142 ∧ yInv zgf zga zra zSp w1 ∧ (∀ q j, ¬ (27 ≤ q ∧ q ≤ 29) → q ≠ 36 → w1 q j = w q j) ∧ ((r = (0, 1) ∧ HOLD w1 36 (hz N P M V (S + 1 + (1 + W) + 1)) ∧ ¬ hzE (hz N P M V (S + 1 + (1 + W) + 1))) ∨ (r = (0, 0) ∧ hzE (hz N P M V (S + 1 + (1 + W) + 1))))) := by
  generalize hQ9 : (fun (r : qV) (w1 : qW) (n1 : Nat) => n1 = 142 ∧ yInv zgf zga zra zSp w1 ∧ (∀ q j, ¬ (27 ≤ q ∧ q ≤ 29) → q ≠ 36 → w1 q j = w q j) ∧ ((r = (0, 1) ∧ HOLD w1 36 (hz N P M V (S + 1 + (1 + W) + 1)) ∧ ¬ hzE (hz N P M V (S + 1 + (1 + W) + 1))) ∨ (r = (0, 0) ∧ hzE (hz N P M V (S + 1 + (1 + W) + 1))))) = Q9
  obtain ⟨d, rfl⟩ : ∃ d9, d = d9 + 1 := ⟨d - 1, by omega⟩
  refine qG.blk 2 (pc' := 4) (ls' := [(2, 23), (0, v), (2, 35), (2, 36)]) (st' := [(2, w 23 0)]) (w' := w) (n' := 142) rfl ?_
  rw [show w 23 0 = 24 from zref hI rfl rfl]
  refine qG.blk 3 (pc' := 9) (ls' := [(2, 23), (0, v), (2, 35), (2, 36)]) (st' := [(2, w 23 3), (0, v), (2, 24)]) (w' := w) (n' := 142) rfl ?_
  rw [show w 23 3 = 29 from zref hI rfl rfl]
  refine qG.call (t := 103) (na := 3) (sk := 1) (md := 1) (ls1 := [(2, 24), (0, v), (2, 29), (9, 0), (9, 0)]) (r1 := []) rfl rfl rfl rfl rfl (K_unseen29 (by omega) v N hT.1 w hI hT.2.1) ?_
  rintro _ wU _ ⟨rfl, rfl, hRU⟩
  have hIU := hRU.2.2
  have hUf : (∀ q j, ¬ (27 ≤ q ∧ q ≤ 29) → q ≠ 36 → wU q j = w q j) := fun q j x y => hRU.2.1 q j (by omega)
  have hTU := hT.cg (w1 := wU) (fun q j h => hRU.2.1 q j (by omega))
  have hU29 : HOLD wU 29 (fun j => decide (j < N) && decide (qand (P j) v = 0)) := fun j hj => by
    rw [show sb wU 29 j = (decide (j < N) && decide (qand (w 25 j) v = 0)) from hRU.1 j hj]
    show _ = (decide (j < N) && decide (qand (P j) v = 0))
    by_cases hjN : j < N
    · rw [hT.2.2.1 j hjN]
    · rw [decide_eq_false hjN, Bool.false_and, Bool.false_and]
  show qG none (d + 1) 47 12 [(2, 23), (0, v), (2, 35), (2, 36)] [] wU 142 Q9
  refine qG.blk 2 (pc' := 16) (ls' := [(2, 23), (0, v), (2, 35), (2, 36)]) (st' := [(2, wU 23 0)]) (w' := wU) (n' := 142) rfl ?_
  rw [show wU 23 0 = 24 from (hUf 23 0 (by decide) (by decide)).trans (zref hI rfl rfl)]
  refine qG.blk 3 (pc' := 21) (ls' := [(2, 23), (0, v), (2, 35), (2, 36)]) (st' := [(2, wU 23 1), (2, 35), (2, 24)]) (w' := wU) (n' := 142) rfl ?_
  rw [show wU 23 1 = 27 from (hUf 23 1 (by decide) (by decide)).trans (zref hI rfl rfl)]
  refine qG.call (t := 101) (na := 3) (sk := 1) (md := 1) (ls1 := [(2, 24), (2, 35), (2, 27), (9, 0), (9, 0), (9, 0), (9, 0), (9, 0), (9, 0), (9, 0), (9, 0), (9, 0), (9, 0), (9, 0)]) (r1 := []) rfl rfl rfl rfl rfl (K_spread35_27 (by omega) wU hIU) ?_
  rintro _ wA _ ⟨rfl, rfl, hRA⟩
  have hIA := hRA.2.2
  have hAf : (∀ q j, ¬ (27 ≤ q ∧ q ≤ 29) → q ≠ 36 → wA q j = w q j) := fun q j x y => (hRA.2.1 q j (by omega)).trans (hUf q j x y)
  have hTA := hTU.cg (w1 := wA) (fun q j h => hRA.2.1 q j (by omega))
  have hHU : HOLD wU 35 (hz N P M V S) := fun j hj => by rw [hRU.o (by decide)]; exact hH j hj
  have hA27 : HOLD wA 27 (hz N P M V (S + 1)) := fun j hj => by rw [show sb wA 27 j = spF wU 35 j 192 from hRA.1 j hj, hHU.sp hTU (fun j hj => hz_N hj) hj, hz_s, hV0, qand_z0, decide_eq_true rfl, Bool.true_and]
  have hA29 : HOLD wA 29 (fun j => decide (j < N) && decide (qand (P j) v = 0)) := fun j hj => by rw [hRA.o (by decide)]; exact hU29 j hj
  show qG none (d + 1) 47 24 [(2, 23), (0, v), (2, 35), (2, 36)] [] wA 142 Q9
  refine qG.blk 4 (pc' := 30) (ls' := [(2, 23), (0, v), (2, 35), (2, 36)]) (st' := [(0, wA 23 8), (0, 1), (2, 23)]) (w' := wA) (n' := 142) rfl ?_
  rw [show wA 23 8 = ((W : Nat) : Int) from (hAf 23 8 (by decide) (by decide)).trans hw8]
  refine qG.blk 1 (pc' := 31) (ls' := [(2, 23), (0, v), (2, 35), (2, 36)]) (st' := [(0, wrp (1 + ((W : Nat) : Int))), (2, 23)]) (w' := wA) (n' := 142) rfl ?_
  rw [show wrp (1 + ((W : Nat) : Int)) = ((1 + W : Nat) : Int) from by rw [wrp_id (by omega) (by omega)]; omega]
  refine qG.call (t := 36) (na := 2) (sk := 1) (md := 1) (ls1 := [(2, 23), (0, ((1 + W : Nat) : Int)), (9, 0)]) (r1 := []) rfl rfl rfl rfl rfl (K_stayU (by omega) N P M V (S + 1) (1 + W) v (by omega) hVv wA hIA hTA hA27 hA29 (hz_0 hrf hV0 hne)) ?_
  rintro _ wX _ ⟨rfl, hX9, hIX, ⟨rfl, hX27, hXE⟩ | ⟨e, he, rfl, hX27, hXE, hXE2⟩⟩ <;> have hXf : (∀ q j, ¬ (27 ≤ q ∧ q ≤ 29) → q ≠ 36 → wX q j = w q j) := fun q j x y => (hX9 q j (by omega) (by omega)).trans (hAf q j x y)
  · skip
    show qG none (d + 1) 47 34 [(2, 23), (0, v), (2, 35), (2, 36)] [(0, ((1 + W : Nat) : Int))] wX 142 Q9
    refine qG.blk 3 (pc' := 39) (ls' := [(2, 23), (0, v), (2, 35), (2, 36)]) (st' := [(0, wX 23 8), (0, 1), (0, ((1 + W : Nat) : Int))]) (w' := wX) (n' := 142) rfl ?_
    rw [show wX 23 8 = ((W : Nat) : Int) from (hXf 23 8 (by decide) (by decide)).trans hw8]
    refine qG.blk 1 (pc' := 40) (ls' := [(2, 23), (0, v), (2, 35), (2, 36)]) (st' := [(0, wrp (1 + ((W : Nat) : Int))), (0, ((1 + W : Nat) : Int))]) (w' := wX) (n' := 142) rfl ?_
    rw [show wrp (1 + ((W : Nat) : Int)) = ((1 + W : Nat) : Int) from by rw [wrp_id (by omega) (by omega)]; omega]
    refine qG.br (P := ((1 + W : Nat) : Int) < ((1 + W : Nat) : Int)) (pc1 := 43) (pc2 := 45) (st1 := []) rfl (fun h40 => ?_) (fun h40 => ?_)
    · skip
      refine qG.blk 1 (pc' := 44) (ls' := [(2, 23), (0, v), (2, 35), (2, 36)]) (st' := [(0, 0)]) (w' := wX) (n' := 142) rfl ?_
      refine qG.ret rfl (by first | rfl | exact decide_eq_true (by omega)) ?_
      subst hQ9
      first | (exfalso; omega) | exact ⟨rfl, hIX, hXf, .inr ⟨rfl, by have z := hzE_u hXE2 (1 + W - e); rw [show S + 1 + e + 1 + (1 + W - e) = S + 1 + (1 + W) + 1 by omega] at z; exact z⟩⟩
    · skip
      refine qG.blk 2 (pc' := 49) (ls' := [(2, 23), (0, v), (2, 35), (2, 36)]) (st' := [(2, wX 23 0)]) (w' := wX) (n' := 142) rfl ?_
      rw [show wX 23 0 = 24 from (hXf 23 0 (by decide) (by decide)).trans (zref hI rfl rfl)]
      refine qG.blk 2 (pc' := 53) (ls' := [(2, 23), (0, v), (2, 35), (2, 36)]) (st' := [(2, wX 23 1), (2, 24)]) (w' := wX) (n' := 142) rfl ?_
      rw [show wX 23 1 = 27 from (hXf 23 1 (by decide) (by decide)).trans (zref hI rfl rfl)]
      refine qG.blk 1 (pc' := 54) (ls' := [(2, 23), (0, v), (2, 35), (2, 36)]) (st' := [(2, 36), (2, 27), (2, 24)]) (w' := wX) (n' := 142) rfl ?_
      refine qG.call (t := 101) (na := 3) (sk := 1) (md := 1) (ls1 := [(2, 24), (2, 27), (2, 36), (9, 0), (9, 0), (9, 0), (9, 0), (9, 0), (9, 0), (9, 0), (9, 0), (9, 0), (9, 0), (9, 0)]) (r1 := []) rfl rfl rfl rfl rfl (K_spread27_36 (by omega) wX hIX) ?_
      rintro _ wB _ ⟨rfl, rfl, hRB⟩
      show qG none (d + 1) 47 57 [(2, 23), (0, v), (2, 35), (2, 36)] [] wB 142 Q9
      refine qG.blk 1 (pc' := 58) (ls' := [(2, 23), (0, v), (2, 35), (2, 36)]) (st' := [(0, 1)]) (w' := wB) (n' := 142) rfl ?_
      refine qG.ret rfl (by first | rfl | exact decide_eq_true (by omega)) ?_
      subst hQ9
      first | (exfalso; omega) | exact ⟨rfl, hRB.2.2, fun q j x y => (hRB.2.1 q j y).trans (hXf q j x y), .inl ⟨rfl, fun j hj => by rw [show sb wB 36 j = spF wX 27 j 192 from hRB.1 j hj, hX27.sp (hTA.cg (fun q j h => hX9 q j (by omega) (by omega))) (fun j hj => hz_N hj) hj, hz_s, hV1, qand_z0, decide_eq_true rfl, Bool.true_and], hz_0 hrf hV1 hXE⟩⟩
  · skip
    show qG none (d + 1) 47 34 [(2, 23), (0, v), (2, 35), (2, 36)] [(0, ((e : Nat) : Int))] wX 142 Q9
    refine qG.blk 3 (pc' := 39) (ls' := [(2, 23), (0, v), (2, 35), (2, 36)]) (st' := [(0, wX 23 8), (0, 1), (0, ((e : Nat) : Int))]) (w' := wX) (n' := 142) rfl ?_
    rw [show wX 23 8 = ((W : Nat) : Int) from (hXf 23 8 (by decide) (by decide)).trans hw8]
    refine qG.blk 1 (pc' := 40) (ls' := [(2, 23), (0, v), (2, 35), (2, 36)]) (st' := [(0, wrp (1 + ((W : Nat) : Int))), (0, ((e : Nat) : Int))]) (w' := wX) (n' := 142) rfl ?_
    rw [show wrp (1 + ((W : Nat) : Int)) = ((1 + W : Nat) : Int) from by rw [wrp_id (by omega) (by omega)]; omega]
    refine qG.br (P := ((e : Nat) : Int) < ((1 + W : Nat) : Int)) (pc1 := 43) (pc2 := 45) (st1 := []) rfl (fun h40 => ?_) (fun h40 => ?_)
    · skip
      refine qG.blk 1 (pc' := 44) (ls' := [(2, 23), (0, v), (2, 35), (2, 36)]) (st' := [(0, 0)]) (w' := wX) (n' := 142) rfl ?_
      refine qG.ret rfl (by first | rfl | exact decide_eq_true (by omega)) ?_
      subst hQ9
      first | (exfalso; omega) | exact ⟨rfl, hIX, hXf, .inr ⟨rfl, by have z := hzE_u hXE2 (1 + W - e); rw [show S + 1 + e + 1 + (1 + W - e) = S + 1 + (1 + W) + 1 by omega] at z; exact z⟩⟩
    · skip
      refine qG.blk 2 (pc' := 49) (ls' := [(2, 23), (0, v), (2, 35), (2, 36)]) (st' := [(2, wX 23 0)]) (w' := wX) (n' := 142) rfl ?_
      rw [show wX 23 0 = 24 from (hXf 23 0 (by decide) (by decide)).trans (zref hI rfl rfl)]
      refine qG.blk 2 (pc' := 53) (ls' := [(2, 23), (0, v), (2, 35), (2, 36)]) (st' := [(2, wX 23 1), (2, 24)]) (w' := wX) (n' := 142) rfl ?_
      rw [show wX 23 1 = 27 from (hXf 23 1 (by decide) (by decide)).trans (zref hI rfl rfl)]
      refine qG.blk 1 (pc' := 54) (ls' := [(2, 23), (0, v), (2, 35), (2, 36)]) (st' := [(2, 36), (2, 27), (2, 24)]) (w' := wX) (n' := 142) rfl ?_
      refine qG.call (t := 101) (na := 3) (sk := 1) (md := 1) (ls1 := [(2, 24), (2, 27), (2, 36), (9, 0), (9, 0), (9, 0), (9, 0), (9, 0), (9, 0), (9, 0), (9, 0), (9, 0), (9, 0), (9, 0)]) (r1 := []) rfl rfl rfl rfl rfl (K_spread27_36 (by omega) wX hIX) ?_
      rintro _ wB _ ⟨rfl, rfl, hRB⟩
      show qG none (d + 1) 47 57 [(2, 23), (0, v), (2, 35), (2, 36)] [] wB 142 Q9
      refine qG.blk 1 (pc' := 58) (ls' := [(2, 23), (0, v), (2, 35), (2, 36)]) (st' := [(0, 1)]) (w' := wB) (n' := 142) rfl ?_
      refine qG.ret rfl (by first | rfl | exact decide_eq_true (by omega)) ?_
      subst hQ9
      first | (exfalso; omega) | exact ⟨rfl, hRB.2.2, fun q j x y => (hRB.2.1 q j y).trans (hXf q j x y), .inl ⟨rfl, fun j hj => by rw [show sb wB 36 j = spF wX 27 j 192 from hRB.1 j hj, hX27.sp (hTA.cg (fun q j h => hX9 q j (by omega) (by omega))) (fun j hj => hz_N hj) hj, hz_s, hV1, qand_z0, decide_eq_true rfl, Bool.true_and], hz_0 hrf hV1 hXE⟩⟩
theorem K_pass2 {d : Nat} (hd : 4 ≤ d) (N : Nat) (P : Nat → Int) (M : Nat → Nat → Bool) (V : Nat → Int) (S W : Nat) (v : Int) (hW5 : W ≤ 5) (hV0 : V S = 0) (hVv : ∀ u, u < 1 + W → V (S + 1 + u) = v) (hV1 : V (S + 1 + (1 + W)) = 0) (hrf : ∀ i, i < N → M i i = true) (w : qW) (hI : yInv zgf zga zra zSp w) (hT : CTB N P M w) (hw8 : w 23 8 = (W : Int)) (hH : HOLD w 36 (hz N P M V S)) (hne : ¬ hzE (hz N P M V S)) : qG none d 47 0 [(2, 23), (0, v), (2, 36), (2, 37)] [] w 142 (fun (r : qV) (w1 : qW) (n1 : Nat) => n1 = 142 ∧ yInv zgf zga zra zSp w1 ∧ (∀ q j, ¬ (27 ≤ q ∧ q ≤ 29) → q ≠ 37 → w1 q j = w q j) ∧ ((r = (0, 1) ∧ HOLD w1 37 (hz N P M V (S + 1 + (1 + W) + 1)) ∧ ¬ hzE (hz N P M V (S + 1 + (1 + W) + 1))) ∨ (r = (0, 0) ∧ hzE (hz N P M V (S + 1 + (1 + W) + 1))))) := by
  generalize hQ9 : (fun (r : qV) (w1 : qW) (n1 : Nat) => n1 = 142 ∧ yInv zgf zga zra zSp w1 ∧ (∀ q j, ¬ (27 ≤ q ∧ q ≤ 29) → q ≠ 37 → w1 q j = w q j) ∧ ((r = (0, 1) ∧ HOLD w1 37 (hz N P M V (S + 1 + (1 + W) + 1)) ∧ ¬ hzE (hz N P M V (S + 1 + (1 + W) + 1))) ∨ (r = (0, 0) ∧ hzE (hz N P M V (S + 1 + (1 + W) + 1))))) = Q9
  obtain ⟨d, rfl⟩ : ∃ d9, d = d9 + 1 := ⟨d - 1, by omega⟩
  refine qG.blk 2 (pc' := 4) (ls' := [(2, 23), (0, v), (2, 36), (2, 37)]) (st' := [(2, w 23 0)]) (w' := w) (n' := 142) rfl ?_
  rw [show w 23 0 = 24 from zref hI rfl rfl]
  refine qG.blk 3 (pc' := 9) (ls' := [(2, 23), (0, v), (2, 36), (2, 37)]) (st' := [(2, w 23 3), (0, v), (2, 24)]) (w' := w) (n' := 142) rfl ?_
  rw [show w 23 3 = 29 from zref hI rfl rfl]
  refine qG.call (t := 103) (na := 3) (sk := 1) (md := 1) (ls1 := [(2, 24), (0, v), (2, 29), (9, 0), (9, 0)]) (r1 := []) rfl rfl rfl rfl rfl (K_unseen29 (by omega) v N hT.1 w hI hT.2.1) ?_
  rintro _ wU _ ⟨rfl, rfl, hRU⟩
  have hIU := hRU.2.2
  have hUf : (∀ q j, ¬ (27 ≤ q ∧ q ≤ 29) → q ≠ 37 → wU q j = w q j) := fun q j x y => hRU.2.1 q j (by omega)
  have hTU := hT.cg (w1 := wU) (fun q j h => hRU.2.1 q j (by omega))
  have hU29 : HOLD wU 29 (fun j => decide (j < N) && decide (qand (P j) v = 0)) := fun j hj => by
    rw [show sb wU 29 j = (decide (j < N) && decide (qand (w 25 j) v = 0)) from hRU.1 j hj]
    show _ = (decide (j < N) && decide (qand (P j) v = 0))
    by_cases hjN : j < N
    · rw [hT.2.2.1 j hjN]
    · rw [decide_eq_false hjN, Bool.false_and, Bool.false_and]
  show qG none (d + 1) 47 12 [(2, 23), (0, v), (2, 36), (2, 37)] [] wU 142 Q9
  refine qG.blk 2 (pc' := 16) (ls' := [(2, 23), (0, v), (2, 36), (2, 37)]) (st' := [(2, wU 23 0)]) (w' := wU) (n' := 142) rfl ?_
  rw [show wU 23 0 = 24 from (hUf 23 0 (by decide) (by decide)).trans (zref hI rfl rfl)]
  refine qG.blk 3 (pc' := 21) (ls' := [(2, 23), (0, v), (2, 36), (2, 37)]) (st' := [(2, wU 23 1), (2, 36), (2, 24)]) (w' := wU) (n' := 142) rfl ?_
  rw [show wU 23 1 = 27 from (hUf 23 1 (by decide) (by decide)).trans (zref hI rfl rfl)]
  refine qG.call (t := 101) (na := 3) (sk := 1) (md := 1) (ls1 := [(2, 24), (2, 36), (2, 27), (9, 0), (9, 0), (9, 0), (9, 0), (9, 0), (9, 0), (9, 0), (9, 0), (9, 0), (9, 0), (9, 0)]) (r1 := []) rfl rfl rfl rfl rfl (K_spread36_27 (by omega) wU hIU) ?_
  rintro _ wA _ ⟨rfl, rfl, hRA⟩
  have hIA := hRA.2.2
  have hAf : (∀ q j, ¬ (27 ≤ q ∧ q ≤ 29) → q ≠ 37 → wA q j = w q j) := fun q j x y => (hRA.2.1 q j (by omega)).trans (hUf q j x y)
  have hTA := hTU.cg (w1 := wA) (fun q j h => hRA.2.1 q j (by omega))
  have hHU : HOLD wU 36 (hz N P M V S) := fun j hj => by rw [hRU.o (by decide)]; exact hH j hj
  have hA27 : HOLD wA 27 (hz N P M V (S + 1)) := fun j hj => by rw [show sb wA 27 j = spF wU 36 j 192 from hRA.1 j hj, hHU.sp hTU (fun j hj => hz_N hj) hj, hz_s, hV0, qand_z0, decide_eq_true rfl, Bool.true_and]
  have hA29 : HOLD wA 29 (fun j => decide (j < N) && decide (qand (P j) v = 0)) := fun j hj => by rw [hRA.o (by decide)]; exact hU29 j hj
  show qG none (d + 1) 47 24 [(2, 23), (0, v), (2, 36), (2, 37)] [] wA 142 Q9
  refine qG.blk 4 (pc' := 30) (ls' := [(2, 23), (0, v), (2, 36), (2, 37)]) (st' := [(0, wA 23 8), (0, 1), (2, 23)]) (w' := wA) (n' := 142) rfl ?_
  rw [show wA 23 8 = ((W : Nat) : Int) from (hAf 23 8 (by decide) (by decide)).trans hw8]
  refine qG.blk 1 (pc' := 31) (ls' := [(2, 23), (0, v), (2, 36), (2, 37)]) (st' := [(0, wrp (1 + ((W : Nat) : Int))), (2, 23)]) (w' := wA) (n' := 142) rfl ?_
  rw [show wrp (1 + ((W : Nat) : Int)) = ((1 + W : Nat) : Int) from by rw [wrp_id (by omega) (by omega)]; omega]
  refine qG.call (t := 36) (na := 2) (sk := 1) (md := 1) (ls1 := [(2, 23), (0, ((1 + W : Nat) : Int)), (9, 0)]) (r1 := []) rfl rfl rfl rfl rfl (K_stayU (by omega) N P M V (S + 1) (1 + W) v (by omega) hVv wA hIA hTA hA27 hA29 (hz_0 hrf hV0 hne)) ?_
  rintro _ wX _ ⟨rfl, hX9, hIX, ⟨rfl, hX27, hXE⟩ | ⟨e, he, rfl, hX27, hXE, hXE2⟩⟩ <;> have hXf : (∀ q j, ¬ (27 ≤ q ∧ q ≤ 29) → q ≠ 37 → wX q j = w q j) := fun q j x y => (hX9 q j (by omega) (by omega)).trans (hAf q j x y)
  · skip
    show qG none (d + 1) 47 34 [(2, 23), (0, v), (2, 36), (2, 37)] [(0, ((1 + W : Nat) : Int))] wX 142 Q9
    refine qG.blk 3 (pc' := 39) (ls' := [(2, 23), (0, v), (2, 36), (2, 37)]) (st' := [(0, wX 23 8), (0, 1), (0, ((1 + W : Nat) : Int))]) (w' := wX) (n' := 142) rfl ?_
    rw [show wX 23 8 = ((W : Nat) : Int) from (hXf 23 8 (by decide) (by decide)).trans hw8]
    refine qG.blk 1 (pc' := 40) (ls' := [(2, 23), (0, v), (2, 36), (2, 37)]) (st' := [(0, wrp (1 + ((W : Nat) : Int))), (0, ((1 + W : Nat) : Int))]) (w' := wX) (n' := 142) rfl ?_
    rw [show wrp (1 + ((W : Nat) : Int)) = ((1 + W : Nat) : Int) from by rw [wrp_id (by omega) (by omega)]; omega]
    refine qG.br (P := ((1 + W : Nat) : Int) < ((1 + W : Nat) : Int)) (pc1 := 43) (pc2 := 45) (st1 := []) rfl (fun h40 => ?_) (fun h40 => ?_)
    · skip
      refine qG.blk 1 (pc' := 44) (ls' := [(2, 23), (0, v), (2, 36), (2, 37)]) (st' := [(0, 0)]) (w' := wX) (n' := 142) rfl ?_
      refine qG.ret rfl (by first | rfl | exact decide_eq_true (by omega)) ?_
      subst hQ9
      first | (exfalso; omega) | exact ⟨rfl, hIX, hXf, .inr ⟨rfl, by have z := hzE_u hXE2 (1 + W - e); rw [show S + 1 + e + 1 + (1 + W - e) = S + 1 + (1 + W) + 1 by omega] at z; exact z⟩⟩
    · skip
      refine qG.blk 2 (pc' := 49) (ls' := [(2, 23), (0, v), (2, 36), (2, 37)]) (st' := [(2, wX 23 0)]) (w' := wX) (n' := 142) rfl ?_
      rw [show wX 23 0 = 24 from (hXf 23 0 (by decide) (by decide)).trans (zref hI rfl rfl)]
      refine qG.blk 2 (pc' := 53) (ls' := [(2, 23), (0, v), (2, 36), (2, 37)]) (st' := [(2, wX 23 1), (2, 24)]) (w' := wX) (n' := 142) rfl ?_
      rw [show wX 23 1 = 27 from (hXf 23 1 (by decide) (by decide)).trans (zref hI rfl rfl)]
      refine qG.blk 1 (pc' := 54) (ls' := [(2, 23), (0, v), (2, 36), (2, 37)]) (st' := [(2, 37), (2, 27), (2, 24)]) (w' := wX) (n' := 142) rfl ?_
      refine qG.call (t := 101) (na := 3) (sk := 1) (md := 1) (ls1 := [(2, 24), (2, 27), (2, 37), (9, 0), (9, 0), (9, 0), (9, 0), (9, 0), (9, 0), (9, 0), (9, 0), (9, 0), (9, 0), (9, 0)]) (r1 := []) rfl rfl rfl rfl rfl (K_spread27_37 (by omega) wX hIX) ?_
      rintro _ wB _ ⟨rfl, rfl, hRB⟩
      show qG none (d + 1) 47 57 [(2, 23), (0, v), (2, 36), (2, 37)] [] wB 142 Q9
      refine qG.blk 1 (pc' := 58) (ls' := [(2, 23), (0, v), (2, 36), (2, 37)]) (st' := [(0, 1)]) (w' := wB) (n' := 142) rfl ?_
      refine qG.ret rfl (by first | rfl | exact decide_eq_true (by omega)) ?_
      subst hQ9
      first | (exfalso; omega) | exact ⟨rfl, hRB.2.2, fun q j x y => (hRB.2.1 q j y).trans (hXf q j x y), .inl ⟨rfl, fun j hj => by rw [show sb wB 37 j = spF wX 27 j 192 from hRB.1 j hj, hX27.sp (hTA.cg (fun q j h => hX9 q j (by omega) (by omega))) (fun j hj => hz_N hj) hj, hz_s, hV1, qand_z0, decide_eq_true rfl, Bool.true_and], hz_0 hrf hV1 hXE⟩⟩
  · skip
    show qG none (d + 1) 47 34 [(2, 23), (0, v), (2, 36), (2, 37)] [(0, ((e : Nat) : Int))] wX 142 Q9
    refine qG.blk 3 (pc' := 39) (ls' := [(2, 23), (0, v), (2, 36), (2, 37)]) (st' := [(0, wX 23 8), (0, 1), (0, ((e : Nat) : Int))]) (w' := wX) (n' := 142) rfl ?_
    rw [show wX 23 8 = ((W : Nat) : Int) from (hXf 23 8 (by decide) (by decide)).trans hw8]
    refine qG.blk 1 (pc' := 40) (ls' := [(2, 23), (0, v), (2, 36), (2, 37)]) (st' := [(0, wrp (1 + ((W : Nat) : Int))), (0, ((e : Nat) : Int))]) (w' := wX) (n' := 142) rfl ?_
    rw [show wrp (1 + ((W : Nat) : Int)) = ((1 + W : Nat) : Int) from by rw [wrp_id (by omega) (by omega)]; omega]
    refine qG.br (P := ((e : Nat) : Int) < ((1 + W : Nat) : Int)) (pc1 := 43) (pc2 := 45) (st1 := []) rfl (fun h40 => ?_) (fun h40 => ?_)
    · skip
      refine qG.blk 1 (pc' := 44) (ls' := [(2, 23), (0, v), (2, 36), (2, 37)]) (st' := [(0, 0)]) (w' := wX) (n' := 142) rfl ?_
      refine qG.ret rfl (by first | rfl | exact decide_eq_true (by omega)) ?_
      subst hQ9
      first | (exfalso; omega) | exact ⟨rfl, hIX, hXf, .inr ⟨rfl, by have z := hzE_u hXE2 (1 + W - e); rw [show S + 1 + e + 1 + (1 + W - e) = S + 1 + (1 + W) + 1 by omega] at z; exact z⟩⟩
    · skip
      refine qG.blk 2 (pc' := 49) (ls' := [(2, 23), (0, v), (2, 36), (2, 37)]) (st' := [(2, wX 23 0)]) (w' := wX) (n' := 142) rfl ?_
      rw [show wX 23 0 = 24 from (hXf 23 0 (by decide) (by decide)).trans (zref hI rfl rfl)]
      refine qG.blk 2 (pc' := 53) (ls' := [(2, 23), (0, v), (2, 36), (2, 37)]) (st' := [(2, wX 23 1), (2, 24)]) (w' := wX) (n' := 142) rfl ?_
      rw [show wX 23 1 = 27 from (hXf 23 1 (by decide) (by decide)).trans (zref hI rfl rfl)]
      refine qG.blk 1 (pc' := 54) (ls' := [(2, 23), (0, v), (2, 36), (2, 37)]) (st' := [(2, 37), (2, 27), (2, 24)]) (w' := wX) (n' := 142) rfl ?_
      refine qG.call (t := 101) (na := 3) (sk := 1) (md := 1) (ls1 := [(2, 24), (2, 27), (2, 37), (9, 0), (9, 0), (9, 0), (9, 0), (9, 0), (9, 0), (9, 0), (9, 0), (9, 0), (9, 0), (9, 0)]) (r1 := []) rfl rfl rfl rfl rfl (K_spread27_37 (by omega) wX hIX) ?_
      rintro _ wB _ ⟨rfl, rfl, hRB⟩
      show qG none (d + 1) 47 57 [(2, 23), (0, v), (2, 36), (2, 37)] [] wB 142 Q9
      refine qG.blk 1 (pc' := 58) (ls' := [(2, 23), (0, v), (2, 36), (2, 37)]) (st' := [(0, 1)]) (w' := wB) (n' := 142) rfl ?_
      refine qG.ret rfl (by first | rfl | exact decide_eq_true (by omega)) ?_
      subst hQ9
      first | (exfalso; omega) | exact ⟨rfl, hRB.2.2, fun q j x y => (hRB.2.1 q j y).trans (hXf q j x y), .inl ⟨rfl, fun j hj => by rw [show sb wB 37 j = spF wX 27 j 192 from hRB.1 j hj, hX27.sp (hTA.cg (fun q j h => hX9 q j (by omega) (by omega))) (fun j hj => hz_N hj) hj, hz_s, hV1, qand_z0, decide_eq_true rfl, Bool.true_and], hz_0 hrf hV1 hXE⟩⟩
theorem K_pass3 {d : Nat} (hd : 4 ≤ d) (N : Nat) (P : Nat → Int) (M : Nat → Nat → Bool) (V : Nat → Int) (S W : Nat) (v : Int) (hW5 : W ≤ 5) (hV0 : V S = 0) (hVv : ∀ u, u < 1 + W → V (S + 1 + u) = v) (hV1 : V (S + 1 + (1 + W)) = 0) (hrf : ∀ i, i < N → M i i = true) (w : qW) (hI : yInv zgf zga zra zSp w) (hT : CTB N P M w) (hw8 : w 23 8 = (W : Int)) (hH : HOLD w 37 (hz N P M V S)) (hne : ¬ hzE (hz N P M V S)) : qG none d 47 0 [(2, 23), (0, v), (2, 37), (2, 38)] [] w 142 (fun (r : qV) (w1 : qW) (n1 : Nat) => n1 = 142 ∧ yInv zgf zga zra zSp w1 ∧ (∀ q j, ¬ (27 ≤ q ∧ q ≤ 29) → q ≠ 38 → w1 q j = w q j) ∧ ((r = (0, 1) ∧ HOLD w1 38 (hz N P M V (S + 1 + (1 + W) + 1)) ∧ ¬ hzE (hz N P M V (S + 1 + (1 + W) + 1))) ∨ (r = (0, 0) ∧ hzE (hz N P M V (S + 1 + (1 + W) + 1))))) := by
  generalize hQ9 : (fun (r : qV) (w1 : qW) (n1 : Nat) => n1 = 142 ∧ yInv zgf zga zra zSp w1 ∧ (∀ q j, ¬ (27 ≤ q ∧ q ≤ 29) → q ≠ 38 → w1 q j = w q j) ∧ ((r = (0, 1) ∧ HOLD w1 38 (hz N P M V (S + 1 + (1 + W) + 1)) ∧ ¬ hzE (hz N P M V (S + 1 + (1 + W) + 1))) ∨ (r = (0, 0) ∧ hzE (hz N P M V (S + 1 + (1 + W) + 1))))) = Q9
  obtain ⟨d, rfl⟩ : ∃ d9, d = d9 + 1 := ⟨d - 1, by omega⟩
  refine qG.blk 2 (pc' := 4) (ls' := [(2, 23), (0, v), (2, 37), (2, 38)]) (st' := [(2, w 23 0)]) (w' := w) (n' := 142) rfl ?_
  rw [show w 23 0 = 24 from zref hI rfl rfl]
  refine qG.blk 3 (pc' := 9) (ls' := [(2, 23), (0, v), (2, 37), (2, 38)]) (st' := [(2, w 23 3), (0, v), (2, 24)]) (w' := w) (n' := 142) rfl ?_
  rw [show w 23 3 = 29 from zref hI rfl rfl]
  refine qG.call (t := 103) (na := 3) (sk := 1) (md := 1) (ls1 := [(2, 24), (0, v), (2, 29), (9, 0), (9, 0)]) (r1 := []) rfl rfl rfl rfl rfl (K_unseen29 (by omega) v N hT.1 w hI hT.2.1) ?_
  rintro _ wU _ ⟨rfl, rfl, hRU⟩
  have hIU := hRU.2.2
  have hUf : (∀ q j, ¬ (27 ≤ q ∧ q ≤ 29) → q ≠ 38 → wU q j = w q j) := fun q j x y => hRU.2.1 q j (by omega)
  have hTU := hT.cg (w1 := wU) (fun q j h => hRU.2.1 q j (by omega))
  have hU29 : HOLD wU 29 (fun j => decide (j < N) && decide (qand (P j) v = 0)) := fun j hj => by
    rw [show sb wU 29 j = (decide (j < N) && decide (qand (w 25 j) v = 0)) from hRU.1 j hj]
    show _ = (decide (j < N) && decide (qand (P j) v = 0))
    by_cases hjN : j < N
    · rw [hT.2.2.1 j hjN]
    · rw [decide_eq_false hjN, Bool.false_and, Bool.false_and]
  show qG none (d + 1) 47 12 [(2, 23), (0, v), (2, 37), (2, 38)] [] wU 142 Q9
  refine qG.blk 2 (pc' := 16) (ls' := [(2, 23), (0, v), (2, 37), (2, 38)]) (st' := [(2, wU 23 0)]) (w' := wU) (n' := 142) rfl ?_
  rw [show wU 23 0 = 24 from (hUf 23 0 (by decide) (by decide)).trans (zref hI rfl rfl)]
  refine qG.blk 3 (pc' := 21) (ls' := [(2, 23), (0, v), (2, 37), (2, 38)]) (st' := [(2, wU 23 1), (2, 37), (2, 24)]) (w' := wU) (n' := 142) rfl ?_
  rw [show wU 23 1 = 27 from (hUf 23 1 (by decide) (by decide)).trans (zref hI rfl rfl)]
  refine qG.call (t := 101) (na := 3) (sk := 1) (md := 1) (ls1 := [(2, 24), (2, 37), (2, 27), (9, 0), (9, 0), (9, 0), (9, 0), (9, 0), (9, 0), (9, 0), (9, 0), (9, 0), (9, 0), (9, 0)]) (r1 := []) rfl rfl rfl rfl rfl (K_spread37_27 (by omega) wU hIU) ?_
  rintro _ wA _ ⟨rfl, rfl, hRA⟩
  have hIA := hRA.2.2
  have hAf : (∀ q j, ¬ (27 ≤ q ∧ q ≤ 29) → q ≠ 38 → wA q j = w q j) := fun q j x y => (hRA.2.1 q j (by omega)).trans (hUf q j x y)
  have hTA := hTU.cg (w1 := wA) (fun q j h => hRA.2.1 q j (by omega))
  have hHU : HOLD wU 37 (hz N P M V S) := fun j hj => by rw [hRU.o (by decide)]; exact hH j hj
  have hA27 : HOLD wA 27 (hz N P M V (S + 1)) := fun j hj => by rw [show sb wA 27 j = spF wU 37 j 192 from hRA.1 j hj, hHU.sp hTU (fun j hj => hz_N hj) hj, hz_s, hV0, qand_z0, decide_eq_true rfl, Bool.true_and]
  have hA29 : HOLD wA 29 (fun j => decide (j < N) && decide (qand (P j) v = 0)) := fun j hj => by rw [hRA.o (by decide)]; exact hU29 j hj
  show qG none (d + 1) 47 24 [(2, 23), (0, v), (2, 37), (2, 38)] [] wA 142 Q9
  refine qG.blk 4 (pc' := 30) (ls' := [(2, 23), (0, v), (2, 37), (2, 38)]) (st' := [(0, wA 23 8), (0, 1), (2, 23)]) (w' := wA) (n' := 142) rfl ?_
  rw [show wA 23 8 = ((W : Nat) : Int) from (hAf 23 8 (by decide) (by decide)).trans hw8]
  refine qG.blk 1 (pc' := 31) (ls' := [(2, 23), (0, v), (2, 37), (2, 38)]) (st' := [(0, wrp (1 + ((W : Nat) : Int))), (2, 23)]) (w' := wA) (n' := 142) rfl ?_
  rw [show wrp (1 + ((W : Nat) : Int)) = ((1 + W : Nat) : Int) from by rw [wrp_id (by omega) (by omega)]; omega]
  refine qG.call (t := 36) (na := 2) (sk := 1) (md := 1) (ls1 := [(2, 23), (0, ((1 + W : Nat) : Int)), (9, 0)]) (r1 := []) rfl rfl rfl rfl rfl (K_stayU (by omega) N P M V (S + 1) (1 + W) v (by omega) hVv wA hIA hTA hA27 hA29 (hz_0 hrf hV0 hne)) ?_
  rintro _ wX _ ⟨rfl, hX9, hIX, ⟨rfl, hX27, hXE⟩ | ⟨e, he, rfl, hX27, hXE, hXE2⟩⟩ <;> have hXf : (∀ q j, ¬ (27 ≤ q ∧ q ≤ 29) → q ≠ 38 → wX q j = w q j) := fun q j x y => (hX9 q j (by omega) (by omega)).trans (hAf q j x y)
  · skip
    show qG none (d + 1) 47 34 [(2, 23), (0, v), (2, 37), (2, 38)] [(0, ((1 + W : Nat) : Int))] wX 142 Q9
    refine qG.blk 3 (pc' := 39) (ls' := [(2, 23), (0, v), (2, 37), (2, 38)]) (st' := [(0, wX 23 8), (0, 1), (0, ((1 + W : Nat) : Int))]) (w' := wX) (n' := 142) rfl ?_
    rw [show wX 23 8 = ((W : Nat) : Int) from (hXf 23 8 (by decide) (by decide)).trans hw8]
    refine qG.blk 1 (pc' := 40) (ls' := [(2, 23), (0, v), (2, 37), (2, 38)]) (st' := [(0, wrp (1 + ((W : Nat) : Int))), (0, ((1 + W : Nat) : Int))]) (w' := wX) (n' := 142) rfl ?_
    rw [show wrp (1 + ((W : Nat) : Int)) = ((1 + W : Nat) : Int) from by rw [wrp_id (by omega) (by omega)]; omega]
    refine qG.br (P := ((1 + W : Nat) : Int) < ((1 + W : Nat) : Int)) (pc1 := 43) (pc2 := 45) (st1 := []) rfl (fun h40 => ?_) (fun h40 => ?_)
    · skip
      refine qG.blk 1 (pc' := 44) (ls' := [(2, 23), (0, v), (2, 37), (2, 38)]) (st' := [(0, 0)]) (w' := wX) (n' := 142) rfl ?_
      refine qG.ret rfl (by first | rfl | exact decide_eq_true (by omega)) ?_
      subst hQ9
      first | (exfalso; omega) | exact ⟨rfl, hIX, hXf, .inr ⟨rfl, by have z := hzE_u hXE2 (1 + W - e); rw [show S + 1 + e + 1 + (1 + W - e) = S + 1 + (1 + W) + 1 by omega] at z; exact z⟩⟩
    · skip
      refine qG.blk 2 (pc' := 49) (ls' := [(2, 23), (0, v), (2, 37), (2, 38)]) (st' := [(2, wX 23 0)]) (w' := wX) (n' := 142) rfl ?_
      rw [show wX 23 0 = 24 from (hXf 23 0 (by decide) (by decide)).trans (zref hI rfl rfl)]
      refine qG.blk 2 (pc' := 53) (ls' := [(2, 23), (0, v), (2, 37), (2, 38)]) (st' := [(2, wX 23 1), (2, 24)]) (w' := wX) (n' := 142) rfl ?_
      rw [show wX 23 1 = 27 from (hXf 23 1 (by decide) (by decide)).trans (zref hI rfl rfl)]
      refine qG.blk 1 (pc' := 54) (ls' := [(2, 23), (0, v), (2, 37), (2, 38)]) (st' := [(2, 38), (2, 27), (2, 24)]) (w' := wX) (n' := 142) rfl ?_
      refine qG.call (t := 101) (na := 3) (sk := 1) (md := 1) (ls1 := [(2, 24), (2, 27), (2, 38), (9, 0), (9, 0), (9, 0), (9, 0), (9, 0), (9, 0), (9, 0), (9, 0), (9, 0), (9, 0), (9, 0)]) (r1 := []) rfl rfl rfl rfl rfl (K_spread27_38 (by omega) wX hIX) ?_
      rintro _ wB _ ⟨rfl, rfl, hRB⟩
      show qG none (d + 1) 47 57 [(2, 23), (0, v), (2, 37), (2, 38)] [] wB 142 Q9
      refine qG.blk 1 (pc' := 58) (ls' := [(2, 23), (0, v), (2, 37), (2, 38)]) (st' := [(0, 1)]) (w' := wB) (n' := 142) rfl ?_
      refine qG.ret rfl (by first | rfl | exact decide_eq_true (by omega)) ?_
      subst hQ9
      first | (exfalso; omega) | exact ⟨rfl, hRB.2.2, fun q j x y => (hRB.2.1 q j y).trans (hXf q j x y), .inl ⟨rfl, fun j hj => by rw [show sb wB 38 j = spF wX 27 j 192 from hRB.1 j hj, hX27.sp (hTA.cg (fun q j h => hX9 q j (by omega) (by omega))) (fun j hj => hz_N hj) hj, hz_s, hV1, qand_z0, decide_eq_true rfl, Bool.true_and], hz_0 hrf hV1 hXE⟩⟩
  · skip
    show qG none (d + 1) 47 34 [(2, 23), (0, v), (2, 37), (2, 38)] [(0, ((e : Nat) : Int))] wX 142 Q9
    refine qG.blk 3 (pc' := 39) (ls' := [(2, 23), (0, v), (2, 37), (2, 38)]) (st' := [(0, wX 23 8), (0, 1), (0, ((e : Nat) : Int))]) (w' := wX) (n' := 142) rfl ?_
    rw [show wX 23 8 = ((W : Nat) : Int) from (hXf 23 8 (by decide) (by decide)).trans hw8]
    refine qG.blk 1 (pc' := 40) (ls' := [(2, 23), (0, v), (2, 37), (2, 38)]) (st' := [(0, wrp (1 + ((W : Nat) : Int))), (0, ((e : Nat) : Int))]) (w' := wX) (n' := 142) rfl ?_
    rw [show wrp (1 + ((W : Nat) : Int)) = ((1 + W : Nat) : Int) from by rw [wrp_id (by omega) (by omega)]; omega]
    refine qG.br (P := ((e : Nat) : Int) < ((1 + W : Nat) : Int)) (pc1 := 43) (pc2 := 45) (st1 := []) rfl (fun h40 => ?_) (fun h40 => ?_)
    · skip
      refine qG.blk 1 (pc' := 44) (ls' := [(2, 23), (0, v), (2, 37), (2, 38)]) (st' := [(0, 0)]) (w' := wX) (n' := 142) rfl ?_
      refine qG.ret rfl (by first | rfl | exact decide_eq_true (by omega)) ?_
      subst hQ9
      first | (exfalso; omega) | exact ⟨rfl, hIX, hXf, .inr ⟨rfl, by have z := hzE_u hXE2 (1 + W - e); rw [show S + 1 + e + 1 + (1 + W - e) = S + 1 + (1 + W) + 1 by omega] at z; exact z⟩⟩
    · skip
      refine qG.blk 2 (pc' := 49) (ls' := [(2, 23), (0, v), (2, 37), (2, 38)]) (st' := [(2, wX 23 0)]) (w' := wX) (n' := 142) rfl ?_
      rw [show wX 23 0 = 24 from (hXf 23 0 (by decide) (by decide)).trans (zref hI rfl rfl)]
      refine qG.blk 2 (pc' := 53) (ls' := [(2, 23), (0, v), (2, 37), (2, 38)]) (st' := [(2, wX 23 1), (2, 24)]) (w' := wX) (n' := 142) rfl ?_
      rw [show wX 23 1 = 27 from (hXf 23 1 (by decide) (by decide)).trans (zref hI rfl rfl)]
      refine qG.blk 1 (pc' := 54) (ls' := [(2, 23), (0, v), (2, 37), (2, 38)]) (st' := [(2, 38), (2, 27), (2, 24)]) (w' := wX) (n' := 142) rfl ?_
      refine qG.call (t := 101) (na := 3) (sk := 1) (md := 1) (ls1 := [(2, 24), (2, 27), (2, 38), (9, 0), (9, 0), (9, 0), (9, 0), (9, 0), (9, 0), (9, 0), (9, 0), (9, 0), (9, 0), (9, 0)]) (r1 := []) rfl rfl rfl rfl rfl (K_spread27_38 (by omega) wX hIX) ?_
      rintro _ wB _ ⟨rfl, rfl, hRB⟩
      show qG none (d + 1) 47 57 [(2, 23), (0, v), (2, 37), (2, 38)] [] wB 142 Q9
      refine qG.blk 1 (pc' := 58) (ls' := [(2, 23), (0, v), (2, 37), (2, 38)]) (st' := [(0, 1)]) (w' := wB) (n' := 142) rfl ?_
      refine qG.ret rfl (by first | rfl | exact decide_eq_true (by omega)) ?_
      subst hQ9
      first | (exfalso; omega) | exact ⟨rfl, hRB.2.2, fun q j x y => (hRB.2.1 q j y).trans (hXf q j x y), .inl ⟨rfl, fun j hj => by rw [show sb wB 38 j = spF wX 27 j 192 from hRB.1 j hj, hX27.sp (hTA.cg (fun q j h => hX9 q j (by omega) (by omega))) (fun j hj => hz_N hj) hj, hz_s, hV1, qand_z0, decide_eq_true rfl, Bool.true_and], hz_0 hrf hV1 hXE⟩⟩
theorem K_keepIf {d : Nat} (hd : 1 ≤ d) (n : Nat) (hn : n ≤ 4) (x : Int) (hx : 0 ≤ x ∧ x ≤ 65535) (r : Nat → Nat) (s : oSt) (w : qW) (hI : yInv zgf zga zra zSp w) (hrow : ∀ k, k < n → w 32 k = ((r k : Nat) : Int)) (hC : OCs w s) : qG none d 46 0 [(2, 23), (0, ((n : Nat) : Int)), (0, x), (9, 0)] [] w 142 (fun (r1 : qV) (w1 : qW) (n1 : Nat) => r1 = (9, 0) ∧ n1 = 142 ∧ yInv zgf zga zra zSp w1 ∧ OFR 4 w w1 ∧ OCs w1 (if s.1 = -1 ∨ bitsF s.2.1 16 < bitsF x 16 ∨ (bitsF x 16 = bitsF s.2.1 16 ∧ (n : Int) < s.1) then ((n : Int), x, fun k => ((r k : Nat) : Int)) else s)) := by
  generalize hQ9 : (fun (r1 : qV) (w1 : qW) (n1 : Nat) => r1 = (9, 0) ∧ n1 = 142 ∧ yInv zgf zga zra zSp w1 ∧ OFR 4 w w1 ∧ OCs w1 (if s.1 = -1 ∨ bitsF s.2.1 16 < bitsF x 16 ∨ (bitsF x 16 = bitsF s.2.1 16 ∧ (n : Int) < s.1) then ((n : Int), x, fun k => ((r k : Nat) : Int)) else s)) = Q9
  have h14 := hI.1 23 14 (0, 65535) rfl rfl
  have hs2 : 0 ≤ s.2.1 ∧ s.2.1 ≤ 65535 := by rw [← hC.2.1]; exact h14
  have hb1 := bitsF_in x 16
  have hb2 := bitsF_in s.2.1 16
  obtain ⟨d, rfl⟩ : ∃ d9, d = d9 + 1 := ⟨d - 1, by omega⟩
  refine qG.blk 1 (pc' := 1) (ls' := [(2, 23), (0, ((n : Nat) : Int)), (0, x), (9, 0)]) (st' := [(0, x)]) (w' := w) (n' := 142) rfl ?_
  refine qG.call (t := 302) (na := 1) (sk := 0) (md := 0) (ls1 := [(0, x)]) (r1 := []) rfl rfl rfl rfl rfl (K_bcJ (Nat.zero_le _) (x) hx.1 (Int.le_trans hx.2 (by decide)) w) ?_
  rintro _ w7 _ ⟨rfl, hw7, rfl⟩
  rw [hw7, bits_36 hx.1 hx.2]
  show qG none (d + 1) 46 4 [(2, 23), (0, ((n : Nat) : Int)), (0, x), (9, 0)] [(0, bitsF x 16)] w 142 Q9
  refine qG.blk 2 (pc' := 8) (ls' := [(2, 23), (0, ((n : Nat) : Int)), (0, x), (9, 0)]) (st' := [(0, w 23 14), (0, bitsF x 16)]) (w' := w) (n' := 142) rfl ?_
  rw [show w 23 14 = s.2.1 from hC.2.1]
  refine qG.call (t := 302) (na := 1) (sk := 0) (md := 0) (ls1 := [(0, s.2.1)]) (r1 := [(0, bitsF x 16)]) rfl rfl rfl rfl rfl (K_bcJ (Nat.zero_le _) (s.2.1) hs2.1 (Int.le_trans hs2.2 (by decide)) w) ?_
  rintro _ w7 _ ⟨rfl, hw7, rfl⟩
  rw [hw7, bits_36 hs2.1 hs2.2]
  show qG none (d + 1) 46 11 [(2, 23), (0, ((n : Nat) : Int)), (0, x), (9, 0)] [(0, bitsF s.2.1 16), (0, bitsF x 16)] w 142 Q9
  refine qG.blk 1 (pc' := 12) (ls' := [(2, 23), (0, ((n : Nat) : Int)), (0, x), (9, 0)]) (st' := [(0, wrp ((bitsF x 16) - (bitsF s.2.1 16)))]) (w' := w) (n' := 142) rfl ?_
  rw [show wrp ((bitsF x 16) - (bitsF s.2.1 16)) = bitsF x 16 - bitsF s.2.1 16 from wrp_id (by omega) (by omega)]
  refine qG.blk 3 (pc' := 17) (ls' := [(2, 23), (0, ((n : Nat) : Int)), (0, x), (0, bitsF x 16 - bitsF s.2.1 16)]) (st' := [(0, w 23 13)]) (w' := w) (n' := 142) rfl ?_
  rw [show w 23 13 = s.1 from hC.1]
  refine qG.blk 1 (pc' := 18) (ls' := [(2, 23), (0, ((n : Nat) : Int)), (0, x), (0, bitsF x 16 - bitsF s.2.1 16)]) (st' := [(0, (-1)), (0, s.1)]) (w' := w) (n' := 142) rfl ?_
  refine qG.br (P := s.1 = (-1)) (pc1 := 37) (pc2 := 21) (st1 := []) rfl (fun g18 => ?_) (fun g18 => ?_)
  · skip
    refine qG.blk 8 (pc' := 51) (ls' := [(2, 23), (0, ((n : Nat) : Int)), (0, x), (0, bitsF x 16 - bitsF s.2.1 16)]) (st' := [(2, w 23 10)]) (w' := (qup (qup w 23 13 ((n : Nat) : Int)) 23 14 x)) (n' := 142) rfl ?_
    rw [show w 23 10 = 32 from zref hI rfl rfl]
    refine qG.blk 3 (pc' := 56) (ls' := [(2, 23), (0, ((n : Nat) : Int)), (0, x), (0, bitsF x 16 - bitsF s.2.1 16)]) (st' := [(2, w 23 12), (0, 0), (2, 32)]) (w' := (qup (qup w 23 13 ((n : Nat) : Int)) 23 14 x)) (n' := 142) rfl ?_
    rw [show w 23 12 = 39 from zref hI rfl rfl]
    refine qG.blk 2 (pc' := 58) (ls' := [(2, 23), (0, ((n : Nat) : Int)), (0, x), (0, bitsF x 16 - bitsF s.2.1 16)]) (st' := [(0, 4), (0, 0), (2, 39), (0, 0), (2, 32)]) (w' := (qup (qup w 23 13 ((n : Nat) : Int)) 23 14 x)) (n' := 142) rfl ?_
    obtain ⟨wK, hwK⟩ : ∃ z : qW, z = (qup (qup w 23 13 ((n : Nat) : Int)) 23 14 x) := ⟨_, rfl⟩
    rw [← hwK]
    refine qG.cpy (P := (0 ≤ (4 : Int) ∧ 0 ≤ (0 : Int) ∧ 0 ≤ (0 : Int) ∧ (0 : Int) + 4 ≤ ((4 : Nat) : Int) ∧ (0 : Int) + 4 ≤ ((4 : Nat) : Int)) ∧ (0 < (32 : Int) ∧ (32 : Int) ≤ ((142 : Nat) : Int)) ∧ 0 < (39 : Int) ∧ (39 : Int) ≤ ((142 : Nat) : Int)) (pc' := 61) (ls' := [(2, 23), (0, ((n : Nat) : Int)), (0, x), (0, bitsF x 16 - bitsF s.2.1 16)]) (st' := []) (w' := qcpy wK 32 39 0 0 4) (n' := 142) rfl rfl rfl (by decide) ?_
    rw [cp_q]
    refine qG.retv rfl rfl ?_
    subst hQ9
    have hIK : yInv zgf zga zra zSp wK := by rw [hwK]; exact zup_f (zup_f hI (b := (-1, 4)) rfl rfl rfl ⟨by show (-1 : Int) ≤ _; omega, by show _ ≤ (4 : Int); omega⟩) (b := (0, 65535)) rfl rfl rfl hx
    have h32 : ∀ k, yin (0, 9) (wK 32 k) := fun k => hIK.2.1 32 k (0, 9) rfl rfl
    refine ⟨rfl, rfl, zup_a (zup_a (zup_a (zup_a hIK (b := (0, 9)) rfl rfl (h32 0)) (b := (0, 9)) rfl rfl (h32 1)) (b := (0, 9)) rfl rfl (h32 2)) (b := (0, 9)) rfl rfl (h32 3), fun q j a1 a2 a3 a4 a5 => by rw [qup_nq a3, qup_nq a3, qup_nq a3, qup_nq a3, hwK, qup_f (by omega), qup_f (by omega)], ?_⟩
    rw [if_pos (by omega)]
    have e32 : ∀ k, wK 32 k = w 32 k := fun k => by rw [hwK, qup_nq (by decide), qup_nq (by decide)]
    refine ⟨by rw [qup_nq (by decide), qup_nq (by decide), qup_nq (by decide), qup_nq (by decide), hwK, qup_j (by decide), qup_k], by rw [qup_nq (by decide), qup_nq (by decide), qup_nq (by decide), qup_nq (by decide), hwK, qup_k], fun k hk => ?_⟩
    have hk : (k : Int) < (n : Int) := hk
    show _ = ((r k : Nat) : Int)
    rw [← hrow k (by omega), ← e32 k]
    rcases (show k = 0 ∨ k = 1 ∨ k = 2 ∨ k = 3 by omega) with e | e | e | e <;> rw [e] <;> simp (disch := decide) only [qup_j, qup_k]
  · skip
    refine qG.blk 1 (pc' := 22) (ls' := [(2, 23), (0, ((n : Nat) : Int)), (0, x), (0, bitsF x 16 - bitsF s.2.1 16)]) (st' := [(0, bitsF x 16 - bitsF s.2.1 16)]) (w' := w) (n' := 142) rfl ?_
    refine qG.br (P := 0 < bitsF x 16 - bitsF s.2.1 16) (pc1 := 37) (pc2 := 25) (st1 := []) rfl (fun g22 => ?_) (fun g22 => ?_)
    · skip
      refine qG.blk 8 (pc' := 51) (ls' := [(2, 23), (0, ((n : Nat) : Int)), (0, x), (0, bitsF x 16 - bitsF s.2.1 16)]) (st' := [(2, w 23 10)]) (w' := (qup (qup w 23 13 ((n : Nat) : Int)) 23 14 x)) (n' := 142) rfl ?_
      rw [show w 23 10 = 32 from zref hI rfl rfl]
      refine qG.blk 3 (pc' := 56) (ls' := [(2, 23), (0, ((n : Nat) : Int)), (0, x), (0, bitsF x 16 - bitsF s.2.1 16)]) (st' := [(2, w 23 12), (0, 0), (2, 32)]) (w' := (qup (qup w 23 13 ((n : Nat) : Int)) 23 14 x)) (n' := 142) rfl ?_
      rw [show w 23 12 = 39 from zref hI rfl rfl]
      refine qG.blk 2 (pc' := 58) (ls' := [(2, 23), (0, ((n : Nat) : Int)), (0, x), (0, bitsF x 16 - bitsF s.2.1 16)]) (st' := [(0, 4), (0, 0), (2, 39), (0, 0), (2, 32)]) (w' := (qup (qup w 23 13 ((n : Nat) : Int)) 23 14 x)) (n' := 142) rfl ?_
      obtain ⟨wK, hwK⟩ : ∃ z : qW, z = (qup (qup w 23 13 ((n : Nat) : Int)) 23 14 x) := ⟨_, rfl⟩
      rw [← hwK]
      refine qG.cpy (P := (0 ≤ (4 : Int) ∧ 0 ≤ (0 : Int) ∧ 0 ≤ (0 : Int) ∧ (0 : Int) + 4 ≤ ((4 : Nat) : Int) ∧ (0 : Int) + 4 ≤ ((4 : Nat) : Int)) ∧ (0 < (32 : Int) ∧ (32 : Int) ≤ ((142 : Nat) : Int)) ∧ 0 < (39 : Int) ∧ (39 : Int) ≤ ((142 : Nat) : Int)) (pc' := 61) (ls' := [(2, 23), (0, ((n : Nat) : Int)), (0, x), (0, bitsF x 16 - bitsF s.2.1 16)]) (st' := []) (w' := qcpy wK 32 39 0 0 4) (n' := 142) rfl rfl rfl (by decide) ?_
      rw [cp_q]
      refine qG.retv rfl rfl ?_
      subst hQ9
      have hIK : yInv zgf zga zra zSp wK := by rw [hwK]; exact zup_f (zup_f hI (b := (-1, 4)) rfl rfl rfl ⟨by show (-1 : Int) ≤ _; omega, by show _ ≤ (4 : Int); omega⟩) (b := (0, 65535)) rfl rfl rfl hx
      have h32 : ∀ k, yin (0, 9) (wK 32 k) := fun k => hIK.2.1 32 k (0, 9) rfl rfl
      refine ⟨rfl, rfl, zup_a (zup_a (zup_a (zup_a hIK (b := (0, 9)) rfl rfl (h32 0)) (b := (0, 9)) rfl rfl (h32 1)) (b := (0, 9)) rfl rfl (h32 2)) (b := (0, 9)) rfl rfl (h32 3), fun q j a1 a2 a3 a4 a5 => by rw [qup_nq a3, qup_nq a3, qup_nq a3, qup_nq a3, hwK, qup_f (by omega), qup_f (by omega)], ?_⟩
      rw [if_pos (by omega)]
      have e32 : ∀ k, wK 32 k = w 32 k := fun k => by rw [hwK, qup_nq (by decide), qup_nq (by decide)]
      refine ⟨by rw [qup_nq (by decide), qup_nq (by decide), qup_nq (by decide), qup_nq (by decide), hwK, qup_j (by decide), qup_k], by rw [qup_nq (by decide), qup_nq (by decide), qup_nq (by decide), qup_nq (by decide), hwK, qup_k], fun k hk => ?_⟩
      have hk : (k : Int) < (n : Int) := hk
      show _ = ((r k : Nat) : Int)
      rw [← hrow k (by omega), ← e32 k]
      rcases (show k = 0 ∨ k = 1 ∨ k = 2 ∨ k = 3 by omega) with e | e | e | e <;> rw [e] <;> simp (disch := decide) only [qup_j, qup_k]
    · skip
      refine qG.blk 1 (pc' := 26) (ls' := [(2, 23), (0, ((n : Nat) : Int)), (0, x), (0, bitsF x 16 - bitsF s.2.1 16)]) (st' := [(0, bitsF x 16 - bitsF s.2.1 16)]) (w' := w) (n' := 142) rfl ?_
      refine qG.br (P := bitsF x 16 - bitsF s.2.1 16 = 0) (pc1 := 29) (pc2 := 61) (st1 := []) rfl (fun g26 => ?_) (fun g26 => ?_)
      · skip
        refine qG.blk 3 (pc' := 34) (ls' := [(2, 23), (0, ((n : Nat) : Int)), (0, x), (0, bitsF x 16 - bitsF s.2.1 16)]) (st' := [(0, w 23 13), (0, ((n : Nat) : Int))]) (w' := w) (n' := 142) rfl ?_
        rw [show w 23 13 = s.1 from hC.1]
        refine qG.br (P := ((n : Nat) : Int) < s.1) (pc1 := 37) (pc2 := 61) (st1 := []) rfl (fun g34 => ?_) (fun g34 => ?_)
        · skip
          refine qG.blk 8 (pc' := 51) (ls' := [(2, 23), (0, ((n : Nat) : Int)), (0, x), (0, bitsF x 16 - bitsF s.2.1 16)]) (st' := [(2, w 23 10)]) (w' := (qup (qup w 23 13 ((n : Nat) : Int)) 23 14 x)) (n' := 142) rfl ?_
          rw [show w 23 10 = 32 from zref hI rfl rfl]
          refine qG.blk 3 (pc' := 56) (ls' := [(2, 23), (0, ((n : Nat) : Int)), (0, x), (0, bitsF x 16 - bitsF s.2.1 16)]) (st' := [(2, w 23 12), (0, 0), (2, 32)]) (w' := (qup (qup w 23 13 ((n : Nat) : Int)) 23 14 x)) (n' := 142) rfl ?_
          rw [show w 23 12 = 39 from zref hI rfl rfl]
          refine qG.blk 2 (pc' := 58) (ls' := [(2, 23), (0, ((n : Nat) : Int)), (0, x), (0, bitsF x 16 - bitsF s.2.1 16)]) (st' := [(0, 4), (0, 0), (2, 39), (0, 0), (2, 32)]) (w' := (qup (qup w 23 13 ((n : Nat) : Int)) 23 14 x)) (n' := 142) rfl ?_
          obtain ⟨wK, hwK⟩ : ∃ z : qW, z = (qup (qup w 23 13 ((n : Nat) : Int)) 23 14 x) := ⟨_, rfl⟩
          rw [← hwK]
          refine qG.cpy (P := (0 ≤ (4 : Int) ∧ 0 ≤ (0 : Int) ∧ 0 ≤ (0 : Int) ∧ (0 : Int) + 4 ≤ ((4 : Nat) : Int) ∧ (0 : Int) + 4 ≤ ((4 : Nat) : Int)) ∧ (0 < (32 : Int) ∧ (32 : Int) ≤ ((142 : Nat) : Int)) ∧ 0 < (39 : Int) ∧ (39 : Int) ≤ ((142 : Nat) : Int)) (pc' := 61) (ls' := [(2, 23), (0, ((n : Nat) : Int)), (0, x), (0, bitsF x 16 - bitsF s.2.1 16)]) (st' := []) (w' := qcpy wK 32 39 0 0 4) (n' := 142) rfl rfl rfl (by decide) ?_
          rw [cp_q]
          refine qG.retv rfl rfl ?_
          subst hQ9
          have hIK : yInv zgf zga zra zSp wK := by rw [hwK]; exact zup_f (zup_f hI (b := (-1, 4)) rfl rfl rfl ⟨by show (-1 : Int) ≤ _; omega, by show _ ≤ (4 : Int); omega⟩) (b := (0, 65535)) rfl rfl rfl hx
          have h32 : ∀ k, yin (0, 9) (wK 32 k) := fun k => hIK.2.1 32 k (0, 9) rfl rfl
          refine ⟨rfl, rfl, zup_a (zup_a (zup_a (zup_a hIK (b := (0, 9)) rfl rfl (h32 0)) (b := (0, 9)) rfl rfl (h32 1)) (b := (0, 9)) rfl rfl (h32 2)) (b := (0, 9)) rfl rfl (h32 3), fun q j a1 a2 a3 a4 a5 => by rw [qup_nq a3, qup_nq a3, qup_nq a3, qup_nq a3, hwK, qup_f (by omega), qup_f (by omega)], ?_⟩
          rw [if_pos (by omega)]
          have e32 : ∀ k, wK 32 k = w 32 k := fun k => by rw [hwK, qup_nq (by decide), qup_nq (by decide)]
          refine ⟨by rw [qup_nq (by decide), qup_nq (by decide), qup_nq (by decide), qup_nq (by decide), hwK, qup_j (by decide), qup_k], by rw [qup_nq (by decide), qup_nq (by decide), qup_nq (by decide), qup_nq (by decide), hwK, qup_k], fun k hk => ?_⟩
          have hk : (k : Int) < (n : Int) := hk
          show _ = ((r k : Nat) : Int)
          rw [← hrow k (by omega), ← e32 k]
          rcases (show k = 0 ∨ k = 1 ∨ k = 2 ∨ k = 3 by omega) with e | e | e | e <;> rw [e] <;> simp (disch := decide) only [qup_j, qup_k]
        · skip
          refine qG.retv rfl rfl ?_
          subst hQ9
          exact ⟨rfl, rfl, hI, fun _ _ _ _ _ _ _ => rfl, by rw [if_neg (by omega)]; exact hC⟩
      · skip
        refine qG.retv rfl rfl ?_
        subst hQ9
        exact ⟨rfl, rfl, hI, fun _ _ _ _ _ _ _ => rfl, by rw [if_neg (by omega)]; exact hC⟩
