/-! order: the class's tries -/
/-- what tryRows does from n doors on -/
noncomputable def TRC (w0 : qW) (c N : Nat) (P : Nat → Int) (M : Nat → Nat → Bool) (D W : Nat) (n : Nat) : Prop := ∀ (d : Nat) (w : qW) (r : Nat → Nat) (U : Nat) (s : oSt) (x : Int), 30 - 2 * n ≤ d → yInv zgf zga zra zSp w → OW N P M D W (fun j => vD w0 c j) w → (∀ k, k < n → r k < 10) → (∀ k, k < n → w 32 k = ((r k : Nat) : Int)) → U < 1024 → pc (trX D U) 10 + n ≤ 4 → x = (snO w0 c (W : Int)) n r → (0 ≤ x ∧ x ≤ 65535) → HOLD w (34 + n) (hz N P M (fun t => siF w0 c kR (nR r (W : Int)) (4 * n) t) (scF kR (nR r (W : Int)) (4 * n))) → (okO N P M w0 c (W : Int)) n r = true → OCs w s → qG none d 44 0 [(2, 23), (0, ((n : Nat) : Int)), (0, ((U : Nat) : Int)), (0, x), (9, 0)] [] w 142 (fun (r1 : qV) (w1 : qW) (n1 : Nat) => r1 = (9, 0) ∧ n1 = 142 ∧ yInv zgf zga zra zSp w1 ∧ OFR n w w1 ∧ OCs w1 (XPo (okO N P M w0 c (W : Int)) (snO w0 c (W : Int)) D (4 - n) n r U s))
theorem kpO_if {ok : Nat → (Nat → Nat) → Bool} {sn : Nat → (Nat → Nat) → Int} {n : Nat} {r : Nat → Nat} {s : oSt} {x : Int} (hok : ok n r = true) (hx : x = sn n r) : kpO ok sn n r s = (if s.1 = -1 ∨ bitsF s.2.1 16 < bitsF x 16 ∨ (bitsF x 16 = bitsF s.2.1 16 ∧ (n : Int) < s.1) then ((n : Int), x, fun k => ((r k : Nat) : Int)) else s) := by
  unfold kpO
  rw [hok, ← hx]
  by_cases z : (s.1 = -1 ∨ bitsF s.2.1 16 < bitsF x 16 ∨ (bitsF x 16 = bitsF s.2.1 16 ∧ (n : Int) < s.1))
  · rw [if_pos z, if_pos ⟨rfl, z⟩]
  · rw [if_neg z, if_neg (fun y => z y.2)]
theorem OFR.mono {n m : Nat} {w w1 : qW} (h : OFR m w w1) (hm : n ≤ m := by omega) : OFR n w w1 := fun q j a b c d e => h q j a (by omega) c (by omega) e
theorem K_tryR4 {d : Nat} (hd : 22 ≤ d) (w0 : qW) (c N : Nat) (P : Nat → Int) (M : Nat → Nat → Bool) (D W : Nat) (hD : D < 1024) (hW : 1 ≤ W ∧ W ≤ 5) (hrf : ∀ i, i < N → M i i = true) (hv16 : ∀ j, j < 10 → 0 ≤ vD w0 c j ∧ vD w0 c j ≤ 65535) (w : qW) (r : Nat → Nat) (U : Nat) (s : oSt) (x : Int) (hI : yInv zgf zga zra zSp w) (hOW : OW N P M D W (fun j => vD w0 c j) w) (hr : ∀ k, k < 4 → r k < 10) (hrow : ∀ k, k < 4 → w 32 k = ((r k : Nat) : Int)) (hU : U < 1024) (hpc : pc (trX D U) 10 + 4 ≤ 4) (hxs : x = (snO w0 c (W : Int)) 4 r) (hx : 0 ≤ x ∧ x ≤ 65535) (hH : HOLD w 38 (hz N P M (fun t => siF w0 c kR (nR r (W : Int)) (4 * 4) t) (scF kR (nR r (W : Int)) (4 * 4)))) (hok : (okO N P M w0 c (W : Int)) 4 r = true) (hC : OCs w s) : qG none d 44 0 [(2, 23), (0, 4), (0, ((U : Nat) : Int)), (0, x), (9, 0)] [] w 142 (fun (r1 : qV) (w1 : qW) (n1 : Nat) => r1 = (9, 0) ∧ n1 = 142 ∧ yInv zgf zga zra zSp w1 ∧ OFR 4 w w1 ∧ OCs w1 (XPo (okO N P M w0 c (W : Int)) (snO w0 c (W : Int)) D 0 4 r U s)) := by
  generalize hQ9 : (fun (r1 : qV) (w1 : qW) (n1 : Nat) => r1 = (9, 0) ∧ n1 = 142 ∧ yInv zgf zga zra zSp w1 ∧ OFR 4 w w1 ∧ OCs w1 (XPo (okO N P M w0 c (W : Int)) (snO w0 c (W : Int)) D 0 4 r U s)) = Q9
  obtain ⟨d, rfl⟩ : ∃ d9, d = d9 + 1 := ⟨d - 1, by omega⟩
  refine qG.blk 3 (pc' := 3) (ls' := [(2, 23), (0, 4), (0, ((U : Nat) : Int)), (0, x), (9, 0)]) (st' := [(0, x), (0, 4), (2, 23)]) (w' := w) (n' := 142) rfl ?_
  refine qG.call (t := 46) (na := 3) (sk := 1) (md := 1) (ls1 := [(2, 23), (0, 4), (0, x), (9, 0)]) (r1 := []) rfl rfl rfl rfl rfl ((K_keepIf (by omega) 4 (by omega) x hx r s w hI hrow hC : qG none d 46 0 [(2, 23), (0, 4), (0, x), (9, 0)] [] w 142 _)) ?_
  rintro _ w1 _ ⟨rfl, rfl, hI1, h1f, h1C⟩
  rw [← kpO_if hok hxs] at h1C
  have h1F : OFR 4 w w1 := h1f.mono
  show qG none (d + 1) 44 6 [(2, 23), (0, 4), (0, ((U : Nat) : Int)), (0, x), (9, 0)] [] w1 142 Q9
  refine qG.blk 2 (pc' := 9) (ls' := [(2, 23), (0, 4), (0, ((U : Nat) : Int)), (0, x), (0, 0)]) (st' := []) (w' := w1) (n' := 142) rfl ?_
  have L9 : ∀ (m9 : Nat) (j : Nat) (wQ : qW), 10 - j = m9 → (j ≤ 10 ∧ yInv zgf zga zra zSp wQ ∧ OFR 4 w wQ ∧ OCs wQ (flO (stO (okO N P M w0 c (W : Int)) (snO w0 c (W : Int)) D 0 4 r U) j (kpO (okO N P M w0 c (W : Int)) (snO w0 c (W : Int)) 4 r s))) → qG none (d + 1) 44 9 [(2, 23), (0, 4), (0, ((U : Nat) : Int)), (0, x), (0, ((j : Nat) : Int))] [] wQ 142 Q9 := by
    intro m9
    induction m9 using Nat.strongRecOn with
    | ind m9 ih9 =>
    intro j wQ hm9 hI9
    obtain ⟨hj10, hIQ, hQF, hCQ⟩ := hI9
    have hOQ := hOW.cg hQF
    refine qG.blk 2 (pc' := 13) (ls' := [(2, 23), (0, 4), (0, ((U : Nat) : Int)), (0, x), (0, ((j : Nat) : Int))]) (st' := [(0, 10), (0, ((j : Nat) : Int))]) (w' := wQ) (n' := 142) rfl ?_
    refine qG.br (P := ((j : Nat) : Int) < 10) (pc1 := 16) (pc2 := 47) (st1 := []) rfl (fun h1 => ?_) (fun h1 => ?_)
    · skip
      refine qG.blk 2 (pc' := 20) (ls' := [(2, 23), (0, 4), (0, ((U : Nat) : Int)), (0, x), (0, ((j : Nat) : Int))]) (st' := [(0, wQ 23 7)]) (w' := wQ) (n' := 142) rfl ?_
      rw [show wQ 23 7 = ((D : Nat) : Int) from hOQ.2.1]
      refine qG.blk 4 (pc' := 24) (ls' := [(2, 23), (0, 4), (0, ((U : Nat) : Int)), (0, x), (0, ((j : Nat) : Int))]) (st' := [(0, qand ((D : Nat) : Int) (qxor ((U : Nat) : Int) (-1)))]) (w' := wQ) (n' := 142) rfl ?_
      rw [show qand ((D : Nat) : Int) (qxor ((U : Nat) : Int) (-1)) = ((trX D U : Nat) : Int) from tr_and hD hU]
      refine qG.blk 4 (pc' := 29) (ls' := [(2, 23), (0, 4), (0, ((U : Nat) : Int)), (0, x), (0, ((j : Nat) : Int))]) (st' := [(0, qand (qush ((trX D U : Nat) : Int) ((j : Nat) : Int)) 1)]) (w' := wQ) (n' := 142) rfl ?_
      rw [show qand (qush ((trX D U : Nat) : Int) ((j : Nat) : Int)) 1 = (if (trX D U).testBit j = true then 1 else 0) from by rw [ushr_b (trX_lt hD) (by omega)]; exact hb_bit (Nat.lt_of_lt_of_le (trX_lt hD) (by decide)) (by omega)]
      refine qG.br (P := (if (trX D U).testBit j = true then 1 else 0) = 0) (pc1 := 41) (pc2 := 32) (st1 := []) rfl (fun htb => ?_) (fun htb => ?_)
      · skip
        have htb1 : ¬ (trX D U).testBit j = true := fun z => by rw [if_pos z] at htb; exact absurd htb (by decide)
        refine qG.blk 1 (pc' := 44) (ls' := [(2, 23), (0, 4), (0, ((U : Nat) : Int)), (0, x), (0, wrp (((j : Nat) : Int) + 1))]) (st' := []) (w' := wQ) (n' := 142) rfl ?_
        rw [show wrp (((j : Nat) : Int) + 1) = ((j + 1 : Nat) : Int) from wrp_id (by omega) (by omega)]
        refine qG.blk 1 (pc' := 9) (ls' := [(2, 23), (0, 4), (0, ((U : Nat) : Int)), (0, x), (0, ((j + 1 : Nat) : Int))]) (st' := []) (w' := wQ) (n' := 142) rfl ?_
        exact ih9 _ (by omega) (j + 1) (wQ) rfl (⟨by omega, hIQ, hQF, by show OCs wQ (stO (okO N P M w0 c (W : Int)) (snO w0 c (W : Int)) D 0 4 r U j (flO (stO (okO N P M w0 c (W : Int)) (snO w0 c (W : Int)) D 0 4 r U) j (kpO (okO N P M w0 c (W : Int)) (snO w0 c (W : Int)) 4 r s))); unfold stO; rw [if_neg htb1]; exact hCQ⟩)
      · skip
        have htb2 : (trX D U).testBit j = true := Decidable.of_not_not (fun z => htb (if_neg z))
        have hj9 : j < 10 := by omega
        have z := tr_dec hU hj9 htb2
        omega
        skip
    · skip
      refine qG.retv rfl rfl ?_
      subst hQ9
      refine ⟨rfl, rfl, hIQ, hQF, ?_⟩
      rw [XPo_st]
      rw [show j = 10 by omega] at hCQ
      exact hCQ
  exact L9 _ (0) (w1) rfl (⟨Nat.zero_le _, hI1, h1F, h1C⟩)
theorem TRC_4 (w0 : qW) (c N : Nat) (P : Nat → Int) (M : Nat → Nat → Bool) (D W : Nat) (hD : D < 1024) (hW : 1 ≤ W ∧ W ≤ 5) (hrf : ∀ i, i < N → M i i = true) (hv16 : ∀ j, j < 10 → 0 ≤ vD w0 c j ∧ vD w0 c j ≤ 65535) : TRC w0 c N P M D W 4 := fun d w r U s x h1 h2 h3 h4 h5 h6 h7 h8 h9 h10 h11 h12 => K_tryR4 (by omega) w0 c N P M D W hD hW hrf hv16 w r U s x h2 h3 h4 h5 h6 h7 h8 h9 h10 h11 h12
theorem K_tryD3 {d : Nat} (hd : 23 ≤ d) (w0 : qW) (c N : Nat) (P : Nat → Int) (M : Nat → Nat → Bool) (D W : Nat) (hD : D < 1024) (hW : 1 ≤ W ∧ W ≤ 5) (hrf : ∀ i, i < N → M i i = true) (hv16 : ∀ j, j < 10 → 0 ≤ vD w0 c j ∧ vD w0 c j ≤ 65535) (IH : TRC w0 c N P M D W (3 + 1)) (w : qW) (r : Nat → Nat) (U : Nat) (s : oSt) (x : Int) (hI : yInv zgf zga zra zSp w) (hOW : OW N P M D W (fun j => vD w0 c j) w) (hr : ∀ k, k < 3 → r k < 10) (hrow : ∀ k, k < 3 → w 32 k = ((r k : Nat) : Int)) (hU : U < 1024) (hpc : pc (trX D U) 10 + 3 ≤ 4) (hxs : x = (snO w0 c (W : Int)) 3 r) (hx : 0 ≤ x ∧ x ≤ 65535) (hH : HOLD w 37 (hz N P M (fun t => siF w0 c kR (nR r (W : Int)) (4 * 3) t) (scF kR (nR r (W : Int)) (4 * 3)))) (hok : (okO N P M w0 c (W : Int)) 3 r = true) (hC : OCs w s) (j : Nat) (hj : j < 10) (hb : (trX D U).testBit j = true) : qG none d 45 0 [(2, 23), (0, ((j : Nat) : Int)), (0, 3), (0, ((U : Nat) : Int)), (0, x), (9, 0)] [] w 142 (fun (r1 : qV) (w1 : qW) (n1 : Nat) => r1 = (9, 0) ∧ n1 = 142 ∧ yInv zgf zga zra zSp w1 ∧ OFR 3 w w1 ∧ OCs w1 (stO (okO N P M w0 c (W : Int)) (snO w0 c (W : Int)) D 1 3 r U j s)) := by
  generalize hQ9 : (fun (r1 : qV) (w1 : qW) (n1 : Nat) => r1 = (9, 0) ∧ n1 = 142 ∧ yInv zgf zga zra zSp w1 ∧ OFR 3 w w1 ∧ OCs w1 (stO (okO N P M w0 c (W : Int)) (snO w0 c (W : Int)) D 1 3 r U j s)) = Q9
  obtain ⟨d, rfl⟩ : ∃ d9, d = d9 + 1 := ⟨d - 1, by omega⟩
  refine qG.blk 1 (pc' := 1) (ls' := [(2, 23), (0, ((j : Nat) : Int)), (0, 3), (0, ((U : Nat) : Int)), (0, x), (9, 0)]) (st' := [(0, ((j : Nat) : Int))]) (w' := w) (n' := 142) rfl ?_
  refine qG.br (P := ((j : Nat) : Int) < 0) (pc1 := 19) (pc2 := 4) (st1 := []) rfl (fun h1 => ?_) (fun h1 => ?_)
  · exfalso; omega
  · skip
    refine qG.blk 2 (pc' := 7) (ls' := [(2, 23), (0, ((j : Nat) : Int)), (0, 3), (0, ((U : Nat) : Int)), (0, x), (9, 0)]) (st' := [(0, 10), (0, ((j : Nat) : Int))]) (w' := w) (n' := 142) rfl ?_
    refine qG.br (P := ((j : Nat) : Int) < 10) (pc1 := 10) (pc2 := 19) (st1 := []) rfl (fun h2 => ?_) (fun h2 => ?_)
    · skip
      refine qG.blk 1 (pc' := 11) (ls' := [(2, 23), (0, ((j : Nat) : Int)), (0, 3), (0, ((U : Nat) : Int)), (0, x), (9, 0)]) (st' := [(0, 3)]) (w' := w) (n' := 142) rfl ?_
      refine qG.br (P := (3 : Int) < 0) (pc1 := 19) (pc2 := 14) (st1 := []) rfl (fun h3 => ?_) (fun h3 => ?_)
      · exact absurd h3 (by decide)
      · skip
        refine qG.blk 2 (pc' := 16) (ls' := [(2, 23), (0, ((j : Nat) : Int)), (0, 3), (0, ((U : Nat) : Int)), (0, x), (9, 0)]) (st' := [(0, 4), (0, 3)]) (w' := w) (n' := 142) rfl ?_
        refine qG.br (P := (3 : Int) < 4) (pc1 := 20) (pc2 := 19) (st1 := []) rfl (fun h4 => ?_) (fun h4 => ?_)
        · skip
          refine qG.blk 2 (pc' := 24) (ls' := [(2, 23), (0, ((j : Nat) : Int)), (0, 3), (0, ((U : Nat) : Int)), (0, x), (9, 0)]) (st' := [(2, w 23 10)]) (w' := w) (n' := 142) rfl ?_
          rw [show w 23 10 = 32 from zref hI rfl rfl]
          refine qG.blk 2 (pc' := 26) (ls' := [(2, 23), (0, ((j : Nat) : Int)), (0, 3), (0, ((U : Nat) : Int)), (0, x), (9, 0)]) (st' := [(0, ((j : Nat) : Int)), (0, 3), (2, 32)]) (w' := w) (n' := 142) rfl ?_
          refine qG.ar (P := 0 ≤ 3 ∧ 3 < ((4 : Nat) : Int)) (P2 := 0 < (32 : Int) ∧ (32 : Int) ≤ ((142 : Nat) : Int)) (pc' := 27) (ls' := [(2, 23), (0, ((j : Nat) : Int)), (0, 3), (0, ((U : Nat) : Int)), (0, x), (9, 0)]) (st' := []) (w' := (qup w 32 3 ((j : Nat) : Int))) (n' := 142) rfl (by omega) (by decide) ?_
          refine qG.blk 2 (pc' := 31) (ls' := [(2, 23), (0, ((j : Nat) : Int)), (0, 3), (0, ((U : Nat) : Int)), (0, x), (9, 0)]) (st' := [(2, w 23 9)]) (w' := (qup w 32 3 ((j : Nat) : Int))) (n' := 142) rfl ?_
          rw [show w 23 9 = 31 from zref hI rfl rfl]
          refine qG.blk 1 (pc' := 32) (ls' := [(2, 23), (0, ((j : Nat) : Int)), (0, 3), (0, ((U : Nat) : Int)), (0, x), (9, 0)]) (st' := [(0, ((j : Nat) : Int)), (2, 31)]) (w' := (qup w 32 3 ((j : Nat) : Int))) (n' := 142) rfl ?_
          refine qG.ar (P := 0 ≤ ((j : Nat) : Int) ∧ ((j : Nat) : Int) < ((10 : Nat) : Int)) (P2 := 0 < (31 : Int) ∧ (31 : Int) ≤ ((142 : Nat) : Int)) (pc' := 33) (ls' := [(2, 23), (0, ((j : Nat) : Int)), (0, 3), (0, ((U : Nat) : Int)), (0, x), (9, 0)]) (st' := [(0, w 31 j)]) (w' := (qup w 32 3 ((j : Nat) : Int))) (n' := 142) rfl (by omega) (by decide) ?_
          rw [show w 31 j = vD w0 c j from hOW.2.2.2 j hj]
          refine qG.blk 5 (pc' := 42) (ls' := [(2, 23), (0, ((j : Nat) : Int)), (0, 3), (0, ((U : Nat) : Int)), (0, x), (0, vD w0 c j)]) (st' := [(2, w 23 11), (0, vD w0 c j), (2, 23)]) (w' := (qup w 32 3 ((j : Nat) : Int))) (n' := 142) rfl ?_
          rw [show w 23 11 = 33 from zref hI rfl rfl]
          refine qG.blk 1 (pc' := 43) (ls' := [(2, 23), (0, ((j : Nat) : Int)), (0, 3), (0, ((U : Nat) : Int)), (0, x), (0, vD w0 c j)]) (st' := [(0, 3), (2, 33), (0, vD w0 c j), (2, 23)]) (w' := (qup w 32 3 ((j : Nat) : Int))) (n' := 142) rfl ?_
          refine qG.ar (P := 0 ≤ 3 ∧ 3 < ((5 : Nat) : Int)) (P2 := 0 < (33 : Int) ∧ (33 : Int) ≤ ((142 : Nat) : Int)) (pc' := 44) (ls' := [(2, 23), (0, ((j : Nat) : Int)), (0, 3), (0, ((U : Nat) : Int)), (0, x), (0, vD w0 c j)]) (st' := [(2, w 33 3), (0, vD w0 c j), (2, 23)]) (w' := (qup w 32 3 ((j : Nat) : Int))) (n' := 142) rfl (by omega) (by decide) ?_
          rw [show w 33 3 = 37 from zref hI rfl rfl]
          refine qG.blk 2 (pc' := 48) (ls' := [(2, 23), (0, ((j : Nat) : Int)), (0, 3), (0, ((U : Nat) : Int)), (0, x), (0, vD w0 c j)]) (st' := [(2, w 23 11), (2, 37), (0, vD w0 c j), (2, 23)]) (w' := (qup w 32 3 ((j : Nat) : Int))) (n' := 142) rfl ?_
          rw [show w 23 11 = 33 from zref hI rfl rfl]
          refine qG.blk 3 (pc' := 51) (ls' := [(2, 23), (0, ((j : Nat) : Int)), (0, 3), (0, ((U : Nat) : Int)), (0, x), (0, vD w0 c j)]) (st' := [(0, 4), (2, 33), (2, 37), (0, vD w0 c j), (2, 23)]) (w' := (qup w 32 3 ((j : Nat) : Int))) (n' := 142) rfl ?_
          refine qG.ar (P := 0 ≤ 4 ∧ 4 < ((5 : Nat) : Int)) (P2 := 0 < (33 : Int) ∧ (33 : Int) ≤ ((142 : Nat) : Int)) (pc' := 52) (ls' := [(2, 23), (0, ((j : Nat) : Int)), (0, 3), (0, ((U : Nat) : Int)), (0, x), (0, vD w0 c j)]) (st' := [(2, w 33 4), (2, 37), (0, vD w0 c j), (2, 23)]) (w' := (qup w 32 3 ((j : Nat) : Int))) (n' := 142) rfl (by omega) (by decide) ?_
          rw [show w 33 4 = 38 from zref hI rfl rfl]
          obtain ⟨wS, hwS⟩ : ∃ z : qW, z = (qup w 32 3 ((j : Nat) : Int)) := ⟨_, rfl⟩
          rw [← hwS]
          have hIS : yInv zgf zga zra zSp wS := by rw [hwS]; exact zup_a hI (b := (0, 9)) rfl rfl ⟨by show (0 : Int) ≤ _; omega, by show _ ≤ (9 : Int); omega⟩
          have hS : OFR 3 w wS := fun q k a1 a2 a3 a4 a5 => by rw [hwS, qup_f (by omega)]
          have hOS := hOW.cg hS
          obtain ⟨q0, q1, q2, q3, q4⟩ := row_si (w := w0) (c := c) (r := r) (W := (W : Int)) (n := 3) hj hr
          rw [Int.toNat_natCast] at q2 q3 q4
          have eV := hz_cg (N := N) (P := P) (M := M) (V := fun t => siF w0 c kR (nR r (W : Int)) (4 * 3) t) (V2 := fun t => siF w0 c kR (nR (upR r 3 j) (W : Int)) (4 * (3 + 1)) t) (S := scF kR (nR r (W : Int)) (4 * 3)) (fun _ _ => rfl) (fun _ _ _ _ => rfl) (fun t ht => q0 t ht) _ (Nat.le_refl _)
          have hHS : HOLD wS 37 (hz N P M (fun t => siF w0 c kR (nR (upR r 3 j) (W : Int)) (4 * (3 + 1)) t) (scF kR (nR r (W : Int)) (4 * 3))) := by rw [eV]; exact OFR.hold (n := 3) (m := 3) hS (Nat.le_refl _) (by decide) hH
          have hnS : ¬ hzE (hz N P M (fun t => siF w0 c kR (nR (upR r 3 j) (W : Int)) (4 * (3 + 1)) t) (scF kR (nR r (W : Int)) (4 * 3))) := by rw [eV]; exact fun z => by rw [okO_no.mpr z] at hok; cases hok
          refine qG.call (t := 47) (na := 4) (sk := 1) (md := 1) (ls1 := [(2, 23), (0, vD w0 c j), (2, 37), (2, 38)]) (r1 := []) rfl rfl rfl rfl rfl (K_pass3 (by omega) N P M (fun t => siF w0 c kR (nR (upR r 3 j) (W : Int)) (4 * (3 + 1)) t) (scF kR (nR r (W : Int)) (4 * 3)) W (vD w0 c j) hW.2 q1 q2 q3 hrf wS hIS hOS.1 hOS.2.2.1 hHS hnS) ?_
          rintro _ wP _ ⟨rfl, hIP, hPf, ⟨rfl, hP1, hP2⟩ | ⟨rfl, hP2⟩⟩ <;> rw [← q4] at hP2 <;> have hF : OFR 3 w wP := hS.tr (m := 3) (fun q k a1 a2 a3 a4 a5 => hPf q k a1 (by omega)) (Nat.le_refl _)
          · skip
            show qG none (d + 1) 45 55 [(2, 23), (0, ((j : Nat) : Int)), (0, 3), (0, ((U : Nat) : Int)), (0, x), (0, vD w0 c j)] [(0, 1)] wP 142 Q9
            rw [← q4] at hP1
            have hCP : OCs wP s := hC.cg ((hPf 23 13 (by decide) (by decide)).trans (by rw [hwS, qup_f (by decide)])) ((hPf 23 14 (by decide) (by decide)).trans (by rw [hwS, qup_f (by decide)])) (fun k => (hPf 39 k (by decide) (by decide)).trans (by rw [hwS, qup_f (by omega)]))
            refine qG.br (P := (1 : Int) = 0) (pc1 := 75) (pc2 := 58) (st1 := []) rfl (fun h5 => ?_) (fun h5 => ?_)
            · exact absurd h5 (by decide)
            · skip
              refine qG.blk 9 (pc' := 67) (ls' := [(2, 23), (0, ((j : Nat) : Int)), (0, 3), (0, ((U : Nat) : Int)), (0, x), (0, vD w0 c j)]) (st' := [(0, qor ((U : Nat) : Int) (qshl 1 ((j : Nat) : Int))), (0, 4), (2, 23)]) (w' := wP) (n' := 142) rfl ?_
              rw [show qor ((U : Nat) : Int) (qshl 1 ((j : Nat) : Int)) = ((U ||| 2 ^ j : Nat) : Int) from tr_or hU hj]
              refine qG.blk 3 (pc' := 72) (ls' := [(2, 23), (0, ((j : Nat) : Int)), (0, 3), (0, ((U : Nat) : Int)), (0, x), (0, vD w0 c j)]) (st' := [(0, qor x (vD w0 c j)), (0, ((U ||| 2 ^ j : Nat) : Int)), (0, 4), (2, 23)]) (w' := wP) (n' := 142) rfl ?_
              have hrow2 : ∀ k, k < 4 → wP 32 k = (((upR r 3 j) k : Nat) : Int) := fun k hk => by
                rw [hPf 32 k (by decide) (by decide), hwS]
                by_cases e : k = 3
                · rw [e, qup_k, upR_at]
                · rw [qup_f (by omega), upR_lo (by omega)]; exact hrow k (by omega)
              refine qG.call (t := 44) (na := 4) (sk := 1) (md := 1) (ls1 := [(2, 23), (0, 4), (0, ((U ||| 2 ^ j : Nat) : Int)), (0, qor x (vD w0 c j)), (9, 0)]) (r1 := []) rfl rfl rfl rfl rfl ((IH d wP (upR r 3 j) (U ||| 2 ^ j) s (qor x (vD w0 c j)) (by omega) hIP (hOW.cg hF) (fun k hk => by by_cases e : k = 3; rw [e, upR_at]; exact hj; rw [upR_lo (by omega)]; exact hr k (by omega)) hrow2 (tr_ult hU hj) (by have z := tr_dec hU hj hb; omega) (by rw [hxs]; exact (row_as hj hr).symm) (qor_in hx (hv16 j hj)) hP1 (by cases q : okO N P M w0 c (W : Int) (3 + 1) (upR r 3 j) with | true => rfl | false => exact absurd (okO_no.mp q) hP2) hCP : qG none d 44 0 [(2, 23), (0, 4), (0, ((U ||| 2 ^ j : Nat) : Int)), (0, qor x (vD w0 c j)), (9, 0)] [] wP 142 _)) ?_
              rintro _ wR _ ⟨rfl, rfl, hIR, hFR, hCR⟩
              show qG none (d + 1) 45 75 [(2, 23), (0, ((j : Nat) : Int)), (0, 3), (0, ((U : Nat) : Int)), (0, x), (0, vD w0 c j)] [] wR 142 Q9
              refine qG.retv rfl rfl ?_
              subst hQ9
              refine ⟨rfl, rfl, hIR, hF.tr (m := 4) hFR (by omega), ?_⟩
              unfold stO
              rw [if_pos hb, if_neg (by decide)]
              exact hCR
          · skip
            show qG none (d + 1) 45 55 [(2, 23), (0, ((j : Nat) : Int)), (0, 3), (0, ((U : Nat) : Int)), (0, x), (0, vD w0 c j)] [(0, 0)] wP 142 Q9
            have hCP : OCs wP s := hC.cg ((hPf 23 13 (by decide) (by decide)).trans (by rw [hwS, qup_f (by decide)])) ((hPf 23 14 (by decide) (by decide)).trans (by rw [hwS, qup_f (by decide)])) (fun k => (hPf 39 k (by decide) (by decide)).trans (by rw [hwS, qup_f (by omega)]))
            refine qG.br (P := (0 : Int) = 0) (pc1 := 75) (pc2 := 58) (st1 := []) rfl (fun h6 => ?_) (fun h6 => ?_)
            · skip
              refine qG.retv rfl rfl ?_
              subst hQ9
              refine ⟨rfl, rfl, hIP, hF, ?_⟩
              unfold stO
              rw [if_pos hb, if_neg (by decide), XPo_no (fun n r j h => okO_x n r j h) _ _ _ _ _ (okO_no.mpr hP2)]
              exact hCP
            · exact absurd h6 (by decide)
        · exact absurd h4 (by decide)
    · exfalso; omega
theorem K_tryR3 {d : Nat} (hd : 24 ≤ d) (w0 : qW) (c N : Nat) (P : Nat → Int) (M : Nat → Nat → Bool) (D W : Nat) (hD : D < 1024) (hW : 1 ≤ W ∧ W ≤ 5) (hrf : ∀ i, i < N → M i i = true) (hv16 : ∀ j, j < 10 → 0 ≤ vD w0 c j ∧ vD w0 c j ≤ 65535) (IH : TRC w0 c N P M D W (3 + 1)) (w : qW) (r : Nat → Nat) (U : Nat) (s : oSt) (x : Int) (hI : yInv zgf zga zra zSp w) (hOW : OW N P M D W (fun j => vD w0 c j) w) (hr : ∀ k, k < 3 → r k < 10) (hrow : ∀ k, k < 3 → w 32 k = ((r k : Nat) : Int)) (hU : U < 1024) (hpc : pc (trX D U) 10 + 3 ≤ 4) (hxs : x = (snO w0 c (W : Int)) 3 r) (hx : 0 ≤ x ∧ x ≤ 65535) (hH : HOLD w 37 (hz N P M (fun t => siF w0 c kR (nR r (W : Int)) (4 * 3) t) (scF kR (nR r (W : Int)) (4 * 3)))) (hok : (okO N P M w0 c (W : Int)) 3 r = true) (hC : OCs w s) : qG none d 44 0 [(2, 23), (0, 3), (0, ((U : Nat) : Int)), (0, x), (9, 0)] [] w 142 (fun (r1 : qV) (w1 : qW) (n1 : Nat) => r1 = (9, 0) ∧ n1 = 142 ∧ yInv zgf zga zra zSp w1 ∧ OFR 3 w w1 ∧ OCs w1 (XPo (okO N P M w0 c (W : Int)) (snO w0 c (W : Int)) D 1 3 r U s)) := by
  generalize hQ9 : (fun (r1 : qV) (w1 : qW) (n1 : Nat) => r1 = (9, 0) ∧ n1 = 142 ∧ yInv zgf zga zra zSp w1 ∧ OFR 3 w w1 ∧ OCs w1 (XPo (okO N P M w0 c (W : Int)) (snO w0 c (W : Int)) D 1 3 r U s)) = Q9
  obtain ⟨d, rfl⟩ : ∃ d9, d = d9 + 1 := ⟨d - 1, by omega⟩
  refine qG.blk 3 (pc' := 3) (ls' := [(2, 23), (0, 3), (0, ((U : Nat) : Int)), (0, x), (9, 0)]) (st' := [(0, x), (0, 3), (2, 23)]) (w' := w) (n' := 142) rfl ?_
  refine qG.call (t := 46) (na := 3) (sk := 1) (md := 1) (ls1 := [(2, 23), (0, 3), (0, x), (9, 0)]) (r1 := []) rfl rfl rfl rfl rfl ((K_keepIf (by omega) 3 (by omega) x hx r s w hI hrow hC : qG none d 46 0 [(2, 23), (0, 3), (0, x), (9, 0)] [] w 142 _)) ?_
  rintro _ w1 _ ⟨rfl, rfl, hI1, h1f, h1C⟩
  rw [← kpO_if hok hxs] at h1C
  have h1F : OFR 3 w w1 := h1f.mono
  show qG none (d + 1) 44 6 [(2, 23), (0, 3), (0, ((U : Nat) : Int)), (0, x), (9, 0)] [] w1 142 Q9
  refine qG.blk 2 (pc' := 9) (ls' := [(2, 23), (0, 3), (0, ((U : Nat) : Int)), (0, x), (0, 0)]) (st' := []) (w' := w1) (n' := 142) rfl ?_
  have L9 : ∀ (m9 : Nat) (j : Nat) (wQ : qW), 10 - j = m9 → (j ≤ 10 ∧ yInv zgf zga zra zSp wQ ∧ OFR 3 w wQ ∧ OCs wQ (flO (stO (okO N P M w0 c (W : Int)) (snO w0 c (W : Int)) D 1 3 r U) j (kpO (okO N P M w0 c (W : Int)) (snO w0 c (W : Int)) 3 r s))) → qG none (d + 1) 44 9 [(2, 23), (0, 3), (0, ((U : Nat) : Int)), (0, x), (0, ((j : Nat) : Int))] [] wQ 142 Q9 := by
    intro m9
    induction m9 using Nat.strongRecOn with
    | ind m9 ih9 =>
    intro j wQ hm9 hI9
    obtain ⟨hj10, hIQ, hQF, hCQ⟩ := hI9
    have hOQ := hOW.cg hQF
    refine qG.blk 2 (pc' := 13) (ls' := [(2, 23), (0, 3), (0, ((U : Nat) : Int)), (0, x), (0, ((j : Nat) : Int))]) (st' := [(0, 10), (0, ((j : Nat) : Int))]) (w' := wQ) (n' := 142) rfl ?_
    refine qG.br (P := ((j : Nat) : Int) < 10) (pc1 := 16) (pc2 := 47) (st1 := []) rfl (fun h1 => ?_) (fun h1 => ?_)
    · skip
      refine qG.blk 2 (pc' := 20) (ls' := [(2, 23), (0, 3), (0, ((U : Nat) : Int)), (0, x), (0, ((j : Nat) : Int))]) (st' := [(0, wQ 23 7)]) (w' := wQ) (n' := 142) rfl ?_
      rw [show wQ 23 7 = ((D : Nat) : Int) from hOQ.2.1]
      refine qG.blk 4 (pc' := 24) (ls' := [(2, 23), (0, 3), (0, ((U : Nat) : Int)), (0, x), (0, ((j : Nat) : Int))]) (st' := [(0, qand ((D : Nat) : Int) (qxor ((U : Nat) : Int) (-1)))]) (w' := wQ) (n' := 142) rfl ?_
      rw [show qand ((D : Nat) : Int) (qxor ((U : Nat) : Int) (-1)) = ((trX D U : Nat) : Int) from tr_and hD hU]
      refine qG.blk 4 (pc' := 29) (ls' := [(2, 23), (0, 3), (0, ((U : Nat) : Int)), (0, x), (0, ((j : Nat) : Int))]) (st' := [(0, qand (qush ((trX D U : Nat) : Int) ((j : Nat) : Int)) 1)]) (w' := wQ) (n' := 142) rfl ?_
      rw [show qand (qush ((trX D U : Nat) : Int) ((j : Nat) : Int)) 1 = (if (trX D U).testBit j = true then 1 else 0) from by rw [ushr_b (trX_lt hD) (by omega)]; exact hb_bit (Nat.lt_of_lt_of_le (trX_lt hD) (by decide)) (by omega)]
      refine qG.br (P := (if (trX D U).testBit j = true then 1 else 0) = 0) (pc1 := 41) (pc2 := 32) (st1 := []) rfl (fun htb => ?_) (fun htb => ?_)
      · skip
        have htb1 : ¬ (trX D U).testBit j = true := fun z => by rw [if_pos z] at htb; exact absurd htb (by decide)
        refine qG.blk 1 (pc' := 44) (ls' := [(2, 23), (0, 3), (0, ((U : Nat) : Int)), (0, x), (0, wrp (((j : Nat) : Int) + 1))]) (st' := []) (w' := wQ) (n' := 142) rfl ?_
        rw [show wrp (((j : Nat) : Int) + 1) = ((j + 1 : Nat) : Int) from wrp_id (by omega) (by omega)]
        refine qG.blk 1 (pc' := 9) (ls' := [(2, 23), (0, 3), (0, ((U : Nat) : Int)), (0, x), (0, ((j + 1 : Nat) : Int))]) (st' := []) (w' := wQ) (n' := 142) rfl ?_
        exact ih9 _ (by omega) (j + 1) (wQ) rfl (⟨by omega, hIQ, hQF, by show OCs wQ (stO (okO N P M w0 c (W : Int)) (snO w0 c (W : Int)) D 1 3 r U j (flO (stO (okO N P M w0 c (W : Int)) (snO w0 c (W : Int)) D 1 3 r U) j (kpO (okO N P M w0 c (W : Int)) (snO w0 c (W : Int)) 3 r s))); unfold stO; rw [if_neg htb1]; exact hCQ⟩)
      · skip
        have htb2 : (trX D U).testBit j = true := Decidable.of_not_not (fun z => htb (if_neg z))
        refine qG.blk 5 (pc' := 38) (ls' := [(2, 23), (0, 3), (0, ((U : Nat) : Int)), (0, x), (0, ((j : Nat) : Int))]) (st' := [(0, x), (0, ((U : Nat) : Int)), (0, 3), (0, ((j : Nat) : Int)), (2, 23)]) (w' := wQ) (n' := 142) rfl ?_
        refine qG.call (t := 45) (na := 5) (sk := 1) (md := 1) (ls1 := [(2, 23), (0, ((j : Nat) : Int)), (0, 3), (0, ((U : Nat) : Int)), (0, x), (9, 0)]) (r1 := []) rfl rfl rfl rfl rfl ((K_tryD3 (by omega) w0 c N P M D W hD hW hrf hv16 IH wQ r U (flO (stO (okO N P M w0 c (W : Int)) (snO w0 c (W : Int)) D 1 3 r U) j (kpO (okO N P M w0 c (W : Int)) (snO w0 c (W : Int)) 3 r s)) x hIQ hOQ hr (fun k hk => (hQF 32 k (by omega) (by omega) (by omega) (by omega) (by omega)).trans (hrow k hk)) hU hpc hxs hx (OFR.hold (n := 3) (m := 3) hQF (Nat.le_refl _) (by decide) hH) hok hCQ j (by omega) htb2)) ?_
        rintro _ wR _ ⟨rfl, rfl, hIR, hFR, hCR⟩
        show qG none (d + 1) 44 41 [(2, 23), (0, 3), (0, ((U : Nat) : Int)), (0, x), (0, ((j : Nat) : Int))] [] wR 142 Q9
        refine qG.blk 1 (pc' := 44) (ls' := [(2, 23), (0, 3), (0, ((U : Nat) : Int)), (0, x), (0, wrp (((j : Nat) : Int) + 1))]) (st' := []) (w' := wR) (n' := 142) rfl ?_
        rw [show wrp (((j : Nat) : Int) + 1) = ((j + 1 : Nat) : Int) from wrp_id (by omega) (by omega)]
        refine qG.blk 1 (pc' := 9) (ls' := [(2, 23), (0, 3), (0, ((U : Nat) : Int)), (0, x), (0, ((j + 1 : Nat) : Int))]) (st' := []) (w' := wR) (n' := 142) rfl ?_
        exact ih9 _ (by omega) (j + 1) (wR) rfl (⟨by omega, hIR, hQF.tr (m := 3) hFR (Nat.le_refl _), hCR⟩)
    · skip
      refine qG.retv rfl rfl ?_
      subst hQ9
      refine ⟨rfl, rfl, hIQ, hQF, ?_⟩
      rw [XPo_st]
      rw [show j = 10 by omega] at hCQ
      exact hCQ
  exact L9 _ (0) (w1) rfl (⟨Nat.zero_le _, hI1, h1F, h1C⟩)
theorem TRC_3 (w0 : qW) (c N : Nat) (P : Nat → Int) (M : Nat → Nat → Bool) (D W : Nat) (hD : D < 1024) (hW : 1 ≤ W ∧ W ≤ 5) (hrf : ∀ i, i < N → M i i = true) (hv16 : ∀ j, j < 10 → 0 ≤ vD w0 c j ∧ vD w0 c j ≤ 65535) : TRC w0 c N P M D W 3 := fun d w r U s x h1 h2 h3 h4 h5 h6 h7 h8 h9 h10 h11 h12 => K_tryR3 (by omega) w0 c N P M D W hD hW hrf hv16 (TRC_4 w0 c N P M D W hD hW hrf hv16) w r U s x h2 h3 h4 h5 h6 h7 h8 h9 h10 h11 h12
theorem K_tryD2 {d : Nat} (hd : 25 ≤ d) (w0 : qW) (c N : Nat) (P : Nat → Int) (M : Nat → Nat → Bool) (D W : Nat) (hD : D < 1024) (hW : 1 ≤ W ∧ W ≤ 5) (hrf : ∀ i, i < N → M i i = true) (hv16 : ∀ j, j < 10 → 0 ≤ vD w0 c j ∧ vD w0 c j ≤ 65535) (IH : TRC w0 c N P M D W (2 + 1)) (w : qW) (r : Nat → Nat) (U : Nat) (s : oSt) (x : Int) (hI : yInv zgf zga zra zSp w) (hOW : OW N P M D W (fun j => vD w0 c j) w) (hr : ∀ k, k < 2 → r k < 10) (hrow : ∀ k, k < 2 → w 32 k = ((r k : Nat) : Int)) (hU : U < 1024) (hpc : pc (trX D U) 10 + 2 ≤ 4) (hxs : x = (snO w0 c (W : Int)) 2 r) (hx : 0 ≤ x ∧ x ≤ 65535) (hH : HOLD w 36 (hz N P M (fun t => siF w0 c kR (nR r (W : Int)) (4 * 2) t) (scF kR (nR r (W : Int)) (4 * 2)))) (hok : (okO N P M w0 c (W : Int)) 2 r = true) (hC : OCs w s) (j : Nat) (hj : j < 10) (hb : (trX D U).testBit j = true) : qG none d 45 0 [(2, 23), (0, ((j : Nat) : Int)), (0, 2), (0, ((U : Nat) : Int)), (0, x), (9, 0)] [] w 142 (fun (r1 : qV) (w1 : qW) (n1 : Nat) => r1 = (9, 0) ∧ n1 = 142 ∧ yInv zgf zga zra zSp w1 ∧ OFR 2 w w1 ∧ OCs w1 (stO (okO N P M w0 c (W : Int)) (snO w0 c (W : Int)) D 2 2 r U j s)) := by
  generalize hQ9 : (fun (r1 : qV) (w1 : qW) (n1 : Nat) => r1 = (9, 0) ∧ n1 = 142 ∧ yInv zgf zga zra zSp w1 ∧ OFR 2 w w1 ∧ OCs w1 (stO (okO N P M w0 c (W : Int)) (snO w0 c (W : Int)) D 2 2 r U j s)) = Q9
  obtain ⟨d, rfl⟩ : ∃ d9, d = d9 + 1 := ⟨d - 1, by omega⟩
  refine qG.blk 1 (pc' := 1) (ls' := [(2, 23), (0, ((j : Nat) : Int)), (0, 2), (0, ((U : Nat) : Int)), (0, x), (9, 0)]) (st' := [(0, ((j : Nat) : Int))]) (w' := w) (n' := 142) rfl ?_
  refine qG.br (P := ((j : Nat) : Int) < 0) (pc1 := 19) (pc2 := 4) (st1 := []) rfl (fun h1 => ?_) (fun h1 => ?_)
  · exfalso; omega
  · skip
    refine qG.blk 2 (pc' := 7) (ls' := [(2, 23), (0, ((j : Nat) : Int)), (0, 2), (0, ((U : Nat) : Int)), (0, x), (9, 0)]) (st' := [(0, 10), (0, ((j : Nat) : Int))]) (w' := w) (n' := 142) rfl ?_
    refine qG.br (P := ((j : Nat) : Int) < 10) (pc1 := 10) (pc2 := 19) (st1 := []) rfl (fun h2 => ?_) (fun h2 => ?_)
    · skip
      refine qG.blk 1 (pc' := 11) (ls' := [(2, 23), (0, ((j : Nat) : Int)), (0, 2), (0, ((U : Nat) : Int)), (0, x), (9, 0)]) (st' := [(0, 2)]) (w' := w) (n' := 142) rfl ?_
      refine qG.br (P := (2 : Int) < 0) (pc1 := 19) (pc2 := 14) (st1 := []) rfl (fun h3 => ?_) (fun h3 => ?_)
      · exact absurd h3 (by decide)
      · skip
        refine qG.blk 2 (pc' := 16) (ls' := [(2, 23), (0, ((j : Nat) : Int)), (0, 2), (0, ((U : Nat) : Int)), (0, x), (9, 0)]) (st' := [(0, 4), (0, 2)]) (w' := w) (n' := 142) rfl ?_
        refine qG.br (P := (2 : Int) < 4) (pc1 := 20) (pc2 := 19) (st1 := []) rfl (fun h4 => ?_) (fun h4 => ?_)
        · skip
          refine qG.blk 2 (pc' := 24) (ls' := [(2, 23), (0, ((j : Nat) : Int)), (0, 2), (0, ((U : Nat) : Int)), (0, x), (9, 0)]) (st' := [(2, w 23 10)]) (w' := w) (n' := 142) rfl ?_
          rw [show w 23 10 = 32 from zref hI rfl rfl]
          refine qG.blk 2 (pc' := 26) (ls' := [(2, 23), (0, ((j : Nat) : Int)), (0, 2), (0, ((U : Nat) : Int)), (0, x), (9, 0)]) (st' := [(0, ((j : Nat) : Int)), (0, 2), (2, 32)]) (w' := w) (n' := 142) rfl ?_
          refine qG.ar (P := 0 ≤ 2 ∧ 2 < ((4 : Nat) : Int)) (P2 := 0 < (32 : Int) ∧ (32 : Int) ≤ ((142 : Nat) : Int)) (pc' := 27) (ls' := [(2, 23), (0, ((j : Nat) : Int)), (0, 2), (0, ((U : Nat) : Int)), (0, x), (9, 0)]) (st' := []) (w' := (qup w 32 2 ((j : Nat) : Int))) (n' := 142) rfl (by omega) (by decide) ?_
          refine qG.blk 2 (pc' := 31) (ls' := [(2, 23), (0, ((j : Nat) : Int)), (0, 2), (0, ((U : Nat) : Int)), (0, x), (9, 0)]) (st' := [(2, w 23 9)]) (w' := (qup w 32 2 ((j : Nat) : Int))) (n' := 142) rfl ?_
          rw [show w 23 9 = 31 from zref hI rfl rfl]
          refine qG.blk 1 (pc' := 32) (ls' := [(2, 23), (0, ((j : Nat) : Int)), (0, 2), (0, ((U : Nat) : Int)), (0, x), (9, 0)]) (st' := [(0, ((j : Nat) : Int)), (2, 31)]) (w' := (qup w 32 2 ((j : Nat) : Int))) (n' := 142) rfl ?_
          refine qG.ar (P := 0 ≤ ((j : Nat) : Int) ∧ ((j : Nat) : Int) < ((10 : Nat) : Int)) (P2 := 0 < (31 : Int) ∧ (31 : Int) ≤ ((142 : Nat) : Int)) (pc' := 33) (ls' := [(2, 23), (0, ((j : Nat) : Int)), (0, 2), (0, ((U : Nat) : Int)), (0, x), (9, 0)]) (st' := [(0, w 31 j)]) (w' := (qup w 32 2 ((j : Nat) : Int))) (n' := 142) rfl (by omega) (by decide) ?_
          rw [show w 31 j = vD w0 c j from hOW.2.2.2 j hj]
          refine qG.blk 5 (pc' := 42) (ls' := [(2, 23), (0, ((j : Nat) : Int)), (0, 2), (0, ((U : Nat) : Int)), (0, x), (0, vD w0 c j)]) (st' := [(2, w 23 11), (0, vD w0 c j), (2, 23)]) (w' := (qup w 32 2 ((j : Nat) : Int))) (n' := 142) rfl ?_
          rw [show w 23 11 = 33 from zref hI rfl rfl]
          refine qG.blk 1 (pc' := 43) (ls' := [(2, 23), (0, ((j : Nat) : Int)), (0, 2), (0, ((U : Nat) : Int)), (0, x), (0, vD w0 c j)]) (st' := [(0, 2), (2, 33), (0, vD w0 c j), (2, 23)]) (w' := (qup w 32 2 ((j : Nat) : Int))) (n' := 142) rfl ?_
          refine qG.ar (P := 0 ≤ 2 ∧ 2 < ((5 : Nat) : Int)) (P2 := 0 < (33 : Int) ∧ (33 : Int) ≤ ((142 : Nat) : Int)) (pc' := 44) (ls' := [(2, 23), (0, ((j : Nat) : Int)), (0, 2), (0, ((U : Nat) : Int)), (0, x), (0, vD w0 c j)]) (st' := [(2, w 33 2), (0, vD w0 c j), (2, 23)]) (w' := (qup w 32 2 ((j : Nat) : Int))) (n' := 142) rfl (by omega) (by decide) ?_
          rw [show w 33 2 = 36 from zref hI rfl rfl]
          refine qG.blk 2 (pc' := 48) (ls' := [(2, 23), (0, ((j : Nat) : Int)), (0, 2), (0, ((U : Nat) : Int)), (0, x), (0, vD w0 c j)]) (st' := [(2, w 23 11), (2, 36), (0, vD w0 c j), (2, 23)]) (w' := (qup w 32 2 ((j : Nat) : Int))) (n' := 142) rfl ?_
          rw [show w 23 11 = 33 from zref hI rfl rfl]
          refine qG.blk 3 (pc' := 51) (ls' := [(2, 23), (0, ((j : Nat) : Int)), (0, 2), (0, ((U : Nat) : Int)), (0, x), (0, vD w0 c j)]) (st' := [(0, 3), (2, 33), (2, 36), (0, vD w0 c j), (2, 23)]) (w' := (qup w 32 2 ((j : Nat) : Int))) (n' := 142) rfl ?_
          refine qG.ar (P := 0 ≤ 3 ∧ 3 < ((5 : Nat) : Int)) (P2 := 0 < (33 : Int) ∧ (33 : Int) ≤ ((142 : Nat) : Int)) (pc' := 52) (ls' := [(2, 23), (0, ((j : Nat) : Int)), (0, 2), (0, ((U : Nat) : Int)), (0, x), (0, vD w0 c j)]) (st' := [(2, w 33 3), (2, 36), (0, vD w0 c j), (2, 23)]) (w' := (qup w 32 2 ((j : Nat) : Int))) (n' := 142) rfl (by omega) (by decide) ?_
          rw [show w 33 3 = 37 from zref hI rfl rfl]
          obtain ⟨wS, hwS⟩ : ∃ z : qW, z = (qup w 32 2 ((j : Nat) : Int)) := ⟨_, rfl⟩
          rw [← hwS]
          have hIS : yInv zgf zga zra zSp wS := by rw [hwS]; exact zup_a hI (b := (0, 9)) rfl rfl ⟨by show (0 : Int) ≤ _; omega, by show _ ≤ (9 : Int); omega⟩
          have hS : OFR 2 w wS := fun q k a1 a2 a3 a4 a5 => by rw [hwS, qup_f (by omega)]
          have hOS := hOW.cg hS
          obtain ⟨q0, q1, q2, q3, q4⟩ := row_si (w := w0) (c := c) (r := r) (W := (W : Int)) (n := 2) hj hr
          rw [Int.toNat_natCast] at q2 q3 q4
          have eV := hz_cg (N := N) (P := P) (M := M) (V := fun t => siF w0 c kR (nR r (W : Int)) (4 * 2) t) (V2 := fun t => siF w0 c kR (nR (upR r 2 j) (W : Int)) (4 * (2 + 1)) t) (S := scF kR (nR r (W : Int)) (4 * 2)) (fun _ _ => rfl) (fun _ _ _ _ => rfl) (fun t ht => q0 t ht) _ (Nat.le_refl _)
          have hHS : HOLD wS 36 (hz N P M (fun t => siF w0 c kR (nR (upR r 2 j) (W : Int)) (4 * (2 + 1)) t) (scF kR (nR r (W : Int)) (4 * 2))) := by rw [eV]; exact OFR.hold (n := 2) (m := 2) hS (Nat.le_refl _) (by decide) hH
          have hnS : ¬ hzE (hz N P M (fun t => siF w0 c kR (nR (upR r 2 j) (W : Int)) (4 * (2 + 1)) t) (scF kR (nR r (W : Int)) (4 * 2))) := by rw [eV]; exact fun z => by rw [okO_no.mpr z] at hok; cases hok
          refine qG.call (t := 47) (na := 4) (sk := 1) (md := 1) (ls1 := [(2, 23), (0, vD w0 c j), (2, 36), (2, 37)]) (r1 := []) rfl rfl rfl rfl rfl (K_pass2 (by omega) N P M (fun t => siF w0 c kR (nR (upR r 2 j) (W : Int)) (4 * (2 + 1)) t) (scF kR (nR r (W : Int)) (4 * 2)) W (vD w0 c j) hW.2 q1 q2 q3 hrf wS hIS hOS.1 hOS.2.2.1 hHS hnS) ?_
          rintro _ wP _ ⟨rfl, hIP, hPf, ⟨rfl, hP1, hP2⟩ | ⟨rfl, hP2⟩⟩ <;> rw [← q4] at hP2 <;> have hF : OFR 2 w wP := hS.tr (m := 2) (fun q k a1 a2 a3 a4 a5 => hPf q k a1 (by omega)) (Nat.le_refl _)
          · skip
            show qG none (d + 1) 45 55 [(2, 23), (0, ((j : Nat) : Int)), (0, 2), (0, ((U : Nat) : Int)), (0, x), (0, vD w0 c j)] [(0, 1)] wP 142 Q9
            rw [← q4] at hP1
            have hCP : OCs wP s := hC.cg ((hPf 23 13 (by decide) (by decide)).trans (by rw [hwS, qup_f (by decide)])) ((hPf 23 14 (by decide) (by decide)).trans (by rw [hwS, qup_f (by decide)])) (fun k => (hPf 39 k (by decide) (by decide)).trans (by rw [hwS, qup_f (by omega)]))
            refine qG.br (P := (1 : Int) = 0) (pc1 := 75) (pc2 := 58) (st1 := []) rfl (fun h5 => ?_) (fun h5 => ?_)
            · exact absurd h5 (by decide)
            · skip
              refine qG.blk 9 (pc' := 67) (ls' := [(2, 23), (0, ((j : Nat) : Int)), (0, 2), (0, ((U : Nat) : Int)), (0, x), (0, vD w0 c j)]) (st' := [(0, qor ((U : Nat) : Int) (qshl 1 ((j : Nat) : Int))), (0, 3), (2, 23)]) (w' := wP) (n' := 142) rfl ?_
              rw [show qor ((U : Nat) : Int) (qshl 1 ((j : Nat) : Int)) = ((U ||| 2 ^ j : Nat) : Int) from tr_or hU hj]
              refine qG.blk 3 (pc' := 72) (ls' := [(2, 23), (0, ((j : Nat) : Int)), (0, 2), (0, ((U : Nat) : Int)), (0, x), (0, vD w0 c j)]) (st' := [(0, qor x (vD w0 c j)), (0, ((U ||| 2 ^ j : Nat) : Int)), (0, 3), (2, 23)]) (w' := wP) (n' := 142) rfl ?_
              have hrow2 : ∀ k, k < 3 → wP 32 k = (((upR r 2 j) k : Nat) : Int) := fun k hk => by
                rw [hPf 32 k (by decide) (by decide), hwS]
                by_cases e : k = 2
                · rw [e, qup_k, upR_at]
                · rw [qup_f (by omega), upR_lo (by omega)]; exact hrow k (by omega)
              refine qG.call (t := 44) (na := 4) (sk := 1) (md := 1) (ls1 := [(2, 23), (0, 3), (0, ((U ||| 2 ^ j : Nat) : Int)), (0, qor x (vD w0 c j)), (9, 0)]) (r1 := []) rfl rfl rfl rfl rfl ((IH d wP (upR r 2 j) (U ||| 2 ^ j) s (qor x (vD w0 c j)) (by omega) hIP (hOW.cg hF) (fun k hk => by by_cases e : k = 2; rw [e, upR_at]; exact hj; rw [upR_lo (by omega)]; exact hr k (by omega)) hrow2 (tr_ult hU hj) (by have z := tr_dec hU hj hb; omega) (by rw [hxs]; exact (row_as hj hr).symm) (qor_in hx (hv16 j hj)) hP1 (by cases q : okO N P M w0 c (W : Int) (2 + 1) (upR r 2 j) with | true => rfl | false => exact absurd (okO_no.mp q) hP2) hCP : qG none d 44 0 [(2, 23), (0, 3), (0, ((U ||| 2 ^ j : Nat) : Int)), (0, qor x (vD w0 c j)), (9, 0)] [] wP 142 _)) ?_
              rintro _ wR _ ⟨rfl, rfl, hIR, hFR, hCR⟩
              show qG none (d + 1) 45 75 [(2, 23), (0, ((j : Nat) : Int)), (0, 2), (0, ((U : Nat) : Int)), (0, x), (0, vD w0 c j)] [] wR 142 Q9
              refine qG.retv rfl rfl ?_
              subst hQ9
              refine ⟨rfl, rfl, hIR, hF.tr (m := 3) hFR (by omega), ?_⟩
              unfold stO
              rw [if_pos hb, if_neg (by decide)]
              exact hCR
          · skip
            show qG none (d + 1) 45 55 [(2, 23), (0, ((j : Nat) : Int)), (0, 2), (0, ((U : Nat) : Int)), (0, x), (0, vD w0 c j)] [(0, 0)] wP 142 Q9
            have hCP : OCs wP s := hC.cg ((hPf 23 13 (by decide) (by decide)).trans (by rw [hwS, qup_f (by decide)])) ((hPf 23 14 (by decide) (by decide)).trans (by rw [hwS, qup_f (by decide)])) (fun k => (hPf 39 k (by decide) (by decide)).trans (by rw [hwS, qup_f (by omega)]))
            refine qG.br (P := (0 : Int) = 0) (pc1 := 75) (pc2 := 58) (st1 := []) rfl (fun h6 => ?_) (fun h6 => ?_)
            · skip
              refine qG.retv rfl rfl ?_
              subst hQ9
              refine ⟨rfl, rfl, hIP, hF, ?_⟩
              unfold stO
              rw [if_pos hb, if_neg (by decide), XPo_no (fun n r j h => okO_x n r j h) _ _ _ _ _ (okO_no.mpr hP2)]
              exact hCP
            · exact absurd h6 (by decide)
        · exact absurd h4 (by decide)
    · exfalso; omega
theorem K_tryR2 {d : Nat} (hd : 26 ≤ d) (w0 : qW) (c N : Nat) (P : Nat → Int) (M : Nat → Nat → Bool) (D W : Nat) (hD : D < 1024) (hW : 1 ≤ W ∧ W ≤ 5) (hrf : ∀ i, i < N → M i i = true) (hv16 : ∀ j, j < 10 → 0 ≤ vD w0 c j ∧ vD w0 c j ≤ 65535) (IH : TRC w0 c N P M D W (2 + 1)) (w : qW) (r : Nat → Nat) (U : Nat) (s : oSt) (x : Int) (hI : yInv zgf zga zra zSp w) (hOW : OW N P M D W (fun j => vD w0 c j) w) (hr : ∀ k, k < 2 → r k < 10) (hrow : ∀ k, k < 2 → w 32 k = ((r k : Nat) : Int)) (hU : U < 1024) (hpc : pc (trX D U) 10 + 2 ≤ 4) (hxs : x = (snO w0 c (W : Int)) 2 r) (hx : 0 ≤ x ∧ x ≤ 65535) (hH : HOLD w 36 (hz N P M (fun t => siF w0 c kR (nR r (W : Int)) (4 * 2) t) (scF kR (nR r (W : Int)) (4 * 2)))) (hok : (okO N P M w0 c (W : Int)) 2 r = true) (hC : OCs w s) : qG none d 44 0 [(2, 23), (0, 2), (0, ((U : Nat) : Int)), (0, x), (9, 0)] [] w 142 (fun (r1 : qV) (w1 : qW) (n1 : Nat) => r1 = (9, 0) ∧ n1 = 142 ∧ yInv zgf zga zra zSp w1 ∧ OFR 2 w w1 ∧ OCs w1 (XPo (okO N P M w0 c (W : Int)) (snO w0 c (W : Int)) D 2 2 r U s)) := by
  generalize hQ9 : (fun (r1 : qV) (w1 : qW) (n1 : Nat) => r1 = (9, 0) ∧ n1 = 142 ∧ yInv zgf zga zra zSp w1 ∧ OFR 2 w w1 ∧ OCs w1 (XPo (okO N P M w0 c (W : Int)) (snO w0 c (W : Int)) D 2 2 r U s)) = Q9
  obtain ⟨d, rfl⟩ : ∃ d9, d = d9 + 1 := ⟨d - 1, by omega⟩
  refine qG.blk 3 (pc' := 3) (ls' := [(2, 23), (0, 2), (0, ((U : Nat) : Int)), (0, x), (9, 0)]) (st' := [(0, x), (0, 2), (2, 23)]) (w' := w) (n' := 142) rfl ?_
  refine qG.call (t := 46) (na := 3) (sk := 1) (md := 1) (ls1 := [(2, 23), (0, 2), (0, x), (9, 0)]) (r1 := []) rfl rfl rfl rfl rfl ((K_keepIf (by omega) 2 (by omega) x hx r s w hI hrow hC : qG none d 46 0 [(2, 23), (0, 2), (0, x), (9, 0)] [] w 142 _)) ?_
  rintro _ w1 _ ⟨rfl, rfl, hI1, h1f, h1C⟩
  rw [← kpO_if hok hxs] at h1C
  have h1F : OFR 2 w w1 := h1f.mono
  show qG none (d + 1) 44 6 [(2, 23), (0, 2), (0, ((U : Nat) : Int)), (0, x), (9, 0)] [] w1 142 Q9
  refine qG.blk 2 (pc' := 9) (ls' := [(2, 23), (0, 2), (0, ((U : Nat) : Int)), (0, x), (0, 0)]) (st' := []) (w' := w1) (n' := 142) rfl ?_
  have L9 : ∀ (m9 : Nat) (j : Nat) (wQ : qW), 10 - j = m9 → (j ≤ 10 ∧ yInv zgf zga zra zSp wQ ∧ OFR 2 w wQ ∧ OCs wQ (flO (stO (okO N P M w0 c (W : Int)) (snO w0 c (W : Int)) D 2 2 r U) j (kpO (okO N P M w0 c (W : Int)) (snO w0 c (W : Int)) 2 r s))) → qG none (d + 1) 44 9 [(2, 23), (0, 2), (0, ((U : Nat) : Int)), (0, x), (0, ((j : Nat) : Int))] [] wQ 142 Q9 := by
    intro m9
    induction m9 using Nat.strongRecOn with
    | ind m9 ih9 =>
    intro j wQ hm9 hI9
    obtain ⟨hj10, hIQ, hQF, hCQ⟩ := hI9
    have hOQ := hOW.cg hQF
    refine qG.blk 2 (pc' := 13) (ls' := [(2, 23), (0, 2), (0, ((U : Nat) : Int)), (0, x), (0, ((j : Nat) : Int))]) (st' := [(0, 10), (0, ((j : Nat) : Int))]) (w' := wQ) (n' := 142) rfl ?_
    refine qG.br (P := ((j : Nat) : Int) < 10) (pc1 := 16) (pc2 := 47) (st1 := []) rfl (fun h1 => ?_) (fun h1 => ?_)
    · skip
      refine qG.blk 2 (pc' := 20) (ls' := [(2, 23), (0, 2), (0, ((U : Nat) : Int)), (0, x), (0, ((j : Nat) : Int))]) (st' := [(0, wQ 23 7)]) (w' := wQ) (n' := 142) rfl ?_
      rw [show wQ 23 7 = ((D : Nat) : Int) from hOQ.2.1]
      refine qG.blk 4 (pc' := 24) (ls' := [(2, 23), (0, 2), (0, ((U : Nat) : Int)), (0, x), (0, ((j : Nat) : Int))]) (st' := [(0, qand ((D : Nat) : Int) (qxor ((U : Nat) : Int) (-1)))]) (w' := wQ) (n' := 142) rfl ?_
      rw [show qand ((D : Nat) : Int) (qxor ((U : Nat) : Int) (-1)) = ((trX D U : Nat) : Int) from tr_and hD hU]
      refine qG.blk 4 (pc' := 29) (ls' := [(2, 23), (0, 2), (0, ((U : Nat) : Int)), (0, x), (0, ((j : Nat) : Int))]) (st' := [(0, qand (qush ((trX D U : Nat) : Int) ((j : Nat) : Int)) 1)]) (w' := wQ) (n' := 142) rfl ?_
      rw [show qand (qush ((trX D U : Nat) : Int) ((j : Nat) : Int)) 1 = (if (trX D U).testBit j = true then 1 else 0) from by rw [ushr_b (trX_lt hD) (by omega)]; exact hb_bit (Nat.lt_of_lt_of_le (trX_lt hD) (by decide)) (by omega)]
      refine qG.br (P := (if (trX D U).testBit j = true then 1 else 0) = 0) (pc1 := 41) (pc2 := 32) (st1 := []) rfl (fun htb => ?_) (fun htb => ?_)
      · skip
        have htb1 : ¬ (trX D U).testBit j = true := fun z => by rw [if_pos z] at htb; exact absurd htb (by decide)
        refine qG.blk 1 (pc' := 44) (ls' := [(2, 23), (0, 2), (0, ((U : Nat) : Int)), (0, x), (0, wrp (((j : Nat) : Int) + 1))]) (st' := []) (w' := wQ) (n' := 142) rfl ?_
        rw [show wrp (((j : Nat) : Int) + 1) = ((j + 1 : Nat) : Int) from wrp_id (by omega) (by omega)]
        refine qG.blk 1 (pc' := 9) (ls' := [(2, 23), (0, 2), (0, ((U : Nat) : Int)), (0, x), (0, ((j + 1 : Nat) : Int))]) (st' := []) (w' := wQ) (n' := 142) rfl ?_
        exact ih9 _ (by omega) (j + 1) (wQ) rfl (⟨by omega, hIQ, hQF, by show OCs wQ (stO (okO N P M w0 c (W : Int)) (snO w0 c (W : Int)) D 2 2 r U j (flO (stO (okO N P M w0 c (W : Int)) (snO w0 c (W : Int)) D 2 2 r U) j (kpO (okO N P M w0 c (W : Int)) (snO w0 c (W : Int)) 2 r s))); unfold stO; rw [if_neg htb1]; exact hCQ⟩)
      · skip
        have htb2 : (trX D U).testBit j = true := Decidable.of_not_not (fun z => htb (if_neg z))
        refine qG.blk 5 (pc' := 38) (ls' := [(2, 23), (0, 2), (0, ((U : Nat) : Int)), (0, x), (0, ((j : Nat) : Int))]) (st' := [(0, x), (0, ((U : Nat) : Int)), (0, 2), (0, ((j : Nat) : Int)), (2, 23)]) (w' := wQ) (n' := 142) rfl ?_
        refine qG.call (t := 45) (na := 5) (sk := 1) (md := 1) (ls1 := [(2, 23), (0, ((j : Nat) : Int)), (0, 2), (0, ((U : Nat) : Int)), (0, x), (9, 0)]) (r1 := []) rfl rfl rfl rfl rfl ((K_tryD2 (by omega) w0 c N P M D W hD hW hrf hv16 IH wQ r U (flO (stO (okO N P M w0 c (W : Int)) (snO w0 c (W : Int)) D 2 2 r U) j (kpO (okO N P M w0 c (W : Int)) (snO w0 c (W : Int)) 2 r s)) x hIQ hOQ hr (fun k hk => (hQF 32 k (by omega) (by omega) (by omega) (by omega) (by omega)).trans (hrow k hk)) hU hpc hxs hx (OFR.hold (n := 2) (m := 2) hQF (Nat.le_refl _) (by decide) hH) hok hCQ j (by omega) htb2)) ?_
        rintro _ wR _ ⟨rfl, rfl, hIR, hFR, hCR⟩
        show qG none (d + 1) 44 41 [(2, 23), (0, 2), (0, ((U : Nat) : Int)), (0, x), (0, ((j : Nat) : Int))] [] wR 142 Q9
        refine qG.blk 1 (pc' := 44) (ls' := [(2, 23), (0, 2), (0, ((U : Nat) : Int)), (0, x), (0, wrp (((j : Nat) : Int) + 1))]) (st' := []) (w' := wR) (n' := 142) rfl ?_
        rw [show wrp (((j : Nat) : Int) + 1) = ((j + 1 : Nat) : Int) from wrp_id (by omega) (by omega)]
        refine qG.blk 1 (pc' := 9) (ls' := [(2, 23), (0, 2), (0, ((U : Nat) : Int)), (0, x), (0, ((j + 1 : Nat) : Int))]) (st' := []) (w' := wR) (n' := 142) rfl ?_
        exact ih9 _ (by omega) (j + 1) (wR) rfl (⟨by omega, hIR, hQF.tr (m := 2) hFR (Nat.le_refl _), hCR⟩)
    · skip
      refine qG.retv rfl rfl ?_
      subst hQ9
      refine ⟨rfl, rfl, hIQ, hQF, ?_⟩
      rw [XPo_st]
      rw [show j = 10 by omega] at hCQ
      exact hCQ
  exact L9 _ (0) (w1) rfl (⟨Nat.zero_le _, hI1, h1F, h1C⟩)
theorem TRC_2 (w0 : qW) (c N : Nat) (P : Nat → Int) (M : Nat → Nat → Bool) (D W : Nat) (hD : D < 1024) (hW : 1 ≤ W ∧ W ≤ 5) (hrf : ∀ i, i < N → M i i = true) (hv16 : ∀ j, j < 10 → 0 ≤ vD w0 c j ∧ vD w0 c j ≤ 65535) : TRC w0 c N P M D W 2 := fun d w r U s x h1 h2 h3 h4 h5 h6 h7 h8 h9 h10 h11 h12 => K_tryR2 (by omega) w0 c N P M D W hD hW hrf hv16 (TRC_3 w0 c N P M D W hD hW hrf hv16) w r U s x h2 h3 h4 h5 h6 h7 h8 h9 h10 h11 h12
theorem K_tryD1 {d : Nat} (hd : 27 ≤ d) (w0 : qW) (c N : Nat) (P : Nat → Int) (M : Nat → Nat → Bool) (D W : Nat) (hD : D < 1024) (hW : 1 ≤ W ∧ W ≤ 5) (hrf : ∀ i, i < N → M i i = true) (hv16 : ∀ j, j < 10 → 0 ≤ vD w0 c j ∧ vD w0 c j ≤ 65535) (IH : TRC w0 c N P M D W (1 + 1)) (w : qW) (r : Nat → Nat) (U : Nat) (s : oSt) (x : Int) (hI : yInv zgf zga zra zSp w) (hOW : OW N P M D W (fun j => vD w0 c j) w) (hr : ∀ k, k < 1 → r k < 10) (hrow : ∀ k, k < 1 → w 32 k = ((r k : Nat) : Int)) (hU : U < 1024) (hpc : pc (trX D U) 10 + 1 ≤ 4) (hxs : x = (snO w0 c (W : Int)) 1 r) (hx : 0 ≤ x ∧ x ≤ 65535) (hH : HOLD w 35 (hz N P M (fun t => siF w0 c kR (nR r (W : Int)) (4 * 1) t) (scF kR (nR r (W : Int)) (4 * 1)))) (hok : (okO N P M w0 c (W : Int)) 1 r = true) (hC : OCs w s) (j : Nat) (hj : j < 10) (hb : (trX D U).testBit j = true) : qG none d 45 0 [(2, 23), (0, ((j : Nat) : Int)), (0, 1), (0, ((U : Nat) : Int)), (0, x), (9, 0)] [] w 142 (fun (r1 : qV) (w1 : qW) (n1 : Nat) => r1 = (9, 0) ∧ n1 = 142 ∧ yInv zgf zga zra zSp w1 ∧ OFR 1 w w1 ∧ OCs w1 (stO (okO N P M w0 c (W : Int)) (snO w0 c (W : Int)) D 3 1 r U j s)) := by
  generalize hQ9 : (fun (r1 : qV) (w1 : qW) (n1 : Nat) => r1 = (9, 0) ∧ n1 = 142 ∧ yInv zgf zga zra zSp w1 ∧ OFR 1 w w1 ∧ OCs w1 (stO (okO N P M w0 c (W : Int)) (snO w0 c (W : Int)) D 3 1 r U j s)) = Q9
  obtain ⟨d, rfl⟩ : ∃ d9, d = d9 + 1 := ⟨d - 1, by omega⟩
  refine qG.blk 1 (pc' := 1) (ls' := [(2, 23), (0, ((j : Nat) : Int)), (0, 1), (0, ((U : Nat) : Int)), (0, x), (9, 0)]) (st' := [(0, ((j : Nat) : Int))]) (w' := w) (n' := 142) rfl ?_
  refine qG.br (P := ((j : Nat) : Int) < 0) (pc1 := 19) (pc2 := 4) (st1 := []) rfl (fun h1 => ?_) (fun h1 => ?_)
  · exfalso; omega
  · skip
    refine qG.blk 2 (pc' := 7) (ls' := [(2, 23), (0, ((j : Nat) : Int)), (0, 1), (0, ((U : Nat) : Int)), (0, x), (9, 0)]) (st' := [(0, 10), (0, ((j : Nat) : Int))]) (w' := w) (n' := 142) rfl ?_
    refine qG.br (P := ((j : Nat) : Int) < 10) (pc1 := 10) (pc2 := 19) (st1 := []) rfl (fun h2 => ?_) (fun h2 => ?_)
    · skip
      refine qG.blk 1 (pc' := 11) (ls' := [(2, 23), (0, ((j : Nat) : Int)), (0, 1), (0, ((U : Nat) : Int)), (0, x), (9, 0)]) (st' := [(0, 1)]) (w' := w) (n' := 142) rfl ?_
      refine qG.br (P := (1 : Int) < 0) (pc1 := 19) (pc2 := 14) (st1 := []) rfl (fun h3 => ?_) (fun h3 => ?_)
      · exact absurd h3 (by decide)
      · skip
        refine qG.blk 2 (pc' := 16) (ls' := [(2, 23), (0, ((j : Nat) : Int)), (0, 1), (0, ((U : Nat) : Int)), (0, x), (9, 0)]) (st' := [(0, 4), (0, 1)]) (w' := w) (n' := 142) rfl ?_
        refine qG.br (P := (1 : Int) < 4) (pc1 := 20) (pc2 := 19) (st1 := []) rfl (fun h4 => ?_) (fun h4 => ?_)
        · skip
          refine qG.blk 2 (pc' := 24) (ls' := [(2, 23), (0, ((j : Nat) : Int)), (0, 1), (0, ((U : Nat) : Int)), (0, x), (9, 0)]) (st' := [(2, w 23 10)]) (w' := w) (n' := 142) rfl ?_
          rw [show w 23 10 = 32 from zref hI rfl rfl]
          refine qG.blk 2 (pc' := 26) (ls' := [(2, 23), (0, ((j : Nat) : Int)), (0, 1), (0, ((U : Nat) : Int)), (0, x), (9, 0)]) (st' := [(0, ((j : Nat) : Int)), (0, 1), (2, 32)]) (w' := w) (n' := 142) rfl ?_
          refine qG.ar (P := 0 ≤ 1 ∧ 1 < ((4 : Nat) : Int)) (P2 := 0 < (32 : Int) ∧ (32 : Int) ≤ ((142 : Nat) : Int)) (pc' := 27) (ls' := [(2, 23), (0, ((j : Nat) : Int)), (0, 1), (0, ((U : Nat) : Int)), (0, x), (9, 0)]) (st' := []) (w' := (qup w 32 1 ((j : Nat) : Int))) (n' := 142) rfl (by omega) (by decide) ?_
          refine qG.blk 2 (pc' := 31) (ls' := [(2, 23), (0, ((j : Nat) : Int)), (0, 1), (0, ((U : Nat) : Int)), (0, x), (9, 0)]) (st' := [(2, w 23 9)]) (w' := (qup w 32 1 ((j : Nat) : Int))) (n' := 142) rfl ?_
          rw [show w 23 9 = 31 from zref hI rfl rfl]
          refine qG.blk 1 (pc' := 32) (ls' := [(2, 23), (0, ((j : Nat) : Int)), (0, 1), (0, ((U : Nat) : Int)), (0, x), (9, 0)]) (st' := [(0, ((j : Nat) : Int)), (2, 31)]) (w' := (qup w 32 1 ((j : Nat) : Int))) (n' := 142) rfl ?_
          refine qG.ar (P := 0 ≤ ((j : Nat) : Int) ∧ ((j : Nat) : Int) < ((10 : Nat) : Int)) (P2 := 0 < (31 : Int) ∧ (31 : Int) ≤ ((142 : Nat) : Int)) (pc' := 33) (ls' := [(2, 23), (0, ((j : Nat) : Int)), (0, 1), (0, ((U : Nat) : Int)), (0, x), (9, 0)]) (st' := [(0, w 31 j)]) (w' := (qup w 32 1 ((j : Nat) : Int))) (n' := 142) rfl (by omega) (by decide) ?_
          rw [show w 31 j = vD w0 c j from hOW.2.2.2 j hj]
          refine qG.blk 5 (pc' := 42) (ls' := [(2, 23), (0, ((j : Nat) : Int)), (0, 1), (0, ((U : Nat) : Int)), (0, x), (0, vD w0 c j)]) (st' := [(2, w 23 11), (0, vD w0 c j), (2, 23)]) (w' := (qup w 32 1 ((j : Nat) : Int))) (n' := 142) rfl ?_
          rw [show w 23 11 = 33 from zref hI rfl rfl]
          refine qG.blk 1 (pc' := 43) (ls' := [(2, 23), (0, ((j : Nat) : Int)), (0, 1), (0, ((U : Nat) : Int)), (0, x), (0, vD w0 c j)]) (st' := [(0, 1), (2, 33), (0, vD w0 c j), (2, 23)]) (w' := (qup w 32 1 ((j : Nat) : Int))) (n' := 142) rfl ?_
          refine qG.ar (P := 0 ≤ 1 ∧ 1 < ((5 : Nat) : Int)) (P2 := 0 < (33 : Int) ∧ (33 : Int) ≤ ((142 : Nat) : Int)) (pc' := 44) (ls' := [(2, 23), (0, ((j : Nat) : Int)), (0, 1), (0, ((U : Nat) : Int)), (0, x), (0, vD w0 c j)]) (st' := [(2, w 33 1), (0, vD w0 c j), (2, 23)]) (w' := (qup w 32 1 ((j : Nat) : Int))) (n' := 142) rfl (by omega) (by decide) ?_
          rw [show w 33 1 = 35 from zref hI rfl rfl]
          refine qG.blk 2 (pc' := 48) (ls' := [(2, 23), (0, ((j : Nat) : Int)), (0, 1), (0, ((U : Nat) : Int)), (0, x), (0, vD w0 c j)]) (st' := [(2, w 23 11), (2, 35), (0, vD w0 c j), (2, 23)]) (w' := (qup w 32 1 ((j : Nat) : Int))) (n' := 142) rfl ?_
          rw [show w 23 11 = 33 from zref hI rfl rfl]
          refine qG.blk 3 (pc' := 51) (ls' := [(2, 23), (0, ((j : Nat) : Int)), (0, 1), (0, ((U : Nat) : Int)), (0, x), (0, vD w0 c j)]) (st' := [(0, 2), (2, 33), (2, 35), (0, vD w0 c j), (2, 23)]) (w' := (qup w 32 1 ((j : Nat) : Int))) (n' := 142) rfl ?_
          refine qG.ar (P := 0 ≤ 2 ∧ 2 < ((5 : Nat) : Int)) (P2 := 0 < (33 : Int) ∧ (33 : Int) ≤ ((142 : Nat) : Int)) (pc' := 52) (ls' := [(2, 23), (0, ((j : Nat) : Int)), (0, 1), (0, ((U : Nat) : Int)), (0, x), (0, vD w0 c j)]) (st' := [(2, w 33 2), (2, 35), (0, vD w0 c j), (2, 23)]) (w' := (qup w 32 1 ((j : Nat) : Int))) (n' := 142) rfl (by omega) (by decide) ?_
          rw [show w 33 2 = 36 from zref hI rfl rfl]
          obtain ⟨wS, hwS⟩ : ∃ z : qW, z = (qup w 32 1 ((j : Nat) : Int)) := ⟨_, rfl⟩
          rw [← hwS]
          have hIS : yInv zgf zga zra zSp wS := by rw [hwS]; exact zup_a hI (b := (0, 9)) rfl rfl ⟨by show (0 : Int) ≤ _; omega, by show _ ≤ (9 : Int); omega⟩
          have hS : OFR 1 w wS := fun q k a1 a2 a3 a4 a5 => by rw [hwS, qup_f (by omega)]
          have hOS := hOW.cg hS
          obtain ⟨q0, q1, q2, q3, q4⟩ := row_si (w := w0) (c := c) (r := r) (W := (W : Int)) (n := 1) hj hr
          rw [Int.toNat_natCast] at q2 q3 q4
          have eV := hz_cg (N := N) (P := P) (M := M) (V := fun t => siF w0 c kR (nR r (W : Int)) (4 * 1) t) (V2 := fun t => siF w0 c kR (nR (upR r 1 j) (W : Int)) (4 * (1 + 1)) t) (S := scF kR (nR r (W : Int)) (4 * 1)) (fun _ _ => rfl) (fun _ _ _ _ => rfl) (fun t ht => q0 t ht) _ (Nat.le_refl _)
          have hHS : HOLD wS 35 (hz N P M (fun t => siF w0 c kR (nR (upR r 1 j) (W : Int)) (4 * (1 + 1)) t) (scF kR (nR r (W : Int)) (4 * 1))) := by rw [eV]; exact OFR.hold (n := 1) (m := 1) hS (Nat.le_refl _) (by decide) hH
          have hnS : ¬ hzE (hz N P M (fun t => siF w0 c kR (nR (upR r 1 j) (W : Int)) (4 * (1 + 1)) t) (scF kR (nR r (W : Int)) (4 * 1))) := by rw [eV]; exact fun z => by rw [okO_no.mpr z] at hok; cases hok
          refine qG.call (t := 47) (na := 4) (sk := 1) (md := 1) (ls1 := [(2, 23), (0, vD w0 c j), (2, 35), (2, 36)]) (r1 := []) rfl rfl rfl rfl rfl (K_pass1 (by omega) N P M (fun t => siF w0 c kR (nR (upR r 1 j) (W : Int)) (4 * (1 + 1)) t) (scF kR (nR r (W : Int)) (4 * 1)) W (vD w0 c j) hW.2 q1 q2 q3 hrf wS hIS hOS.1 hOS.2.2.1 hHS hnS) ?_
          rintro _ wP _ ⟨rfl, hIP, hPf, ⟨rfl, hP1, hP2⟩ | ⟨rfl, hP2⟩⟩ <;> rw [← q4] at hP2 <;> have hF : OFR 1 w wP := hS.tr (m := 1) (fun q k a1 a2 a3 a4 a5 => hPf q k a1 (by omega)) (Nat.le_refl _)
          · skip
            show qG none (d + 1) 45 55 [(2, 23), (0, ((j : Nat) : Int)), (0, 1), (0, ((U : Nat) : Int)), (0, x), (0, vD w0 c j)] [(0, 1)] wP 142 Q9
            rw [← q4] at hP1
            have hCP : OCs wP s := hC.cg ((hPf 23 13 (by decide) (by decide)).trans (by rw [hwS, qup_f (by decide)])) ((hPf 23 14 (by decide) (by decide)).trans (by rw [hwS, qup_f (by decide)])) (fun k => (hPf 39 k (by decide) (by decide)).trans (by rw [hwS, qup_f (by omega)]))
            refine qG.br (P := (1 : Int) = 0) (pc1 := 75) (pc2 := 58) (st1 := []) rfl (fun h5 => ?_) (fun h5 => ?_)
            · exact absurd h5 (by decide)
            · skip
              refine qG.blk 9 (pc' := 67) (ls' := [(2, 23), (0, ((j : Nat) : Int)), (0, 1), (0, ((U : Nat) : Int)), (0, x), (0, vD w0 c j)]) (st' := [(0, qor ((U : Nat) : Int) (qshl 1 ((j : Nat) : Int))), (0, 2), (2, 23)]) (w' := wP) (n' := 142) rfl ?_
              rw [show qor ((U : Nat) : Int) (qshl 1 ((j : Nat) : Int)) = ((U ||| 2 ^ j : Nat) : Int) from tr_or hU hj]
              refine qG.blk 3 (pc' := 72) (ls' := [(2, 23), (0, ((j : Nat) : Int)), (0, 1), (0, ((U : Nat) : Int)), (0, x), (0, vD w0 c j)]) (st' := [(0, qor x (vD w0 c j)), (0, ((U ||| 2 ^ j : Nat) : Int)), (0, 2), (2, 23)]) (w' := wP) (n' := 142) rfl ?_
              have hrow2 : ∀ k, k < 2 → wP 32 k = (((upR r 1 j) k : Nat) : Int) := fun k hk => by
                rw [hPf 32 k (by decide) (by decide), hwS]
                by_cases e : k = 1
                · rw [e, qup_k, upR_at]
                · rw [qup_f (by omega), upR_lo (by omega)]; exact hrow k (by omega)
              refine qG.call (t := 44) (na := 4) (sk := 1) (md := 1) (ls1 := [(2, 23), (0, 2), (0, ((U ||| 2 ^ j : Nat) : Int)), (0, qor x (vD w0 c j)), (9, 0)]) (r1 := []) rfl rfl rfl rfl rfl ((IH d wP (upR r 1 j) (U ||| 2 ^ j) s (qor x (vD w0 c j)) (by omega) hIP (hOW.cg hF) (fun k hk => by by_cases e : k = 1; rw [e, upR_at]; exact hj; rw [upR_lo (by omega)]; exact hr k (by omega)) hrow2 (tr_ult hU hj) (by have z := tr_dec hU hj hb; omega) (by rw [hxs]; exact (row_as hj hr).symm) (qor_in hx (hv16 j hj)) hP1 (by cases q : okO N P M w0 c (W : Int) (1 + 1) (upR r 1 j) with | true => rfl | false => exact absurd (okO_no.mp q) hP2) hCP : qG none d 44 0 [(2, 23), (0, 2), (0, ((U ||| 2 ^ j : Nat) : Int)), (0, qor x (vD w0 c j)), (9, 0)] [] wP 142 _)) ?_
              rintro _ wR _ ⟨rfl, rfl, hIR, hFR, hCR⟩
              show qG none (d + 1) 45 75 [(2, 23), (0, ((j : Nat) : Int)), (0, 1), (0, ((U : Nat) : Int)), (0, x), (0, vD w0 c j)] [] wR 142 Q9
              refine qG.retv rfl rfl ?_
              subst hQ9
              refine ⟨rfl, rfl, hIR, hF.tr (m := 2) hFR (by omega), ?_⟩
              unfold stO
              rw [if_pos hb, if_neg (by decide)]
              exact hCR
          · skip
            show qG none (d + 1) 45 55 [(2, 23), (0, ((j : Nat) : Int)), (0, 1), (0, ((U : Nat) : Int)), (0, x), (0, vD w0 c j)] [(0, 0)] wP 142 Q9
            have hCP : OCs wP s := hC.cg ((hPf 23 13 (by decide) (by decide)).trans (by rw [hwS, qup_f (by decide)])) ((hPf 23 14 (by decide) (by decide)).trans (by rw [hwS, qup_f (by decide)])) (fun k => (hPf 39 k (by decide) (by decide)).trans (by rw [hwS, qup_f (by omega)]))
            refine qG.br (P := (0 : Int) = 0) (pc1 := 75) (pc2 := 58) (st1 := []) rfl (fun h6 => ?_) (fun h6 => ?_)
            · skip
              refine qG.retv rfl rfl ?_
              subst hQ9
              refine ⟨rfl, rfl, hIP, hF, ?_⟩
              unfold stO
              rw [if_pos hb, if_neg (by decide), XPo_no (fun n r j h => okO_x n r j h) _ _ _ _ _ (okO_no.mpr hP2)]
              exact hCP
            · exact absurd h6 (by decide)
        · exact absurd h4 (by decide)
    · exfalso; omega
theorem K_tryR1 {d : Nat} (hd : 28 ≤ d) (w0 : qW) (c N : Nat) (P : Nat → Int) (M : Nat → Nat → Bool) (D W : Nat) (hD : D < 1024) (hW : 1 ≤ W ∧ W ≤ 5) (hrf : ∀ i, i < N → M i i = true) (hv16 : ∀ j, j < 10 → 0 ≤ vD w0 c j ∧ vD w0 c j ≤ 65535) (IH : TRC w0 c N P M D W (1 + 1)) (w : qW) (r : Nat → Nat) (U : Nat) (s : oSt) (x : Int) (hI : yInv zgf zga zra zSp w) (hOW : OW N P M D W (fun j => vD w0 c j) w) (hr : ∀ k, k < 1 → r k < 10) (hrow : ∀ k, k < 1 → w 32 k = ((r k : Nat) : Int)) (hU : U < 1024) (hpc : pc (trX D U) 10 + 1 ≤ 4) (hxs : x = (snO w0 c (W : Int)) 1 r) (hx : 0 ≤ x ∧ x ≤ 65535) (hH : HOLD w 35 (hz N P M (fun t => siF w0 c kR (nR r (W : Int)) (4 * 1) t) (scF kR (nR r (W : Int)) (4 * 1)))) (hok : (okO N P M w0 c (W : Int)) 1 r = true) (hC : OCs w s) : qG none d 44 0 [(2, 23), (0, 1), (0, ((U : Nat) : Int)), (0, x), (9, 0)] [] w 142 (fun (r1 : qV) (w1 : qW) (n1 : Nat) => r1 = (9, 0) ∧ n1 = 142 ∧ yInv zgf zga zra zSp w1 ∧ OFR 1 w w1 ∧ OCs w1 (XPo (okO N P M w0 c (W : Int)) (snO w0 c (W : Int)) D 3 1 r U s)) := by
  generalize hQ9 : (fun (r1 : qV) (w1 : qW) (n1 : Nat) => r1 = (9, 0) ∧ n1 = 142 ∧ yInv zgf zga zra zSp w1 ∧ OFR 1 w w1 ∧ OCs w1 (XPo (okO N P M w0 c (W : Int)) (snO w0 c (W : Int)) D 3 1 r U s)) = Q9
  obtain ⟨d, rfl⟩ : ∃ d9, d = d9 + 1 := ⟨d - 1, by omega⟩
  refine qG.blk 3 (pc' := 3) (ls' := [(2, 23), (0, 1), (0, ((U : Nat) : Int)), (0, x), (9, 0)]) (st' := [(0, x), (0, 1), (2, 23)]) (w' := w) (n' := 142) rfl ?_
  refine qG.call (t := 46) (na := 3) (sk := 1) (md := 1) (ls1 := [(2, 23), (0, 1), (0, x), (9, 0)]) (r1 := []) rfl rfl rfl rfl rfl ((K_keepIf (by omega) 1 (by omega) x hx r s w hI hrow hC : qG none d 46 0 [(2, 23), (0, 1), (0, x), (9, 0)] [] w 142 _)) ?_
  rintro _ w1 _ ⟨rfl, rfl, hI1, h1f, h1C⟩
  rw [← kpO_if hok hxs] at h1C
  have h1F : OFR 1 w w1 := h1f.mono
  show qG none (d + 1) 44 6 [(2, 23), (0, 1), (0, ((U : Nat) : Int)), (0, x), (9, 0)] [] w1 142 Q9
  refine qG.blk 2 (pc' := 9) (ls' := [(2, 23), (0, 1), (0, ((U : Nat) : Int)), (0, x), (0, 0)]) (st' := []) (w' := w1) (n' := 142) rfl ?_
  have L9 : ∀ (m9 : Nat) (j : Nat) (wQ : qW), 10 - j = m9 → (j ≤ 10 ∧ yInv zgf zga zra zSp wQ ∧ OFR 1 w wQ ∧ OCs wQ (flO (stO (okO N P M w0 c (W : Int)) (snO w0 c (W : Int)) D 3 1 r U) j (kpO (okO N P M w0 c (W : Int)) (snO w0 c (W : Int)) 1 r s))) → qG none (d + 1) 44 9 [(2, 23), (0, 1), (0, ((U : Nat) : Int)), (0, x), (0, ((j : Nat) : Int))] [] wQ 142 Q9 := by
    intro m9
    induction m9 using Nat.strongRecOn with
    | ind m9 ih9 =>
    intro j wQ hm9 hI9
    obtain ⟨hj10, hIQ, hQF, hCQ⟩ := hI9
    have hOQ := hOW.cg hQF
    refine qG.blk 2 (pc' := 13) (ls' := [(2, 23), (0, 1), (0, ((U : Nat) : Int)), (0, x), (0, ((j : Nat) : Int))]) (st' := [(0, 10), (0, ((j : Nat) : Int))]) (w' := wQ) (n' := 142) rfl ?_
    refine qG.br (P := ((j : Nat) : Int) < 10) (pc1 := 16) (pc2 := 47) (st1 := []) rfl (fun h1 => ?_) (fun h1 => ?_)
    · skip
      refine qG.blk 2 (pc' := 20) (ls' := [(2, 23), (0, 1), (0, ((U : Nat) : Int)), (0, x), (0, ((j : Nat) : Int))]) (st' := [(0, wQ 23 7)]) (w' := wQ) (n' := 142) rfl ?_
      rw [show wQ 23 7 = ((D : Nat) : Int) from hOQ.2.1]
      refine qG.blk 4 (pc' := 24) (ls' := [(2, 23), (0, 1), (0, ((U : Nat) : Int)), (0, x), (0, ((j : Nat) : Int))]) (st' := [(0, qand ((D : Nat) : Int) (qxor ((U : Nat) : Int) (-1)))]) (w' := wQ) (n' := 142) rfl ?_
      rw [show qand ((D : Nat) : Int) (qxor ((U : Nat) : Int) (-1)) = ((trX D U : Nat) : Int) from tr_and hD hU]
      refine qG.blk 4 (pc' := 29) (ls' := [(2, 23), (0, 1), (0, ((U : Nat) : Int)), (0, x), (0, ((j : Nat) : Int))]) (st' := [(0, qand (qush ((trX D U : Nat) : Int) ((j : Nat) : Int)) 1)]) (w' := wQ) (n' := 142) rfl ?_
      rw [show qand (qush ((trX D U : Nat) : Int) ((j : Nat) : Int)) 1 = (if (trX D U).testBit j = true then 1 else 0) from by rw [ushr_b (trX_lt hD) (by omega)]; exact hb_bit (Nat.lt_of_lt_of_le (trX_lt hD) (by decide)) (by omega)]
      refine qG.br (P := (if (trX D U).testBit j = true then 1 else 0) = 0) (pc1 := 41) (pc2 := 32) (st1 := []) rfl (fun htb => ?_) (fun htb => ?_)
      · skip
        have htb1 : ¬ (trX D U).testBit j = true := fun z => by rw [if_pos z] at htb; exact absurd htb (by decide)
        refine qG.blk 1 (pc' := 44) (ls' := [(2, 23), (0, 1), (0, ((U : Nat) : Int)), (0, x), (0, wrp (((j : Nat) : Int) + 1))]) (st' := []) (w' := wQ) (n' := 142) rfl ?_
        rw [show wrp (((j : Nat) : Int) + 1) = ((j + 1 : Nat) : Int) from wrp_id (by omega) (by omega)]
        refine qG.blk 1 (pc' := 9) (ls' := [(2, 23), (0, 1), (0, ((U : Nat) : Int)), (0, x), (0, ((j + 1 : Nat) : Int))]) (st' := []) (w' := wQ) (n' := 142) rfl ?_
        exact ih9 _ (by omega) (j + 1) (wQ) rfl (⟨by omega, hIQ, hQF, by show OCs wQ (stO (okO N P M w0 c (W : Int)) (snO w0 c (W : Int)) D 3 1 r U j (flO (stO (okO N P M w0 c (W : Int)) (snO w0 c (W : Int)) D 3 1 r U) j (kpO (okO N P M w0 c (W : Int)) (snO w0 c (W : Int)) 1 r s))); unfold stO; rw [if_neg htb1]; exact hCQ⟩)
      · skip
        have htb2 : (trX D U).testBit j = true := Decidable.of_not_not (fun z => htb (if_neg z))
        refine qG.blk 5 (pc' := 38) (ls' := [(2, 23), (0, 1), (0, ((U : Nat) : Int)), (0, x), (0, ((j : Nat) : Int))]) (st' := [(0, x), (0, ((U : Nat) : Int)), (0, 1), (0, ((j : Nat) : Int)), (2, 23)]) (w' := wQ) (n' := 142) rfl ?_
        refine qG.call (t := 45) (na := 5) (sk := 1) (md := 1) (ls1 := [(2, 23), (0, ((j : Nat) : Int)), (0, 1), (0, ((U : Nat) : Int)), (0, x), (9, 0)]) (r1 := []) rfl rfl rfl rfl rfl ((K_tryD1 (by omega) w0 c N P M D W hD hW hrf hv16 IH wQ r U (flO (stO (okO N P M w0 c (W : Int)) (snO w0 c (W : Int)) D 3 1 r U) j (kpO (okO N P M w0 c (W : Int)) (snO w0 c (W : Int)) 1 r s)) x hIQ hOQ hr (fun k hk => (hQF 32 k (by omega) (by omega) (by omega) (by omega) (by omega)).trans (hrow k hk)) hU hpc hxs hx (OFR.hold (n := 1) (m := 1) hQF (Nat.le_refl _) (by decide) hH) hok hCQ j (by omega) htb2)) ?_
        rintro _ wR _ ⟨rfl, rfl, hIR, hFR, hCR⟩
        show qG none (d + 1) 44 41 [(2, 23), (0, 1), (0, ((U : Nat) : Int)), (0, x), (0, ((j : Nat) : Int))] [] wR 142 Q9
        refine qG.blk 1 (pc' := 44) (ls' := [(2, 23), (0, 1), (0, ((U : Nat) : Int)), (0, x), (0, wrp (((j : Nat) : Int) + 1))]) (st' := []) (w' := wR) (n' := 142) rfl ?_
        rw [show wrp (((j : Nat) : Int) + 1) = ((j + 1 : Nat) : Int) from wrp_id (by omega) (by omega)]
        refine qG.blk 1 (pc' := 9) (ls' := [(2, 23), (0, 1), (0, ((U : Nat) : Int)), (0, x), (0, ((j + 1 : Nat) : Int))]) (st' := []) (w' := wR) (n' := 142) rfl ?_
        exact ih9 _ (by omega) (j + 1) (wR) rfl (⟨by omega, hIR, hQF.tr (m := 1) hFR (Nat.le_refl _), hCR⟩)
    · skip
      refine qG.retv rfl rfl ?_
      subst hQ9
      refine ⟨rfl, rfl, hIQ, hQF, ?_⟩
      rw [XPo_st]
      rw [show j = 10 by omega] at hCQ
      exact hCQ
  exact L9 _ (0) (w1) rfl (⟨Nat.zero_le _, hI1, h1F, h1C⟩)
theorem TRC_1 (w0 : qW) (c N : Nat) (P : Nat → Int) (M : Nat → Nat → Bool) (D W : Nat) (hD : D < 1024) (hW : 1 ≤ W ∧ W ≤ 5) (hrf : ∀ i, i < N → M i i = true) (hv16 : ∀ j, j < 10 → 0 ≤ vD w0 c j ∧ vD w0 c j ≤ 65535) : TRC w0 c N P M D W 1 := fun d w r U s x h1 h2 h3 h4 h5 h6 h7 h8 h9 h10 h11 h12 => K_tryR1 (by omega) w0 c N P M D W hD hW hrf hv16 (TRC_2 w0 c N P M D W hD hW hrf hv16) w r U s x h2 h3 h4 h5 h6 h7 h8 h9 h10 h11 h12
theorem K_tryD0 {d : Nat} (hd : 29 ≤ d) (w0 : qW) (c N : Nat) (P : Nat → Int) (M : Nat → Nat → Bool) (D W : Nat) (hD : D < 1024) (hW : 1 ≤ W ∧ W ≤ 5) (hrf : ∀ i, i < N → M i i = true) (hv16 : ∀ j, j < 10 → 0 ≤ vD w0 c j ∧ vD w0 c j ≤ 65535) (IH : TRC w0 c N P M D W (0 + 1)) (w : qW) (r : Nat → Nat) (U : Nat) (s : oSt) (x : Int) (hI : yInv zgf zga zra zSp w) (hOW : OW N P M D W (fun j => vD w0 c j) w) (hr : ∀ k, k < 0 → r k < 10) (hrow : ∀ k, k < 0 → w 32 k = ((r k : Nat) : Int)) (hU : U < 1024) (hpc : pc (trX D U) 10 + 0 ≤ 4) (hxs : x = (snO w0 c (W : Int)) 0 r) (hx : 0 ≤ x ∧ x ≤ 65535) (hH : HOLD w 34 (hz N P M (fun t => siF w0 c kR (nR r (W : Int)) (4 * 0) t) (scF kR (nR r (W : Int)) (4 * 0)))) (hok : (okO N P M w0 c (W : Int)) 0 r = true) (hC : OCs w s) (j : Nat) (hj : j < 10) (hb : (trX D U).testBit j = true) : qG none d 45 0 [(2, 23), (0, ((j : Nat) : Int)), (0, 0), (0, ((U : Nat) : Int)), (0, x), (9, 0)] [] w 142 (fun (r1 : qV) (w1 : qW) (n1 : Nat) => r1 = (9, 0) ∧ n1 = 142 ∧ yInv zgf zga zra zSp w1 ∧ OFR 0 w w1 ∧ OCs w1 (stO (okO N P M w0 c (W : Int)) (snO w0 c (W : Int)) D 4 0 r U j s)) := by
  generalize hQ9 : (fun (r1 : qV) (w1 : qW) (n1 : Nat) => r1 = (9, 0) ∧ n1 = 142 ∧ yInv zgf zga zra zSp w1 ∧ OFR 0 w w1 ∧ OCs w1 (stO (okO N P M w0 c (W : Int)) (snO w0 c (W : Int)) D 4 0 r U j s)) = Q9
  obtain ⟨d, rfl⟩ : ∃ d9, d = d9 + 1 := ⟨d - 1, by omega⟩
  refine qG.blk 1 (pc' := 1) (ls' := [(2, 23), (0, ((j : Nat) : Int)), (0, 0), (0, ((U : Nat) : Int)), (0, x), (9, 0)]) (st' := [(0, ((j : Nat) : Int))]) (w' := w) (n' := 142) rfl ?_
  refine qG.br (P := ((j : Nat) : Int) < 0) (pc1 := 19) (pc2 := 4) (st1 := []) rfl (fun h1 => ?_) (fun h1 => ?_)
  · exfalso; omega
  · skip
    refine qG.blk 2 (pc' := 7) (ls' := [(2, 23), (0, ((j : Nat) : Int)), (0, 0), (0, ((U : Nat) : Int)), (0, x), (9, 0)]) (st' := [(0, 10), (0, ((j : Nat) : Int))]) (w' := w) (n' := 142) rfl ?_
    refine qG.br (P := ((j : Nat) : Int) < 10) (pc1 := 10) (pc2 := 19) (st1 := []) rfl (fun h2 => ?_) (fun h2 => ?_)
    · skip
      refine qG.blk 1 (pc' := 11) (ls' := [(2, 23), (0, ((j : Nat) : Int)), (0, 0), (0, ((U : Nat) : Int)), (0, x), (9, 0)]) (st' := [(0, 0)]) (w' := w) (n' := 142) rfl ?_
      refine qG.br (P := (0 : Int) < 0) (pc1 := 19) (pc2 := 14) (st1 := []) rfl (fun h3 => ?_) (fun h3 => ?_)
      · exact absurd h3 (by decide)
      · skip
        refine qG.blk 2 (pc' := 16) (ls' := [(2, 23), (0, ((j : Nat) : Int)), (0, 0), (0, ((U : Nat) : Int)), (0, x), (9, 0)]) (st' := [(0, 4), (0, 0)]) (w' := w) (n' := 142) rfl ?_
        refine qG.br (P := (0 : Int) < 4) (pc1 := 20) (pc2 := 19) (st1 := []) rfl (fun h4 => ?_) (fun h4 => ?_)
        · skip
          refine qG.blk 2 (pc' := 24) (ls' := [(2, 23), (0, ((j : Nat) : Int)), (0, 0), (0, ((U : Nat) : Int)), (0, x), (9, 0)]) (st' := [(2, w 23 10)]) (w' := w) (n' := 142) rfl ?_
          rw [show w 23 10 = 32 from zref hI rfl rfl]
          refine qG.blk 2 (pc' := 26) (ls' := [(2, 23), (0, ((j : Nat) : Int)), (0, 0), (0, ((U : Nat) : Int)), (0, x), (9, 0)]) (st' := [(0, ((j : Nat) : Int)), (0, 0), (2, 32)]) (w' := w) (n' := 142) rfl ?_
          refine qG.ar (P := 0 ≤ 0 ∧ 0 < ((4 : Nat) : Int)) (P2 := 0 < (32 : Int) ∧ (32 : Int) ≤ ((142 : Nat) : Int)) (pc' := 27) (ls' := [(2, 23), (0, ((j : Nat) : Int)), (0, 0), (0, ((U : Nat) : Int)), (0, x), (9, 0)]) (st' := []) (w' := (qup w 32 0 ((j : Nat) : Int))) (n' := 142) rfl (by omega) (by decide) ?_
          refine qG.blk 2 (pc' := 31) (ls' := [(2, 23), (0, ((j : Nat) : Int)), (0, 0), (0, ((U : Nat) : Int)), (0, x), (9, 0)]) (st' := [(2, w 23 9)]) (w' := (qup w 32 0 ((j : Nat) : Int))) (n' := 142) rfl ?_
          rw [show w 23 9 = 31 from zref hI rfl rfl]
          refine qG.blk 1 (pc' := 32) (ls' := [(2, 23), (0, ((j : Nat) : Int)), (0, 0), (0, ((U : Nat) : Int)), (0, x), (9, 0)]) (st' := [(0, ((j : Nat) : Int)), (2, 31)]) (w' := (qup w 32 0 ((j : Nat) : Int))) (n' := 142) rfl ?_
          refine qG.ar (P := 0 ≤ ((j : Nat) : Int) ∧ ((j : Nat) : Int) < ((10 : Nat) : Int)) (P2 := 0 < (31 : Int) ∧ (31 : Int) ≤ ((142 : Nat) : Int)) (pc' := 33) (ls' := [(2, 23), (0, ((j : Nat) : Int)), (0, 0), (0, ((U : Nat) : Int)), (0, x), (9, 0)]) (st' := [(0, w 31 j)]) (w' := (qup w 32 0 ((j : Nat) : Int))) (n' := 142) rfl (by omega) (by decide) ?_
          rw [show w 31 j = vD w0 c j from hOW.2.2.2 j hj]
          refine qG.blk 5 (pc' := 42) (ls' := [(2, 23), (0, ((j : Nat) : Int)), (0, 0), (0, ((U : Nat) : Int)), (0, x), (0, vD w0 c j)]) (st' := [(2, w 23 11), (0, vD w0 c j), (2, 23)]) (w' := (qup w 32 0 ((j : Nat) : Int))) (n' := 142) rfl ?_
          rw [show w 23 11 = 33 from zref hI rfl rfl]
          refine qG.blk 1 (pc' := 43) (ls' := [(2, 23), (0, ((j : Nat) : Int)), (0, 0), (0, ((U : Nat) : Int)), (0, x), (0, vD w0 c j)]) (st' := [(0, 0), (2, 33), (0, vD w0 c j), (2, 23)]) (w' := (qup w 32 0 ((j : Nat) : Int))) (n' := 142) rfl ?_
          refine qG.ar (P := 0 ≤ 0 ∧ 0 < ((5 : Nat) : Int)) (P2 := 0 < (33 : Int) ∧ (33 : Int) ≤ ((142 : Nat) : Int)) (pc' := 44) (ls' := [(2, 23), (0, ((j : Nat) : Int)), (0, 0), (0, ((U : Nat) : Int)), (0, x), (0, vD w0 c j)]) (st' := [(2, w 33 0), (0, vD w0 c j), (2, 23)]) (w' := (qup w 32 0 ((j : Nat) : Int))) (n' := 142) rfl (by omega) (by decide) ?_
          rw [show w 33 0 = 34 from zref hI rfl rfl]
          refine qG.blk 2 (pc' := 48) (ls' := [(2, 23), (0, ((j : Nat) : Int)), (0, 0), (0, ((U : Nat) : Int)), (0, x), (0, vD w0 c j)]) (st' := [(2, w 23 11), (2, 34), (0, vD w0 c j), (2, 23)]) (w' := (qup w 32 0 ((j : Nat) : Int))) (n' := 142) rfl ?_
          rw [show w 23 11 = 33 from zref hI rfl rfl]
          refine qG.blk 3 (pc' := 51) (ls' := [(2, 23), (0, ((j : Nat) : Int)), (0, 0), (0, ((U : Nat) : Int)), (0, x), (0, vD w0 c j)]) (st' := [(0, 1), (2, 33), (2, 34), (0, vD w0 c j), (2, 23)]) (w' := (qup w 32 0 ((j : Nat) : Int))) (n' := 142) rfl ?_
          refine qG.ar (P := 0 ≤ 1 ∧ 1 < ((5 : Nat) : Int)) (P2 := 0 < (33 : Int) ∧ (33 : Int) ≤ ((142 : Nat) : Int)) (pc' := 52) (ls' := [(2, 23), (0, ((j : Nat) : Int)), (0, 0), (0, ((U : Nat) : Int)), (0, x), (0, vD w0 c j)]) (st' := [(2, w 33 1), (2, 34), (0, vD w0 c j), (2, 23)]) (w' := (qup w 32 0 ((j : Nat) : Int))) (n' := 142) rfl (by omega) (by decide) ?_
          rw [show w 33 1 = 35 from zref hI rfl rfl]
          obtain ⟨wS, hwS⟩ : ∃ z : qW, z = (qup w 32 0 ((j : Nat) : Int)) := ⟨_, rfl⟩
          rw [← hwS]
          have hIS : yInv zgf zga zra zSp wS := by rw [hwS]; exact zup_a hI (b := (0, 9)) rfl rfl ⟨by show (0 : Int) ≤ _; omega, by show _ ≤ (9 : Int); omega⟩
          have hS : OFR 0 w wS := fun q k a1 a2 a3 a4 a5 => by rw [hwS, qup_f (by omega)]
          have hOS := hOW.cg hS
          obtain ⟨q0, q1, q2, q3, q4⟩ := row_si (w := w0) (c := c) (r := r) (W := (W : Int)) (n := 0) hj hr
          rw [Int.toNat_natCast] at q2 q3 q4
          have eV := hz_cg (N := N) (P := P) (M := M) (V := fun t => siF w0 c kR (nR r (W : Int)) (4 * 0) t) (V2 := fun t => siF w0 c kR (nR (upR r 0 j) (W : Int)) (4 * (0 + 1)) t) (S := scF kR (nR r (W : Int)) (4 * 0)) (fun _ _ => rfl) (fun _ _ _ _ => rfl) (fun t ht => q0 t ht) _ (Nat.le_refl _)
          have hHS : HOLD wS 34 (hz N P M (fun t => siF w0 c kR (nR (upR r 0 j) (W : Int)) (4 * (0 + 1)) t) (scF kR (nR r (W : Int)) (4 * 0))) := by rw [eV]; exact OFR.hold (n := 0) (m := 0) hS (Nat.le_refl _) (by decide) hH
          have hnS : ¬ hzE (hz N P M (fun t => siF w0 c kR (nR (upR r 0 j) (W : Int)) (4 * (0 + 1)) t) (scF kR (nR r (W : Int)) (4 * 0))) := by rw [eV]; exact fun z => by rw [okO_no.mpr z] at hok; cases hok
          refine qG.call (t := 47) (na := 4) (sk := 1) (md := 1) (ls1 := [(2, 23), (0, vD w0 c j), (2, 34), (2, 35)]) (r1 := []) rfl rfl rfl rfl rfl (K_pass0 (by omega) N P M (fun t => siF w0 c kR (nR (upR r 0 j) (W : Int)) (4 * (0 + 1)) t) (scF kR (nR r (W : Int)) (4 * 0)) W (vD w0 c j) hW.2 q1 q2 q3 hrf wS hIS hOS.1 hOS.2.2.1 hHS hnS) ?_
          rintro _ wP _ ⟨rfl, hIP, hPf, ⟨rfl, hP1, hP2⟩ | ⟨rfl, hP2⟩⟩ <;> rw [← q4] at hP2 <;> have hF : OFR 0 w wP := hS.tr (m := 0) (fun q k a1 a2 a3 a4 a5 => hPf q k a1 (by omega)) (Nat.le_refl _)
          · skip
            show qG none (d + 1) 45 55 [(2, 23), (0, ((j : Nat) : Int)), (0, 0), (0, ((U : Nat) : Int)), (0, x), (0, vD w0 c j)] [(0, 1)] wP 142 Q9
            rw [← q4] at hP1
            have hCP : OCs wP s := hC.cg ((hPf 23 13 (by decide) (by decide)).trans (by rw [hwS, qup_f (by decide)])) ((hPf 23 14 (by decide) (by decide)).trans (by rw [hwS, qup_f (by decide)])) (fun k => (hPf 39 k (by decide) (by decide)).trans (by rw [hwS, qup_f (by omega)]))
            refine qG.br (P := (1 : Int) = 0) (pc1 := 75) (pc2 := 58) (st1 := []) rfl (fun h5 => ?_) (fun h5 => ?_)
            · exact absurd h5 (by decide)
            · skip
              refine qG.blk 9 (pc' := 67) (ls' := [(2, 23), (0, ((j : Nat) : Int)), (0, 0), (0, ((U : Nat) : Int)), (0, x), (0, vD w0 c j)]) (st' := [(0, qor ((U : Nat) : Int) (qshl 1 ((j : Nat) : Int))), (0, 1), (2, 23)]) (w' := wP) (n' := 142) rfl ?_
              rw [show qor ((U : Nat) : Int) (qshl 1 ((j : Nat) : Int)) = ((U ||| 2 ^ j : Nat) : Int) from tr_or hU hj]
              refine qG.blk 3 (pc' := 72) (ls' := [(2, 23), (0, ((j : Nat) : Int)), (0, 0), (0, ((U : Nat) : Int)), (0, x), (0, vD w0 c j)]) (st' := [(0, qor x (vD w0 c j)), (0, ((U ||| 2 ^ j : Nat) : Int)), (0, 1), (2, 23)]) (w' := wP) (n' := 142) rfl ?_
              have hrow2 : ∀ k, k < 1 → wP 32 k = (((upR r 0 j) k : Nat) : Int) := fun k hk => by
                rw [hPf 32 k (by decide) (by decide), hwS]
                by_cases e : k = 0
                · rw [e, qup_k, upR_at]
                · rw [qup_f (by omega), upR_lo (by omega)]; exact hrow k (by omega)
              refine qG.call (t := 44) (na := 4) (sk := 1) (md := 1) (ls1 := [(2, 23), (0, 1), (0, ((U ||| 2 ^ j : Nat) : Int)), (0, qor x (vD w0 c j)), (9, 0)]) (r1 := []) rfl rfl rfl rfl rfl ((IH d wP (upR r 0 j) (U ||| 2 ^ j) s (qor x (vD w0 c j)) (by omega) hIP (hOW.cg hF) (fun k hk => by by_cases e : k = 0; rw [e, upR_at]; exact hj; rw [upR_lo (by omega)]; exact hr k (by omega)) hrow2 (tr_ult hU hj) (by have z := tr_dec hU hj hb; omega) (by rw [hxs]; exact (row_as hj hr).symm) (qor_in hx (hv16 j hj)) hP1 (by cases q : okO N P M w0 c (W : Int) (0 + 1) (upR r 0 j) with | true => rfl | false => exact absurd (okO_no.mp q) hP2) hCP : qG none d 44 0 [(2, 23), (0, 1), (0, ((U ||| 2 ^ j : Nat) : Int)), (0, qor x (vD w0 c j)), (9, 0)] [] wP 142 _)) ?_
              rintro _ wR _ ⟨rfl, rfl, hIR, hFR, hCR⟩
              show qG none (d + 1) 45 75 [(2, 23), (0, ((j : Nat) : Int)), (0, 0), (0, ((U : Nat) : Int)), (0, x), (0, vD w0 c j)] [] wR 142 Q9
              refine qG.retv rfl rfl ?_
              subst hQ9
              refine ⟨rfl, rfl, hIR, hF.tr (m := 1) hFR (by omega), ?_⟩
              unfold stO
              rw [if_pos hb, if_neg (by decide)]
              exact hCR
          · skip
            show qG none (d + 1) 45 55 [(2, 23), (0, ((j : Nat) : Int)), (0, 0), (0, ((U : Nat) : Int)), (0, x), (0, vD w0 c j)] [(0, 0)] wP 142 Q9
            have hCP : OCs wP s := hC.cg ((hPf 23 13 (by decide) (by decide)).trans (by rw [hwS, qup_f (by decide)])) ((hPf 23 14 (by decide) (by decide)).trans (by rw [hwS, qup_f (by decide)])) (fun k => (hPf 39 k (by decide) (by decide)).trans (by rw [hwS, qup_f (by omega)]))
            refine qG.br (P := (0 : Int) = 0) (pc1 := 75) (pc2 := 58) (st1 := []) rfl (fun h6 => ?_) (fun h6 => ?_)
            · skip
              refine qG.retv rfl rfl ?_
              subst hQ9
              refine ⟨rfl, rfl, hIP, hF, ?_⟩
              unfold stO
              rw [if_pos hb, if_neg (by decide), XPo_no (fun n r j h => okO_x n r j h) _ _ _ _ _ (okO_no.mpr hP2)]
              exact hCP
            · exact absurd h6 (by decide)
        · exact absurd h4 (by decide)
    · exfalso; omega
theorem K_tryR0 {d : Nat} (hd : 30 ≤ d) (w0 : qW) (c N : Nat) (P : Nat → Int) (M : Nat → Nat → Bool) (D W : Nat) (hD : D < 1024) (hW : 1 ≤ W ∧ W ≤ 5) (hrf : ∀ i, i < N → M i i = true) (hv16 : ∀ j, j < 10 → 0 ≤ vD w0 c j ∧ vD w0 c j ≤ 65535) (IH : TRC w0 c N P M D W (0 + 1)) (w : qW) (r : Nat → Nat) (U : Nat) (s : oSt) (x : Int) (hI : yInv zgf zga zra zSp w) (hOW : OW N P M D W (fun j => vD w0 c j) w) (hr : ∀ k, k < 0 → r k < 10) (hrow : ∀ k, k < 0 → w 32 k = ((r k : Nat) : Int)) (hU : U < 1024) (hpc : pc (trX D U) 10 + 0 ≤ 4) (hxs : x = (snO w0 c (W : Int)) 0 r) (hx : 0 ≤ x ∧ x ≤ 65535) (hH : HOLD w 34 (hz N P M (fun t => siF w0 c kR (nR r (W : Int)) (4 * 0) t) (scF kR (nR r (W : Int)) (4 * 0)))) (hok : (okO N P M w0 c (W : Int)) 0 r = true) (hC : OCs w s) : qG none d 44 0 [(2, 23), (0, 0), (0, ((U : Nat) : Int)), (0, x), (9, 0)] [] w 142 (fun (r1 : qV) (w1 : qW) (n1 : Nat) => r1 = (9, 0) ∧ n1 = 142 ∧ yInv zgf zga zra zSp w1 ∧ OFR 0 w w1 ∧ OCs w1 (XPo (okO N P M w0 c (W : Int)) (snO w0 c (W : Int)) D 4 0 r U s)) := by
  generalize hQ9 : (fun (r1 : qV) (w1 : qW) (n1 : Nat) => r1 = (9, 0) ∧ n1 = 142 ∧ yInv zgf zga zra zSp w1 ∧ OFR 0 w w1 ∧ OCs w1 (XPo (okO N P M w0 c (W : Int)) (snO w0 c (W : Int)) D 4 0 r U s)) = Q9
  obtain ⟨d, rfl⟩ : ∃ d9, d = d9 + 1 := ⟨d - 1, by omega⟩
  refine qG.blk 3 (pc' := 3) (ls' := [(2, 23), (0, 0), (0, ((U : Nat) : Int)), (0, x), (9, 0)]) (st' := [(0, x), (0, 0), (2, 23)]) (w' := w) (n' := 142) rfl ?_
  refine qG.call (t := 46) (na := 3) (sk := 1) (md := 1) (ls1 := [(2, 23), (0, 0), (0, x), (9, 0)]) (r1 := []) rfl rfl rfl rfl rfl ((K_keepIf (by omega) 0 (by omega) x hx r s w hI hrow hC : qG none d 46 0 [(2, 23), (0, 0), (0, x), (9, 0)] [] w 142 _)) ?_
  rintro _ w1 _ ⟨rfl, rfl, hI1, h1f, h1C⟩
  rw [← kpO_if hok hxs] at h1C
  have h1F : OFR 0 w w1 := h1f.mono
  show qG none (d + 1) 44 6 [(2, 23), (0, 0), (0, ((U : Nat) : Int)), (0, x), (9, 0)] [] w1 142 Q9
  refine qG.blk 2 (pc' := 9) (ls' := [(2, 23), (0, 0), (0, ((U : Nat) : Int)), (0, x), (0, 0)]) (st' := []) (w' := w1) (n' := 142) rfl ?_
  have L9 : ∀ (m9 : Nat) (j : Nat) (wQ : qW), 10 - j = m9 → (j ≤ 10 ∧ yInv zgf zga zra zSp wQ ∧ OFR 0 w wQ ∧ OCs wQ (flO (stO (okO N P M w0 c (W : Int)) (snO w0 c (W : Int)) D 4 0 r U) j (kpO (okO N P M w0 c (W : Int)) (snO w0 c (W : Int)) 0 r s))) → qG none (d + 1) 44 9 [(2, 23), (0, 0), (0, ((U : Nat) : Int)), (0, x), (0, ((j : Nat) : Int))] [] wQ 142 Q9 := by
    intro m9
    induction m9 using Nat.strongRecOn with
    | ind m9 ih9 =>
    intro j wQ hm9 hI9
    obtain ⟨hj10, hIQ, hQF, hCQ⟩ := hI9
    have hOQ := hOW.cg hQF
    refine qG.blk 2 (pc' := 13) (ls' := [(2, 23), (0, 0), (0, ((U : Nat) : Int)), (0, x), (0, ((j : Nat) : Int))]) (st' := [(0, 10), (0, ((j : Nat) : Int))]) (w' := wQ) (n' := 142) rfl ?_
    refine qG.br (P := ((j : Nat) : Int) < 10) (pc1 := 16) (pc2 := 47) (st1 := []) rfl (fun h1 => ?_) (fun h1 => ?_)
    · skip
      refine qG.blk 2 (pc' := 20) (ls' := [(2, 23), (0, 0), (0, ((U : Nat) : Int)), (0, x), (0, ((j : Nat) : Int))]) (st' := [(0, wQ 23 7)]) (w' := wQ) (n' := 142) rfl ?_
      rw [show wQ 23 7 = ((D : Nat) : Int) from hOQ.2.1]
      refine qG.blk 4 (pc' := 24) (ls' := [(2, 23), (0, 0), (0, ((U : Nat) : Int)), (0, x), (0, ((j : Nat) : Int))]) (st' := [(0, qand ((D : Nat) : Int) (qxor ((U : Nat) : Int) (-1)))]) (w' := wQ) (n' := 142) rfl ?_
      rw [show qand ((D : Nat) : Int) (qxor ((U : Nat) : Int) (-1)) = ((trX D U : Nat) : Int) from tr_and hD hU]
      refine qG.blk 4 (pc' := 29) (ls' := [(2, 23), (0, 0), (0, ((U : Nat) : Int)), (0, x), (0, ((j : Nat) : Int))]) (st' := [(0, qand (qush ((trX D U : Nat) : Int) ((j : Nat) : Int)) 1)]) (w' := wQ) (n' := 142) rfl ?_
      rw [show qand (qush ((trX D U : Nat) : Int) ((j : Nat) : Int)) 1 = (if (trX D U).testBit j = true then 1 else 0) from by rw [ushr_b (trX_lt hD) (by omega)]; exact hb_bit (Nat.lt_of_lt_of_le (trX_lt hD) (by decide)) (by omega)]
      refine qG.br (P := (if (trX D U).testBit j = true then 1 else 0) = 0) (pc1 := 41) (pc2 := 32) (st1 := []) rfl (fun htb => ?_) (fun htb => ?_)
      · skip
        have htb1 : ¬ (trX D U).testBit j = true := fun z => by rw [if_pos z] at htb; exact absurd htb (by decide)
        refine qG.blk 1 (pc' := 44) (ls' := [(2, 23), (0, 0), (0, ((U : Nat) : Int)), (0, x), (0, wrp (((j : Nat) : Int) + 1))]) (st' := []) (w' := wQ) (n' := 142) rfl ?_
        rw [show wrp (((j : Nat) : Int) + 1) = ((j + 1 : Nat) : Int) from wrp_id (by omega) (by omega)]
        refine qG.blk 1 (pc' := 9) (ls' := [(2, 23), (0, 0), (0, ((U : Nat) : Int)), (0, x), (0, ((j + 1 : Nat) : Int))]) (st' := []) (w' := wQ) (n' := 142) rfl ?_
        exact ih9 _ (by omega) (j + 1) (wQ) rfl (⟨by omega, hIQ, hQF, by show OCs wQ (stO (okO N P M w0 c (W : Int)) (snO w0 c (W : Int)) D 4 0 r U j (flO (stO (okO N P M w0 c (W : Int)) (snO w0 c (W : Int)) D 4 0 r U) j (kpO (okO N P M w0 c (W : Int)) (snO w0 c (W : Int)) 0 r s))); unfold stO; rw [if_neg htb1]; exact hCQ⟩)
      · skip
        have htb2 : (trX D U).testBit j = true := Decidable.of_not_not (fun z => htb (if_neg z))
        refine qG.blk 5 (pc' := 38) (ls' := [(2, 23), (0, 0), (0, ((U : Nat) : Int)), (0, x), (0, ((j : Nat) : Int))]) (st' := [(0, x), (0, ((U : Nat) : Int)), (0, 0), (0, ((j : Nat) : Int)), (2, 23)]) (w' := wQ) (n' := 142) rfl ?_
        refine qG.call (t := 45) (na := 5) (sk := 1) (md := 1) (ls1 := [(2, 23), (0, ((j : Nat) : Int)), (0, 0), (0, ((U : Nat) : Int)), (0, x), (9, 0)]) (r1 := []) rfl rfl rfl rfl rfl ((K_tryD0 (by omega) w0 c N P M D W hD hW hrf hv16 IH wQ r U (flO (stO (okO N P M w0 c (W : Int)) (snO w0 c (W : Int)) D 4 0 r U) j (kpO (okO N P M w0 c (W : Int)) (snO w0 c (W : Int)) 0 r s)) x hIQ hOQ hr (fun k hk => (hQF 32 k (by omega) (by omega) (by omega) (by omega) (by omega)).trans (hrow k hk)) hU hpc hxs hx (OFR.hold (n := 0) (m := 0) hQF (Nat.le_refl _) (by decide) hH) hok hCQ j (by omega) htb2)) ?_
        rintro _ wR _ ⟨rfl, rfl, hIR, hFR, hCR⟩
        show qG none (d + 1) 44 41 [(2, 23), (0, 0), (0, ((U : Nat) : Int)), (0, x), (0, ((j : Nat) : Int))] [] wR 142 Q9
        refine qG.blk 1 (pc' := 44) (ls' := [(2, 23), (0, 0), (0, ((U : Nat) : Int)), (0, x), (0, wrp (((j : Nat) : Int) + 1))]) (st' := []) (w' := wR) (n' := 142) rfl ?_
        rw [show wrp (((j : Nat) : Int) + 1) = ((j + 1 : Nat) : Int) from wrp_id (by omega) (by omega)]
        refine qG.blk 1 (pc' := 9) (ls' := [(2, 23), (0, 0), (0, ((U : Nat) : Int)), (0, x), (0, ((j + 1 : Nat) : Int))]) (st' := []) (w' := wR) (n' := 142) rfl ?_
        exact ih9 _ (by omega) (j + 1) (wR) rfl (⟨by omega, hIR, hQF.tr (m := 0) hFR (Nat.le_refl _), hCR⟩)
    · skip
      refine qG.retv rfl rfl ?_
      subst hQ9
      refine ⟨rfl, rfl, hIQ, hQF, ?_⟩
      rw [XPo_st]
      rw [show j = 10 by omega] at hCQ
      exact hCQ
  exact L9 _ (0) (w1) rfl (⟨Nat.zero_le _, hI1, h1F, h1C⟩)
theorem TRC_0 (w0 : qW) (c N : Nat) (P : Nat → Int) (M : Nat → Nat → Bool) (D W : Nat) (hD : D < 1024) (hW : 1 ≤ W ∧ W ≤ 5) (hrf : ∀ i, i < N → M i i = true) (hv16 : ∀ j, j < 10 → 0 ≤ vD w0 c j ∧ vD w0 c j ≤ 65535) : TRC w0 c N P M D W 0 := fun d w r U s x h1 h2 h3 h4 h5 h6 h7 h8 h9 h10 h11 h12 => K_tryR0 (by omega) w0 c N P M D W hD hW hrf hv16 (TRC_1 w0 c N P M D W hD hW hrf hv16) w r U s x h2 h3 h4 h5 h6 h7 h8 h9 h10 h11 h12
