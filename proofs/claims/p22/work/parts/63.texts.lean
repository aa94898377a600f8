/-! the reference's texts: steps, reasons, what is kept of them -/
noncomputable def TM : List Nat := [113, 25095, 27095, 28095, 29095, 30095, 31095, 32095, 34095, 107, 108, 109, 24095]
theorem PI.arr {w : qW} (h : PI w) {p j : Nat} {v : Int} (hp : p ≠ 95) (hI : yInv zgf zga zra zSp (qup w p j v)) : PI (qup w p j v) := ⟨hI, by rw [qup_ne (show (95 : Nat) ≠ p from fun z => hp z.symm)]; exact h.2.1, fun z => by rw [qup_ne (show (95 : Nat) ≠ p from fun z => hp z.symm)] at z ⊢; exact h.2.2 z⟩
theorem PI.fld {w : qW} (h : PI w) {j : Nat} {v : Int} (hp : j ≠ 26 ∧ j ≠ 27 ∧ j ≠ 28) (hI : yInv zgf zga zra zSp (qup w 95 j v)) : PI (qup w 95 j v) := ⟨hI, by rw [qup_j hp.2.2.symm, qup_j hp.1.symm]; exact h.2.1, fun z => by rw [qup_j hp.2.1.symm] at z; rw [qup_j hp.2.2.symm, qup_j hp.1.symm]; exact h.2.2 z⟩
theorem AW.arr {m : List Nat} {w w1 : qW} (h : AW m w w1) {p j : Nat} {v : Int} (hI : yInv zgf zga zra zSp (qup w1 p j v)) (hp : ymem p m = true) (hl : p < 1000) : AW m w (qup w1 p j v) := ⟨hI, fun q i hq => by
  have e : q ≠ p := fun c => by
    subst c
    have := hq hl
    have : (ymem q m || ymem (1000 * (i + 1) + q) m) = false := this
    rw [hp] at this; cases this
  rw [qup_ne e]; exact h.2 q i hq⟩
theorem AW.fld {m : List Nat} {w w1 : qW} (h : AW m w w1) {j : Nat} {v : Int} (hI : yInv zgf zga zra zSp (qup w1 95 j v)) (hp : ymem (1000 * (j + 1) + 95) m = true) : AW m w (qup w1 95 j v) := ⟨hI, fun q i hq => by
  have e : ¬ (q = 95 ∧ i = j) := fun c => by
    obtain ⟨rfl, rfl⟩ := c
    have := hq (by decide)
    have : (ymem 95 m || ymem (1000 * (i + 1) + 95) m) = false := this
    rw [hp, Bool.or_true] at this; cases this
  rw [qup95 e]; exact h.2 q i hq⟩
theorem PM_a {w w1 : qW} (h : AW PM w w1) {p : Nat} (hp : p < 1000) (hf : PM.all (fun e => !Nat.beq (e % 1000) p) = true) (j : Nat) : w1 p j = w p j := h.2 p j (fun _ => ymo_far hp hf j)
/-- the steps read so far -/
noncomputable def SL (w : qW) (L : Nat) : Prop := w 95 23 = (L : Int) ∧ ∀ i, i < L → w 107 i = 2 → w 108 i ≤ 20
theorem SL.pm {w w1 : qW} {L : Nat} (h : SL w L) (a : AW PM w w1) : SL w1 L := ⟨(a.2 95 23 (fun _ => rfl)).trans h.1, fun i hi => by rw [PM_a a (by decide) (by decide +kernel), PM_a a (by decide) (by decide +kernel)]; exact h.2 i hi⟩
noncomputable def stW (w : qW) (L : Nat) (k : Int) : qW := qup (qup w 107 L k) 108 L (w 95 29)
theorem stW_o {w : qW} {L : Nat} {k : Int} {j : Nat} : stW w L k 95 j = w 95 j := by unfold stW; rw [qup_ne (by decide), qup_ne (by decide)]
theorem stW_I {w : qW} {L : Nat} {k : Int} (hI : yInv zgf zga zra zSp w) (h0 : 0 ≤ k) (h5 : k ≤ 5) : yInv zgf zga zra zSp (stW w L k) := zup_a (zup_a hI (b := (0, 5)) rfl rfl ⟨h0, h5⟩) (b := (0, 9999)) rfl rfl (zfld hI (j := 29) (b := (0, 9999)) rfl)
theorem stW_P {w : qW} {L : Nat} {k : Int} (h : PI w) (h0 : 0 ≤ k) (h5 : k ≤ 5) : PI (stW w L k) := ⟨stW_I h.1 h0 h5, by rw [stW_o, stW_o]; exact h.2.1, fun z => by rw [stW_o] at z; rw [stW_o, stW_o]; exact h.2.2 z⟩
theorem stW_A {m : List Nat} {w w1 : qW} {L : Nat} {k : Int} (h : AW m w w1) (h0 : 0 ≤ k) (h5 : k ≤ 5) (h7 : ymem 107 m = true) (h8 : ymem 108 m = true) : AW m w (stW w1 L k) := (h.arr (zup_a h.1 (b := (0, 5)) rfl rfl ⟨h0, h5⟩) h7 (by decide)).arr (stW_I h.1 h0 h5) h8 (by decide)
theorem SL.st {w : qW} {L : Nat} {k : Int} (h : SL w L) (hv : k = 2 → w 95 29 ≤ 20) : ∀ i, i < L + 1 → stW w L k 107 i = 2 → stW w L k 108 i ≤ 20 := fun i hi hk => by
  unfold stW at hk ⊢
  rw [qup_ne (show (107 : Nat) ≠ 108 by decide)] at hk
  by_cases e : i = L
  · subst e
    rw [qup_k] at hk ⊢
    exact hv hk
  · rw [qup_j e] at hk
    rw [qup_j e, qup_ne (by decide)]
    exact h.2 i (by omega) hk

theorem K_aStepB {d : Nat} (hd : 9 ≤ d) (L : Nat) (k : Int) (hk0 : 0 ≤ k) (hk5 : k ≤ 5) (w : qW) (hP : PI w) (hL : SL w L) (hL4 : L < 40) : qG none d 243 70 [(2, 95), (0, k)] [] (stW w L k) 142 (fun (r : qV) (w1 : qW) (n1 : Nat) => n1 = 142 ∧ ((r = (0, 0) ∧ AW TM w w1) ∨ (r = (0, 1) ∧ AW TM w w1 ∧ PI w1 ∧ SL w1 (L + 1) ∧ w 95 28 ≤ w1 95 28))) := by
  generalize hQ9 : (fun (r : qV) (w1 : qW) (n1 : Nat) => n1 = 142 ∧ ((r = (0, 0) ∧ AW TM w w1) ∨ (r = (0, 1) ∧ AW TM w w1 ∧ PI w1 ∧ SL w1 (L + 1) ∧ w 95 28 ≤ w1 95 28))) = Q9
  obtain ⟨d, rfl⟩ : ∃ d9, d = d9 + 1 := ⟨d - 1, by omega⟩
  have hP2 : PI (stW w L k) := stW_P hP hk0 hk5
  have hAB0 : AW TM w (stW w L k) := stW_A (AW.rf hP.1) hk0 hk5 (by decide +kernel) (by decide +kernel)
  refine qG.blk 2 (pc' := 72) (ls' := [(2, 95), (0, k)]) (st' := [(0, 4), (0, k)]) (w' := (stW w L k)) (n' := 142) rfl ?_
  refine qG.br (P := k < 4) (pc1 := 75) (pc2 := 106) (st1 := []) rfl (fun hk4 => ?_) (fun hk4 => ?_)
  · skip
    refine qG.blk 3 (pc' := 78) (ls' := [(2, 95), (0, k)]) (st' := [(0, 2), (0, k), (2, 95)]) (w' := (stW w L k)) (n' := 142) rfl ?_
    refine qG.br (P := k = 2) (pc1 := 81) (pc2 := 85) (st1 := [(2, 95)]) rfl (fun hk2 => ?_) (fun hk2 => ?_)
    · skip
      refine qG.blk 4 (pc' := 88) (ls' := [(2, 95), (0, k)]) (st' := [(0, 2), (0, k), (0, 1), (2, 95)]) (w' := (stW w L k)) (n' := 142) rfl ?_
      refine qG.br (P := k = 2) (pc1 := 91) (pc2 := 96) (st1 := [(0, 1), (2, 95)]) rfl (fun hk2b => ?_) (fun hk2b => ?_)
      · skip
        refine qG.blk 2 (pc' := 98) (ls' := [(2, 95), (0, k)]) (st' := [(0, 20), (0, 1), (2, 95)]) (w' := (stW w L k)) (n' := 142) rfl ?_
        refine qG.call (t := 234) (na := 3) (sk := 1) (md := 1) (ls1 := [(2, 95), (0, 1), (0, 20)]) (r1 := []) rfl rfl rfl rfl rfl (K_number (by omega) (1) (20) (stW w L k) hP2) ?_
        rintro _ w1 _ ⟨rfl, ⟨rfl, hA1⟩ | ⟨rfl, hlo1, hhi1, hS1⟩⟩
        · skip
          show qG none (d + 1) 243 101 [(2, 95), (0, k)] [(0, 0)] w1 142 Q9
          have hBAD := (PS.rf hP2).2.1.tr hA1 (by decide +kernel)
          refine qG.br (P := (0 : Int) = 0) (pc1 := 104) (pc2 := 106) (st1 := []) rfl (fun h2 => ?_) (fun h2 => ?_)
          · skip
            refine qG.blk 1 (pc' := 105) (ls' := [(2, 95), (0, k)]) (st' := [(0, 0)]) (w' := w1) (n' := 142) rfl ?_
            refine qG.ret rfl (by first | rfl | exact decide_eq_true (by omega)) ?_
            subst hQ9
            exact ⟨rfl, .inl ⟨rfl, by first | exact hAB0.tr hBAD (by decide +kernel) | exact hBAD⟩⟩
          · exact absurd h2 (by decide)
        · skip
          show qG none (d + 1) 243 101 [(2, 95), (0, k)] [(0, 1)] w1 142 Q9
          have hP1 := PS.tr (PS.rf hP2) hS1 (by omega)
          have hI1 : PI w1 := hS1.2.2.1
          have hm1 := hP1.2.2.2.1
          refine qG.br (P := (1 : Int) = 0) (pc1 := 104) (pc2 := 106) (st1 := []) rfl (fun h3 => ?_) (fun h3 => ?_)
          · exact absurd h3 (by decide)
          · skip
            refine qG.blk 3 (pc' := 111) (ls' := [(2, 95), (0, k)]) (st' := [(0, w1 95 23), (2, 95)]) (w' := w1) (n' := 142) rfl ?_
            rw [show w1 95 23 = ((L : Nat) : Int) from (hP1.2.1.2 95 23 (fun _ => rfl)).trans (stW_o.trans hL.1)]
            refine qG.blk 2 (pc' := 113) (ls' := [(2, 95), (0, k)]) (st' := [(0, wrp (((L : Nat) : Int) + 1)), (2, 95)]) (w' := w1) (n' := 142) rfl ?_
            rw [show wrp (((L : Nat) : Int) + 1) = ((L + 1 : Nat) : Int) from wrp_id (by omega) (by omega)]
            refine qG.blk 3 (pc' := 120) (ls' := [(2, 95), (0, k)]) (st' := [(0, 159), (2, 95)]) (w' := (qup w1 95 23 ((L + 1 : Nat) : Int))) (n' := 142) rfl ?_
            have hIw4 : yInv zgf zga zra zSp (qup w1 95 23 ((L + 1 : Nat) : Int)) := zup_f hI1.1 (b := (0, 40)) rfl rfl rfl ⟨by show (0 : Int) ≤ _; omega, by show _ ≤ (40 : Int); omega⟩
            have hPw4 : PI (qup w1 95 23 ((L + 1 : Nat) : Int)) := hI1.fld (by decide) hIw4
            refine qG.call (t := 233) (na := 2) (sk := 1) (md := 1) (ls1 := [(2, 95), (0, 159)]) (r1 := []) rfl rfl rfl rfl rfl (K_need (by omega) 159 (by decide) (qup w1 95 23 ((L + 1 : Nat) : Int)) hPw4) ?_
            rintro _ w4 _ ⟨rfl, ⟨rfl, hA4⟩ | ⟨rfl, hS4⟩⟩
            · skip
              show qG none (d + 1) 243 123 [(2, 95), (0, k)] [(0, 0)] w4 142 Q9
              have hBAD := (((hAB0.tr hP1.2.1 (by decide +kernel)).fld hIw4 (by decide +kernel)).tr hA4 (by decide +kernel))
              refine qG.ret rfl (by first | rfl | exact decide_eq_true (by omega)) ?_
              subst hQ9
              exact ⟨rfl, .inl ⟨rfl, by first | exact hAB0.tr hBAD (by decide +kernel) | exact hBAD⟩⟩
            · skip
              show qG none (d + 1) 243 123 [(2, 95), (0, k)] [(0, 1)] w4 142 Q9
              have hAW := (((hAB0.tr hP1.2.1 (by decide +kernel)).fld hIw4 (by decide +kernel)).tr hS4.2.1 (by decide +kernel))
              have hSL : SL (qup w1 95 23 ((L + 1 : Nat) : Int)) (L + 1) := ⟨qup_k, fun i hi => by rw [qup_ne (by decide), qup_ne (by decide), PM_a hP1.2.1 (by decide) (by decide +kernel), PM_a hP1.2.1 (by decide) (by decide +kernel)]; exact hL.st (fun z => by first | (exfalso; omega) | (have e29 := stW_o (w := w) (L := L) (k := k) (j := 29); omega)) i hi⟩
              have hmA := hP1.2.2.2.1
              have hmB := hS4.2.2.2.1
              rw [qup_j (by decide)] at hmB
              try rw [stW_o] at hmB
              rw [stW_o] at hmA
              have hOK := hSL.pm hS4.2.1
              have hPI : PI w4 := hS4.2.2.1
              refine qG.ret rfl (by first | rfl | exact decide_eq_true (by omega)) ?_
              subst hQ9
              exact ⟨rfl, .inr ⟨rfl, hAW, hPI, hOK, by omega⟩⟩
      · skip
        refine qG.blk 1 (pc' := 98) (ls' := [(2, 95), (0, k)]) (st' := [(0, 9), (0, 1), (2, 95)]) (w' := (stW w L k)) (n' := 142) rfl ?_
        refine qG.call (t := 234) (na := 3) (sk := 1) (md := 1) (ls1 := [(2, 95), (0, 1), (0, 9)]) (r1 := []) rfl rfl rfl rfl rfl (K_number (by omega) (1) (9) (stW w L k) hP2) ?_
        rintro _ w5 _ ⟨rfl, ⟨rfl, hA5⟩ | ⟨rfl, hlo5, hhi5, hS5⟩⟩
        · skip
          show qG none (d + 1) 243 101 [(2, 95), (0, k)] [(0, 0)] w5 142 Q9
          have hBAD := (PS.rf hP2).2.1.tr hA5 (by decide +kernel)
          refine qG.br (P := (0 : Int) = 0) (pc1 := 104) (pc2 := 106) (st1 := []) rfl (fun h6 => ?_) (fun h6 => ?_)
          · skip
            refine qG.blk 1 (pc' := 105) (ls' := [(2, 95), (0, k)]) (st' := [(0, 0)]) (w' := w5) (n' := 142) rfl ?_
            refine qG.ret rfl (by first | rfl | exact decide_eq_true (by omega)) ?_
            subst hQ9
            exact ⟨rfl, .inl ⟨rfl, by first | exact hAB0.tr hBAD (by decide +kernel) | exact hBAD⟩⟩
          · exact absurd h6 (by decide)
        · skip
          show qG none (d + 1) 243 101 [(2, 95), (0, k)] [(0, 1)] w5 142 Q9
          have hP5 := PS.tr (PS.rf hP2) hS5 (by omega)
          have hI5 : PI w5 := hS5.2.2.1
          have hm5 := hP5.2.2.2.1
          refine qG.br (P := (1 : Int) = 0) (pc1 := 104) (pc2 := 106) (st1 := []) rfl (fun h7 => ?_) (fun h7 => ?_)
          · exact absurd h7 (by decide)
          · skip
            refine qG.blk 3 (pc' := 111) (ls' := [(2, 95), (0, k)]) (st' := [(0, w5 95 23), (2, 95)]) (w' := w5) (n' := 142) rfl ?_
            rw [show w5 95 23 = ((L : Nat) : Int) from (hP5.2.1.2 95 23 (fun _ => rfl)).trans (stW_o.trans hL.1)]
            refine qG.blk 2 (pc' := 113) (ls' := [(2, 95), (0, k)]) (st' := [(0, wrp (((L : Nat) : Int) + 1)), (2, 95)]) (w' := w5) (n' := 142) rfl ?_
            rw [show wrp (((L : Nat) : Int) + 1) = ((L + 1 : Nat) : Int) from wrp_id (by omega) (by omega)]
            refine qG.blk 3 (pc' := 120) (ls' := [(2, 95), (0, k)]) (st' := [(0, 159), (2, 95)]) (w' := (qup w5 95 23 ((L + 1 : Nat) : Int))) (n' := 142) rfl ?_
            have hIw8 : yInv zgf zga zra zSp (qup w5 95 23 ((L + 1 : Nat) : Int)) := zup_f hI5.1 (b := (0, 40)) rfl rfl rfl ⟨by show (0 : Int) ≤ _; omega, by show _ ≤ (40 : Int); omega⟩
            have hPw8 : PI (qup w5 95 23 ((L + 1 : Nat) : Int)) := hI5.fld (by decide) hIw8
            refine qG.call (t := 233) (na := 2) (sk := 1) (md := 1) (ls1 := [(2, 95), (0, 159)]) (r1 := []) rfl rfl rfl rfl rfl (K_need (by omega) 159 (by decide) (qup w5 95 23 ((L + 1 : Nat) : Int)) hPw8) ?_
            rintro _ w8 _ ⟨rfl, ⟨rfl, hA8⟩ | ⟨rfl, hS8⟩⟩
            · skip
              show qG none (d + 1) 243 123 [(2, 95), (0, k)] [(0, 0)] w8 142 Q9
              have hBAD := (((hAB0.tr hP5.2.1 (by decide +kernel)).fld hIw8 (by decide +kernel)).tr hA8 (by decide +kernel))
              refine qG.ret rfl (by first | rfl | exact decide_eq_true (by omega)) ?_
              subst hQ9
              exact ⟨rfl, .inl ⟨rfl, by first | exact hAB0.tr hBAD (by decide +kernel) | exact hBAD⟩⟩
            · skip
              show qG none (d + 1) 243 123 [(2, 95), (0, k)] [(0, 1)] w8 142 Q9
              have hAW := (((hAB0.tr hP5.2.1 (by decide +kernel)).fld hIw8 (by decide +kernel)).tr hS8.2.1 (by decide +kernel))
              have hSL : SL (qup w5 95 23 ((L + 1 : Nat) : Int)) (L + 1) := ⟨qup_k, fun i hi => by rw [qup_ne (by decide), qup_ne (by decide), PM_a hP5.2.1 (by decide) (by decide +kernel), PM_a hP5.2.1 (by decide) (by decide +kernel)]; exact hL.st (fun z => by first | (exfalso; omega) | (have e29 := stW_o (w := w) (L := L) (k := k) (j := 29); omega)) i hi⟩
              have hmA := hP5.2.2.2.1
              have hmB := hS8.2.2.2.1
              rw [qup_j (by decide)] at hmB
              try rw [stW_o] at hmB
              rw [stW_o] at hmA
              have hOK := hSL.pm hS8.2.1
              have hPI : PI w8 := hS8.2.2.1
              refine qG.ret rfl (by first | rfl | exact decide_eq_true (by omega)) ?_
              subst hQ9
              exact ⟨rfl, .inr ⟨rfl, hAW, hPI, hOK, by omega⟩⟩
    · skip
      refine qG.blk 3 (pc' := 88) (ls' := [(2, 95), (0, k)]) (st' := [(0, 2), (0, k), (0, 0), (2, 95)]) (w' := (stW w L k)) (n' := 142) rfl ?_
      refine qG.br (P := k = 2) (pc1 := 91) (pc2 := 96) (st1 := [(0, 0), (2, 95)]) rfl (fun hk2b => ?_) (fun hk2b => ?_)
      · skip
        refine qG.blk 2 (pc' := 98) (ls' := [(2, 95), (0, k)]) (st' := [(0, 20), (0, 0), (2, 95)]) (w' := (stW w L k)) (n' := 142) rfl ?_
        refine qG.call (t := 234) (na := 3) (sk := 1) (md := 1) (ls1 := [(2, 95), (0, 0), (0, 20)]) (r1 := []) rfl rfl rfl rfl rfl (K_number (by omega) (0) (20) (stW w L k) hP2) ?_
        rintro _ w9 _ ⟨rfl, ⟨rfl, hA9⟩ | ⟨rfl, hlo9, hhi9, hS9⟩⟩
        · skip
          show qG none (d + 1) 243 101 [(2, 95), (0, k)] [(0, 0)] w9 142 Q9
          have hBAD := (PS.rf hP2).2.1.tr hA9 (by decide +kernel)
          refine qG.br (P := (0 : Int) = 0) (pc1 := 104) (pc2 := 106) (st1 := []) rfl (fun h10 => ?_) (fun h10 => ?_)
          · skip
            refine qG.blk 1 (pc' := 105) (ls' := [(2, 95), (0, k)]) (st' := [(0, 0)]) (w' := w9) (n' := 142) rfl ?_
            refine qG.ret rfl (by first | rfl | exact decide_eq_true (by omega)) ?_
            subst hQ9
            exact ⟨rfl, .inl ⟨rfl, by first | exact hAB0.tr hBAD (by decide +kernel) | exact hBAD⟩⟩
          · exact absurd h10 (by decide)
        · skip
          show qG none (d + 1) 243 101 [(2, 95), (0, k)] [(0, 1)] w9 142 Q9
          have hP9 := PS.tr (PS.rf hP2) hS9 (by omega)
          have hI9 : PI w9 := hS9.2.2.1
          have hm9 := hP9.2.2.2.1
          refine qG.br (P := (1 : Int) = 0) (pc1 := 104) (pc2 := 106) (st1 := []) rfl (fun h11 => ?_) (fun h11 => ?_)
          · exact absurd h11 (by decide)
          · skip
            refine qG.blk 3 (pc' := 111) (ls' := [(2, 95), (0, k)]) (st' := [(0, w9 95 23), (2, 95)]) (w' := w9) (n' := 142) rfl ?_
            rw [show w9 95 23 = ((L : Nat) : Int) from (hP9.2.1.2 95 23 (fun _ => rfl)).trans (stW_o.trans hL.1)]
            refine qG.blk 2 (pc' := 113) (ls' := [(2, 95), (0, k)]) (st' := [(0, wrp (((L : Nat) : Int) + 1)), (2, 95)]) (w' := w9) (n' := 142) rfl ?_
            rw [show wrp (((L : Nat) : Int) + 1) = ((L + 1 : Nat) : Int) from wrp_id (by omega) (by omega)]
            refine qG.blk 3 (pc' := 120) (ls' := [(2, 95), (0, k)]) (st' := [(0, 159), (2, 95)]) (w' := (qup w9 95 23 ((L + 1 : Nat) : Int))) (n' := 142) rfl ?_
            have hIw12 : yInv zgf zga zra zSp (qup w9 95 23 ((L + 1 : Nat) : Int)) := zup_f hI9.1 (b := (0, 40)) rfl rfl rfl ⟨by show (0 : Int) ≤ _; omega, by show _ ≤ (40 : Int); omega⟩
            have hPw12 : PI (qup w9 95 23 ((L + 1 : Nat) : Int)) := hI9.fld (by decide) hIw12
            refine qG.call (t := 233) (na := 2) (sk := 1) (md := 1) (ls1 := [(2, 95), (0, 159)]) (r1 := []) rfl rfl rfl rfl rfl (K_need (by omega) 159 (by decide) (qup w9 95 23 ((L + 1 : Nat) : Int)) hPw12) ?_
            rintro _ w12 _ ⟨rfl, ⟨rfl, hA12⟩ | ⟨rfl, hS12⟩⟩
            · skip
              show qG none (d + 1) 243 123 [(2, 95), (0, k)] [(0, 0)] w12 142 Q9
              have hBAD := (((hAB0.tr hP9.2.1 (by decide +kernel)).fld hIw12 (by decide +kernel)).tr hA12 (by decide +kernel))
              refine qG.ret rfl (by first | rfl | exact decide_eq_true (by omega)) ?_
              subst hQ9
              exact ⟨rfl, .inl ⟨rfl, by first | exact hAB0.tr hBAD (by decide +kernel) | exact hBAD⟩⟩
            · skip
              show qG none (d + 1) 243 123 [(2, 95), (0, k)] [(0, 1)] w12 142 Q9
              have hAW := (((hAB0.tr hP9.2.1 (by decide +kernel)).fld hIw12 (by decide +kernel)).tr hS12.2.1 (by decide +kernel))
              have hSL : SL (qup w9 95 23 ((L + 1 : Nat) : Int)) (L + 1) := ⟨qup_k, fun i hi => by rw [qup_ne (by decide), qup_ne (by decide), PM_a hP9.2.1 (by decide) (by decide +kernel), PM_a hP9.2.1 (by decide) (by decide +kernel)]; exact hL.st (fun z => by first | (exfalso; omega) | (have e29 := stW_o (w := w) (L := L) (k := k) (j := 29); omega)) i hi⟩
              have hmA := hP9.2.2.2.1
              have hmB := hS12.2.2.2.1
              rw [qup_j (by decide)] at hmB
              try rw [stW_o] at hmB
              rw [stW_o] at hmA
              have hOK := hSL.pm hS12.2.1
              have hPI : PI w12 := hS12.2.2.1
              refine qG.ret rfl (by first | rfl | exact decide_eq_true (by omega)) ?_
              subst hQ9
              exact ⟨rfl, .inr ⟨rfl, hAW, hPI, hOK, by omega⟩⟩
      · skip
        refine qG.blk 1 (pc' := 98) (ls' := [(2, 95), (0, k)]) (st' := [(0, 9), (0, 0), (2, 95)]) (w' := (stW w L k)) (n' := 142) rfl ?_
        refine qG.call (t := 234) (na := 3) (sk := 1) (md := 1) (ls1 := [(2, 95), (0, 0), (0, 9)]) (r1 := []) rfl rfl rfl rfl rfl (K_number (by omega) (0) (9) (stW w L k) hP2) ?_
        rintro _ w13 _ ⟨rfl, ⟨rfl, hA13⟩ | ⟨rfl, hlo13, hhi13, hS13⟩⟩
        · skip
          show qG none (d + 1) 243 101 [(2, 95), (0, k)] [(0, 0)] w13 142 Q9
          have hBAD := (PS.rf hP2).2.1.tr hA13 (by decide +kernel)
          refine qG.br (P := (0 : Int) = 0) (pc1 := 104) (pc2 := 106) (st1 := []) rfl (fun h14 => ?_) (fun h14 => ?_)
          · skip
            refine qG.blk 1 (pc' := 105) (ls' := [(2, 95), (0, k)]) (st' := [(0, 0)]) (w' := w13) (n' := 142) rfl ?_
            refine qG.ret rfl (by first | rfl | exact decide_eq_true (by omega)) ?_
            subst hQ9
            exact ⟨rfl, .inl ⟨rfl, by first | exact hAB0.tr hBAD (by decide +kernel) | exact hBAD⟩⟩
          · exact absurd h14 (by decide)
        · skip
          show qG none (d + 1) 243 101 [(2, 95), (0, k)] [(0, 1)] w13 142 Q9
          have hP13 := PS.tr (PS.rf hP2) hS13 (by omega)
          have hI13 : PI w13 := hS13.2.2.1
          have hm13 := hP13.2.2.2.1
          refine qG.br (P := (1 : Int) = 0) (pc1 := 104) (pc2 := 106) (st1 := []) rfl (fun h15 => ?_) (fun h15 => ?_)
          · exact absurd h15 (by decide)
          · skip
            refine qG.blk 3 (pc' := 111) (ls' := [(2, 95), (0, k)]) (st' := [(0, w13 95 23), (2, 95)]) (w' := w13) (n' := 142) rfl ?_
            rw [show w13 95 23 = ((L : Nat) : Int) from (hP13.2.1.2 95 23 (fun _ => rfl)).trans (stW_o.trans hL.1)]
            refine qG.blk 2 (pc' := 113) (ls' := [(2, 95), (0, k)]) (st' := [(0, wrp (((L : Nat) : Int) + 1)), (2, 95)]) (w' := w13) (n' := 142) rfl ?_
            rw [show wrp (((L : Nat) : Int) + 1) = ((L + 1 : Nat) : Int) from wrp_id (by omega) (by omega)]
            refine qG.blk 3 (pc' := 120) (ls' := [(2, 95), (0, k)]) (st' := [(0, 159), (2, 95)]) (w' := (qup w13 95 23 ((L + 1 : Nat) : Int))) (n' := 142) rfl ?_
            have hIw16 : yInv zgf zga zra zSp (qup w13 95 23 ((L + 1 : Nat) : Int)) := zup_f hI13.1 (b := (0, 40)) rfl rfl rfl ⟨by show (0 : Int) ≤ _; omega, by show _ ≤ (40 : Int); omega⟩
            have hPw16 : PI (qup w13 95 23 ((L + 1 : Nat) : Int)) := hI13.fld (by decide) hIw16
            refine qG.call (t := 233) (na := 2) (sk := 1) (md := 1) (ls1 := [(2, 95), (0, 159)]) (r1 := []) rfl rfl rfl rfl rfl (K_need (by omega) 159 (by decide) (qup w13 95 23 ((L + 1 : Nat) : Int)) hPw16) ?_
            rintro _ w16 _ ⟨rfl, ⟨rfl, hA16⟩ | ⟨rfl, hS16⟩⟩
            · skip
              show qG none (d + 1) 243 123 [(2, 95), (0, k)] [(0, 0)] w16 142 Q9
              have hBAD := (((hAB0.tr hP13.2.1 (by decide +kernel)).fld hIw16 (by decide +kernel)).tr hA16 (by decide +kernel))
              refine qG.ret rfl (by first | rfl | exact decide_eq_true (by omega)) ?_
              subst hQ9
              exact ⟨rfl, .inl ⟨rfl, by first | exact hAB0.tr hBAD (by decide +kernel) | exact hBAD⟩⟩
            · skip
              show qG none (d + 1) 243 123 [(2, 95), (0, k)] [(0, 1)] w16 142 Q9
              have hAW := (((hAB0.tr hP13.2.1 (by decide +kernel)).fld hIw16 (by decide +kernel)).tr hS16.2.1 (by decide +kernel))
              have hSL : SL (qup w13 95 23 ((L + 1 : Nat) : Int)) (L + 1) := ⟨qup_k, fun i hi => by rw [qup_ne (by decide), qup_ne (by decide), PM_a hP13.2.1 (by decide) (by decide +kernel), PM_a hP13.2.1 (by decide) (by decide +kernel)]; exact hL.st (fun z => by first | (exfalso; omega) | (have e29 := stW_o (w := w) (L := L) (k := k) (j := 29); omega)) i hi⟩
              have hmA := hP13.2.2.2.1
              have hmB := hS16.2.2.2.1
              rw [qup_j (by decide)] at hmB
              try rw [stW_o] at hmB
              rw [stW_o] at hmA
              have hOK := hSL.pm hS16.2.1
              have hPI : PI w16 := hS16.2.2.1
              refine qG.ret rfl (by first | rfl | exact decide_eq_true (by omega)) ?_
              subst hQ9
              exact ⟨rfl, .inr ⟨rfl, hAW, hPI, hOK, by omega⟩⟩
  · skip
    refine qG.blk 3 (pc' := 111) (ls' := [(2, 95), (0, k)]) (st' := [(0, (stW w L k) 95 23), (2, 95)]) (w' := (stW w L k)) (n' := 142) rfl ?_
    rw [show (stW w L k) 95 23 = ((L : Nat) : Int) from stW_o.trans hL.1]
    refine qG.blk 2 (pc' := 113) (ls' := [(2, 95), (0, k)]) (st' := [(0, wrp (((L : Nat) : Int) + 1)), (2, 95)]) (w' := (stW w L k)) (n' := 142) rfl ?_
    rw [show wrp (((L : Nat) : Int) + 1) = ((L + 1 : Nat) : Int) from wrp_id (by omega) (by omega)]
    refine qG.blk 3 (pc' := 120) (ls' := [(2, 95), (0, k)]) (st' := [(0, 159), (2, 95)]) (w' := (qup (stW w L k) 95 23 ((L + 1 : Nat) : Int))) (n' := 142) rfl ?_
    have hIw17 : yInv zgf zga zra zSp (qup (stW w L k) 95 23 ((L + 1 : Nat) : Int)) := zup_f hP2.1 (b := (0, 40)) rfl rfl rfl ⟨by show (0 : Int) ≤ _; omega, by show _ ≤ (40 : Int); omega⟩
    have hPw17 : PI (qup (stW w L k) 95 23 ((L + 1 : Nat) : Int)) := hP2.fld (by decide) hIw17
    refine qG.call (t := 233) (na := 2) (sk := 1) (md := 1) (ls1 := [(2, 95), (0, 159)]) (r1 := []) rfl rfl rfl rfl rfl (K_need (by omega) 159 (by decide) (qup (stW w L k) 95 23 ((L + 1 : Nat) : Int)) hPw17) ?_
    rintro _ w17 _ ⟨rfl, ⟨rfl, hA17⟩ | ⟨rfl, hS17⟩⟩
    · skip
      show qG none (d + 1) 243 123 [(2, 95), (0, k)] [(0, 0)] w17 142 Q9
      have hBAD := (((hAB0.tr (PS.rf hP2).2.1 (by decide +kernel)).fld hIw17 (by decide +kernel)).tr hA17 (by decide +kernel))
      refine qG.ret rfl (by first | rfl | exact decide_eq_true (by omega)) ?_
      subst hQ9
      exact ⟨rfl, .inl ⟨rfl, by first | exact hAB0.tr hBAD (by decide +kernel) | exact hBAD⟩⟩
    · skip
      show qG none (d + 1) 243 123 [(2, 95), (0, k)] [(0, 1)] w17 142 Q9
      have hAW := (((hAB0.tr (PS.rf hP2).2.1 (by decide +kernel)).fld hIw17 (by decide +kernel)).tr hS17.2.1 (by decide +kernel))
      have hSL : SL (qup (stW w L k) 95 23 ((L + 1 : Nat) : Int)) (L + 1) := ⟨qup_k, fun i hi => by rw [qup_ne (by decide), qup_ne (by decide), PM_a (PS.rf hP2).2.1 (by decide) (by decide +kernel), PM_a (PS.rf hP2).2.1 (by decide) (by decide +kernel)]; exact hL.st (fun z => by first | (exfalso; omega) | (have e29 := stW_o (w := w) (L := L) (k := k) (j := 29); omega)) i hi⟩
      have hmA := (PS.rf hP2).2.2.2.1
      have hmB := hS17.2.2.2.1
      rw [qup_j (by decide)] at hmB
      try rw [stW_o] at hmB
      rw [stW_o] at hmA
      have hOK := hSL.pm hS17.2.1
      have hPI : PI w17 := hS17.2.2.1
      refine qG.ret rfl (by first | rfl | exact decide_eq_true (by omega)) ?_
      subst hQ9
      exact ⟨rfl, .inr ⟨rfl, hAW, hPI, hOK, by omega⟩⟩
theorem K_aStep {d : Nat} (hd : 10 ≤ d) (L : Nat) (w : qW) (hP : PI w) (hL : SL w L) (hL4 : L ≤ 40) : qG none d 243 0 [(2, 95), (9, 0)] [] w 142 (fun (r : qV) (w1 : qW) (n1 : Nat) => n1 = 142 ∧ ((r = (0, 0) ∧ AW TM w w1) ∨ (r = (0, 1) ∧ AW TM w w1 ∧ PI w1 ∧ SL w1 (L + 1) ∧ L + 1 ≤ 40 ∧ w 95 28 + 1 ≤ w1 95 28))) := by
  generalize hQ9 : (fun (r : qV) (w1 : qW) (n1 : Nat) => n1 = 142 ∧ ((r = (0, 0) ∧ AW TM w w1) ∨ (r = (0, 1) ∧ AW TM w w1 ∧ PI w1 ∧ SL w1 (L + 1) ∧ L + 1 ≤ 40 ∧ w 95 28 + 1 ≤ w1 95 28))) = Q9
  have hb0 := hP.b
  obtain ⟨d, rfl⟩ : ∃ d9, d = d9 + 1 := ⟨d - 1, by omega⟩
  refine qG.blk 4 (pc' := 8) (ls' := [(2, 95), (9, 0)]) (st' := [(0, 25), (0, 20), (0, w 95 27)]) (w' := w) (n' := 142) rfl ?_
  refine qG.call (t := 206) (na := 3) (sk := 0) (md := 0) (ls1 := [(0, w 95 27), (0, 20), (0, 25)]) (r1 := []) rfl rfl rfl rfl rfl (K_isIn (by omega) _ _ _ _) ?_
  rintro _ w7 _ ⟨rfl, hw7, rfl⟩
  rw [hw7]
  show qG none (d + 1) 243 11 [(2, 95), (9, 0)] [(0, isInV (w 95 27) 20 25)] w 142 Q9
  refine qG.br (P := isInV (w 95 27) 20 25 = 0) (pc1 := 14) (pc2 := 20) (st1 := []) rfl (fun hin => ?_) (fun hin => ?_)
  · skip
    refine qG.blk 2 (pc' := 16) (ls' := [(2, 95), (9, 0)]) (st' := [(0, 1), (2, 95)]) (w' := w) (n' := 142) rfl ?_
    refine qG.call (t := 232) (na := 2) (sk := 1) (md := 1) (ls1 := [(2, 95), (0, 1)]) (r1 := []) rfl rfl rfl rfl rfl (K_bad (by omega) 1 w hP.1 (by decide) (by decide)) ?_
    rintro _ _ _ ⟨rfl, rfl, rfl⟩
    show qG none (d + 1) 243 19 [(2, 95), (9, 0)] [(0, 0)] (qup (qup w 95 30 1) 95 31 (w 95 28)) 142 Q9
    refine qG.ret rfl (by first | rfl | exact decide_eq_true (by omega)) ?_
    subst hQ9
    exact ⟨rfl, .inl ⟨rfl, (AW.rf hP.1).tr (AW.bad (PS.rf hP).2.1 (by decide) (by decide)) (by decide +kernel)⟩⟩
  · skip
    have hin2 : 20 ≤ w 95 27 ∧ w 95 27 ≤ 25 := by unfold isInV at hin; (repeat' split at hin) <;> omega
    refine qG.blk 2 (pc' := 24) (ls' := [(2, 95), (9, 0)]) (st' := [(0, w 95 23)]) (w' := w) (n' := 142) rfl ?_
    rw [show w 95 23 = ((L : Nat) : Int) from hL.1]
    refine qG.blk 1 (pc' := 26) (ls' := [(2, 95), (9, 0)]) (st' := [(0, 40), (0, ((L : Nat) : Int))]) (w' := w) (n' := 142) rfl ?_
    refine qG.br (P := ((L : Nat) : Int) = 40) (pc1 := 29) (pc2 := 35) (st1 := []) rfl (fun h40 => ?_) (fun h40 => ?_)
    · skip
      refine qG.blk 2 (pc' := 31) (ls' := [(2, 95), (9, 0)]) (st' := [(0, 3), (2, 95)]) (w' := w) (n' := 142) rfl ?_
      refine qG.call (t := 232) (na := 2) (sk := 1) (md := 1) (ls1 := [(2, 95), (0, 3)]) (r1 := []) rfl rfl rfl rfl rfl (K_bad (by omega) 3 w hP.1 (by decide) (by decide)) ?_
      rintro _ _ _ ⟨rfl, rfl, rfl⟩
      show qG none (d + 1) 243 34 [(2, 95), (9, 0)] [(0, 0)] (qup (qup w 95 30 3) 95 31 (w 95 28)) 142 Q9
      refine qG.ret rfl (by first | rfl | exact decide_eq_true (by omega)) ?_
      subst hQ9
      exact ⟨rfl, .inl ⟨rfl, (AW.rf hP.1).tr (AW.bad (PS.rf hP).2.1 (by decide) (by decide)) (by decide +kernel)⟩⟩
    · skip
      refine qG.blk 4 (pc' := 42) (ls' := [(2, 95), (9, 0)]) (st' := [(0, wrp ((w 95 27) - 20))]) (w' := w) (n' := 142) rfl ?_
      rw [show wrp ((w 95 27) - 20) = w 95 27 - 20 from wrp_id (by omega) (by omega)]
      refine qG.blk 2 (pc' := 44) (ls' := [(2, 95), (0, w 95 27 - 20)]) (st' := [(2, 95)]) (w' := w) (n' := 142) rfl ?_
      refine qG.call (t := 231) (na := 1) (sk := 1) (md := 1) (ls1 := [(2, 95), (9, 0)]) (r1 := []) rfl rfl rfl rfl rfl (K_next0 (by omega) w hP.1) ?_
      rintro _ w1 _ ⟨rfl, rfl, hX1⟩
      have hn1 := PS.next hP (by omega) hX1
      have hP1 := PS.tr (PS.rf hP) hn1.1 (by omega)
      have hI1 : PI w1 := hn1.1.2.2.1
      have hg1 := hn1.2
      have hb1 := hI1.b
      have hq1 := hP1.fs
      have hd1 := hP1.2.2.2.2.2.1
      show qG none (d + 1) 243 47 [(2, 95), (0, w 95 27 - 20)] [] w1 142 Q9
      refine qG.blk 2 (pc' := 51) (ls' := [(2, 95), (0, w 95 27 - 20)]) (st' := [(2, w1 95 13)]) (w' := w1) (n' := 142) rfl ?_
      rw [show w1 95 13 = 107 from zref hI1.1 rfl rfl]
      refine qG.blk 2 (pc' := 55) (ls' := [(2, 95), (0, w 95 27 - 20)]) (st' := [(0, w1 95 23), (2, 107)]) (w' := w1) (n' := 142) rfl ?_
      rw [show w1 95 23 = ((L : Nat) : Int) from (hP1.2.1.2 95 23 (fun _ => rfl)).trans hL.1]
      refine qG.blk 1 (pc' := 56) (ls' := [(2, 95), (0, w 95 27 - 20)]) (st' := [(0, w 95 27 - 20), (0, ((L : Nat) : Int)), (2, 107)]) (w' := w1) (n' := 142) rfl ?_
      refine qG.ar (P := 0 ≤ ((L : Nat) : Int) ∧ ((L : Nat) : Int) < ((40 : Nat) : Int)) (P2 := 0 < (107 : Int) ∧ (107 : Int) ≤ ((142 : Nat) : Int)) (pc' := 57) (ls' := [(2, 95), (0, w 95 27 - 20)]) (st' := []) (w' := (qup w1 107 L (w 95 27 - 20))) (n' := 142) rfl (by omega) (by decide) ?_
      refine qG.blk 2 (pc' := 61) (ls' := [(2, 95), (0, w 95 27 - 20)]) (st' := [(2, w1 95 14)]) (w' := (qup w1 107 L (w 95 27 - 20))) (n' := 142) rfl ?_
      rw [show w1 95 14 = 108 from zref hI1.1 rfl rfl]
      refine qG.blk 2 (pc' := 65) (ls' := [(2, 95), (0, w 95 27 - 20)]) (st' := [(0, w1 95 23), (2, 108)]) (w' := (qup w1 107 L (w 95 27 - 20))) (n' := 142) rfl ?_
      rw [show w1 95 23 = ((L : Nat) : Int) from (hP1.2.1.2 95 23 (fun _ => rfl)).trans hL.1]
      refine qG.blk 2 (pc' := 69) (ls' := [(2, 95), (0, w 95 27 - 20)]) (st' := [(0, w1 95 29), (0, ((L : Nat) : Int)), (2, 108)]) (w' := (qup w1 107 L (w 95 27 - 20))) (n' := 142) rfl ?_
      refine qG.ar (P := 0 ≤ ((L : Nat) : Int) ∧ ((L : Nat) : Int) < ((40 : Nat) : Int)) (P2 := 0 < (108 : Int) ∧ (108 : Int) ≤ ((142 : Nat) : Int)) (pc' := 70) (ls' := [(2, 95), (0, w 95 27 - 20)]) (st' := []) (w' := (qup (qup w1 107 L (w 95 27 - 20)) 108 L (w1 95 29))) (n' := 142) rfl (by omega) (by decide) ?_
      rw [show qup (qup w1 107 L (w 95 27 - 20)) 108 L (w1 95 29) = stW w1 L (w 95 27 - 20) from rfl]
      have hSLn := hL.pm hP1.2.1
      subst hQ9
      refine qG.mono (K_aStepB (by omega) L (w 95 27 - 20) (by omega) (by omega) w1 hI1 hSLn (by omega)) ?_
      rintro _ w9 _ ⟨rfl, ⟨rfl, hA9⟩ | ⟨rfl, hA9, hP9, hS9, hm9⟩⟩
      · exact ⟨rfl, .inl ⟨rfl, ((AW.rf hP.1).tr hP1.2.1 (by decide +kernel)).tr hA9 (by decide +kernel)⟩⟩
      · exact ⟨rfl, .inr ⟨rfl, ((AW.rf hP.1).tr hP1.2.1 (by decide +kernel)).tr hA9 (by decide +kernel), hP9, hS9, by omega, by omega⟩⟩
theorem K_need2 {d : Nat} (hd : 8 ≤ d) (t : Int) (ht : t ≠ 0) (w : qW) (hP : PI w) : qG none d 233 0 [(2, 95), (0, t)] [] w 142 (fun (r : qV) (w1 : qW) (n1 : Nat) => n1 = 142 ∧ ((r = (0, 0) ∧ AW PM w w1) ∨ (r = (0, 1) ∧ PS 0 0 1 0 w w1 ∧ w 95 28 + 1 ≤ w1 95 28 ∧ w1 95 24 = w 95 24))) := by
  generalize hQ9 : (fun (r : qV) (w1 : qW) (n1 : Nat) => n1 = 142 ∧ ((r = (0, 0) ∧ AW PM w w1) ∨ (r = (0, 1) ∧ PS 0 0 1 0 w w1 ∧ w 95 28 + 1 ≤ w1 95 28 ∧ w1 95 24 = w 95 24))) = Q9
  have hb0 := hP.b
  obtain ⟨d, rfl⟩ : ∃ d9, d = d9 + 1 := ⟨d - 1, by omega⟩
  refine qG.blk 3 (pc' := 5) (ls' := [(2, 95), (0, t)]) (st' := [(0, t), (0, w 95 27)]) (w' := w) (n' := 142) rfl ?_
  refine qG.br (P := w 95 27 = t) (pc1 := 14) (pc2 := 8) (st1 := []) rfl (fun h1 => ?_) (fun h1 => ?_)
  · skip
    refine qG.blk 1 (pc' := 15) (ls' := [(2, 95), (0, t)]) (st' := [(2, 95)]) (w' := w) (n' := 142) rfl ?_
    refine qG.call (t := 231) (na := 1) (sk := 1) (md := 1) (ls1 := [(2, 95), (9, 0)]) (r1 := []) rfl rfl rfl rfl rfl (K_next0 (by omega) w hP.1) ?_
    rintro _ w2 _ ⟨rfl, rfl, hX2⟩
    have hn2 := PS.next hP (by omega) hX2
    have hP2 := PS.tr (PS.rf hP) hn2.1 (by omega)
    have hI2 : PI w2 := hn2.1.2.2.1
    have hg2 := hn2.2
    have hb2 := hI2.b
    have hq2 := hP2.fs
    have hd2 := hP2.2.2.2.2.2.1
    show qG none (d + 1) 233 18 [(2, 95), (0, t)] [] w2 142 Q9
    refine qG.blk 1 (pc' := 19) (ls' := [(2, 95), (0, t)]) (st' := [(0, 1)]) (w' := w2) (n' := 142) rfl ?_
    refine qG.ret rfl (by first | rfl | exact decide_eq_true (by omega)) ?_
    subst hQ9
    exact ⟨rfl, .inr ⟨rfl, hn2.1, hn2.2, (hX2.look hP.1).1.2 95 24 (fun _ => rfl)⟩⟩
  · skip
    refine qG.blk 2 (pc' := 10) (ls' := [(2, 95), (0, t)]) (st' := [(0, 1), (2, 95)]) (w' := w) (n' := 142) rfl ?_
    refine qG.call (t := 232) (na := 2) (sk := 1) (md := 1) (ls1 := [(2, 95), (0, 1)]) (r1 := []) rfl rfl rfl rfl rfl (K_bad (by omega) 1 w hP.1 (by decide) (by decide)) ?_
    rintro _ _ _ ⟨rfl, rfl, rfl⟩
    show qG none (d + 1) 233 13 [(2, 95), (0, t)] [(0, 0)] (qup (qup w 95 30 1) 95 31 (w 95 28)) 142 Q9
    refine qG.ret rfl (by first | rfl | exact decide_eq_true (by omega)) ?_
    subst hQ9
    exact ⟨rfl, .inl ⟨rfl, AW.bad (PS.rf hP).2.1 (by decide) (by decide)⟩⟩
/-- the reasons read so far -/
noncomputable def RsL (w : qW) (L : Nat) : Prop := w 95 23 = (L : Int) ∧ w 109 L = w 95 24 ∧ (∀ i, i ≤ L → 0 ≤ w 109 i ∧ w 109 i ≤ w 95 24) ∧ ∀ i, i < L → (w 108 i = 0 ∨ w 108 i = 1) ∧ w 109 i ≤ w 109 (i + 1) ∧ ∀ h, runS (w 113) (w 109 i).toNat (w 109 (i + 1) - w 109 i).toNat h = some (h + 1)
noncomputable def rsW (w : qW) (L : Nat) : qW := qup (qup (qup w 108 L (w 95 27 - 7)) 109 L (w 95 24)) 95 33 0
noncomputable def reW (w : qW) (L : Nat) : qW := qup (qup w 95 23 ((L + 1 : Nat) : Int)) 109 (L + 1) (w 95 24)
theorem rsW_o {w : qW} {L j : Nat} (h : j ≠ 33) : rsW w L 95 j = w 95 j := by unfold rsW; rw [qup_j h, qup_ne (by decide), qup_ne (by decide)]
theorem reW_o {w : qW} {L j : Nat} (h : j ≠ 23) : reW w L 95 j = w 95 j := by unfold reW; rw [qup_ne (by decide), qup_j h]
theorem rsW_I {w : qW} {L : Nat} (hI : yInv zgf zga zra zSp w) (h7 : 7 ≤ w 95 27) : yInv zgf zga zra zSp (rsW w L) := by
  have h1 := zfld hI (j := 27) (b := (0, 355)) rfl
  have h2 : w 95 27 ≤ (355 : Int) := h1.2
  exact zup_f (zup_a (zup_a hI (b := (0, 9999)) rfl rfl ⟨by show (0 : Int) ≤ _; omega, by show _ ≤ (9999 : Int); omega⟩) (b := (0, 610)) rfl rfl (zfld hI (j := 24) (b := (0, 610)) rfl)) (b := (0, 8)) rfl rfl rfl ⟨by decide, by decide⟩
theorem rsW_P {w : qW} {L : Nat} (h : PI w) (h7 : 7 ≤ w 95 27) : PI (rsW w L) := ⟨rsW_I h.1 h7, by rw [rsW_o (by decide), rsW_o (by decide)]; exact h.2.1, fun z => by rw [rsW_o (by decide)] at z; rw [rsW_o (by decide), rsW_o (by decide)]; exact h.2.2 z⟩
theorem rsW_A {w : qW} {L : Nat} (hI : yInv zgf zga zra zSp w) (h7 : 7 ≤ w 95 27) : AW TM w (rsW w L) := by
  refine ⟨rsW_I hI h7, fun q i hq => ?_⟩
  have e1 : q ≠ 108 := fun c => by subst c; exact absurd (hq (by decide)) (by rw [show ymo 108 i TM = true from rfl]; decide)
  have e2 : q ≠ 109 := fun c => by subst c; exact absurd (hq (by decide)) (by rw [show ymo 109 i TM = true from rfl]; decide)
  unfold rsW
  rw [qup95 (fun c => by obtain ⟨rfl, rfl⟩ := c; exact absurd (hq (by decide)) (by decide)), qup_ne e2, qup_ne e1]
theorem reW_I {w : qW} {L : Nat} (hI : yInv zgf zga zra zSp w) (hL : L < 40) : yInv zgf zga zra zSp (reW w L) := zup_a (zup_f hI (b := (0, 40)) rfl rfl rfl ⟨by show (0 : Int) ≤ _; omega, by show _ ≤ (40 : Int); omega⟩) (b := (0, 610)) rfl rfl (zfld hI (j := 24) (b := (0, 610)) rfl)
theorem reW_P {w : qW} {L : Nat} (h : PI w) (hL : L < 40) : PI (reW w L) := ⟨reW_I h.1 hL, by rw [reW_o (by decide), reW_o (by decide)]; exact h.2.1, fun z => by rw [reW_o (by decide)] at z; rw [reW_o (by decide), reW_o (by decide)]; exact h.2.2 z⟩
theorem reW_A {w : qW} {L : Nat} (hI : yInv zgf zga zra zSp w) (hL : L < 40) : AW TM w (reW w L) := by
  refine ⟨reW_I hI hL, fun q i hq => ?_⟩
  have e2 : q ≠ 109 := fun c => by subst c; exact absurd (hq (by decide)) (by rw [show ymo 109 i TM = true from rfl]; decide)
  unfold reW
  rw [qup_ne e2, qup95 (fun c => by obtain ⟨rfl, rfl⟩ := c; exact absurd (hq (by decide)) (by decide))]
theorem RsL.next {w w1 : qW} {L : Nat} {s d : Int} (h : RsL w L) (h7 : w 95 27 = 7 ∨ w 95 27 = 8) (hp : PS 0 1 s d (rsW w L) w1) : RsL (reW w1 L) (L + 1) := by
  obtain ⟨x0, x1, x2, x3, x4, x5, x6, x7, x8⟩ := hp
  obtain ⟨r1, r2, r3, r4⟩ := h
  rw [rsW_o (by decide)] at x6 x7 x8
  have a109 : ∀ i, w1 109 i = rsW w L 109 i := fun i => PM_a x1 (by decide) (by decide +kernel) i
  have a108 : ∀ i, w1 108 i = rsW w L 108 i := fun i => PM_a x1 (by decide) (by decide +kernel) i
  have b109 : ∀ i, i ≤ L → w1 109 i = w 109 i := fun i hi => by
    rw [a109]
    unfold rsW
    rw [qup_ne (by decide)]
    by_cases e : i = L
    · subst e; rw [qup_k]; exact r2.symm
    · rw [qup_j e, qup_ne (by decide)]
  have b108 : ∀ i, i < L → w1 108 i = w 108 i := fun i hi => by
    rw [a108]
    unfold rsW
    rw [qup_ne (by decide), qup_ne (by decide), qup_j (by omega)]
  have bL : w1 108 L = w 95 27 - 7 := by
    rw [a108]
    unfold rsW
    rw [qup_ne (by decide), qup_ne (by decide), qup_k]
  have c109 : ∀ i, i ≤ L → reW w1 L 109 i = w 109 i := fun i hi => by
    unfold reW
    rw [qup_j (by omega), qup_ne (by decide), b109 i hi]
  have cL : reW w1 L 109 (L + 1) = w1 95 24 := by unfold reW; rw [qup_k]
  have c108 : ∀ i, reW w1 L 108 i = w1 108 i := fun i => by unfold reW; rw [qup_ne (by decide), qup_ne (by decide)]
  have c113 : reW w1 L 113 = w1 113 := by unfold reW; rw [qup_ne (by decide), qup_ne (by decide)]
  have d113 : ∀ j : Nat, (j : Int) < 2 * w 95 24 → w1 113 j = w 113 j := fun j hj => by
    rw [x7 j hj]; unfold rsW; rw [qup_ne (by decide), qup_ne (by decide), qup_ne (by decide)]
  have hf := r3 L (Nat.le_refl L)
  refine ⟨by unfold reW; rw [qup_ne (by decide), qup_k], by rw [cL, reW_o (by decide)], fun i hi => ?_, fun i hi => ?_⟩
  · rw [reW_o (by decide)]
    by_cases e : i = L + 1
    · rw [e, cL]; omega
    · rw [c109 i (by omega)]
      have := r3 i (by omega)
      omega
  · rw [c108, c113]
    by_cases e : i = L
    · subst e
      rw [bL, cL, c109 i (Nat.le_refl i), r2]
      exact ⟨by omega, by omega, fun q => x8 q⟩
    · have q1 := r4 i (by omega)
      rw [b108 i (by omega), c109 i (by omega), c109 (i + 1) (by omega)]
      refine ⟨q1.1, q1.2.1, fun q => ?_⟩
      rw [← q1.2.2 q]
      have t1 := r3 i (by omega)
      have t2 := r3 (i + 1) (by omega)
      exact runS_cong _ (fun j h1 h2 => d113 j (by omega))
theorem RsL.keep {w w1 : qW} {L : Nat} (h : RsL w L) (a : AW PM w w1) (e : w1 95 24 = w 95 24) (h113 : ∀ j : Nat, (j : Int) < 2 * w 95 24 → w1 113 j = w 113 j) : RsL w1 L := by
  obtain ⟨r1, r2, r3, r4⟩ := h
  have b109 : ∀ i, w1 109 i = w 109 i := fun i => PM_a a (by decide) (by decide +kernel) i
  have b108 : ∀ i, w1 108 i = w 108 i := fun i => PM_a a (by decide) (by decide +kernel) i
  refine ⟨(a.2 95 23 (fun _ => rfl)).trans r1, by rw [b109, e, r2], fun i hi => by rw [b109, e]; exact r3 i hi, fun i hi => ?_⟩
  rw [b108, b109, b109]
  have q1 := r4 i hi
  refine ⟨q1.1, q1.2.1, fun q => ?_⟩
  rw [← q1.2.2 q]
  have t1 := r3 i (by omega)
  have t2 := r3 (i + 1) (by omega)
  exact runS_cong _ (fun j h1 h2 => h113 j (by omega))
theorem K_aReasonB {d : Nat} (hd : 40 ≤ d) (L : Nat) (w : qW) (hP : PI w) (hD : w 95 24 ≤ w 95 28) (hL : RsL w L) (hL20 : L < 20) (h78 : w 95 27 = 7 ∨ w 95 27 = 8) : qG none d 244 73 [(2, 95)] [] (rsW w L) 142 (fun (r : qV) (w1 : qW) (n1 : Nat) => n1 = 142 ∧ ((r = (0, 0) ∧ AW TM w w1) ∨ (r = (0, 1) ∧ AW TM w w1 ∧ PI w1 ∧ RsL w1 (L + 1) ∧ w1 95 24 ≤ w1 95 28 ∧ w 95 28 + 1 ≤ w1 95 28 ∧ L + 1 ≤ 20))) := by
  generalize hQ9 : (fun (r : qV) (w1 : qW) (n1 : Nat) => n1 = 142 ∧ ((r = (0, 0) ∧ AW TM w w1) ∨ (r = (0, 1) ∧ AW TM w w1 ∧ PI w1 ∧ RsL w1 (L + 1) ∧ w1 95 24 ≤ w1 95 28 ∧ w 95 28 + 1 ≤ w1 95 28 ∧ L + 1 ≤ 20))) = Q9
  obtain ⟨d, rfl⟩ : ∃ d9, d = d9 + 1 := ⟨d - 1, by omega⟩
  have hP3 : PI (rsW w L) := rsW_P hP (by omega)
  have hAB0 : AW TM w (rsW w L) := rsW_A hP.1 (by omega)
  refine qG.blk 1 (pc' := 74) (ls' := [(2, 95)]) (st' := [(2, 95)]) (w' := (rsW w L)) (n' := 142) rfl ?_
  refine qG.call (t := 231) (na := 1) (sk := 1) (md := 1) (ls1 := [(2, 95), (9, 0)]) (r1 := []) rfl rfl rfl rfl rfl (K_next0 (by omega) (rsW w L) hP3.1) ?_
  rintro _ w1 _ ⟨rfl, rfl, hX1⟩
  have hn1 := PS.next hP3 (by rw [rsW_o (by decide)]; omega) hX1
  have hP1 := PS.tr (PS.rf hP3) hn1.1 (by omega)
  have hI1 : PI w1 := hn1.1.2.2.1
  have hg1 := hn1.2
  rw [rsW_o (by decide)] at hg1
  have hb1 := hI1.b
  have hq1 := hP1.fs
  have hd1 := hP1.2.2.2.2.2.1
  rw [rsW_o (by decide), rsW_o (by decide)] at hq1
  rw [show rsW w L 95 33 = 0 from qup_k] at hd1
  show qG none (d + 1) 244 77 [(2, 95)] [] w1 142 Q9
  refine qG.blk 2 (pc' := 79) (ls' := [(2, 95)]) (st' := [(0, 3), (2, 95)]) (w' := w1) (n' := 142) rfl ?_
  refine qG.call (t := 233) (na := 2) (sk := 1) (md := 1) (ls1 := [(2, 95), (0, 3)]) (r1 := []) rfl rfl rfl rfl rfl (K_need (by omega) 3 (by decide) w1 hI1) ?_
  rintro _ w2 _ ⟨rfl, ⟨rfl, hA2⟩ | ⟨rfl, hS2⟩⟩
  · skip
    show qG none (d + 1) 244 82 [(2, 95)] [(0, 0)] w2 142 Q9
    have hBAD := hAB0.tr (hP1.2.1.tr hA2 (by decide +kernel)) (by decide +kernel)
    refine qG.br (P := (0 : Int) = 0) (pc1 := 92) (pc2 := 85) (st1 := []) rfl (fun h3 => ?_) (fun h3 => ?_)
    · skip
      refine qG.blk 1 (pc' := 93) (ls' := [(2, 95)]) (st' := [(0, 0)]) (w' := w2) (n' := 142) rfl ?_
      refine qG.ret rfl (by first | rfl | exact decide_eq_true (by omega)) ?_
      subst hQ9
      exact ⟨rfl, .inl ⟨rfl, hBAD⟩⟩
    · exact absurd h3 (by decide)
  · skip
    show qG none (d + 1) 244 82 [(2, 95)] [(0, 1)] w2 142 Q9
    have hP2 := PS.tr hP1 hS2 (by omega)
    have hI2 : PI w2 := hS2.2.2.1
    have hm2 := hS2.2.2.2.1
    have hb2 := hI2.b
    have hq2 := hP2.fs
    have hd2 := hP2.2.2.2.2.2.1
    rw [rsW_o (by decide), rsW_o (by decide)] at hq2
    rw [show rsW w L 95 33 = 0 from qup_k] at hd2
    refine qG.br (P := (1 : Int) = 0) (pc1 := 92) (pc2 := 85) (st1 := []) rfl (fun h4 => ?_) (fun h4 => ?_)
    · exact absurd h4 (by decide)
    · skip
      refine qG.blk 1 (pc' := 86) (ls' := [(2, 95)]) (st' := [(2, 95)]) (w' := w2) (n' := 142) rfl ?_
      refine qG.call (t := 240) (na := 1) (sk := 1) (md := 1) (ls1 := [(2, 95)]) (r1 := []) rfl rfl rfl rfl rfl ((P_all 8).2.2 d w2 (by omega) hI2 (by omega) (by omega)) ?_
      rintro _ w5 _ ⟨rfl, ⟨rfl, hA5⟩ | ⟨rfl, hS5⟩⟩
      · skip
        show qG none (d + 1) 244 89 [(2, 95)] [(0, 0)] w5 142 Q9
        have hBAD := hAB0.tr (hP2.2.1.tr hA5 (by decide +kernel)) (by decide +kernel)
        refine qG.br (P := (0 : Int) = 0) (pc1 := 92) (pc2 := 94) (st1 := []) rfl (fun h6 => ?_) (fun h6 => ?_)
        · skip
          refine qG.blk 1 (pc' := 93) (ls' := [(2, 95)]) (st' := [(0, 0)]) (w' := w5) (n' := 142) rfl ?_
          refine qG.ret rfl (by first | rfl | exact decide_eq_true (by omega)) ?_
          subst hQ9
          exact ⟨rfl, .inl ⟨rfl, hBAD⟩⟩
        · exact absurd h6 (by decide)
      · skip
        show qG none (d + 1) 244 89 [(2, 95)] [(0, 1)] w5 142 Q9
        have hP5 := PS.tr hP2 hS5 (by omega)
        have hI5 : PI w5 := hS5.2.2.1
        have hm5 := hS5.2.2.2.1
        have hb5 := hI5.b
        have hq5 := hP5.fs
        have hd5 := hP5.2.2.2.2.2.1
        rw [rsW_o (by decide), rsW_o (by decide)] at hq5
        rw [show rsW w L 95 33 = 0 from qup_k] at hd5
        refine qG.br (P := (1 : Int) = 0) (pc1 := 92) (pc2 := 94) (st1 := []) rfl (fun h7 => ?_) (fun h7 => ?_)
        · exact absurd h7 (by decide)
        · skip
          refine qG.blk 3 (pc' := 99) (ls' := [(2, 95)]) (st' := [(0, w5 95 23), (2, 95)]) (w' := w5) (n' := 142) rfl ?_
          rw [show w5 95 23 = ((L : Nat) : Int) from (hP5.2.1.2 95 23 (fun _ => rfl)).trans ((rsW_o (by decide)).trans hL.1)]
          refine qG.blk 2 (pc' := 101) (ls' := [(2, 95)]) (st' := [(0, wrp (((L : Nat) : Int) + 1)), (2, 95)]) (w' := w5) (n' := 142) rfl ?_
          rw [show wrp (((L : Nat) : Int) + 1) = ((L + 1 : Nat) : Int) from wrp_id (by omega) (by omega)]
          refine qG.blk 3 (pc' := 108) (ls' := [(2, 95)]) (st' := [(2, w5 95 15)]) (w' := (qup w5 95 23 ((L + 1 : Nat) : Int))) (n' := 142) rfl ?_
          rw [show w5 95 15 = 109 from zref hI5.1 rfl rfl]
          refine qG.blk 4 (pc' := 116) (ls' := [(2, 95)]) (st' := [(0, w5 95 24), (0, ((L + 1 : Nat) : Int)), (2, 109)]) (w' := (qup w5 95 23 ((L + 1 : Nat) : Int))) (n' := 142) rfl ?_
          refine qG.ar (P := 0 ≤ ((L + 1 : Nat) : Int) ∧ ((L + 1 : Nat) : Int) < ((21 : Nat) : Int)) (P2 := 0 < (109 : Int) ∧ (109 : Int) ≤ ((142 : Nat) : Int)) (pc' := 117) (ls' := [(2, 95)]) (st' := []) (w' := (qup (qup w5 95 23 ((L + 1 : Nat) : Int)) 109 (L + 1) (w5 95 24))) (n' := 142) rfl (by omega) (by decide) ?_
          refine qG.blk 2 (pc' := 121) (ls' := [(2, 95)]) (st' := [(0, 159), (2, 95)]) (w' := (qup (qup w5 95 23 ((L + 1 : Nat) : Int)) 109 (L + 1) (w5 95 24))) (n' := 142) rfl ?_
          have hPw8 : PI (reW w5 L) := reW_P hI5 (by omega)
          show qG none (d + 1) 244 121 [(2, 95)] [(0, 159), (2, 95)] (reW w5 L) 142 Q9
          refine qG.call (t := 233) (na := 2) (sk := 1) (md := 1) (ls1 := [(2, 95), (0, 159)]) (r1 := []) rfl rfl rfl rfl rfl (K_need2 (by omega) 159 (by decide) (reW w5 L) hPw8) ?_
          rintro _ w8 _ ⟨rfl, ⟨rfl, hA8⟩ | ⟨rfl, hS8, hg8, he8⟩⟩
          · skip
            show qG none (d + 1) 244 124 [(2, 95)] [(0, 0)] w8 142 Q9
            have hBAD := (((hAB0.tr hP5.2.1 (by decide +kernel)).tr (reW_A hI5.1 (by omega)) (by decide +kernel)).tr hA8 (by decide +kernel))
            refine qG.ret rfl (by first | rfl | exact decide_eq_true (by omega)) ?_
            subst hQ9
            exact ⟨rfl, .inl ⟨rfl, hBAD⟩⟩
          · skip
            show qG none (d + 1) 244 124 [(2, 95)] [(0, 1)] w8 142 Q9
            have hAW := (((hAB0.tr hP5.2.1 (by decide +kernel)).tr (reW_A hI5.1 (by omega)) (by decide +kernel)).tr hS8.2.1 (by decide +kernel))
            have hRL := (RsL.next hL h78 (hP5.cast (by omega) (by omega) (Int.le_refl _) rfl)).keep hS8.2.1 he8 hS8.2.2.2.2.2.2.2.1
            have hPI : PI w8 := hS8.2.2.1
            rw [reW_o (by decide)] at hg8 he8
            refine qG.ret rfl (by first | rfl | exact decide_eq_true (by omega)) ?_
            subst hQ9
            exact ⟨rfl, .inr ⟨rfl, hAW, hPI, hRL, by omega, by omega, by omega⟩⟩
theorem K_aReason {d : Nat} (hd : 40 ≤ d) (L : Nat) (w : qW) (hP : PI w) (hD : w 95 24 ≤ w 95 28) (hL : RsL w L) (hL20 : L ≤ 20) : qG none d 244 0 [(2, 95)] [] w 142 (fun (r : qV) (w1 : qW) (n1 : Nat) => n1 = 142 ∧ ((r = (0, 0) ∧ AW TM w w1) ∨ (r = (0, 1) ∧ AW TM w w1 ∧ PI w1 ∧ RsL w1 (L + 1) ∧ w1 95 24 ≤ w1 95 28 ∧ w 95 28 + 1 ≤ w1 95 28 ∧ L + 1 ≤ 20))) := by
  generalize hQ9 : (fun (r : qV) (w1 : qW) (n1 : Nat) => n1 = 142 ∧ ((r = (0, 0) ∧ AW TM w w1) ∨ (r = (0, 1) ∧ AW TM w w1 ∧ PI w1 ∧ RsL w1 (L + 1) ∧ w1 95 24 ≤ w1 95 28 ∧ w 95 28 + 1 ≤ w1 95 28 ∧ L + 1 ≤ 20))) = Q9
  have hb0 := hP.b
  obtain ⟨d, rfl⟩ : ∃ d9, d = d9 + 1 := ⟨d - 1, by omega⟩
  refine qG.blk 3 (pc' := 6) (ls' := [(2, 95)]) (st' := [(0, 7), (0, w 95 27)]) (w' := w) (n' := 142) rfl ?_
  refine qG.br (P := w 95 27 = 7) (pc1 := 24) (pc2 := 9) (st1 := []) rfl (fun h7 => ?_) (fun h7 => ?_)
  · skip
    refine qG.blk 2 (pc' := 28) (ls' := [(2, 95)]) (st' := [(0, w 95 23)]) (w' := w) (n' := 142) rfl ?_
    rw [show w 95 23 = ((L : Nat) : Int) from hL.1]
    refine qG.blk 1 (pc' := 30) (ls' := [(2, 95)]) (st' := [(0, 20), (0, ((L : Nat) : Int))]) (w' := w) (n' := 142) rfl ?_
    refine qG.br (P := ((L : Nat) : Int) = 20) (pc1 := 33) (pc2 := 39) (st1 := []) rfl (fun h20 => ?_) (fun h20 => ?_)
    · skip
      refine qG.blk 2 (pc' := 35) (ls' := [(2, 95)]) (st' := [(0, 3), (2, 95)]) (w' := w) (n' := 142) rfl ?_
      refine qG.call (t := 232) (na := 2) (sk := 1) (md := 1) (ls1 := [(2, 95), (0, 3)]) (r1 := []) rfl rfl rfl rfl rfl (K_bad (by omega) 3 w hP.1 (by decide) (by decide)) ?_
      rintro _ _ _ ⟨rfl, rfl, rfl⟩
      show qG none (d + 1) 244 38 [(2, 95)] [(0, 0)] (qup (qup w 95 30 3) 95 31 (w 95 28)) 142 Q9
      refine qG.ret rfl (by first | rfl | exact decide_eq_true (by omega)) ?_
      subst hQ9
      exact ⟨rfl, .inl ⟨rfl, (AW.rf hP.1).tr (AW.bad (PS.rf hP).2.1 (by decide) (by decide)) (by decide +kernel)⟩⟩
    · skip
      refine qG.blk 2 (pc' := 43) (ls' := [(2, 95)]) (st' := [(2, w 95 14)]) (w' := w) (n' := 142) rfl ?_
      rw [show w 95 14 = 108 from zref hP.1 rfl rfl]
      refine qG.blk 2 (pc' := 47) (ls' := [(2, 95)]) (st' := [(0, w 95 23), (2, 108)]) (w' := w) (n' := 142) rfl ?_
      rw [show w 95 23 = ((L : Nat) : Int) from hL.1]
      refine qG.blk 4 (pc' := 54) (ls' := [(2, 95)]) (st' := [(0, wrp ((w 95 27) - 7)), (0, ((L : Nat) : Int)), (2, 108)]) (w' := w) (n' := 142) rfl ?_
      rw [show wrp ((w 95 27) - 7) = w 95 27 - 7 from wrp_id (by omega) (by omega)]
      refine qG.ar (P := 0 ≤ ((L : Nat) : Int) ∧ ((L : Nat) : Int) < ((40 : Nat) : Int)) (P2 := 0 < (108 : Int) ∧ (108 : Int) ≤ ((142 : Nat) : Int)) (pc' := 55) (ls' := [(2, 95)]) (st' := []) (w' := (qup w 108 L (w 95 27 - 7))) (n' := 142) rfl (by omega) (by decide) ?_
      refine qG.blk 2 (pc' := 59) (ls' := [(2, 95)]) (st' := [(2, w 95 15)]) (w' := (qup w 108 L (w 95 27 - 7))) (n' := 142) rfl ?_
      rw [show w 95 15 = 109 from zref hP.1 rfl rfl]
      refine qG.blk 2 (pc' := 63) (ls' := [(2, 95)]) (st' := [(0, w 95 23), (2, 109)]) (w' := (qup w 108 L (w 95 27 - 7))) (n' := 142) rfl ?_
      rw [show w 95 23 = ((L : Nat) : Int) from hL.1]
      refine qG.blk 2 (pc' := 67) (ls' := [(2, 95)]) (st' := [(0, w 95 24), (0, ((L : Nat) : Int)), (2, 109)]) (w' := (qup w 108 L (w 95 27 - 7))) (n' := 142) rfl ?_
      refine qG.ar (P := 0 ≤ ((L : Nat) : Int) ∧ ((L : Nat) : Int) < ((21 : Nat) : Int)) (P2 := 0 < (109 : Int) ∧ (109 : Int) ≤ ((142 : Nat) : Int)) (pc' := 68) (ls' := [(2, 95)]) (st' := []) (w' := (qup (qup w 108 L (w 95 27 - 7)) 109 L (w 95 24))) (n' := 142) rfl (by omega) (by decide) ?_
      refine qG.blk 3 (pc' := 73) (ls' := [(2, 95)]) (st' := []) (w' := (qup (qup (qup w 108 L (w 95 27 - 7)) 109 L (w 95 24)) 95 33 0)) (n' := 142) rfl ?_
      show qG none (d + 1) 244 73 [(2, 95)] [] (rsW w L) 142 Q9
      subst hQ9
      exact K_aReasonB (by omega) L w hP hD hL (by omega) (by omega)
  · skip
    refine qG.blk 3 (pc' := 15) (ls' := [(2, 95)]) (st' := [(0, 8), (0, w 95 27)]) (w' := w) (n' := 142) rfl ?_
    refine qG.br (P := w 95 27 = 8) (pc1 := 24) (pc2 := 18) (st1 := []) rfl (fun h8 => ?_) (fun h8 => ?_)
    · skip
      refine qG.blk 2 (pc' := 28) (ls' := [(2, 95)]) (st' := [(0, w 95 23)]) (w' := w) (n' := 142) rfl ?_
      rw [show w 95 23 = ((L : Nat) : Int) from hL.1]
      refine qG.blk 1 (pc' := 30) (ls' := [(2, 95)]) (st' := [(0, 20), (0, ((L : Nat) : Int))]) (w' := w) (n' := 142) rfl ?_
      refine qG.br (P := ((L : Nat) : Int) = 20) (pc1 := 33) (pc2 := 39) (st1 := []) rfl (fun h20 => ?_) (fun h20 => ?_)
      · skip
        refine qG.blk 2 (pc' := 35) (ls' := [(2, 95)]) (st' := [(0, 3), (2, 95)]) (w' := w) (n' := 142) rfl ?_
        refine qG.call (t := 232) (na := 2) (sk := 1) (md := 1) (ls1 := [(2, 95), (0, 3)]) (r1 := []) rfl rfl rfl rfl rfl (K_bad (by omega) 3 w hP.1 (by decide) (by decide)) ?_
        rintro _ _ _ ⟨rfl, rfl, rfl⟩
        show qG none (d + 1) 244 38 [(2, 95)] [(0, 0)] (qup (qup w 95 30 3) 95 31 (w 95 28)) 142 Q9
        refine qG.ret rfl (by first | rfl | exact decide_eq_true (by omega)) ?_
        subst hQ9
        exact ⟨rfl, .inl ⟨rfl, (AW.rf hP.1).tr (AW.bad (PS.rf hP).2.1 (by decide) (by decide)) (by decide +kernel)⟩⟩
      · skip
        refine qG.blk 2 (pc' := 43) (ls' := [(2, 95)]) (st' := [(2, w 95 14)]) (w' := w) (n' := 142) rfl ?_
        rw [show w 95 14 = 108 from zref hP.1 rfl rfl]
        refine qG.blk 2 (pc' := 47) (ls' := [(2, 95)]) (st' := [(0, w 95 23), (2, 108)]) (w' := w) (n' := 142) rfl ?_
        rw [show w 95 23 = ((L : Nat) : Int) from hL.1]
        refine qG.blk 4 (pc' := 54) (ls' := [(2, 95)]) (st' := [(0, wrp ((w 95 27) - 7)), (0, ((L : Nat) : Int)), (2, 108)]) (w' := w) (n' := 142) rfl ?_
        rw [show wrp ((w 95 27) - 7) = w 95 27 - 7 from wrp_id (by omega) (by omega)]
        refine qG.ar (P := 0 ≤ ((L : Nat) : Int) ∧ ((L : Nat) : Int) < ((40 : Nat) : Int)) (P2 := 0 < (108 : Int) ∧ (108 : Int) ≤ ((142 : Nat) : Int)) (pc' := 55) (ls' := [(2, 95)]) (st' := []) (w' := (qup w 108 L (w 95 27 - 7))) (n' := 142) rfl (by omega) (by decide) ?_
        refine qG.blk 2 (pc' := 59) (ls' := [(2, 95)]) (st' := [(2, w 95 15)]) (w' := (qup w 108 L (w 95 27 - 7))) (n' := 142) rfl ?_
        rw [show w 95 15 = 109 from zref hP.1 rfl rfl]
        refine qG.blk 2 (pc' := 63) (ls' := [(2, 95)]) (st' := [(0, w 95 23), (2, 109)]) (w' := (qup w 108 L (w 95 27 - 7))) (n' := 142) rfl ?_
        rw [show w 95 23 = ((L : Nat) : Int) from hL.1]
        refine qG.blk 2 (pc' := 67) (ls' := [(2, 95)]) (st' := [(0, w 95 24), (0, ((L : Nat) : Int)), (2, 109)]) (w' := (qup w 108 L (w 95 27 - 7))) (n' := 142) rfl ?_
        refine qG.ar (P := 0 ≤ ((L : Nat) : Int) ∧ ((L : Nat) : Int) < ((21 : Nat) : Int)) (P2 := 0 < (109 : Int) ∧ (109 : Int) ≤ ((142 : Nat) : Int)) (pc' := 68) (ls' := [(2, 95)]) (st' := []) (w' := (qup (qup w 108 L (w 95 27 - 7)) 109 L (w 95 24))) (n' := 142) rfl (by omega) (by decide) ?_
        refine qG.blk 3 (pc' := 73) (ls' := [(2, 95)]) (st' := []) (w' := (qup (qup (qup w 108 L (w 95 27 - 7)) 109 L (w 95 24)) 95 33 0)) (n' := 142) rfl ?_
        show qG none (d + 1) 244 73 [(2, 95)] [] (rsW w L) 142 Q9
        subst hQ9
        exact K_aReasonB (by omega) L w hP hD hL (by omega) (by omega)
    · skip
      refine qG.blk 2 (pc' := 20) (ls' := [(2, 95)]) (st' := [(0, 1), (2, 95)]) (w' := w) (n' := 142) rfl ?_
      refine qG.call (t := 232) (na := 2) (sk := 1) (md := 1) (ls1 := [(2, 95), (0, 1)]) (r1 := []) rfl rfl rfl rfl rfl (K_bad (by omega) 1 w hP.1 (by decide) (by decide)) ?_
      rintro _ _ _ ⟨rfl, rfl, rfl⟩
      show qG none (d + 1) 244 23 [(2, 95)] [(0, 0)] (qup (qup w 95 30 1) 95 31 (w 95 28)) 142 Q9
      refine qG.ret rfl (by first | rfl | exact decide_eq_true (by omega)) ?_
      subst hQ9
      exact ⟨rfl, .inl ⟨rfl, (AW.rf hP.1).tr (AW.bad (PS.rf hP).2.1 (by decide) (by decide)) (by decide +kernel)⟩⟩
