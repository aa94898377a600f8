/-! follow and hide -/
/-- behind g steps: how hiding stands -/
def FLW (N : Nat) (P : Nat → Int) (M : Nat → Nat → Bool) (V : Nat → Int) (t S : Nat) (fl s2 : Int) (w1 : qW) : Prop := (fl = -1 ∧ 0 < N ∧ s2 = (t : Int) ∧ HOLD w1 27 (hz N P M V t) ∧ ¬ hzE (hz N P M V t)) ∨ (HOLD w1 27 (fun _ => false) ∧ ((N = 0 ∧ fl = 0) ∨ (0 < N ∧ ∃ f : Nat, f < S ∧ fl = (f : Int) ∧ ¬ hzE (hz N P M V f) ∧ hzE (hz N P M V (f + 1)))))
theorem ctb_hold {w : qW} {f : Nat → Bool} (h : HOLD w 27 f) : ctb (fun j => sb w 27 j) 192 = ctb f 192 := ctb_congr (fun i hi => h i hi)
theorem ctb_N {f : Nat → Bool} {N m : Nat} (hN : N ≤ m) (hf : ∀ j, ¬ j < N → f j = false) : ctb f m = ctb f N := by
  obtain ⟨k, rfl⟩ : ∃ k, m = N + k := ⟨m - N, by omega⟩
  rw [ctb_add, ctb_0.mpr (fun i _ => hf (N + i) (by omega)), Nat.add_zero]
theorem FLW.sp {N : Nat} {P : Nat → Int} {M : Nat → Nat → Bool} {V : Nat → Int} {S : Nat} {fl s2 : Int} {w1 : qW} (hN : N ≤ 180) (t : Nat) (ht : fl = -1 → t = S) (h : FLW N P M V t S fl s2 w1) : HSP N P M V S fl ((ctb (fun j => sb w1 27 j) 192 : Nat) : Int) := by
  rcases h with ⟨a, a2, -, b, c⟩ | ⟨b, ⟨c, d⟩ | ⟨c, f, d, e, g, g2⟩⟩
  · rw [ht a] at b c
    refine .inr ⟨a2, .inl ⟨a, ?_, c⟩⟩
    rw [ctb_hold b, ctb_N (show N ≤ 192 by omega) (fun j hj => hz_N hj)]
  · refine .inl ⟨c, d, ?_⟩
    rw [ctb_hold b, ctb_0.mpr (fun _ _ => rfl)]; rfl
  · refine .inr ⟨c, .inr ⟨f, d, e, ?_, g, g2⟩⟩
    rw [ctb_hold b, ctb_0.mpr (fun _ _ => rfl)]; rfl
theorem hz0_E {N : Nat} {P : Nat → Int} {M : Nat → Nat → Bool} {V : Nat → Int} (h : 0 < N) : ¬ hzE (hz N P M V 0) := fun z => by
  have := z 0
  rw [show hz N P M V 0 0 = decide (0 < N) from rfl, decide_eq_true h] at this
  cases this
theorem qand_z0 (x : Int) : qand x 0 = 0 := by
  have := qand_16 (a := x) (b := 0) ⟨Int.le_refl 0, by decide⟩
  rw [qand_c] at this ⊢
  have h := qand_hi (x := x) (y := 0) (d := 0) (Int.le_refl 0) (Int.le_refl 0) (by decide)
  have h1 : (0 : Int) ≤ qand x 0 := h.1
  have h2 : qand x 0 ≤ (0 : Int) := h.2
  rw [qand_c]; omega
theorem K_flwB4 {d : Nat} (hd : 4 ≤ d) (N : Nat) (P : Nat → Int) (M : Nat → Nat → Bool) (V : Nat → Int) (L : Nat) (hL : L ≤ 40) (w : qW) (hI : yInv zgf zga zra zSp w) (hs : w 4 2 = (L : Int)) (hKW : KNw (w 5) (w 6) L) (hT : CTB N P M w) (hVV : ∀ g, g < L → ∀ u, u < dN (w 5 g) (w 6 g) → V (scF (w 5) (w 6) g + u) = w 7 g) (l1 : qV) (l3 : Int) : qG none d 35 9 [(2, 23), l1, (2, 4), (0, l3), (9, 0), (9, 0), (9, 0)] [] w 142 (fun (r : qV) (w1 : qW) (n1 : Nat) => r = (9, 0) ∧ n1 = 142 ∧ yInv zgf zga zra zSp w1 ∧ (∀ q j, ¬ (27 ≤ q ∧ q ≤ 29) → ¬ (q = 23 ∧ 4 ≤ j ∧ j ≤ 5) → w1 q j = w q j) ∧ HSP N P M V (scF (w 5) (w 6) L) (w1 23 4) (w1 23 5)) := by
  generalize hQ9 : (fun (r : qV) (w1 : qW) (n1 : Nat) => r = (9, 0) ∧ n1 = 142 ∧ yInv zgf zga zra zSp w1 ∧ (∀ q j, ¬ (27 ≤ q ∧ q ≤ 29) → ¬ (q = 23 ∧ 4 ≤ j ∧ j ≤ 5) → w1 q j = w q j) ∧ HSP N P M V (scF (w 5) (w 6) L) (w1 23 4) (w1 23 5)) = Q9
  obtain ⟨d, rfl⟩ : ∃ d9, d = d9 + 1 := ⟨d - 1, by omega⟩
  refine qG.blk 2 (pc' := 13) (ls' := [(2, 23), l1, (2, 4), (0, l3), (9, 0), (9, 0), (9, 0)]) (st' := [(2, w 23 0)]) (w' := w) (n' := 142) rfl ?_
  rw [show w 23 0 = 24 from zref hI rfl rfl]
  refine qG.blk 3 (pc' := 18) (ls' := [(2, 23), l1, (2, 4), (0, l3), (9, 0), (9, 0), (9, 0)]) (st' := [(2, w 23 1), (0, 0), (2, 24)]) (w' := w) (n' := 142) rfl ?_
  rw [show w 23 1 = 27 from zref hI rfl rfl]
  refine qG.call (t := 103) (na := 3) (sk := 1) (md := 1) (ls1 := [(2, 24), (0, 0), (2, 27), (9, 0), (9, 0)]) (r1 := []) rfl rfl rfl rfl rfl (K_unseen27 (by omega) 0 N hT.1 w hI hT.2.1) ?_
  rintro _ w1 _ ⟨rfl, rfl, hR1⟩
  have h1f : (∀ q j, ¬ (27 ≤ q ∧ q ≤ 29) → ¬ (q = 23 ∧ 4 ≤ j ∧ j ≤ 5) → w1 q j = w q j) := fun q j a b => hR1.2.1 q j (by omega)
  have hI1 := hR1.2.2
  have h127 : HOLD w1 27 (hz N P M V 0) := fun j hj => by rw [show sb w1 27 j = (decide (j < N) && decide (qand (w 25 j) 0 = 0)) from hR1.1 j hj, qand_z0, decide_eq_true rfl, Bool.and_true]; rfl
  show qG none (d + 1) 35 21 [(2, 23), l1, (2, 4), (0, l3), (9, 0), (9, 0), (9, 0)] [] w1 142 Q9
  refine qG.blk 3 (pc' := 26) (ls' := [(2, 23), l1, (2, 4), (0, l3), (9, 0), (9, 0), (9, 0)]) (st' := [(2, w1 23 1), (2, 23)]) (w' := w1) (n' := 142) rfl ?_
  rw [show w1 23 1 = 27 from (h1f 23 1 (by decide) (by omega)).trans (zref hI rfl rfl)]
  refine qG.call (t := 51) (na := 1) (sk := 0) (md := 0) (ls1 := [(2, 27)]) (r1 := [(2, 23)]) rfl rfl rfl rfl rfl (K_isEmpty27 (by omega) w1) ?_
  rintro _ w7 _ ⟨rfl, hw7, rfl⟩
  rw [hw7]
  show qG none (d + 1) 35 29 [(2, 23), l1, (2, 4), (0, l3), (9, 0), (9, 0), (9, 0)] [(0, (if ctb (fun j => sb w1 27 j) 192 = 0 then 1 else 0)), (2, 23)] w1 142 Q9
  refine qG.br (P := (if ctb (fun j => sb w1 27 j) 192 = 0 then 1 else 0) = 0) (pc1 := 36) (pc2 := 32) (st1 := [(2, 23)]) rfl (fun hem => ?_) (fun hem => ?_)
  · skip
    have hNp : 0 < N := by
      by_cases z : N = 0
      · have y : ctb (fun j => sb w1 27 j) 192 = 0 := ctb_0.mpr (fun j hj => (h127 j hj).trans (by show decide (j < N) = false; exact decide_eq_false (by omega)))
        rw [if_pos y] at hem; exact absurd hem (by decide)
      · omega
    refine qG.blk 6 (pc' := 46) (ls' := [(2, 23), l1, (2, 4), (0, l3), (0, 0), (0, 0), (9, 0)]) (st' := []) (w' := (qup w1 23 4 (-1))) (n' := 142) rfl ?_
    obtain ⟨w2, hw2⟩ : ∃ z : qW, z = (qup w1 23 4 (-1)) := ⟨_, rfl⟩
    rw [← hw2]
    have hI2 : yInv zgf zga zra zSp w2 := by rw [hw2]; exact zup_f hI1 (b := (-2147483648, 2147483647)) rfl rfl rfl ⟨by decide, by decide⟩
    have h2f : (∀ q j, ¬ (27 ≤ q ∧ q ≤ 29) → ¬ (q = 23 ∧ 4 ≤ j ∧ j ≤ 5) → w2 q j = w q j) := fun q j a b => by rw [hw2, qup_f (by omega)]; exact h1f q j a b
    have h24 : w2 23 4 = (-1) := by rw [hw2, qup_k]
    have h227 : HOLD w2 27 (hz N P M V 0) := fun j hj => by rw [show sb w2 27 j = sb w1 27 j from by unfold sb; rw [hw2, qup_nk (by decide)]]; exact h127 j hj
    have L46 : ∀ (m9 : Nat) (g : Nat) (s2 fl : Int) (wS : qW) (l6 : qV), L - g = m9 → (g ≤ L ∧ (∀ q j, ¬ (27 ≤ q ∧ q ≤ 29) → ¬ (q = 23 ∧ 4 ≤ j ∧ j ≤ 5) → wS q j = w q j) ∧ yInv zgf zga zra zSp wS ∧ wS 23 4 = fl ∧ FLW N P M V (scF (w 5) (w 6) g) (scF (w 5) (w 6) L) fl s2 wS) → qG none (d + 1) 35 46 [(2, 23), l1, (2, 4), (0, l3), (0, s2), (0, ((g : Nat) : Int)), l6] [] wS 142 Q9 := by
      intro m9
      induction m9 using Nat.strongRecOn with
      | ind m9 ih46 =>
      intro g s2 fl wS l6 hm46 hI46
      obtain ⟨hgL, hSf, hIS, hfl, hFL⟩ := hI46
      have hTS := hT.cg (w1 := wS) (fun q j h => hSf q j (by omega) (by omega))
      refine qG.blk 2 (pc' := 49) (ls' := [(2, 23), l1, (2, 4), (0, l3), (0, s2), (0, ((g : Nat) : Int)), l6]) (st' := [(2, 4), (0, ((g : Nat) : Int))]) (w' := wS) (n' := 142) rfl ?_
      refine qG.call (t := 110) (na := 1) (sk := 1) (md := 1) (ls1 := [(2, 4)]) (r1 := [(0, ((g : Nat) : Int))]) rfl rfl rfl rfl rfl (K_stepC4 (Nat.zero_le _) wS (x := ((L : Nat) : Int)) ((hSf 4 2 (by decide) (by omega)).trans hs)) ?_
      rintro _ w7 _ ⟨rfl, hw7, rfl⟩
      rw [hw7]
      show qG none (d + 1) 35 52 [(2, 23), l1, (2, 4), (0, l3), (0, s2), (0, ((g : Nat) : Int)), l6] [(0, ((L : Nat) : Int)), (0, ((g : Nat) : Int))] wS 142 Q9
      refine qG.br (P := ((g : Nat) : Int) < ((L : Nat) : Int)) (pc1 := 55) (pc2 := 126) (st1 := []) rfl (fun hgL2 => ?_) (fun hgL2 => ?_)
      · skip
        refine qG.blk 2 (pc' := 59) (ls' := [(2, 23), l1, (2, 4), (0, l3), (0, s2), (0, ((g : Nat) : Int)), l6]) (st' := [(0, wS 23 4)]) (w' := wS) (n' := 142) rfl ?_
        rw [show wS 23 4 = fl from hfl]
        refine qG.blk 1 (pc' := 60) (ls' := [(2, 23), l1, (2, 4), (0, l3), (0, s2), (0, ((g : Nat) : Int)), l6]) (st' := [(0, (-1)), (0, fl)]) (w' := wS) (n' := 142) rfl ?_
        refine qG.br (P := fl = (-1)) (pc1 := 63) (pc2 := 126) (st1 := []) rfl (fun hf60 => ?_) (fun hf60 => ?_)
        · skip
          obtain ⟨-, hNp, hs2, hH27, hnE⟩ : fl = -1 ∧ 0 < N ∧ s2 = ((scF (w 5) (w 6) g : Nat) : Int) ∧ HOLD wS 27 (hz N P M V (scF (w 5) (w 6) g)) ∧ ¬ hzE (hz N P M V (scF (w 5) (w 6) g)) := by
            rcases hFL with z | ⟨-, ⟨-, z⟩ | ⟨-, f, -, z, -⟩⟩
            · exact z
            · omega
            · omega
          have hdn : (if w 5 g = 2 then w 6 g else 1) = ((dN (w 5 g) (w 6 g) : Nat) : Int) := by have z := sc_s hKW (show g < L by omega); have y : ((scF (w 5) (w 6) (g + 1) : Nat) : Int) = ((scF (w 5) (w 6) g : Nat) : Int) + ((dN (w 5 g) (w 6 g) : Nat) : Int) := rfl; omega
          have hd20 : dN (w 5 g) (w 6 g) ≤ 20 := by have z := sc_le hKW (g + 1) (by omega); have q := hKW g (by omega); by_cases y : w 5 g = 2; rw [if_pos y] at hdn; have := q y; omega; rw [if_neg y] at hdn; omega
          have hsc := sc_le hKW g (by omega)
          refine qG.blk 2 (pc' := 67) (ls' := [(2, 23), l1, (2, 4), (0, l3), (0, s2), (0, ((g : Nat) : Int)), l6]) (st' := [(2, wS 23 0)]) (w' := wS) (n' := 142) rfl ?_
          rw [show wS 23 0 = 24 from (hSf 23 0 (by decide) (by omega)).trans (zref hI rfl rfl)]
          refine qG.blk 2 (pc' := 70) (ls' := [(2, 23), l1, (2, 4), (0, l3), (0, s2), (0, ((g : Nat) : Int)), l6]) (st' := [(0, ((g : Nat) : Int)), (2, 4), (2, 24)]) (w' := wS) (n' := 142) rfl ?_
          refine qG.call (t := 115) (na := 2) (sk := 1) (md := 1) (ls1 := [(2, 4), (0, ((g : Nat) : Int))]) (r1 := [(2, 24)]) rfl rfl rfl rfl rfl (K_vwOf4 (Nat.zero_le _) g L hL wS hIS ((hSf 4 2 (by decide) (by omega)).trans hs) (by omega)) ?_
          rintro _ w7 _ ⟨rfl, hw7, rfl⟩
          rw [hw7, hSf 7 g (by decide) (by omega)]
          show qG none (d + 1) 35 73 [(2, 23), l1, (2, 4), (0, l3), (0, s2), (0, ((g : Nat) : Int)), l6] [(0, w 7 g), (2, 24)] wS 142 Q9
          refine qG.blk 2 (pc' := 77) (ls' := [(2, 23), l1, (2, 4), (0, l3), (0, s2), (0, ((g : Nat) : Int)), l6]) (st' := [(2, wS 23 3), (0, w 7 g), (2, 24)]) (w' := wS) (n' := 142) rfl ?_
          rw [show wS 23 3 = 29 from (hSf 23 3 (by decide) (by omega)).trans (zref hI rfl rfl)]
          refine qG.call (t := 103) (na := 3) (sk := 1) (md := 1) (ls1 := [(2, 24), (0, w 7 g), (2, 29), (9, 0), (9, 0)]) (r1 := []) rfl rfl rfl rfl rfl (K_unseen29 (by omega) (w 7 g) N hT.1 wS hIS (hTS.2.1)) ?_
          rintro _ wU _ ⟨rfl, rfl, hRU⟩
          have hIU := hRU.2.2
          have hUf : (∀ q j, ¬ (27 ≤ q ∧ q ≤ 29) → ¬ (q = 23 ∧ 4 ≤ j ∧ j ≤ 5) → wU q j = w q j) := fun q j a b => (hRU.2.1 q j (by omega)).trans (hSf q j a b)
          have hTU := hTS.cg (w1 := wU) (fun q j h => hRU.2.1 q j (by omega))
          have hU27 : HOLD wU 27 (hz N P M V (scF (w 5) (w 6) g)) := fun j hj => by rw [hRU.o (by decide)]; exact hH27 j hj
          have hU29 : HOLD wU 29 (fun j => decide (j < N) && decide (qand (P j) (w 7 g) = 0)) := fun j hj => by
            rw [show sb wU 29 j = (decide (j < N) && decide (qand (wS 25 j) (w 7 g) = 0)) from hRU.1 j hj]
            show _ = (decide (j < N) && decide (qand (P j) (w 7 g) = 0))
            by_cases hjN : j < N
            · rw [hTS.2.2.1 j hjN]
            · rw [decide_eq_false hjN, Bool.false_and, Bool.false_and]
          show qG none (d + 1) 35 80 [(2, 23), l1, (2, 4), (0, l3), (0, s2), (0, ((g : Nat) : Int)), l6] [] wU 142 Q9
          refine qG.blk 3 (pc' := 84) (ls' := [(2, 23), l1, (2, 4), (0, l3), (0, s2), (0, ((g : Nat) : Int)), l6]) (st' := [(0, ((g : Nat) : Int)), (2, 4), (2, 23)]) (w' := wU) (n' := 142) rfl ?_
          refine qG.call (t := 114) (na := 2) (sk := 1) (md := 1) (ls1 := [(2, 4), (0, ((g : Nat) : Int))]) (r1 := [(2, 23)]) rfl rfl rfl rfl rfl (K_secs4 (Nat.zero_le _) g L hL wU hIU ((hUf 4 2 (by decide) (by omega)).trans hs) (by omega)) ?_
          rintro _ w7 _ ⟨rfl, hw7, rfl⟩
          rw [hw7, hUf 5 g (by decide) (by omega), hUf 6 g (by decide) (by omega), show (if w 5 g = 2 then w 6 g else 1) = ((dN (w 5 g) (w 6 g) : Nat) : Int) from hdn]
          show qG none (d + 1) 35 87 [(2, 23), l1, (2, 4), (0, l3), (0, s2), (0, ((g : Nat) : Int)), l6] [(0, ((dN (w 5 g) (w 6 g) : Nat) : Int)), (2, 23)] wU 142 Q9
          refine qG.call (t := 36) (na := 2) (sk := 1) (md := 1) (ls1 := [(2, 23), (0, ((dN (w 5 g) (w 6 g) : Nat) : Int)), (9, 0)]) (r1 := []) rfl rfl rfl rfl rfl (K_stayU (by omega) N P M V (scF (w 5) (w 6) g) (dN (w 5 g) (w 6 g)) (w 7 g) (by omega) (fun u hu => hVV g (by omega) u hu) wU hIU hTU hU27 hU29 hnE) ?_
          rintro _ wX _ ⟨rfl, hX9, hIX, ⟨rfl, hX27, hXE⟩ | ⟨e, he, rfl, hX27, hXE, hXE2⟩⟩ <;> have hXf : (∀ q j, ¬ (27 ≤ q ∧ q ≤ 29) → ¬ (q = 23 ∧ 4 ≤ j ∧ j ≤ 5) → wX q j = w q j) := fun q j a b => (hX9 q j (by omega) (by omega)).trans (hUf q j a b)
          · skip
            show qG none (d + 1) 35 90 [(2, 23), l1, (2, 4), (0, l3), (0, s2), (0, ((g : Nat) : Int)), l6] [(0, ((dN (w 5 g) (w 6 g) : Nat) : Int))] wX 142 Q9
            refine qG.blk 4 (pc' := 97) (ls' := [(2, 23), l1, (2, 4), (0, l3), (0, s2), (0, ((g : Nat) : Int)), (0, ((dN (w 5 g) (w 6 g) : Nat) : Int))]) (st' := [(0, wrp (s2 + ((dN (w 5 g) (w 6 g) : Nat) : Int)))]) (w' := wX) (n' := 142) rfl ?_
            rw [show wrp (s2 + ((dN (w 5 g) (w 6 g) : Nat) : Int)) = s2 + ((dN (w 5 g) (w 6 g) : Nat) : Int) from wrp_id (by omega) (by omega)]
            refine qG.blk 5 (pc' := 105) (ls' := [(2, 23), l1, (2, 4), (0, l3), (0, s2 + ((dN (w 5 g) (w 6 g) : Nat) : Int)), (0, ((g : Nat) : Int)), (0, ((dN (w 5 g) (w 6 g) : Nat) : Int))]) (st' := [(0, ((g : Nat) : Int)), (2, 4), (0, ((dN (w 5 g) (w 6 g) : Nat) : Int)), (2, 23)]) (w' := wX) (n' := 142) rfl ?_
            refine qG.call (t := 114) (na := 2) (sk := 1) (md := 1) (ls1 := [(2, 4), (0, ((g : Nat) : Int))]) (r1 := [(0, ((dN (w 5 g) (w 6 g) : Nat) : Int)), (2, 23)]) rfl rfl rfl rfl rfl (K_secs4 (Nat.zero_le _) g L hL wX hIX ((hXf 4 2 (by decide) (by omega)).trans hs) (by omega)) ?_
            rintro _ w7 _ ⟨rfl, hw7, rfl⟩
            rw [hw7, hXf 5 g (by decide) (by omega), hXf 6 g (by decide) (by omega), show (if w 5 g = 2 then w 6 g else 1) = ((dN (w 5 g) (w 6 g) : Nat) : Int) from hdn]
            show qG none (d + 1) 35 108 [(2, 23), l1, (2, 4), (0, l3), (0, s2 + ((dN (w 5 g) (w 6 g) : Nat) : Int)), (0, ((g : Nat) : Int)), (0, ((dN (w 5 g) (w 6 g) : Nat) : Int))] [(0, ((dN (w 5 g) (w 6 g) : Nat) : Int)), (0, ((dN (w 5 g) (w 6 g) : Nat) : Int)), (2, 23)] wX 142 Q9
            refine qG.br (P := ((dN (w 5 g) (w 6 g) : Nat) : Int) < ((dN (w 5 g) (w 6 g) : Nat) : Int)) (pc1 := 111) (pc2 := 116) (st1 := [(2, 23)]) rfl (fun h108 => ?_) (fun h108 => ?_)
            · skip
              refine qG.blk 4 (pc' := 123) (ls' := [(2, 23), l1, (2, 4), (0, l3), (0, s2 + ((dN (w 5 g) (w 6 g) : Nat) : Int)), (0, wrp (((g : Nat) : Int) + 1)), (0, ((dN (w 5 g) (w 6 g) : Nat) : Int))]) (st' := []) (w' := (qup wX 23 4 (s2 + ((dN (w 5 g) (w 6 g) : Nat) : Int)))) (n' := 142) rfl ?_
              rw [show wrp (((g : Nat) : Int) + 1) = ((g + 1 : Nat) : Int) from wrp_id (by omega) (by omega)]
              refine qG.blk 1 (pc' := 46) (ls' := [(2, 23), l1, (2, 4), (0, l3), (0, s2 + ((dN (w 5 g) (w 6 g) : Nat) : Int)), (0, ((g + 1 : Nat) : Int)), (0, ((dN (w 5 g) (w 6 g) : Nat) : Int))]) (st' := []) (w' := (qup wX 23 4 (s2 + ((dN (w 5 g) (w 6 g) : Nat) : Int)))) (n' := 142) rfl ?_
              exact absurd h108 (by omega)
            · skip
              refine qG.blk 3 (pc' := 123) (ls' := [(2, 23), l1, (2, 4), (0, l3), (0, s2 + ((dN (w 5 g) (w 6 g) : Nat) : Int)), (0, wrp (((g : Nat) : Int) + 1)), (0, ((dN (w 5 g) (w 6 g) : Nat) : Int))]) (st' := []) (w' := (qup wX 23 4 (-1))) (n' := 142) rfl ?_
              rw [show wrp (((g : Nat) : Int) + 1) = ((g + 1 : Nat) : Int) from wrp_id (by omega) (by omega)]
              refine qG.blk 1 (pc' := 46) (ls' := [(2, 23), l1, (2, 4), (0, l3), (0, s2 + ((dN (w 5 g) (w 6 g) : Nat) : Int)), (0, ((g + 1 : Nat) : Int)), (0, ((dN (w 5 g) (w 6 g) : Nat) : Int))]) (st' := []) (w' := (qup wX 23 4 (-1))) (n' := 142) rfl ?_
              obtain ⟨wN, hwN⟩ : ∃ z : qW, z = (qup wX 23 4 (-1)) := ⟨_, rfl⟩
              rw [← hwN]
              have hIN : yInv zgf zga zra zSp wN := by rw [hwN]; exact zup_f hIX (b := (-2147483648, 2147483647)) rfl rfl rfl ⟨by show (-2147483648 : Int) ≤ _; omega, by show _ ≤ (2147483647 : Int); omega⟩
              have hNf : (∀ q j, ¬ (27 ≤ q ∧ q ≤ 29) → ¬ (q = 23 ∧ 4 ≤ j ∧ j ≤ 5) → wN q j = w q j) := fun q j a b => by rw [hwN, qup_f (by omega)]; exact hXf q j a b
              have hN4 : wN 23 4 = (-1) := by rw [hwN, qup_k]
              have hN27 : ∀ j, sb wN 27 j = sb wX 27 j := fun j => by unfold sb; rw [hwN, qup_nk (by decide)]
              exact ih46 _ (by omega) (g + 1) (s2 + ((dN (w 5 g) (w 6 g) : Nat) : Int)) ((-1)) (wN) ((0, ((dN (w 5 g) (w 6 g) : Nat) : Int))) rfl (⟨by omega, hNf, hIN, hN4, .inl ⟨rfl, by have z := hFL; rcases z with z | z; exact z.2.1; rcases z.2 with z | z; omega; exact z.1, by show _ = ((scF (w 5) (w 6) g + dN (w 5 g) (w 6 g) : Nat) : Int); omega, fun j hj => (hN27 j).trans (hX27 j hj), hXE⟩⟩)
          · skip
            show qG none (d + 1) 35 90 [(2, 23), l1, (2, 4), (0, l3), (0, s2), (0, ((g : Nat) : Int)), l6] [(0, ((e : Nat) : Int))] wX 142 Q9
            refine qG.blk 4 (pc' := 97) (ls' := [(2, 23), l1, (2, 4), (0, l3), (0, s2), (0, ((g : Nat) : Int)), (0, ((e : Nat) : Int))]) (st' := [(0, wrp (s2 + ((e : Nat) : Int)))]) (w' := wX) (n' := 142) rfl ?_
            rw [show wrp (s2 + ((e : Nat) : Int)) = s2 + ((e : Nat) : Int) from wrp_id (by omega) (by omega)]
            refine qG.blk 5 (pc' := 105) (ls' := [(2, 23), l1, (2, 4), (0, l3), (0, s2 + ((e : Nat) : Int)), (0, ((g : Nat) : Int)), (0, ((e : Nat) : Int))]) (st' := [(0, ((g : Nat) : Int)), (2, 4), (0, ((e : Nat) : Int)), (2, 23)]) (w' := wX) (n' := 142) rfl ?_
            refine qG.call (t := 114) (na := 2) (sk := 1) (md := 1) (ls1 := [(2, 4), (0, ((g : Nat) : Int))]) (r1 := [(0, ((e : Nat) : Int)), (2, 23)]) rfl rfl rfl rfl rfl (K_secs4 (Nat.zero_le _) g L hL wX hIX ((hXf 4 2 (by decide) (by omega)).trans hs) (by omega)) ?_
            rintro _ w7 _ ⟨rfl, hw7, rfl⟩
            rw [hw7, hXf 5 g (by decide) (by omega), hXf 6 g (by decide) (by omega), show (if w 5 g = 2 then w 6 g else 1) = ((dN (w 5 g) (w 6 g) : Nat) : Int) from hdn]
            show qG none (d + 1) 35 108 [(2, 23), l1, (2, 4), (0, l3), (0, s2 + ((e : Nat) : Int)), (0, ((g : Nat) : Int)), (0, ((e : Nat) : Int))] [(0, ((dN (w 5 g) (w 6 g) : Nat) : Int)), (0, ((e : Nat) : Int)), (2, 23)] wX 142 Q9
            refine qG.br (P := ((e : Nat) : Int) < ((dN (w 5 g) (w 6 g) : Nat) : Int)) (pc1 := 111) (pc2 := 116) (st1 := [(2, 23)]) rfl (fun h108 => ?_) (fun h108 => ?_)
            · skip
              refine qG.blk 4 (pc' := 123) (ls' := [(2, 23), l1, (2, 4), (0, l3), (0, s2 + ((e : Nat) : Int)), (0, wrp (((g : Nat) : Int) + 1)), (0, ((e : Nat) : Int))]) (st' := []) (w' := (qup wX 23 4 (s2 + ((e : Nat) : Int)))) (n' := 142) rfl ?_
              rw [show wrp (((g : Nat) : Int) + 1) = ((g + 1 : Nat) : Int) from wrp_id (by omega) (by omega)]
              refine qG.blk 1 (pc' := 46) (ls' := [(2, 23), l1, (2, 4), (0, l3), (0, s2 + ((e : Nat) : Int)), (0, ((g + 1 : Nat) : Int)), (0, ((e : Nat) : Int))]) (st' := []) (w' := (qup wX 23 4 (s2 + ((e : Nat) : Int)))) (n' := 142) rfl ?_
              obtain ⟨wN, hwN⟩ : ∃ z : qW, z = (qup wX 23 4 (s2 + ((e : Nat) : Int))) := ⟨_, rfl⟩
              rw [← hwN]
              have hIN : yInv zgf zga zra zSp wN := by rw [hwN]; exact zup_f hIX (b := (-2147483648, 2147483647)) rfl rfl rfl ⟨by show (-2147483648 : Int) ≤ _; omega, by show _ ≤ (2147483647 : Int); omega⟩
              have hNf : (∀ q j, ¬ (27 ≤ q ∧ q ≤ 29) → ¬ (q = 23 ∧ 4 ≤ j ∧ j ≤ 5) → wN q j = w q j) := fun q j a b => by rw [hwN, qup_f (by omega)]; exact hXf q j a b
              have hN4 : wN 23 4 = (s2 + ((e : Nat) : Int)) := by rw [hwN, qup_k]
              have hN27 : ∀ j, sb wN 27 j = sb wX 27 j := fun j => by unfold sb; rw [hwN, qup_nk (by decide)]
              exact ih46 _ (by omega) (g + 1) (s2 + ((e : Nat) : Int)) (s2 + ((e : Nat) : Int)) (wN) ((0, ((e : Nat) : Int))) rfl (⟨by omega, hNf, hIN, hN4, .inr ⟨fun j hj => (hN27 j).trans (hX27 j hj), .inr ⟨hNp, scF (w 5) (w 6) g + e, by have := scF_le (K := w 5) (N := w 6) (show g + 1 ≤ L by omega); have : scF (w 5) (w 6) (g + 1) = scF (w 5) (w 6) g + dN (w 5 g) (w 6 g) := rfl; omega, by omega, hXE, hXE2⟩⟩⟩)
            · skip
              refine qG.blk 3 (pc' := 123) (ls' := [(2, 23), l1, (2, 4), (0, l3), (0, s2 + ((e : Nat) : Int)), (0, wrp (((g : Nat) : Int) + 1)), (0, ((e : Nat) : Int))]) (st' := []) (w' := (qup wX 23 4 (-1))) (n' := 142) rfl ?_
              rw [show wrp (((g : Nat) : Int) + 1) = ((g + 1 : Nat) : Int) from wrp_id (by omega) (by omega)]
              refine qG.blk 1 (pc' := 46) (ls' := [(2, 23), l1, (2, 4), (0, l3), (0, s2 + ((e : Nat) : Int)), (0, ((g + 1 : Nat) : Int)), (0, ((e : Nat) : Int))]) (st' := []) (w' := (qup wX 23 4 (-1))) (n' := 142) rfl ?_
              exact absurd he (by omega)
        · skip
          refine qG.blk 3 (pc' := 131) (ls' := [(2, 23), l1, (2, 4), (0, l3), (0, s2), (0, ((g : Nat) : Int)), l6]) (st' := [(2, wS 23 1), (2, 23)]) (w' := wS) (n' := 142) rfl ?_
          rw [show wS 23 1 = 27 from (hSf 23 1 (by decide) (by omega)).trans (zref hI rfl rfl)]
          refine qG.call (t := 52) (na := 1) (sk := 0) (md := 0) (ls1 := [(2, 27), (9, 0), (9, 0), (9, 0), (9, 0), (9, 0), (9, 0)]) (r1 := [(2, 23)]) rfl rfl rfl rfl rfl (K_howM27 (by omega) wS) ?_
          rintro _ w7 _ ⟨rfl, hw7, rfl⟩
          rw [hw7]
          show qG none (d + 1) 35 134 [(2, 23), l1, (2, 4), (0, l3), (0, s2), (0, ((g : Nat) : Int)), l6] [(0, ((ctb (fun j => sb wS 27 j) 192 : Nat) : Int)), (2, 23)] wS 142 Q9
          refine qG.blk 1 (pc' := 137) (ls' := [(2, 23), l1, (2, 4), (0, l3), (0, s2), (0, ((g : Nat) : Int)), l6]) (st' := []) (w' := (qup wS 23 5 ((ctb (fun j => sb wS 27 j) 192 : Nat) : Int))) (n' := 142) rfl ?_
          refine qG.retv rfl rfl ?_
          subst hQ9
          refine ⟨rfl, rfl, zup_f hIS (b := (-2147483648, 2147483647)) rfl rfl rfl ⟨by show (-2147483648 : Int) ≤ _; omega, by have := ctbL_le (f := fun j => sb wS 27 j) 192; show _ ≤ (2147483647 : Int); omega⟩, fun q j a b => by rw [qup_f (by omega)]; exact hSf q j a b, ?_⟩
          rw [qup_k, qup_j (show (4 : Nat) ≠ 5 by decide), hfl]
          exact hFL.sp hT.1 _ (fun z => by first | (rw [show g = L by omega]; done) | exact absurd z hf60)
      · skip
        refine qG.blk 3 (pc' := 131) (ls' := [(2, 23), l1, (2, 4), (0, l3), (0, s2), (0, ((g : Nat) : Int)), l6]) (st' := [(2, wS 23 1), (2, 23)]) (w' := wS) (n' := 142) rfl ?_
        rw [show wS 23 1 = 27 from (hSf 23 1 (by decide) (by omega)).trans (zref hI rfl rfl)]
        refine qG.call (t := 52) (na := 1) (sk := 0) (md := 0) (ls1 := [(2, 27), (9, 0), (9, 0), (9, 0), (9, 0), (9, 0), (9, 0)]) (r1 := [(2, 23)]) rfl rfl rfl rfl rfl (K_howM27 (by omega) wS) ?_
        rintro _ w7 _ ⟨rfl, hw7, rfl⟩
        rw [hw7]
        show qG none (d + 1) 35 134 [(2, 23), l1, (2, 4), (0, l3), (0, s2), (0, ((g : Nat) : Int)), l6] [(0, ((ctb (fun j => sb wS 27 j) 192 : Nat) : Int)), (2, 23)] wS 142 Q9
        refine qG.blk 1 (pc' := 137) (ls' := [(2, 23), l1, (2, 4), (0, l3), (0, s2), (0, ((g : Nat) : Int)), l6]) (st' := []) (w' := (qup wS 23 5 ((ctb (fun j => sb wS 27 j) 192 : Nat) : Int))) (n' := 142) rfl ?_
        refine qG.retv rfl rfl ?_
        subst hQ9
        refine ⟨rfl, rfl, zup_f hIS (b := (-2147483648, 2147483647)) rfl rfl rfl ⟨by show (-2147483648 : Int) ≤ _; omega, by have := ctbL_le (f := fun j => sb wS 27 j) 192; show _ ≤ (2147483647 : Int); omega⟩, fun q j a b => by rw [qup_f (by omega)]; exact hSf q j a b, ?_⟩
        rw [qup_k, qup_j (show (4 : Nat) ≠ 5 by decide), hfl]
        exact hFL.sp hT.1 _ (fun z => by first | (rw [show g = L by omega]; done) | exact absurd z hf60)
    exact L46 _ (0) (0) ((-1)) (w2) ((9, 0)) rfl (⟨Nat.zero_le _, h2f, hI2, h24, .inl ⟨rfl, hNp, rfl, h227, hz0_E hNp⟩⟩)
  · skip
    have hN0 : N = 0 := by
      by_cases y : ctb (fun j => sb w1 27 j) 192 = 0
      · by_cases z : N = 0
        · exact z
        · have q := ctb_0.mp y 0 (by decide); rw [h127 0 (by decide)] at q; have q : decide (0 < N) = false := q; rw [decide_eq_true (by omega)] at q; cases q
      · rw [if_neg y] at hem; exact absurd rfl hem
    refine qG.blk 7 (pc' := 46) (ls' := [(2, 23), l1, (2, 4), (0, l3), (0, 0), (0, 0), (9, 0)]) (st' := []) (w' := (qup w1 23 4 0)) (n' := 142) rfl ?_
    obtain ⟨w2, hw2⟩ : ∃ z : qW, z = (qup w1 23 4 0) := ⟨_, rfl⟩
    rw [← hw2]
    have hI2 : yInv zgf zga zra zSp w2 := by rw [hw2]; exact zup_f hI1 (b := (-2147483648, 2147483647)) rfl rfl rfl ⟨by decide, by decide⟩
    have h2f : (∀ q j, ¬ (27 ≤ q ∧ q ≤ 29) → ¬ (q = 23 ∧ 4 ≤ j ∧ j ≤ 5) → w2 q j = w q j) := fun q j a b => by rw [hw2, qup_f (by omega)]; exact h1f q j a b
    have h24 : w2 23 4 = 0 := by rw [hw2, qup_k]
    have h227 : HOLD w2 27 (hz N P M V 0) := fun j hj => by rw [show sb w2 27 j = sb w1 27 j from by unfold sb; rw [hw2, qup_nk (by decide)]]; exact h127 j hj
    have L46_1 : ∀ (m9 : Nat) (g : Nat) (s2 fl : Int) (wS : qW) (l6 : qV), L - g = m9 → (g ≤ L ∧ (∀ q j, ¬ (27 ≤ q ∧ q ≤ 29) → ¬ (q = 23 ∧ 4 ≤ j ∧ j ≤ 5) → wS q j = w q j) ∧ yInv zgf zga zra zSp wS ∧ wS 23 4 = fl ∧ FLW N P M V (scF (w 5) (w 6) g) (scF (w 5) (w 6) L) fl s2 wS) → qG none (d + 1) 35 46 [(2, 23), l1, (2, 4), (0, l3), (0, s2), (0, ((g : Nat) : Int)), l6] [] wS 142 Q9 := by
      intro m9
      induction m9 using Nat.strongRecOn with
      | ind m9 ih46 =>
      intro g s2 fl wS l6 hm46 hI46
      obtain ⟨hgL, hSf, hIS, hfl, hFL⟩ := hI46
      have hTS := hT.cg (w1 := wS) (fun q j h => hSf q j (by omega) (by omega))
      refine qG.blk 2 (pc' := 49) (ls' := [(2, 23), l1, (2, 4), (0, l3), (0, s2), (0, ((g : Nat) : Int)), l6]) (st' := [(2, 4), (0, ((g : Nat) : Int))]) (w' := wS) (n' := 142) rfl ?_
      refine qG.call (t := 110) (na := 1) (sk := 1) (md := 1) (ls1 := [(2, 4)]) (r1 := [(0, ((g : Nat) : Int))]) rfl rfl rfl rfl rfl (K_stepC4 (Nat.zero_le _) wS (x := ((L : Nat) : Int)) ((hSf 4 2 (by decide) (by omega)).trans hs)) ?_
      rintro _ w7 _ ⟨rfl, hw7, rfl⟩
      rw [hw7]
      show qG none (d + 1) 35 52 [(2, 23), l1, (2, 4), (0, l3), (0, s2), (0, ((g : Nat) : Int)), l6] [(0, ((L : Nat) : Int)), (0, ((g : Nat) : Int))] wS 142 Q9
      refine qG.br (P := ((g : Nat) : Int) < ((L : Nat) : Int)) (pc1 := 55) (pc2 := 126) (st1 := []) rfl (fun hgL2 => ?_) (fun hgL2 => ?_)
      · skip
        refine qG.blk 2 (pc' := 59) (ls' := [(2, 23), l1, (2, 4), (0, l3), (0, s2), (0, ((g : Nat) : Int)), l6]) (st' := [(0, wS 23 4)]) (w' := wS) (n' := 142) rfl ?_
        rw [show wS 23 4 = fl from hfl]
        refine qG.blk 1 (pc' := 60) (ls' := [(2, 23), l1, (2, 4), (0, l3), (0, s2), (0, ((g : Nat) : Int)), l6]) (st' := [(0, (-1)), (0, fl)]) (w' := wS) (n' := 142) rfl ?_
        refine qG.br (P := fl = (-1)) (pc1 := 63) (pc2 := 126) (st1 := []) rfl (fun hf60 => ?_) (fun hf60 => ?_)
        · skip
          obtain ⟨-, hNp, hs2, hH27, hnE⟩ : fl = -1 ∧ 0 < N ∧ s2 = ((scF (w 5) (w 6) g : Nat) : Int) ∧ HOLD wS 27 (hz N P M V (scF (w 5) (w 6) g)) ∧ ¬ hzE (hz N P M V (scF (w 5) (w 6) g)) := by
            rcases hFL with z | ⟨-, ⟨-, z⟩ | ⟨-, f, -, z, -⟩⟩
            · exact z
            · omega
            · omega
          have hdn : (if w 5 g = 2 then w 6 g else 1) = ((dN (w 5 g) (w 6 g) : Nat) : Int) := by have z := sc_s hKW (show g < L by omega); have y : ((scF (w 5) (w 6) (g + 1) : Nat) : Int) = ((scF (w 5) (w 6) g : Nat) : Int) + ((dN (w 5 g) (w 6 g) : Nat) : Int) := rfl; omega
          have hd20 : dN (w 5 g) (w 6 g) ≤ 20 := by have z := sc_le hKW (g + 1) (by omega); have q := hKW g (by omega); by_cases y : w 5 g = 2; rw [if_pos y] at hdn; have := q y; omega; rw [if_neg y] at hdn; omega
          have hsc := sc_le hKW g (by omega)
          refine qG.blk 2 (pc' := 67) (ls' := [(2, 23), l1, (2, 4), (0, l3), (0, s2), (0, ((g : Nat) : Int)), l6]) (st' := [(2, wS 23 0)]) (w' := wS) (n' := 142) rfl ?_
          rw [show wS 23 0 = 24 from (hSf 23 0 (by decide) (by omega)).trans (zref hI rfl rfl)]
          refine qG.blk 2 (pc' := 70) (ls' := [(2, 23), l1, (2, 4), (0, l3), (0, s2), (0, ((g : Nat) : Int)), l6]) (st' := [(0, ((g : Nat) : Int)), (2, 4), (2, 24)]) (w' := wS) (n' := 142) rfl ?_
          refine qG.call (t := 115) (na := 2) (sk := 1) (md := 1) (ls1 := [(2, 4), (0, ((g : Nat) : Int))]) (r1 := [(2, 24)]) rfl rfl rfl rfl rfl (K_vwOf4 (Nat.zero_le _) g L hL wS hIS ((hSf 4 2 (by decide) (by omega)).trans hs) (by omega)) ?_
          rintro _ w7 _ ⟨rfl, hw7, rfl⟩
          rw [hw7, hSf 7 g (by decide) (by omega)]
          show qG none (d + 1) 35 73 [(2, 23), l1, (2, 4), (0, l3), (0, s2), (0, ((g : Nat) : Int)), l6] [(0, w 7 g), (2, 24)] wS 142 Q9
          refine qG.blk 2 (pc' := 77) (ls' := [(2, 23), l1, (2, 4), (0, l3), (0, s2), (0, ((g : Nat) : Int)), l6]) (st' := [(2, wS 23 3), (0, w 7 g), (2, 24)]) (w' := wS) (n' := 142) rfl ?_
          rw [show wS 23 3 = 29 from (hSf 23 3 (by decide) (by omega)).trans (zref hI rfl rfl)]
          refine qG.call (t := 103) (na := 3) (sk := 1) (md := 1) (ls1 := [(2, 24), (0, w 7 g), (2, 29), (9, 0), (9, 0)]) (r1 := []) rfl rfl rfl rfl rfl (K_unseen29 (by omega) (w 7 g) N hT.1 wS hIS (hTS.2.1)) ?_
          rintro _ wU _ ⟨rfl, rfl, hRU⟩
          have hIU := hRU.2.2
          have hUf : (∀ q j, ¬ (27 ≤ q ∧ q ≤ 29) → ¬ (q = 23 ∧ 4 ≤ j ∧ j ≤ 5) → wU q j = w q j) := fun q j a b => (hRU.2.1 q j (by omega)).trans (hSf q j a b)
          have hTU := hTS.cg (w1 := wU) (fun q j h => hRU.2.1 q j (by omega))
          have hU27 : HOLD wU 27 (hz N P M V (scF (w 5) (w 6) g)) := fun j hj => by rw [hRU.o (by decide)]; exact hH27 j hj
          have hU29 : HOLD wU 29 (fun j => decide (j < N) && decide (qand (P j) (w 7 g) = 0)) := fun j hj => by
            rw [show sb wU 29 j = (decide (j < N) && decide (qand (wS 25 j) (w 7 g) = 0)) from hRU.1 j hj]
            show _ = (decide (j < N) && decide (qand (P j) (w 7 g) = 0))
            by_cases hjN : j < N
            · rw [hTS.2.2.1 j hjN]
            · rw [decide_eq_false hjN, Bool.false_and, Bool.false_and]
          show qG none (d + 1) 35 80 [(2, 23), l1, (2, 4), (0, l3), (0, s2), (0, ((g : Nat) : Int)), l6] [] wU 142 Q9
          refine qG.blk 3 (pc' := 84) (ls' := [(2, 23), l1, (2, 4), (0, l3), (0, s2), (0, ((g : Nat) : Int)), l6]) (st' := [(0, ((g : Nat) : Int)), (2, 4), (2, 23)]) (w' := wU) (n' := 142) rfl ?_
          refine qG.call (t := 114) (na := 2) (sk := 1) (md := 1) (ls1 := [(2, 4), (0, ((g : Nat) : Int))]) (r1 := [(2, 23)]) rfl rfl rfl rfl rfl (K_secs4 (Nat.zero_le _) g L hL wU hIU ((hUf 4 2 (by decide) (by omega)).trans hs) (by omega)) ?_
          rintro _ w7 _ ⟨rfl, hw7, rfl⟩
          rw [hw7, hUf 5 g (by decide) (by omega), hUf 6 g (by decide) (by omega), show (if w 5 g = 2 then w 6 g else 1) = ((dN (w 5 g) (w 6 g) : Nat) : Int) from hdn]
          show qG none (d + 1) 35 87 [(2, 23), l1, (2, 4), (0, l3), (0, s2), (0, ((g : Nat) : Int)), l6] [(0, ((dN (w 5 g) (w 6 g) : Nat) : Int)), (2, 23)] wU 142 Q9
          refine qG.call (t := 36) (na := 2) (sk := 1) (md := 1) (ls1 := [(2, 23), (0, ((dN (w 5 g) (w 6 g) : Nat) : Int)), (9, 0)]) (r1 := []) rfl rfl rfl rfl rfl (K_stayU (by omega) N P M V (scF (w 5) (w 6) g) (dN (w 5 g) (w 6 g)) (w 7 g) (by omega) (fun u hu => hVV g (by omega) u hu) wU hIU hTU hU27 hU29 hnE) ?_
          rintro _ wX _ ⟨rfl, hX9, hIX, ⟨rfl, hX27, hXE⟩ | ⟨e, he, rfl, hX27, hXE, hXE2⟩⟩ <;> have hXf : (∀ q j, ¬ (27 ≤ q ∧ q ≤ 29) → ¬ (q = 23 ∧ 4 ≤ j ∧ j ≤ 5) → wX q j = w q j) := fun q j a b => (hX9 q j (by omega) (by omega)).trans (hUf q j a b)
          · skip
            show qG none (d + 1) 35 90 [(2, 23), l1, (2, 4), (0, l3), (0, s2), (0, ((g : Nat) : Int)), l6] [(0, ((dN (w 5 g) (w 6 g) : Nat) : Int))] wX 142 Q9
            refine qG.blk 4 (pc' := 97) (ls' := [(2, 23), l1, (2, 4), (0, l3), (0, s2), (0, ((g : Nat) : Int)), (0, ((dN (w 5 g) (w 6 g) : Nat) : Int))]) (st' := [(0, wrp (s2 + ((dN (w 5 g) (w 6 g) : Nat) : Int)))]) (w' := wX) (n' := 142) rfl ?_
            rw [show wrp (s2 + ((dN (w 5 g) (w 6 g) : Nat) : Int)) = s2 + ((dN (w 5 g) (w 6 g) : Nat) : Int) from wrp_id (by omega) (by omega)]
            refine qG.blk 5 (pc' := 105) (ls' := [(2, 23), l1, (2, 4), (0, l3), (0, s2 + ((dN (w 5 g) (w 6 g) : Nat) : Int)), (0, ((g : Nat) : Int)), (0, ((dN (w 5 g) (w 6 g) : Nat) : Int))]) (st' := [(0, ((g : Nat) : Int)), (2, 4), (0, ((dN (w 5 g) (w 6 g) : Nat) : Int)), (2, 23)]) (w' := wX) (n' := 142) rfl ?_
            refine qG.call (t := 114) (na := 2) (sk := 1) (md := 1) (ls1 := [(2, 4), (0, ((g : Nat) : Int))]) (r1 := [(0, ((dN (w 5 g) (w 6 g) : Nat) : Int)), (2, 23)]) rfl rfl rfl rfl rfl (K_secs4 (Nat.zero_le _) g L hL wX hIX ((hXf 4 2 (by decide) (by omega)).trans hs) (by omega)) ?_
            rintro _ w7 _ ⟨rfl, hw7, rfl⟩
            rw [hw7, hXf 5 g (by decide) (by omega), hXf 6 g (by decide) (by omega), show (if w 5 g = 2 then w 6 g else 1) = ((dN (w 5 g) (w 6 g) : Nat) : Int) from hdn]
            show qG none (d + 1) 35 108 [(2, 23), l1, (2, 4), (0, l3), (0, s2 + ((dN (w 5 g) (w 6 g) : Nat) : Int)), (0, ((g : Nat) : Int)), (0, ((dN (w 5 g) (w 6 g) : Nat) : Int))] [(0, ((dN (w 5 g) (w 6 g) : Nat) : Int)), (0, ((dN (w 5 g) (w 6 g) : Nat) : Int)), (2, 23)] wX 142 Q9
            refine qG.br (P := ((dN (w 5 g) (w 6 g) : Nat) : Int) < ((dN (w 5 g) (w 6 g) : Nat) : Int)) (pc1 := 111) (pc2 := 116) (st1 := [(2, 23)]) rfl (fun h108 => ?_) (fun h108 => ?_)
            · skip
              refine qG.blk 4 (pc' := 123) (ls' := [(2, 23), l1, (2, 4), (0, l3), (0, s2 + ((dN (w 5 g) (w 6 g) : Nat) : Int)), (0, wrp (((g : Nat) : Int) + 1)), (0, ((dN (w 5 g) (w 6 g) : Nat) : Int))]) (st' := []) (w' := (qup wX 23 4 (s2 + ((dN (w 5 g) (w 6 g) : Nat) : Int)))) (n' := 142) rfl ?_
              rw [show wrp (((g : Nat) : Int) + 1) = ((g + 1 : Nat) : Int) from wrp_id (by omega) (by omega)]
              refine qG.blk 1 (pc' := 46) (ls' := [(2, 23), l1, (2, 4), (0, l3), (0, s2 + ((dN (w 5 g) (w 6 g) : Nat) : Int)), (0, ((g + 1 : Nat) : Int)), (0, ((dN (w 5 g) (w 6 g) : Nat) : Int))]) (st' := []) (w' := (qup wX 23 4 (s2 + ((dN (w 5 g) (w 6 g) : Nat) : Int)))) (n' := 142) rfl ?_
              exact absurd h108 (by omega)
            · skip
              refine qG.blk 3 (pc' := 123) (ls' := [(2, 23), l1, (2, 4), (0, l3), (0, s2 + ((dN (w 5 g) (w 6 g) : Nat) : Int)), (0, wrp (((g : Nat) : Int) + 1)), (0, ((dN (w 5 g) (w 6 g) : Nat) : Int))]) (st' := []) (w' := (qup wX 23 4 (-1))) (n' := 142) rfl ?_
              rw [show wrp (((g : Nat) : Int) + 1) = ((g + 1 : Nat) : Int) from wrp_id (by omega) (by omega)]
              refine qG.blk 1 (pc' := 46) (ls' := [(2, 23), l1, (2, 4), (0, l3), (0, s2 + ((dN (w 5 g) (w 6 g) : Nat) : Int)), (0, ((g + 1 : Nat) : Int)), (0, ((dN (w 5 g) (w 6 g) : Nat) : Int))]) (st' := []) (w' := (qup wX 23 4 (-1))) (n' := 142) rfl ?_
              obtain ⟨wN, hwN⟩ : ∃ z : qW, z = (qup wX 23 4 (-1)) := ⟨_, rfl⟩
              rw [← hwN]
              have hIN : yInv zgf zga zra zSp wN := by rw [hwN]; exact zup_f hIX (b := (-2147483648, 2147483647)) rfl rfl rfl ⟨by show (-2147483648 : Int) ≤ _; omega, by show _ ≤ (2147483647 : Int); omega⟩
              have hNf : (∀ q j, ¬ (27 ≤ q ∧ q ≤ 29) → ¬ (q = 23 ∧ 4 ≤ j ∧ j ≤ 5) → wN q j = w q j) := fun q j a b => by rw [hwN, qup_f (by omega)]; exact hXf q j a b
              have hN4 : wN 23 4 = (-1) := by rw [hwN, qup_k]
              have hN27 : ∀ j, sb wN 27 j = sb wX 27 j := fun j => by unfold sb; rw [hwN, qup_nk (by decide)]
              exact ih46 _ (by omega) (g + 1) (s2 + ((dN (w 5 g) (w 6 g) : Nat) : Int)) ((-1)) (wN) ((0, ((dN (w 5 g) (w 6 g) : Nat) : Int))) rfl (⟨by omega, hNf, hIN, hN4, .inl ⟨rfl, by have z := hFL; rcases z with z | z; exact z.2.1; rcases z.2 with z | z; omega; exact z.1, by show _ = ((scF (w 5) (w 6) g + dN (w 5 g) (w 6 g) : Nat) : Int); omega, fun j hj => (hN27 j).trans (hX27 j hj), hXE⟩⟩)
          · skip
            show qG none (d + 1) 35 90 [(2, 23), l1, (2, 4), (0, l3), (0, s2), (0, ((g : Nat) : Int)), l6] [(0, ((e : Nat) : Int))] wX 142 Q9
            refine qG.blk 4 (pc' := 97) (ls' := [(2, 23), l1, (2, 4), (0, l3), (0, s2), (0, ((g : Nat) : Int)), (0, ((e : Nat) : Int))]) (st' := [(0, wrp (s2 + ((e : Nat) : Int)))]) (w' := wX) (n' := 142) rfl ?_
            rw [show wrp (s2 + ((e : Nat) : Int)) = s2 + ((e : Nat) : Int) from wrp_id (by omega) (by omega)]
            refine qG.blk 5 (pc' := 105) (ls' := [(2, 23), l1, (2, 4), (0, l3), (0, s2 + ((e : Nat) : Int)), (0, ((g : Nat) : Int)), (0, ((e : Nat) : Int))]) (st' := [(0, ((g : Nat) : Int)), (2, 4), (0, ((e : Nat) : Int)), (2, 23)]) (w' := wX) (n' := 142) rfl ?_
            refine qG.call (t := 114) (na := 2) (sk := 1) (md := 1) (ls1 := [(2, 4), (0, ((g : Nat) : Int))]) (r1 := [(0, ((e : Nat) : Int)), (2, 23)]) rfl rfl rfl rfl rfl (K_secs4 (Nat.zero_le _) g L hL wX hIX ((hXf 4 2 (by decide) (by omega)).trans hs) (by omega)) ?_
            rintro _ w7 _ ⟨rfl, hw7, rfl⟩
            rw [hw7, hXf 5 g (by decide) (by omega), hXf 6 g (by decide) (by omega), show (if w 5 g = 2 then w 6 g else 1) = ((dN (w 5 g) (w 6 g) : Nat) : Int) from hdn]
            show qG none (d + 1) 35 108 [(2, 23), l1, (2, 4), (0, l3), (0, s2 + ((e : Nat) : Int)), (0, ((g : Nat) : Int)), (0, ((e : Nat) : Int))] [(0, ((dN (w 5 g) (w 6 g) : Nat) : Int)), (0, ((e : Nat) : Int)), (2, 23)] wX 142 Q9
            refine qG.br (P := ((e : Nat) : Int) < ((dN (w 5 g) (w 6 g) : Nat) : Int)) (pc1 := 111) (pc2 := 116) (st1 := [(2, 23)]) rfl (fun h108 => ?_) (fun h108 => ?_)
            · skip
              refine qG.blk 4 (pc' := 123) (ls' := [(2, 23), l1, (2, 4), (0, l3), (0, s2 + ((e : Nat) : Int)), (0, wrp (((g : Nat) : Int) + 1)), (0, ((e : Nat) : Int))]) (st' := []) (w' := (qup wX 23 4 (s2 + ((e : Nat) : Int)))) (n' := 142) rfl ?_
              rw [show wrp (((g : Nat) : Int) + 1) = ((g + 1 : Nat) : Int) from wrp_id (by omega) (by omega)]
              refine qG.blk 1 (pc' := 46) (ls' := [(2, 23), l1, (2, 4), (0, l3), (0, s2 + ((e : Nat) : Int)), (0, ((g + 1 : Nat) : Int)), (0, ((e : Nat) : Int))]) (st' := []) (w' := (qup wX 23 4 (s2 + ((e : Nat) : Int)))) (n' := 142) rfl ?_
              obtain ⟨wN, hwN⟩ : ∃ z : qW, z = (qup wX 23 4 (s2 + ((e : Nat) : Int))) := ⟨_, rfl⟩
              rw [← hwN]
              have hIN : yInv zgf zga zra zSp wN := by rw [hwN]; exact zup_f hIX (b := (-2147483648, 2147483647)) rfl rfl rfl ⟨by show (-2147483648 : Int) ≤ _; omega, by show _ ≤ (2147483647 : Int); omega⟩
              have hNf : (∀ q j, ¬ (27 ≤ q ∧ q ≤ 29) → ¬ (q = 23 ∧ 4 ≤ j ∧ j ≤ 5) → wN q j = w q j) := fun q j a b => by rw [hwN, qup_f (by omega)]; exact hXf q j a b
              have hN4 : wN 23 4 = (s2 + ((e : Nat) : Int)) := by rw [hwN, qup_k]
              have hN27 : ∀ j, sb wN 27 j = sb wX 27 j := fun j => by unfold sb; rw [hwN, qup_nk (by decide)]
              exact ih46 _ (by omega) (g + 1) (s2 + ((e : Nat) : Int)) (s2 + ((e : Nat) : Int)) (wN) ((0, ((e : Nat) : Int))) rfl (⟨by omega, hNf, hIN, hN4, .inr ⟨fun j hj => (hN27 j).trans (hX27 j hj), .inr ⟨hNp, scF (w 5) (w 6) g + e, by have := scF_le (K := w 5) (N := w 6) (show g + 1 ≤ L by omega); have : scF (w 5) (w 6) (g + 1) = scF (w 5) (w 6) g + dN (w 5 g) (w 6 g) := rfl; omega, by omega, hXE, hXE2⟩⟩⟩)
            · skip
              refine qG.blk 3 (pc' := 123) (ls' := [(2, 23), l1, (2, 4), (0, l3), (0, s2 + ((e : Nat) : Int)), (0, wrp (((g : Nat) : Int) + 1)), (0, ((e : Nat) : Int))]) (st' := []) (w' := (qup wX 23 4 (-1))) (n' := 142) rfl ?_
              rw [show wrp (((g : Nat) : Int) + 1) = ((g + 1 : Nat) : Int) from wrp_id (by omega) (by omega)]
              refine qG.blk 1 (pc' := 46) (ls' := [(2, 23), l1, (2, 4), (0, l3), (0, s2 + ((e : Nat) : Int)), (0, ((g + 1 : Nat) : Int)), (0, ((e : Nat) : Int))]) (st' := []) (w' := (qup wX 23 4 (-1))) (n' := 142) rfl ?_
              exact absurd he (by omega)
        · skip
          refine qG.blk 3 (pc' := 131) (ls' := [(2, 23), l1, (2, 4), (0, l3), (0, s2), (0, ((g : Nat) : Int)), l6]) (st' := [(2, wS 23 1), (2, 23)]) (w' := wS) (n' := 142) rfl ?_
          rw [show wS 23 1 = 27 from (hSf 23 1 (by decide) (by omega)).trans (zref hI rfl rfl)]
          refine qG.call (t := 52) (na := 1) (sk := 0) (md := 0) (ls1 := [(2, 27), (9, 0), (9, 0), (9, 0), (9, 0), (9, 0), (9, 0)]) (r1 := [(2, 23)]) rfl rfl rfl rfl rfl (K_howM27 (by omega) wS) ?_
          rintro _ w7 _ ⟨rfl, hw7, rfl⟩
          rw [hw7]
          show qG none (d + 1) 35 134 [(2, 23), l1, (2, 4), (0, l3), (0, s2), (0, ((g : Nat) : Int)), l6] [(0, ((ctb (fun j => sb wS 27 j) 192 : Nat) : Int)), (2, 23)] wS 142 Q9
          refine qG.blk 1 (pc' := 137) (ls' := [(2, 23), l1, (2, 4), (0, l3), (0, s2), (0, ((g : Nat) : Int)), l6]) (st' := []) (w' := (qup wS 23 5 ((ctb (fun j => sb wS 27 j) 192 : Nat) : Int))) (n' := 142) rfl ?_
          refine qG.retv rfl rfl ?_
          subst hQ9
          refine ⟨rfl, rfl, zup_f hIS (b := (-2147483648, 2147483647)) rfl rfl rfl ⟨by show (-2147483648 : Int) ≤ _; omega, by have := ctbL_le (f := fun j => sb wS 27 j) 192; show _ ≤ (2147483647 : Int); omega⟩, fun q j a b => by rw [qup_f (by omega)]; exact hSf q j a b, ?_⟩
          rw [qup_k, qup_j (show (4 : Nat) ≠ 5 by decide), hfl]
          exact hFL.sp hT.1 _ (fun z => by first | (rw [show g = L by omega]; done) | exact absurd z hf60)
      · skip
        refine qG.blk 3 (pc' := 131) (ls' := [(2, 23), l1, (2, 4), (0, l3), (0, s2), (0, ((g : Nat) : Int)), l6]) (st' := [(2, wS 23 1), (2, 23)]) (w' := wS) (n' := 142) rfl ?_
        rw [show wS 23 1 = 27 from (hSf 23 1 (by decide) (by omega)).trans (zref hI rfl rfl)]
        refine qG.call (t := 52) (na := 1) (sk := 0) (md := 0) (ls1 := [(2, 27), (9, 0), (9, 0), (9, 0), (9, 0), (9, 0), (9, 0)]) (r1 := [(2, 23)]) rfl rfl rfl rfl rfl (K_howM27 (by omega) wS) ?_
        rintro _ w7 _ ⟨rfl, hw7, rfl⟩
        rw [hw7]
        show qG none (d + 1) 35 134 [(2, 23), l1, (2, 4), (0, l3), (0, s2), (0, ((g : Nat) : Int)), l6] [(0, ((ctb (fun j => sb wS 27 j) 192 : Nat) : Int)), (2, 23)] wS 142 Q9
        refine qG.blk 1 (pc' := 137) (ls' := [(2, 23), l1, (2, 4), (0, l3), (0, s2), (0, ((g : Nat) : Int)), l6]) (st' := []) (w' := (qup wS 23 5 ((ctb (fun j => sb wS 27 j) 192 : Nat) : Int))) (n' := 142) rfl ?_
        refine qG.retv rfl rfl ?_
        subst hQ9
        refine ⟨rfl, rfl, zup_f hIS (b := (-2147483648, 2147483647)) rfl rfl rfl ⟨by show (-2147483648 : Int) ≤ _; omega, by have := ctbL_le (f := fun j => sb wS 27 j) 192; show _ ≤ (2147483647 : Int); omega⟩, fun q j a b => by rw [qup_f (by omega)]; exact hSf q j a b, ?_⟩
        rw [qup_k, qup_j (show (4 : Nat) ≠ 5 by decide), hfl]
        exact hFL.sp hT.1 _ (fun z => by first | (rw [show g = L by omega]; done) | exact absurd z hf60)
    exact L46_1 _ (0) (0) (0) (w2) ((9, 0)) rfl (⟨Nat.zero_le _, h2f, hI2, h24, .inr ⟨fun j hj => (h227 j hj).trans (by show decide (j < N) = false; exact decide_eq_false (by omega)), .inl ⟨hN0, rfl⟩⟩⟩)
theorem K_flwB79 {d : Nat} (hd : 4 ≤ d) (N : Nat) (P : Nat → Int) (M : Nat → Nat → Bool) (V : Nat → Int) (L : Nat) (hL : L ≤ 40) (w : qW) (hI : yInv zgf zga zra zSp w) (hs : w 79 2 = (L : Int)) (hKW : KNw (w 80) (w 81) L) (hT : CTB N P M w) (hVV : ∀ g, g < L → ∀ u, u < dN (w 80 g) (w 81 g) → V (scF (w 80) (w 81) g + u) = w 82 g) (l1 : qV) (l3 : Int) : qG none d 35 9 [(2, 23), l1, (2, 79), (0, l3), (9, 0), (9, 0), (9, 0)] [] w 142 (fun (r : qV) (w1 : qW) (n1 : Nat) => r = (9, 0) ∧ n1 = 142 ∧ yInv zgf zga zra zSp w1 ∧ (∀ q j, ¬ (27 ≤ q ∧ q ≤ 29) → ¬ (q = 23 ∧ 4 ≤ j ∧ j ≤ 5) → w1 q j = w q j) ∧ HSP N P M V (scF (w 80) (w 81) L) (w1 23 4) (w1 23 5)) := by
  generalize hQ9 : (fun (r : qV) (w1 : qW) (n1 : Nat) => r = (9, 0) ∧ n1 = 142 ∧ yInv zgf zga zra zSp w1 ∧ (∀ q j, ¬ (27 ≤ q ∧ q ≤ 29) → ¬ (q = 23 ∧ 4 ≤ j ∧ j ≤ 5) → w1 q j = w q j) ∧ HSP N P M V (scF (w 80) (w 81) L) (w1 23 4) (w1 23 5)) = Q9
  obtain ⟨d, rfl⟩ : ∃ d9, d = d9 + 1 := ⟨d - 1, by omega⟩
  refine qG.blk 2 (pc' := 13) (ls' := [(2, 23), l1, (2, 79), (0, l3), (9, 0), (9, 0), (9, 0)]) (st' := [(2, w 23 0)]) (w' := w) (n' := 142) rfl ?_
  rw [show w 23 0 = 24 from zref hI rfl rfl]
  refine qG.blk 3 (pc' := 18) (ls' := [(2, 23), l1, (2, 79), (0, l3), (9, 0), (9, 0), (9, 0)]) (st' := [(2, w 23 1), (0, 0), (2, 24)]) (w' := w) (n' := 142) rfl ?_
  rw [show w 23 1 = 27 from zref hI rfl rfl]
  refine qG.call (t := 103) (na := 3) (sk := 1) (md := 1) (ls1 := [(2, 24), (0, 0), (2, 27), (9, 0), (9, 0)]) (r1 := []) rfl rfl rfl rfl rfl (K_unseen27 (by omega) 0 N hT.1 w hI hT.2.1) ?_
  rintro _ w1 _ ⟨rfl, rfl, hR1⟩
  have h1f : (∀ q j, ¬ (27 ≤ q ∧ q ≤ 29) → ¬ (q = 23 ∧ 4 ≤ j ∧ j ≤ 5) → w1 q j = w q j) := fun q j a b => hR1.2.1 q j (by omega)
  have hI1 := hR1.2.2
  have h127 : HOLD w1 27 (hz N P M V 0) := fun j hj => by rw [show sb w1 27 j = (decide (j < N) && decide (qand (w 25 j) 0 = 0)) from hR1.1 j hj, qand_z0, decide_eq_true rfl, Bool.and_true]; rfl
  show qG none (d + 1) 35 21 [(2, 23), l1, (2, 79), (0, l3), (9, 0), (9, 0), (9, 0)] [] w1 142 Q9
  refine qG.blk 3 (pc' := 26) (ls' := [(2, 23), l1, (2, 79), (0, l3), (9, 0), (9, 0), (9, 0)]) (st' := [(2, w1 23 1), (2, 23)]) (w' := w1) (n' := 142) rfl ?_
  rw [show w1 23 1 = 27 from (h1f 23 1 (by decide) (by omega)).trans (zref hI rfl rfl)]
  refine qG.call (t := 51) (na := 1) (sk := 0) (md := 0) (ls1 := [(2, 27)]) (r1 := [(2, 23)]) rfl rfl rfl rfl rfl (K_isEmpty27 (by omega) w1) ?_
  rintro _ w7 _ ⟨rfl, hw7, rfl⟩
  rw [hw7]
  show qG none (d + 1) 35 29 [(2, 23), l1, (2, 79), (0, l3), (9, 0), (9, 0), (9, 0)] [(0, (if ctb (fun j => sb w1 27 j) 192 = 0 then 1 else 0)), (2, 23)] w1 142 Q9
  refine qG.br (P := (if ctb (fun j => sb w1 27 j) 192 = 0 then 1 else 0) = 0) (pc1 := 36) (pc2 := 32) (st1 := [(2, 23)]) rfl (fun hem => ?_) (fun hem => ?_)
  · skip
    have hNp : 0 < N := by
      by_cases z : N = 0
      · have y : ctb (fun j => sb w1 27 j) 192 = 0 := ctb_0.mpr (fun j hj => (h127 j hj).trans (by show decide (j < N) = false; exact decide_eq_false (by omega)))
        rw [if_pos y] at hem; exact absurd hem (by decide)
      · omega
    refine qG.blk 6 (pc' := 46) (ls' := [(2, 23), l1, (2, 79), (0, l3), (0, 0), (0, 0), (9, 0)]) (st' := []) (w' := (qup w1 23 4 (-1))) (n' := 142) rfl ?_
    obtain ⟨w2, hw2⟩ : ∃ z : qW, z = (qup w1 23 4 (-1)) := ⟨_, rfl⟩
    rw [← hw2]
    have hI2 : yInv zgf zga zra zSp w2 := by rw [hw2]; exact zup_f hI1 (b := (-2147483648, 2147483647)) rfl rfl rfl ⟨by decide, by decide⟩
    have h2f : (∀ q j, ¬ (27 ≤ q ∧ q ≤ 29) → ¬ (q = 23 ∧ 4 ≤ j ∧ j ≤ 5) → w2 q j = w q j) := fun q j a b => by rw [hw2, qup_f (by omega)]; exact h1f q j a b
    have h24 : w2 23 4 = (-1) := by rw [hw2, qup_k]
    have h227 : HOLD w2 27 (hz N P M V 0) := fun j hj => by rw [show sb w2 27 j = sb w1 27 j from by unfold sb; rw [hw2, qup_nk (by decide)]]; exact h127 j hj
    have L46 : ∀ (m9 : Nat) (g : Nat) (s2 fl : Int) (wS : qW) (l6 : qV), L - g = m9 → (g ≤ L ∧ (∀ q j, ¬ (27 ≤ q ∧ q ≤ 29) → ¬ (q = 23 ∧ 4 ≤ j ∧ j ≤ 5) → wS q j = w q j) ∧ yInv zgf zga zra zSp wS ∧ wS 23 4 = fl ∧ FLW N P M V (scF (w 80) (w 81) g) (scF (w 80) (w 81) L) fl s2 wS) → qG none (d + 1) 35 46 [(2, 23), l1, (2, 79), (0, l3), (0, s2), (0, ((g : Nat) : Int)), l6] [] wS 142 Q9 := by
      intro m9
      induction m9 using Nat.strongRecOn with
      | ind m9 ih46 =>
      intro g s2 fl wS l6 hm46 hI46
      obtain ⟨hgL, hSf, hIS, hfl, hFL⟩ := hI46
      have hTS := hT.cg (w1 := wS) (fun q j h => hSf q j (by omega) (by omega))
      refine qG.blk 2 (pc' := 49) (ls' := [(2, 23), l1, (2, 79), (0, l3), (0, s2), (0, ((g : Nat) : Int)), l6]) (st' := [(2, 79), (0, ((g : Nat) : Int))]) (w' := wS) (n' := 142) rfl ?_
      refine qG.call (t := 110) (na := 1) (sk := 1) (md := 1) (ls1 := [(2, 79)]) (r1 := [(0, ((g : Nat) : Int))]) rfl rfl rfl rfl rfl (K_stepC79 (Nat.zero_le _) wS (x := ((L : Nat) : Int)) ((hSf 79 2 (by decide) (by omega)).trans hs)) ?_
      rintro _ w7 _ ⟨rfl, hw7, rfl⟩
      rw [hw7]
      show qG none (d + 1) 35 52 [(2, 23), l1, (2, 79), (0, l3), (0, s2), (0, ((g : Nat) : Int)), l6] [(0, ((L : Nat) : Int)), (0, ((g : Nat) : Int))] wS 142 Q9
      refine qG.br (P := ((g : Nat) : Int) < ((L : Nat) : Int)) (pc1 := 55) (pc2 := 126) (st1 := []) rfl (fun hgL2 => ?_) (fun hgL2 => ?_)
      · skip
        refine qG.blk 2 (pc' := 59) (ls' := [(2, 23), l1, (2, 79), (0, l3), (0, s2), (0, ((g : Nat) : Int)), l6]) (st' := [(0, wS 23 4)]) (w' := wS) (n' := 142) rfl ?_
        rw [show wS 23 4 = fl from hfl]
        refine qG.blk 1 (pc' := 60) (ls' := [(2, 23), l1, (2, 79), (0, l3), (0, s2), (0, ((g : Nat) : Int)), l6]) (st' := [(0, (-1)), (0, fl)]) (w' := wS) (n' := 142) rfl ?_
        refine qG.br (P := fl = (-1)) (pc1 := 63) (pc2 := 126) (st1 := []) rfl (fun hf60 => ?_) (fun hf60 => ?_)
        · skip
          obtain ⟨-, hNp, hs2, hH27, hnE⟩ : fl = -1 ∧ 0 < N ∧ s2 = ((scF (w 80) (w 81) g : Nat) : Int) ∧ HOLD wS 27 (hz N P M V (scF (w 80) (w 81) g)) ∧ ¬ hzE (hz N P M V (scF (w 80) (w 81) g)) := by
            rcases hFL with z | ⟨-, ⟨-, z⟩ | ⟨-, f, -, z, -⟩⟩
            · exact z
            · omega
            · omega
          have hdn : (if w 80 g = 2 then w 81 g else 1) = ((dN (w 80 g) (w 81 g) : Nat) : Int) := by have z := sc_s hKW (show g < L by omega); have y : ((scF (w 80) (w 81) (g + 1) : Nat) : Int) = ((scF (w 80) (w 81) g : Nat) : Int) + ((dN (w 80 g) (w 81 g) : Nat) : Int) := rfl; omega
          have hd20 : dN (w 80 g) (w 81 g) ≤ 20 := by have z := sc_le hKW (g + 1) (by omega); have q := hKW g (by omega); by_cases y : w 80 g = 2; rw [if_pos y] at hdn; have := q y; omega; rw [if_neg y] at hdn; omega
          have hsc := sc_le hKW g (by omega)
          refine qG.blk 2 (pc' := 67) (ls' := [(2, 23), l1, (2, 79), (0, l3), (0, s2), (0, ((g : Nat) : Int)), l6]) (st' := [(2, wS 23 0)]) (w' := wS) (n' := 142) rfl ?_
          rw [show wS 23 0 = 24 from (hSf 23 0 (by decide) (by omega)).trans (zref hI rfl rfl)]
          refine qG.blk 2 (pc' := 70) (ls' := [(2, 23), l1, (2, 79), (0, l3), (0, s2), (0, ((g : Nat) : Int)), l6]) (st' := [(0, ((g : Nat) : Int)), (2, 79), (2, 24)]) (w' := wS) (n' := 142) rfl ?_
          refine qG.call (t := 115) (na := 2) (sk := 1) (md := 1) (ls1 := [(2, 79), (0, ((g : Nat) : Int))]) (r1 := [(2, 24)]) rfl rfl rfl rfl rfl (K_vwOf79 (Nat.zero_le _) g L hL wS hIS ((hSf 79 2 (by decide) (by omega)).trans hs) (by omega)) ?_
          rintro _ w7 _ ⟨rfl, hw7, rfl⟩
          rw [hw7, hSf 82 g (by decide) (by omega)]
          show qG none (d + 1) 35 73 [(2, 23), l1, (2, 79), (0, l3), (0, s2), (0, ((g : Nat) : Int)), l6] [(0, w 82 g), (2, 24)] wS 142 Q9
          refine qG.blk 2 (pc' := 77) (ls' := [(2, 23), l1, (2, 79), (0, l3), (0, s2), (0, ((g : Nat) : Int)), l6]) (st' := [(2, wS 23 3), (0, w 82 g), (2, 24)]) (w' := wS) (n' := 142) rfl ?_
          rw [show wS 23 3 = 29 from (hSf 23 3 (by decide) (by omega)).trans (zref hI rfl rfl)]
          refine qG.call (t := 103) (na := 3) (sk := 1) (md := 1) (ls1 := [(2, 24), (0, w 82 g), (2, 29), (9, 0), (9, 0)]) (r1 := []) rfl rfl rfl rfl rfl (K_unseen29 (by omega) (w 82 g) N hT.1 wS hIS (hTS.2.1)) ?_
          rintro _ wU _ ⟨rfl, rfl, hRU⟩
          have hIU := hRU.2.2
          have hUf : (∀ q j, ¬ (27 ≤ q ∧ q ≤ 29) → ¬ (q = 23 ∧ 4 ≤ j ∧ j ≤ 5) → wU q j = w q j) := fun q j a b => (hRU.2.1 q j (by omega)).trans (hSf q j a b)
          have hTU := hTS.cg (w1 := wU) (fun q j h => hRU.2.1 q j (by omega))
          have hU27 : HOLD wU 27 (hz N P M V (scF (w 80) (w 81) g)) := fun j hj => by rw [hRU.o (by decide)]; exact hH27 j hj
          have hU29 : HOLD wU 29 (fun j => decide (j < N) && decide (qand (P j) (w 82 g) = 0)) := fun j hj => by
            rw [show sb wU 29 j = (decide (j < N) && decide (qand (wS 25 j) (w 82 g) = 0)) from hRU.1 j hj]
            show _ = (decide (j < N) && decide (qand (P j) (w 82 g) = 0))
            by_cases hjN : j < N
            · rw [hTS.2.2.1 j hjN]
            · rw [decide_eq_false hjN, Bool.false_and, Bool.false_and]
          show qG none (d + 1) 35 80 [(2, 23), l1, (2, 79), (0, l3), (0, s2), (0, ((g : Nat) : Int)), l6] [] wU 142 Q9
          refine qG.blk 3 (pc' := 84) (ls' := [(2, 23), l1, (2, 79), (0, l3), (0, s2), (0, ((g : Nat) : Int)), l6]) (st' := [(0, ((g : Nat) : Int)), (2, 79), (2, 23)]) (w' := wU) (n' := 142) rfl ?_
          refine qG.call (t := 114) (na := 2) (sk := 1) (md := 1) (ls1 := [(2, 79), (0, ((g : Nat) : Int))]) (r1 := [(2, 23)]) rfl rfl rfl rfl rfl (K_secs79 (Nat.zero_le _) g L hL wU hIU ((hUf 79 2 (by decide) (by omega)).trans hs) (by omega)) ?_
          rintro _ w7 _ ⟨rfl, hw7, rfl⟩
          rw [hw7, hUf 80 g (by decide) (by omega), hUf 81 g (by decide) (by omega), show (if w 80 g = 2 then w 81 g else 1) = ((dN (w 80 g) (w 81 g) : Nat) : Int) from hdn]
          show qG none (d + 1) 35 87 [(2, 23), l1, (2, 79), (0, l3), (0, s2), (0, ((g : Nat) : Int)), l6] [(0, ((dN (w 80 g) (w 81 g) : Nat) : Int)), (2, 23)] wU 142 Q9
          refine qG.call (t := 36) (na := 2) (sk := 1) (md := 1) (ls1 := [(2, 23), (0, ((dN (w 80 g) (w 81 g) : Nat) : Int)), (9, 0)]) (r1 := []) rfl rfl rfl rfl rfl (K_stayU (by omega) N P M V (scF (w 80) (w 81) g) (dN (w 80 g) (w 81 g)) (w 82 g) (by omega) (fun u hu => hVV g (by omega) u hu) wU hIU hTU hU27 hU29 hnE) ?_
          rintro _ wX _ ⟨rfl, hX9, hIX, ⟨rfl, hX27, hXE⟩ | ⟨e, he, rfl, hX27, hXE, hXE2⟩⟩ <;> have hXf : (∀ q j, ¬ (27 ≤ q ∧ q ≤ 29) → ¬ (q = 23 ∧ 4 ≤ j ∧ j ≤ 5) → wX q j = w q j) := fun q j a b => (hX9 q j (by omega) (by omega)).trans (hUf q j a b)
          · skip
            show qG none (d + 1) 35 90 [(2, 23), l1, (2, 79), (0, l3), (0, s2), (0, ((g : Nat) : Int)), l6] [(0, ((dN (w 80 g) (w 81 g) : Nat) : Int))] wX 142 Q9
            refine qG.blk 4 (pc' := 97) (ls' := [(2, 23), l1, (2, 79), (0, l3), (0, s2), (0, ((g : Nat) : Int)), (0, ((dN (w 80 g) (w 81 g) : Nat) : Int))]) (st' := [(0, wrp (s2 + ((dN (w 80 g) (w 81 g) : Nat) : Int)))]) (w' := wX) (n' := 142) rfl ?_
            rw [show wrp (s2 + ((dN (w 80 g) (w 81 g) : Nat) : Int)) = s2 + ((dN (w 80 g) (w 81 g) : Nat) : Int) from wrp_id (by omega) (by omega)]
            refine qG.blk 5 (pc' := 105) (ls' := [(2, 23), l1, (2, 79), (0, l3), (0, s2 + ((dN (w 80 g) (w 81 g) : Nat) : Int)), (0, ((g : Nat) : Int)), (0, ((dN (w 80 g) (w 81 g) : Nat) : Int))]) (st' := [(0, ((g : Nat) : Int)), (2, 79), (0, ((dN (w 80 g) (w 81 g) : Nat) : Int)), (2, 23)]) (w' := wX) (n' := 142) rfl ?_
            refine qG.call (t := 114) (na := 2) (sk := 1) (md := 1) (ls1 := [(2, 79), (0, ((g : Nat) : Int))]) (r1 := [(0, ((dN (w 80 g) (w 81 g) : Nat) : Int)), (2, 23)]) rfl rfl rfl rfl rfl (K_secs79 (Nat.zero_le _) g L hL wX hIX ((hXf 79 2 (by decide) (by omega)).trans hs) (by omega)) ?_
            rintro _ w7 _ ⟨rfl, hw7, rfl⟩
            rw [hw7, hXf 80 g (by decide) (by omega), hXf 81 g (by decide) (by omega), show (if w 80 g = 2 then w 81 g else 1) = ((dN (w 80 g) (w 81 g) : Nat) : Int) from hdn]
            show qG none (d + 1) 35 108 [(2, 23), l1, (2, 79), (0, l3), (0, s2 + ((dN (w 80 g) (w 81 g) : Nat) : Int)), (0, ((g : Nat) : Int)), (0, ((dN (w 80 g) (w 81 g) : Nat) : Int))] [(0, ((dN (w 80 g) (w 81 g) : Nat) : Int)), (0, ((dN (w 80 g) (w 81 g) : Nat) : Int)), (2, 23)] wX 142 Q9
            refine qG.br (P := ((dN (w 80 g) (w 81 g) : Nat) : Int) < ((dN (w 80 g) (w 81 g) : Nat) : Int)) (pc1 := 111) (pc2 := 116) (st1 := [(2, 23)]) rfl (fun h108 => ?_) (fun h108 => ?_)
            · skip
              refine qG.blk 4 (pc' := 123) (ls' := [(2, 23), l1, (2, 79), (0, l3), (0, s2 + ((dN (w 80 g) (w 81 g) : Nat) : Int)), (0, wrp (((g : Nat) : Int) + 1)), (0, ((dN (w 80 g) (w 81 g) : Nat) : Int))]) (st' := []) (w' := (qup wX 23 4 (s2 + ((dN (w 80 g) (w 81 g) : Nat) : Int)))) (n' := 142) rfl ?_
              rw [show wrp (((g : Nat) : Int) + 1) = ((g + 1 : Nat) : Int) from wrp_id (by omega) (by omega)]
              refine qG.blk 1 (pc' := 46) (ls' := [(2, 23), l1, (2, 79), (0, l3), (0, s2 + ((dN (w 80 g) (w 81 g) : Nat) : Int)), (0, ((g + 1 : Nat) : Int)), (0, ((dN (w 80 g) (w 81 g) : Nat) : Int))]) (st' := []) (w' := (qup wX 23 4 (s2 + ((dN (w 80 g) (w 81 g) : Nat) : Int)))) (n' := 142) rfl ?_
              exact absurd h108 (by omega)
            · skip
              refine qG.blk 3 (pc' := 123) (ls' := [(2, 23), l1, (2, 79), (0, l3), (0, s2 + ((dN (w 80 g) (w 81 g) : Nat) : Int)), (0, wrp (((g : Nat) : Int) + 1)), (0, ((dN (w 80 g) (w 81 g) : Nat) : Int))]) (st' := []) (w' := (qup wX 23 4 (-1))) (n' := 142) rfl ?_
              rw [show wrp (((g : Nat) : Int) + 1) = ((g + 1 : Nat) : Int) from wrp_id (by omega) (by omega)]
              refine qG.blk 1 (pc' := 46) (ls' := [(2, 23), l1, (2, 79), (0, l3), (0, s2 + ((dN (w 80 g) (w 81 g) : Nat) : Int)), (0, ((g + 1 : Nat) : Int)), (0, ((dN (w 80 g) (w 81 g) : Nat) : Int))]) (st' := []) (w' := (qup wX 23 4 (-1))) (n' := 142) rfl ?_
              obtain ⟨wN, hwN⟩ : ∃ z : qW, z = (qup wX 23 4 (-1)) := ⟨_, rfl⟩
              rw [← hwN]
              have hIN : yInv zgf zga zra zSp wN := by rw [hwN]; exact zup_f hIX (b := (-2147483648, 2147483647)) rfl rfl rfl ⟨by show (-2147483648 : Int) ≤ _; omega, by show _ ≤ (2147483647 : Int); omega⟩
              have hNf : (∀ q j, ¬ (27 ≤ q ∧ q ≤ 29) → ¬ (q = 23 ∧ 4 ≤ j ∧ j ≤ 5) → wN q j = w q j) := fun q j a b => by rw [hwN, qup_f (by omega)]; exact hXf q j a b
              have hN4 : wN 23 4 = (-1) := by rw [hwN, qup_k]
              have hN27 : ∀ j, sb wN 27 j = sb wX 27 j := fun j => by unfold sb; rw [hwN, qup_nk (by decide)]
              exact ih46 _ (by omega) (g + 1) (s2 + ((dN (w 80 g) (w 81 g) : Nat) : Int)) ((-1)) (wN) ((0, ((dN (w 80 g) (w 81 g) : Nat) : Int))) rfl (⟨by omega, hNf, hIN, hN4, .inl ⟨rfl, by have z := hFL; rcases z with z | z; exact z.2.1; rcases z.2 with z | z; omega; exact z.1, by show _ = ((scF (w 80) (w 81) g + dN (w 80 g) (w 81 g) : Nat) : Int); omega, fun j hj => (hN27 j).trans (hX27 j hj), hXE⟩⟩)
          · skip
            show qG none (d + 1) 35 90 [(2, 23), l1, (2, 79), (0, l3), (0, s2), (0, ((g : Nat) : Int)), l6] [(0, ((e : Nat) : Int))] wX 142 Q9
            refine qG.blk 4 (pc' := 97) (ls' := [(2, 23), l1, (2, 79), (0, l3), (0, s2), (0, ((g : Nat) : Int)), (0, ((e : Nat) : Int))]) (st' := [(0, wrp (s2 + ((e : Nat) : Int)))]) (w' := wX) (n' := 142) rfl ?_
            rw [show wrp (s2 + ((e : Nat) : Int)) = s2 + ((e : Nat) : Int) from wrp_id (by omega) (by omega)]
            refine qG.blk 5 (pc' := 105) (ls' := [(2, 23), l1, (2, 79), (0, l3), (0, s2 + ((e : Nat) : Int)), (0, ((g : Nat) : Int)), (0, ((e : Nat) : Int))]) (st' := [(0, ((g : Nat) : Int)), (2, 79), (0, ((e : Nat) : Int)), (2, 23)]) (w' := wX) (n' := 142) rfl ?_
            refine qG.call (t := 114) (na := 2) (sk := 1) (md := 1) (ls1 := [(2, 79), (0, ((g : Nat) : Int))]) (r1 := [(0, ((e : Nat) : Int)), (2, 23)]) rfl rfl rfl rfl rfl (K_secs79 (Nat.zero_le _) g L hL wX hIX ((hXf 79 2 (by decide) (by omega)).trans hs) (by omega)) ?_
            rintro _ w7 _ ⟨rfl, hw7, rfl⟩
            rw [hw7, hXf 80 g (by decide) (by omega), hXf 81 g (by decide) (by omega), show (if w 80 g = 2 then w 81 g else 1) = ((dN (w 80 g) (w 81 g) : Nat) : Int) from hdn]
            show qG none (d + 1) 35 108 [(2, 23), l1, (2, 79), (0, l3), (0, s2 + ((e : Nat) : Int)), (0, ((g : Nat) : Int)), (0, ((e : Nat) : Int))] [(0, ((dN (w 80 g) (w 81 g) : Nat) : Int)), (0, ((e : Nat) : Int)), (2, 23)] wX 142 Q9
            refine qG.br (P := ((e : Nat) : Int) < ((dN (w 80 g) (w 81 g) : Nat) : Int)) (pc1 := 111) (pc2 := 116) (st1 := [(2, 23)]) rfl (fun h108 => ?_) (fun h108 => ?_)
            · skip
              refine qG.blk 4 (pc' := 123) (ls' := [(2, 23), l1, (2, 79), (0, l3), (0, s2 + ((e : Nat) : Int)), (0, wrp (((g : Nat) : Int) + 1)), (0, ((e : Nat) : Int))]) (st' := []) (w' := (qup wX 23 4 (s2 + ((e : Nat) : Int)))) (n' := 142) rfl ?_
              rw [show wrp (((g : Nat) : Int) + 1) = ((g + 1 : Nat) : Int) from wrp_id (by omega) (by omega)]
              refine qG.blk 1 (pc' := 46) (ls' := [(2, 23), l1, (2, 79), (0, l3), (0, s2 + ((e : Nat) : Int)), (0, ((g + 1 : Nat) : Int)), (0, ((e : Nat) : Int))]) (st' := []) (w' := (qup wX 23 4 (s2 + ((e : Nat) : Int)))) (n' := 142) rfl ?_
              obtain ⟨wN, hwN⟩ : ∃ z : qW, z = (qup wX 23 4 (s2 + ((e : Nat) : Int))) := ⟨_, rfl⟩
              rw [← hwN]
              have hIN : yInv zgf zga zra zSp wN := by rw [hwN]; exact zup_f hIX (b := (-2147483648, 2147483647)) rfl rfl rfl ⟨by show (-2147483648 : Int) ≤ _; omega, by show _ ≤ (2147483647 : Int); omega⟩
              have hNf : (∀ q j, ¬ (27 ≤ q ∧ q ≤ 29) → ¬ (q = 23 ∧ 4 ≤ j ∧ j ≤ 5) → wN q j = w q j) := fun q j a b => by rw [hwN, qup_f (by omega)]; exact hXf q j a b
              have hN4 : wN 23 4 = (s2 + ((e : Nat) : Int)) := by rw [hwN, qup_k]
              have hN27 : ∀ j, sb wN 27 j = sb wX 27 j := fun j => by unfold sb; rw [hwN, qup_nk (by decide)]
              exact ih46 _ (by omega) (g + 1) (s2 + ((e : Nat) : Int)) (s2 + ((e : Nat) : Int)) (wN) ((0, ((e : Nat) : Int))) rfl (⟨by omega, hNf, hIN, hN4, .inr ⟨fun j hj => (hN27 j).trans (hX27 j hj), .inr ⟨hNp, scF (w 80) (w 81) g + e, by have := scF_le (K := w 80) (N := w 81) (show g + 1 ≤ L by omega); have : scF (w 80) (w 81) (g + 1) = scF (w 80) (w 81) g + dN (w 80 g) (w 81 g) := rfl; omega, by omega, hXE, hXE2⟩⟩⟩)
            · skip
              refine qG.blk 3 (pc' := 123) (ls' := [(2, 23), l1, (2, 79), (0, l3), (0, s2 + ((e : Nat) : Int)), (0, wrp (((g : Nat) : Int) + 1)), (0, ((e : Nat) : Int))]) (st' := []) (w' := (qup wX 23 4 (-1))) (n' := 142) rfl ?_
              rw [show wrp (((g : Nat) : Int) + 1) = ((g + 1 : Nat) : Int) from wrp_id (by omega) (by omega)]
              refine qG.blk 1 (pc' := 46) (ls' := [(2, 23), l1, (2, 79), (0, l3), (0, s2 + ((e : Nat) : Int)), (0, ((g + 1 : Nat) : Int)), (0, ((e : Nat) : Int))]) (st' := []) (w' := (qup wX 23 4 (-1))) (n' := 142) rfl ?_
              exact absurd he (by omega)
        · skip
          refine qG.blk 3 (pc' := 131) (ls' := [(2, 23), l1, (2, 79), (0, l3), (0, s2), (0, ((g : Nat) : Int)), l6]) (st' := [(2, wS 23 1), (2, 23)]) (w' := wS) (n' := 142) rfl ?_
          rw [show wS 23 1 = 27 from (hSf 23 1 (by decide) (by omega)).trans (zref hI rfl rfl)]
          refine qG.call (t := 52) (na := 1) (sk := 0) (md := 0) (ls1 := [(2, 27), (9, 0), (9, 0), (9, 0), (9, 0), (9, 0), (9, 0)]) (r1 := [(2, 23)]) rfl rfl rfl rfl rfl (K_howM27 (by omega) wS) ?_
          rintro _ w7 _ ⟨rfl, hw7, rfl⟩
          rw [hw7]
          show qG none (d + 1) 35 134 [(2, 23), l1, (2, 79), (0, l3), (0, s2), (0, ((g : Nat) : Int)), l6] [(0, ((ctb (fun j => sb wS 27 j) 192 : Nat) : Int)), (2, 23)] wS 142 Q9
          refine qG.blk 1 (pc' := 137) (ls' := [(2, 23), l1, (2, 79), (0, l3), (0, s2), (0, ((g : Nat) : Int)), l6]) (st' := []) (w' := (qup wS 23 5 ((ctb (fun j => sb wS 27 j) 192 : Nat) : Int))) (n' := 142) rfl ?_
          refine qG.retv rfl rfl ?_
          subst hQ9
          refine ⟨rfl, rfl, zup_f hIS (b := (-2147483648, 2147483647)) rfl rfl rfl ⟨by show (-2147483648 : Int) ≤ _; omega, by have := ctbL_le (f := fun j => sb wS 27 j) 192; show _ ≤ (2147483647 : Int); omega⟩, fun q j a b => by rw [qup_f (by omega)]; exact hSf q j a b, ?_⟩
          rw [qup_k, qup_j (show (4 : Nat) ≠ 5 by decide), hfl]
          exact hFL.sp hT.1 _ (fun z => by first | (rw [show g = L by omega]; done) | exact absurd z hf60)
      · skip
        refine qG.blk 3 (pc' := 131) (ls' := [(2, 23), l1, (2, 79), (0, l3), (0, s2), (0, ((g : Nat) : Int)), l6]) (st' := [(2, wS 23 1), (2, 23)]) (w' := wS) (n' := 142) rfl ?_
        rw [show wS 23 1 = 27 from (hSf 23 1 (by decide) (by omega)).trans (zref hI rfl rfl)]
        refine qG.call (t := 52) (na := 1) (sk := 0) (md := 0) (ls1 := [(2, 27), (9, 0), (9, 0), (9, 0), (9, 0), (9, 0), (9, 0)]) (r1 := [(2, 23)]) rfl rfl rfl rfl rfl (K_howM27 (by omega) wS) ?_
        rintro _ w7 _ ⟨rfl, hw7, rfl⟩
        rw [hw7]
        show qG none (d + 1) 35 134 [(2, 23), l1, (2, 79), (0, l3), (0, s2), (0, ((g : Nat) : Int)), l6] [(0, ((ctb (fun j => sb wS 27 j) 192 : Nat) : Int)), (2, 23)] wS 142 Q9
        refine qG.blk 1 (pc' := 137) (ls' := [(2, 23), l1, (2, 79), (0, l3), (0, s2), (0, ((g : Nat) : Int)), l6]) (st' := []) (w' := (qup wS 23 5 ((ctb (fun j => sb wS 27 j) 192 : Nat) : Int))) (n' := 142) rfl ?_
        refine qG.retv rfl rfl ?_
        subst hQ9
        refine ⟨rfl, rfl, zup_f hIS (b := (-2147483648, 2147483647)) rfl rfl rfl ⟨by show (-2147483648 : Int) ≤ _; omega, by have := ctbL_le (f := fun j => sb wS 27 j) 192; show _ ≤ (2147483647 : Int); omega⟩, fun q j a b => by rw [qup_f (by omega)]; exact hSf q j a b, ?_⟩
        rw [qup_k, qup_j (show (4 : Nat) ≠ 5 by decide), hfl]
        exact hFL.sp hT.1 _ (fun z => by first | (rw [show g = L by omega]; done) | exact absurd z hf60)
    exact L46 _ (0) (0) ((-1)) (w2) ((9, 0)) rfl (⟨Nat.zero_le _, h2f, hI2, h24, .inl ⟨rfl, hNp, rfl, h227, hz0_E hNp⟩⟩)
  · skip
    have hN0 : N = 0 := by
      by_cases y : ctb (fun j => sb w1 27 j) 192 = 0
      · by_cases z : N = 0
        · exact z
        · have q := ctb_0.mp y 0 (by decide); rw [h127 0 (by decide)] at q; have q : decide (0 < N) = false := q; rw [decide_eq_true (by omega)] at q; cases q
      · rw [if_neg y] at hem; exact absurd rfl hem
    refine qG.blk 7 (pc' := 46) (ls' := [(2, 23), l1, (2, 79), (0, l3), (0, 0), (0, 0), (9, 0)]) (st' := []) (w' := (qup w1 23 4 0)) (n' := 142) rfl ?_
    obtain ⟨w2, hw2⟩ : ∃ z : qW, z = (qup w1 23 4 0) := ⟨_, rfl⟩
    rw [← hw2]
    have hI2 : yInv zgf zga zra zSp w2 := by rw [hw2]; exact zup_f hI1 (b := (-2147483648, 2147483647)) rfl rfl rfl ⟨by decide, by decide⟩
    have h2f : (∀ q j, ¬ (27 ≤ q ∧ q ≤ 29) → ¬ (q = 23 ∧ 4 ≤ j ∧ j ≤ 5) → w2 q j = w q j) := fun q j a b => by rw [hw2, qup_f (by omega)]; exact h1f q j a b
    have h24 : w2 23 4 = 0 := by rw [hw2, qup_k]
    have h227 : HOLD w2 27 (hz N P M V 0) := fun j hj => by rw [show sb w2 27 j = sb w1 27 j from by unfold sb; rw [hw2, qup_nk (by decide)]]; exact h127 j hj
    have L46_1 : ∀ (m9 : Nat) (g : Nat) (s2 fl : Int) (wS : qW) (l6 : qV), L - g = m9 → (g ≤ L ∧ (∀ q j, ¬ (27 ≤ q ∧ q ≤ 29) → ¬ (q = 23 ∧ 4 ≤ j ∧ j ≤ 5) → wS q j = w q j) ∧ yInv zgf zga zra zSp wS ∧ wS 23 4 = fl ∧ FLW N P M V (scF (w 80) (w 81) g) (scF (w 80) (w 81) L) fl s2 wS) → qG none (d + 1) 35 46 [(2, 23), l1, (2, 79), (0, l3), (0, s2), (0, ((g : Nat) : Int)), l6] [] wS 142 Q9 := by
      intro m9
      induction m9 using Nat.strongRecOn with
      | ind m9 ih46 =>
      intro g s2 fl wS l6 hm46 hI46
      obtain ⟨hgL, hSf, hIS, hfl, hFL⟩ := hI46
      have hTS := hT.cg (w1 := wS) (fun q j h => hSf q j (by omega) (by omega))
      refine qG.blk 2 (pc' := 49) (ls' := [(2, 23), l1, (2, 79), (0, l3), (0, s2), (0, ((g : Nat) : Int)), l6]) (st' := [(2, 79), (0, ((g : Nat) : Int))]) (w' := wS) (n' := 142) rfl ?_
      refine qG.call (t := 110) (na := 1) (sk := 1) (md := 1) (ls1 := [(2, 79)]) (r1 := [(0, ((g : Nat) : Int))]) rfl rfl rfl rfl rfl (K_stepC79 (Nat.zero_le _) wS (x := ((L : Nat) : Int)) ((hSf 79 2 (by decide) (by omega)).trans hs)) ?_
      rintro _ w7 _ ⟨rfl, hw7, rfl⟩
      rw [hw7]
      show qG none (d + 1) 35 52 [(2, 23), l1, (2, 79), (0, l3), (0, s2), (0, ((g : Nat) : Int)), l6] [(0, ((L : Nat) : Int)), (0, ((g : Nat) : Int))] wS 142 Q9
      refine qG.br (P := ((g : Nat) : Int) < ((L : Nat) : Int)) (pc1 := 55) (pc2 := 126) (st1 := []) rfl (fun hgL2 => ?_) (fun hgL2 => ?_)
      · skip
        refine qG.blk 2 (pc' := 59) (ls' := [(2, 23), l1, (2, 79), (0, l3), (0, s2), (0, ((g : Nat) : Int)), l6]) (st' := [(0, wS 23 4)]) (w' := wS) (n' := 142) rfl ?_
        rw [show wS 23 4 = fl from hfl]
        refine qG.blk 1 (pc' := 60) (ls' := [(2, 23), l1, (2, 79), (0, l3), (0, s2), (0, ((g : Nat) : Int)), l6]) (st' := [(0, (-1)), (0, fl)]) (w' := wS) (n' := 142) rfl ?_
        refine qG.br (P := fl = (-1)) (pc1 := 63) (pc2 := 126) (st1 := []) rfl (fun hf60 => ?_) (fun hf60 => ?_)
        · skip
          obtain ⟨-, hNp, hs2, hH27, hnE⟩ : fl = -1 ∧ 0 < N ∧ s2 = ((scF (w 80) (w 81) g : Nat) : Int) ∧ HOLD wS 27 (hz N P M V (scF (w 80) (w 81) g)) ∧ ¬ hzE (hz N P M V (scF (w 80) (w 81) g)) := by
            rcases hFL with z | ⟨-, ⟨-, z⟩ | ⟨-, f, -, z, -⟩⟩
            · exact z
            · omega
            · omega
          have hdn : (if w 80 g = 2 then w 81 g else 1) = ((dN (w 80 g) (w 81 g) : Nat) : Int) := by have z := sc_s hKW (show g < L by omega); have y : ((scF (w 80) (w 81) (g + 1) : Nat) : Int) = ((scF (w 80) (w 81) g : Nat) : Int) + ((dN (w 80 g) (w 81 g) : Nat) : Int) := rfl; omega
          have hd20 : dN (w 80 g) (w 81 g) ≤ 20 := by have z := sc_le hKW (g + 1) (by omega); have q := hKW g (by omega); by_cases y : w 80 g = 2; rw [if_pos y] at hdn; have := q y; omega; rw [if_neg y] at hdn; omega
          have hsc := sc_le hKW g (by omega)
          refine qG.blk 2 (pc' := 67) (ls' := [(2, 23), l1, (2, 79), (0, l3), (0, s2), (0, ((g : Nat) : Int)), l6]) (st' := [(2, wS 23 0)]) (w' := wS) (n' := 142) rfl ?_
          rw [show wS 23 0 = 24 from (hSf 23 0 (by decide) (by omega)).trans (zref hI rfl rfl)]
          refine qG.blk 2 (pc' := 70) (ls' := [(2, 23), l1, (2, 79), (0, l3), (0, s2), (0, ((g : Nat) : Int)), l6]) (st' := [(0, ((g : Nat) : Int)), (2, 79), (2, 24)]) (w' := wS) (n' := 142) rfl ?_
          refine qG.call (t := 115) (na := 2) (sk := 1) (md := 1) (ls1 := [(2, 79), (0, ((g : Nat) : Int))]) (r1 := [(2, 24)]) rfl rfl rfl rfl rfl (K_vwOf79 (Nat.zero_le _) g L hL wS hIS ((hSf 79 2 (by decide) (by omega)).trans hs) (by omega)) ?_
          rintro _ w7 _ ⟨rfl, hw7, rfl⟩
          rw [hw7, hSf 82 g (by decide) (by omega)]
          show qG none (d + 1) 35 73 [(2, 23), l1, (2, 79), (0, l3), (0, s2), (0, ((g : Nat) : Int)), l6] [(0, w 82 g), (2, 24)] wS 142 Q9
          refine qG.blk 2 (pc' := 77) (ls' := [(2, 23), l1, (2, 79), (0, l3), (0, s2), (0, ((g : Nat) : Int)), l6]) (st' := [(2, wS 23 3), (0, w 82 g), (2, 24)]) (w' := wS) (n' := 142) rfl ?_
          rw [show wS 23 3 = 29 from (hSf 23 3 (by decide) (by omega)).trans (zref hI rfl rfl)]
          refine qG.call (t := 103) (na := 3) (sk := 1) (md := 1) (ls1 := [(2, 24), (0, w 82 g), (2, 29), (9, 0), (9, 0)]) (r1 := []) rfl rfl rfl rfl rfl (K_unseen29 (by omega) (w 82 g) N hT.1 wS hIS (hTS.2.1)) ?_
          rintro _ wU _ ⟨rfl, rfl, hRU⟩
          have hIU := hRU.2.2
          have hUf : (∀ q j, ¬ (27 ≤ q ∧ q ≤ 29) → ¬ (q = 23 ∧ 4 ≤ j ∧ j ≤ 5) → wU q j = w q j) := fun q j a b => (hRU.2.1 q j (by omega)).trans (hSf q j a b)
          have hTU := hTS.cg (w1 := wU) (fun q j h => hRU.2.1 q j (by omega))
          have hU27 : HOLD wU 27 (hz N P M V (scF (w 80) (w 81) g)) := fun j hj => by rw [hRU.o (by decide)]; exact hH27 j hj
          have hU29 : HOLD wU 29 (fun j => decide (j < N) && decide (qand (P j) (w 82 g) = 0)) := fun j hj => by
            rw [show sb wU 29 j = (decide (j < N) && decide (qand (wS 25 j) (w 82 g) = 0)) from hRU.1 j hj]
            show _ = (decide (j < N) && decide (qand (P j) (w 82 g) = 0))
            by_cases hjN : j < N
            · rw [hTS.2.2.1 j hjN]
            · rw [decide_eq_false hjN, Bool.false_and, Bool.false_and]
          show qG none (d + 1) 35 80 [(2, 23), l1, (2, 79), (0, l3), (0, s2), (0, ((g : Nat) : Int)), l6] [] wU 142 Q9
          refine qG.blk 3 (pc' := 84) (ls' := [(2, 23), l1, (2, 79), (0, l3), (0, s2), (0, ((g : Nat) : Int)), l6]) (st' := [(0, ((g : Nat) : Int)), (2, 79), (2, 23)]) (w' := wU) (n' := 142) rfl ?_
          refine qG.call (t := 114) (na := 2) (sk := 1) (md := 1) (ls1 := [(2, 79), (0, ((g : Nat) : Int))]) (r1 := [(2, 23)]) rfl rfl rfl rfl rfl (K_secs79 (Nat.zero_le _) g L hL wU hIU ((hUf 79 2 (by decide) (by omega)).trans hs) (by omega)) ?_
          rintro _ w7 _ ⟨rfl, hw7, rfl⟩
          rw [hw7, hUf 80 g (by decide) (by omega), hUf 81 g (by decide) (by omega), show (if w 80 g = 2 then w 81 g else 1) = ((dN (w 80 g) (w 81 g) : Nat) : Int) from hdn]
          show qG none (d + 1) 35 87 [(2, 23), l1, (2, 79), (0, l3), (0, s2), (0, ((g : Nat) : Int)), l6] [(0, ((dN (w 80 g) (w 81 g) : Nat) : Int)), (2, 23)] wU 142 Q9
          refine qG.call (t := 36) (na := 2) (sk := 1) (md := 1) (ls1 := [(2, 23), (0, ((dN (w 80 g) (w 81 g) : Nat) : Int)), (9, 0)]) (r1 := []) rfl rfl rfl rfl rfl (K_stayU (by omega) N P M V (scF (w 80) (w 81) g) (dN (w 80 g) (w 81 g)) (w 82 g) (by omega) (fun u hu => hVV g (by omega) u hu) wU hIU hTU hU27 hU29 hnE) ?_
          rintro _ wX _ ⟨rfl, hX9, hIX, ⟨rfl, hX27, hXE⟩ | ⟨e, he, rfl, hX27, hXE, hXE2⟩⟩ <;> have hXf : (∀ q j, ¬ (27 ≤ q ∧ q ≤ 29) → ¬ (q = 23 ∧ 4 ≤ j ∧ j ≤ 5) → wX q j = w q j) := fun q j a b => (hX9 q j (by omega) (by omega)).trans (hUf q j a b)
          · skip
            show qG none (d + 1) 35 90 [(2, 23), l1, (2, 79), (0, l3), (0, s2), (0, ((g : Nat) : Int)), l6] [(0, ((dN (w 80 g) (w 81 g) : Nat) : Int))] wX 142 Q9
            refine qG.blk 4 (pc' := 97) (ls' := [(2, 23), l1, (2, 79), (0, l3), (0, s2), (0, ((g : Nat) : Int)), (0, ((dN (w 80 g) (w 81 g) : Nat) : Int))]) (st' := [(0, wrp (s2 + ((dN (w 80 g) (w 81 g) : Nat) : Int)))]) (w' := wX) (n' := 142) rfl ?_
            rw [show wrp (s2 + ((dN (w 80 g) (w 81 g) : Nat) : Int)) = s2 + ((dN (w 80 g) (w 81 g) : Nat) : Int) from wrp_id (by omega) (by omega)]
            refine qG.blk 5 (pc' := 105) (ls' := [(2, 23), l1, (2, 79), (0, l3), (0, s2 + ((dN (w 80 g) (w 81 g) : Nat) : Int)), (0, ((g : Nat) : Int)), (0, ((dN (w 80 g) (w 81 g) : Nat) : Int))]) (st' := [(0, ((g : Nat) : Int)), (2, 79), (0, ((dN (w 80 g) (w 81 g) : Nat) : Int)), (2, 23)]) (w' := wX) (n' := 142) rfl ?_
            refine qG.call (t := 114) (na := 2) (sk := 1) (md := 1) (ls1 := [(2, 79), (0, ((g : Nat) : Int))]) (r1 := [(0, ((dN (w 80 g) (w 81 g) : Nat) : Int)), (2, 23)]) rfl rfl rfl rfl rfl (K_secs79 (Nat.zero_le _) g L hL wX hIX ((hXf 79 2 (by decide) (by omega)).trans hs) (by omega)) ?_
            rintro _ w7 _ ⟨rfl, hw7, rfl⟩
            rw [hw7, hXf 80 g (by decide) (by omega), hXf 81 g (by decide) (by omega), show (if w 80 g = 2 then w 81 g else 1) = ((dN (w 80 g) (w 81 g) : Nat) : Int) from hdn]
            show qG none (d + 1) 35 108 [(2, 23), l1, (2, 79), (0, l3), (0, s2 + ((dN (w 80 g) (w 81 g) : Nat) : Int)), (0, ((g : Nat) : Int)), (0, ((dN (w 80 g) (w 81 g) : Nat) : Int))] [(0, ((dN (w 80 g) (w 81 g) : Nat) : Int)), (0, ((dN (w 80 g) (w 81 g) : Nat) : Int)), (2, 23)] wX 142 Q9
            refine qG.br (P := ((dN (w 80 g) (w 81 g) : Nat) : Int) < ((dN (w 80 g) (w 81 g) : Nat) : Int)) (pc1 := 111) (pc2 := 116) (st1 := [(2, 23)]) rfl (fun h108 => ?_) (fun h108 => ?_)
            · skip
              refine qG.blk 4 (pc' := 123) (ls' := [(2, 23), l1, (2, 79), (0, l3), (0, s2 + ((dN (w 80 g) (w 81 g) : Nat) : Int)), (0, wrp (((g : Nat) : Int) + 1)), (0, ((dN (w 80 g) (w 81 g) : Nat) : Int))]) (st' := []) (w' := (qup wX 23 4 (s2 + ((dN (w 80 g) (w 81 g) : Nat) : Int)))) (n' := 142) rfl ?_
              rw [show wrp (((g : Nat) : Int) + 1) = ((g + 1 : Nat) : Int) from wrp_id (by omega) (by omega)]
              refine qG.blk 1 (pc' := 46) (ls' := [(2, 23), l1, (2, 79), (0, l3), (0, s2 + ((dN (w 80 g) (w 81 g) : Nat) : Int)), (0, ((g + 1 : Nat) : Int)), (0, ((dN (w 80 g) (w 81 g) : Nat) : Int))]) (st' := []) (w' := (qup wX 23 4 (s2 + ((dN (w 80 g) (w 81 g) : Nat) : Int)))) (n' := 142) rfl ?_
              exact absurd h108 (by omega)
            · skip
              refine qG.blk 3 (pc' := 123) (ls' := [(2, 23), l1, (2, 79), (0, l3), (0, s2 + ((dN (w 80 g) (w 81 g) : Nat) : Int)), (0, wrp (((g : Nat) : Int) + 1)), (0, ((dN (w 80 g) (w 81 g) : Nat) : Int))]) (st' := []) (w' := (qup wX 23 4 (-1))) (n' := 142) rfl ?_
              rw [show wrp (((g : Nat) : Int) + 1) = ((g + 1 : Nat) : Int) from wrp_id (by omega) (by omega)]
              refine qG.blk 1 (pc' := 46) (ls' := [(2, 23), l1, (2, 79), (0, l3), (0, s2 + ((dN (w 80 g) (w 81 g) : Nat) : Int)), (0, ((g + 1 : Nat) : Int)), (0, ((dN (w 80 g) (w 81 g) : Nat) : Int))]) (st' := []) (w' := (qup wX 23 4 (-1))) (n' := 142) rfl ?_
              obtain ⟨wN, hwN⟩ : ∃ z : qW, z = (qup wX 23 4 (-1)) := ⟨_, rfl⟩
              rw [← hwN]
              have hIN : yInv zgf zga zra zSp wN := by rw [hwN]; exact zup_f hIX (b := (-2147483648, 2147483647)) rfl rfl rfl ⟨by show (-2147483648 : Int) ≤ _; omega, by show _ ≤ (2147483647 : Int); omega⟩
              have hNf : (∀ q j, ¬ (27 ≤ q ∧ q ≤ 29) → ¬ (q = 23 ∧ 4 ≤ j ∧ j ≤ 5) → wN q j = w q j) := fun q j a b => by rw [hwN, qup_f (by omega)]; exact hXf q j a b
              have hN4 : wN 23 4 = (-1) := by rw [hwN, qup_k]
              have hN27 : ∀ j, sb wN 27 j = sb wX 27 j := fun j => by unfold sb; rw [hwN, qup_nk (by decide)]
              exact ih46 _ (by omega) (g + 1) (s2 + ((dN (w 80 g) (w 81 g) : Nat) : Int)) ((-1)) (wN) ((0, ((dN (w 80 g) (w 81 g) : Nat) : Int))) rfl (⟨by omega, hNf, hIN, hN4, .inl ⟨rfl, by have z := hFL; rcases z with z | z; exact z.2.1; rcases z.2 with z | z; omega; exact z.1, by show _ = ((scF (w 80) (w 81) g + dN (w 80 g) (w 81 g) : Nat) : Int); omega, fun j hj => (hN27 j).trans (hX27 j hj), hXE⟩⟩)
          · skip
            show qG none (d + 1) 35 90 [(2, 23), l1, (2, 79), (0, l3), (0, s2), (0, ((g : Nat) : Int)), l6] [(0, ((e : Nat) : Int))] wX 142 Q9
            refine qG.blk 4 (pc' := 97) (ls' := [(2, 23), l1, (2, 79), (0, l3), (0, s2), (0, ((g : Nat) : Int)), (0, ((e : Nat) : Int))]) (st' := [(0, wrp (s2 + ((e : Nat) : Int)))]) (w' := wX) (n' := 142) rfl ?_
            rw [show wrp (s2 + ((e : Nat) : Int)) = s2 + ((e : Nat) : Int) from wrp_id (by omega) (by omega)]
            refine qG.blk 5 (pc' := 105) (ls' := [(2, 23), l1, (2, 79), (0, l3), (0, s2 + ((e : Nat) : Int)), (0, ((g : Nat) : Int)), (0, ((e : Nat) : Int))]) (st' := [(0, ((g : Nat) : Int)), (2, 79), (0, ((e : Nat) : Int)), (2, 23)]) (w' := wX) (n' := 142) rfl ?_
            refine qG.call (t := 114) (na := 2) (sk := 1) (md := 1) (ls1 := [(2, 79), (0, ((g : Nat) : Int))]) (r1 := [(0, ((e : Nat) : Int)), (2, 23)]) rfl rfl rfl rfl rfl (K_secs79 (Nat.zero_le _) g L hL wX hIX ((hXf 79 2 (by decide) (by omega)).trans hs) (by omega)) ?_
            rintro _ w7 _ ⟨rfl, hw7, rfl⟩
            rw [hw7, hXf 80 g (by decide) (by omega), hXf 81 g (by decide) (by omega), show (if w 80 g = 2 then w 81 g else 1) = ((dN (w 80 g) (w 81 g) : Nat) : Int) from hdn]
            show qG none (d + 1) 35 108 [(2, 23), l1, (2, 79), (0, l3), (0, s2 + ((e : Nat) : Int)), (0, ((g : Nat) : Int)), (0, ((e : Nat) : Int))] [(0, ((dN (w 80 g) (w 81 g) : Nat) : Int)), (0, ((e : Nat) : Int)), (2, 23)] wX 142 Q9
            refine qG.br (P := ((e : Nat) : Int) < ((dN (w 80 g) (w 81 g) : Nat) : Int)) (pc1 := 111) (pc2 := 116) (st1 := [(2, 23)]) rfl (fun h108 => ?_) (fun h108 => ?_)
            · skip
              refine qG.blk 4 (pc' := 123) (ls' := [(2, 23), l1, (2, 79), (0, l3), (0, s2 + ((e : Nat) : Int)), (0, wrp (((g : Nat) : Int) + 1)), (0, ((e : Nat) : Int))]) (st' := []) (w' := (qup wX 23 4 (s2 + ((e : Nat) : Int)))) (n' := 142) rfl ?_
              rw [show wrp (((g : Nat) : Int) + 1) = ((g + 1 : Nat) : Int) from wrp_id (by omega) (by omega)]
              refine qG.blk 1 (pc' := 46) (ls' := [(2, 23), l1, (2, 79), (0, l3), (0, s2 + ((e : Nat) : Int)), (0, ((g + 1 : Nat) : Int)), (0, ((e : Nat) : Int))]) (st' := []) (w' := (qup wX 23 4 (s2 + ((e : Nat) : Int)))) (n' := 142) rfl ?_
              obtain ⟨wN, hwN⟩ : ∃ z : qW, z = (qup wX 23 4 (s2 + ((e : Nat) : Int))) := ⟨_, rfl⟩
              rw [← hwN]
              have hIN : yInv zgf zga zra zSp wN := by rw [hwN]; exact zup_f hIX (b := (-2147483648, 2147483647)) rfl rfl rfl ⟨by show (-2147483648 : Int) ≤ _; omega, by show _ ≤ (2147483647 : Int); omega⟩
              have hNf : (∀ q j, ¬ (27 ≤ q ∧ q ≤ 29) → ¬ (q = 23 ∧ 4 ≤ j ∧ j ≤ 5) → wN q j = w q j) := fun q j a b => by rw [hwN, qup_f (by omega)]; exact hXf q j a b
              have hN4 : wN 23 4 = (s2 + ((e : Nat) : Int)) := by rw [hwN, qup_k]
              have hN27 : ∀ j, sb wN 27 j = sb wX 27 j := fun j => by unfold sb; rw [hwN, qup_nk (by decide)]
              exact ih46 _ (by omega) (g + 1) (s2 + ((e : Nat) : Int)) (s2 + ((e : Nat) : Int)) (wN) ((0, ((e : Nat) : Int))) rfl (⟨by omega, hNf, hIN, hN4, .inr ⟨fun j hj => (hN27 j).trans (hX27 j hj), .inr ⟨hNp, scF (w 80) (w 81) g + e, by have := scF_le (K := w 80) (N := w 81) (show g + 1 ≤ L by omega); have : scF (w 80) (w 81) (g + 1) = scF (w 80) (w 81) g + dN (w 80 g) (w 81 g) := rfl; omega, by omega, hXE, hXE2⟩⟩⟩)
            · skip
              refine qG.blk 3 (pc' := 123) (ls' := [(2, 23), l1, (2, 79), (0, l3), (0, s2 + ((e : Nat) : Int)), (0, wrp (((g : Nat) : Int) + 1)), (0, ((e : Nat) : Int))]) (st' := []) (w' := (qup wX 23 4 (-1))) (n' := 142) rfl ?_
              rw [show wrp (((g : Nat) : Int) + 1) = ((g + 1 : Nat) : Int) from wrp_id (by omega) (by omega)]
              refine qG.blk 1 (pc' := 46) (ls' := [(2, 23), l1, (2, 79), (0, l3), (0, s2 + ((e : Nat) : Int)), (0, ((g + 1 : Nat) : Int)), (0, ((e : Nat) : Int))]) (st' := []) (w' := (qup wX 23 4 (-1))) (n' := 142) rfl ?_
              exact absurd he (by omega)
        · skip
          refine qG.blk 3 (pc' := 131) (ls' := [(2, 23), l1, (2, 79), (0, l3), (0, s2), (0, ((g : Nat) : Int)), l6]) (st' := [(2, wS 23 1), (2, 23)]) (w' := wS) (n' := 142) rfl ?_
          rw [show wS 23 1 = 27 from (hSf 23 1 (by decide) (by omega)).trans (zref hI rfl rfl)]
          refine qG.call (t := 52) (na := 1) (sk := 0) (md := 0) (ls1 := [(2, 27), (9, 0), (9, 0), (9, 0), (9, 0), (9, 0), (9, 0)]) (r1 := [(2, 23)]) rfl rfl rfl rfl rfl (K_howM27 (by omega) wS) ?_
          rintro _ w7 _ ⟨rfl, hw7, rfl⟩
          rw [hw7]
          show qG none (d + 1) 35 134 [(2, 23), l1, (2, 79), (0, l3), (0, s2), (0, ((g : Nat) : Int)), l6] [(0, ((ctb (fun j => sb wS 27 j) 192 : Nat) : Int)), (2, 23)] wS 142 Q9
          refine qG.blk 1 (pc' := 137) (ls' := [(2, 23), l1, (2, 79), (0, l3), (0, s2), (0, ((g : Nat) : Int)), l6]) (st' := []) (w' := (qup wS 23 5 ((ctb (fun j => sb wS 27 j) 192 : Nat) : Int))) (n' := 142) rfl ?_
          refine qG.retv rfl rfl ?_
          subst hQ9
          refine ⟨rfl, rfl, zup_f hIS (b := (-2147483648, 2147483647)) rfl rfl rfl ⟨by show (-2147483648 : Int) ≤ _; omega, by have := ctbL_le (f := fun j => sb wS 27 j) 192; show _ ≤ (2147483647 : Int); omega⟩, fun q j a b => by rw [qup_f (by omega)]; exact hSf q j a b, ?_⟩
          rw [qup_k, qup_j (show (4 : Nat) ≠ 5 by decide), hfl]
          exact hFL.sp hT.1 _ (fun z => by first | (rw [show g = L by omega]; done) | exact absurd z hf60)
      · skip
        refine qG.blk 3 (pc' := 131) (ls' := [(2, 23), l1, (2, 79), (0, l3), (0, s2), (0, ((g : Nat) : Int)), l6]) (st' := [(2, wS 23 1), (2, 23)]) (w' := wS) (n' := 142) rfl ?_
        rw [show wS 23 1 = 27 from (hSf 23 1 (by decide) (by omega)).trans (zref hI rfl rfl)]
        refine qG.call (t := 52) (na := 1) (sk := 0) (md := 0) (ls1 := [(2, 27), (9, 0), (9, 0), (9, 0), (9, 0), (9, 0), (9, 0)]) (r1 := [(2, 23)]) rfl rfl rfl rfl rfl (K_howM27 (by omega) wS) ?_
        rintro _ w7 _ ⟨rfl, hw7, rfl⟩
        rw [hw7]
        show qG none (d + 1) 35 134 [(2, 23), l1, (2, 79), (0, l3), (0, s2), (0, ((g : Nat) : Int)), l6] [(0, ((ctb (fun j => sb wS 27 j) 192 : Nat) : Int)), (2, 23)] wS 142 Q9
        refine qG.blk 1 (pc' := 137) (ls' := [(2, 23), l1, (2, 79), (0, l3), (0, s2), (0, ((g : Nat) : Int)), l6]) (st' := []) (w' := (qup wS 23 5 ((ctb (fun j => sb wS 27 j) 192 : Nat) : Int))) (n' := 142) rfl ?_
        refine qG.retv rfl rfl ?_
        subst hQ9
        refine ⟨rfl, rfl, zup_f hIS (b := (-2147483648, 2147483647)) rfl rfl rfl ⟨by show (-2147483648 : Int) ≤ _; omega, by have := ctbL_le (f := fun j => sb wS 27 j) 192; show _ ≤ (2147483647 : Int); omega⟩, fun q j a b => by rw [qup_f (by omega)]; exact hSf q j a b, ?_⟩
        rw [qup_k, qup_j (show (4 : Nat) ≠ 5 by decide), hfl]
        exact hFL.sp hT.1 _ (fun z => by first | (rw [show g = L by omega]; done) | exact absurd z hf60)
    exact L46_1 _ (0) (0) (0) (w2) ((9, 0)) rfl (⟨Nat.zero_le _, h2f, hI2, h24, .inr ⟨fun j hj => (h227 j hj).trans (by show decide (j < N) = false; exact decide_eq_false (by omega)), .inl ⟨hN0, rfl⟩⟩⟩)
theorem K_flwB83 {d : Nat} (hd : 4 ≤ d) (N : Nat) (P : Nat → Int) (M : Nat → Nat → Bool) (V : Nat → Int) (L : Nat) (hL : L ≤ 40) (w : qW) (hI : yInv zgf zga zra zSp w) (hs : w 83 2 = (L : Int)) (hKW : KNw (w 84) (w 85) L) (hT : CTB N P M w) (hVV : ∀ g, g < L → ∀ u, u < dN (w 84 g) (w 85 g) → V (scF (w 84) (w 85) g + u) = w 86 g) (l1 : qV) (l3 : Int) : qG none d 35 9 [(2, 23), l1, (2, 83), (0, l3), (9, 0), (9, 0), (9, 0)] [] w 142 (fun (r : qV) (w1 : qW) (n1 : Nat) => r = (9, 0) ∧ n1 = 142 ∧ yInv zgf zga zra zSp w1 ∧ (∀ q j, ¬ (27 ≤ q ∧ q ≤ 29) → ¬ (q = 23 ∧ 4 ≤ j ∧ j ≤ 5) → w1 q j = w q j) ∧ HSP N P M V (scF (w 84) (w 85) L) (w1 23 4) (w1 23 5)) := by
  generalize hQ9 : (fun (r : qV) (w1 : qW) (n1 : Nat) => r = (9, 0) ∧ n1 = 142 ∧ yInv zgf zga zra zSp w1 ∧ (∀ q j, ¬ (27 ≤ q ∧ q ≤ 29) → ¬ (q = 23 ∧ 4 ≤ j ∧ j ≤ 5) → w1 q j = w q j) ∧ HSP N P M V (scF (w 84) (w 85) L) (w1 23 4) (w1 23 5)) = Q9
  obtain ⟨d, rfl⟩ : ∃ d9, d = d9 + 1 := ⟨d - 1, by omega⟩
  refine qG.blk 2 (pc' := 13) (ls' := [(2, 23), l1, (2, 83), (0, l3), (9, 0), (9, 0), (9, 0)]) (st' := [(2, w 23 0)]) (w' := w) (n' := 142) rfl ?_
  rw [show w 23 0 = 24 from zref hI rfl rfl]
  refine qG.blk 3 (pc' := 18) (ls' := [(2, 23), l1, (2, 83), (0, l3), (9, 0), (9, 0), (9, 0)]) (st' := [(2, w 23 1), (0, 0), (2, 24)]) (w' := w) (n' := 142) rfl ?_
  rw [show w 23 1 = 27 from zref hI rfl rfl]
  refine qG.call (t := 103) (na := 3) (sk := 1) (md := 1) (ls1 := [(2, 24), (0, 0), (2, 27), (9, 0), (9, 0)]) (r1 := []) rfl rfl rfl rfl rfl (K_unseen27 (by omega) 0 N hT.1 w hI hT.2.1) ?_
  rintro _ w1 _ ⟨rfl, rfl, hR1⟩
  have h1f : (∀ q j, ¬ (27 ≤ q ∧ q ≤ 29) → ¬ (q = 23 ∧ 4 ≤ j ∧ j ≤ 5) → w1 q j = w q j) := fun q j a b => hR1.2.1 q j (by omega)
  have hI1 := hR1.2.2
  have h127 : HOLD w1 27 (hz N P M V 0) := fun j hj => by rw [show sb w1 27 j = (decide (j < N) && decide (qand (w 25 j) 0 = 0)) from hR1.1 j hj, qand_z0, decide_eq_true rfl, Bool.and_true]; rfl
  show qG none (d + 1) 35 21 [(2, 23), l1, (2, 83), (0, l3), (9, 0), (9, 0), (9, 0)] [] w1 142 Q9
  refine qG.blk 3 (pc' := 26) (ls' := [(2, 23), l1, (2, 83), (0, l3), (9, 0), (9, 0), (9, 0)]) (st' := [(2, w1 23 1), (2, 23)]) (w' := w1) (n' := 142) rfl ?_
  rw [show w1 23 1 = 27 from (h1f 23 1 (by decide) (by omega)).trans (zref hI rfl rfl)]
  refine qG.call (t := 51) (na := 1) (sk := 0) (md := 0) (ls1 := [(2, 27)]) (r1 := [(2, 23)]) rfl rfl rfl rfl rfl (K_isEmpty27 (by omega) w1) ?_
  rintro _ w7 _ ⟨rfl, hw7, rfl⟩
  rw [hw7]
  show qG none (d + 1) 35 29 [(2, 23), l1, (2, 83), (0, l3), (9, 0), (9, 0), (9, 0)] [(0, (if ctb (fun j => sb w1 27 j) 192 = 0 then 1 else 0)), (2, 23)] w1 142 Q9
  refine qG.br (P := (if ctb (fun j => sb w1 27 j) 192 = 0 then 1 else 0) = 0) (pc1 := 36) (pc2 := 32) (st1 := [(2, 23)]) rfl (fun hem => ?_) (fun hem => ?_)
  · skip
    have hNp : 0 < N := by
      by_cases z : N = 0
      · have y : ctb (fun j => sb w1 27 j) 192 = 0 := ctb_0.mpr (fun j hj => (h127 j hj).trans (by show decide (j < N) = false; exact decide_eq_false (by omega)))
        rw [if_pos y] at hem; exact absurd hem (by decide)
      · omega
    refine qG.blk 6 (pc' := 46) (ls' := [(2, 23), l1, (2, 83), (0, l3), (0, 0), (0, 0), (9, 0)]) (st' := []) (w' := (qup w1 23 4 (-1))) (n' := 142) rfl ?_
    obtain ⟨w2, hw2⟩ : ∃ z : qW, z = (qup w1 23 4 (-1)) := ⟨_, rfl⟩
    rw [← hw2]
    have hI2 : yInv zgf zga zra zSp w2 := by rw [hw2]; exact zup_f hI1 (b := (-2147483648, 2147483647)) rfl rfl rfl ⟨by decide, by decide⟩
    have h2f : (∀ q j, ¬ (27 ≤ q ∧ q ≤ 29) → ¬ (q = 23 ∧ 4 ≤ j ∧ j ≤ 5) → w2 q j = w q j) := fun q j a b => by rw [hw2, qup_f (by omega)]; exact h1f q j a b
    have h24 : w2 23 4 = (-1) := by rw [hw2, qup_k]
    have h227 : HOLD w2 27 (hz N P M V 0) := fun j hj => by rw [show sb w2 27 j = sb w1 27 j from by unfold sb; rw [hw2, qup_nk (by decide)]]; exact h127 j hj
    have L46 : ∀ (m9 : Nat) (g : Nat) (s2 fl : Int) (wS : qW) (l6 : qV), L - g = m9 → (g ≤ L ∧ (∀ q j, ¬ (27 ≤ q ∧ q ≤ 29) → ¬ (q = 23 ∧ 4 ≤ j ∧ j ≤ 5) → wS q j = w q j) ∧ yInv zgf zga zra zSp wS ∧ wS 23 4 = fl ∧ FLW N P M V (scF (w 84) (w 85) g) (scF (w 84) (w 85) L) fl s2 wS) → qG none (d + 1) 35 46 [(2, 23), l1, (2, 83), (0, l3), (0, s2), (0, ((g : Nat) : Int)), l6] [] wS 142 Q9 := by
      intro m9
      induction m9 using Nat.strongRecOn with
      | ind m9 ih46 =>
      intro g s2 fl wS l6 hm46 hI46
      obtain ⟨hgL, hSf, hIS, hfl, hFL⟩ := hI46
      have hTS := hT.cg (w1 := wS) (fun q j h => hSf q j (by omega) (by omega))
      refine qG.blk 2 (pc' := 49) (ls' := [(2, 23), l1, (2, 83), (0, l3), (0, s2), (0, ((g : Nat) : Int)), l6]) (st' := [(2, 83), (0, ((g : Nat) : Int))]) (w' := wS) (n' := 142) rfl ?_
      refine qG.call (t := 110) (na := 1) (sk := 1) (md := 1) (ls1 := [(2, 83)]) (r1 := [(0, ((g : Nat) : Int))]) rfl rfl rfl rfl rfl (K_stepC83 (Nat.zero_le _) wS (x := ((L : Nat) : Int)) ((hSf 83 2 (by decide) (by omega)).trans hs)) ?_
      rintro _ w7 _ ⟨rfl, hw7, rfl⟩
      rw [hw7]
      show qG none (d + 1) 35 52 [(2, 23), l1, (2, 83), (0, l3), (0, s2), (0, ((g : Nat) : Int)), l6] [(0, ((L : Nat) : Int)), (0, ((g : Nat) : Int))] wS 142 Q9
      refine qG.br (P := ((g : Nat) : Int) < ((L : Nat) : Int)) (pc1 := 55) (pc2 := 126) (st1 := []) rfl (fun hgL2 => ?_) (fun hgL2 => ?_)
      · skip
        refine qG.blk 2 (pc' := 59) (ls' := [(2, 23), l1, (2, 83), (0, l3), (0, s2), (0, ((g : Nat) : Int)), l6]) (st' := [(0, wS 23 4)]) (w' := wS) (n' := 142) rfl ?_
        rw [show wS 23 4 = fl from hfl]
        refine qG.blk 1 (pc' := 60) (ls' := [(2, 23), l1, (2, 83), (0, l3), (0, s2), (0, ((g : Nat) : Int)), l6]) (st' := [(0, (-1)), (0, fl)]) (w' := wS) (n' := 142) rfl ?_
        refine qG.br (P := fl = (-1)) (pc1 := 63) (pc2 := 126) (st1 := []) rfl (fun hf60 => ?_) (fun hf60 => ?_)
        · skip
          obtain ⟨-, hNp, hs2, hH27, hnE⟩ : fl = -1 ∧ 0 < N ∧ s2 = ((scF (w 84) (w 85) g : Nat) : Int) ∧ HOLD wS 27 (hz N P M V (scF (w 84) (w 85) g)) ∧ ¬ hzE (hz N P M V (scF (w 84) (w 85) g)) := by
            rcases hFL with z | ⟨-, ⟨-, z⟩ | ⟨-, f, -, z, -⟩⟩
            · exact z
            · omega
            · omega
          have hdn : (if w 84 g = 2 then w 85 g else 1) = ((dN (w 84 g) (w 85 g) : Nat) : Int) := by have z := sc_s hKW (show g < L by omega); have y : ((scF (w 84) (w 85) (g + 1) : Nat) : Int) = ((scF (w 84) (w 85) g : Nat) : Int) + ((dN (w 84 g) (w 85 g) : Nat) : Int) := rfl; omega
          have hd20 : dN (w 84 g) (w 85 g) ≤ 20 := by have z := sc_le hKW (g + 1) (by omega); have q := hKW g (by omega); by_cases y : w 84 g = 2; rw [if_pos y] at hdn; have := q y; omega; rw [if_neg y] at hdn; omega
          have hsc := sc_le hKW g (by omega)
          refine qG.blk 2 (pc' := 67) (ls' := [(2, 23), l1, (2, 83), (0, l3), (0, s2), (0, ((g : Nat) : Int)), l6]) (st' := [(2, wS 23 0)]) (w' := wS) (n' := 142) rfl ?_
          rw [show wS 23 0 = 24 from (hSf 23 0 (by decide) (by omega)).trans (zref hI rfl rfl)]
          refine qG.blk 2 (pc' := 70) (ls' := [(2, 23), l1, (2, 83), (0, l3), (0, s2), (0, ((g : Nat) : Int)), l6]) (st' := [(0, ((g : Nat) : Int)), (2, 83), (2, 24)]) (w' := wS) (n' := 142) rfl ?_
          refine qG.call (t := 115) (na := 2) (sk := 1) (md := 1) (ls1 := [(2, 83), (0, ((g : Nat) : Int))]) (r1 := [(2, 24)]) rfl rfl rfl rfl rfl (K_vwOf83 (Nat.zero_le _) g L hL wS hIS ((hSf 83 2 (by decide) (by omega)).trans hs) (by omega)) ?_
          rintro _ w7 _ ⟨rfl, hw7, rfl⟩
          rw [hw7, hSf 86 g (by decide) (by omega)]
          show qG none (d + 1) 35 73 [(2, 23), l1, (2, 83), (0, l3), (0, s2), (0, ((g : Nat) : Int)), l6] [(0, w 86 g), (2, 24)] wS 142 Q9
          refine qG.blk 2 (pc' := 77) (ls' := [(2, 23), l1, (2, 83), (0, l3), (0, s2), (0, ((g : Nat) : Int)), l6]) (st' := [(2, wS 23 3), (0, w 86 g), (2, 24)]) (w' := wS) (n' := 142) rfl ?_
          rw [show wS 23 3 = 29 from (hSf 23 3 (by decide) (by omega)).trans (zref hI rfl rfl)]
          refine qG.call (t := 103) (na := 3) (sk := 1) (md := 1) (ls1 := [(2, 24), (0, w 86 g), (2, 29), (9, 0), (9, 0)]) (r1 := []) rfl rfl rfl rfl rfl (K_unseen29 (by omega) (w 86 g) N hT.1 wS hIS (hTS.2.1)) ?_
          rintro _ wU _ ⟨rfl, rfl, hRU⟩
          have hIU := hRU.2.2
          have hUf : (∀ q j, ¬ (27 ≤ q ∧ q ≤ 29) → ¬ (q = 23 ∧ 4 ≤ j ∧ j ≤ 5) → wU q j = w q j) := fun q j a b => (hRU.2.1 q j (by omega)).trans (hSf q j a b)
          have hTU := hTS.cg (w1 := wU) (fun q j h => hRU.2.1 q j (by omega))
          have hU27 : HOLD wU 27 (hz N P M V (scF (w 84) (w 85) g)) := fun j hj => by rw [hRU.o (by decide)]; exact hH27 j hj
          have hU29 : HOLD wU 29 (fun j => decide (j < N) && decide (qand (P j) (w 86 g) = 0)) := fun j hj => by
            rw [show sb wU 29 j = (decide (j < N) && decide (qand (wS 25 j) (w 86 g) = 0)) from hRU.1 j hj]
            show _ = (decide (j < N) && decide (qand (P j) (w 86 g) = 0))
            by_cases hjN : j < N
            · rw [hTS.2.2.1 j hjN]
            · rw [decide_eq_false hjN, Bool.false_and, Bool.false_and]
          show qG none (d + 1) 35 80 [(2, 23), l1, (2, 83), (0, l3), (0, s2), (0, ((g : Nat) : Int)), l6] [] wU 142 Q9
          refine qG.blk 3 (pc' := 84) (ls' := [(2, 23), l1, (2, 83), (0, l3), (0, s2), (0, ((g : Nat) : Int)), l6]) (st' := [(0, ((g : Nat) : Int)), (2, 83), (2, 23)]) (w' := wU) (n' := 142) rfl ?_
          refine qG.call (t := 114) (na := 2) (sk := 1) (md := 1) (ls1 := [(2, 83), (0, ((g : Nat) : Int))]) (r1 := [(2, 23)]) rfl rfl rfl rfl rfl (K_secs83 (Nat.zero_le _) g L hL wU hIU ((hUf 83 2 (by decide) (by omega)).trans hs) (by omega)) ?_
          rintro _ w7 _ ⟨rfl, hw7, rfl⟩
          rw [hw7, hUf 84 g (by decide) (by omega), hUf 85 g (by decide) (by omega), show (if w 84 g = 2 then w 85 g else 1) = ((dN (w 84 g) (w 85 g) : Nat) : Int) from hdn]
          show qG none (d + 1) 35 87 [(2, 23), l1, (2, 83), (0, l3), (0, s2), (0, ((g : Nat) : Int)), l6] [(0, ((dN (w 84 g) (w 85 g) : Nat) : Int)), (2, 23)] wU 142 Q9
          refine qG.call (t := 36) (na := 2) (sk := 1) (md := 1) (ls1 := [(2, 23), (0, ((dN (w 84 g) (w 85 g) : Nat) : Int)), (9, 0)]) (r1 := []) rfl rfl rfl rfl rfl (K_stayU (by omega) N P M V (scF (w 84) (w 85) g) (dN (w 84 g) (w 85 g)) (w 86 g) (by omega) (fun u hu => hVV g (by omega) u hu) wU hIU hTU hU27 hU29 hnE) ?_
          rintro _ wX _ ⟨rfl, hX9, hIX, ⟨rfl, hX27, hXE⟩ | ⟨e, he, rfl, hX27, hXE, hXE2⟩⟩ <;> have hXf : (∀ q j, ¬ (27 ≤ q ∧ q ≤ 29) → ¬ (q = 23 ∧ 4 ≤ j ∧ j ≤ 5) → wX q j = w q j) := fun q j a b => (hX9 q j (by omega) (by omega)).trans (hUf q j a b)
          · skip
            show qG none (d + 1) 35 90 [(2, 23), l1, (2, 83), (0, l3), (0, s2), (0, ((g : Nat) : Int)), l6] [(0, ((dN (w 84 g) (w 85 g) : Nat) : Int))] wX 142 Q9
            refine qG.blk 4 (pc' := 97) (ls' := [(2, 23), l1, (2, 83), (0, l3), (0, s2), (0, ((g : Nat) : Int)), (0, ((dN (w 84 g) (w 85 g) : Nat) : Int))]) (st' := [(0, wrp (s2 + ((dN (w 84 g) (w 85 g) : Nat) : Int)))]) (w' := wX) (n' := 142) rfl ?_
            rw [show wrp (s2 + ((dN (w 84 g) (w 85 g) : Nat) : Int)) = s2 + ((dN (w 84 g) (w 85 g) : Nat) : Int) from wrp_id (by omega) (by omega)]
            refine qG.blk 5 (pc' := 105) (ls' := [(2, 23), l1, (2, 83), (0, l3), (0, s2 + ((dN (w 84 g) (w 85 g) : Nat) : Int)), (0, ((g : Nat) : Int)), (0, ((dN (w 84 g) (w 85 g) : Nat) : Int))]) (st' := [(0, ((g : Nat) : Int)), (2, 83), (0, ((dN (w 84 g) (w 85 g) : Nat) : Int)), (2, 23)]) (w' := wX) (n' := 142) rfl ?_
            refine qG.call (t := 114) (na := 2) (sk := 1) (md := 1) (ls1 := [(2, 83), (0, ((g : Nat) : Int))]) (r1 := [(0, ((dN (w 84 g) (w 85 g) : Nat) : Int)), (2, 23)]) rfl rfl rfl rfl rfl (K_secs83 (Nat.zero_le _) g L hL wX hIX ((hXf 83 2 (by decide) (by omega)).trans hs) (by omega)) ?_
            rintro _ w7 _ ⟨rfl, hw7, rfl⟩
            rw [hw7, hXf 84 g (by decide) (by omega), hXf 85 g (by decide) (by omega), show (if w 84 g = 2 then w 85 g else 1) = ((dN (w 84 g) (w 85 g) : Nat) : Int) from hdn]
            show qG none (d + 1) 35 108 [(2, 23), l1, (2, 83), (0, l3), (0, s2 + ((dN (w 84 g) (w 85 g) : Nat) : Int)), (0, ((g : Nat) : Int)), (0, ((dN (w 84 g) (w 85 g) : Nat) : Int))] [(0, ((dN (w 84 g) (w 85 g) : Nat) : Int)), (0, ((dN (w 84 g) (w 85 g) : Nat) : Int)), (2, 23)] wX 142 Q9
            refine qG.br (P := ((dN (w 84 g) (w 85 g) : Nat) : Int) < ((dN (w 84 g) (w 85 g) : Nat) : Int)) (pc1 := 111) (pc2 := 116) (st1 := [(2, 23)]) rfl (fun h108 => ?_) (fun h108 => ?_)
            · skip
              refine qG.blk 4 (pc' := 123) (ls' := [(2, 23), l1, (2, 83), (0, l3), (0, s2 + ((dN (w 84 g) (w 85 g) : Nat) : Int)), (0, wrp (((g : Nat) : Int) + 1)), (0, ((dN (w 84 g) (w 85 g) : Nat) : Int))]) (st' := []) (w' := (qup wX 23 4 (s2 + ((dN (w 84 g) (w 85 g) : Nat) : Int)))) (n' := 142) rfl ?_
              rw [show wrp (((g : Nat) : Int) + 1) = ((g + 1 : Nat) : Int) from wrp_id (by omega) (by omega)]
              refine qG.blk 1 (pc' := 46) (ls' := [(2, 23), l1, (2, 83), (0, l3), (0, s2 + ((dN (w 84 g) (w 85 g) : Nat) : Int)), (0, ((g + 1 : Nat) : Int)), (0, ((dN (w 84 g) (w 85 g) : Nat) : Int))]) (st' := []) (w' := (qup wX 23 4 (s2 + ((dN (w 84 g) (w 85 g) : Nat) : Int)))) (n' := 142) rfl ?_
              exact absurd h108 (by omega)
            · skip
              refine qG.blk 3 (pc' := 123) (ls' := [(2, 23), l1, (2, 83), (0, l3), (0, s2 + ((dN (w 84 g) (w 85 g) : Nat) : Int)), (0, wrp (((g : Nat) : Int) + 1)), (0, ((dN (w 84 g) (w 85 g) : Nat) : Int))]) (st' := []) (w' := (qup wX 23 4 (-1))) (n' := 142) rfl ?_
              rw [show wrp (((g : Nat) : Int) + 1) = ((g + 1 : Nat) : Int) from wrp_id (by omega) (by omega)]
              refine qG.blk 1 (pc' := 46) (ls' := [(2, 23), l1, (2, 83), (0, l3), (0, s2 + ((dN (w 84 g) (w 85 g) : Nat) : Int)), (0, ((g + 1 : Nat) : Int)), (0, ((dN (w 84 g) (w 85 g) : Nat) : Int))]) (st' := []) (w' := (qup wX 23 4 (-1))) (n' := 142) rfl ?_
              obtain ⟨wN, hwN⟩ : ∃ z : qW, z = (qup wX 23 4 (-1)) := ⟨_, rfl⟩
              rw [← hwN]
              have hIN : yInv zgf zga zra zSp wN := by rw [hwN]; exact zup_f hIX (b := (-2147483648, 2147483647)) rfl rfl rfl ⟨by show (-2147483648 : Int) ≤ _; omega, by show _ ≤ (2147483647 : Int); omega⟩
              have hNf : (∀ q j, ¬ (27 ≤ q ∧ q ≤ 29) → ¬ (q = 23 ∧ 4 ≤ j ∧ j ≤ 5) → wN q j = w q j) := fun q j a b => by rw [hwN, qup_f (by omega)]; exact hXf q j a b
              have hN4 : wN 23 4 = (-1) := by rw [hwN, qup_k]
              have hN27 : ∀ j, sb wN 27 j = sb wX 27 j := fun j => by unfold sb; rw [hwN, qup_nk (by decide)]
              exact ih46 _ (by omega) (g + 1) (s2 + ((dN (w 84 g) (w 85 g) : Nat) : Int)) ((-1)) (wN) ((0, ((dN (w 84 g) (w 85 g) : Nat) : Int))) rfl (⟨by omega, hNf, hIN, hN4, .inl ⟨rfl, by have z := hFL; rcases z with z | z; exact z.2.1; rcases z.2 with z | z; omega; exact z.1, by show _ = ((scF (w 84) (w 85) g + dN (w 84 g) (w 85 g) : Nat) : Int); omega, fun j hj => (hN27 j).trans (hX27 j hj), hXE⟩⟩)
          · skip
            show qG none (d + 1) 35 90 [(2, 23), l1, (2, 83), (0, l3), (0, s2), (0, ((g : Nat) : Int)), l6] [(0, ((e : Nat) : Int))] wX 142 Q9
            refine qG.blk 4 (pc' := 97) (ls' := [(2, 23), l1, (2, 83), (0, l3), (0, s2), (0, ((g : Nat) : Int)), (0, ((e : Nat) : Int))]) (st' := [(0, wrp (s2 + ((e : Nat) : Int)))]) (w' := wX) (n' := 142) rfl ?_
            rw [show wrp (s2 + ((e : Nat) : Int)) = s2 + ((e : Nat) : Int) from wrp_id (by omega) (by omega)]
            refine qG.blk 5 (pc' := 105) (ls' := [(2, 23), l1, (2, 83), (0, l3), (0, s2 + ((e : Nat) : Int)), (0, ((g : Nat) : Int)), (0, ((e : Nat) : Int))]) (st' := [(0, ((g : Nat) : Int)), (2, 83), (0, ((e : Nat) : Int)), (2, 23)]) (w' := wX) (n' := 142) rfl ?_
            refine qG.call (t := 114) (na := 2) (sk := 1) (md := 1) (ls1 := [(2, 83), (0, ((g : Nat) : Int))]) (r1 := [(0, ((e : Nat) : Int)), (2, 23)]) rfl rfl rfl rfl rfl (K_secs83 (Nat.zero_le _) g L hL wX hIX ((hXf 83 2 (by decide) (by omega)).trans hs) (by omega)) ?_
            rintro _ w7 _ ⟨rfl, hw7, rfl⟩
            rw [hw7, hXf 84 g (by decide) (by omega), hXf 85 g (by decide) (by omega), show (if w 84 g = 2 then w 85 g else 1) = ((dN (w 84 g) (w 85 g) : Nat) : Int) from hdn]
            show qG none (d + 1) 35 108 [(2, 23), l1, (2, 83), (0, l3), (0, s2 + ((e : Nat) : Int)), (0, ((g : Nat) : Int)), (0, ((e : Nat) : Int))] [(0, ((dN (w 84 g) (w 85 g) : Nat) : Int)), (0, ((e : Nat) : Int)), (2, 23)] wX 142 Q9
            refine qG.br (P := ((e : Nat) : Int) < ((dN (w 84 g) (w 85 g) : Nat) : Int)) (pc1 := 111) (pc2 := 116) (st1 := [(2, 23)]) rfl (fun h108 => ?_) (fun h108 => ?_)
            · skip
              refine qG.blk 4 (pc' := 123) (ls' := [(2, 23), l1, (2, 83), (0, l3), (0, s2 + ((e : Nat) : Int)), (0, wrp (((g : Nat) : Int) + 1)), (0, ((e : Nat) : Int))]) (st' := []) (w' := (qup wX 23 4 (s2 + ((e : Nat) : Int)))) (n' := 142) rfl ?_
              rw [show wrp (((g : Nat) : Int) + 1) = ((g + 1 : Nat) : Int) from wrp_id (by omega) (by omega)]
              refine qG.blk 1 (pc' := 46) (ls' := [(2, 23), l1, (2, 83), (0, l3), (0, s2 + ((e : Nat) : Int)), (0, ((g + 1 : Nat) : Int)), (0, ((e : Nat) : Int))]) (st' := []) (w' := (qup wX 23 4 (s2 + ((e : Nat) : Int)))) (n' := 142) rfl ?_
              obtain ⟨wN, hwN⟩ : ∃ z : qW, z = (qup wX 23 4 (s2 + ((e : Nat) : Int))) := ⟨_, rfl⟩
              rw [← hwN]
              have hIN : yInv zgf zga zra zSp wN := by rw [hwN]; exact zup_f hIX (b := (-2147483648, 2147483647)) rfl rfl rfl ⟨by show (-2147483648 : Int) ≤ _; omega, by show _ ≤ (2147483647 : Int); omega⟩
              have hNf : (∀ q j, ¬ (27 ≤ q ∧ q ≤ 29) → ¬ (q = 23 ∧ 4 ≤ j ∧ j ≤ 5) → wN q j = w q j) := fun q j a b => by rw [hwN, qup_f (by omega)]; exact hXf q j a b
              have hN4 : wN 23 4 = (s2 + ((e : Nat) : Int)) := by rw [hwN, qup_k]
              have hN27 : ∀ j, sb wN 27 j = sb wX 27 j := fun j => by unfold sb; rw [hwN, qup_nk (by decide)]
              exact ih46 _ (by omega) (g + 1) (s2 + ((e : Nat) : Int)) (s2 + ((e : Nat) : Int)) (wN) ((0, ((e : Nat) : Int))) rfl (⟨by omega, hNf, hIN, hN4, .inr ⟨fun j hj => (hN27 j).trans (hX27 j hj), .inr ⟨hNp, scF (w 84) (w 85) g + e, by have := scF_le (K := w 84) (N := w 85) (show g + 1 ≤ L by omega); have : scF (w 84) (w 85) (g + 1) = scF (w 84) (w 85) g + dN (w 84 g) (w 85 g) := rfl; omega, by omega, hXE, hXE2⟩⟩⟩)
            · skip
              refine qG.blk 3 (pc' := 123) (ls' := [(2, 23), l1, (2, 83), (0, l3), (0, s2 + ((e : Nat) : Int)), (0, wrp (((g : Nat) : Int) + 1)), (0, ((e : Nat) : Int))]) (st' := []) (w' := (qup wX 23 4 (-1))) (n' := 142) rfl ?_
              rw [show wrp (((g : Nat) : Int) + 1) = ((g + 1 : Nat) : Int) from wrp_id (by omega) (by omega)]
              refine qG.blk 1 (pc' := 46) (ls' := [(2, 23), l1, (2, 83), (0, l3), (0, s2 + ((e : Nat) : Int)), (0, ((g + 1 : Nat) : Int)), (0, ((e : Nat) : Int))]) (st' := []) (w' := (qup wX 23 4 (-1))) (n' := 142) rfl ?_
              exact absurd he (by omega)
        · skip
          refine qG.blk 3 (pc' := 131) (ls' := [(2, 23), l1, (2, 83), (0, l3), (0, s2), (0, ((g : Nat) : Int)), l6]) (st' := [(2, wS 23 1), (2, 23)]) (w' := wS) (n' := 142) rfl ?_
          rw [show wS 23 1 = 27 from (hSf 23 1 (by decide) (by omega)).trans (zref hI rfl rfl)]
          refine qG.call (t := 52) (na := 1) (sk := 0) (md := 0) (ls1 := [(2, 27), (9, 0), (9, 0), (9, 0), (9, 0), (9, 0), (9, 0)]) (r1 := [(2, 23)]) rfl rfl rfl rfl rfl (K_howM27 (by omega) wS) ?_
          rintro _ w7 _ ⟨rfl, hw7, rfl⟩
          rw [hw7]
          show qG none (d + 1) 35 134 [(2, 23), l1, (2, 83), (0, l3), (0, s2), (0, ((g : Nat) : Int)), l6] [(0, ((ctb (fun j => sb wS 27 j) 192 : Nat) : Int)), (2, 23)] wS 142 Q9
          refine qG.blk 1 (pc' := 137) (ls' := [(2, 23), l1, (2, 83), (0, l3), (0, s2), (0, ((g : Nat) : Int)), l6]) (st' := []) (w' := (qup wS 23 5 ((ctb (fun j => sb wS 27 j) 192 : Nat) : Int))) (n' := 142) rfl ?_
          refine qG.retv rfl rfl ?_
          subst hQ9
          refine ⟨rfl, rfl, zup_f hIS (b := (-2147483648, 2147483647)) rfl rfl rfl ⟨by show (-2147483648 : Int) ≤ _; omega, by have := ctbL_le (f := fun j => sb wS 27 j) 192; show _ ≤ (2147483647 : Int); omega⟩, fun q j a b => by rw [qup_f (by omega)]; exact hSf q j a b, ?_⟩
          rw [qup_k, qup_j (show (4 : Nat) ≠ 5 by decide), hfl]
          exact hFL.sp hT.1 _ (fun z => by first | (rw [show g = L by omega]; done) | exact absurd z hf60)
      · skip
        refine qG.blk 3 (pc' := 131) (ls' := [(2, 23), l1, (2, 83), (0, l3), (0, s2), (0, ((g : Nat) : Int)), l6]) (st' := [(2, wS 23 1), (2, 23)]) (w' := wS) (n' := 142) rfl ?_
        rw [show wS 23 1 = 27 from (hSf 23 1 (by decide) (by omega)).trans (zref hI rfl rfl)]
        refine qG.call (t := 52) (na := 1) (sk := 0) (md := 0) (ls1 := [(2, 27), (9, 0), (9, 0), (9, 0), (9, 0), (9, 0), (9, 0)]) (r1 := [(2, 23)]) rfl rfl rfl rfl rfl (K_howM27 (by omega) wS) ?_
        rintro _ w7 _ ⟨rfl, hw7, rfl⟩
        rw [hw7]
        show qG none (d + 1) 35 134 [(2, 23), l1, (2, 83), (0, l3), (0, s2), (0, ((g : Nat) : Int)), l6] [(0, ((ctb (fun j => sb wS 27 j) 192 : Nat) : Int)), (2, 23)] wS 142 Q9
        refine qG.blk 1 (pc' := 137) (ls' := [(2, 23), l1, (2, 83), (0, l3), (0, s2), (0, ((g : Nat) : Int)), l6]) (st' := []) (w' := (qup wS 23 5 ((ctb (fun j => sb wS 27 j) 192 : Nat) : Int))) (n' := 142) rfl ?_
        refine qG.retv rfl rfl ?_
        subst hQ9
        refine ⟨rfl, rfl, zup_f hIS (b := (-2147483648, 2147483647)) rfl rfl rfl ⟨by show (-2147483648 : Int) ≤ _; omega, by have := ctbL_le (f := fun j => sb wS 27 j) 192; show _ ≤ (2147483647 : Int); omega⟩, fun q j a b => by rw [qup_f (by omega)]; exact hSf q j a b, ?_⟩
        rw [qup_k, qup_j (show (4 : Nat) ≠ 5 by decide), hfl]
        exact hFL.sp hT.1 _ (fun z => by first | (rw [show g = L by omega]; done) | exact absurd z hf60)
    exact L46 _ (0) (0) ((-1)) (w2) ((9, 0)) rfl (⟨Nat.zero_le _, h2f, hI2, h24, .inl ⟨rfl, hNp, rfl, h227, hz0_E hNp⟩⟩)
  · skip
    have hN0 : N = 0 := by
      by_cases y : ctb (fun j => sb w1 27 j) 192 = 0
      · by_cases z : N = 0
        · exact z
        · have q := ctb_0.mp y 0 (by decide); rw [h127 0 (by decide)] at q; have q : decide (0 < N) = false := q; rw [decide_eq_true (by omega)] at q; cases q
      · rw [if_neg y] at hem; exact absurd rfl hem
    refine qG.blk 7 (pc' := 46) (ls' := [(2, 23), l1, (2, 83), (0, l3), (0, 0), (0, 0), (9, 0)]) (st' := []) (w' := (qup w1 23 4 0)) (n' := 142) rfl ?_
    obtain ⟨w2, hw2⟩ : ∃ z : qW, z = (qup w1 23 4 0) := ⟨_, rfl⟩
    rw [← hw2]
    have hI2 : yInv zgf zga zra zSp w2 := by rw [hw2]; exact zup_f hI1 (b := (-2147483648, 2147483647)) rfl rfl rfl ⟨by decide, by decide⟩
    have h2f : (∀ q j, ¬ (27 ≤ q ∧ q ≤ 29) → ¬ (q = 23 ∧ 4 ≤ j ∧ j ≤ 5) → w2 q j = w q j) := fun q j a b => by rw [hw2, qup_f (by omega)]; exact h1f q j a b
    have h24 : w2 23 4 = 0 := by rw [hw2, qup_k]
    have h227 : HOLD w2 27 (hz N P M V 0) := fun j hj => by rw [show sb w2 27 j = sb w1 27 j from by unfold sb; rw [hw2, qup_nk (by decide)]]; exact h127 j hj
    have L46_1 : ∀ (m9 : Nat) (g : Nat) (s2 fl : Int) (wS : qW) (l6 : qV), L - g = m9 → (g ≤ L ∧ (∀ q j, ¬ (27 ≤ q ∧ q ≤ 29) → ¬ (q = 23 ∧ 4 ≤ j ∧ j ≤ 5) → wS q j = w q j) ∧ yInv zgf zga zra zSp wS ∧ wS 23 4 = fl ∧ FLW N P M V (scF (w 84) (w 85) g) (scF (w 84) (w 85) L) fl s2 wS) → qG none (d + 1) 35 46 [(2, 23), l1, (2, 83), (0, l3), (0, s2), (0, ((g : Nat) : Int)), l6] [] wS 142 Q9 := by
      intro m9
      induction m9 using Nat.strongRecOn with
      | ind m9 ih46 =>
      intro g s2 fl wS l6 hm46 hI46
      obtain ⟨hgL, hSf, hIS, hfl, hFL⟩ := hI46
      have hTS := hT.cg (w1 := wS) (fun q j h => hSf q j (by omega) (by omega))
      refine qG.blk 2 (pc' := 49) (ls' := [(2, 23), l1, (2, 83), (0, l3), (0, s2), (0, ((g : Nat) : Int)), l6]) (st' := [(2, 83), (0, ((g : Nat) : Int))]) (w' := wS) (n' := 142) rfl ?_
      refine qG.call (t := 110) (na := 1) (sk := 1) (md := 1) (ls1 := [(2, 83)]) (r1 := [(0, ((g : Nat) : Int))]) rfl rfl rfl rfl rfl (K_stepC83 (Nat.zero_le _) wS (x := ((L : Nat) : Int)) ((hSf 83 2 (by decide) (by omega)).trans hs)) ?_
      rintro _ w7 _ ⟨rfl, hw7, rfl⟩
      rw [hw7]
      show qG none (d + 1) 35 52 [(2, 23), l1, (2, 83), (0, l3), (0, s2), (0, ((g : Nat) : Int)), l6] [(0, ((L : Nat) : Int)), (0, ((g : Nat) : Int))] wS 142 Q9
      refine qG.br (P := ((g : Nat) : Int) < ((L : Nat) : Int)) (pc1 := 55) (pc2 := 126) (st1 := []) rfl (fun hgL2 => ?_) (fun hgL2 => ?_)
      · skip
        refine qG.blk 2 (pc' := 59) (ls' := [(2, 23), l1, (2, 83), (0, l3), (0, s2), (0, ((g : Nat) : Int)), l6]) (st' := [(0, wS 23 4)]) (w' := wS) (n' := 142) rfl ?_
        rw [show wS 23 4 = fl from hfl]
        refine qG.blk 1 (pc' := 60) (ls' := [(2, 23), l1, (2, 83), (0, l3), (0, s2), (0, ((g : Nat) : Int)), l6]) (st' := [(0, (-1)), (0, fl)]) (w' := wS) (n' := 142) rfl ?_
        refine qG.br (P := fl = (-1)) (pc1 := 63) (pc2 := 126) (st1 := []) rfl (fun hf60 => ?_) (fun hf60 => ?_)
        · skip
          obtain ⟨-, hNp, hs2, hH27, hnE⟩ : fl = -1 ∧ 0 < N ∧ s2 = ((scF (w 84) (w 85) g : Nat) : Int) ∧ HOLD wS 27 (hz N P M V (scF (w 84) (w 85) g)) ∧ ¬ hzE (hz N P M V (scF (w 84) (w 85) g)) := by
            rcases hFL with z | ⟨-, ⟨-, z⟩ | ⟨-, f, -, z, -⟩⟩
            · exact z
            · omega
            · omega
          have hdn : (if w 84 g = 2 then w 85 g else 1) = ((dN (w 84 g) (w 85 g) : Nat) : Int) := by have z := sc_s hKW (show g < L by omega); have y : ((scF (w 84) (w 85) (g + 1) : Nat) : Int) = ((scF (w 84) (w 85) g : Nat) : Int) + ((dN (w 84 g) (w 85 g) : Nat) : Int) := rfl; omega
          have hd20 : dN (w 84 g) (w 85 g) ≤ 20 := by have z := sc_le hKW (g + 1) (by omega); have q := hKW g (by omega); by_cases y : w 84 g = 2; rw [if_pos y] at hdn; have := q y; omega; rw [if_neg y] at hdn; omega
          have hsc := sc_le hKW g (by omega)
          refine qG.blk 2 (pc' := 67) (ls' := [(2, 23), l1, (2, 83), (0, l3), (0, s2), (0, ((g : Nat) : Int)), l6]) (st' := [(2, wS 23 0)]) (w' := wS) (n' := 142) rfl ?_
          rw [show wS 23 0 = 24 from (hSf 23 0 (by decide) (by omega)).trans (zref hI rfl rfl)]
          refine qG.blk 2 (pc' := 70) (ls' := [(2, 23), l1, (2, 83), (0, l3), (0, s2), (0, ((g : Nat) : Int)), l6]) (st' := [(0, ((g : Nat) : Int)), (2, 83), (2, 24)]) (w' := wS) (n' := 142) rfl ?_
          refine qG.call (t := 115) (na := 2) (sk := 1) (md := 1) (ls1 := [(2, 83), (0, ((g : Nat) : Int))]) (r1 := [(2, 24)]) rfl rfl rfl rfl rfl (K_vwOf83 (Nat.zero_le _) g L hL wS hIS ((hSf 83 2 (by decide) (by omega)).trans hs) (by omega)) ?_
          rintro _ w7 _ ⟨rfl, hw7, rfl⟩
          rw [hw7, hSf 86 g (by decide) (by omega)]
          show qG none (d + 1) 35 73 [(2, 23), l1, (2, 83), (0, l3), (0, s2), (0, ((g : Nat) : Int)), l6] [(0, w 86 g), (2, 24)] wS 142 Q9
          refine qG.blk 2 (pc' := 77) (ls' := [(2, 23), l1, (2, 83), (0, l3), (0, s2), (0, ((g : Nat) : Int)), l6]) (st' := [(2, wS 23 3), (0, w 86 g), (2, 24)]) (w' := wS) (n' := 142) rfl ?_
          rw [show wS 23 3 = 29 from (hSf 23 3 (by decide) (by omega)).trans (zref hI rfl rfl)]
          refine qG.call (t := 103) (na := 3) (sk := 1) (md := 1) (ls1 := [(2, 24), (0, w 86 g), (2, 29), (9, 0), (9, 0)]) (r1 := []) rfl rfl rfl rfl rfl (K_unseen29 (by omega) (w 86 g) N hT.1 wS hIS (hTS.2.1)) ?_
          rintro _ wU _ ⟨rfl, rfl, hRU⟩
          have hIU := hRU.2.2
          have hUf : (∀ q j, ¬ (27 ≤ q ∧ q ≤ 29) → ¬ (q = 23 ∧ 4 ≤ j ∧ j ≤ 5) → wU q j = w q j) := fun q j a b => (hRU.2.1 q j (by omega)).trans (hSf q j a b)
          have hTU := hTS.cg (w1 := wU) (fun q j h => hRU.2.1 q j (by omega))
          have hU27 : HOLD wU 27 (hz N P M V (scF (w 84) (w 85) g)) := fun j hj => by rw [hRU.o (by decide)]; exact hH27 j hj
          have hU29 : HOLD wU 29 (fun j => decide (j < N) && decide (qand (P j) (w 86 g) = 0)) := fun j hj => by
            rw [show sb wU 29 j = (decide (j < N) && decide (qand (wS 25 j) (w 86 g) = 0)) from hRU.1 j hj]
            show _ = (decide (j < N) && decide (qand (P j) (w 86 g) = 0))
            by_cases hjN : j < N
            · rw [hTS.2.2.1 j hjN]
            · rw [decide_eq_false hjN, Bool.false_and, Bool.false_and]
          show qG none (d + 1) 35 80 [(2, 23), l1, (2, 83), (0, l3), (0, s2), (0, ((g : Nat) : Int)), l6] [] wU 142 Q9
          refine qG.blk 3 (pc' := 84) (ls' := [(2, 23), l1, (2, 83), (0, l3), (0, s2), (0, ((g : Nat) : Int)), l6]) (st' := [(0, ((g : Nat) : Int)), (2, 83), (2, 23)]) (w' := wU) (n' := 142) rfl ?_
          refine qG.call (t := 114) (na := 2) (sk := 1) (md := 1) (ls1 := [(2, 83), (0, ((g : Nat) : Int))]) (r1 := [(2, 23)]) rfl rfl rfl rfl rfl (K_secs83 (Nat.zero_le _) g L hL wU hIU ((hUf 83 2 (by decide) (by omega)).trans hs) (by omega)) ?_
          rintro _ w7 _ ⟨rfl, hw7, rfl⟩
          rw [hw7, hUf 84 g (by decide) (by omega), hUf 85 g (by decide) (by omega), show (if w 84 g = 2 then w 85 g else 1) = ((dN (w 84 g) (w 85 g) : Nat) : Int) from hdn]
          show qG none (d + 1) 35 87 [(2, 23), l1, (2, 83), (0, l3), (0, s2), (0, ((g : Nat) : Int)), l6] [(0, ((dN (w 84 g) (w 85 g) : Nat) : Int)), (2, 23)] wU 142 Q9
          refine qG.call (t := 36) (na := 2) (sk := 1) (md := 1) (ls1 := [(2, 23), (0, ((dN (w 84 g) (w 85 g) : Nat) : Int)), (9, 0)]) (r1 := []) rfl rfl rfl rfl rfl (K_stayU (by omega) N P M V (scF (w 84) (w 85) g) (dN (w 84 g) (w 85 g)) (w 86 g) (by omega) (fun u hu => hVV g (by omega) u hu) wU hIU hTU hU27 hU29 hnE) ?_
          rintro _ wX _ ⟨rfl, hX9, hIX, ⟨rfl, hX27, hXE⟩ | ⟨e, he, rfl, hX27, hXE, hXE2⟩⟩ <;> have hXf : (∀ q j, ¬ (27 ≤ q ∧ q ≤ 29) → ¬ (q = 23 ∧ 4 ≤ j ∧ j ≤ 5) → wX q j = w q j) := fun q j a b => (hX9 q j (by omega) (by omega)).trans (hUf q j a b)
          · skip
            show qG none (d + 1) 35 90 [(2, 23), l1, (2, 83), (0, l3), (0, s2), (0, ((g : Nat) : Int)), l6] [(0, ((dN (w 84 g) (w 85 g) : Nat) : Int))] wX 142 Q9
            refine qG.blk 4 (pc' := 97) (ls' := [(2, 23), l1, (2, 83), (0, l3), (0, s2), (0, ((g : Nat) : Int)), (0, ((dN (w 84 g) (w 85 g) : Nat) : Int))]) (st' := [(0, wrp (s2 + ((dN (w 84 g) (w 85 g) : Nat) : Int)))]) (w' := wX) (n' := 142) rfl ?_
            rw [show wrp (s2 + ((dN (w 84 g) (w 85 g) : Nat) : Int)) = s2 + ((dN (w 84 g) (w 85 g) : Nat) : Int) from wrp_id (by omega) (by omega)]
            refine qG.blk 5 (pc' := 105) (ls' := [(2, 23), l1, (2, 83), (0, l3), (0, s2 + ((dN (w 84 g) (w 85 g) : Nat) : Int)), (0, ((g : Nat) : Int)), (0, ((dN (w 84 g) (w 85 g) : Nat) : Int))]) (st' := [(0, ((g : Nat) : Int)), (2, 83), (0, ((dN (w 84 g) (w 85 g) : Nat) : Int)), (2, 23)]) (w' := wX) (n' := 142) rfl ?_
            refine qG.call (t := 114) (na := 2) (sk := 1) (md := 1) (ls1 := [(2, 83), (0, ((g : Nat) : Int))]) (r1 := [(0, ((dN (w 84 g) (w 85 g) : Nat) : Int)), (2, 23)]) rfl rfl rfl rfl rfl (K_secs83 (Nat.zero_le _) g L hL wX hIX ((hXf 83 2 (by decide) (by omega)).trans hs) (by omega)) ?_
            rintro _ w7 _ ⟨rfl, hw7, rfl⟩
            rw [hw7, hXf 84 g (by decide) (by omega), hXf 85 g (by decide) (by omega), show (if w 84 g = 2 then w 85 g else 1) = ((dN (w 84 g) (w 85 g) : Nat) : Int) from hdn]
            show qG none (d + 1) 35 108 [(2, 23), l1, (2, 83), (0, l3), (0, s2 + ((dN (w 84 g) (w 85 g) : Nat) : Int)), (0, ((g : Nat) : Int)), (0, ((dN (w 84 g) (w 85 g) : Nat) : Int))] [(0, ((dN (w 84 g) (w 85 g) : Nat) : Int)), (0, ((dN (w 84 g) (w 85 g) : Nat) : Int)), (2, 23)] wX 142 Q9
            refine qG.br (P := ((dN (w 84 g) (w 85 g) : Nat) : Int) < ((dN (w 84 g) (w 85 g) : Nat) : Int)) (pc1 := 111) (pc2 := 116) (st1 := [(2, 23)]) rfl (fun h108 => ?_) (fun h108 => ?_)
            · skip
              refine qG.blk 4 (pc' := 123) (ls' := [(2, 23), l1, (2, 83), (0, l3), (0, s2 + ((dN (w 84 g) (w 85 g) : Nat) : Int)), (0, wrp (((g : Nat) : Int) + 1)), (0, ((dN (w 84 g) (w 85 g) : Nat) : Int))]) (st' := []) (w' := (qup wX 23 4 (s2 + ((dN (w 84 g) (w 85 g) : Nat) : Int)))) (n' := 142) rfl ?_
              rw [show wrp (((g : Nat) : Int) + 1) = ((g + 1 : Nat) : Int) from wrp_id (by omega) (by omega)]
              refine qG.blk 1 (pc' := 46) (ls' := [(2, 23), l1, (2, 83), (0, l3), (0, s2 + ((dN (w 84 g) (w 85 g) : Nat) : Int)), (0, ((g + 1 : Nat) : Int)), (0, ((dN (w 84 g) (w 85 g) : Nat) : Int))]) (st' := []) (w' := (qup wX 23 4 (s2 + ((dN (w 84 g) (w 85 g) : Nat) : Int)))) (n' := 142) rfl ?_
              exact absurd h108 (by omega)
            · skip
              refine qG.blk 3 (pc' := 123) (ls' := [(2, 23), l1, (2, 83), (0, l3), (0, s2 + ((dN (w 84 g) (w 85 g) : Nat) : Int)), (0, wrp (((g : Nat) : Int) + 1)), (0, ((dN (w 84 g) (w 85 g) : Nat) : Int))]) (st' := []) (w' := (qup wX 23 4 (-1))) (n' := 142) rfl ?_
              rw [show wrp (((g : Nat) : Int) + 1) = ((g + 1 : Nat) : Int) from wrp_id (by omega) (by omega)]
              refine qG.blk 1 (pc' := 46) (ls' := [(2, 23), l1, (2, 83), (0, l3), (0, s2 + ((dN (w 84 g) (w 85 g) : Nat) : Int)), (0, ((g + 1 : Nat) : Int)), (0, ((dN (w 84 g) (w 85 g) : Nat) : Int))]) (st' := []) (w' := (qup wX 23 4 (-1))) (n' := 142) rfl ?_
              obtain ⟨wN, hwN⟩ : ∃ z : qW, z = (qup wX 23 4 (-1)) := ⟨_, rfl⟩
              rw [← hwN]
              have hIN : yInv zgf zga zra zSp wN := by rw [hwN]; exact zup_f hIX (b := (-2147483648, 2147483647)) rfl rfl rfl ⟨by show (-2147483648 : Int) ≤ _; omega, by show _ ≤ (2147483647 : Int); omega⟩
              have hNf : (∀ q j, ¬ (27 ≤ q ∧ q ≤ 29) → ¬ (q = 23 ∧ 4 ≤ j ∧ j ≤ 5) → wN q j = w q j) := fun q j a b => by rw [hwN, qup_f (by omega)]; exact hXf q j a b
              have hN4 : wN 23 4 = (-1) := by rw [hwN, qup_k]
              have hN27 : ∀ j, sb wN 27 j = sb wX 27 j := fun j => by unfold sb; rw [hwN, qup_nk (by decide)]
              exact ih46 _ (by omega) (g + 1) (s2 + ((dN (w 84 g) (w 85 g) : Nat) : Int)) ((-1)) (wN) ((0, ((dN (w 84 g) (w 85 g) : Nat) : Int))) rfl (⟨by omega, hNf, hIN, hN4, .inl ⟨rfl, by have z := hFL; rcases z with z | z; exact z.2.1; rcases z.2 with z | z; omega; exact z.1, by show _ = ((scF (w 84) (w 85) g + dN (w 84 g) (w 85 g) : Nat) : Int); omega, fun j hj => (hN27 j).trans (hX27 j hj), hXE⟩⟩)
          · skip
            show qG none (d + 1) 35 90 [(2, 23), l1, (2, 83), (0, l3), (0, s2), (0, ((g : Nat) : Int)), l6] [(0, ((e : Nat) : Int))] wX 142 Q9
            refine qG.blk 4 (pc' := 97) (ls' := [(2, 23), l1, (2, 83), (0, l3), (0, s2), (0, ((g : Nat) : Int)), (0, ((e : Nat) : Int))]) (st' := [(0, wrp (s2 + ((e : Nat) : Int)))]) (w' := wX) (n' := 142) rfl ?_
            rw [show wrp (s2 + ((e : Nat) : Int)) = s2 + ((e : Nat) : Int) from wrp_id (by omega) (by omega)]
            refine qG.blk 5 (pc' := 105) (ls' := [(2, 23), l1, (2, 83), (0, l3), (0, s2 + ((e : Nat) : Int)), (0, ((g : Nat) : Int)), (0, ((e : Nat) : Int))]) (st' := [(0, ((g : Nat) : Int)), (2, 83), (0, ((e : Nat) : Int)), (2, 23)]) (w' := wX) (n' := 142) rfl ?_
            refine qG.call (t := 114) (na := 2) (sk := 1) (md := 1) (ls1 := [(2, 83), (0, ((g : Nat) : Int))]) (r1 := [(0, ((e : Nat) : Int)), (2, 23)]) rfl rfl rfl rfl rfl (K_secs83 (Nat.zero_le _) g L hL wX hIX ((hXf 83 2 (by decide) (by omega)).trans hs) (by omega)) ?_
            rintro _ w7 _ ⟨rfl, hw7, rfl⟩
            rw [hw7, hXf 84 g (by decide) (by omega), hXf 85 g (by decide) (by omega), show (if w 84 g = 2 then w 85 g else 1) = ((dN (w 84 g) (w 85 g) : Nat) : Int) from hdn]
            show qG none (d + 1) 35 108 [(2, 23), l1, (2, 83), (0, l3), (0, s2 + ((e : Nat) : Int)), (0, ((g : Nat) : Int)), (0, ((e : Nat) : Int))] [(0, ((dN (w 84 g) (w 85 g) : Nat) : Int)), (0, ((e : Nat) : Int)), (2, 23)] wX 142 Q9
            refine qG.br (P := ((e : Nat) : Int) < ((dN (w 84 g) (w 85 g) : Nat) : Int)) (pc1 := 111) (pc2 := 116) (st1 := [(2, 23)]) rfl (fun h108 => ?_) (fun h108 => ?_)
            · skip
              refine qG.blk 4 (pc' := 123) (ls' := [(2, 23), l1, (2, 83), (0, l3), (0, s2 + ((e : Nat) : Int)), (0, wrp (((g : Nat) : Int) + 1)), (0, ((e : Nat) : Int))]) (st' := []) (w' := (qup wX 23 4 (s2 + ((e : Nat) : Int)))) (n' := 142) rfl ?_
              rw [show wrp (((g : Nat) : Int) + 1) = ((g + 1 : Nat) : Int) from wrp_id (by omega) (by omega)]
              refine qG.blk 1 (pc' := 46) (ls' := [(2, 23), l1, (2, 83), (0, l3), (0, s2 + ((e : Nat) : Int)), (0, ((g + 1 : Nat) : Int)), (0, ((e : Nat) : Int))]) (st' := []) (w' := (qup wX 23 4 (s2 + ((e : Nat) : Int)))) (n' := 142) rfl ?_
              obtain ⟨wN, hwN⟩ : ∃ z : qW, z = (qup wX 23 4 (s2 + ((e : Nat) : Int))) := ⟨_, rfl⟩
              rw [← hwN]
              have hIN : yInv zgf zga zra zSp wN := by rw [hwN]; exact zup_f hIX (b := (-2147483648, 2147483647)) rfl rfl rfl ⟨by show (-2147483648 : Int) ≤ _; omega, by show _ ≤ (2147483647 : Int); omega⟩
              have hNf : (∀ q j, ¬ (27 ≤ q ∧ q ≤ 29) → ¬ (q = 23 ∧ 4 ≤ j ∧ j ≤ 5) → wN q j = w q j) := fun q j a b => by rw [hwN, qup_f (by omega)]; exact hXf q j a b
              have hN4 : wN 23 4 = (s2 + ((e : Nat) : Int)) := by rw [hwN, qup_k]
              have hN27 : ∀ j, sb wN 27 j = sb wX 27 j := fun j => by unfold sb; rw [hwN, qup_nk (by decide)]
              exact ih46 _ (by omega) (g + 1) (s2 + ((e : Nat) : Int)) (s2 + ((e : Nat) : Int)) (wN) ((0, ((e : Nat) : Int))) rfl (⟨by omega, hNf, hIN, hN4, .inr ⟨fun j hj => (hN27 j).trans (hX27 j hj), .inr ⟨hNp, scF (w 84) (w 85) g + e, by have := scF_le (K := w 84) (N := w 85) (show g + 1 ≤ L by omega); have : scF (w 84) (w 85) (g + 1) = scF (w 84) (w 85) g + dN (w 84 g) (w 85 g) := rfl; omega, by omega, hXE, hXE2⟩⟩⟩)
            · skip
              refine qG.blk 3 (pc' := 123) (ls' := [(2, 23), l1, (2, 83), (0, l3), (0, s2 + ((e : Nat) : Int)), (0, wrp (((g : Nat) : Int) + 1)), (0, ((e : Nat) : Int))]) (st' := []) (w' := (qup wX 23 4 (-1))) (n' := 142) rfl ?_
              rw [show wrp (((g : Nat) : Int) + 1) = ((g + 1 : Nat) : Int) from wrp_id (by omega) (by omega)]
              refine qG.blk 1 (pc' := 46) (ls' := [(2, 23), l1, (2, 83), (0, l3), (0, s2 + ((e : Nat) : Int)), (0, ((g + 1 : Nat) : Int)), (0, ((e : Nat) : Int))]) (st' := []) (w' := (qup wX 23 4 (-1))) (n' := 142) rfl ?_
              exact absurd he (by omega)
        · skip
          refine qG.blk 3 (pc' := 131) (ls' := [(2, 23), l1, (2, 83), (0, l3), (0, s2), (0, ((g : Nat) : Int)), l6]) (st' := [(2, wS 23 1), (2, 23)]) (w' := wS) (n' := 142) rfl ?_
          rw [show wS 23 1 = 27 from (hSf 23 1 (by decide) (by omega)).trans (zref hI rfl rfl)]
          refine qG.call (t := 52) (na := 1) (sk := 0) (md := 0) (ls1 := [(2, 27), (9, 0), (9, 0), (9, 0), (9, 0), (9, 0), (9, 0)]) (r1 := [(2, 23)]) rfl rfl rfl rfl rfl (K_howM27 (by omega) wS) ?_
          rintro _ w7 _ ⟨rfl, hw7, rfl⟩
          rw [hw7]
          show qG none (d + 1) 35 134 [(2, 23), l1, (2, 83), (0, l3), (0, s2), (0, ((g : Nat) : Int)), l6] [(0, ((ctb (fun j => sb wS 27 j) 192 : Nat) : Int)), (2, 23)] wS 142 Q9
          refine qG.blk 1 (pc' := 137) (ls' := [(2, 23), l1, (2, 83), (0, l3), (0, s2), (0, ((g : Nat) : Int)), l6]) (st' := []) (w' := (qup wS 23 5 ((ctb (fun j => sb wS 27 j) 192 : Nat) : Int))) (n' := 142) rfl ?_
          refine qG.retv rfl rfl ?_
          subst hQ9
          refine ⟨rfl, rfl, zup_f hIS (b := (-2147483648, 2147483647)) rfl rfl rfl ⟨by show (-2147483648 : Int) ≤ _; omega, by have := ctbL_le (f := fun j => sb wS 27 j) 192; show _ ≤ (2147483647 : Int); omega⟩, fun q j a b => by rw [qup_f (by omega)]; exact hSf q j a b, ?_⟩
          rw [qup_k, qup_j (show (4 : Nat) ≠ 5 by decide), hfl]
          exact hFL.sp hT.1 _ (fun z => by first | (rw [show g = L by omega]; done) | exact absurd z hf60)
      · skip
        refine qG.blk 3 (pc' := 131) (ls' := [(2, 23), l1, (2, 83), (0, l3), (0, s2), (0, ((g : Nat) : Int)), l6]) (st' := [(2, wS 23 1), (2, 23)]) (w' := wS) (n' := 142) rfl ?_
        rw [show wS 23 1 = 27 from (hSf 23 1 (by decide) (by omega)).trans (zref hI rfl rfl)]
        refine qG.call (t := 52) (na := 1) (sk := 0) (md := 0) (ls1 := [(2, 27), (9, 0), (9, 0), (9, 0), (9, 0), (9, 0), (9, 0)]) (r1 := [(2, 23)]) rfl rfl rfl rfl rfl (K_howM27 (by omega) wS) ?_
        rintro _ w7 _ ⟨rfl, hw7, rfl⟩
        rw [hw7]
        show qG none (d + 1) 35 134 [(2, 23), l1, (2, 83), (0, l3), (0, s2), (0, ((g : Nat) : Int)), l6] [(0, ((ctb (fun j => sb wS 27 j) 192 : Nat) : Int)), (2, 23)] wS 142 Q9
        refine qG.blk 1 (pc' := 137) (ls' := [(2, 23), l1, (2, 83), (0, l3), (0, s2), (0, ((g : Nat) : Int)), l6]) (st' := []) (w' := (qup wS 23 5 ((ctb (fun j => sb wS 27 j) 192 : Nat) : Int))) (n' := 142) rfl ?_
        refine qG.retv rfl rfl ?_
        subst hQ9
        refine ⟨rfl, rfl, zup_f hIS (b := (-2147483648, 2147483647)) rfl rfl rfl ⟨by show (-2147483648 : Int) ≤ _; omega, by have := ctbL_le (f := fun j => sb wS 27 j) 192; show _ ≤ (2147483647 : Int); omega⟩, fun q j a b => by rw [qup_f (by omega)]; exact hSf q j a b, ?_⟩
        rw [qup_k, qup_j (show (4 : Nat) ≠ 5 by decide), hfl]
        exact hFL.sp hT.1 _ (fun z => by first | (rw [show g = L by omega]; done) | exact absurd z hf60)
    exact L46_1 _ (0) (0) (0) (w2) ((9, 0)) rfl (⟨Nat.zero_le _, h2f, hI2, h24, .inr ⟨fun j hj => (h227 j hj).trans (by show decide (j < N) = false; exact decide_eq_false (by omega)), .inl ⟨hN0, rfl⟩⟩⟩)
theorem K_flwB87 {d : Nat} (hd : 4 ≤ d) (N : Nat) (P : Nat → Int) (M : Nat → Nat → Bool) (V : Nat → Int) (L : Nat) (hL : L ≤ 40) (w : qW) (hI : yInv zgf zga zra zSp w) (hs : w 87 2 = (L : Int)) (hKW : KNw (w 88) (w 89) L) (hT : CTB N P M w) (hVV : ∀ g, g < L → ∀ u, u < dN (w 88 g) (w 89 g) → V (scF (w 88) (w 89) g + u) = w 90 g) (l1 : qV) (l3 : Int) : qG none d 35 9 [(2, 23), l1, (2, 87), (0, l3), (9, 0), (9, 0), (9, 0)] [] w 142 (fun (r : qV) (w1 : qW) (n1 : Nat) => r = (9, 0) ∧ n1 = 142 ∧ yInv zgf zga zra zSp w1 ∧ (∀ q j, ¬ (27 ≤ q ∧ q ≤ 29) → ¬ (q = 23 ∧ 4 ≤ j ∧ j ≤ 5) → w1 q j = w q j) ∧ HSP N P M V (scF (w 88) (w 89) L) (w1 23 4) (w1 23 5)) := by
  generalize hQ9 : (fun (r : qV) (w1 : qW) (n1 : Nat) => r = (9, 0) ∧ n1 = 142 ∧ yInv zgf zga zra zSp w1 ∧ (∀ q j, ¬ (27 ≤ q ∧ q ≤ 29) → ¬ (q = 23 ∧ 4 ≤ j ∧ j ≤ 5) → w1 q j = w q j) ∧ HSP N P M V (scF (w 88) (w 89) L) (w1 23 4) (w1 23 5)) = Q9
  obtain ⟨d, rfl⟩ : ∃ d9, d = d9 + 1 := ⟨d - 1, by omega⟩
  refine qG.blk 2 (pc' := 13) (ls' := [(2, 23), l1, (2, 87), (0, l3), (9, 0), (9, 0), (9, 0)]) (st' := [(2, w 23 0)]) (w' := w) (n' := 142) rfl ?_
  rw [show w 23 0 = 24 from zref hI rfl rfl]
  refine qG.blk 3 (pc' := 18) (ls' := [(2, 23), l1, (2, 87), (0, l3), (9, 0), (9, 0), (9, 0)]) (st' := [(2, w 23 1), (0, 0), (2, 24)]) (w' := w) (n' := 142) rfl ?_
  rw [show w 23 1 = 27 from zref hI rfl rfl]
  refine qG.call (t := 103) (na := 3) (sk := 1) (md := 1) (ls1 := [(2, 24), (0, 0), (2, 27), (9, 0), (9, 0)]) (r1 := []) rfl rfl rfl rfl rfl (K_unseen27 (by omega) 0 N hT.1 w hI hT.2.1) ?_
  rintro _ w1 _ ⟨rfl, rfl, hR1⟩
  have h1f : (∀ q j, ¬ (27 ≤ q ∧ q ≤ 29) → ¬ (q = 23 ∧ 4 ≤ j ∧ j ≤ 5) → w1 q j = w q j) := fun q j a b => hR1.2.1 q j (by omega)
  have hI1 := hR1.2.2
  have h127 : HOLD w1 27 (hz N P M V 0) := fun j hj => by rw [show sb w1 27 j = (decide (j < N) && decide (qand (w 25 j) 0 = 0)) from hR1.1 j hj, qand_z0, decide_eq_true rfl, Bool.and_true]; rfl
  show qG none (d + 1) 35 21 [(2, 23), l1, (2, 87), (0, l3), (9, 0), (9, 0), (9, 0)] [] w1 142 Q9
  refine qG.blk 3 (pc' := 26) (ls' := [(2, 23), l1, (2, 87), (0, l3), (9, 0), (9, 0), (9, 0)]) (st' := [(2, w1 23 1), (2, 23)]) (w' := w1) (n' := 142) rfl ?_
  rw [show w1 23 1 = 27 from (h1f 23 1 (by decide) (by omega)).trans (zref hI rfl rfl)]
  refine qG.call (t := 51) (na := 1) (sk := 0) (md := 0) (ls1 := [(2, 27)]) (r1 := [(2, 23)]) rfl rfl rfl rfl rfl (K_isEmpty27 (by omega) w1) ?_
  rintro _ w7 _ ⟨rfl, hw7, rfl⟩
  rw [hw7]
  show qG none (d + 1) 35 29 [(2, 23), l1, (2, 87), (0, l3), (9, 0), (9, 0), (9, 0)] [(0, (if ctb (fun j => sb w1 27 j) 192 = 0 then 1 else 0)), (2, 23)] w1 142 Q9
  refine qG.br (P := (if ctb (fun j => sb w1 27 j) 192 = 0 then 1 else 0) = 0) (pc1 := 36) (pc2 := 32) (st1 := [(2, 23)]) rfl (fun hem => ?_) (fun hem => ?_)
  · skip
    have hNp : 0 < N := by
      by_cases z : N = 0
      · have y : ctb (fun j => sb w1 27 j) 192 = 0 := ctb_0.mpr (fun j hj => (h127 j hj).trans (by show decide (j < N) = false; exact decide_eq_false (by omega)))
        rw [if_pos y] at hem; exact absurd hem (by decide)
      · omega
    refine qG.blk 6 (pc' := 46) (ls' := [(2, 23), l1, (2, 87), (0, l3), (0, 0), (0, 0), (9, 0)]) (st' := []) (w' := (qup w1 23 4 (-1))) (n' := 142) rfl ?_
    obtain ⟨w2, hw2⟩ : ∃ z : qW, z = (qup w1 23 4 (-1)) := ⟨_, rfl⟩
    rw [← hw2]
    have hI2 : yInv zgf zga zra zSp w2 := by rw [hw2]; exact zup_f hI1 (b := (-2147483648, 2147483647)) rfl rfl rfl ⟨by decide, by decide⟩
    have h2f : (∀ q j, ¬ (27 ≤ q ∧ q ≤ 29) → ¬ (q = 23 ∧ 4 ≤ j ∧ j ≤ 5) → w2 q j = w q j) := fun q j a b => by rw [hw2, qup_f (by omega)]; exact h1f q j a b
    have h24 : w2 23 4 = (-1) := by rw [hw2, qup_k]
    have h227 : HOLD w2 27 (hz N P M V 0) := fun j hj => by rw [show sb w2 27 j = sb w1 27 j from by unfold sb; rw [hw2, qup_nk (by decide)]]; exact h127 j hj
    have L46 : ∀ (m9 : Nat) (g : Nat) (s2 fl : Int) (wS : qW) (l6 : qV), L - g = m9 → (g ≤ L ∧ (∀ q j, ¬ (27 ≤ q ∧ q ≤ 29) → ¬ (q = 23 ∧ 4 ≤ j ∧ j ≤ 5) → wS q j = w q j) ∧ yInv zgf zga zra zSp wS ∧ wS 23 4 = fl ∧ FLW N P M V (scF (w 88) (w 89) g) (scF (w 88) (w 89) L) fl s2 wS) → qG none (d + 1) 35 46 [(2, 23), l1, (2, 87), (0, l3), (0, s2), (0, ((g : Nat) : Int)), l6] [] wS 142 Q9 := by
      intro m9
      induction m9 using Nat.strongRecOn with
      | ind m9 ih46 =>
      intro g s2 fl wS l6 hm46 hI46
      obtain ⟨hgL, hSf, hIS, hfl, hFL⟩ := hI46
      have hTS := hT.cg (w1 := wS) (fun q j h => hSf q j (by omega) (by omega))
      refine qG.blk 2 (pc' := 49) (ls' := [(2, 23), l1, (2, 87), (0, l3), (0, s2), (0, ((g : Nat) : Int)), l6]) (st' := [(2, 87), (0, ((g : Nat) : Int))]) (w' := wS) (n' := 142) rfl ?_
      refine qG.call (t := 110) (na := 1) (sk := 1) (md := 1) (ls1 := [(2, 87)]) (r1 := [(0, ((g : Nat) : Int))]) rfl rfl rfl rfl rfl (K_stepC87 (Nat.zero_le _) wS (x := ((L : Nat) : Int)) ((hSf 87 2 (by decide) (by omega)).trans hs)) ?_
      rintro _ w7 _ ⟨rfl, hw7, rfl⟩
      rw [hw7]
      show qG none (d + 1) 35 52 [(2, 23), l1, (2, 87), (0, l3), (0, s2), (0, ((g : Nat) : Int)), l6] [(0, ((L : Nat) : Int)), (0, ((g : Nat) : Int))] wS 142 Q9
      refine qG.br (P := ((g : Nat) : Int) < ((L : Nat) : Int)) (pc1 := 55) (pc2 := 126) (st1 := []) rfl (fun hgL2 => ?_) (fun hgL2 => ?_)
      · skip
        refine qG.blk 2 (pc' := 59) (ls' := [(2, 23), l1, (2, 87), (0, l3), (0, s2), (0, ((g : Nat) : Int)), l6]) (st' := [(0, wS 23 4)]) (w' := wS) (n' := 142) rfl ?_
        rw [show wS 23 4 = fl from hfl]
        refine qG.blk 1 (pc' := 60) (ls' := [(2, 23), l1, (2, 87), (0, l3), (0, s2), (0, ((g : Nat) : Int)), l6]) (st' := [(0, (-1)), (0, fl)]) (w' := wS) (n' := 142) rfl ?_
        refine qG.br (P := fl = (-1)) (pc1 := 63) (pc2 := 126) (st1 := []) rfl (fun hf60 => ?_) (fun hf60 => ?_)
        · skip
          obtain ⟨-, hNp, hs2, hH27, hnE⟩ : fl = -1 ∧ 0 < N ∧ s2 = ((scF (w 88) (w 89) g : Nat) : Int) ∧ HOLD wS 27 (hz N P M V (scF (w 88) (w 89) g)) ∧ ¬ hzE (hz N P M V (scF (w 88) (w 89) g)) := by
            rcases hFL with z | ⟨-, ⟨-, z⟩ | ⟨-, f, -, z, -⟩⟩
            · exact z
            · omega
            · omega
          have hdn : (if w 88 g = 2 then w 89 g else 1) = ((dN (w 88 g) (w 89 g) : Nat) : Int) := by have z := sc_s hKW (show g < L by omega); have y : ((scF (w 88) (w 89) (g + 1) : Nat) : Int) = ((scF (w 88) (w 89) g : Nat) : Int) + ((dN (w 88 g) (w 89 g) : Nat) : Int) := rfl; omega
          have hd20 : dN (w 88 g) (w 89 g) ≤ 20 := by have z := sc_le hKW (g + 1) (by omega); have q := hKW g (by omega); by_cases y : w 88 g = 2; rw [if_pos y] at hdn; have := q y; omega; rw [if_neg y] at hdn; omega
          have hsc := sc_le hKW g (by omega)
          refine qG.blk 2 (pc' := 67) (ls' := [(2, 23), l1, (2, 87), (0, l3), (0, s2), (0, ((g : Nat) : Int)), l6]) (st' := [(2, wS 23 0)]) (w' := wS) (n' := 142) rfl ?_
          rw [show wS 23 0 = 24 from (hSf 23 0 (by decide) (by omega)).trans (zref hI rfl rfl)]
          refine qG.blk 2 (pc' := 70) (ls' := [(2, 23), l1, (2, 87), (0, l3), (0, s2), (0, ((g : Nat) : Int)), l6]) (st' := [(0, ((g : Nat) : Int)), (2, 87), (2, 24)]) (w' := wS) (n' := 142) rfl ?_
          refine qG.call (t := 115) (na := 2) (sk := 1) (md := 1) (ls1 := [(2, 87), (0, ((g : Nat) : Int))]) (r1 := [(2, 24)]) rfl rfl rfl rfl rfl (K_vwOf87 (Nat.zero_le _) g L hL wS hIS ((hSf 87 2 (by decide) (by omega)).trans hs) (by omega)) ?_
          rintro _ w7 _ ⟨rfl, hw7, rfl⟩
          rw [hw7, hSf 90 g (by decide) (by omega)]
          show qG none (d + 1) 35 73 [(2, 23), l1, (2, 87), (0, l3), (0, s2), (0, ((g : Nat) : Int)), l6] [(0, w 90 g), (2, 24)] wS 142 Q9
          refine qG.blk 2 (pc' := 77) (ls' := [(2, 23), l1, (2, 87), (0, l3), (0, s2), (0, ((g : Nat) : Int)), l6]) (st' := [(2, wS 23 3), (0, w 90 g), (2, 24)]) (w' := wS) (n' := 142) rfl ?_
          rw [show wS 23 3 = 29 from (hSf 23 3 (by decide) (by omega)).trans (zref hI rfl rfl)]
          refine qG.call (t := 103) (na := 3) (sk := 1) (md := 1) (ls1 := [(2, 24), (0, w 90 g), (2, 29), (9, 0), (9, 0)]) (r1 := []) rfl rfl rfl rfl rfl (K_unseen29 (by omega) (w 90 g) N hT.1 wS hIS (hTS.2.1)) ?_
          rintro _ wU _ ⟨rfl, rfl, hRU⟩
          have hIU := hRU.2.2
          have hUf : (∀ q j, ¬ (27 ≤ q ∧ q ≤ 29) → ¬ (q = 23 ∧ 4 ≤ j ∧ j ≤ 5) → wU q j = w q j) := fun q j a b => (hRU.2.1 q j (by omega)).trans (hSf q j a b)
          have hTU := hTS.cg (w1 := wU) (fun q j h => hRU.2.1 q j (by omega))
          have hU27 : HOLD wU 27 (hz N P M V (scF (w 88) (w 89) g)) := fun j hj => by rw [hRU.o (by decide)]; exact hH27 j hj
          have hU29 : HOLD wU 29 (fun j => decide (j < N) && decide (qand (P j) (w 90 g) = 0)) := fun j hj => by
            rw [show sb wU 29 j = (decide (j < N) && decide (qand (wS 25 j) (w 90 g) = 0)) from hRU.1 j hj]
            show _ = (decide (j < N) && decide (qand (P j) (w 90 g) = 0))
            by_cases hjN : j < N
            · rw [hTS.2.2.1 j hjN]
            · rw [decide_eq_false hjN, Bool.false_and, Bool.false_and]
          show qG none (d + 1) 35 80 [(2, 23), l1, (2, 87), (0, l3), (0, s2), (0, ((g : Nat) : Int)), l6] [] wU 142 Q9
          refine qG.blk 3 (pc' := 84) (ls' := [(2, 23), l1, (2, 87), (0, l3), (0, s2), (0, ((g : Nat) : Int)), l6]) (st' := [(0, ((g : Nat) : Int)), (2, 87), (2, 23)]) (w' := wU) (n' := 142) rfl ?_
          refine qG.call (t := 114) (na := 2) (sk := 1) (md := 1) (ls1 := [(2, 87), (0, ((g : Nat) : Int))]) (r1 := [(2, 23)]) rfl rfl rfl rfl rfl (K_secs87 (Nat.zero_le _) g L hL wU hIU ((hUf 87 2 (by decide) (by omega)).trans hs) (by omega)) ?_
          rintro _ w7 _ ⟨rfl, hw7, rfl⟩
          rw [hw7, hUf 88 g (by decide) (by omega), hUf 89 g (by decide) (by omega), show (if w 88 g = 2 then w 89 g else 1) = ((dN (w 88 g) (w 89 g) : Nat) : Int) from hdn]
          show qG none (d + 1) 35 87 [(2, 23), l1, (2, 87), (0, l3), (0, s2), (0, ((g : Nat) : Int)), l6] [(0, ((dN (w 88 g) (w 89 g) : Nat) : Int)), (2, 23)] wU 142 Q9
          refine qG.call (t := 36) (na := 2) (sk := 1) (md := 1) (ls1 := [(2, 23), (0, ((dN (w 88 g) (w 89 g) : Nat) : Int)), (9, 0)]) (r1 := []) rfl rfl rfl rfl rfl (K_stayU (by omega) N P M V (scF (w 88) (w 89) g) (dN (w 88 g) (w 89 g)) (w 90 g) (by omega) (fun u hu => hVV g (by omega) u hu) wU hIU hTU hU27 hU29 hnE) ?_
          rintro _ wX _ ⟨rfl, hX9, hIX, ⟨rfl, hX27, hXE⟩ | ⟨e, he, rfl, hX27, hXE, hXE2⟩⟩ <;> have hXf : (∀ q j, ¬ (27 ≤ q ∧ q ≤ 29) → ¬ (q = 23 ∧ 4 ≤ j ∧ j ≤ 5) → wX q j = w q j) := fun q j a b => (hX9 q j (by omega) (by omega)).trans (hUf q j a b)
          · skip
            show qG none (d + 1) 35 90 [(2, 23), l1, (2, 87), (0, l3), (0, s2), (0, ((g : Nat) : Int)), l6] [(0, ((dN (w 88 g) (w 89 g) : Nat) : Int))] wX 142 Q9
            refine qG.blk 4 (pc' := 97) (ls' := [(2, 23), l1, (2, 87), (0, l3), (0, s2), (0, ((g : Nat) : Int)), (0, ((dN (w 88 g) (w 89 g) : Nat) : Int))]) (st' := [(0, wrp (s2 + ((dN (w 88 g) (w 89 g) : Nat) : Int)))]) (w' := wX) (n' := 142) rfl ?_
            rw [show wrp (s2 + ((dN (w 88 g) (w 89 g) : Nat) : Int)) = s2 + ((dN (w 88 g) (w 89 g) : Nat) : Int) from wrp_id (by omega) (by omega)]
            refine qG.blk 5 (pc' := 105) (ls' := [(2, 23), l1, (2, 87), (0, l3), (0, s2 + ((dN (w 88 g) (w 89 g) : Nat) : Int)), (0, ((g : Nat) : Int)), (0, ((dN (w 88 g) (w 89 g) : Nat) : Int))]) (st' := [(0, ((g : Nat) : Int)), (2, 87), (0, ((dN (w 88 g) (w 89 g) : Nat) : Int)), (2, 23)]) (w' := wX) (n' := 142) rfl ?_
            refine qG.call (t := 114) (na := 2) (sk := 1) (md := 1) (ls1 := [(2, 87), (0, ((g : Nat) : Int))]) (r1 := [(0, ((dN (w 88 g) (w 89 g) : Nat) : Int)), (2, 23)]) rfl rfl rfl rfl rfl (K_secs87 (Nat.zero_le _) g L hL wX hIX ((hXf 87 2 (by decide) (by omega)).trans hs) (by omega)) ?_
            rintro _ w7 _ ⟨rfl, hw7, rfl⟩
            rw [hw7, hXf 88 g (by decide) (by omega), hXf 89 g (by decide) (by omega), show (if w 88 g = 2 then w 89 g else 1) = ((dN (w 88 g) (w 89 g) : Nat) : Int) from hdn]
            show qG none (d + 1) 35 108 [(2, 23), l1, (2, 87), (0, l3), (0, s2 + ((dN (w 88 g) (w 89 g) : Nat) : Int)), (0, ((g : Nat) : Int)), (0, ((dN (w 88 g) (w 89 g) : Nat) : Int))] [(0, ((dN (w 88 g) (w 89 g) : Nat) : Int)), (0, ((dN (w 88 g) (w 89 g) : Nat) : Int)), (2, 23)] wX 142 Q9
            refine qG.br (P := ((dN (w 88 g) (w 89 g) : Nat) : Int) < ((dN (w 88 g) (w 89 g) : Nat) : Int)) (pc1 := 111) (pc2 := 116) (st1 := [(2, 23)]) rfl (fun h108 => ?_) (fun h108 => ?_)
            · skip
              refine qG.blk 4 (pc' := 123) (ls' := [(2, 23), l1, (2, 87), (0, l3), (0, s2 + ((dN (w 88 g) (w 89 g) : Nat) : Int)), (0, wrp (((g : Nat) : Int) + 1)), (0, ((dN (w 88 g) (w 89 g) : Nat) : Int))]) (st' := []) (w' := (qup wX 23 4 (s2 + ((dN (w 88 g) (w 89 g) : Nat) : Int)))) (n' := 142) rfl ?_
              rw [show wrp (((g : Nat) : Int) + 1) = ((g + 1 : Nat) : Int) from wrp_id (by omega) (by omega)]
              refine qG.blk 1 (pc' := 46) (ls' := [(2, 23), l1, (2, 87), (0, l3), (0, s2 + ((dN (w 88 g) (w 89 g) : Nat) : Int)), (0, ((g + 1 : Nat) : Int)), (0, ((dN (w 88 g) (w 89 g) : Nat) : Int))]) (st' := []) (w' := (qup wX 23 4 (s2 + ((dN (w 88 g) (w 89 g) : Nat) : Int)))) (n' := 142) rfl ?_
              exact absurd h108 (by omega)
            · skip
              refine qG.blk 3 (pc' := 123) (ls' := [(2, 23), l1, (2, 87), (0, l3), (0, s2 + ((dN (w 88 g) (w 89 g) : Nat) : Int)), (0, wrp (((g : Nat) : Int) + 1)), (0, ((dN (w 88 g) (w 89 g) : Nat) : Int))]) (st' := []) (w' := (qup wX 23 4 (-1))) (n' := 142) rfl ?_
              rw [show wrp (((g : Nat) : Int) + 1) = ((g + 1 : Nat) : Int) from wrp_id (by omega) (by omega)]
              refine qG.blk 1 (pc' := 46) (ls' := [(2, 23), l1, (2, 87), (0, l3), (0, s2 + ((dN (w 88 g) (w 89 g) : Nat) : Int)), (0, ((g + 1 : Nat) : Int)), (0, ((dN (w 88 g) (w 89 g) : Nat) : Int))]) (st' := []) (w' := (qup wX 23 4 (-1))) (n' := 142) rfl ?_
              obtain ⟨wN, hwN⟩ : ∃ z : qW, z = (qup wX 23 4 (-1)) := ⟨_, rfl⟩
              rw [← hwN]
              have hIN : yInv zgf zga zra zSp wN := by rw [hwN]; exact zup_f hIX (b := (-2147483648, 2147483647)) rfl rfl rfl ⟨by show (-2147483648 : Int) ≤ _; omega, by show _ ≤ (2147483647 : Int); omega⟩
              have hNf : (∀ q j, ¬ (27 ≤ q ∧ q ≤ 29) → ¬ (q = 23 ∧ 4 ≤ j ∧ j ≤ 5) → wN q j = w q j) := fun q j a b => by rw [hwN, qup_f (by omega)]; exact hXf q j a b
              have hN4 : wN 23 4 = (-1) := by rw [hwN, qup_k]
              have hN27 : ∀ j, sb wN 27 j = sb wX 27 j := fun j => by unfold sb; rw [hwN, qup_nk (by decide)]
              exact ih46 _ (by omega) (g + 1) (s2 + ((dN (w 88 g) (w 89 g) : Nat) : Int)) ((-1)) (wN) ((0, ((dN (w 88 g) (w 89 g) : Nat) : Int))) rfl (⟨by omega, hNf, hIN, hN4, .inl ⟨rfl, by have z := hFL; rcases z with z | z; exact z.2.1; rcases z.2 with z | z; omega; exact z.1, by show _ = ((scF (w 88) (w 89) g + dN (w 88 g) (w 89 g) : Nat) : Int); omega, fun j hj => (hN27 j).trans (hX27 j hj), hXE⟩⟩)
          · skip
            show qG none (d + 1) 35 90 [(2, 23), l1, (2, 87), (0, l3), (0, s2), (0, ((g : Nat) : Int)), l6] [(0, ((e : Nat) : Int))] wX 142 Q9
            refine qG.blk 4 (pc' := 97) (ls' := [(2, 23), l1, (2, 87), (0, l3), (0, s2), (0, ((g : Nat) : Int)), (0, ((e : Nat) : Int))]) (st' := [(0, wrp (s2 + ((e : Nat) : Int)))]) (w' := wX) (n' := 142) rfl ?_
            rw [show wrp (s2 + ((e : Nat) : Int)) = s2 + ((e : Nat) : Int) from wrp_id (by omega) (by omega)]
            refine qG.blk 5 (pc' := 105) (ls' := [(2, 23), l1, (2, 87), (0, l3), (0, s2 + ((e : Nat) : Int)), (0, ((g : Nat) : Int)), (0, ((e : Nat) : Int))]) (st' := [(0, ((g : Nat) : Int)), (2, 87), (0, ((e : Nat) : Int)), (2, 23)]) (w' := wX) (n' := 142) rfl ?_
            refine qG.call (t := 114) (na := 2) (sk := 1) (md := 1) (ls1 := [(2, 87), (0, ((g : Nat) : Int))]) (r1 := [(0, ((e : Nat) : Int)), (2, 23)]) rfl rfl rfl rfl rfl (K_secs87 (Nat.zero_le _) g L hL wX hIX ((hXf 87 2 (by decide) (by omega)).trans hs) (by omega)) ?_
            rintro _ w7 _ ⟨rfl, hw7, rfl⟩
            rw [hw7, hXf 88 g (by decide) (by omega), hXf 89 g (by decide) (by omega), show (if w 88 g = 2 then w 89 g else 1) = ((dN (w 88 g) (w 89 g) : Nat) : Int) from hdn]
            show qG none (d + 1) 35 108 [(2, 23), l1, (2, 87), (0, l3), (0, s2 + ((e : Nat) : Int)), (0, ((g : Nat) : Int)), (0, ((e : Nat) : Int))] [(0, ((dN (w 88 g) (w 89 g) : Nat) : Int)), (0, ((e : Nat) : Int)), (2, 23)] wX 142 Q9
            refine qG.br (P := ((e : Nat) : Int) < ((dN (w 88 g) (w 89 g) : Nat) : Int)) (pc1 := 111) (pc2 := 116) (st1 := [(2, 23)]) rfl (fun h108 => ?_) (fun h108 => ?_)
            · skip
              refine qG.blk 4 (pc' := 123) (ls' := [(2, 23), l1, (2, 87), (0, l3), (0, s2 + ((e : Nat) : Int)), (0, wrp (((g : Nat) : Int) + 1)), (0, ((e : Nat) : Int))]) (st' := []) (w' := (qup wX 23 4 (s2 + ((e : Nat) : Int)))) (n' := 142) rfl ?_
              rw [show wrp (((g : Nat) : Int) + 1) = ((g + 1 : Nat) : Int) from wrp_id (by omega) (by omega)]
              refine qG.blk 1 (pc' := 46) (ls' := [(2, 23), l1, (2, 87), (0, l3), (0, s2 + ((e : Nat) : Int)), (0, ((g + 1 : Nat) : Int)), (0, ((e : Nat) : Int))]) (st' := []) (w' := (qup wX 23 4 (s2 + ((e : Nat) : Int)))) (n' := 142) rfl ?_
              obtain ⟨wN, hwN⟩ : ∃ z : qW, z = (qup wX 23 4 (s2 + ((e : Nat) : Int))) := ⟨_, rfl⟩
              rw [← hwN]
              have hIN : yInv zgf zga zra zSp wN := by rw [hwN]; exact zup_f hIX (b := (-2147483648, 2147483647)) rfl rfl rfl ⟨by show (-2147483648 : Int) ≤ _; omega, by show _ ≤ (2147483647 : Int); omega⟩
              have hNf : (∀ q j, ¬ (27 ≤ q ∧ q ≤ 29) → ¬ (q = 23 ∧ 4 ≤ j ∧ j ≤ 5) → wN q j = w q j) := fun q j a b => by rw [hwN, qup_f (by omega)]; exact hXf q j a b
              have hN4 : wN 23 4 = (s2 + ((e : Nat) : Int)) := by rw [hwN, qup_k]
              have hN27 : ∀ j, sb wN 27 j = sb wX 27 j := fun j => by unfold sb; rw [hwN, qup_nk (by decide)]
              exact ih46 _ (by omega) (g + 1) (s2 + ((e : Nat) : Int)) (s2 + ((e : Nat) : Int)) (wN) ((0, ((e : Nat) : Int))) rfl (⟨by omega, hNf, hIN, hN4, .inr ⟨fun j hj => (hN27 j).trans (hX27 j hj), .inr ⟨hNp, scF (w 88) (w 89) g + e, by have := scF_le (K := w 88) (N := w 89) (show g + 1 ≤ L by omega); have : scF (w 88) (w 89) (g + 1) = scF (w 88) (w 89) g + dN (w 88 g) (w 89 g) := rfl; omega, by omega, hXE, hXE2⟩⟩⟩)
            · skip
              refine qG.blk 3 (pc' := 123) (ls' := [(2, 23), l1, (2, 87), (0, l3), (0, s2 + ((e : Nat) : Int)), (0, wrp (((g : Nat) : Int) + 1)), (0, ((e : Nat) : Int))]) (st' := []) (w' := (qup wX 23 4 (-1))) (n' := 142) rfl ?_
              rw [show wrp (((g : Nat) : Int) + 1) = ((g + 1 : Nat) : Int) from wrp_id (by omega) (by omega)]
              refine qG.blk 1 (pc' := 46) (ls' := [(2, 23), l1, (2, 87), (0, l3), (0, s2 + ((e : Nat) : Int)), (0, ((g + 1 : Nat) : Int)), (0, ((e : Nat) : Int))]) (st' := []) (w' := (qup wX 23 4 (-1))) (n' := 142) rfl ?_
              exact absurd he (by omega)
        · skip
          refine qG.blk 3 (pc' := 131) (ls' := [(2, 23), l1, (2, 87), (0, l3), (0, s2), (0, ((g : Nat) : Int)), l6]) (st' := [(2, wS 23 1), (2, 23)]) (w' := wS) (n' := 142) rfl ?_
          rw [show wS 23 1 = 27 from (hSf 23 1 (by decide) (by omega)).trans (zref hI rfl rfl)]
          refine qG.call (t := 52) (na := 1) (sk := 0) (md := 0) (ls1 := [(2, 27), (9, 0), (9, 0), (9, 0), (9, 0), (9, 0), (9, 0)]) (r1 := [(2, 23)]) rfl rfl rfl rfl rfl (K_howM27 (by omega) wS) ?_
          rintro _ w7 _ ⟨rfl, hw7, rfl⟩
          rw [hw7]
          show qG none (d + 1) 35 134 [(2, 23), l1, (2, 87), (0, l3), (0, s2), (0, ((g : Nat) : Int)), l6] [(0, ((ctb (fun j => sb wS 27 j) 192 : Nat) : Int)), (2, 23)] wS 142 Q9
          refine qG.blk 1 (pc' := 137) (ls' := [(2, 23), l1, (2, 87), (0, l3), (0, s2), (0, ((g : Nat) : Int)), l6]) (st' := []) (w' := (qup wS 23 5 ((ctb (fun j => sb wS 27 j) 192 : Nat) : Int))) (n' := 142) rfl ?_
          refine qG.retv rfl rfl ?_
          subst hQ9
          refine ⟨rfl, rfl, zup_f hIS (b := (-2147483648, 2147483647)) rfl rfl rfl ⟨by show (-2147483648 : Int) ≤ _; omega, by have := ctbL_le (f := fun j => sb wS 27 j) 192; show _ ≤ (2147483647 : Int); omega⟩, fun q j a b => by rw [qup_f (by omega)]; exact hSf q j a b, ?_⟩
          rw [qup_k, qup_j (show (4 : Nat) ≠ 5 by decide), hfl]
          exact hFL.sp hT.1 _ (fun z => by first | (rw [show g = L by omega]; done) | exact absurd z hf60)
      · skip
        refine qG.blk 3 (pc' := 131) (ls' := [(2, 23), l1, (2, 87), (0, l3), (0, s2), (0, ((g : Nat) : Int)), l6]) (st' := [(2, wS 23 1), (2, 23)]) (w' := wS) (n' := 142) rfl ?_
        rw [show wS 23 1 = 27 from (hSf 23 1 (by decide) (by omega)).trans (zref hI rfl rfl)]
        refine qG.call (t := 52) (na := 1) (sk := 0) (md := 0) (ls1 := [(2, 27), (9, 0), (9, 0), (9, 0), (9, 0), (9, 0), (9, 0)]) (r1 := [(2, 23)]) rfl rfl rfl rfl rfl (K_howM27 (by omega) wS) ?_
        rintro _ w7 _ ⟨rfl, hw7, rfl⟩
        rw [hw7]
        show qG none (d + 1) 35 134 [(2, 23), l1, (2, 87), (0, l3), (0, s2), (0, ((g : Nat) : Int)), l6] [(0, ((ctb (fun j => sb wS 27 j) 192 : Nat) : Int)), (2, 23)] wS 142 Q9
        refine qG.blk 1 (pc' := 137) (ls' := [(2, 23), l1, (2, 87), (0, l3), (0, s2), (0, ((g : Nat) : Int)), l6]) (st' := []) (w' := (qup wS 23 5 ((ctb (fun j => sb wS 27 j) 192 : Nat) : Int))) (n' := 142) rfl ?_
        refine qG.retv rfl rfl ?_
        subst hQ9
        refine ⟨rfl, rfl, zup_f hIS (b := (-2147483648, 2147483647)) rfl rfl rfl ⟨by show (-2147483648 : Int) ≤ _; omega, by have := ctbL_le (f := fun j => sb wS 27 j) 192; show _ ≤ (2147483647 : Int); omega⟩, fun q j a b => by rw [qup_f (by omega)]; exact hSf q j a b, ?_⟩
        rw [qup_k, qup_j (show (4 : Nat) ≠ 5 by decide), hfl]
        exact hFL.sp hT.1 _ (fun z => by first | (rw [show g = L by omega]; done) | exact absurd z hf60)
    exact L46 _ (0) (0) ((-1)) (w2) ((9, 0)) rfl (⟨Nat.zero_le _, h2f, hI2, h24, .inl ⟨rfl, hNp, rfl, h227, hz0_E hNp⟩⟩)
  · skip
    have hN0 : N = 0 := by
      by_cases y : ctb (fun j => sb w1 27 j) 192 = 0
      · by_cases z : N = 0
        · exact z
        · have q := ctb_0.mp y 0 (by decide); rw [h127 0 (by decide)] at q; have q : decide (0 < N) = false := q; rw [decide_eq_true (by omega)] at q; cases q
      · rw [if_neg y] at hem; exact absurd rfl hem
    refine qG.blk 7 (pc' := 46) (ls' := [(2, 23), l1, (2, 87), (0, l3), (0, 0), (0, 0), (9, 0)]) (st' := []) (w' := (qup w1 23 4 0)) (n' := 142) rfl ?_
    obtain ⟨w2, hw2⟩ : ∃ z : qW, z = (qup w1 23 4 0) := ⟨_, rfl⟩
    rw [← hw2]
    have hI2 : yInv zgf zga zra zSp w2 := by rw [hw2]; exact zup_f hI1 (b := (-2147483648, 2147483647)) rfl rfl rfl ⟨by decide, by decide⟩
    have h2f : (∀ q j, ¬ (27 ≤ q ∧ q ≤ 29) → ¬ (q = 23 ∧ 4 ≤ j ∧ j ≤ 5) → w2 q j = w q j) := fun q j a b => by rw [hw2, qup_f (by omega)]; exact h1f q j a b
    have h24 : w2 23 4 = 0 := by rw [hw2, qup_k]
    have h227 : HOLD w2 27 (hz N P M V 0) := fun j hj => by rw [show sb w2 27 j = sb w1 27 j from by unfold sb; rw [hw2, qup_nk (by decide)]]; exact h127 j hj
    have L46_1 : ∀ (m9 : Nat) (g : Nat) (s2 fl : Int) (wS : qW) (l6 : qV), L - g = m9 → (g ≤ L ∧ (∀ q j, ¬ (27 ≤ q ∧ q ≤ 29) → ¬ (q = 23 ∧ 4 ≤ j ∧ j ≤ 5) → wS q j = w q j) ∧ yInv zgf zga zra zSp wS ∧ wS 23 4 = fl ∧ FLW N P M V (scF (w 88) (w 89) g) (scF (w 88) (w 89) L) fl s2 wS) → qG none (d + 1) 35 46 [(2, 23), l1, (2, 87), (0, l3), (0, s2), (0, ((g : Nat) : Int)), l6] [] wS 142 Q9 := by
      intro m9
      induction m9 using Nat.strongRecOn with
      | ind m9 ih46 =>
      intro g s2 fl wS l6 hm46 hI46
      obtain ⟨hgL, hSf, hIS, hfl, hFL⟩ := hI46
      have hTS := hT.cg (w1 := wS) (fun q j h => hSf q j (by omega) (by omega))
      refine qG.blk 2 (pc' := 49) (ls' := [(2, 23), l1, (2, 87), (0, l3), (0, s2), (0, ((g : Nat) : Int)), l6]) (st' := [(2, 87), (0, ((g : Nat) : Int))]) (w' := wS) (n' := 142) rfl ?_
      refine qG.call (t := 110) (na := 1) (sk := 1) (md := 1) (ls1 := [(2, 87)]) (r1 := [(0, ((g : Nat) : Int))]) rfl rfl rfl rfl rfl (K_stepC87 (Nat.zero_le _) wS (x := ((L : Nat) : Int)) ((hSf 87 2 (by decide) (by omega)).trans hs)) ?_
      rintro _ w7 _ ⟨rfl, hw7, rfl⟩
      rw [hw7]
      show qG none (d + 1) 35 52 [(2, 23), l1, (2, 87), (0, l3), (0, s2), (0, ((g : Nat) : Int)), l6] [(0, ((L : Nat) : Int)), (0, ((g : Nat) : Int))] wS 142 Q9
      refine qG.br (P := ((g : Nat) : Int) < ((L : Nat) : Int)) (pc1 := 55) (pc2 := 126) (st1 := []) rfl (fun hgL2 => ?_) (fun hgL2 => ?_)
      · skip
        refine qG.blk 2 (pc' := 59) (ls' := [(2, 23), l1, (2, 87), (0, l3), (0, s2), (0, ((g : Nat) : Int)), l6]) (st' := [(0, wS 23 4)]) (w' := wS) (n' := 142) rfl ?_
        rw [show wS 23 4 = fl from hfl]
        refine qG.blk 1 (pc' := 60) (ls' := [(2, 23), l1, (2, 87), (0, l3), (0, s2), (0, ((g : Nat) : Int)), l6]) (st' := [(0, (-1)), (0, fl)]) (w' := wS) (n' := 142) rfl ?_
        refine qG.br (P := fl = (-1)) (pc1 := 63) (pc2 := 126) (st1 := []) rfl (fun hf60 => ?_) (fun hf60 => ?_)
        · skip
          obtain ⟨-, hNp, hs2, hH27, hnE⟩ : fl = -1 ∧ 0 < N ∧ s2 = ((scF (w 88) (w 89) g : Nat) : Int) ∧ HOLD wS 27 (hz N P M V (scF (w 88) (w 89) g)) ∧ ¬ hzE (hz N P M V (scF (w 88) (w 89) g)) := by
            rcases hFL with z | ⟨-, ⟨-, z⟩ | ⟨-, f, -, z, -⟩⟩
            · exact z
            · omega
            · omega
          have hdn : (if w 88 g = 2 then w 89 g else 1) = ((dN (w 88 g) (w 89 g) : Nat) : Int) := by have z := sc_s hKW (show g < L by omega); have y : ((scF (w 88) (w 89) (g + 1) : Nat) : Int) = ((scF (w 88) (w 89) g : Nat) : Int) + ((dN (w 88 g) (w 89 g) : Nat) : Int) := rfl; omega
          have hd20 : dN (w 88 g) (w 89 g) ≤ 20 := by have z := sc_le hKW (g + 1) (by omega); have q := hKW g (by omega); by_cases y : w 88 g = 2; rw [if_pos y] at hdn; have := q y; omega; rw [if_neg y] at hdn; omega
          have hsc := sc_le hKW g (by omega)
          refine qG.blk 2 (pc' := 67) (ls' := [(2, 23), l1, (2, 87), (0, l3), (0, s2), (0, ((g : Nat) : Int)), l6]) (st' := [(2, wS 23 0)]) (w' := wS) (n' := 142) rfl ?_
          rw [show wS 23 0 = 24 from (hSf 23 0 (by decide) (by omega)).trans (zref hI rfl rfl)]
          refine qG.blk 2 (pc' := 70) (ls' := [(2, 23), l1, (2, 87), (0, l3), (0, s2), (0, ((g : Nat) : Int)), l6]) (st' := [(0, ((g : Nat) : Int)), (2, 87), (2, 24)]) (w' := wS) (n' := 142) rfl ?_
          refine qG.call (t := 115) (na := 2) (sk := 1) (md := 1) (ls1 := [(2, 87), (0, ((g : Nat) : Int))]) (r1 := [(2, 24)]) rfl rfl rfl rfl rfl (K_vwOf87 (Nat.zero_le _) g L hL wS hIS ((hSf 87 2 (by decide) (by omega)).trans hs) (by omega)) ?_
          rintro _ w7 _ ⟨rfl, hw7, rfl⟩
          rw [hw7, hSf 90 g (by decide) (by omega)]
          show qG none (d + 1) 35 73 [(2, 23), l1, (2, 87), (0, l3), (0, s2), (0, ((g : Nat) : Int)), l6] [(0, w 90 g), (2, 24)] wS 142 Q9
          refine qG.blk 2 (pc' := 77) (ls' := [(2, 23), l1, (2, 87), (0, l3), (0, s2), (0, ((g : Nat) : Int)), l6]) (st' := [(2, wS 23 3), (0, w 90 g), (2, 24)]) (w' := wS) (n' := 142) rfl ?_
          rw [show wS 23 3 = 29 from (hSf 23 3 (by decide) (by omega)).trans (zref hI rfl rfl)]
          refine qG.call (t := 103) (na := 3) (sk := 1) (md := 1) (ls1 := [(2, 24), (0, w 90 g), (2, 29), (9, 0), (9, 0)]) (r1 := []) rfl rfl rfl rfl rfl (K_unseen29 (by omega) (w 90 g) N hT.1 wS hIS (hTS.2.1)) ?_
          rintro _ wU _ ⟨rfl, rfl, hRU⟩
          have hIU := hRU.2.2
          have hUf : (∀ q j, ¬ (27 ≤ q ∧ q ≤ 29) → ¬ (q = 23 ∧ 4 ≤ j ∧ j ≤ 5) → wU q j = w q j) := fun q j a b => (hRU.2.1 q j (by omega)).trans (hSf q j a b)
          have hTU := hTS.cg (w1 := wU) (fun q j h => hRU.2.1 q j (by omega))
          have hU27 : HOLD wU 27 (hz N P M V (scF (w 88) (w 89) g)) := fun j hj => by rw [hRU.o (by decide)]; exact hH27 j hj
          have hU29 : HOLD wU 29 (fun j => decide (j < N) && decide (qand (P j) (w 90 g) = 0)) := fun j hj => by
            rw [show sb wU 29 j = (decide (j < N) && decide (qand (wS 25 j) (w 90 g) = 0)) from hRU.1 j hj]
            show _ = (decide (j < N) && decide (qand (P j) (w 90 g) = 0))
            by_cases hjN : j < N
            · rw [hTS.2.2.1 j hjN]
            · rw [decide_eq_false hjN, Bool.false_and, Bool.false_and]
          show qG none (d + 1) 35 80 [(2, 23), l1, (2, 87), (0, l3), (0, s2), (0, ((g : Nat) : Int)), l6] [] wU 142 Q9
          refine qG.blk 3 (pc' := 84) (ls' := [(2, 23), l1, (2, 87), (0, l3), (0, s2), (0, ((g : Nat) : Int)), l6]) (st' := [(0, ((g : Nat) : Int)), (2, 87), (2, 23)]) (w' := wU) (n' := 142) rfl ?_
          refine qG.call (t := 114) (na := 2) (sk := 1) (md := 1) (ls1 := [(2, 87), (0, ((g : Nat) : Int))]) (r1 := [(2, 23)]) rfl rfl rfl rfl rfl (K_secs87 (Nat.zero_le _) g L hL wU hIU ((hUf 87 2 (by decide) (by omega)).trans hs) (by omega)) ?_
          rintro _ w7 _ ⟨rfl, hw7, rfl⟩
          rw [hw7, hUf 88 g (by decide) (by omega), hUf 89 g (by decide) (by omega), show (if w 88 g = 2 then w 89 g else 1) = ((dN (w 88 g) (w 89 g) : Nat) : Int) from hdn]
          show qG none (d + 1) 35 87 [(2, 23), l1, (2, 87), (0, l3), (0, s2), (0, ((g : Nat) : Int)), l6] [(0, ((dN (w 88 g) (w 89 g) : Nat) : Int)), (2, 23)] wU 142 Q9
          refine qG.call (t := 36) (na := 2) (sk := 1) (md := 1) (ls1 := [(2, 23), (0, ((dN (w 88 g) (w 89 g) : Nat) : Int)), (9, 0)]) (r1 := []) rfl rfl rfl rfl rfl (K_stayU (by omega) N P M V (scF (w 88) (w 89) g) (dN (w 88 g) (w 89 g)) (w 90 g) (by omega) (fun u hu => hVV g (by omega) u hu) wU hIU hTU hU27 hU29 hnE) ?_
          rintro _ wX _ ⟨rfl, hX9, hIX, ⟨rfl, hX27, hXE⟩ | ⟨e, he, rfl, hX27, hXE, hXE2⟩⟩ <;> have hXf : (∀ q j, ¬ (27 ≤ q ∧ q ≤ 29) → ¬ (q = 23 ∧ 4 ≤ j ∧ j ≤ 5) → wX q j = w q j) := fun q j a b => (hX9 q j (by omega) (by omega)).trans (hUf q j a b)
          · skip
            show qG none (d + 1) 35 90 [(2, 23), l1, (2, 87), (0, l3), (0, s2), (0, ((g : Nat) : Int)), l6] [(0, ((dN (w 88 g) (w 89 g) : Nat) : Int))] wX 142 Q9
            refine qG.blk 4 (pc' := 97) (ls' := [(2, 23), l1, (2, 87), (0, l3), (0, s2), (0, ((g : Nat) : Int)), (0, ((dN (w 88 g) (w 89 g) : Nat) : Int))]) (st' := [(0, wrp (s2 + ((dN (w 88 g) (w 89 g) : Nat) : Int)))]) (w' := wX) (n' := 142) rfl ?_
            rw [show wrp (s2 + ((dN (w 88 g) (w 89 g) : Nat) : Int)) = s2 + ((dN (w 88 g) (w 89 g) : Nat) : Int) from wrp_id (by omega) (by omega)]
            refine qG.blk 5 (pc' := 105) (ls' := [(2, 23), l1, (2, 87), (0, l3), (0, s2 + ((dN (w 88 g) (w 89 g) : Nat) : Int)), (0, ((g : Nat) : Int)), (0, ((dN (w 88 g) (w 89 g) : Nat) : Int))]) (st' := [(0, ((g : Nat) : Int)), (2, 87), (0, ((dN (w 88 g) (w 89 g) : Nat) : Int)), (2, 23)]) (w' := wX) (n' := 142) rfl ?_
            refine qG.call (t := 114) (na := 2) (sk := 1) (md := 1) (ls1 := [(2, 87), (0, ((g : Nat) : Int))]) (r1 := [(0, ((dN (w 88 g) (w 89 g) : Nat) : Int)), (2, 23)]) rfl rfl rfl rfl rfl (K_secs87 (Nat.zero_le _) g L hL wX hIX ((hXf 87 2 (by decide) (by omega)).trans hs) (by omega)) ?_
            rintro _ w7 _ ⟨rfl, hw7, rfl⟩
            rw [hw7, hXf 88 g (by decide) (by omega), hXf 89 g (by decide) (by omega), show (if w 88 g = 2 then w 89 g else 1) = ((dN (w 88 g) (w 89 g) : Nat) : Int) from hdn]
            show qG none (d + 1) 35 108 [(2, 23), l1, (2, 87), (0, l3), (0, s2 + ((dN (w 88 g) (w 89 g) : Nat) : Int)), (0, ((g : Nat) : Int)), (0, ((dN (w 88 g) (w 89 g) : Nat) : Int))] [(0, ((dN (w 88 g) (w 89 g) : Nat) : Int)), (0, ((dN (w 88 g) (w 89 g) : Nat) : Int)), (2, 23)] wX 142 Q9
            refine qG.br (P := ((dN (w 88 g) (w 89 g) : Nat) : Int) < ((dN (w 88 g) (w 89 g) : Nat) : Int)) (pc1 := 111) (pc2 := 116) (st1 := [(2, 23)]) rfl (fun h108 => ?_) (fun h108 => ?_)
            · skip
              refine qG.blk 4 (pc' := 123) (ls' := [(2, 23), l1, (2, 87), (0, l3), (0, s2 + ((dN (w 88 g) (w 89 g) : Nat) : Int)), (0, wrp (((g : Nat) : Int) + 1)), (0, ((dN (w 88 g) (w 89 g) : Nat) : Int))]) (st' := []) (w' := (qup wX 23 4 (s2 + ((dN (w 88 g) (w 89 g) : Nat) : Int)))) (n' := 142) rfl ?_
              rw [show wrp (((g : Nat) : Int) + 1) = ((g + 1 : Nat) : Int) from wrp_id (by omega) (by omega)]
              refine qG.blk 1 (pc' := 46) (ls' := [(2, 23), l1, (2, 87), (0, l3), (0, s2 + ((dN (w 88 g) (w 89 g) : Nat) : Int)), (0, ((g + 1 : Nat) : Int)), (0, ((dN (w 88 g) (w 89 g) : Nat) : Int))]) (st' := []) (w' := (qup wX 23 4 (s2 + ((dN (w 88 g) (w 89 g) : Nat) : Int)))) (n' := 142) rfl ?_
              exact absurd h108 (by omega)
            · skip
              refine qG.blk 3 (pc' := 123) (ls' := [(2, 23), l1, (2, 87), (0, l3), (0, s2 + ((dN (w 88 g) (w 89 g) : Nat) : Int)), (0, wrp (((g : Nat) : Int) + 1)), (0, ((dN (w 88 g) (w 89 g) : Nat) : Int))]) (st' := []) (w' := (qup wX 23 4 (-1))) (n' := 142) rfl ?_
              rw [show wrp (((g : Nat) : Int) + 1) = ((g + 1 : Nat) : Int) from wrp_id (by omega) (by omega)]
              refine qG.blk 1 (pc' := 46) (ls' := [(2, 23), l1, (2, 87), (0, l3), (0, s2 + ((dN (w 88 g) (w 89 g) : Nat) : Int)), (0, ((g + 1 : Nat) : Int)), (0, ((dN (w 88 g) (w 89 g) : Nat) : Int))]) (st' := []) (w' := (qup wX 23 4 (-1))) (n' := 142) rfl ?_
              obtain ⟨wN, hwN⟩ : ∃ z : qW, z = (qup wX 23 4 (-1)) := ⟨_, rfl⟩
              rw [← hwN]
              have hIN : yInv zgf zga zra zSp wN := by rw [hwN]; exact zup_f hIX (b := (-2147483648, 2147483647)) rfl rfl rfl ⟨by show (-2147483648 : Int) ≤ _; omega, by show _ ≤ (2147483647 : Int); omega⟩
              have hNf : (∀ q j, ¬ (27 ≤ q ∧ q ≤ 29) → ¬ (q = 23 ∧ 4 ≤ j ∧ j ≤ 5) → wN q j = w q j) := fun q j a b => by rw [hwN, qup_f (by omega)]; exact hXf q j a b
              have hN4 : wN 23 4 = (-1) := by rw [hwN, qup_k]
              have hN27 : ∀ j, sb wN 27 j = sb wX 27 j := fun j => by unfold sb; rw [hwN, qup_nk (by decide)]
              exact ih46 _ (by omega) (g + 1) (s2 + ((dN (w 88 g) (w 89 g) : Nat) : Int)) ((-1)) (wN) ((0, ((dN (w 88 g) (w 89 g) : Nat) : Int))) rfl (⟨by omega, hNf, hIN, hN4, .inl ⟨rfl, by have z := hFL; rcases z with z | z; exact z.2.1; rcases z.2 with z | z; omega; exact z.1, by show _ = ((scF (w 88) (w 89) g + dN (w 88 g) (w 89 g) : Nat) : Int); omega, fun j hj => (hN27 j).trans (hX27 j hj), hXE⟩⟩)
          · skip
            show qG none (d + 1) 35 90 [(2, 23), l1, (2, 87), (0, l3), (0, s2), (0, ((g : Nat) : Int)), l6] [(0, ((e : Nat) : Int))] wX 142 Q9
            refine qG.blk 4 (pc' := 97) (ls' := [(2, 23), l1, (2, 87), (0, l3), (0, s2), (0, ((g : Nat) : Int)), (0, ((e : Nat) : Int))]) (st' := [(0, wrp (s2 + ((e : Nat) : Int)))]) (w' := wX) (n' := 142) rfl ?_
            rw [show wrp (s2 + ((e : Nat) : Int)) = s2 + ((e : Nat) : Int) from wrp_id (by omega) (by omega)]
            refine qG.blk 5 (pc' := 105) (ls' := [(2, 23), l1, (2, 87), (0, l3), (0, s2 + ((e : Nat) : Int)), (0, ((g : Nat) : Int)), (0, ((e : Nat) : Int))]) (st' := [(0, ((g : Nat) : Int)), (2, 87), (0, ((e : Nat) : Int)), (2, 23)]) (w' := wX) (n' := 142) rfl ?_
            refine qG.call (t := 114) (na := 2) (sk := 1) (md := 1) (ls1 := [(2, 87), (0, ((g : Nat) : Int))]) (r1 := [(0, ((e : Nat) : Int)), (2, 23)]) rfl rfl rfl rfl rfl (K_secs87 (Nat.zero_le _) g L hL wX hIX ((hXf 87 2 (by decide) (by omega)).trans hs) (by omega)) ?_
            rintro _ w7 _ ⟨rfl, hw7, rfl⟩
            rw [hw7, hXf 88 g (by decide) (by omega), hXf 89 g (by decide) (by omega), show (if w 88 g = 2 then w 89 g else 1) = ((dN (w 88 g) (w 89 g) : Nat) : Int) from hdn]
            show qG none (d + 1) 35 108 [(2, 23), l1, (2, 87), (0, l3), (0, s2 + ((e : Nat) : Int)), (0, ((g : Nat) : Int)), (0, ((e : Nat) : Int))] [(0, ((dN (w 88 g) (w 89 g) : Nat) : Int)), (0, ((e : Nat) : Int)), (2, 23)] wX 142 Q9
            refine qG.br (P := ((e : Nat) : Int) < ((dN (w 88 g) (w 89 g) : Nat) : Int)) (pc1 := 111) (pc2 := 116) (st1 := [(2, 23)]) rfl (fun h108 => ?_) (fun h108 => ?_)
            · skip
              refine qG.blk 4 (pc' := 123) (ls' := [(2, 23), l1, (2, 87), (0, l3), (0, s2 + ((e : Nat) : Int)), (0, wrp (((g : Nat) : Int) + 1)), (0, ((e : Nat) : Int))]) (st' := []) (w' := (qup wX 23 4 (s2 + ((e : Nat) : Int)))) (n' := 142) rfl ?_
              rw [show wrp (((g : Nat) : Int) + 1) = ((g + 1 : Nat) : Int) from wrp_id (by omega) (by omega)]
              refine qG.blk 1 (pc' := 46) (ls' := [(2, 23), l1, (2, 87), (0, l3), (0, s2 + ((e : Nat) : Int)), (0, ((g + 1 : Nat) : Int)), (0, ((e : Nat) : Int))]) (st' := []) (w' := (qup wX 23 4 (s2 + ((e : Nat) : Int)))) (n' := 142) rfl ?_
              obtain ⟨wN, hwN⟩ : ∃ z : qW, z = (qup wX 23 4 (s2 + ((e : Nat) : Int))) := ⟨_, rfl⟩
              rw [← hwN]
              have hIN : yInv zgf zga zra zSp wN := by rw [hwN]; exact zup_f hIX (b := (-2147483648, 2147483647)) rfl rfl rfl ⟨by show (-2147483648 : Int) ≤ _; omega, by show _ ≤ (2147483647 : Int); omega⟩
              have hNf : (∀ q j, ¬ (27 ≤ q ∧ q ≤ 29) → ¬ (q = 23 ∧ 4 ≤ j ∧ j ≤ 5) → wN q j = w q j) := fun q j a b => by rw [hwN, qup_f (by omega)]; exact hXf q j a b
              have hN4 : wN 23 4 = (s2 + ((e : Nat) : Int)) := by rw [hwN, qup_k]
              have hN27 : ∀ j, sb wN 27 j = sb wX 27 j := fun j => by unfold sb; rw [hwN, qup_nk (by decide)]
              exact ih46 _ (by omega) (g + 1) (s2 + ((e : Nat) : Int)) (s2 + ((e : Nat) : Int)) (wN) ((0, ((e : Nat) : Int))) rfl (⟨by omega, hNf, hIN, hN4, .inr ⟨fun j hj => (hN27 j).trans (hX27 j hj), .inr ⟨hNp, scF (w 88) (w 89) g + e, by have := scF_le (K := w 88) (N := w 89) (show g + 1 ≤ L by omega); have : scF (w 88) (w 89) (g + 1) = scF (w 88) (w 89) g + dN (w 88 g) (w 89 g) := rfl; omega, by omega, hXE, hXE2⟩⟩⟩)
            · skip
              refine qG.blk 3 (pc' := 123) (ls' := [(2, 23), l1, (2, 87), (0, l3), (0, s2 + ((e : Nat) : Int)), (0, wrp (((g : Nat) : Int) + 1)), (0, ((e : Nat) : Int))]) (st' := []) (w' := (qup wX 23 4 (-1))) (n' := 142) rfl ?_
              rw [show wrp (((g : Nat) : Int) + 1) = ((g + 1 : Nat) : Int) from wrp_id (by omega) (by omega)]
              refine qG.blk 1 (pc' := 46) (ls' := [(2, 23), l1, (2, 87), (0, l3), (0, s2 + ((e : Nat) : Int)), (0, ((g + 1 : Nat) : Int)), (0, ((e : Nat) : Int))]) (st' := []) (w' := (qup wX 23 4 (-1))) (n' := 142) rfl ?_
              exact absurd he (by omega)
        · skip
          refine qG.blk 3 (pc' := 131) (ls' := [(2, 23), l1, (2, 87), (0, l3), (0, s2), (0, ((g : Nat) : Int)), l6]) (st' := [(2, wS 23 1), (2, 23)]) (w' := wS) (n' := 142) rfl ?_
          rw [show wS 23 1 = 27 from (hSf 23 1 (by decide) (by omega)).trans (zref hI rfl rfl)]
          refine qG.call (t := 52) (na := 1) (sk := 0) (md := 0) (ls1 := [(2, 27), (9, 0), (9, 0), (9, 0), (9, 0), (9, 0), (9, 0)]) (r1 := [(2, 23)]) rfl rfl rfl rfl rfl (K_howM27 (by omega) wS) ?_
          rintro _ w7 _ ⟨rfl, hw7, rfl⟩
          rw [hw7]
          show qG none (d + 1) 35 134 [(2, 23), l1, (2, 87), (0, l3), (0, s2), (0, ((g : Nat) : Int)), l6] [(0, ((ctb (fun j => sb wS 27 j) 192 : Nat) : Int)), (2, 23)] wS 142 Q9
          refine qG.blk 1 (pc' := 137) (ls' := [(2, 23), l1, (2, 87), (0, l3), (0, s2), (0, ((g : Nat) : Int)), l6]) (st' := []) (w' := (qup wS 23 5 ((ctb (fun j => sb wS 27 j) 192 : Nat) : Int))) (n' := 142) rfl ?_
          refine qG.retv rfl rfl ?_
          subst hQ9
          refine ⟨rfl, rfl, zup_f hIS (b := (-2147483648, 2147483647)) rfl rfl rfl ⟨by show (-2147483648 : Int) ≤ _; omega, by have := ctbL_le (f := fun j => sb wS 27 j) 192; show _ ≤ (2147483647 : Int); omega⟩, fun q j a b => by rw [qup_f (by omega)]; exact hSf q j a b, ?_⟩
          rw [qup_k, qup_j (show (4 : Nat) ≠ 5 by decide), hfl]
          exact hFL.sp hT.1 _ (fun z => by first | (rw [show g = L by omega]; done) | exact absurd z hf60)
      · skip
        refine qG.blk 3 (pc' := 131) (ls' := [(2, 23), l1, (2, 87), (0, l3), (0, s2), (0, ((g : Nat) : Int)), l6]) (st' := [(2, wS 23 1), (2, 23)]) (w' := wS) (n' := 142) rfl ?_
        rw [show wS 23 1 = 27 from (hSf 23 1 (by decide) (by omega)).trans (zref hI rfl rfl)]
        refine qG.call (t := 52) (na := 1) (sk := 0) (md := 0) (ls1 := [(2, 27), (9, 0), (9, 0), (9, 0), (9, 0), (9, 0), (9, 0)]) (r1 := [(2, 23)]) rfl rfl rfl rfl rfl (K_howM27 (by omega) wS) ?_
        rintro _ w7 _ ⟨rfl, hw7, rfl⟩
        rw [hw7]
        show qG none (d + 1) 35 134 [(2, 23), l1, (2, 87), (0, l3), (0, s2), (0, ((g : Nat) : Int)), l6] [(0, ((ctb (fun j => sb wS 27 j) 192 : Nat) : Int)), (2, 23)] wS 142 Q9
        refine qG.blk 1 (pc' := 137) (ls' := [(2, 23), l1, (2, 87), (0, l3), (0, s2), (0, ((g : Nat) : Int)), l6]) (st' := []) (w' := (qup wS 23 5 ((ctb (fun j => sb wS 27 j) 192 : Nat) : Int))) (n' := 142) rfl ?_
        refine qG.retv rfl rfl ?_
        subst hQ9
        refine ⟨rfl, rfl, zup_f hIS (b := (-2147483648, 2147483647)) rfl rfl rfl ⟨by show (-2147483648 : Int) ≤ _; omega, by have := ctbL_le (f := fun j => sb wS 27 j) 192; show _ ≤ (2147483647 : Int); omega⟩, fun q j a b => by rw [qup_f (by omega)]; exact hSf q j a b, ?_⟩
        rw [qup_k, qup_j (show (4 : Nat) ≠ 5 by decide), hfl]
        exact hFL.sp hT.1 _ (fun z => by first | (rw [show g = L by omega]; done) | exact absurd z hf60)
    exact L46_1 _ (0) (0) (0) (w2) ((9, 0)) rfl (⟨Nat.zero_le _, h2f, hI2, h24, .inr ⟨fun j hj => (h227 j hj).trans (by show decide (j < N) = false; exact decide_eq_false (by omega)), .inl ⟨hN0, rfl⟩⟩⟩)
theorem K_flwB91 {d : Nat} (hd : 4 ≤ d) (N : Nat) (P : Nat → Int) (M : Nat → Nat → Bool) (V : Nat → Int) (L : Nat) (hL : L ≤ 40) (w : qW) (hI : yInv zgf zga zra zSp w) (hs : w 91 2 = (L : Int)) (hKW : KNw (w 92) (w 93) L) (hT : CTB N P M w) (hVV : ∀ g, g < L → ∀ u, u < dN (w 92 g) (w 93 g) → V (scF (w 92) (w 93) g + u) = w 94 g) (l1 : qV) (l3 : Int) : qG none d 35 9 [(2, 23), l1, (2, 91), (0, l3), (9, 0), (9, 0), (9, 0)] [] w 142 (fun (r : qV) (w1 : qW) (n1 : Nat) => r = (9, 0) ∧ n1 = 142 ∧ yInv zgf zga zra zSp w1 ∧ (∀ q j, ¬ (27 ≤ q ∧ q ≤ 29) → ¬ (q = 23 ∧ 4 ≤ j ∧ j ≤ 5) → w1 q j = w q j) ∧ HSP N P M V (scF (w 92) (w 93) L) (w1 23 4) (w1 23 5)) := by
  generalize hQ9 : (fun (r : qV) (w1 : qW) (n1 : Nat) => r = (9, 0) ∧ n1 = 142 ∧ yInv zgf zga zra zSp w1 ∧ (∀ q j, ¬ (27 ≤ q ∧ q ≤ 29) → ¬ (q = 23 ∧ 4 ≤ j ∧ j ≤ 5) → w1 q j = w q j) ∧ HSP N P M V (scF (w 92) (w 93) L) (w1 23 4) (w1 23 5)) = Q9
  obtain ⟨d, rfl⟩ : ∃ d9, d = d9 + 1 := ⟨d - 1, by omega⟩
  refine qG.blk 2 (pc' := 13) (ls' := [(2, 23), l1, (2, 91), (0, l3), (9, 0), (9, 0), (9, 0)]) (st' := [(2, w 23 0)]) (w' := w) (n' := 142) rfl ?_
  rw [show w 23 0 = 24 from zref hI rfl rfl]
  refine qG.blk 3 (pc' := 18) (ls' := [(2, 23), l1, (2, 91), (0, l3), (9, 0), (9, 0), (9, 0)]) (st' := [(2, w 23 1), (0, 0), (2, 24)]) (w' := w) (n' := 142) rfl ?_
  rw [show w 23 1 = 27 from zref hI rfl rfl]
  refine qG.call (t := 103) (na := 3) (sk := 1) (md := 1) (ls1 := [(2, 24), (0, 0), (2, 27), (9, 0), (9, 0)]) (r1 := []) rfl rfl rfl rfl rfl (K_unseen27 (by omega) 0 N hT.1 w hI hT.2.1) ?_
  rintro _ w1 _ ⟨rfl, rfl, hR1⟩
  have h1f : (∀ q j, ¬ (27 ≤ q ∧ q ≤ 29) → ¬ (q = 23 ∧ 4 ≤ j ∧ j ≤ 5) → w1 q j = w q j) := fun q j a b => hR1.2.1 q j (by omega)
  have hI1 := hR1.2.2
  have h127 : HOLD w1 27 (hz N P M V 0) := fun j hj => by rw [show sb w1 27 j = (decide (j < N) && decide (qand (w 25 j) 0 = 0)) from hR1.1 j hj, qand_z0, decide_eq_true rfl, Bool.and_true]; rfl
  show qG none (d + 1) 35 21 [(2, 23), l1, (2, 91), (0, l3), (9, 0), (9, 0), (9, 0)] [] w1 142 Q9
  refine qG.blk 3 (pc' := 26) (ls' := [(2, 23), l1, (2, 91), (0, l3), (9, 0), (9, 0), (9, 0)]) (st' := [(2, w1 23 1), (2, 23)]) (w' := w1) (n' := 142) rfl ?_
  rw [show w1 23 1 = 27 from (h1f 23 1 (by decide) (by omega)).trans (zref hI rfl rfl)]
  refine qG.call (t := 51) (na := 1) (sk := 0) (md := 0) (ls1 := [(2, 27)]) (r1 := [(2, 23)]) rfl rfl rfl rfl rfl (K_isEmpty27 (by omega) w1) ?_
  rintro _ w7 _ ⟨rfl, hw7, rfl⟩
  rw [hw7]
  show qG none (d + 1) 35 29 [(2, 23), l1, (2, 91), (0, l3), (9, 0), (9, 0), (9, 0)] [(0, (if ctb (fun j => sb w1 27 j) 192 = 0 then 1 else 0)), (2, 23)] w1 142 Q9
  refine qG.br (P := (if ctb (fun j => sb w1 27 j) 192 = 0 then 1 else 0) = 0) (pc1 := 36) (pc2 := 32) (st1 := [(2, 23)]) rfl (fun hem => ?_) (fun hem => ?_)
  · skip
    have hNp : 0 < N := by
      by_cases z : N = 0
      · have y : ctb (fun j => sb w1 27 j) 192 = 0 := ctb_0.mpr (fun j hj => (h127 j hj).trans (by show decide (j < N) = false; exact decide_eq_false (by omega)))
        rw [if_pos y] at hem; exact absurd hem (by decide)
      · omega
    refine qG.blk 6 (pc' := 46) (ls' := [(2, 23), l1, (2, 91), (0, l3), (0, 0), (0, 0), (9, 0)]) (st' := []) (w' := (qup w1 23 4 (-1))) (n' := 142) rfl ?_
    obtain ⟨w2, hw2⟩ : ∃ z : qW, z = (qup w1 23 4 (-1)) := ⟨_, rfl⟩
    rw [← hw2]
    have hI2 : yInv zgf zga zra zSp w2 := by rw [hw2]; exact zup_f hI1 (b := (-2147483648, 2147483647)) rfl rfl rfl ⟨by decide, by decide⟩
    have h2f : (∀ q j, ¬ (27 ≤ q ∧ q ≤ 29) → ¬ (q = 23 ∧ 4 ≤ j ∧ j ≤ 5) → w2 q j = w q j) := fun q j a b => by rw [hw2, qup_f (by omega)]; exact h1f q j a b
    have h24 : w2 23 4 = (-1) := by rw [hw2, qup_k]
    have h227 : HOLD w2 27 (hz N P M V 0) := fun j hj => by rw [show sb w2 27 j = sb w1 27 j from by unfold sb; rw [hw2, qup_nk (by decide)]]; exact h127 j hj
    have L46 : ∀ (m9 : Nat) (g : Nat) (s2 fl : Int) (wS : qW) (l6 : qV), L - g = m9 → (g ≤ L ∧ (∀ q j, ¬ (27 ≤ q ∧ q ≤ 29) → ¬ (q = 23 ∧ 4 ≤ j ∧ j ≤ 5) → wS q j = w q j) ∧ yInv zgf zga zra zSp wS ∧ wS 23 4 = fl ∧ FLW N P M V (scF (w 92) (w 93) g) (scF (w 92) (w 93) L) fl s2 wS) → qG none (d + 1) 35 46 [(2, 23), l1, (2, 91), (0, l3), (0, s2), (0, ((g : Nat) : Int)), l6] [] wS 142 Q9 := by
      intro m9
      induction m9 using Nat.strongRecOn with
      | ind m9 ih46 =>
      intro g s2 fl wS l6 hm46 hI46
      obtain ⟨hgL, hSf, hIS, hfl, hFL⟩ := hI46
      have hTS := hT.cg (w1 := wS) (fun q j h => hSf q j (by omega) (by omega))
      refine qG.blk 2 (pc' := 49) (ls' := [(2, 23), l1, (2, 91), (0, l3), (0, s2), (0, ((g : Nat) : Int)), l6]) (st' := [(2, 91), (0, ((g : Nat) : Int))]) (w' := wS) (n' := 142) rfl ?_
      refine qG.call (t := 110) (na := 1) (sk := 1) (md := 1) (ls1 := [(2, 91)]) (r1 := [(0, ((g : Nat) : Int))]) rfl rfl rfl rfl rfl (K_stepC91 (Nat.zero_le _) wS (x := ((L : Nat) : Int)) ((hSf 91 2 (by decide) (by omega)).trans hs)) ?_
      rintro _ w7 _ ⟨rfl, hw7, rfl⟩
      rw [hw7]
      show qG none (d + 1) 35 52 [(2, 23), l1, (2, 91), (0, l3), (0, s2), (0, ((g : Nat) : Int)), l6] [(0, ((L : Nat) : Int)), (0, ((g : Nat) : Int))] wS 142 Q9
      refine qG.br (P := ((g : Nat) : Int) < ((L : Nat) : Int)) (pc1 := 55) (pc2 := 126) (st1 := []) rfl (fun hgL2 => ?_) (fun hgL2 => ?_)
      · skip
        refine qG.blk 2 (pc' := 59) (ls' := [(2, 23), l1, (2, 91), (0, l3), (0, s2), (0, ((g : Nat) : Int)), l6]) (st' := [(0, wS 23 4)]) (w' := wS) (n' := 142) rfl ?_
        rw [show wS 23 4 = fl from hfl]
        refine qG.blk 1 (pc' := 60) (ls' := [(2, 23), l1, (2, 91), (0, l3), (0, s2), (0, ((g : Nat) : Int)), l6]) (st' := [(0, (-1)), (0, fl)]) (w' := wS) (n' := 142) rfl ?_
        refine qG.br (P := fl = (-1)) (pc1 := 63) (pc2 := 126) (st1 := []) rfl (fun hf60 => ?_) (fun hf60 => ?_)
        · skip
          obtain ⟨-, hNp, hs2, hH27, hnE⟩ : fl = -1 ∧ 0 < N ∧ s2 = ((scF (w 92) (w 93) g : Nat) : Int) ∧ HOLD wS 27 (hz N P M V (scF (w 92) (w 93) g)) ∧ ¬ hzE (hz N P M V (scF (w 92) (w 93) g)) := by
            rcases hFL with z | ⟨-, ⟨-, z⟩ | ⟨-, f, -, z, -⟩⟩
            · exact z
            · omega
            · omega
          have hdn : (if w 92 g = 2 then w 93 g else 1) = ((dN (w 92 g) (w 93 g) : Nat) : Int) := by have z := sc_s hKW (show g < L by omega); have y : ((scF (w 92) (w 93) (g + 1) : Nat) : Int) = ((scF (w 92) (w 93) g : Nat) : Int) + ((dN (w 92 g) (w 93 g) : Nat) : Int) := rfl; omega
          have hd20 : dN (w 92 g) (w 93 g) ≤ 20 := by have z := sc_le hKW (g + 1) (by omega); have q := hKW g (by omega); by_cases y : w 92 g = 2; rw [if_pos y] at hdn; have := q y; omega; rw [if_neg y] at hdn; omega
          have hsc := sc_le hKW g (by omega)
          refine qG.blk 2 (pc' := 67) (ls' := [(2, 23), l1, (2, 91), (0, l3), (0, s2), (0, ((g : Nat) : Int)), l6]) (st' := [(2, wS 23 0)]) (w' := wS) (n' := 142) rfl ?_
          rw [show wS 23 0 = 24 from (hSf 23 0 (by decide) (by omega)).trans (zref hI rfl rfl)]
          refine qG.blk 2 (pc' := 70) (ls' := [(2, 23), l1, (2, 91), (0, l3), (0, s2), (0, ((g : Nat) : Int)), l6]) (st' := [(0, ((g : Nat) : Int)), (2, 91), (2, 24)]) (w' := wS) (n' := 142) rfl ?_
          refine qG.call (t := 115) (na := 2) (sk := 1) (md := 1) (ls1 := [(2, 91), (0, ((g : Nat) : Int))]) (r1 := [(2, 24)]) rfl rfl rfl rfl rfl (K_vwOf91 (Nat.zero_le _) g L hL wS hIS ((hSf 91 2 (by decide) (by omega)).trans hs) (by omega)) ?_
          rintro _ w7 _ ⟨rfl, hw7, rfl⟩
          rw [hw7, hSf 94 g (by decide) (by omega)]
          show qG none (d + 1) 35 73 [(2, 23), l1, (2, 91), (0, l3), (0, s2), (0, ((g : Nat) : Int)), l6] [(0, w 94 g), (2, 24)] wS 142 Q9
          refine qG.blk 2 (pc' := 77) (ls' := [(2, 23), l1, (2, 91), (0, l3), (0, s2), (0, ((g : Nat) : Int)), l6]) (st' := [(2, wS 23 3), (0, w 94 g), (2, 24)]) (w' := wS) (n' := 142) rfl ?_
          rw [show wS 23 3 = 29 from (hSf 23 3 (by decide) (by omega)).trans (zref hI rfl rfl)]
          refine qG.call (t := 103) (na := 3) (sk := 1) (md := 1) (ls1 := [(2, 24), (0, w 94 g), (2, 29), (9, 0), (9, 0)]) (r1 := []) rfl rfl rfl rfl rfl (K_unseen29 (by omega) (w 94 g) N hT.1 wS hIS (hTS.2.1)) ?_
          rintro _ wU _ ⟨rfl, rfl, hRU⟩
          have hIU := hRU.2.2
          have hUf : (∀ q j, ¬ (27 ≤ q ∧ q ≤ 29) → ¬ (q = 23 ∧ 4 ≤ j ∧ j ≤ 5) → wU q j = w q j) := fun q j a b => (hRU.2.1 q j (by omega)).trans (hSf q j a b)
          have hTU := hTS.cg (w1 := wU) (fun q j h => hRU.2.1 q j (by omega))
          have hU27 : HOLD wU 27 (hz N P M V (scF (w 92) (w 93) g)) := fun j hj => by rw [hRU.o (by decide)]; exact hH27 j hj
          have hU29 : HOLD wU 29 (fun j => decide (j < N) && decide (qand (P j) (w 94 g) = 0)) := fun j hj => by
            rw [show sb wU 29 j = (decide (j < N) && decide (qand (wS 25 j) (w 94 g) = 0)) from hRU.1 j hj]
            show _ = (decide (j < N) && decide (qand (P j) (w 94 g) = 0))
            by_cases hjN : j < N
            · rw [hTS.2.2.1 j hjN]
            · rw [decide_eq_false hjN, Bool.false_and, Bool.false_and]
          show qG none (d + 1) 35 80 [(2, 23), l1, (2, 91), (0, l3), (0, s2), (0, ((g : Nat) : Int)), l6] [] wU 142 Q9
          refine qG.blk 3 (pc' := 84) (ls' := [(2, 23), l1, (2, 91), (0, l3), (0, s2), (0, ((g : Nat) : Int)), l6]) (st' := [(0, ((g : Nat) : Int)), (2, 91), (2, 23)]) (w' := wU) (n' := 142) rfl ?_
          refine qG.call (t := 114) (na := 2) (sk := 1) (md := 1) (ls1 := [(2, 91), (0, ((g : Nat) : Int))]) (r1 := [(2, 23)]) rfl rfl rfl rfl rfl (K_secs91 (Nat.zero_le _) g L hL wU hIU ((hUf 91 2 (by decide) (by omega)).trans hs) (by omega)) ?_
          rintro _ w7 _ ⟨rfl, hw7, rfl⟩
          rw [hw7, hUf 92 g (by decide) (by omega), hUf 93 g (by decide) (by omega), show (if w 92 g = 2 then w 93 g else 1) = ((dN (w 92 g) (w 93 g) : Nat) : Int) from hdn]
          show qG none (d + 1) 35 87 [(2, 23), l1, (2, 91), (0, l3), (0, s2), (0, ((g : Nat) : Int)), l6] [(0, ((dN (w 92 g) (w 93 g) : Nat) : Int)), (2, 23)] wU 142 Q9
          refine qG.call (t := 36) (na := 2) (sk := 1) (md := 1) (ls1 := [(2, 23), (0, ((dN (w 92 g) (w 93 g) : Nat) : Int)), (9, 0)]) (r1 := []) rfl rfl rfl rfl rfl (K_stayU (by omega) N P M V (scF (w 92) (w 93) g) (dN (w 92 g) (w 93 g)) (w 94 g) (by omega) (fun u hu => hVV g (by omega) u hu) wU hIU hTU hU27 hU29 hnE) ?_
          rintro _ wX _ ⟨rfl, hX9, hIX, ⟨rfl, hX27, hXE⟩ | ⟨e, he, rfl, hX27, hXE, hXE2⟩⟩ <;> have hXf : (∀ q j, ¬ (27 ≤ q ∧ q ≤ 29) → ¬ (q = 23 ∧ 4 ≤ j ∧ j ≤ 5) → wX q j = w q j) := fun q j a b => (hX9 q j (by omega) (by omega)).trans (hUf q j a b)
          · skip
            show qG none (d + 1) 35 90 [(2, 23), l1, (2, 91), (0, l3), (0, s2), (0, ((g : Nat) : Int)), l6] [(0, ((dN (w 92 g) (w 93 g) : Nat) : Int))] wX 142 Q9
            refine qG.blk 4 (pc' := 97) (ls' := [(2, 23), l1, (2, 91), (0, l3), (0, s2), (0, ((g : Nat) : Int)), (0, ((dN (w 92 g) (w 93 g) : Nat) : Int))]) (st' := [(0, wrp (s2 + ((dN (w 92 g) (w 93 g) : Nat) : Int)))]) (w' := wX) (n' := 142) rfl ?_
            rw [show wrp (s2 + ((dN (w 92 g) (w 93 g) : Nat) : Int)) = s2 + ((dN (w 92 g) (w 93 g) : Nat) : Int) from wrp_id (by omega) (by omega)]
            refine qG.blk 5 (pc' := 105) (ls' := [(2, 23), l1, (2, 91), (0, l3), (0, s2 + ((dN (w 92 g) (w 93 g) : Nat) : Int)), (0, ((g : Nat) : Int)), (0, ((dN (w 92 g) (w 93 g) : Nat) : Int))]) (st' := [(0, ((g : Nat) : Int)), (2, 91), (0, ((dN (w 92 g) (w 93 g) : Nat) : Int)), (2, 23)]) (w' := wX) (n' := 142) rfl ?_
            refine qG.call (t := 114) (na := 2) (sk := 1) (md := 1) (ls1 := [(2, 91), (0, ((g : Nat) : Int))]) (r1 := [(0, ((dN (w 92 g) (w 93 g) : Nat) : Int)), (2, 23)]) rfl rfl rfl rfl rfl (K_secs91 (Nat.zero_le _) g L hL wX hIX ((hXf 91 2 (by decide) (by omega)).trans hs) (by omega)) ?_
            rintro _ w7 _ ⟨rfl, hw7, rfl⟩
            rw [hw7, hXf 92 g (by decide) (by omega), hXf 93 g (by decide) (by omega), show (if w 92 g = 2 then w 93 g else 1) = ((dN (w 92 g) (w 93 g) : Nat) : Int) from hdn]
            show qG none (d + 1) 35 108 [(2, 23), l1, (2, 91), (0, l3), (0, s2 + ((dN (w 92 g) (w 93 g) : Nat) : Int)), (0, ((g : Nat) : Int)), (0, ((dN (w 92 g) (w 93 g) : Nat) : Int))] [(0, ((dN (w 92 g) (w 93 g) : Nat) : Int)), (0, ((dN (w 92 g) (w 93 g) : Nat) : Int)), (2, 23)] wX 142 Q9
            refine qG.br (P := ((dN (w 92 g) (w 93 g) : Nat) : Int) < ((dN (w 92 g) (w 93 g) : Nat) : Int)) (pc1 := 111) (pc2 := 116) (st1 := [(2, 23)]) rfl (fun h108 => ?_) (fun h108 => ?_)
            · skip
              refine qG.blk 4 (pc' := 123) (ls' := [(2, 23), l1, (2, 91), (0, l3), (0, s2 + ((dN (w 92 g) (w 93 g) : Nat) : Int)), (0, wrp (((g : Nat) : Int) + 1)), (0, ((dN (w 92 g) (w 93 g) : Nat) : Int))]) (st' := []) (w' := (qup wX 23 4 (s2 + ((dN (w 92 g) (w 93 g) : Nat) : Int)))) (n' := 142) rfl ?_
              rw [show wrp (((g : Nat) : Int) + 1) = ((g + 1 : Nat) : Int) from wrp_id (by omega) (by omega)]
              refine qG.blk 1 (pc' := 46) (ls' := [(2, 23), l1, (2, 91), (0, l3), (0, s2 + ((dN (w 92 g) (w 93 g) : Nat) : Int)), (0, ((g + 1 : Nat) : Int)), (0, ((dN (w 92 g) (w 93 g) : Nat) : Int))]) (st' := []) (w' := (qup wX 23 4 (s2 + ((dN (w 92 g) (w 93 g) : Nat) : Int)))) (n' := 142) rfl ?_
              exact absurd h108 (by omega)
            · skip
              refine qG.blk 3 (pc' := 123) (ls' := [(2, 23), l1, (2, 91), (0, l3), (0, s2 + ((dN (w 92 g) (w 93 g) : Nat) : Int)), (0, wrp (((g : Nat) : Int) + 1)), (0, ((dN (w 92 g) (w 93 g) : Nat) : Int))]) (st' := []) (w' := (qup wX 23 4 (-1))) (n' := 142) rfl ?_
              rw [show wrp (((g : Nat) : Int) + 1) = ((g + 1 : Nat) : Int) from wrp_id (by omega) (by omega)]
              refine qG.blk 1 (pc' := 46) (ls' := [(2, 23), l1, (2, 91), (0, l3), (0, s2 + ((dN (w 92 g) (w 93 g) : Nat) : Int)), (0, ((g + 1 : Nat) : Int)), (0, ((dN (w 92 g) (w 93 g) : Nat) : Int))]) (st' := []) (w' := (qup wX 23 4 (-1))) (n' := 142) rfl ?_
              obtain ⟨wN, hwN⟩ : ∃ z : qW, z = (qup wX 23 4 (-1)) := ⟨_, rfl⟩
              rw [← hwN]
              have hIN : yInv zgf zga zra zSp wN := by rw [hwN]; exact zup_f hIX (b := (-2147483648, 2147483647)) rfl rfl rfl ⟨by show (-2147483648 : Int) ≤ _; omega, by show _ ≤ (2147483647 : Int); omega⟩
              have hNf : (∀ q j, ¬ (27 ≤ q ∧ q ≤ 29) → ¬ (q = 23 ∧ 4 ≤ j ∧ j ≤ 5) → wN q j = w q j) := fun q j a b => by rw [hwN, qup_f (by omega)]; exact hXf q j a b
              have hN4 : wN 23 4 = (-1) := by rw [hwN, qup_k]
              have hN27 : ∀ j, sb wN 27 j = sb wX 27 j := fun j => by unfold sb; rw [hwN, qup_nk (by decide)]
              exact ih46 _ (by omega) (g + 1) (s2 + ((dN (w 92 g) (w 93 g) : Nat) : Int)) ((-1)) (wN) ((0, ((dN (w 92 g) (w 93 g) : Nat) : Int))) rfl (⟨by omega, hNf, hIN, hN4, .inl ⟨rfl, by have z := hFL; rcases z with z | z; exact z.2.1; rcases z.2 with z | z; omega; exact z.1, by show _ = ((scF (w 92) (w 93) g + dN (w 92 g) (w 93 g) : Nat) : Int); omega, fun j hj => (hN27 j).trans (hX27 j hj), hXE⟩⟩)
          · skip
            show qG none (d + 1) 35 90 [(2, 23), l1, (2, 91), (0, l3), (0, s2), (0, ((g : Nat) : Int)), l6] [(0, ((e : Nat) : Int))] wX 142 Q9
            refine qG.blk 4 (pc' := 97) (ls' := [(2, 23), l1, (2, 91), (0, l3), (0, s2), (0, ((g : Nat) : Int)), (0, ((e : Nat) : Int))]) (st' := [(0, wrp (s2 + ((e : Nat) : Int)))]) (w' := wX) (n' := 142) rfl ?_
            rw [show wrp (s2 + ((e : Nat) : Int)) = s2 + ((e : Nat) : Int) from wrp_id (by omega) (by omega)]
            refine qG.blk 5 (pc' := 105) (ls' := [(2, 23), l1, (2, 91), (0, l3), (0, s2 + ((e : Nat) : Int)), (0, ((g : Nat) : Int)), (0, ((e : Nat) : Int))]) (st' := [(0, ((g : Nat) : Int)), (2, 91), (0, ((e : Nat) : Int)), (2, 23)]) (w' := wX) (n' := 142) rfl ?_
            refine qG.call (t := 114) (na := 2) (sk := 1) (md := 1) (ls1 := [(2, 91), (0, ((g : Nat) : Int))]) (r1 := [(0, ((e : Nat) : Int)), (2, 23)]) rfl rfl rfl rfl rfl (K_secs91 (Nat.zero_le _) g L hL wX hIX ((hXf 91 2 (by decide) (by omega)).trans hs) (by omega)) ?_
            rintro _ w7 _ ⟨rfl, hw7, rfl⟩
            rw [hw7, hXf 92 g (by decide) (by omega), hXf 93 g (by decide) (by omega), show (if w 92 g = 2 then w 93 g else 1) = ((dN (w 92 g) (w 93 g) : Nat) : Int) from hdn]
            show qG none (d + 1) 35 108 [(2, 23), l1, (2, 91), (0, l3), (0, s2 + ((e : Nat) : Int)), (0, ((g : Nat) : Int)), (0, ((e : Nat) : Int))] [(0, ((dN (w 92 g) (w 93 g) : Nat) : Int)), (0, ((e : Nat) : Int)), (2, 23)] wX 142 Q9
            refine qG.br (P := ((e : Nat) : Int) < ((dN (w 92 g) (w 93 g) : Nat) : Int)) (pc1 := 111) (pc2 := 116) (st1 := [(2, 23)]) rfl (fun h108 => ?_) (fun h108 => ?_)
            · skip
              refine qG.blk 4 (pc' := 123) (ls' := [(2, 23), l1, (2, 91), (0, l3), (0, s2 + ((e : Nat) : Int)), (0, wrp (((g : Nat) : Int) + 1)), (0, ((e : Nat) : Int))]) (st' := []) (w' := (qup wX 23 4 (s2 + ((e : Nat) : Int)))) (n' := 142) rfl ?_
              rw [show wrp (((g : Nat) : Int) + 1) = ((g + 1 : Nat) : Int) from wrp_id (by omega) (by omega)]
              refine qG.blk 1 (pc' := 46) (ls' := [(2, 23), l1, (2, 91), (0, l3), (0, s2 + ((e : Nat) : Int)), (0, ((g + 1 : Nat) : Int)), (0, ((e : Nat) : Int))]) (st' := []) (w' := (qup wX 23 4 (s2 + ((e : Nat) : Int)))) (n' := 142) rfl ?_
              obtain ⟨wN, hwN⟩ : ∃ z : qW, z = (qup wX 23 4 (s2 + ((e : Nat) : Int))) := ⟨_, rfl⟩
              rw [← hwN]
              have hIN : yInv zgf zga zra zSp wN := by rw [hwN]; exact zup_f hIX (b := (-2147483648, 2147483647)) rfl rfl rfl ⟨by show (-2147483648 : Int) ≤ _; omega, by show _ ≤ (2147483647 : Int); omega⟩
              have hNf : (∀ q j, ¬ (27 ≤ q ∧ q ≤ 29) → ¬ (q = 23 ∧ 4 ≤ j ∧ j ≤ 5) → wN q j = w q j) := fun q j a b => by rw [hwN, qup_f (by omega)]; exact hXf q j a b
              have hN4 : wN 23 4 = (s2 + ((e : Nat) : Int)) := by rw [hwN, qup_k]
              have hN27 : ∀ j, sb wN 27 j = sb wX 27 j := fun j => by unfold sb; rw [hwN, qup_nk (by decide)]
              exact ih46 _ (by omega) (g + 1) (s2 + ((e : Nat) : Int)) (s2 + ((e : Nat) : Int)) (wN) ((0, ((e : Nat) : Int))) rfl (⟨by omega, hNf, hIN, hN4, .inr ⟨fun j hj => (hN27 j).trans (hX27 j hj), .inr ⟨hNp, scF (w 92) (w 93) g + e, by have := scF_le (K := w 92) (N := w 93) (show g + 1 ≤ L by omega); have : scF (w 92) (w 93) (g + 1) = scF (w 92) (w 93) g + dN (w 92 g) (w 93 g) := rfl; omega, by omega, hXE, hXE2⟩⟩⟩)
            · skip
              refine qG.blk 3 (pc' := 123) (ls' := [(2, 23), l1, (2, 91), (0, l3), (0, s2 + ((e : Nat) : Int)), (0, wrp (((g : Nat) : Int) + 1)), (0, ((e : Nat) : Int))]) (st' := []) (w' := (qup wX 23 4 (-1))) (n' := 142) rfl ?_
              rw [show wrp (((g : Nat) : Int) + 1) = ((g + 1 : Nat) : Int) from wrp_id (by omega) (by omega)]
              refine qG.blk 1 (pc' := 46) (ls' := [(2, 23), l1, (2, 91), (0, l3), (0, s2 + ((e : Nat) : Int)), (0, ((g + 1 : Nat) : Int)), (0, ((e : Nat) : Int))]) (st' := []) (w' := (qup wX 23 4 (-1))) (n' := 142) rfl ?_
              exact absurd he (by omega)
        · skip
          refine qG.blk 3 (pc' := 131) (ls' := [(2, 23), l1, (2, 91), (0, l3), (0, s2), (0, ((g : Nat) : Int)), l6]) (st' := [(2, wS 23 1), (2, 23)]) (w' := wS) (n' := 142) rfl ?_
          rw [show wS 23 1 = 27 from (hSf 23 1 (by decide) (by omega)).trans (zref hI rfl rfl)]
          refine qG.call (t := 52) (na := 1) (sk := 0) (md := 0) (ls1 := [(2, 27), (9, 0), (9, 0), (9, 0), (9, 0), (9, 0), (9, 0)]) (r1 := [(2, 23)]) rfl rfl rfl rfl rfl (K_howM27 (by omega) wS) ?_
          rintro _ w7 _ ⟨rfl, hw7, rfl⟩
          rw [hw7]
          show qG none (d + 1) 35 134 [(2, 23), l1, (2, 91), (0, l3), (0, s2), (0, ((g : Nat) : Int)), l6] [(0, ((ctb (fun j => sb wS 27 j) 192 : Nat) : Int)), (2, 23)] wS 142 Q9
          refine qG.blk 1 (pc' := 137) (ls' := [(2, 23), l1, (2, 91), (0, l3), (0, s2), (0, ((g : Nat) : Int)), l6]) (st' := []) (w' := (qup wS 23 5 ((ctb (fun j => sb wS 27 j) 192 : Nat) : Int))) (n' := 142) rfl ?_
          refine qG.retv rfl rfl ?_
          subst hQ9
          refine ⟨rfl, rfl, zup_f hIS (b := (-2147483648, 2147483647)) rfl rfl rfl ⟨by show (-2147483648 : Int) ≤ _; omega, by have := ctbL_le (f := fun j => sb wS 27 j) 192; show _ ≤ (2147483647 : Int); omega⟩, fun q j a b => by rw [qup_f (by omega)]; exact hSf q j a b, ?_⟩
          rw [qup_k, qup_j (show (4 : Nat) ≠ 5 by decide), hfl]
          exact hFL.sp hT.1 _ (fun z => by first | (rw [show g = L by omega]; done) | exact absurd z hf60)
      · skip
        refine qG.blk 3 (pc' := 131) (ls' := [(2, 23), l1, (2, 91), (0, l3), (0, s2), (0, ((g : Nat) : Int)), l6]) (st' := [(2, wS 23 1), (2, 23)]) (w' := wS) (n' := 142) rfl ?_
        rw [show wS 23 1 = 27 from (hSf 23 1 (by decide) (by omega)).trans (zref hI rfl rfl)]
        refine qG.call (t := 52) (na := 1) (sk := 0) (md := 0) (ls1 := [(2, 27), (9, 0), (9, 0), (9, 0), (9, 0), (9, 0), (9, 0)]) (r1 := [(2, 23)]) rfl rfl rfl rfl rfl (K_howM27 (by omega) wS) ?_
        rintro _ w7 _ ⟨rfl, hw7, rfl⟩
        rw [hw7]
        show qG none (d + 1) 35 134 [(2, 23), l1, (2, 91), (0, l3), (0, s2), (0, ((g : Nat) : Int)), l6] [(0, ((ctb (fun j => sb wS 27 j) 192 : Nat) : Int)), (2, 23)] wS 142 Q9
        refine qG.blk 1 (pc' := 137) (ls' := [(2, 23), l1, (2, 91), (0, l3), (0, s2), (0, ((g : Nat) : Int)), l6]) (st' := []) (w' := (qup wS 23 5 ((ctb (fun j => sb wS 27 j) 192 : Nat) : Int))) (n' := 142) rfl ?_
        refine qG.retv rfl rfl ?_
        subst hQ9
        refine ⟨rfl, rfl, zup_f hIS (b := (-2147483648, 2147483647)) rfl rfl rfl ⟨by show (-2147483648 : Int) ≤ _; omega, by have := ctbL_le (f := fun j => sb wS 27 j) 192; show _ ≤ (2147483647 : Int); omega⟩, fun q j a b => by rw [qup_f (by omega)]; exact hSf q j a b, ?_⟩
        rw [qup_k, qup_j (show (4 : Nat) ≠ 5 by decide), hfl]
        exact hFL.sp hT.1 _ (fun z => by first | (rw [show g = L by omega]; done) | exact absurd z hf60)
    exact L46 _ (0) (0) ((-1)) (w2) ((9, 0)) rfl (⟨Nat.zero_le _, h2f, hI2, h24, .inl ⟨rfl, hNp, rfl, h227, hz0_E hNp⟩⟩)
  · skip
    have hN0 : N = 0 := by
      by_cases y : ctb (fun j => sb w1 27 j) 192 = 0
      · by_cases z : N = 0
        · exact z
        · have q := ctb_0.mp y 0 (by decide); rw [h127 0 (by decide)] at q; have q : decide (0 < N) = false := q; rw [decide_eq_true (by omega)] at q; cases q
      · rw [if_neg y] at hem; exact absurd rfl hem
    refine qG.blk 7 (pc' := 46) (ls' := [(2, 23), l1, (2, 91), (0, l3), (0, 0), (0, 0), (9, 0)]) (st' := []) (w' := (qup w1 23 4 0)) (n' := 142) rfl ?_
    obtain ⟨w2, hw2⟩ : ∃ z : qW, z = (qup w1 23 4 0) := ⟨_, rfl⟩
    rw [← hw2]
    have hI2 : yInv zgf zga zra zSp w2 := by rw [hw2]; exact zup_f hI1 (b := (-2147483648, 2147483647)) rfl rfl rfl ⟨by decide, by decide⟩
    have h2f : (∀ q j, ¬ (27 ≤ q ∧ q ≤ 29) → ¬ (q = 23 ∧ 4 ≤ j ∧ j ≤ 5) → w2 q j = w q j) := fun q j a b => by rw [hw2, qup_f (by omega)]; exact h1f q j a b
    have h24 : w2 23 4 = 0 := by rw [hw2, qup_k]
    have h227 : HOLD w2 27 (hz N P M V 0) := fun j hj => by rw [show sb w2 27 j = sb w1 27 j from by unfold sb; rw [hw2, qup_nk (by decide)]]; exact h127 j hj
    have L46_1 : ∀ (m9 : Nat) (g : Nat) (s2 fl : Int) (wS : qW) (l6 : qV), L - g = m9 → (g ≤ L ∧ (∀ q j, ¬ (27 ≤ q ∧ q ≤ 29) → ¬ (q = 23 ∧ 4 ≤ j ∧ j ≤ 5) → wS q j = w q j) ∧ yInv zgf zga zra zSp wS ∧ wS 23 4 = fl ∧ FLW N P M V (scF (w 92) (w 93) g) (scF (w 92) (w 93) L) fl s2 wS) → qG none (d + 1) 35 46 [(2, 23), l1, (2, 91), (0, l3), (0, s2), (0, ((g : Nat) : Int)), l6] [] wS 142 Q9 := by
      intro m9
      induction m9 using Nat.strongRecOn with
      | ind m9 ih46 =>
      intro g s2 fl wS l6 hm46 hI46
      obtain ⟨hgL, hSf, hIS, hfl, hFL⟩ := hI46
      have hTS := hT.cg (w1 := wS) (fun q j h => hSf q j (by omega) (by omega))
      refine qG.blk 2 (pc' := 49) (ls' := [(2, 23), l1, (2, 91), (0, l3), (0, s2), (0, ((g : Nat) : Int)), l6]) (st' := [(2, 91), (0, ((g : Nat) : Int))]) (w' := wS) (n' := 142) rfl ?_
      refine qG.call (t := 110) (na := 1) (sk := 1) (md := 1) (ls1 := [(2, 91)]) (r1 := [(0, ((g : Nat) : Int))]) rfl rfl rfl rfl rfl (K_stepC91 (Nat.zero_le _) wS (x := ((L : Nat) : Int)) ((hSf 91 2 (by decide) (by omega)).trans hs)) ?_
      rintro _ w7 _ ⟨rfl, hw7, rfl⟩
      rw [hw7]
      show qG none (d + 1) 35 52 [(2, 23), l1, (2, 91), (0, l3), (0, s2), (0, ((g : Nat) : Int)), l6] [(0, ((L : Nat) : Int)), (0, ((g : Nat) : Int))] wS 142 Q9
      refine qG.br (P := ((g : Nat) : Int) < ((L : Nat) : Int)) (pc1 := 55) (pc2 := 126) (st1 := []) rfl (fun hgL2 => ?_) (fun hgL2 => ?_)
      · skip
        refine qG.blk 2 (pc' := 59) (ls' := [(2, 23), l1, (2, 91), (0, l3), (0, s2), (0, ((g : Nat) : Int)), l6]) (st' := [(0, wS 23 4)]) (w' := wS) (n' := 142) rfl ?_
        rw [show wS 23 4 = fl from hfl]
        refine qG.blk 1 (pc' := 60) (ls' := [(2, 23), l1, (2, 91), (0, l3), (0, s2), (0, ((g : Nat) : Int)), l6]) (st' := [(0, (-1)), (0, fl)]) (w' := wS) (n' := 142) rfl ?_
        refine qG.br (P := fl = (-1)) (pc1 := 63) (pc2 := 126) (st1 := []) rfl (fun hf60 => ?_) (fun hf60 => ?_)
        · skip
          obtain ⟨-, hNp, hs2, hH27, hnE⟩ : fl = -1 ∧ 0 < N ∧ s2 = ((scF (w 92) (w 93) g : Nat) : Int) ∧ HOLD wS 27 (hz N P M V (scF (w 92) (w 93) g)) ∧ ¬ hzE (hz N P M V (scF (w 92) (w 93) g)) := by
            rcases hFL with z | ⟨-, ⟨-, z⟩ | ⟨-, f, -, z, -⟩⟩
            · exact z
            · omega
            · omega
          have hdn : (if w 92 g = 2 then w 93 g else 1) = ((dN (w 92 g) (w 93 g) : Nat) : Int) := by have z := sc_s hKW (show g < L by omega); have y : ((scF (w 92) (w 93) (g + 1) : Nat) : Int) = ((scF (w 92) (w 93) g : Nat) : Int) + ((dN (w 92 g) (w 93 g) : Nat) : Int) := rfl; omega
          have hd20 : dN (w 92 g) (w 93 g) ≤ 20 := by have z := sc_le hKW (g + 1) (by omega); have q := hKW g (by omega); by_cases y : w 92 g = 2; rw [if_pos y] at hdn; have := q y; omega; rw [if_neg y] at hdn; omega
          have hsc := sc_le hKW g (by omega)
          refine qG.blk 2 (pc' := 67) (ls' := [(2, 23), l1, (2, 91), (0, l3), (0, s2), (0, ((g : Nat) : Int)), l6]) (st' := [(2, wS 23 0)]) (w' := wS) (n' := 142) rfl ?_
          rw [show wS 23 0 = 24 from (hSf 23 0 (by decide) (by omega)).trans (zref hI rfl rfl)]
          refine qG.blk 2 (pc' := 70) (ls' := [(2, 23), l1, (2, 91), (0, l3), (0, s2), (0, ((g : Nat) : Int)), l6]) (st' := [(0, ((g : Nat) : Int)), (2, 91), (2, 24)]) (w' := wS) (n' := 142) rfl ?_
          refine qG.call (t := 115) (na := 2) (sk := 1) (md := 1) (ls1 := [(2, 91), (0, ((g : Nat) : Int))]) (r1 := [(2, 24)]) rfl rfl rfl rfl rfl (K_vwOf91 (Nat.zero_le _) g L hL wS hIS ((hSf 91 2 (by decide) (by omega)).trans hs) (by omega)) ?_
          rintro _ w7 _ ⟨rfl, hw7, rfl⟩
          rw [hw7, hSf 94 g (by decide) (by omega)]
          show qG none (d + 1) 35 73 [(2, 23), l1, (2, 91), (0, l3), (0, s2), (0, ((g : Nat) : Int)), l6] [(0, w 94 g), (2, 24)] wS 142 Q9
          refine qG.blk 2 (pc' := 77) (ls' := [(2, 23), l1, (2, 91), (0, l3), (0, s2), (0, ((g : Nat) : Int)), l6]) (st' := [(2, wS 23 3), (0, w 94 g), (2, 24)]) (w' := wS) (n' := 142) rfl ?_
          rw [show wS 23 3 = 29 from (hSf 23 3 (by decide) (by omega)).trans (zref hI rfl rfl)]
          refine qG.call (t := 103) (na := 3) (sk := 1) (md := 1) (ls1 := [(2, 24), (0, w 94 g), (2, 29), (9, 0), (9, 0)]) (r1 := []) rfl rfl rfl rfl rfl (K_unseen29 (by omega) (w 94 g) N hT.1 wS hIS (hTS.2.1)) ?_
          rintro _ wU _ ⟨rfl, rfl, hRU⟩
          have hIU := hRU.2.2
          have hUf : (∀ q j, ¬ (27 ≤ q ∧ q ≤ 29) → ¬ (q = 23 ∧ 4 ≤ j ∧ j ≤ 5) → wU q j = w q j) := fun q j a b => (hRU.2.1 q j (by omega)).trans (hSf q j a b)
          have hTU := hTS.cg (w1 := wU) (fun q j h => hRU.2.1 q j (by omega))
          have hU27 : HOLD wU 27 (hz N P M V (scF (w 92) (w 93) g)) := fun j hj => by rw [hRU.o (by decide)]; exact hH27 j hj
          have hU29 : HOLD wU 29 (fun j => decide (j < N) && decide (qand (P j) (w 94 g) = 0)) := fun j hj => by
            rw [show sb wU 29 j = (decide (j < N) && decide (qand (wS 25 j) (w 94 g) = 0)) from hRU.1 j hj]
            show _ = (decide (j < N) && decide (qand (P j) (w 94 g) = 0))
            by_cases hjN : j < N
            · rw [hTS.2.2.1 j hjN]
            · rw [decide_eq_false hjN, Bool.false_and, Bool.false_and]
          show qG none (d + 1) 35 80 [(2, 23), l1, (2, 91), (0, l3), (0, s2), (0, ((g : Nat) : Int)), l6] [] wU 142 Q9
          refine qG.blk 3 (pc' := 84) (ls' := [(2, 23), l1, (2, 91), (0, l3), (0, s2), (0, ((g : Nat) : Int)), l6]) (st' := [(0, ((g : Nat) : Int)), (2, 91), (2, 23)]) (w' := wU) (n' := 142) rfl ?_
          refine qG.call (t := 114) (na := 2) (sk := 1) (md := 1) (ls1 := [(2, 91), (0, ((g : Nat) : Int))]) (r1 := [(2, 23)]) rfl rfl rfl rfl rfl (K_secs91 (Nat.zero_le _) g L hL wU hIU ((hUf 91 2 (by decide) (by omega)).trans hs) (by omega)) ?_
          rintro _ w7 _ ⟨rfl, hw7, rfl⟩
          rw [hw7, hUf 92 g (by decide) (by omega), hUf 93 g (by decide) (by omega), show (if w 92 g = 2 then w 93 g else 1) = ((dN (w 92 g) (w 93 g) : Nat) : Int) from hdn]
          show qG none (d + 1) 35 87 [(2, 23), l1, (2, 91), (0, l3), (0, s2), (0, ((g : Nat) : Int)), l6] [(0, ((dN (w 92 g) (w 93 g) : Nat) : Int)), (2, 23)] wU 142 Q9
          refine qG.call (t := 36) (na := 2) (sk := 1) (md := 1) (ls1 := [(2, 23), (0, ((dN (w 92 g) (w 93 g) : Nat) : Int)), (9, 0)]) (r1 := []) rfl rfl rfl rfl rfl (K_stayU (by omega) N P M V (scF (w 92) (w 93) g) (dN (w 92 g) (w 93 g)) (w 94 g) (by omega) (fun u hu => hVV g (by omega) u hu) wU hIU hTU hU27 hU29 hnE) ?_
          rintro _ wX _ ⟨rfl, hX9, hIX, ⟨rfl, hX27, hXE⟩ | ⟨e, he, rfl, hX27, hXE, hXE2⟩⟩ <;> have hXf : (∀ q j, ¬ (27 ≤ q ∧ q ≤ 29) → ¬ (q = 23 ∧ 4 ≤ j ∧ j ≤ 5) → wX q j = w q j) := fun q j a b => (hX9 q j (by omega) (by omega)).trans (hUf q j a b)
          · skip
            show qG none (d + 1) 35 90 [(2, 23), l1, (2, 91), (0, l3), (0, s2), (0, ((g : Nat) : Int)), l6] [(0, ((dN (w 92 g) (w 93 g) : Nat) : Int))] wX 142 Q9
            refine qG.blk 4 (pc' := 97) (ls' := [(2, 23), l1, (2, 91), (0, l3), (0, s2), (0, ((g : Nat) : Int)), (0, ((dN (w 92 g) (w 93 g) : Nat) : Int))]) (st' := [(0, wrp (s2 + ((dN (w 92 g) (w 93 g) : Nat) : Int)))]) (w' := wX) (n' := 142) rfl ?_
            rw [show wrp (s2 + ((dN (w 92 g) (w 93 g) : Nat) : Int)) = s2 + ((dN (w 92 g) (w 93 g) : Nat) : Int) from wrp_id (by omega) (by omega)]
            refine qG.blk 5 (pc' := 105) (ls' := [(2, 23), l1, (2, 91), (0, l3), (0, s2 + ((dN (w 92 g) (w 93 g) : Nat) : Int)), (0, ((g : Nat) : Int)), (0, ((dN (w 92 g) (w 93 g) : Nat) : Int))]) (st' := [(0, ((g : Nat) : Int)), (2, 91), (0, ((dN (w 92 g) (w 93 g) : Nat) : Int)), (2, 23)]) (w' := wX) (n' := 142) rfl ?_
            refine qG.call (t := 114) (na := 2) (sk := 1) (md := 1) (ls1 := [(2, 91), (0, ((g : Nat) : Int))]) (r1 := [(0, ((dN (w 92 g) (w 93 g) : Nat) : Int)), (2, 23)]) rfl rfl rfl rfl rfl (K_secs91 (Nat.zero_le _) g L hL wX hIX ((hXf 91 2 (by decide) (by omega)).trans hs) (by omega)) ?_
            rintro _ w7 _ ⟨rfl, hw7, rfl⟩
            rw [hw7, hXf 92 g (by decide) (by omega), hXf 93 g (by decide) (by omega), show (if w 92 g = 2 then w 93 g else 1) = ((dN (w 92 g) (w 93 g) : Nat) : Int) from hdn]
            show qG none (d + 1) 35 108 [(2, 23), l1, (2, 91), (0, l3), (0, s2 + ((dN (w 92 g) (w 93 g) : Nat) : Int)), (0, ((g : Nat) : Int)), (0, ((dN (w 92 g) (w 93 g) : Nat) : Int))] [(0, ((dN (w 92 g) (w 93 g) : Nat) : Int)), (0, ((dN (w 92 g) (w 93 g) : Nat) : Int)), (2, 23)] wX 142 Q9
            refine qG.br (P := ((dN (w 92 g) (w 93 g) : Nat) : Int) < ((dN (w 92 g) (w 93 g) : Nat) : Int)) (pc1 := 111) (pc2 := 116) (st1 := [(2, 23)]) rfl (fun h108 => ?_) (fun h108 => ?_)
            · skip
              refine qG.blk 4 (pc' := 123) (ls' := [(2, 23), l1, (2, 91), (0, l3), (0, s2 + ((dN (w 92 g) (w 93 g) : Nat) : Int)), (0, wrp (((g : Nat) : Int) + 1)), (0, ((dN (w 92 g) (w 93 g) : Nat) : Int))]) (st' := []) (w' := (qup wX 23 4 (s2 + ((dN (w 92 g) (w 93 g) : Nat) : Int)))) (n' := 142) rfl ?_
              rw [show wrp (((g : Nat) : Int) + 1) = ((g + 1 : Nat) : Int) from wrp_id (by omega) (by omega)]
              refine qG.blk 1 (pc' := 46) (ls' := [(2, 23), l1, (2, 91), (0, l3), (0, s2 + ((dN (w 92 g) (w 93 g) : Nat) : Int)), (0, ((g + 1 : Nat) : Int)), (0, ((dN (w 92 g) (w 93 g) : Nat) : Int))]) (st' := []) (w' := (qup wX 23 4 (s2 + ((dN (w 92 g) (w 93 g) : Nat) : Int)))) (n' := 142) rfl ?_
              exact absurd h108 (by omega)
            · skip
              refine qG.blk 3 (pc' := 123) (ls' := [(2, 23), l1, (2, 91), (0, l3), (0, s2 + ((dN (w 92 g) (w 93 g) : Nat) : Int)), (0, wrp (((g : Nat) : Int) + 1)), (0, ((dN (w 92 g) (w 93 g) : Nat) : Int))]) (st' := []) (w' := (qup wX 23 4 (-1))) (n' := 142) rfl ?_
              rw [show wrp (((g : Nat) : Int) + 1) = ((g + 1 : Nat) : Int) from wrp_id (by omega) (by omega)]
              refine qG.blk 1 (pc' := 46) (ls' := [(2, 23), l1, (2, 91), (0, l3), (0, s2 + ((dN (w 92 g) (w 93 g) : Nat) : Int)), (0, ((g + 1 : Nat) : Int)), (0, ((dN (w 92 g) (w 93 g) : Nat) : Int))]) (st' := []) (w' := (qup wX 23 4 (-1))) (n' := 142) rfl ?_
              obtain ⟨wN, hwN⟩ : ∃ z : qW, z = (qup wX 23 4 (-1)) := ⟨_, rfl⟩
              rw [← hwN]
              have hIN : yInv zgf zga zra zSp wN := by rw [hwN]; exact zup_f hIX (b := (-2147483648, 2147483647)) rfl rfl rfl ⟨by show (-2147483648 : Int) ≤ _; omega, by show _ ≤ (2147483647 : Int); omega⟩
              have hNf : (∀ q j, ¬ (27 ≤ q ∧ q ≤ 29) → ¬ (q = 23 ∧ 4 ≤ j ∧ j ≤ 5) → wN q j = w q j) := fun q j a b => by rw [hwN, qup_f (by omega)]; exact hXf q j a b
              have hN4 : wN 23 4 = (-1) := by rw [hwN, qup_k]
              have hN27 : ∀ j, sb wN 27 j = sb wX 27 j := fun j => by unfold sb; rw [hwN, qup_nk (by decide)]
              exact ih46 _ (by omega) (g + 1) (s2 + ((dN (w 92 g) (w 93 g) : Nat) : Int)) ((-1)) (wN) ((0, ((dN (w 92 g) (w 93 g) : Nat) : Int))) rfl (⟨by omega, hNf, hIN, hN4, .inl ⟨rfl, by have z := hFL; rcases z with z | z; exact z.2.1; rcases z.2 with z | z; omega; exact z.1, by show _ = ((scF (w 92) (w 93) g + dN (w 92 g) (w 93 g) : Nat) : Int); omega, fun j hj => (hN27 j).trans (hX27 j hj), hXE⟩⟩)
          · skip
            show qG none (d + 1) 35 90 [(2, 23), l1, (2, 91), (0, l3), (0, s2), (0, ((g : Nat) : Int)), l6] [(0, ((e : Nat) : Int))] wX 142 Q9
            refine qG.blk 4 (pc' := 97) (ls' := [(2, 23), l1, (2, 91), (0, l3), (0, s2), (0, ((g : Nat) : Int)), (0, ((e : Nat) : Int))]) (st' := [(0, wrp (s2 + ((e : Nat) : Int)))]) (w' := wX) (n' := 142) rfl ?_
            rw [show wrp (s2 + ((e : Nat) : Int)) = s2 + ((e : Nat) : Int) from wrp_id (by omega) (by omega)]
            refine qG.blk 5 (pc' := 105) (ls' := [(2, 23), l1, (2, 91), (0, l3), (0, s2 + ((e : Nat) : Int)), (0, ((g : Nat) : Int)), (0, ((e : Nat) : Int))]) (st' := [(0, ((g : Nat) : Int)), (2, 91), (0, ((e : Nat) : Int)), (2, 23)]) (w' := wX) (n' := 142) rfl ?_
            refine qG.call (t := 114) (na := 2) (sk := 1) (md := 1) (ls1 := [(2, 91), (0, ((g : Nat) : Int))]) (r1 := [(0, ((e : Nat) : Int)), (2, 23)]) rfl rfl rfl rfl rfl (K_secs91 (Nat.zero_le _) g L hL wX hIX ((hXf 91 2 (by decide) (by omega)).trans hs) (by omega)) ?_
            rintro _ w7 _ ⟨rfl, hw7, rfl⟩
            rw [hw7, hXf 92 g (by decide) (by omega), hXf 93 g (by decide) (by omega), show (if w 92 g = 2 then w 93 g else 1) = ((dN (w 92 g) (w 93 g) : Nat) : Int) from hdn]
            show qG none (d + 1) 35 108 [(2, 23), l1, (2, 91), (0, l3), (0, s2 + ((e : Nat) : Int)), (0, ((g : Nat) : Int)), (0, ((e : Nat) : Int))] [(0, ((dN (w 92 g) (w 93 g) : Nat) : Int)), (0, ((e : Nat) : Int)), (2, 23)] wX 142 Q9
            refine qG.br (P := ((e : Nat) : Int) < ((dN (w 92 g) (w 93 g) : Nat) : Int)) (pc1 := 111) (pc2 := 116) (st1 := [(2, 23)]) rfl (fun h108 => ?_) (fun h108 => ?_)
            · skip
              refine qG.blk 4 (pc' := 123) (ls' := [(2, 23), l1, (2, 91), (0, l3), (0, s2 + ((e : Nat) : Int)), (0, wrp (((g : Nat) : Int) + 1)), (0, ((e : Nat) : Int))]) (st' := []) (w' := (qup wX 23 4 (s2 + ((e : Nat) : Int)))) (n' := 142) rfl ?_
              rw [show wrp (((g : Nat) : Int) + 1) = ((g + 1 : Nat) : Int) from wrp_id (by omega) (by omega)]
              refine qG.blk 1 (pc' := 46) (ls' := [(2, 23), l1, (2, 91), (0, l3), (0, s2 + ((e : Nat) : Int)), (0, ((g + 1 : Nat) : Int)), (0, ((e : Nat) : Int))]) (st' := []) (w' := (qup wX 23 4 (s2 + ((e : Nat) : Int)))) (n' := 142) rfl ?_
              obtain ⟨wN, hwN⟩ : ∃ z : qW, z = (qup wX 23 4 (s2 + ((e : Nat) : Int))) := ⟨_, rfl⟩
              rw [← hwN]
              have hIN : yInv zgf zga zra zSp wN := by rw [hwN]; exact zup_f hIX (b := (-2147483648, 2147483647)) rfl rfl rfl ⟨by show (-2147483648 : Int) ≤ _; omega, by show _ ≤ (2147483647 : Int); omega⟩
              have hNf : (∀ q j, ¬ (27 ≤ q ∧ q ≤ 29) → ¬ (q = 23 ∧ 4 ≤ j ∧ j ≤ 5) → wN q j = w q j) := fun q j a b => by rw [hwN, qup_f (by omega)]; exact hXf q j a b
              have hN4 : wN 23 4 = (s2 + ((e : Nat) : Int)) := by rw [hwN, qup_k]
              have hN27 : ∀ j, sb wN 27 j = sb wX 27 j := fun j => by unfold sb; rw [hwN, qup_nk (by decide)]
              exact ih46 _ (by omega) (g + 1) (s2 + ((e : Nat) : Int)) (s2 + ((e : Nat) : Int)) (wN) ((0, ((e : Nat) : Int))) rfl (⟨by omega, hNf, hIN, hN4, .inr ⟨fun j hj => (hN27 j).trans (hX27 j hj), .inr ⟨hNp, scF (w 92) (w 93) g + e, by have := scF_le (K := w 92) (N := w 93) (show g + 1 ≤ L by omega); have : scF (w 92) (w 93) (g + 1) = scF (w 92) (w 93) g + dN (w 92 g) (w 93 g) := rfl; omega, by omega, hXE, hXE2⟩⟩⟩)
            · skip
              refine qG.blk 3 (pc' := 123) (ls' := [(2, 23), l1, (2, 91), (0, l3), (0, s2 + ((e : Nat) : Int)), (0, wrp (((g : Nat) : Int) + 1)), (0, ((e : Nat) : Int))]) (st' := []) (w' := (qup wX 23 4 (-1))) (n' := 142) rfl ?_
              rw [show wrp (((g : Nat) : Int) + 1) = ((g + 1 : Nat) : Int) from wrp_id (by omega) (by omega)]
              refine qG.blk 1 (pc' := 46) (ls' := [(2, 23), l1, (2, 91), (0, l3), (0, s2 + ((e : Nat) : Int)), (0, ((g + 1 : Nat) : Int)), (0, ((e : Nat) : Int))]) (st' := []) (w' := (qup wX 23 4 (-1))) (n' := 142) rfl ?_
              exact absurd he (by omega)
        · skip
          refine qG.blk 3 (pc' := 131) (ls' := [(2, 23), l1, (2, 91), (0, l3), (0, s2), (0, ((g : Nat) : Int)), l6]) (st' := [(2, wS 23 1), (2, 23)]) (w' := wS) (n' := 142) rfl ?_
          rw [show wS 23 1 = 27 from (hSf 23 1 (by decide) (by omega)).trans (zref hI rfl rfl)]
          refine qG.call (t := 52) (na := 1) (sk := 0) (md := 0) (ls1 := [(2, 27), (9, 0), (9, 0), (9, 0), (9, 0), (9, 0), (9, 0)]) (r1 := [(2, 23)]) rfl rfl rfl rfl rfl (K_howM27 (by omega) wS) ?_
          rintro _ w7 _ ⟨rfl, hw7, rfl⟩
          rw [hw7]
          show qG none (d + 1) 35 134 [(2, 23), l1, (2, 91), (0, l3), (0, s2), (0, ((g : Nat) : Int)), l6] [(0, ((ctb (fun j => sb wS 27 j) 192 : Nat) : Int)), (2, 23)] wS 142 Q9
          refine qG.blk 1 (pc' := 137) (ls' := [(2, 23), l1, (2, 91), (0, l3), (0, s2), (0, ((g : Nat) : Int)), l6]) (st' := []) (w' := (qup wS 23 5 ((ctb (fun j => sb wS 27 j) 192 : Nat) : Int))) (n' := 142) rfl ?_
          refine qG.retv rfl rfl ?_
          subst hQ9
          refine ⟨rfl, rfl, zup_f hIS (b := (-2147483648, 2147483647)) rfl rfl rfl ⟨by show (-2147483648 : Int) ≤ _; omega, by have := ctbL_le (f := fun j => sb wS 27 j) 192; show _ ≤ (2147483647 : Int); omega⟩, fun q j a b => by rw [qup_f (by omega)]; exact hSf q j a b, ?_⟩
          rw [qup_k, qup_j (show (4 : Nat) ≠ 5 by decide), hfl]
          exact hFL.sp hT.1 _ (fun z => by first | (rw [show g = L by omega]; done) | exact absurd z hf60)
      · skip
        refine qG.blk 3 (pc' := 131) (ls' := [(2, 23), l1, (2, 91), (0, l3), (0, s2), (0, ((g : Nat) : Int)), l6]) (st' := [(2, wS 23 1), (2, 23)]) (w' := wS) (n' := 142) rfl ?_
        rw [show wS 23 1 = 27 from (hSf 23 1 (by decide) (by omega)).trans (zref hI rfl rfl)]
        refine qG.call (t := 52) (na := 1) (sk := 0) (md := 0) (ls1 := [(2, 27), (9, 0), (9, 0), (9, 0), (9, 0), (9, 0), (9, 0)]) (r1 := [(2, 23)]) rfl rfl rfl rfl rfl (K_howM27 (by omega) wS) ?_
        rintro _ w7 _ ⟨rfl, hw7, rfl⟩
        rw [hw7]
        show qG none (d + 1) 35 134 [(2, 23), l1, (2, 91), (0, l3), (0, s2), (0, ((g : Nat) : Int)), l6] [(0, ((ctb (fun j => sb wS 27 j) 192 : Nat) : Int)), (2, 23)] wS 142 Q9
        refine qG.blk 1 (pc' := 137) (ls' := [(2, 23), l1, (2, 91), (0, l3), (0, s2), (0, ((g : Nat) : Int)), l6]) (st' := []) (w' := (qup wS 23 5 ((ctb (fun j => sb wS 27 j) 192 : Nat) : Int))) (n' := 142) rfl ?_
        refine qG.retv rfl rfl ?_
        subst hQ9
        refine ⟨rfl, rfl, zup_f hIS (b := (-2147483648, 2147483647)) rfl rfl rfl ⟨by show (-2147483648 : Int) ≤ _; omega, by have := ctbL_le (f := fun j => sb wS 27 j) 192; show _ ≤ (2147483647 : Int); omega⟩, fun q j a b => by rw [qup_f (by omega)]; exact hSf q j a b, ?_⟩
        rw [qup_k, qup_j (show (4 : Nat) ≠ 5 by decide), hfl]
        exact hFL.sp hT.1 _ (fun z => by first | (rw [show g = L by omega]; done) | exact absurd z hf60)
    exact L46_1 _ (0) (0) (0) (w2) ((9, 0)) rfl (⟨Nat.zero_le _, h2f, hI2, h24, .inr ⟨fun j hj => (h227 j hj).trans (by show decide (j < N) = false; exact decide_eq_false (by omega)), .inl ⟨hN0, rfl⟩⟩⟩)
