/-! addUp -/

noncomputable def M9 : List Nat := [18, 20, 22, 2017, 2019, 2021, 5012]
theorem addTo {w w1 : qW} {d : Nat} (hd : 1 ≤ d) {to : Int} (hto : to = 19 ∨ to = 21) (h : AW M9 w w1) : qG none d 125 0 (qini 125 [(2, to), (2, 17)]) [] w1 142 (fun v w' n' => v.1 = 9 ∧ AW M9 w w' ∧ n' = 142) := by
  rcases hto with rfl | rfl
  · refine qG.mono (AW.use (c := C_add19.2) (as := [(2, 19), (2, 17)]) T_add19 h hd ⟨⟨rfl, by decide, by decide⟩, ⟨rfl, by decide, by decide⟩, trivial⟩ rfl rfl (by decide +kernel)) ?_
    rintro _ w' _ ⟨x, rfl, -, -, hA, rfl, -⟩
    exact ⟨rfl, hA, rfl⟩
  · refine qG.mono (AW.use (c := C_add21.2) (as := [(2, 21), (2, 17)]) T_add21 h hd ⟨⟨rfl, by decide, by decide⟩, ⟨rfl, by decide, by decide⟩, trivial⟩ rfl rfl (by decide +kernel)) ?_
    rintro _ w' _ ⟨x, rfl, -, -, hA, rfl, -⟩
    exact ⟨rfl, hA, rfl⟩
theorem K_addUp19 {d : Nat} (hd : 6 ≤ d) (w : qW) (hI : yInv zgf zga zra zSp w) : qG none d 91 0 [(2, 12), (2, 19), (2, 21), (9, 0), (9, 0)] [] w 142 (fun (v : qV) (w1 : qW) (n1 : Nat) => v = (9, 0) ∧ n1 = 142 ∧ AW M9 w w1) := by
  generalize hQ9 : (fun (v : qV) (w1 : qW) (n1 : Nat) => v = (9, 0) ∧ n1 = 142 ∧ AW M9 w w1) = Q9
  have hA0 : AW M9 w w := AW.rf hI
  obtain ⟨N6, hN6⟩ : ∃ N : Int, N = 601 := ⟨_, rfl⟩
  obtain ⟨d, rfl⟩ : ∃ d9, d = d9 + 1 := ⟨d - 1, by omega⟩
  refine qG.blk 4 (pc' := 6) (ls' := [(2, 12), (2, 19), (2, 21), (2, 19), (9, 0)]) (st' := [(2, w 12 8)]) (w' := w) (n' := 142) rfl ?_
  rw [show w 12 8 = 17 from zref hI rfl rfl]
  refine qG.blk 1 (pc' := 7) (ls' := [(2, 12), (2, 19), (2, 21), (2, 19), (9, 0)]) (st' := [(2, 12), (2, 17)]) (w' := w) (n' := 142) rfl ?_
  refine qG.call (t := 92) (na := 1) (sk := 1) (md := 1) (ls1 := [(2, 12), (9, 0), (9, 0), (9, 0)]) (r1 := [(2, 17)]) rfl rfl rfl rfl rfl (AW.use (c := C_takeUnit.2) (as := [(2, 12)]) T_takeUnit hA0 (show 1 ≤ d by omega) ⟨⟨rfl, by decide, by decide⟩, trivial⟩ rfl rfl (by decide +kernel)) ?_
  rintro _ w1 _ ⟨x1, rfl, hl1, hu1, hA1, rfl, hB1⟩
  have hl1 : ((-2147483648) : Int) ≤ x1 := hl1
  have hu1 : x1 ≤ (2147483647 : Int) := hu1
  show qG none (d + 1) 91 10 [(2, 12), (2, 19), (2, 21), (2, 19), (9, 0)] [(0, x1), (2, 17)] w1 142 Q9
  refine qG.call (t := 120) (na := 2) (sk := 1) (md := 1) (ls1 := [(2, 17), (0, x1)]) (r1 := []) rfl rfl rfl rfl rfl (AW.use (c := C_put17.2) (as := [(2, 17), (0, x1)]) T_put17 hA1 (show 1 ≤ d by omega) ⟨⟨rfl, by decide, by decide⟩, ⟨rfl, by omega, by omega⟩, trivial⟩ rfl rfl (by decide +kernel)) ?_
  rintro _ w2 _ ⟨x2, rfl, hl2, hu2, hA2, rfl, hB2⟩
  show qG none (d + 1) 91 13 [(2, 12), (2, 19), (2, 21), (2, 19), (9, 0)] [] w2 142 Q9
  refine qG.blk 2 (pc' := 16) (ls' := [(2, 12), (2, 19), (2, 21), (2, 19), (0, 0)]) (st' := []) (w' := w2) (n' := 142) rfl ?_
  have L16 : ∀ (m9 : Nat) (i : Nat) (to : Int) (wL : qW), 601 - i = m9 → (i ≤ 601 ∧ (to = 19 ∨ to = 21) ∧ AW M9 w wL) → qG none (d + 1) 91 16 [(2, 12), (2, 19), (2, 21), (2, to), (0, ((i : Nat) : Int))] [] wL 142 Q9 := by
    intro m9
    induction m9 using Nat.strongRecOn with
    | ind m9 ih16 =>
    intro i to wL hm16 hI16
    have hto := hI16.2.1
    refine qG.blk 2 (pc' := 21) (ls' := [(2, 12), (2, 19), (2, 21), (2, to), (0, ((i : Nat) : Int))]) (st' := [(0, 601), (0, ((i : Nat) : Int))]) (w' := wL) (n' := 142) rfl ?_
    rw [show (601 : Int) = N6 from hN6.symm]
    refine qG.br (P := ((i : Nat) : Int) < N6) (pc1 := 24) (pc2 := 134) (st1 := []) rfl (fun h3 => ?_) (fun h3 => ?_)
    · skip
      refine qG.blk 2 (pc' := 28) (ls' := [(2, 12), (2, 19), (2, 21), (2, to), (0, ((i : Nat) : Int))]) (st' := [(0, 20042), (2, 12)]) (w' := wL) (n' := 142) rfl ?_
      refine qG.call (t := 87) (na := 2) (sk := 1) (md := 1) (ls1 := [(2, 12), (0, 20042)]) (r1 := []) rfl rfl rfl rfl rfl (AW.use (c := C_takesP.2) (as := [(2, 12), (0, 20042)]) T_takesP hI16.2.2 (show 1 ≤ d by omega) ⟨⟨rfl, by decide, by decide⟩, ⟨rfl, by decide, by decide⟩, trivial⟩ rfl rfl (by decide +kernel)) ?_
      rintro _ w4 _ ⟨x4, rfl, hl4, hu4, hA4, rfl, hB4⟩
      have hl4 : (0 : Int) ≤ x4 := hl4
      have hu4 : x4 ≤ (1 : Int) := hu4
      show qG none (d + 1) 91 31 [(2, 12), (2, 19), (2, 21), (2, to), (0, ((i : Nat) : Int))] [(0, x4)] w4 142 Q9
      refine qG.br (P := x4 = 0) (pc1 := 48) (pc2 := 34) (st1 := []) rfl (fun h5 => ?_) (fun h5 => ?_)
      · skip
        refine qG.blk 2 (pc' := 52) (ls' := [(2, 12), (2, 19), (2, 21), (2, to), (0, ((i : Nat) : Int))]) (st' := [(0, 20047), (2, 12)]) (w' := w4) (n' := 142) rfl ?_
        refine qG.call (t := 87) (na := 2) (sk := 1) (md := 1) (ls1 := [(2, 12), (0, 20047)]) (r1 := []) rfl rfl rfl rfl rfl (AW.use (c := C_takesP.2) (as := [(2, 12), (0, 20047)]) T_takesP hA4 (show 1 ≤ d by omega) ⟨⟨rfl, by decide, by decide⟩, ⟨rfl, by decide, by decide⟩, trivial⟩ rfl rfl (by decide +kernel)) ?_
        rintro _ w6 _ ⟨x6, rfl, hl6, hu6, hA6, rfl, hB6⟩
        have hl6 : (0 : Int) ≤ x6 := hl6
        have hu6 : x6 ≤ (1 : Int) := hu6
        show qG none (d + 1) 91 55 [(2, 12), (2, 19), (2, 21), (2, to), (0, ((i : Nat) : Int))] [(0, x6)] w6 142 Q9
        refine qG.br (P := x6 = 0) (pc1 := 72) (pc2 := 58) (st1 := []) rfl (fun h7 => ?_) (fun h7 => ?_)
        · skip
          refine qG.blk 3 (pc' := 77) (ls' := [(2, 12), (2, 19), (2, 21), (2, to), (0, ((i : Nat) : Int))]) (st' := [(2, w6 12 8), (2, to)]) (w' := w6) (n' := 142) rfl ?_
          rw [show w6 12 8 = 17 from zref hA6.1 rfl rfl]
          refine qG.call (t := 125) (na := 2) (sk := 1) (md := 1) (ls1 := [(2, to), (2, 17), (9, 0), (9, 0), (9, 0), (9, 0)]) (r1 := []) rfl rfl (by rcases hto with rfl | rfl <;> rfl) rfl rfl (addTo (by omega) hto hA6) ?_
          rintro ⟨q8, x8⟩ w8 _ ⟨rfl, hA8, rfl⟩
          show qG none (d + 1) 91 80 [(2, 12), (2, 19), (2, 21), (2, to), (0, ((i : Nat) : Int))] [] w8 142 Q9
          refine qG.blk 1 (pc' := 81) (ls' := [(2, 12), (2, 19), (2, 21), (2, to), (0, ((i : Nat) : Int))]) (st' := [(2, 12)]) (w' := w8) (n' := 142) rfl ?_
          refine qG.call (t := 86) (na := 1) (sk := 1) (md := 1) (ls1 := [(2, 12)]) (r1 := []) rfl rfl rfl rfl rfl (AW.use (c := C_codeP.2) (as := [(2, 12)]) T_codeP hA8 (show 0 ≤ d by omega) ⟨⟨rfl, by decide, by decide⟩, trivial⟩ rfl rfl (by decide +kernel)) ?_
          rintro _ w9 _ ⟨x9, rfl, hl9, hu9, hA9, rfl, hB9⟩
          have hl9 : ((-2147483648) : Int) ≤ x9 := hl9
          have hu9 : x9 ≤ (2147483647 : Int) := hu9
          show qG none (d + 1) 91 84 [(2, 12), (2, 19), (2, 21), (2, to), (0, ((i : Nat) : Int))] [(0, x9)] w9 142 Q9
          refine qG.blk 1 (pc' := 87) (ls' := [(2, 12), (2, 19), (2, 21), (2, to), (0, ((i : Nat) : Int))]) (st' := [(0, 20043), (0, x9)]) (w' := w9) (n' := 142) rfl ?_
          refine qG.br (P := x9 = 20043) (pc1 := 90) (pc2 := 94) (st1 := []) rfl (fun h10 => ?_) (fun h10 => ?_)
          · skip
            refine qG.blk 5 (pc' := 100) (ls' := [(2, 12), (2, 19), (2, 21), (2, 19), (0, ((i : Nat) : Int))]) (st' := [(0, 20043), (2, 12)]) (w' := w9) (n' := 142) rfl ?_
            refine qG.call (t := 87) (na := 2) (sk := 1) (md := 1) (ls1 := [(2, 12), (0, 20043)]) (r1 := []) rfl rfl rfl rfl rfl (AW.use (c := C_takesP.2) (as := [(2, 12), (0, 20043)]) T_takesP hA9 (show 1 ≤ d by omega) ⟨⟨rfl, by decide, by decide⟩, ⟨rfl, by decide, by decide⟩, trivial⟩ rfl rfl (by decide +kernel)) ?_
            rintro _ w11 _ ⟨x11, rfl, hl11, hu11, hA11, rfl, hB11⟩
            have hl11 : (0 : Int) ≤ x11 := hl11
            have hu11 : x11 ≤ (1 : Int) := hu11
            show qG none (d + 1) 91 103 [(2, 12), (2, 19), (2, 21), (2, 19), (0, ((i : Nat) : Int))] [(0, x11)] w11 142 Q9
            refine qG.br (P := x11 = 0) (pc1 := 106) (pc2 := 117) (st1 := []) rfl (fun h12 => ?_) (fun h12 => ?_)
            · skip
              refine qG.blk 2 (pc' := 110) (ls' := [(2, 12), (2, 19), (2, 21), (2, 19), (0, ((i : Nat) : Int))]) (st' := [(0, 20045), (2, 12)]) (w' := w11) (n' := 142) rfl ?_
              refine qG.call (t := 87) (na := 2) (sk := 1) (md := 1) (ls1 := [(2, 12), (0, 20045)]) (r1 := []) rfl rfl rfl rfl rfl (AW.use (c := C_takesP.2) (as := [(2, 12), (0, 20045)]) T_takesP hA11 (show 1 ≤ d by omega) ⟨⟨rfl, by decide, by decide⟩, ⟨rfl, by decide, by decide⟩, trivial⟩ rfl rfl (by decide +kernel)) ?_
              rintro _ w13 _ ⟨x13, rfl, hl13, hu13, hA13, rfl, hB13⟩
              have hl13 : (0 : Int) ≤ x13 := hl13
              have hu13 : x13 ≤ (1 : Int) := hu13
              show qG none (d + 1) 91 113 [(2, 12), (2, 19), (2, 21), (2, 19), (0, ((i : Nat) : Int))] [(0, x13)] w13 142 Q9
              refine qG.br (P := x13 = 0) (pc1 := 116) (pc2 := 117) (st1 := []) rfl (fun h14 => ?_) (fun h14 => ?_)
              · skip
                refine qG.retv rfl rfl ?_
                subst hQ9
                exact ⟨rfl, rfl, hA13⟩
              · skip
                refine qG.blk 2 (pc' := 121) (ls' := [(2, 12), (2, 19), (2, 21), (2, 19), (0, ((i : Nat) : Int))]) (st' := [(2, w13 12 8)]) (w' := w13) (n' := 142) rfl ?_
                rw [show w13 12 8 = 17 from zref hA13.1 rfl rfl]
                refine qG.blk 1 (pc' := 122) (ls' := [(2, 12), (2, 19), (2, 21), (2, 19), (0, ((i : Nat) : Int))]) (st' := [(2, 12), (2, 17)]) (w' := w13) (n' := 142) rfl ?_
                refine qG.call (t := 92) (na := 1) (sk := 1) (md := 1) (ls1 := [(2, 12), (9, 0), (9, 0), (9, 0)]) (r1 := [(2, 17)]) rfl rfl rfl rfl rfl (AW.use (c := C_takeUnit.2) (as := [(2, 12)]) T_takeUnit hA13 (show 1 ≤ d by omega) ⟨⟨rfl, by decide, by decide⟩, trivial⟩ rfl rfl (by decide +kernel)) ?_
                rintro _ w15 _ ⟨x15, rfl, hl15, hu15, hA15, rfl, hB15⟩
                have hl15 : ((-2147483648) : Int) ≤ x15 := hl15
                have hu15 : x15 ≤ (2147483647 : Int) := hu15
                show qG none (d + 1) 91 125 [(2, 12), (2, 19), (2, 21), (2, 19), (0, ((i : Nat) : Int))] [(0, x15), (2, 17)] w15 142 Q9
                refine qG.call (t := 120) (na := 2) (sk := 1) (md := 1) (ls1 := [(2, 17), (0, x15)]) (r1 := []) rfl rfl rfl rfl rfl (AW.use (c := C_put17.2) (as := [(2, 17), (0, x15)]) T_put17 hA15 (show 1 ≤ d by omega) ⟨⟨rfl, by decide, by decide⟩, ⟨rfl, by omega, by omega⟩, trivial⟩ rfl rfl (by decide +kernel)) ?_
                rintro _ w16 _ ⟨x16, rfl, hl16, hu16, hA16, rfl, hB16⟩
                show qG none (d + 1) 91 128 [(2, 12), (2, 19), (2, 21), (2, 19), (0, ((i : Nat) : Int))] [] w16 142 Q9
                refine qG.blk 1 (pc' := 131) (ls' := [(2, 12), (2, 19), (2, 21), (2, 19), (0, wrp (((i : Nat) : Int) + 1))]) (st' := []) (w' := w16) (n' := 142) rfl ?_
                rw [show wrp (((i : Nat) : Int) + 1) = ((i + 1 : Nat) : Int) from wrp_id (by omega) (by omega)]
                refine qG.blk 1 (pc' := 16) (ls' := [(2, 12), (2, 19), (2, 21), (2, 19), (0, ((i + 1 : Nat) : Int))]) (st' := []) (w' := w16) (n' := 142) rfl ?_
                exact ih16 _ (by omega) (i + 1) (19) (w16) rfl (⟨by omega, by first | exact .inl rfl | exact .inr rfl | exact hto, hA16⟩)
            · skip
              refine qG.blk 2 (pc' := 121) (ls' := [(2, 12), (2, 19), (2, 21), (2, 19), (0, ((i : Nat) : Int))]) (st' := [(2, w11 12 8)]) (w' := w11) (n' := 142) rfl ?_
              rw [show w11 12 8 = 17 from zref hA11.1 rfl rfl]
              refine qG.blk 1 (pc' := 122) (ls' := [(2, 12), (2, 19), (2, 21), (2, 19), (0, ((i : Nat) : Int))]) (st' := [(2, 12), (2, 17)]) (w' := w11) (n' := 142) rfl ?_
              refine qG.call (t := 92) (na := 1) (sk := 1) (md := 1) (ls1 := [(2, 12), (9, 0), (9, 0), (9, 0)]) (r1 := [(2, 17)]) rfl rfl rfl rfl rfl (AW.use (c := C_takeUnit.2) (as := [(2, 12)]) T_takeUnit hA11 (show 1 ≤ d by omega) ⟨⟨rfl, by decide, by decide⟩, trivial⟩ rfl rfl (by decide +kernel)) ?_
              rintro _ w17 _ ⟨x17, rfl, hl17, hu17, hA17, rfl, hB17⟩
              have hl17 : ((-2147483648) : Int) ≤ x17 := hl17
              have hu17 : x17 ≤ (2147483647 : Int) := hu17
              show qG none (d + 1) 91 125 [(2, 12), (2, 19), (2, 21), (2, 19), (0, ((i : Nat) : Int))] [(0, x17), (2, 17)] w17 142 Q9
              refine qG.call (t := 120) (na := 2) (sk := 1) (md := 1) (ls1 := [(2, 17), (0, x17)]) (r1 := []) rfl rfl rfl rfl rfl (AW.use (c := C_put17.2) (as := [(2, 17), (0, x17)]) T_put17 hA17 (show 1 ≤ d by omega) ⟨⟨rfl, by decide, by decide⟩, ⟨rfl, by omega, by omega⟩, trivial⟩ rfl rfl (by decide +kernel)) ?_
              rintro _ w18 _ ⟨x18, rfl, hl18, hu18, hA18, rfl, hB18⟩
              show qG none (d + 1) 91 128 [(2, 12), (2, 19), (2, 21), (2, 19), (0, ((i : Nat) : Int))] [] w18 142 Q9
              refine qG.blk 1 (pc' := 131) (ls' := [(2, 12), (2, 19), (2, 21), (2, 19), (0, wrp (((i : Nat) : Int) + 1))]) (st' := []) (w' := w18) (n' := 142) rfl ?_
              rw [show wrp (((i : Nat) : Int) + 1) = ((i + 1 : Nat) : Int) from wrp_id (by omega) (by omega)]
              refine qG.blk 1 (pc' := 16) (ls' := [(2, 12), (2, 19), (2, 21), (2, 19), (0, ((i + 1 : Nat) : Int))]) (st' := []) (w' := w18) (n' := 142) rfl ?_
              exact ih16 _ (by omega) (i + 1) (19) (w18) rfl (⟨by omega, by first | exact .inl rfl | exact .inr rfl | exact hto, hA18⟩)
          · skip
            refine qG.blk 4 (pc' := 100) (ls' := [(2, 12), (2, 19), (2, 21), (2, 21), (0, ((i : Nat) : Int))]) (st' := [(0, 20043), (2, 12)]) (w' := w9) (n' := 142) rfl ?_
            refine qG.call (t := 87) (na := 2) (sk := 1) (md := 1) (ls1 := [(2, 12), (0, 20043)]) (r1 := []) rfl rfl rfl rfl rfl (AW.use (c := C_takesP.2) (as := [(2, 12), (0, 20043)]) T_takesP hA9 (show 1 ≤ d by omega) ⟨⟨rfl, by decide, by decide⟩, ⟨rfl, by decide, by decide⟩, trivial⟩ rfl rfl (by decide +kernel)) ?_
            rintro _ w19 _ ⟨x19, rfl, hl19, hu19, hA19, rfl, hB19⟩
            have hl19 : (0 : Int) ≤ x19 := hl19
            have hu19 : x19 ≤ (1 : Int) := hu19
            show qG none (d + 1) 91 103 [(2, 12), (2, 19), (2, 21), (2, 21), (0, ((i : Nat) : Int))] [(0, x19)] w19 142 Q9
            refine qG.br (P := x19 = 0) (pc1 := 106) (pc2 := 117) (st1 := []) rfl (fun h20 => ?_) (fun h20 => ?_)
            · skip
              refine qG.blk 2 (pc' := 110) (ls' := [(2, 12), (2, 19), (2, 21), (2, 21), (0, ((i : Nat) : Int))]) (st' := [(0, 20045), (2, 12)]) (w' := w19) (n' := 142) rfl ?_
              refine qG.call (t := 87) (na := 2) (sk := 1) (md := 1) (ls1 := [(2, 12), (0, 20045)]) (r1 := []) rfl rfl rfl rfl rfl (AW.use (c := C_takesP.2) (as := [(2, 12), (0, 20045)]) T_takesP hA19 (show 1 ≤ d by omega) ⟨⟨rfl, by decide, by decide⟩, ⟨rfl, by decide, by decide⟩, trivial⟩ rfl rfl (by decide +kernel)) ?_
              rintro _ w21 _ ⟨x21, rfl, hl21, hu21, hA21, rfl, hB21⟩
              have hl21 : (0 : Int) ≤ x21 := hl21
              have hu21 : x21 ≤ (1 : Int) := hu21
              show qG none (d + 1) 91 113 [(2, 12), (2, 19), (2, 21), (2, 21), (0, ((i : Nat) : Int))] [(0, x21)] w21 142 Q9
              refine qG.br (P := x21 = 0) (pc1 := 116) (pc2 := 117) (st1 := []) rfl (fun h22 => ?_) (fun h22 => ?_)
              · skip
                refine qG.retv rfl rfl ?_
                subst hQ9
                exact ⟨rfl, rfl, hA21⟩
              · skip
                refine qG.blk 2 (pc' := 121) (ls' := [(2, 12), (2, 19), (2, 21), (2, 21), (0, ((i : Nat) : Int))]) (st' := [(2, w21 12 8)]) (w' := w21) (n' := 142) rfl ?_
                rw [show w21 12 8 = 17 from zref hA21.1 rfl rfl]
                refine qG.blk 1 (pc' := 122) (ls' := [(2, 12), (2, 19), (2, 21), (2, 21), (0, ((i : Nat) : Int))]) (st' := [(2, 12), (2, 17)]) (w' := w21) (n' := 142) rfl ?_
                refine qG.call (t := 92) (na := 1) (sk := 1) (md := 1) (ls1 := [(2, 12), (9, 0), (9, 0), (9, 0)]) (r1 := [(2, 17)]) rfl rfl rfl rfl rfl (AW.use (c := C_takeUnit.2) (as := [(2, 12)]) T_takeUnit hA21 (show 1 ≤ d by omega) ⟨⟨rfl, by decide, by decide⟩, trivial⟩ rfl rfl (by decide +kernel)) ?_
                rintro _ w23 _ ⟨x23, rfl, hl23, hu23, hA23, rfl, hB23⟩
                have hl23 : ((-2147483648) : Int) ≤ x23 := hl23
                have hu23 : x23 ≤ (2147483647 : Int) := hu23
                show qG none (d + 1) 91 125 [(2, 12), (2, 19), (2, 21), (2, 21), (0, ((i : Nat) : Int))] [(0, x23), (2, 17)] w23 142 Q9
                refine qG.call (t := 120) (na := 2) (sk := 1) (md := 1) (ls1 := [(2, 17), (0, x23)]) (r1 := []) rfl rfl rfl rfl rfl (AW.use (c := C_put17.2) (as := [(2, 17), (0, x23)]) T_put17 hA23 (show 1 ≤ d by omega) ⟨⟨rfl, by decide, by decide⟩, ⟨rfl, by omega, by omega⟩, trivial⟩ rfl rfl (by decide +kernel)) ?_
                rintro _ w24 _ ⟨x24, rfl, hl24, hu24, hA24, rfl, hB24⟩
                show qG none (d + 1) 91 128 [(2, 12), (2, 19), (2, 21), (2, 21), (0, ((i : Nat) : Int))] [] w24 142 Q9
                refine qG.blk 1 (pc' := 131) (ls' := [(2, 12), (2, 19), (2, 21), (2, 21), (0, wrp (((i : Nat) : Int) + 1))]) (st' := []) (w' := w24) (n' := 142) rfl ?_
                rw [show wrp (((i : Nat) : Int) + 1) = ((i + 1 : Nat) : Int) from wrp_id (by omega) (by omega)]
                refine qG.blk 1 (pc' := 16) (ls' := [(2, 12), (2, 19), (2, 21), (2, 21), (0, ((i + 1 : Nat) : Int))]) (st' := []) (w' := w24) (n' := 142) rfl ?_
                exact ih16 _ (by omega) (i + 1) (21) (w24) rfl (⟨by omega, by first | exact .inl rfl | exact .inr rfl | exact hto, hA24⟩)
            · skip
              refine qG.blk 2 (pc' := 121) (ls' := [(2, 12), (2, 19), (2, 21), (2, 21), (0, ((i : Nat) : Int))]) (st' := [(2, w19 12 8)]) (w' := w19) (n' := 142) rfl ?_
              rw [show w19 12 8 = 17 from zref hA19.1 rfl rfl]
              refine qG.blk 1 (pc' := 122) (ls' := [(2, 12), (2, 19), (2, 21), (2, 21), (0, ((i : Nat) : Int))]) (st' := [(2, 12), (2, 17)]) (w' := w19) (n' := 142) rfl ?_
              refine qG.call (t := 92) (na := 1) (sk := 1) (md := 1) (ls1 := [(2, 12), (9, 0), (9, 0), (9, 0)]) (r1 := [(2, 17)]) rfl rfl rfl rfl rfl (AW.use (c := C_takeUnit.2) (as := [(2, 12)]) T_takeUnit hA19 (show 1 ≤ d by omega) ⟨⟨rfl, by decide, by decide⟩, trivial⟩ rfl rfl (by decide +kernel)) ?_
              rintro _ w25 _ ⟨x25, rfl, hl25, hu25, hA25, rfl, hB25⟩
              have hl25 : ((-2147483648) : Int) ≤ x25 := hl25
              have hu25 : x25 ≤ (2147483647 : Int) := hu25
              show qG none (d + 1) 91 125 [(2, 12), (2, 19), (2, 21), (2, 21), (0, ((i : Nat) : Int))] [(0, x25), (2, 17)] w25 142 Q9
              refine qG.call (t := 120) (na := 2) (sk := 1) (md := 1) (ls1 := [(2, 17), (0, x25)]) (r1 := []) rfl rfl rfl rfl rfl (AW.use (c := C_put17.2) (as := [(2, 17), (0, x25)]) T_put17 hA25 (show 1 ≤ d by omega) ⟨⟨rfl, by decide, by decide⟩, ⟨rfl, by omega, by omega⟩, trivial⟩ rfl rfl (by decide +kernel)) ?_
              rintro _ w26 _ ⟨x26, rfl, hl26, hu26, hA26, rfl, hB26⟩
              show qG none (d + 1) 91 128 [(2, 12), (2, 19), (2, 21), (2, 21), (0, ((i : Nat) : Int))] [] w26 142 Q9
              refine qG.blk 1 (pc' := 131) (ls' := [(2, 12), (2, 19), (2, 21), (2, 21), (0, wrp (((i : Nat) : Int) + 1))]) (st' := []) (w' := w26) (n' := 142) rfl ?_
              rw [show wrp (((i : Nat) : Int) + 1) = ((i + 1 : Nat) : Int) from wrp_id (by omega) (by omega)]
              refine qG.blk 1 (pc' := 16) (ls' := [(2, 12), (2, 19), (2, 21), (2, 21), (0, ((i + 1 : Nat) : Int))]) (st' := []) (w' := w26) (n' := 142) rfl ?_
              exact ih16 _ (by omega) (i + 1) (21) (w26) rfl (⟨by omega, by first | exact .inl rfl | exact .inr rfl | exact hto, hA26⟩)
        · skip
          refine qG.blk 2 (pc' := 62) (ls' := [(2, 12), (2, 19), (2, 21), (2, to), (0, ((i : Nat) : Int))]) (st' := [(2, w6 12 8)]) (w' := w6) (n' := 142) rfl ?_
          rw [show w6 12 8 = 17 from zref hA6.1 rfl rfl]
          refine qG.blk 1 (pc' := 63) (ls' := [(2, 12), (2, 19), (2, 21), (2, to), (0, ((i : Nat) : Int))]) (st' := [(2, 12), (2, 17)]) (w' := w6) (n' := 142) rfl ?_
          refine qG.call (t := 92) (na := 1) (sk := 1) (md := 1) (ls1 := [(2, 12), (9, 0), (9, 0), (9, 0)]) (r1 := [(2, 17)]) rfl rfl rfl rfl rfl (AW.use (c := C_takeUnit.2) (as := [(2, 12)]) T_takeUnit hA6 (show 1 ≤ d by omega) ⟨⟨rfl, by decide, by decide⟩, trivial⟩ rfl rfl (by decide +kernel)) ?_
          rintro _ w27 _ ⟨x27, rfl, hl27, hu27, hA27, rfl, hB27⟩
          have hl27 : ((-2147483648) : Int) ≤ x27 := hl27
          have hu27 : x27 ≤ (2147483647 : Int) := hu27
          show qG none (d + 1) 91 66 [(2, 12), (2, 19), (2, 21), (2, to), (0, ((i : Nat) : Int))] [(0, x27), (2, 17)] w27 142 Q9
          refine qG.call (t := 123) (na := 2) (sk := 1) (md := 1) (ls1 := [(2, 17), (0, x27), (9, 0), (9, 0), (9, 0)]) (r1 := []) rfl rfl rfl rfl rfl (AW.use (c := C_divideBy.2) (as := [(2, 17), (0, x27)]) T_divideBy hA27 (show 2 ≤ d by omega) ⟨⟨rfl, by decide, by decide⟩, ⟨rfl, by omega, by omega⟩, trivial⟩ rfl rfl (by decide +kernel)) ?_
          rintro _ w28 _ ⟨x28, rfl, hl28, hu28, hA28, rfl, hB28⟩
          show qG none (d + 1) 91 69 [(2, 12), (2, 19), (2, 21), (2, to), (0, ((i : Nat) : Int))] [] w28 142 Q9
          refine qG.blk 2 (pc' := 131) (ls' := [(2, 12), (2, 19), (2, 21), (2, to), (0, wrp (((i : Nat) : Int) + 1))]) (st' := []) (w' := w28) (n' := 142) rfl ?_
          rw [show wrp (((i : Nat) : Int) + 1) = ((i + 1 : Nat) : Int) from wrp_id (by omega) (by omega)]
          refine qG.blk 1 (pc' := 16) (ls' := [(2, 12), (2, 19), (2, 21), (2, to), (0, ((i + 1 : Nat) : Int))]) (st' := []) (w' := w28) (n' := 142) rfl ?_
          exact ih16 _ (by omega) (i + 1) (to) (w28) rfl (⟨by omega, by first | exact .inl rfl | exact .inr rfl | exact hto, hA28⟩)
      · skip
        refine qG.blk 2 (pc' := 38) (ls' := [(2, 12), (2, 19), (2, 21), (2, to), (0, ((i : Nat) : Int))]) (st' := [(2, w4 12 8)]) (w' := w4) (n' := 142) rfl ?_
        rw [show w4 12 8 = 17 from zref hA4.1 rfl rfl]
        refine qG.blk 1 (pc' := 39) (ls' := [(2, 12), (2, 19), (2, 21), (2, to), (0, ((i : Nat) : Int))]) (st' := [(2, 12), (2, 17)]) (w' := w4) (n' := 142) rfl ?_
        refine qG.call (t := 92) (na := 1) (sk := 1) (md := 1) (ls1 := [(2, 12), (9, 0), (9, 0), (9, 0)]) (r1 := [(2, 17)]) rfl rfl rfl rfl rfl (AW.use (c := C_takeUnit.2) (as := [(2, 12)]) T_takeUnit hA4 (show 1 ≤ d by omega) ⟨⟨rfl, by decide, by decide⟩, trivial⟩ rfl rfl (by decide +kernel)) ?_
        rintro _ w29 _ ⟨x29, rfl, hl29, hu29, hA29, rfl, hB29⟩
        have hl29 : ((-2147483648) : Int) ≤ x29 := hl29
        have hu29 : x29 ≤ (2147483647 : Int) := hu29
        show qG none (d + 1) 91 42 [(2, 12), (2, 19), (2, 21), (2, to), (0, ((i : Nat) : Int))] [(0, x29), (2, 17)] w29 142 Q9
        refine qG.call (t := 122) (na := 2) (sk := 1) (md := 1) (ls1 := [(2, 17), (0, x29), (9, 0), (9, 0), (9, 0)]) (r1 := []) rfl rfl rfl rfl rfl (AW.use (c := C_multiplyBy.2) (as := [(2, 17), (0, x29)]) T_multiplyBy hA29 (show 2 ≤ d by omega) ⟨⟨rfl, by decide, by decide⟩, ⟨rfl, by omega, by omega⟩, trivial⟩ rfl rfl (by decide +kernel)) ?_
        rintro _ w30 _ ⟨x30, rfl, hl30, hu30, hA30, rfl, hB30⟩
        show qG none (d + 1) 91 45 [(2, 12), (2, 19), (2, 21), (2, to), (0, ((i : Nat) : Int))] [] w30 142 Q9
        refine qG.blk 2 (pc' := 131) (ls' := [(2, 12), (2, 19), (2, 21), (2, to), (0, wrp (((i : Nat) : Int) + 1))]) (st' := []) (w' := w30) (n' := 142) rfl ?_
        rw [show wrp (((i : Nat) : Int) + 1) = ((i + 1 : Nat) : Int) from wrp_id (by omega) (by omega)]
        refine qG.blk 1 (pc' := 16) (ls' := [(2, 12), (2, 19), (2, 21), (2, to), (0, ((i + 1 : Nat) : Int))]) (st' := []) (w' := w30) (n' := 142) rfl ?_
        exact ih16 _ (by omega) (i + 1) (to) (w30) rfl (⟨by omega, by first | exact .inl rfl | exact .inr rfl | exact hto, hA30⟩)
    · skip
      refine qG.retv rfl rfl ?_
      subst hQ9
      exact ⟨rfl, rfl, hI16.2.2⟩
  exact L16 _ (0) (19) (w2) rfl (⟨by omega, by decide, hA2⟩)
noncomputable def C_addUp19 : Nat × yC := (91, (6, [(2, 12, 12), (2, 19, 19), (2, 21, 21)], (9, 0, 0), M9, [], [], [], 0, []))
theorem T_addUp19 {w0 : qW} : yCOK w0 zgf zga zra zSp zgh C_addUp19.1 C_addUp19.2 := by
  intro d as w hd hm hI hn hp
  have e : as = [(2, 12), (2, 19), (2, 21)] := args3r hm
  subst e
  refine qG.mono (K_addUp19 hd w hI) ?_
  rintro _ w' _ ⟨rfl, rfl, hA⟩
  exact ⟨⟨rfl, Int.le_refl 0, Int.le_refl 0⟩, hA.1, rfl, hA.2, fun e he => (by cases he), fun z => (by cases z)⟩
theorem K_addUp21 {d : Nat} (hd : 6 ≤ d) (w : qW) (hI : yInv zgf zga zra zSp w) : qG none d 91 0 [(2, 12), (2, 21), (2, 19), (9, 0), (9, 0)] [] w 142 (fun (v : qV) (w1 : qW) (n1 : Nat) => v = (9, 0) ∧ n1 = 142 ∧ AW M9 w w1) := by
  generalize hQ9 : (fun (v : qV) (w1 : qW) (n1 : Nat) => v = (9, 0) ∧ n1 = 142 ∧ AW M9 w w1) = Q9
  have hA0 : AW M9 w w := AW.rf hI
  obtain ⟨N6, hN6⟩ : ∃ N : Int, N = 601 := ⟨_, rfl⟩
  obtain ⟨d, rfl⟩ : ∃ d9, d = d9 + 1 := ⟨d - 1, by omega⟩
  refine qG.blk 4 (pc' := 6) (ls' := [(2, 12), (2, 21), (2, 19), (2, 21), (9, 0)]) (st' := [(2, w 12 8)]) (w' := w) (n' := 142) rfl ?_
  rw [show w 12 8 = 17 from zref hI rfl rfl]
  refine qG.blk 1 (pc' := 7) (ls' := [(2, 12), (2, 21), (2, 19), (2, 21), (9, 0)]) (st' := [(2, 12), (2, 17)]) (w' := w) (n' := 142) rfl ?_
  refine qG.call (t := 92) (na := 1) (sk := 1) (md := 1) (ls1 := [(2, 12), (9, 0), (9, 0), (9, 0)]) (r1 := [(2, 17)]) rfl rfl rfl rfl rfl (AW.use (c := C_takeUnit.2) (as := [(2, 12)]) T_takeUnit hA0 (show 1 ≤ d by omega) ⟨⟨rfl, by decide, by decide⟩, trivial⟩ rfl rfl (by decide +kernel)) ?_
  rintro _ w1 _ ⟨x1, rfl, hl1, hu1, hA1, rfl, hB1⟩
  have hl1 : ((-2147483648) : Int) ≤ x1 := hl1
  have hu1 : x1 ≤ (2147483647 : Int) := hu1
  show qG none (d + 1) 91 10 [(2, 12), (2, 21), (2, 19), (2, 21), (9, 0)] [(0, x1), (2, 17)] w1 142 Q9
  refine qG.call (t := 120) (na := 2) (sk := 1) (md := 1) (ls1 := [(2, 17), (0, x1)]) (r1 := []) rfl rfl rfl rfl rfl (AW.use (c := C_put17.2) (as := [(2, 17), (0, x1)]) T_put17 hA1 (show 1 ≤ d by omega) ⟨⟨rfl, by decide, by decide⟩, ⟨rfl, by omega, by omega⟩, trivial⟩ rfl rfl (by decide +kernel)) ?_
  rintro _ w2 _ ⟨x2, rfl, hl2, hu2, hA2, rfl, hB2⟩
  show qG none (d + 1) 91 13 [(2, 12), (2, 21), (2, 19), (2, 21), (9, 0)] [] w2 142 Q9
  refine qG.blk 2 (pc' := 16) (ls' := [(2, 12), (2, 21), (2, 19), (2, 21), (0, 0)]) (st' := []) (w' := w2) (n' := 142) rfl ?_
  have L16 : ∀ (m9 : Nat) (i : Nat) (to : Int) (wL : qW), 601 - i = m9 → (i ≤ 601 ∧ (to = 19 ∨ to = 21) ∧ AW M9 w wL) → qG none (d + 1) 91 16 [(2, 12), (2, 21), (2, 19), (2, to), (0, ((i : Nat) : Int))] [] wL 142 Q9 := by
    intro m9
    induction m9 using Nat.strongRecOn with
    | ind m9 ih16 =>
    intro i to wL hm16 hI16
    have hto := hI16.2.1
    refine qG.blk 2 (pc' := 21) (ls' := [(2, 12), (2, 21), (2, 19), (2, to), (0, ((i : Nat) : Int))]) (st' := [(0, 601), (0, ((i : Nat) : Int))]) (w' := wL) (n' := 142) rfl ?_
    rw [show (601 : Int) = N6 from hN6.symm]
    refine qG.br (P := ((i : Nat) : Int) < N6) (pc1 := 24) (pc2 := 134) (st1 := []) rfl (fun h3 => ?_) (fun h3 => ?_)
    · skip
      refine qG.blk 2 (pc' := 28) (ls' := [(2, 12), (2, 21), (2, 19), (2, to), (0, ((i : Nat) : Int))]) (st' := [(0, 20042), (2, 12)]) (w' := wL) (n' := 142) rfl ?_
      refine qG.call (t := 87) (na := 2) (sk := 1) (md := 1) (ls1 := [(2, 12), (0, 20042)]) (r1 := []) rfl rfl rfl rfl rfl (AW.use (c := C_takesP.2) (as := [(2, 12), (0, 20042)]) T_takesP hI16.2.2 (show 1 ≤ d by omega) ⟨⟨rfl, by decide, by decide⟩, ⟨rfl, by decide, by decide⟩, trivial⟩ rfl rfl (by decide +kernel)) ?_
      rintro _ w4 _ ⟨x4, rfl, hl4, hu4, hA4, rfl, hB4⟩
      have hl4 : (0 : Int) ≤ x4 := hl4
      have hu4 : x4 ≤ (1 : Int) := hu4
      show qG none (d + 1) 91 31 [(2, 12), (2, 21), (2, 19), (2, to), (0, ((i : Nat) : Int))] [(0, x4)] w4 142 Q9
      refine qG.br (P := x4 = 0) (pc1 := 48) (pc2 := 34) (st1 := []) rfl (fun h5 => ?_) (fun h5 => ?_)
      · skip
        refine qG.blk 2 (pc' := 52) (ls' := [(2, 12), (2, 21), (2, 19), (2, to), (0, ((i : Nat) : Int))]) (st' := [(0, 20047), (2, 12)]) (w' := w4) (n' := 142) rfl ?_
        refine qG.call (t := 87) (na := 2) (sk := 1) (md := 1) (ls1 := [(2, 12), (0, 20047)]) (r1 := []) rfl rfl rfl rfl rfl (AW.use (c := C_takesP.2) (as := [(2, 12), (0, 20047)]) T_takesP hA4 (show 1 ≤ d by omega) ⟨⟨rfl, by decide, by decide⟩, ⟨rfl, by decide, by decide⟩, trivial⟩ rfl rfl (by decide +kernel)) ?_
        rintro _ w6 _ ⟨x6, rfl, hl6, hu6, hA6, rfl, hB6⟩
        have hl6 : (0 : Int) ≤ x6 := hl6
        have hu6 : x6 ≤ (1 : Int) := hu6
        show qG none (d + 1) 91 55 [(2, 12), (2, 21), (2, 19), (2, to), (0, ((i : Nat) : Int))] [(0, x6)] w6 142 Q9
        refine qG.br (P := x6 = 0) (pc1 := 72) (pc2 := 58) (st1 := []) rfl (fun h7 => ?_) (fun h7 => ?_)
        · skip
          refine qG.blk 3 (pc' := 77) (ls' := [(2, 12), (2, 21), (2, 19), (2, to), (0, ((i : Nat) : Int))]) (st' := [(2, w6 12 8), (2, to)]) (w' := w6) (n' := 142) rfl ?_
          rw [show w6 12 8 = 17 from zref hA6.1 rfl rfl]
          refine qG.call (t := 125) (na := 2) (sk := 1) (md := 1) (ls1 := [(2, to), (2, 17), (9, 0), (9, 0), (9, 0), (9, 0)]) (r1 := []) rfl rfl (by rcases hto with rfl | rfl <;> rfl) rfl rfl (addTo (by omega) hto hA6) ?_
          rintro ⟨q8, x8⟩ w8 _ ⟨rfl, hA8, rfl⟩
          show qG none (d + 1) 91 80 [(2, 12), (2, 21), (2, 19), (2, to), (0, ((i : Nat) : Int))] [] w8 142 Q9
          refine qG.blk 1 (pc' := 81) (ls' := [(2, 12), (2, 21), (2, 19), (2, to), (0, ((i : Nat) : Int))]) (st' := [(2, 12)]) (w' := w8) (n' := 142) rfl ?_
          refine qG.call (t := 86) (na := 1) (sk := 1) (md := 1) (ls1 := [(2, 12)]) (r1 := []) rfl rfl rfl rfl rfl (AW.use (c := C_codeP.2) (as := [(2, 12)]) T_codeP hA8 (show 0 ≤ d by omega) ⟨⟨rfl, by decide, by decide⟩, trivial⟩ rfl rfl (by decide +kernel)) ?_
          rintro _ w9 _ ⟨x9, rfl, hl9, hu9, hA9, rfl, hB9⟩
          have hl9 : ((-2147483648) : Int) ≤ x9 := hl9
          have hu9 : x9 ≤ (2147483647 : Int) := hu9
          show qG none (d + 1) 91 84 [(2, 12), (2, 21), (2, 19), (2, to), (0, ((i : Nat) : Int))] [(0, x9)] w9 142 Q9
          refine qG.blk 1 (pc' := 87) (ls' := [(2, 12), (2, 21), (2, 19), (2, to), (0, ((i : Nat) : Int))]) (st' := [(0, 20043), (0, x9)]) (w' := w9) (n' := 142) rfl ?_
          refine qG.br (P := x9 = 20043) (pc1 := 90) (pc2 := 94) (st1 := []) rfl (fun h10 => ?_) (fun h10 => ?_)
          · skip
            refine qG.blk 5 (pc' := 100) (ls' := [(2, 12), (2, 21), (2, 19), (2, 21), (0, ((i : Nat) : Int))]) (st' := [(0, 20043), (2, 12)]) (w' := w9) (n' := 142) rfl ?_
            refine qG.call (t := 87) (na := 2) (sk := 1) (md := 1) (ls1 := [(2, 12), (0, 20043)]) (r1 := []) rfl rfl rfl rfl rfl (AW.use (c := C_takesP.2) (as := [(2, 12), (0, 20043)]) T_takesP hA9 (show 1 ≤ d by omega) ⟨⟨rfl, by decide, by decide⟩, ⟨rfl, by decide, by decide⟩, trivial⟩ rfl rfl (by decide +kernel)) ?_
            rintro _ w11 _ ⟨x11, rfl, hl11, hu11, hA11, rfl, hB11⟩
            have hl11 : (0 : Int) ≤ x11 := hl11
            have hu11 : x11 ≤ (1 : Int) := hu11
            show qG none (d + 1) 91 103 [(2, 12), (2, 21), (2, 19), (2, 21), (0, ((i : Nat) : Int))] [(0, x11)] w11 142 Q9
            refine qG.br (P := x11 = 0) (pc1 := 106) (pc2 := 117) (st1 := []) rfl (fun h12 => ?_) (fun h12 => ?_)
            · skip
              refine qG.blk 2 (pc' := 110) (ls' := [(2, 12), (2, 21), (2, 19), (2, 21), (0, ((i : Nat) : Int))]) (st' := [(0, 20045), (2, 12)]) (w' := w11) (n' := 142) rfl ?_
              refine qG.call (t := 87) (na := 2) (sk := 1) (md := 1) (ls1 := [(2, 12), (0, 20045)]) (r1 := []) rfl rfl rfl rfl rfl (AW.use (c := C_takesP.2) (as := [(2, 12), (0, 20045)]) T_takesP hA11 (show 1 ≤ d by omega) ⟨⟨rfl, by decide, by decide⟩, ⟨rfl, by decide, by decide⟩, trivial⟩ rfl rfl (by decide +kernel)) ?_
              rintro _ w13 _ ⟨x13, rfl, hl13, hu13, hA13, rfl, hB13⟩
              have hl13 : (0 : Int) ≤ x13 := hl13
              have hu13 : x13 ≤ (1 : Int) := hu13
              show qG none (d + 1) 91 113 [(2, 12), (2, 21), (2, 19), (2, 21), (0, ((i : Nat) : Int))] [(0, x13)] w13 142 Q9
              refine qG.br (P := x13 = 0) (pc1 := 116) (pc2 := 117) (st1 := []) rfl (fun h14 => ?_) (fun h14 => ?_)
              · skip
                refine qG.retv rfl rfl ?_
                subst hQ9
                exact ⟨rfl, rfl, hA13⟩
              · skip
                refine qG.blk 2 (pc' := 121) (ls' := [(2, 12), (2, 21), (2, 19), (2, 21), (0, ((i : Nat) : Int))]) (st' := [(2, w13 12 8)]) (w' := w13) (n' := 142) rfl ?_
                rw [show w13 12 8 = 17 from zref hA13.1 rfl rfl]
                refine qG.blk 1 (pc' := 122) (ls' := [(2, 12), (2, 21), (2, 19), (2, 21), (0, ((i : Nat) : Int))]) (st' := [(2, 12), (2, 17)]) (w' := w13) (n' := 142) rfl ?_
                refine qG.call (t := 92) (na := 1) (sk := 1) (md := 1) (ls1 := [(2, 12), (9, 0), (9, 0), (9, 0)]) (r1 := [(2, 17)]) rfl rfl rfl rfl rfl (AW.use (c := C_takeUnit.2) (as := [(2, 12)]) T_takeUnit hA13 (show 1 ≤ d by omega) ⟨⟨rfl, by decide, by decide⟩, trivial⟩ rfl rfl (by decide +kernel)) ?_
                rintro _ w15 _ ⟨x15, rfl, hl15, hu15, hA15, rfl, hB15⟩
                have hl15 : ((-2147483648) : Int) ≤ x15 := hl15
                have hu15 : x15 ≤ (2147483647 : Int) := hu15
                show qG none (d + 1) 91 125 [(2, 12), (2, 21), (2, 19), (2, 21), (0, ((i : Nat) : Int))] [(0, x15), (2, 17)] w15 142 Q9
                refine qG.call (t := 120) (na := 2) (sk := 1) (md := 1) (ls1 := [(2, 17), (0, x15)]) (r1 := []) rfl rfl rfl rfl rfl (AW.use (c := C_put17.2) (as := [(2, 17), (0, x15)]) T_put17 hA15 (show 1 ≤ d by omega) ⟨⟨rfl, by decide, by decide⟩, ⟨rfl, by omega, by omega⟩, trivial⟩ rfl rfl (by decide +kernel)) ?_
                rintro _ w16 _ ⟨x16, rfl, hl16, hu16, hA16, rfl, hB16⟩
                show qG none (d + 1) 91 128 [(2, 12), (2, 21), (2, 19), (2, 21), (0, ((i : Nat) : Int))] [] w16 142 Q9
                refine qG.blk 1 (pc' := 131) (ls' := [(2, 12), (2, 21), (2, 19), (2, 21), (0, wrp (((i : Nat) : Int) + 1))]) (st' := []) (w' := w16) (n' := 142) rfl ?_
                rw [show wrp (((i : Nat) : Int) + 1) = ((i + 1 : Nat) : Int) from wrp_id (by omega) (by omega)]
                refine qG.blk 1 (pc' := 16) (ls' := [(2, 12), (2, 21), (2, 19), (2, 21), (0, ((i + 1 : Nat) : Int))]) (st' := []) (w' := w16) (n' := 142) rfl ?_
                exact ih16 _ (by omega) (i + 1) (21) (w16) rfl (⟨by omega, by first | exact .inl rfl | exact .inr rfl | exact hto, hA16⟩)
            · skip
              refine qG.blk 2 (pc' := 121) (ls' := [(2, 12), (2, 21), (2, 19), (2, 21), (0, ((i : Nat) : Int))]) (st' := [(2, w11 12 8)]) (w' := w11) (n' := 142) rfl ?_
              rw [show w11 12 8 = 17 from zref hA11.1 rfl rfl]
              refine qG.blk 1 (pc' := 122) (ls' := [(2, 12), (2, 21), (2, 19), (2, 21), (0, ((i : Nat) : Int))]) (st' := [(2, 12), (2, 17)]) (w' := w11) (n' := 142) rfl ?_
              refine qG.call (t := 92) (na := 1) (sk := 1) (md := 1) (ls1 := [(2, 12), (9, 0), (9, 0), (9, 0)]) (r1 := [(2, 17)]) rfl rfl rfl rfl rfl (AW.use (c := C_takeUnit.2) (as := [(2, 12)]) T_takeUnit hA11 (show 1 ≤ d by omega) ⟨⟨rfl, by decide, by decide⟩, trivial⟩ rfl rfl (by decide +kernel)) ?_
              rintro _ w17 _ ⟨x17, rfl, hl17, hu17, hA17, rfl, hB17⟩
              have hl17 : ((-2147483648) : Int) ≤ x17 := hl17
              have hu17 : x17 ≤ (2147483647 : Int) := hu17
              show qG none (d + 1) 91 125 [(2, 12), (2, 21), (2, 19), (2, 21), (0, ((i : Nat) : Int))] [(0, x17), (2, 17)] w17 142 Q9
              refine qG.call (t := 120) (na := 2) (sk := 1) (md := 1) (ls1 := [(2, 17), (0, x17)]) (r1 := []) rfl rfl rfl rfl rfl (AW.use (c := C_put17.2) (as := [(2, 17), (0, x17)]) T_put17 hA17 (show 1 ≤ d by omega) ⟨⟨rfl, by decide, by decide⟩, ⟨rfl, by omega, by omega⟩, trivial⟩ rfl rfl (by decide +kernel)) ?_
              rintro _ w18 _ ⟨x18, rfl, hl18, hu18, hA18, rfl, hB18⟩
              show qG none (d + 1) 91 128 [(2, 12), (2, 21), (2, 19), (2, 21), (0, ((i : Nat) : Int))] [] w18 142 Q9
              refine qG.blk 1 (pc' := 131) (ls' := [(2, 12), (2, 21), (2, 19), (2, 21), (0, wrp (((i : Nat) : Int) + 1))]) (st' := []) (w' := w18) (n' := 142) rfl ?_
              rw [show wrp (((i : Nat) : Int) + 1) = ((i + 1 : Nat) : Int) from wrp_id (by omega) (by omega)]
              refine qG.blk 1 (pc' := 16) (ls' := [(2, 12), (2, 21), (2, 19), (2, 21), (0, ((i + 1 : Nat) : Int))]) (st' := []) (w' := w18) (n' := 142) rfl ?_
              exact ih16 _ (by omega) (i + 1) (21) (w18) rfl (⟨by omega, by first | exact .inl rfl | exact .inr rfl | exact hto, hA18⟩)
          · skip
            refine qG.blk 4 (pc' := 100) (ls' := [(2, 12), (2, 21), (2, 19), (2, 19), (0, ((i : Nat) : Int))]) (st' := [(0, 20043), (2, 12)]) (w' := w9) (n' := 142) rfl ?_
            refine qG.call (t := 87) (na := 2) (sk := 1) (md := 1) (ls1 := [(2, 12), (0, 20043)]) (r1 := []) rfl rfl rfl rfl rfl (AW.use (c := C_takesP.2) (as := [(2, 12), (0, 20043)]) T_takesP hA9 (show 1 ≤ d by omega) ⟨⟨rfl, by decide, by decide⟩, ⟨rfl, by decide, by decide⟩, trivial⟩ rfl rfl (by decide +kernel)) ?_
            rintro _ w19 _ ⟨x19, rfl, hl19, hu19, hA19, rfl, hB19⟩
            have hl19 : (0 : Int) ≤ x19 := hl19
            have hu19 : x19 ≤ (1 : Int) := hu19
            show qG none (d + 1) 91 103 [(2, 12), (2, 21), (2, 19), (2, 19), (0, ((i : Nat) : Int))] [(0, x19)] w19 142 Q9
            refine qG.br (P := x19 = 0) (pc1 := 106) (pc2 := 117) (st1 := []) rfl (fun h20 => ?_) (fun h20 => ?_)
            · skip
              refine qG.blk 2 (pc' := 110) (ls' := [(2, 12), (2, 21), (2, 19), (2, 19), (0, ((i : Nat) : Int))]) (st' := [(0, 20045), (2, 12)]) (w' := w19) (n' := 142) rfl ?_
              refine qG.call (t := 87) (na := 2) (sk := 1) (md := 1) (ls1 := [(2, 12), (0, 20045)]) (r1 := []) rfl rfl rfl rfl rfl (AW.use (c := C_takesP.2) (as := [(2, 12), (0, 20045)]) T_takesP hA19 (show 1 ≤ d by omega) ⟨⟨rfl, by decide, by decide⟩, ⟨rfl, by decide, by decide⟩, trivial⟩ rfl rfl (by decide +kernel)) ?_
              rintro _ w21 _ ⟨x21, rfl, hl21, hu21, hA21, rfl, hB21⟩
              have hl21 : (0 : Int) ≤ x21 := hl21
              have hu21 : x21 ≤ (1 : Int) := hu21
              show qG none (d + 1) 91 113 [(2, 12), (2, 21), (2, 19), (2, 19), (0, ((i : Nat) : Int))] [(0, x21)] w21 142 Q9
              refine qG.br (P := x21 = 0) (pc1 := 116) (pc2 := 117) (st1 := []) rfl (fun h22 => ?_) (fun h22 => ?_)
              · skip
                refine qG.retv rfl rfl ?_
                subst hQ9
                exact ⟨rfl, rfl, hA21⟩
              · skip
                refine qG.blk 2 (pc' := 121) (ls' := [(2, 12), (2, 21), (2, 19), (2, 19), (0, ((i : Nat) : Int))]) (st' := [(2, w21 12 8)]) (w' := w21) (n' := 142) rfl ?_
                rw [show w21 12 8 = 17 from zref hA21.1 rfl rfl]
                refine qG.blk 1 (pc' := 122) (ls' := [(2, 12), (2, 21), (2, 19), (2, 19), (0, ((i : Nat) : Int))]) (st' := [(2, 12), (2, 17)]) (w' := w21) (n' := 142) rfl ?_
                refine qG.call (t := 92) (na := 1) (sk := 1) (md := 1) (ls1 := [(2, 12), (9, 0), (9, 0), (9, 0)]) (r1 := [(2, 17)]) rfl rfl rfl rfl rfl (AW.use (c := C_takeUnit.2) (as := [(2, 12)]) T_takeUnit hA21 (show 1 ≤ d by omega) ⟨⟨rfl, by decide, by decide⟩, trivial⟩ rfl rfl (by decide +kernel)) ?_
                rintro _ w23 _ ⟨x23, rfl, hl23, hu23, hA23, rfl, hB23⟩
                have hl23 : ((-2147483648) : Int) ≤ x23 := hl23
                have hu23 : x23 ≤ (2147483647 : Int) := hu23
                show qG none (d + 1) 91 125 [(2, 12), (2, 21), (2, 19), (2, 19), (0, ((i : Nat) : Int))] [(0, x23), (2, 17)] w23 142 Q9
                refine qG.call (t := 120) (na := 2) (sk := 1) (md := 1) (ls1 := [(2, 17), (0, x23)]) (r1 := []) rfl rfl rfl rfl rfl (AW.use (c := C_put17.2) (as := [(2, 17), (0, x23)]) T_put17 hA23 (show 1 ≤ d by omega) ⟨⟨rfl, by decide, by decide⟩, ⟨rfl, by omega, by omega⟩, trivial⟩ rfl rfl (by decide +kernel)) ?_
                rintro _ w24 _ ⟨x24, rfl, hl24, hu24, hA24, rfl, hB24⟩
                show qG none (d + 1) 91 128 [(2, 12), (2, 21), (2, 19), (2, 19), (0, ((i : Nat) : Int))] [] w24 142 Q9
                refine qG.blk 1 (pc' := 131) (ls' := [(2, 12), (2, 21), (2, 19), (2, 19), (0, wrp (((i : Nat) : Int) + 1))]) (st' := []) (w' := w24) (n' := 142) rfl ?_
                rw [show wrp (((i : Nat) : Int) + 1) = ((i + 1 : Nat) : Int) from wrp_id (by omega) (by omega)]
                refine qG.blk 1 (pc' := 16) (ls' := [(2, 12), (2, 21), (2, 19), (2, 19), (0, ((i + 1 : Nat) : Int))]) (st' := []) (w' := w24) (n' := 142) rfl ?_
                exact ih16 _ (by omega) (i + 1) (19) (w24) rfl (⟨by omega, by first | exact .inl rfl | exact .inr rfl | exact hto, hA24⟩)
            · skip
              refine qG.blk 2 (pc' := 121) (ls' := [(2, 12), (2, 21), (2, 19), (2, 19), (0, ((i : Nat) : Int))]) (st' := [(2, w19 12 8)]) (w' := w19) (n' := 142) rfl ?_
              rw [show w19 12 8 = 17 from zref hA19.1 rfl rfl]
              refine qG.blk 1 (pc' := 122) (ls' := [(2, 12), (2, 21), (2, 19), (2, 19), (0, ((i : Nat) : Int))]) (st' := [(2, 12), (2, 17)]) (w' := w19) (n' := 142) rfl ?_
              refine qG.call (t := 92) (na := 1) (sk := 1) (md := 1) (ls1 := [(2, 12), (9, 0), (9, 0), (9, 0)]) (r1 := [(2, 17)]) rfl rfl rfl rfl rfl (AW.use (c := C_takeUnit.2) (as := [(2, 12)]) T_takeUnit hA19 (show 1 ≤ d by omega) ⟨⟨rfl, by decide, by decide⟩, trivial⟩ rfl rfl (by decide +kernel)) ?_
              rintro _ w25 _ ⟨x25, rfl, hl25, hu25, hA25, rfl, hB25⟩
              have hl25 : ((-2147483648) : Int) ≤ x25 := hl25
              have hu25 : x25 ≤ (2147483647 : Int) := hu25
              show qG none (d + 1) 91 125 [(2, 12), (2, 21), (2, 19), (2, 19), (0, ((i : Nat) : Int))] [(0, x25), (2, 17)] w25 142 Q9
              refine qG.call (t := 120) (na := 2) (sk := 1) (md := 1) (ls1 := [(2, 17), (0, x25)]) (r1 := []) rfl rfl rfl rfl rfl (AW.use (c := C_put17.2) (as := [(2, 17), (0, x25)]) T_put17 hA25 (show 1 ≤ d by omega) ⟨⟨rfl, by decide, by decide⟩, ⟨rfl, by omega, by omega⟩, trivial⟩ rfl rfl (by decide +kernel)) ?_
              rintro _ w26 _ ⟨x26, rfl, hl26, hu26, hA26, rfl, hB26⟩
              show qG none (d + 1) 91 128 [(2, 12), (2, 21), (2, 19), (2, 19), (0, ((i : Nat) : Int))] [] w26 142 Q9
              refine qG.blk 1 (pc' := 131) (ls' := [(2, 12), (2, 21), (2, 19), (2, 19), (0, wrp (((i : Nat) : Int) + 1))]) (st' := []) (w' := w26) (n' := 142) rfl ?_
              rw [show wrp (((i : Nat) : Int) + 1) = ((i + 1 : Nat) : Int) from wrp_id (by omega) (by omega)]
              refine qG.blk 1 (pc' := 16) (ls' := [(2, 12), (2, 21), (2, 19), (2, 19), (0, ((i + 1 : Nat) : Int))]) (st' := []) (w' := w26) (n' := 142) rfl ?_
              exact ih16 _ (by omega) (i + 1) (19) (w26) rfl (⟨by omega, by first | exact .inl rfl | exact .inr rfl | exact hto, hA26⟩)
        · skip
          refine qG.blk 2 (pc' := 62) (ls' := [(2, 12), (2, 21), (2, 19), (2, to), (0, ((i : Nat) : Int))]) (st' := [(2, w6 12 8)]) (w' := w6) (n' := 142) rfl ?_
          rw [show w6 12 8 = 17 from zref hA6.1 rfl rfl]
          refine qG.blk 1 (pc' := 63) (ls' := [(2, 12), (2, 21), (2, 19), (2, to), (0, ((i : Nat) : Int))]) (st' := [(2, 12), (2, 17)]) (w' := w6) (n' := 142) rfl ?_
          refine qG.call (t := 92) (na := 1) (sk := 1) (md := 1) (ls1 := [(2, 12), (9, 0), (9, 0), (9, 0)]) (r1 := [(2, 17)]) rfl rfl rfl rfl rfl (AW.use (c := C_takeUnit.2) (as := [(2, 12)]) T_takeUnit hA6 (show 1 ≤ d by omega) ⟨⟨rfl, by decide, by decide⟩, trivial⟩ rfl rfl (by decide +kernel)) ?_
          rintro _ w27 _ ⟨x27, rfl, hl27, hu27, hA27, rfl, hB27⟩
          have hl27 : ((-2147483648) : Int) ≤ x27 := hl27
          have hu27 : x27 ≤ (2147483647 : Int) := hu27
          show qG none (d + 1) 91 66 [(2, 12), (2, 21), (2, 19), (2, to), (0, ((i : Nat) : Int))] [(0, x27), (2, 17)] w27 142 Q9
          refine qG.call (t := 123) (na := 2) (sk := 1) (md := 1) (ls1 := [(2, 17), (0, x27), (9, 0), (9, 0), (9, 0)]) (r1 := []) rfl rfl rfl rfl rfl (AW.use (c := C_divideBy.2) (as := [(2, 17), (0, x27)]) T_divideBy hA27 (show 2 ≤ d by omega) ⟨⟨rfl, by decide, by decide⟩, ⟨rfl, by omega, by omega⟩, trivial⟩ rfl rfl (by decide +kernel)) ?_
          rintro _ w28 _ ⟨x28, rfl, hl28, hu28, hA28, rfl, hB28⟩
          show qG none (d + 1) 91 69 [(2, 12), (2, 21), (2, 19), (2, to), (0, ((i : Nat) : Int))] [] w28 142 Q9
          refine qG.blk 2 (pc' := 131) (ls' := [(2, 12), (2, 21), (2, 19), (2, to), (0, wrp (((i : Nat) : Int) + 1))]) (st' := []) (w' := w28) (n' := 142) rfl ?_
          rw [show wrp (((i : Nat) : Int) + 1) = ((i + 1 : Nat) : Int) from wrp_id (by omega) (by omega)]
          refine qG.blk 1 (pc' := 16) (ls' := [(2, 12), (2, 21), (2, 19), (2, to), (0, ((i + 1 : Nat) : Int))]) (st' := []) (w' := w28) (n' := 142) rfl ?_
          exact ih16 _ (by omega) (i + 1) (to) (w28) rfl (⟨by omega, by first | exact .inl rfl | exact .inr rfl | exact hto, hA28⟩)
      · skip
        refine qG.blk 2 (pc' := 38) (ls' := [(2, 12), (2, 21), (2, 19), (2, to), (0, ((i : Nat) : Int))]) (st' := [(2, w4 12 8)]) (w' := w4) (n' := 142) rfl ?_
        rw [show w4 12 8 = 17 from zref hA4.1 rfl rfl]
        refine qG.blk 1 (pc' := 39) (ls' := [(2, 12), (2, 21), (2, 19), (2, to), (0, ((i : Nat) : Int))]) (st' := [(2, 12), (2, 17)]) (w' := w4) (n' := 142) rfl ?_
        refine qG.call (t := 92) (na := 1) (sk := 1) (md := 1) (ls1 := [(2, 12), (9, 0), (9, 0), (9, 0)]) (r1 := [(2, 17)]) rfl rfl rfl rfl rfl (AW.use (c := C_takeUnit.2) (as := [(2, 12)]) T_takeUnit hA4 (show 1 ≤ d by omega) ⟨⟨rfl, by decide, by decide⟩, trivial⟩ rfl rfl (by decide +kernel)) ?_
        rintro _ w29 _ ⟨x29, rfl, hl29, hu29, hA29, rfl, hB29⟩
        have hl29 : ((-2147483648) : Int) ≤ x29 := hl29
        have hu29 : x29 ≤ (2147483647 : Int) := hu29
        show qG none (d + 1) 91 42 [(2, 12), (2, 21), (2, 19), (2, to), (0, ((i : Nat) : Int))] [(0, x29), (2, 17)] w29 142 Q9
        refine qG.call (t := 122) (na := 2) (sk := 1) (md := 1) (ls1 := [(2, 17), (0, x29), (9, 0), (9, 0), (9, 0)]) (r1 := []) rfl rfl rfl rfl rfl (AW.use (c := C_multiplyBy.2) (as := [(2, 17), (0, x29)]) T_multiplyBy hA29 (show 2 ≤ d by omega) ⟨⟨rfl, by decide, by decide⟩, ⟨rfl, by omega, by omega⟩, trivial⟩ rfl rfl (by decide +kernel)) ?_
        rintro _ w30 _ ⟨x30, rfl, hl30, hu30, hA30, rfl, hB30⟩
        show qG none (d + 1) 91 45 [(2, 12), (2, 21), (2, 19), (2, to), (0, ((i : Nat) : Int))] [] w30 142 Q9
        refine qG.blk 2 (pc' := 131) (ls' := [(2, 12), (2, 21), (2, 19), (2, to), (0, wrp (((i : Nat) : Int) + 1))]) (st' := []) (w' := w30) (n' := 142) rfl ?_
        rw [show wrp (((i : Nat) : Int) + 1) = ((i + 1 : Nat) : Int) from wrp_id (by omega) (by omega)]
        refine qG.blk 1 (pc' := 16) (ls' := [(2, 12), (2, 21), (2, 19), (2, to), (0, ((i + 1 : Nat) : Int))]) (st' := []) (w' := w30) (n' := 142) rfl ?_
        exact ih16 _ (by omega) (i + 1) (to) (w30) rfl (⟨by omega, by first | exact .inl rfl | exact .inr rfl | exact hto, hA30⟩)
    · skip
      refine qG.retv rfl rfl ?_
      subst hQ9
      exact ⟨rfl, rfl, hI16.2.2⟩
  exact L16 _ (0) (21) (w2) rfl (⟨by omega, by decide, hA2⟩)
noncomputable def C_addUp21 : Nat × yC := (91, (6, [(2, 12, 12), (2, 21, 21), (2, 19, 19)], (9, 0, 0), M9, [], [], [], 0, []))
theorem T_addUp21 {w0 : qW} : yCOK w0 zgf zga zra zSp zgh C_addUp21.1 C_addUp21.2 := by
  intro d as w hd hm hI hn hp
  have e : as = [(2, 12), (2, 21), (2, 19)] := args3r hm
  subst e
  refine qG.mono (K_addUp21 hd w hI) ?_
  rintro _ w' _ ⟨rfl, rfl, hA⟩
  exact ⟨⟨rfl, Int.le_refl 0, Int.le_refl 0⟩, hA.1, rfl, hA.2, fun e he => (by cases he), fun z => (by cases z)⟩
