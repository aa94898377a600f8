/-! the reference's steps and reasons, by the grammar -/
noncomputable def kdX (C : Nat → Int) (k : Int) (i : Nat) : Int × Nat := if k = 2 then sNum C 1 20 i else if k < 4 then sNum C 0 9 i else (0, i)
theorem kdX_w {C : Nat → Int} {k : Int} {i : Nat} (h : k = 2) : kdX C k i = sNum C 1 20 i := if_pos h
theorem kdX_d {C : Nat → Int} {k : Int} {i : Nat} (h : ¬ k = 2) (h2 : k < 4) : kdX C k i = sNum C 0 9 i := by unfold kdX; rw [if_neg h, if_pos h2]
theorem kdX_n {C : Nat → Int} {k : Int} {i : Nat} (h2 : ¬ k < 4) : kdX C k i = (0, i) := by unfold kdX; rw [if_neg (by omega), if_neg h2]
theorem kdX_e {C : Nat → Int} {i : Nat} (h : 10000 ≤ C i ∧ C i ≤ 10005) : sKind C i = kdX C (C i - 10000) (i + 1) := by
  by_cases e : C i = 10002
  · rw [kd_w e, kdX_w (by omega)]
  · by_cases e2 : C i = 10000 ∨ C i = 10001 ∨ C i = 10003
    · rw [kd_d e e2, kdX_d (by omega) (by omega)]
    · rw [kd_n e e2, kdX_n (by omega)]
/-- what a step or a reason of the reference does, told by its spec s; S behind it -/
noncomputable def XRT (S : Nat → qW → Prop) (P : Nat → Int) (s : Int × Nat) (r : qV) (w1 : qW) : Prop := (∃ k j, s = (k, j) ∧ (k = 1 ∨ k = 2 ∨ k = 3) ∧ r = (0, 0) ∧ w1 95 30 = k ∧ w1 95 31 = P j) ∨ (∃ j, s = (0, j) ∧ r = (0, 1) ∧ S j w1)
theorem K_aStepBX {d : Nat} (hd : 9 ≤ d) {S : Nat → qW → Prop} {C P : Nat → Int} (hO : SO S C P TMS) (L : Nat) (k : Int) (hk0 : 0 ≤ k) (hk5 : k ≤ 5) (w : qW) (hP : PI w) (hL : w 95 23 = (L : Int)) (hL4 : L < 40) (i1 : Nat) (hJ : S i1 w) : qG none d 243 70 [(2, 95), (0, k)] [] (stW w L k) 142 (fun (r : qV) (w1 : qW) (n1 : Nat) => n1 = 142 ∧ XRT S P (bnd (kdX C k i1) (sNeed C 20059)) r w1) := by
  generalize hQ9 : (fun (r : qV) (w1 : qW) (n1 : Nat) => n1 = 142 ∧ XRT S P (bnd (kdX C k i1) (sNeed C 20059)) r w1) = Q9
  obtain ⟨d, rfl⟩ : ∃ d9, d = d9 + 1 := ⟨d - 1, by omega⟩
  have hP2 : PI (stW w L k) := stW_P hP hk0 hk5
  have hJ2 : S i1 (stW w L k) := hO.arr (hO.arr hJ ⟨by decide, by decide⟩) ⟨by decide, by decide⟩
  refine qG.blk 2 (pc' := 72) (ls' := [(2, 95), (0, k)]) (st' := [(0, 4), (0, k)]) (w' := (stW w L k)) (n' := 142) rfl ?_
  refine qG.br (P := k < 4) (pc1 := 75) (pc2 := 106) (st1 := []) rfl (fun hk4 => ?_) (fun hk4 => ?_)
  · skip
    refine qG.blk 3 (pc' := 78) (ls' := [(2, 95), (0, k)]) (st' := [(0, 2), (0, k), (2, 95)]) (w' := (stW w L k)) (n' := 142) rfl ?_
    refine qG.br (P := k = 2) (pc1 := 81) (pc2 := 85) (st1 := [(2, 95)]) rfl (fun hk2 => ?_) (fun hk2 => ?_)
    · skip
      refine qG.blk 4 (pc' := 88) (ls' := [(2, 95), (0, k)]) (st' := [(0, 2), (0, k), (0, 1), (2, 95)]) (w' := (stW w L k)) (n' := 142) rfl ?_
      refine qG.br (P := k = 2) (pc1 := 91) (pc2 := 96) (st1 := [(0, 1), (2, 95)]) rfl (fun hk2b => ?_) (fun hk2b => ?_)
      · skip
        refine qG.blk 2 (pc' := 98) (ls' := [(2, 95), (0, k)]) (st' := [(0, 20), (0, 1), (2, 95)]) (w' := (stW w L k)) (n' := 142) rfl ?_
        refine qG.call (t := 234) (na := 3) (sk := 1) (md := 1) (ls1 := [(2, 95), (0, 1), (0, 20)]) (r1 := []) rfl rfl rfl rfl rfl (K_numberX (by omega) hO tms_2 (1) (20) (stW w L k) hP2 i1 hJ2) ?_
        rintro _ w1 _ ⟨rfl, ⟨k901, j901, hs901, hk901, rfl, hA1, hf901, hg901⟩ | ⟨j901, hs901, rfl, hS1, hJ1⟩⟩
        · skip
          show qG none (d + 1) 243 101 [(2, 95), (0, k)] [(0, 0)] w1 142 Q9
          have hBAD := (PS.rf hP2).2.1.tr hA1 (by decide +kernel)
          refine qG.br (P := (0 : Int) = 0) (pc1 := 104) (pc2 := 106) (st1 := []) rfl (fun h2 => ?_) (fun h2 => ?_)
          · skip
            refine qG.blk 1 (pc' := 105) (ls' := [(2, 95), (0, k)]) (st' := [(0, 0)]) (w' := w1) (n' := 142) rfl ?_
            refine qG.ret rfl (by first | rfl | exact decide_eq_true (by omega)) ?_
            subst hQ9
            first | (exfalso; omega) | exact ⟨rfl, .inl ⟨k902, j902, (bnd_y ((kdX_w (by omega)).trans hs901)).trans hs902, hk902, rfl, hf902, hg902⟩⟩ | exact ⟨rfl, .inl ⟨k902, j902, (bnd_y ((kdX_d (by omega) (by omega)).trans hs901)).trans hs902, hk902, rfl, hf902, hg902⟩⟩ | exact ⟨rfl, .inl ⟨k902, j902, (bnd_y (kdX_n (by omega))).trans hs902, hk902, rfl, hf902, hg902⟩⟩ | exact ⟨rfl, .inl ⟨k901, j901, bnd_k ((kdX_w (by omega)).trans hs901) hk901, hk901, rfl, hf901, hg901⟩⟩ | exact ⟨rfl, .inl ⟨k901, j901, bnd_k ((kdX_d (by omega) (by omega)).trans hs901) hk901, hk901, rfl, hf901, hg901⟩⟩
          · exact absurd h2 (by decide)
        · skip
          show qG none (d + 1) 243 101 [(2, 95), (0, k)] [(0, 1)] w1 142 Q9
          have hP1 := PS.tr (PS.rf hP2) hS1 (by omega)
          have hI1 : PI w1 := hS1.2.2.1
          have hb1 := hI1.b
          have hq1 := hP1.fs
          have hd1 := hP1.2.2.2.2.2.1
          have hm1 := hS1.2.2.2.1
          refine qG.br (P := (1 : Int) = 0) (pc1 := 104) (pc2 := 106) (st1 := []) rfl (fun h3 => ?_) (fun h3 => ?_)
          · exact absurd h3 (by decide)
          · skip
            refine qG.blk 3 (pc' := 111) (ls' := [(2, 95), (0, k)]) (st' := [(0, w1 95 23), (2, 95)]) (w' := w1) (n' := 142) rfl ?_
            rw [show w1 95 23 = ((L : Nat) : Int) from (hP1.2.1.2 95 23 (fun _ => rfl)).trans (stW_o.trans hL)]
            refine qG.blk 2 (pc' := 113) (ls' := [(2, 95), (0, k)]) (st' := [(0, wrp (((L : Nat) : Int) + 1)), (2, 95)]) (w' := w1) (n' := 142) rfl ?_
            rw [show wrp (((L : Nat) : Int) + 1) = ((L + 1 : Nat) : Int) from wrp_id (by omega) (by omega)]
            refine qG.blk 3 (pc' := 120) (ls' := [(2, 95), (0, k)]) (st' := [(0, 159), (2, 95)]) (w' := (qup w1 95 23 ((L + 1 : Nat) : Int))) (n' := 142) rfl ?_
            have hIw4 : yInv zgf zga zra zSp (qup w1 95 23 ((L + 1 : Nat) : Int)) := zup_f hI1.1 (b := (0, 40)) rfl rfl rfl ⟨by show (0 : Int) ≤ _; omega, by show _ ≤ (40 : Int); omega⟩
            have hPw4 : PI (qup w1 95 23 ((L + 1 : Nat) : Int)) := hI1.fld (by decide) hIw4
            refine qG.call (t := 233) (na := 2) (sk := 1) (md := 1) (ls1 := [(2, 95), (0, 159)]) (r1 := []) rfl rfl rfl rfl rfl (K_needX (by omega) hO 159 20059 (by decide) tms_v (qup w1 95 23 ((L + 1 : Nat) : Int)) hPw4 j901 (hO.fld hJ1 (.inr rfl))) ?_
            rintro _ w4 _ ⟨rfl, ⟨k902, j902, hs902, hk902, rfl, hA4, hf902, hg902⟩ | ⟨j902, hs902, rfl, hS4, hJ902⟩⟩
            · skip
              show qG none (d + 1) 243 123 [(2, 95), (0, k)] [(0, 0)] w4 142 Q9
              refine qG.ret rfl (by first | rfl | exact decide_eq_true (by omega)) ?_
              subst hQ9
              first | (exfalso; omega) | exact ⟨rfl, .inl ⟨k902, j902, (bnd_y ((kdX_w (by omega)).trans hs901)).trans hs902, hk902, rfl, hf902, hg902⟩⟩ | exact ⟨rfl, .inl ⟨k902, j902, (bnd_y ((kdX_d (by omega) (by omega)).trans hs901)).trans hs902, hk902, rfl, hf902, hg902⟩⟩ | exact ⟨rfl, .inl ⟨k902, j902, (bnd_y (kdX_n (by omega))).trans hs902, hk902, rfl, hf902, hg902⟩⟩ | exact ⟨rfl, .inl ⟨k901, j901, bnd_k ((kdX_w (by omega)).trans hs901) hk901, hk901, rfl, hf901, hg901⟩⟩ | exact ⟨rfl, .inl ⟨k901, j901, bnd_k ((kdX_d (by omega) (by omega)).trans hs901) hk901, hk901, rfl, hf901, hg901⟩⟩
            · skip
              show qG none (d + 1) 243 123 [(2, 95), (0, k)] [(0, 1)] w4 142 Q9
              refine qG.ret rfl (by first | rfl | exact decide_eq_true (by omega)) ?_
              subst hQ9
              first | (exfalso; omega) | exact ⟨rfl, .inr ⟨j902, (bnd_y ((kdX_w (by omega)).trans hs901)).trans hs902, rfl, hJ902⟩⟩ | exact ⟨rfl, .inr ⟨j902, (bnd_y ((kdX_d (by omega) (by omega)).trans hs901)).trans hs902, rfl, hJ902⟩⟩ | exact ⟨rfl, .inr ⟨j902, (bnd_y (kdX_n (by omega))).trans hs902, rfl, hJ902⟩⟩
      · skip
        refine qG.blk 1 (pc' := 98) (ls' := [(2, 95), (0, k)]) (st' := [(0, 9), (0, 1), (2, 95)]) (w' := (stW w L k)) (n' := 142) rfl ?_
        refine qG.call (t := 234) (na := 3) (sk := 1) (md := 1) (ls1 := [(2, 95), (0, 1), (0, 9)]) (r1 := []) rfl rfl rfl rfl rfl (K_numberX (by omega) hO tms_2 (1) (9) (stW w L k) hP2 i1 hJ2) ?_
        rintro _ w5 _ ⟨rfl, ⟨k901, j901, hs901, hk901, rfl, hA5, hf901, hg901⟩ | ⟨j901, hs901, rfl, hS5, hJ5⟩⟩
        · skip
          show qG none (d + 1) 243 101 [(2, 95), (0, k)] [(0, 0)] w5 142 Q9
          have hBAD := (PS.rf hP2).2.1.tr hA5 (by decide +kernel)
          refine qG.br (P := (0 : Int) = 0) (pc1 := 104) (pc2 := 106) (st1 := []) rfl (fun h6 => ?_) (fun h6 => ?_)
          · skip
            refine qG.blk 1 (pc' := 105) (ls' := [(2, 95), (0, k)]) (st' := [(0, 0)]) (w' := w5) (n' := 142) rfl ?_
            refine qG.ret rfl (by first | rfl | exact decide_eq_true (by omega)) ?_
            subst hQ9
            first | (exfalso; omega) | exact ⟨rfl, .inl ⟨k902, j902, (bnd_y ((kdX_w (by omega)).trans hs901)).trans hs902, hk902, rfl, hf902, hg902⟩⟩ | exact ⟨rfl, .inl ⟨k902, j902, (bnd_y ((kdX_d (by omega) (by omega)).trans hs901)).trans hs902, hk902, rfl, hf902, hg902⟩⟩ | exact ⟨rfl, .inl ⟨k902, j902, (bnd_y (kdX_n (by omega))).trans hs902, hk902, rfl, hf902, hg902⟩⟩ | exact ⟨rfl, .inl ⟨k901, j901, bnd_k ((kdX_w (by omega)).trans hs901) hk901, hk901, rfl, hf901, hg901⟩⟩ | exact ⟨rfl, .inl ⟨k901, j901, bnd_k ((kdX_d (by omega) (by omega)).trans hs901) hk901, hk901, rfl, hf901, hg901⟩⟩
          · exact absurd h6 (by decide)
        · skip
          show qG none (d + 1) 243 101 [(2, 95), (0, k)] [(0, 1)] w5 142 Q9
          have hP5 := PS.tr (PS.rf hP2) hS5 (by omega)
          have hI5 : PI w5 := hS5.2.2.1
          have hb5 := hI5.b
          have hq5 := hP5.fs
          have hd5 := hP5.2.2.2.2.2.1
          have hm5 := hS5.2.2.2.1
          refine qG.br (P := (1 : Int) = 0) (pc1 := 104) (pc2 := 106) (st1 := []) rfl (fun h7 => ?_) (fun h7 => ?_)
          · exact absurd h7 (by decide)
          · skip
            refine qG.blk 3 (pc' := 111) (ls' := [(2, 95), (0, k)]) (st' := [(0, w5 95 23), (2, 95)]) (w' := w5) (n' := 142) rfl ?_
            rw [show w5 95 23 = ((L : Nat) : Int) from (hP5.2.1.2 95 23 (fun _ => rfl)).trans (stW_o.trans hL)]
            refine qG.blk 2 (pc' := 113) (ls' := [(2, 95), (0, k)]) (st' := [(0, wrp (((L : Nat) : Int) + 1)), (2, 95)]) (w' := w5) (n' := 142) rfl ?_
            rw [show wrp (((L : Nat) : Int) + 1) = ((L + 1 : Nat) : Int) from wrp_id (by omega) (by omega)]
            refine qG.blk 3 (pc' := 120) (ls' := [(2, 95), (0, k)]) (st' := [(0, 159), (2, 95)]) (w' := (qup w5 95 23 ((L + 1 : Nat) : Int))) (n' := 142) rfl ?_
            have hIw8 : yInv zgf zga zra zSp (qup w5 95 23 ((L + 1 : Nat) : Int)) := zup_f hI5.1 (b := (0, 40)) rfl rfl rfl ⟨by show (0 : Int) ≤ _; omega, by show _ ≤ (40 : Int); omega⟩
            have hPw8 : PI (qup w5 95 23 ((L + 1 : Nat) : Int)) := hI5.fld (by decide) hIw8
            refine qG.call (t := 233) (na := 2) (sk := 1) (md := 1) (ls1 := [(2, 95), (0, 159)]) (r1 := []) rfl rfl rfl rfl rfl (K_needX (by omega) hO 159 20059 (by decide) tms_v (qup w5 95 23 ((L + 1 : Nat) : Int)) hPw8 j901 (hO.fld hJ5 (.inr rfl))) ?_
            rintro _ w8 _ ⟨rfl, ⟨k902, j902, hs902, hk902, rfl, hA8, hf902, hg902⟩ | ⟨j902, hs902, rfl, hS8, hJ902⟩⟩
            · skip
              show qG none (d + 1) 243 123 [(2, 95), (0, k)] [(0, 0)] w8 142 Q9
              refine qG.ret rfl (by first | rfl | exact decide_eq_true (by omega)) ?_
              subst hQ9
              first | (exfalso; omega) | exact ⟨rfl, .inl ⟨k902, j902, (bnd_y ((kdX_w (by omega)).trans hs901)).trans hs902, hk902, rfl, hf902, hg902⟩⟩ | exact ⟨rfl, .inl ⟨k902, j902, (bnd_y ((kdX_d (by omega) (by omega)).trans hs901)).trans hs902, hk902, rfl, hf902, hg902⟩⟩ | exact ⟨rfl, .inl ⟨k902, j902, (bnd_y (kdX_n (by omega))).trans hs902, hk902, rfl, hf902, hg902⟩⟩ | exact ⟨rfl, .inl ⟨k901, j901, bnd_k ((kdX_w (by omega)).trans hs901) hk901, hk901, rfl, hf901, hg901⟩⟩ | exact ⟨rfl, .inl ⟨k901, j901, bnd_k ((kdX_d (by omega) (by omega)).trans hs901) hk901, hk901, rfl, hf901, hg901⟩⟩
            · skip
              show qG none (d + 1) 243 123 [(2, 95), (0, k)] [(0, 1)] w8 142 Q9
              refine qG.ret rfl (by first | rfl | exact decide_eq_true (by omega)) ?_
              subst hQ9
              first | (exfalso; omega) | exact ⟨rfl, .inr ⟨j902, (bnd_y ((kdX_w (by omega)).trans hs901)).trans hs902, rfl, hJ902⟩⟩ | exact ⟨rfl, .inr ⟨j902, (bnd_y ((kdX_d (by omega) (by omega)).trans hs901)).trans hs902, rfl, hJ902⟩⟩ | exact ⟨rfl, .inr ⟨j902, (bnd_y (kdX_n (by omega))).trans hs902, rfl, hJ902⟩⟩
    · skip
      refine qG.blk 3 (pc' := 88) (ls' := [(2, 95), (0, k)]) (st' := [(0, 2), (0, k), (0, 0), (2, 95)]) (w' := (stW w L k)) (n' := 142) rfl ?_
      refine qG.br (P := k = 2) (pc1 := 91) (pc2 := 96) (st1 := [(0, 0), (2, 95)]) rfl (fun hk2b => ?_) (fun hk2b => ?_)
      · skip
        refine qG.blk 2 (pc' := 98) (ls' := [(2, 95), (0, k)]) (st' := [(0, 20), (0, 0), (2, 95)]) (w' := (stW w L k)) (n' := 142) rfl ?_
        refine qG.call (t := 234) (na := 3) (sk := 1) (md := 1) (ls1 := [(2, 95), (0, 0), (0, 20)]) (r1 := []) rfl rfl rfl rfl rfl (K_numberX (by omega) hO tms_2 (0) (20) (stW w L k) hP2 i1 hJ2) ?_
        rintro _ w9 _ ⟨rfl, ⟨k901, j901, hs901, hk901, rfl, hA9, hf901, hg901⟩ | ⟨j901, hs901, rfl, hS9, hJ9⟩⟩
        · skip
          show qG none (d + 1) 243 101 [(2, 95), (0, k)] [(0, 0)] w9 142 Q9
          have hBAD := (PS.rf hP2).2.1.tr hA9 (by decide +kernel)
          refine qG.br (P := (0 : Int) = 0) (pc1 := 104) (pc2 := 106) (st1 := []) rfl (fun h10 => ?_) (fun h10 => ?_)
          · skip
            refine qG.blk 1 (pc' := 105) (ls' := [(2, 95), (0, k)]) (st' := [(0, 0)]) (w' := w9) (n' := 142) rfl ?_
            refine qG.ret rfl (by first | rfl | exact decide_eq_true (by omega)) ?_
            subst hQ9
            first | (exfalso; omega) | exact ⟨rfl, .inl ⟨k902, j902, (bnd_y ((kdX_w (by omega)).trans hs901)).trans hs902, hk902, rfl, hf902, hg902⟩⟩ | exact ⟨rfl, .inl ⟨k902, j902, (bnd_y ((kdX_d (by omega) (by omega)).trans hs901)).trans hs902, hk902, rfl, hf902, hg902⟩⟩ | exact ⟨rfl, .inl ⟨k902, j902, (bnd_y (kdX_n (by omega))).trans hs902, hk902, rfl, hf902, hg902⟩⟩ | exact ⟨rfl, .inl ⟨k901, j901, bnd_k ((kdX_w (by omega)).trans hs901) hk901, hk901, rfl, hf901, hg901⟩⟩ | exact ⟨rfl, .inl ⟨k901, j901, bnd_k ((kdX_d (by omega) (by omega)).trans hs901) hk901, hk901, rfl, hf901, hg901⟩⟩
          · exact absurd h10 (by decide)
        · skip
          show qG none (d + 1) 243 101 [(2, 95), (0, k)] [(0, 1)] w9 142 Q9
          have hP9 := PS.tr (PS.rf hP2) hS9 (by omega)
          have hI9 : PI w9 := hS9.2.2.1
          have hb9 := hI9.b
          have hq9 := hP9.fs
          have hd9 := hP9.2.2.2.2.2.1
          have hm9 := hS9.2.2.2.1
          refine qG.br (P := (1 : Int) = 0) (pc1 := 104) (pc2 := 106) (st1 := []) rfl (fun h11 => ?_) (fun h11 => ?_)
          · exact absurd h11 (by decide)
          · skip
            refine qG.blk 3 (pc' := 111) (ls' := [(2, 95), (0, k)]) (st' := [(0, w9 95 23), (2, 95)]) (w' := w9) (n' := 142) rfl ?_
            rw [show w9 95 23 = ((L : Nat) : Int) from (hP9.2.1.2 95 23 (fun _ => rfl)).trans (stW_o.trans hL)]
            refine qG.blk 2 (pc' := 113) (ls' := [(2, 95), (0, k)]) (st' := [(0, wrp (((L : Nat) : Int) + 1)), (2, 95)]) (w' := w9) (n' := 142) rfl ?_
            rw [show wrp (((L : Nat) : Int) + 1) = ((L + 1 : Nat) : Int) from wrp_id (by omega) (by omega)]
            refine qG.blk 3 (pc' := 120) (ls' := [(2, 95), (0, k)]) (st' := [(0, 159), (2, 95)]) (w' := (qup w9 95 23 ((L + 1 : Nat) : Int))) (n' := 142) rfl ?_
            have hIw12 : yInv zgf zga zra zSp (qup w9 95 23 ((L + 1 : Nat) : Int)) := zup_f hI9.1 (b := (0, 40)) rfl rfl rfl ⟨by show (0 : Int) ≤ _; omega, by show _ ≤ (40 : Int); omega⟩
            have hPw12 : PI (qup w9 95 23 ((L + 1 : Nat) : Int)) := hI9.fld (by decide) hIw12
            refine qG.call (t := 233) (na := 2) (sk := 1) (md := 1) (ls1 := [(2, 95), (0, 159)]) (r1 := []) rfl rfl rfl rfl rfl (K_needX (by omega) hO 159 20059 (by decide) tms_v (qup w9 95 23 ((L + 1 : Nat) : Int)) hPw12 j901 (hO.fld hJ9 (.inr rfl))) ?_
            rintro _ w12 _ ⟨rfl, ⟨k902, j902, hs902, hk902, rfl, hA12, hf902, hg902⟩ | ⟨j902, hs902, rfl, hS12, hJ902⟩⟩
            · skip
              show qG none (d + 1) 243 123 [(2, 95), (0, k)] [(0, 0)] w12 142 Q9
              refine qG.ret rfl (by first | rfl | exact decide_eq_true (by omega)) ?_
              subst hQ9
              first | (exfalso; omega) | exact ⟨rfl, .inl ⟨k902, j902, (bnd_y ((kdX_w (by omega)).trans hs901)).trans hs902, hk902, rfl, hf902, hg902⟩⟩ | exact ⟨rfl, .inl ⟨k902, j902, (bnd_y ((kdX_d (by omega) (by omega)).trans hs901)).trans hs902, hk902, rfl, hf902, hg902⟩⟩ | exact ⟨rfl, .inl ⟨k902, j902, (bnd_y (kdX_n (by omega))).trans hs902, hk902, rfl, hf902, hg902⟩⟩ | exact ⟨rfl, .inl ⟨k901, j901, bnd_k ((kdX_w (by omega)).trans hs901) hk901, hk901, rfl, hf901, hg901⟩⟩ | exact ⟨rfl, .inl ⟨k901, j901, bnd_k ((kdX_d (by omega) (by omega)).trans hs901) hk901, hk901, rfl, hf901, hg901⟩⟩
            · skip
              show qG none (d + 1) 243 123 [(2, 95), (0, k)] [(0, 1)] w12 142 Q9
              refine qG.ret rfl (by first | rfl | exact decide_eq_true (by omega)) ?_
              subst hQ9
              first | (exfalso; omega) | exact ⟨rfl, .inr ⟨j902, (bnd_y ((kdX_w (by omega)).trans hs901)).trans hs902, rfl, hJ902⟩⟩ | exact ⟨rfl, .inr ⟨j902, (bnd_y ((kdX_d (by omega) (by omega)).trans hs901)).trans hs902, rfl, hJ902⟩⟩ | exact ⟨rfl, .inr ⟨j902, (bnd_y (kdX_n (by omega))).trans hs902, rfl, hJ902⟩⟩
      · skip
        refine qG.blk 1 (pc' := 98) (ls' := [(2, 95), (0, k)]) (st' := [(0, 9), (0, 0), (2, 95)]) (w' := (stW w L k)) (n' := 142) rfl ?_
        refine qG.call (t := 234) (na := 3) (sk := 1) (md := 1) (ls1 := [(2, 95), (0, 0), (0, 9)]) (r1 := []) rfl rfl rfl rfl rfl (K_numberX (by omega) hO tms_2 (0) (9) (stW w L k) hP2 i1 hJ2) ?_
        rintro _ w13 _ ⟨rfl, ⟨k901, j901, hs901, hk901, rfl, hA13, hf901, hg901⟩ | ⟨j901, hs901, rfl, hS13, hJ13⟩⟩
        · skip
          show qG none (d + 1) 243 101 [(2, 95), (0, k)] [(0, 0)] w13 142 Q9
          have hBAD := (PS.rf hP2).2.1.tr hA13 (by decide +kernel)
          refine qG.br (P := (0 : Int) = 0) (pc1 := 104) (pc2 := 106) (st1 := []) rfl (fun h14 => ?_) (fun h14 => ?_)
          · skip
            refine qG.blk 1 (pc' := 105) (ls' := [(2, 95), (0, k)]) (st' := [(0, 0)]) (w' := w13) (n' := 142) rfl ?_
            refine qG.ret rfl (by first | rfl | exact decide_eq_true (by omega)) ?_
            subst hQ9
            first | (exfalso; omega) | exact ⟨rfl, .inl ⟨k902, j902, (bnd_y ((kdX_w (by omega)).trans hs901)).trans hs902, hk902, rfl, hf902, hg902⟩⟩ | exact ⟨rfl, .inl ⟨k902, j902, (bnd_y ((kdX_d (by omega) (by omega)).trans hs901)).trans hs902, hk902, rfl, hf902, hg902⟩⟩ | exact ⟨rfl, .inl ⟨k902, j902, (bnd_y (kdX_n (by omega))).trans hs902, hk902, rfl, hf902, hg902⟩⟩ | exact ⟨rfl, .inl ⟨k901, j901, bnd_k ((kdX_w (by omega)).trans hs901) hk901, hk901, rfl, hf901, hg901⟩⟩ | exact ⟨rfl, .inl ⟨k901, j901, bnd_k ((kdX_d (by omega) (by omega)).trans hs901) hk901, hk901, rfl, hf901, hg901⟩⟩
          · exact absurd h14 (by decide)
        · skip
          show qG none (d + 1) 243 101 [(2, 95), (0, k)] [(0, 1)] w13 142 Q9
          have hP13 := PS.tr (PS.rf hP2) hS13 (by omega)
          have hI13 : PI w13 := hS13.2.2.1
          have hb13 := hI13.b
          have hq13 := hP13.fs
          have hd13 := hP13.2.2.2.2.2.1
          have hm13 := hS13.2.2.2.1
          refine qG.br (P := (1 : Int) = 0) (pc1 := 104) (pc2 := 106) (st1 := []) rfl (fun h15 => ?_) (fun h15 => ?_)
          · exact absurd h15 (by decide)
          · skip
            refine qG.blk 3 (pc' := 111) (ls' := [(2, 95), (0, k)]) (st' := [(0, w13 95 23), (2, 95)]) (w' := w13) (n' := 142) rfl ?_
            rw [show w13 95 23 = ((L : Nat) : Int) from (hP13.2.1.2 95 23 (fun _ => rfl)).trans (stW_o.trans hL)]
            refine qG.blk 2 (pc' := 113) (ls' := [(2, 95), (0, k)]) (st' := [(0, wrp (((L : Nat) : Int) + 1)), (2, 95)]) (w' := w13) (n' := 142) rfl ?_
            rw [show wrp (((L : Nat) : Int) + 1) = ((L + 1 : Nat) : Int) from wrp_id (by omega) (by omega)]
            refine qG.blk 3 (pc' := 120) (ls' := [(2, 95), (0, k)]) (st' := [(0, 159), (2, 95)]) (w' := (qup w13 95 23 ((L + 1 : Nat) : Int))) (n' := 142) rfl ?_
            have hIw16 : yInv zgf zga zra zSp (qup w13 95 23 ((L + 1 : Nat) : Int)) := zup_f hI13.1 (b := (0, 40)) rfl rfl rfl ⟨by show (0 : Int) ≤ _; omega, by show _ ≤ (40 : Int); omega⟩
            have hPw16 : PI (qup w13 95 23 ((L + 1 : Nat) : Int)) := hI13.fld (by decide) hIw16
            refine qG.call (t := 233) (na := 2) (sk := 1) (md := 1) (ls1 := [(2, 95), (0, 159)]) (r1 := []) rfl rfl rfl rfl rfl (K_needX (by omega) hO 159 20059 (by decide) tms_v (qup w13 95 23 ((L + 1 : Nat) : Int)) hPw16 j901 (hO.fld hJ13 (.inr rfl))) ?_
            rintro _ w16 _ ⟨rfl, ⟨k902, j902, hs902, hk902, rfl, hA16, hf902, hg902⟩ | ⟨j902, hs902, rfl, hS16, hJ902⟩⟩
            · skip
              show qG none (d + 1) 243 123 [(2, 95), (0, k)] [(0, 0)] w16 142 Q9
              refine qG.ret rfl (by first | rfl | exact decide_eq_true (by omega)) ?_
              subst hQ9
              first | (exfalso; omega) | exact ⟨rfl, .inl ⟨k902, j902, (bnd_y ((kdX_w (by omega)).trans hs901)).trans hs902, hk902, rfl, hf902, hg902⟩⟩ | exact ⟨rfl, .inl ⟨k902, j902, (bnd_y ((kdX_d (by omega) (by omega)).trans hs901)).trans hs902, hk902, rfl, hf902, hg902⟩⟩ | exact ⟨rfl, .inl ⟨k902, j902, (bnd_y (kdX_n (by omega))).trans hs902, hk902, rfl, hf902, hg902⟩⟩ | exact ⟨rfl, .inl ⟨k901, j901, bnd_k ((kdX_w (by omega)).trans hs901) hk901, hk901, rfl, hf901, hg901⟩⟩ | exact ⟨rfl, .inl ⟨k901, j901, bnd_k ((kdX_d (by omega) (by omega)).trans hs901) hk901, hk901, rfl, hf901, hg901⟩⟩
            · skip
              show qG none (d + 1) 243 123 [(2, 95), (0, k)] [(0, 1)] w16 142 Q9
              refine qG.ret rfl (by first | rfl | exact decide_eq_true (by omega)) ?_
              subst hQ9
              first | (exfalso; omega) | exact ⟨rfl, .inr ⟨j902, (bnd_y ((kdX_w (by omega)).trans hs901)).trans hs902, rfl, hJ902⟩⟩ | exact ⟨rfl, .inr ⟨j902, (bnd_y ((kdX_d (by omega) (by omega)).trans hs901)).trans hs902, rfl, hJ902⟩⟩ | exact ⟨rfl, .inr ⟨j902, (bnd_y (kdX_n (by omega))).trans hs902, rfl, hJ902⟩⟩
  · skip
    refine qG.blk 3 (pc' := 111) (ls' := [(2, 95), (0, k)]) (st' := [(0, (stW w L k) 95 23), (2, 95)]) (w' := (stW w L k)) (n' := 142) rfl ?_
    rw [show (stW w L k) 95 23 = ((L : Nat) : Int) from stW_o.trans hL]
    refine qG.blk 2 (pc' := 113) (ls' := [(2, 95), (0, k)]) (st' := [(0, wrp (((L : Nat) : Int) + 1)), (2, 95)]) (w' := (stW w L k)) (n' := 142) rfl ?_
    rw [show wrp (((L : Nat) : Int) + 1) = ((L + 1 : Nat) : Int) from wrp_id (by omega) (by omega)]
    refine qG.blk 3 (pc' := 120) (ls' := [(2, 95), (0, k)]) (st' := [(0, 159), (2, 95)]) (w' := (qup (stW w L k) 95 23 ((L + 1 : Nat) : Int))) (n' := 142) rfl ?_
    have hIw17 : yInv zgf zga zra zSp (qup (stW w L k) 95 23 ((L + 1 : Nat) : Int)) := zup_f hP2.1 (b := (0, 40)) rfl rfl rfl ⟨by show (0 : Int) ≤ _; omega, by show _ ≤ (40 : Int); omega⟩
    have hPw17 : PI (qup (stW w L k) 95 23 ((L + 1 : Nat) : Int)) := hP2.fld (by decide) hIw17
    refine qG.call (t := 233) (na := 2) (sk := 1) (md := 1) (ls1 := [(2, 95), (0, 159)]) (r1 := []) rfl rfl rfl rfl rfl (K_needX (by omega) hO 159 20059 (by decide) tms_v (qup (stW w L k) 95 23 ((L + 1 : Nat) : Int)) hPw17 i1 (hO.fld hJ2 (.inr rfl))) ?_
    rintro _ w17 _ ⟨rfl, ⟨k902, j902, hs902, hk902, rfl, hA17, hf902, hg902⟩ | ⟨j902, hs902, rfl, hS17, hJ902⟩⟩
    · skip
      show qG none (d + 1) 243 123 [(2, 95), (0, k)] [(0, 0)] w17 142 Q9
      refine qG.ret rfl (by first | rfl | exact decide_eq_true (by omega)) ?_
      subst hQ9
      first | (exfalso; omega) | exact ⟨rfl, .inl ⟨k902, j902, (bnd_y ((kdX_w (by omega)).trans hs901)).trans hs902, hk902, rfl, hf902, hg902⟩⟩ | exact ⟨rfl, .inl ⟨k902, j902, (bnd_y ((kdX_d (by omega) (by omega)).trans hs901)).trans hs902, hk902, rfl, hf902, hg902⟩⟩ | exact ⟨rfl, .inl ⟨k902, j902, (bnd_y (kdX_n (by omega))).trans hs902, hk902, rfl, hf902, hg902⟩⟩ | exact ⟨rfl, .inl ⟨k901, j901, bnd_k ((kdX_w (by omega)).trans hs901) hk901, hk901, rfl, hf901, hg901⟩⟩ | exact ⟨rfl, .inl ⟨k901, j901, bnd_k ((kdX_d (by omega) (by omega)).trans hs901) hk901, hk901, rfl, hf901, hg901⟩⟩
    · skip
      show qG none (d + 1) 243 123 [(2, 95), (0, k)] [(0, 1)] w17 142 Q9
      refine qG.ret rfl (by first | rfl | exact decide_eq_true (by omega)) ?_
      subst hQ9
      first | (exfalso; omega) | exact ⟨rfl, .inr ⟨j902, (bnd_y ((kdX_w (by omega)).trans hs901)).trans hs902, rfl, hJ902⟩⟩ | exact ⟨rfl, .inr ⟨j902, (bnd_y ((kdX_d (by omega) (by omega)).trans hs901)).trans hs902, rfl, hJ902⟩⟩ | exact ⟨rfl, .inr ⟨j902, (bnd_y (kdX_n (by omega))).trans hs902, rfl, hJ902⟩⟩
theorem K_aStepX {d : Nat} (hd : 10 ≤ d) {S : Nat → qW → Prop} {C P : Nat → Int} (hO : SO S C P TMS) (L : Nat) (w : qW) (hP : PI w) (hL : w 95 23 = (L : Int)) (hL4 : L ≤ 40) (i0 : Nat) (hJ0 : S i0 w) : qG none d 243 0 [(2, 95), (9, 0)] [] w 142 (fun (r : qV) (w1 : qW) (n1 : Nat) => n1 = 142 ∧ XRT S P (sStep C L i0) r w1) := by
  generalize hQ9 : (fun (r : qV) (w1 : qW) (n1 : Nat) => n1 = 142 ∧ XRT S P (sStep C L i0) r w1) = Q9
  have hb0 := hP.b
  have ht0 := (hO.2.1 _ _ hJ0).1
  unfold TMS at ht0
  obtain ⟨d, rfl⟩ : ∃ d9, d = d9 + 1 := ⟨d - 1, by omega⟩
  refine qG.blk 4 (pc' := 8) (ls' := [(2, 95), (9, 0)]) (st' := [(0, 25), (0, 20), (0, w 95 27)]) (w' := w) (n' := 142) rfl ?_
  refine qG.call (t := 206) (na := 3) (sk := 0) (md := 0) (ls1 := [(0, w 95 27), (0, 20), (0, 25)]) (r1 := []) rfl rfl rfl rfl rfl (K_isIn (by omega) _ _ _ _) ?_
  rintro _ w7 _ ⟨rfl, hw7, rfl⟩
  rw [hw7]
  show qG none (d + 1) 243 11 [(2, 95), (9, 0)] [(0, isInV (w 95 27) 20 25)] w 142 Q9
  refine qG.br (P := isInV (w 95 27) 20 25 = 0) (pc1 := 14) (pc2 := 20) (st1 := []) rfl (fun hin => ?_) (fun hin => ?_)
  · skip
    have hin3 : ¬ (20 ≤ w 95 27 ∧ w 95 27 ≤ 25) := by rw [isIn_b9] at hin; exact hin
    refine qG.blk 2 (pc' := 16) (ls' := [(2, 95), (9, 0)]) (st' := [(0, 1), (2, 95)]) (w' := w) (n' := 142) rfl ?_
    refine qG.call (t := 232) (na := 2) (sk := 1) (md := 1) (ls1 := [(2, 95), (0, 1)]) (r1 := []) rfl rfl rfl rfl rfl (K_bad (by omega) 1 w hP.1 (by decide) (by decide)) ?_
    rintro _ _ _ ⟨rfl, rfl, rfl⟩
    show qG none (d + 1) 243 19 [(2, 95), (9, 0)] [(0, 0)] (qup (qup w 95 30 1) 95 31 (w 95 28)) 142 Q9
    refine qG.ret rfl (by first | rfl | exact decide_eq_true (by omega)) ?_
    subst hQ9
    exact ⟨rfl, .inl ⟨1, i0, stp_1 (by omega), .inl rfl, rfl, by rw [qup_j (by decide), qup_k], by rw [qup_k]; exact (hO.2.1 _ _ hJ0).2.1⟩⟩
  · skip
    have hin2 : 20 ≤ w 95 27 ∧ w 95 27 ≤ 25 := by rw [isIn_p9] at hin; exact hin
    refine qG.blk 2 (pc' := 24) (ls' := [(2, 95), (9, 0)]) (st' := [(0, w 95 23)]) (w' := w) (n' := 142) rfl ?_
    rw [show w 95 23 = ((L : Nat) : Int) from hL]
    refine qG.blk 1 (pc' := 26) (ls' := [(2, 95), (9, 0)]) (st' := [(0, 40), (0, ((L : Nat) : Int))]) (w' := w) (n' := 142) rfl ?_
    refine qG.br (P := ((L : Nat) : Int) = 40) (pc1 := 29) (pc2 := 35) (st1 := []) rfl (fun h40 => ?_) (fun h40 => ?_)
    · skip
      refine qG.blk 2 (pc' := 31) (ls' := [(2, 95), (9, 0)]) (st' := [(0, 3), (2, 95)]) (w' := w) (n' := 142) rfl ?_
      refine qG.call (t := 232) (na := 2) (sk := 1) (md := 1) (ls1 := [(2, 95), (0, 3)]) (r1 := []) rfl rfl rfl rfl rfl (K_bad (by omega) 3 w hP.1 (by decide) (by decide)) ?_
      rintro _ _ _ ⟨rfl, rfl, rfl⟩
      show qG none (d + 1) 243 34 [(2, 95), (9, 0)] [(0, 0)] (qup (qup w 95 30 3) 95 31 (w 95 28)) 142 Q9
      refine qG.ret rfl (by first | rfl | exact decide_eq_true (by omega)) ?_
      subst hQ9
      exact ⟨rfl, .inl ⟨3, i0, stp_3 (by omega) (by omega), .inr (.inr rfl), rfl, by rw [qup_j (by decide), qup_k], by rw [qup_k]; exact (hO.2.1 _ _ hJ0).2.1⟩⟩
    · skip
      refine qG.blk 4 (pc' := 42) (ls' := [(2, 95), (9, 0)]) (st' := [(0, wrp ((w 95 27) - 20))]) (w' := w) (n' := 142) rfl ?_
      rw [show wrp ((w 95 27) - 20) = w 95 27 - 20 from wrp_id (by omega) (by omega)]
      refine qG.blk 2 (pc' := 44) (ls' := [(2, 95), (0, w 95 27 - 20)]) (st' := [(2, 95)]) (w' := w) (n' := 142) rfl ?_
      refine qG.call (t := 231) (na := 1) (sk := 1) (md := 1) (ls1 := [(2, 95), (9, 0)]) (r1 := []) rfl rfl rfl rfl rfl (K_next0 (by omega) w hP.1) ?_
      rintro _ w1 _ ⟨rfl, rfl, hX1⟩
      have hn1 := PS.next hP (by omega) hX1
      have hP1 := PS.tr (PS.rf hP) hn1.1 (by omega)
      have hI1 : PI w1 := hn1.1.2.2.1
      have hg1 := hn1.2
      have hb1 := hI1.b
      have hq1 := hP1.fs
      have hd1 := hP1.2.2.2.2.2.1
      have hJ1 := hO.1 _ _ _ hJ0 hP.1 hX1
      show qG none (d + 1) 243 47 [(2, 95), (0, w 95 27 - 20)] [] w1 142 Q9
      refine qG.blk 2 (pc' := 51) (ls' := [(2, 95), (0, w 95 27 - 20)]) (st' := [(2, w1 95 13)]) (w' := w1) (n' := 142) rfl ?_
      rw [show w1 95 13 = 107 from zref hI1.1 rfl rfl]
      refine qG.blk 2 (pc' := 55) (ls' := [(2, 95), (0, w 95 27 - 20)]) (st' := [(0, w1 95 23), (2, 107)]) (w' := w1) (n' := 142) rfl ?_
      rw [show w1 95 23 = ((L : Nat) : Int) from (hP1.2.1.2 95 23 (fun _ => rfl)).trans hL]
      refine qG.blk 1 (pc' := 56) (ls' := [(2, 95), (0, w 95 27 - 20)]) (st' := [(0, w 95 27 - 20), (0, ((L : Nat) : Int)), (2, 107)]) (w' := w1) (n' := 142) rfl ?_
      refine qG.ar (P := 0 ≤ ((L : Nat) : Int) ∧ ((L : Nat) : Int) < ((40 : Nat) : Int)) (P2 := 0 < (107 : Int) ∧ (107 : Int) ≤ ((142 : Nat) : Int)) (pc' := 57) (ls' := [(2, 95), (0, w 95 27 - 20)]) (st' := []) (w' := (qup w1 107 L (w 95 27 - 20))) (n' := 142) rfl (by omega) (by decide) ?_
      refine qG.blk 2 (pc' := 61) (ls' := [(2, 95), (0, w 95 27 - 20)]) (st' := [(2, w1 95 14)]) (w' := (qup w1 107 L (w 95 27 - 20))) (n' := 142) rfl ?_
      rw [show w1 95 14 = 108 from zref hI1.1 rfl rfl]
      refine qG.blk 2 (pc' := 65) (ls' := [(2, 95), (0, w 95 27 - 20)]) (st' := [(0, w1 95 23), (2, 108)]) (w' := (qup w1 107 L (w 95 27 - 20))) (n' := 142) rfl ?_
      rw [show w1 95 23 = ((L : Nat) : Int) from (hP1.2.1.2 95 23 (fun _ => rfl)).trans hL]
      refine qG.blk 2 (pc' := 69) (ls' := [(2, 95), (0, w 95 27 - 20)]) (st' := [(0, w1 95 29), (0, ((L : Nat) : Int)), (2, 108)]) (w' := (qup w1 107 L (w 95 27 - 20))) (n' := 142) rfl ?_
      refine qG.ar (P := 0 ≤ ((L : Nat) : Int) ∧ ((L : Nat) : Int) < ((40 : Nat) : Int)) (P2 := 0 < (108 : Int) ∧ (108 : Int) ≤ ((142 : Nat) : Int)) (pc' := 70) (ls' := [(2, 95), (0, w 95 27 - 20)]) (st' := []) (w' := (qup (qup w1 107 L (w 95 27 - 20)) 108 L (w1 95 29))) (n' := 142) rfl (by omega) (by decide) ?_
      rw [show qup (qup w1 107 L (w 95 27 - 20)) 108 L (w1 95 29) = stW w1 L (w 95 27 - 20) from rfl]
      subst hQ9
      refine qG.mono (K_aStepBX (by omega) hO L (w 95 27 - 20) (by omega) (by omega) w1 hI1 ((hP1.2.1.2 95 23 (fun _ => rfl)).trans hL) (by omega) (i0 + 1) hJ1) ?_
      rintro r9 w9 _ ⟨rfl, h9⟩
      refine ⟨rfl, ?_⟩
      rw [step_3 (by omega) (by omega), kdX_e (by omega), show C i0 - 10000 = w 95 27 - 20 by omega]
      exact h9
theorem rsW_J {S : Nat → qW → Prop} {C P : Nat → Int} {TM : Int → Int → Prop} (hO : SO S C P TM) {i L : Nat} {w : qW} (h : S i w) : S i (rsW w L) := hO.fld (hO.arr (hO.arr h ⟨by decide, by decide⟩) ⟨by decide, by decide⟩) (.inl rfl)
theorem reW_J {S : Nat → qW → Prop} {C P : Nat → Int} {TM : Int → Int → Prop} (hO : SO S C P TM) {i L : Nat} {w : qW} (h : S i w) : S i (reW w L) := hO.arr (hO.fld h (.inr rfl)) ⟨by decide, by decide⟩
theorem reas_X {C : Nat → Int} {t c i : Nat} (hC : ∀ i, t ≤ i → C i = -2) (ht : t ≤ 600) (hA : C i = 10000 ∨ C i = 10001) (hc : ¬ 20 ≤ c) : sReas C 601 c i = bnd (bnd (sNeed C 10002 (i + 1)) (sAn C 601 (sOne C 601 8))) (sNeed C 20059) := by
  rw [reas_3 hA hc, show sCho C 601 (sCond C 601 8) = sAn C 601 (sOne C 601 8) from funext (chon_eq hC ht 8)]
theorem K_aReasonBX {d : Nat} (hd : 40 ≤ d) {S : Nat → qW → Prop} {C P : Nat → Int} (hO : SO S C P TMP) (L : Nat) (w : qW) (hP : PI w) (hD : w 95 24 ≤ w 95 28) (hL : RsL w L) (hL20 : L < 20) (h78 : w 95 27 = 7 ∨ w 95 27 = 8) (i0 : Nat) (hJ0 : S i0 w) : qG none d 244 73 [(2, 95)] [] (rsW w L) 142 (fun (r : qV) (w1 : qW) (n1 : Nat) => n1 = 142 ∧ XRT S P (bnd (bnd (sNeed C 10002 (i0 + 1)) (sAn C 601 (sOne C 601 8))) (sNeed C 20059)) r w1) := by
  generalize hQ9 : (fun (r : qV) (w1 : qW) (n1 : Nat) => n1 = 142 ∧ XRT S P (bnd (bnd (sNeed C 10002 (i0 + 1)) (sAn C 601 (sOne C 601 8))) (sNeed C 20059)) r w1) = Q9
  obtain ⟨d, rfl⟩ : ∃ d9, d = d9 + 1 := ⟨d - 1, by omega⟩
  have hP3 : PI (rsW w L) := rsW_P hP (by omega)
  refine qG.blk 1 (pc' := 74) (ls' := [(2, 95)]) (st' := [(2, 95)]) (w' := (rsW w L)) (n' := 142) rfl ?_
  refine qG.call (t := 231) (na := 1) (sk := 1) (md := 1) (ls1 := [(2, 95), (9, 0)]) (r1 := []) rfl rfl rfl rfl rfl (K_next0 (by omega) (rsW w L) hP3.1) ?_
  rintro _ w1 _ ⟨rfl, rfl, hX1⟩
  have hn1 := PS.next hP3 (by rw [rsW_o (by decide)]; omega) hX1
  have hP1 := PS.tr (PS.rf hP3) hn1.1 (by omega)
  have hI1 : PI w1 := hn1.1.2.2.1
  have hg1 := hn1.2
  rw [rsW_o (by decide)] at hg1
  have hJ1 := hO.1 _ _ _ (rsW_J (L := L) hO hJ0) hP3.1 hX1
  have hb1 := hI1.b
  have hq1 := hP1.fs
  have hd1 := hP1.2.2.2.2.2.1
  rw [rsW_o (by decide), rsW_o (by decide)] at hq1
  rw [show rsW w L 95 33 = 0 from qup_k] at hd1
  show qG none (d + 1) 244 77 [(2, 95)] [] w1 142 Q9
  refine qG.blk 2 (pc' := 79) (ls' := [(2, 95)]) (st' := [(0, 3), (2, 95)]) (w' := w1) (n' := 142) rfl ?_
  refine qG.call (t := 233) (na := 2) (sk := 1) (md := 1) (ls1 := [(2, 95), (0, 3)]) (r1 := []) rfl rfl rfl rfl rfl (K_needX (by omega) hO 3 10002 (by decide) (tmp_v _ _ (by decide)) w1 hI1 (i0 + 1) hJ1) ?_
  rintro _ w2 _ ⟨rfl, ⟨k901, j901, hs901, hk901, rfl, hA2, hf901, hg901⟩ | ⟨j901, hs901, rfl, hS2, hJ2⟩⟩
  · skip
    show qG none (d + 1) 244 82 [(2, 95)] [(0, 0)] w2 142 Q9
    refine qG.br (P := (0 : Int) = 0) (pc1 := 92) (pc2 := 85) (st1 := []) rfl (fun h3 => ?_) (fun h3 => ?_)
    · skip
      refine qG.blk 1 (pc' := 93) (ls' := [(2, 95)]) (st' := [(0, 0)]) (w' := w2) (n' := 142) rfl ?_
      refine qG.ret rfl (by first | rfl | exact decide_eq_true (by omega)) ?_
      subst hQ9
      first | exact ⟨rfl, .inl ⟨k903, j903, (bnd_y ((bnd_y hs901).trans hs902)).trans hs903, hk903, rfl, hf903, hg903⟩⟩ | exact ⟨rfl, .inl ⟨k902, j902, bnd_k ((bnd_y hs901).trans hs902) hk902, hk902, rfl, hf902, hg902⟩⟩ | exact ⟨rfl, .inl ⟨k901, j901, bnd_k (bnd_k hs901 hk901) hk901, hk901, rfl, hf901, hg901⟩⟩
    · exact absurd h3 (by decide)
  · skip
    show qG none (d + 1) 244 82 [(2, 95)] [(0, 1)] w2 142 Q9
    have hP2 := PS.tr hP1 hS2 (by omega)
    have hI2 : PI w2 := hS2.2.2.1
    have hm2 := hS2.2.2.2.1
    have hb2 := hI2.b
    have hq2 := hP2.fs
    have hd2 := hP2.2.2.2.2.2.1
    rw [rsW_o (by decide), rsW_o (by decide)] at hq2
    rw [show rsW w L 95 33 = 0 from qup_k] at hd2
    refine qG.br (P := (1 : Int) = 0) (pc1 := 92) (pc2 := 85) (st1 := []) rfl (fun h4 => ?_) (fun h4 => ?_)
    · exact absurd h4 (by decide)
    · skip
      refine qG.blk 1 (pc' := 86) (ls' := [(2, 95)]) (st' := [(2, 95)]) (w' := w2) (n' := 142) rfl ?_
      refine qG.call (t := 240) (na := 1) (sk := 1) (md := 1) (ls1 := [(2, 95)]) (r1 := []) rfl rfl rfl rfl rfl ((Q_all hO 8).2.2 d w2 j901 (by omega) hI2 (by omega) (by omega) hJ2) ?_
      rintro _ w5 _ ⟨rfl, ⟨k902, j902, hs902, hk902, rfl, hA5, hf902, hg902⟩ | ⟨j902, hs902, rfl, hS5, hJ5⟩⟩
      · skip
        show qG none (d + 1) 244 89 [(2, 95)] [(0, 0)] w5 142 Q9
        refine qG.br (P := (0 : Int) = 0) (pc1 := 92) (pc2 := 94) (st1 := []) rfl (fun h6 => ?_) (fun h6 => ?_)
        · skip
          refine qG.blk 1 (pc' := 93) (ls' := [(2, 95)]) (st' := [(0, 0)]) (w' := w5) (n' := 142) rfl ?_
          refine qG.ret rfl (by first | rfl | exact decide_eq_true (by omega)) ?_
          subst hQ9
          first | exact ⟨rfl, .inl ⟨k903, j903, (bnd_y ((bnd_y hs901).trans hs902)).trans hs903, hk903, rfl, hf903, hg903⟩⟩ | exact ⟨rfl, .inl ⟨k902, j902, bnd_k ((bnd_y hs901).trans hs902) hk902, hk902, rfl, hf902, hg902⟩⟩ | exact ⟨rfl, .inl ⟨k901, j901, bnd_k (bnd_k hs901 hk901) hk901, hk901, rfl, hf901, hg901⟩⟩
        · exact absurd h6 (by decide)
      · skip
        show qG none (d + 1) 244 89 [(2, 95)] [(0, 1)] w5 142 Q9
        have hP5 := PS.tr hP2 hS5 (by omega)
        have hI5 : PI w5 := hS5.2.2.1
        have hm5 := hS5.2.2.2.1
        have hb5 := hI5.b
        have hq5 := hP5.fs
        have hd5 := hP5.2.2.2.2.2.1
        rw [rsW_o (by decide), rsW_o (by decide)] at hq5
        rw [show rsW w L 95 33 = 0 from qup_k] at hd5
        refine qG.br (P := (1 : Int) = 0) (pc1 := 92) (pc2 := 94) (st1 := []) rfl (fun h7 => ?_) (fun h7 => ?_)
        · exact absurd h7 (by decide)
        · skip
          refine qG.blk 3 (pc' := 99) (ls' := [(2, 95)]) (st' := [(0, w5 95 23), (2, 95)]) (w' := w5) (n' := 142) rfl ?_
          rw [show w5 95 23 = ((L : Nat) : Int) from (hP5.2.1.2 95 23 (fun _ => rfl)).trans ((rsW_o (by decide)).trans hL.1)]
          refine qG.blk 2 (pc' := 101) (ls' := [(2, 95)]) (st' := [(0, wrp (((L : Nat) : Int) + 1)), (2, 95)]) (w' := w5) (n' := 142) rfl ?_
          rw [show wrp (((L : Nat) : Int) + 1) = ((L + 1 : Nat) : Int) from wrp_id (by omega) (by omega)]
          refine qG.blk 3 (pc' := 108) (ls' := [(2, 95)]) (st' := [(2, w5 95 15)]) (w' := (qup w5 95 23 ((L + 1 : Nat) : Int))) (n' := 142) rfl ?_
          rw [show w5 95 15 = 109 from zref hI5.1 rfl rfl]
          refine qG.blk 4 (pc' := 116) (ls' := [(2, 95)]) (st' := [(0, w5 95 24), (0, ((L + 1 : Nat) : Int)), (2, 109)]) (w' := (qup w5 95 23 ((L + 1 : Nat) : Int))) (n' := 142) rfl ?_
          refine qG.ar (P := 0 ≤ ((L + 1 : Nat) : Int) ∧ ((L + 1 : Nat) : Int) < ((21 : Nat) : Int)) (P2 := 0 < (109 : Int) ∧ (109 : Int) ≤ ((142 : Nat) : Int)) (pc' := 117) (ls' := [(2, 95)]) (st' := []) (w' := (qup (qup w5 95 23 ((L + 1 : Nat) : Int)) 109 (L + 1) (w5 95 24))) (n' := 142) rfl (by omega) (by decide) ?_
          refine qG.blk 2 (pc' := 121) (ls' := [(2, 95)]) (st' := [(0, 159), (2, 95)]) (w' := (qup (qup w5 95 23 ((L + 1 : Nat) : Int)) 109 (L + 1) (w5 95 24))) (n' := 142) rfl ?_
          have hPw8 : PI (reW w5 L) := reW_P hI5 (by omega)
          show qG none (d + 1) 244 121 [(2, 95)] [(0, 159), (2, 95)] (reW w5 L) 142 Q9
          refine qG.call (t := 233) (na := 2) (sk := 1) (md := 1) (ls1 := [(2, 95), (0, 159)]) (r1 := []) rfl rfl rfl rfl rfl (K_needX (by omega) hO 159 20059 (by decide) (tmp_v _ _ (by decide)) (reW w5 L) hPw8 j902 (reW_J hO hJ5)) ?_
          rintro _ w8 _ ⟨rfl, ⟨k903, j903, hs903, hk903, rfl, hA8, hf903, hg903⟩ | ⟨j903, hs903, rfl, hS8, hJ903⟩⟩
          · skip
            show qG none (d + 1) 244 124 [(2, 95)] [(0, 0)] w8 142 Q9
            refine qG.ret rfl (by first | rfl | exact decide_eq_true (by omega)) ?_
            subst hQ9
            first | exact ⟨rfl, .inl ⟨k903, j903, (bnd_y ((bnd_y hs901).trans hs902)).trans hs903, hk903, rfl, hf903, hg903⟩⟩ | exact ⟨rfl, .inl ⟨k902, j902, bnd_k ((bnd_y hs901).trans hs902) hk902, hk902, rfl, hf902, hg902⟩⟩ | exact ⟨rfl, .inl ⟨k901, j901, bnd_k (bnd_k hs901 hk901) hk901, hk901, rfl, hf901, hg901⟩⟩
          · skip
            show qG none (d + 1) 244 124 [(2, 95)] [(0, 1)] w8 142 Q9
            refine qG.ret rfl (by first | rfl | exact decide_eq_true (by omega)) ?_
            subst hQ9
            exact ⟨rfl, .inr ⟨j903, (bnd_y ((bnd_y hs901).trans hs902)).trans hs903, rfl, hJ903⟩⟩
theorem K_aReasonX {d : Nat} (hd : 40 ≤ d) {S : Nat → qW → Prop} {C P : Nat → Int} (hO : SO S C P TMP) {t : Nat} (hC : ∀ i, t ≤ i → C i = -2) (ht6 : t ≤ 600) (L : Nat) (w : qW) (hP : PI w) (hD : w 95 24 ≤ w 95 28) (hL : RsL w L) (hL20 : L ≤ 20) (i0 : Nat) (hJ0 : S i0 w) : qG none d 244 0 [(2, 95)] [] w 142 (fun (r : qV) (w1 : qW) (n1 : Nat) => n1 = 142 ∧ XRT S P (sReas C 601 L i0) r w1) := by
  generalize hQ9 : (fun (r : qV) (w1 : qW) (n1 : Nat) => n1 = 142 ∧ XRT S P (sReas C 601 L i0) r w1) = Q9
  have hb0 := hP.b
  have ht0 := (hO.2.1 _ _ hJ0).1
  unfold TMP at ht0
  obtain ⟨d, rfl⟩ : ∃ d9, d = d9 + 1 := ⟨d - 1, by omega⟩
  refine qG.blk 3 (pc' := 6) (ls' := [(2, 95)]) (st' := [(0, 7), (0, w 95 27)]) (w' := w) (n' := 142) rfl ?_
  refine qG.br (P := w 95 27 = 7) (pc1 := 24) (pc2 := 9) (st1 := []) rfl (fun h7 => ?_) (fun h7 => ?_)
  · skip
    refine qG.blk 2 (pc' := 28) (ls' := [(2, 95)]) (st' := [(0, w 95 23)]) (w' := w) (n' := 142) rfl ?_
    rw [show w 95 23 = ((L : Nat) : Int) from hL.1]
    refine qG.blk 1 (pc' := 30) (ls' := [(2, 95)]) (st' := [(0, 20), (0, ((L : Nat) : Int))]) (w' := w) (n' := 142) rfl ?_
    refine qG.br (P := ((L : Nat) : Int) = 20) (pc1 := 33) (pc2 := 39) (st1 := []) rfl (fun h20 => ?_) (fun h20 => ?_)
    · skip
      refine qG.blk 2 (pc' := 35) (ls' := [(2, 95)]) (st' := [(0, 3), (2, 95)]) (w' := w) (n' := 142) rfl ?_
      refine qG.call (t := 232) (na := 2) (sk := 1) (md := 1) (ls1 := [(2, 95), (0, 3)]) (r1 := []) rfl rfl rfl rfl rfl (K_bad (by omega) 3 w hP.1 (by decide) (by decide)) ?_
      rintro _ _ _ ⟨rfl, rfl, rfl⟩
      show qG none (d + 1) 244 38 [(2, 95)] [(0, 0)] (qup (qup w 95 30 3) 95 31 (w 95 28)) 142 Q9
      refine qG.ret rfl (by first | rfl | exact decide_eq_true (by omega)) ?_
      subst hQ9
      exact ⟨rfl, .inl ⟨3, i0, (if_neg (by omega)).trans (if_pos (by omega)), .inr (.inr rfl), rfl, by rw [qup_j (by decide), qup_k], by rw [qup_k]; exact (hO.2.1 _ _ hJ0).2.1⟩⟩
    · skip
      refine qG.blk 2 (pc' := 43) (ls' := [(2, 95)]) (st' := [(2, w 95 14)]) (w' := w) (n' := 142) rfl ?_
      rw [show w 95 14 = 108 from zref hP.1 rfl rfl]
      refine qG.blk 2 (pc' := 47) (ls' := [(2, 95)]) (st' := [(0, w 95 23), (2, 108)]) (w' := w) (n' := 142) rfl ?_
      rw [show w 95 23 = ((L : Nat) : Int) from hL.1]
      refine qG.blk 4 (pc' := 54) (ls' := [(2, 95)]) (st' := [(0, wrp ((w 95 27) - 7)), (0, ((L : Nat) : Int)), (2, 108)]) (w' := w) (n' := 142) rfl ?_
      rw [show wrp ((w 95 27) - 7) = w 95 27 - 7 from wrp_id (by omega) (by omega)]
      refine qG.ar (P := 0 ≤ ((L : Nat) : Int) ∧ ((L : Nat) : Int) < ((40 : Nat) : Int)) (P2 := 0 < (108 : Int) ∧ (108 : Int) ≤ ((142 : Nat) : Int)) (pc' := 55) (ls' := [(2, 95)]) (st' := []) (w' := (qup w 108 L (w 95 27 - 7))) (n' := 142) rfl (by omega) (by decide) ?_
      refine qG.blk 2 (pc' := 59) (ls' := [(2, 95)]) (st' := [(2, w 95 15)]) (w' := (qup w 108 L (w 95 27 - 7))) (n' := 142) rfl ?_
      rw [show w 95 15 = 109 from zref hP.1 rfl rfl]
      refine qG.blk 2 (pc' := 63) (ls' := [(2, 95)]) (st' := [(0, w 95 23), (2, 109)]) (w' := (qup w 108 L (w 95 27 - 7))) (n' := 142) rfl ?_
      rw [show w 95 23 = ((L : Nat) : Int) from hL.1]
      refine qG.blk 2 (pc' := 67) (ls' := [(2, 95)]) (st' := [(0, w 95 24), (0, ((L : Nat) : Int)), (2, 109)]) (w' := (qup w 108 L (w 95 27 - 7))) (n' := 142) rfl ?_
      refine qG.ar (P := 0 ≤ ((L : Nat) : Int) ∧ ((L : Nat) : Int) < ((21 : Nat) : Int)) (P2 := 0 < (109 : Int) ∧ (109 : Int) ≤ ((142 : Nat) : Int)) (pc' := 68) (ls' := [(2, 95)]) (st' := []) (w' := (qup (qup w 108 L (w 95 27 - 7)) 109 L (w 95 24))) (n' := 142) rfl (by omega) (by decide) ?_
      refine qG.blk 3 (pc' := 73) (ls' := [(2, 95)]) (st' := []) (w' := (qup (qup (qup w 108 L (w 95 27 - 7)) 109 L (w 95 24)) 95 33 0)) (n' := 142) rfl ?_
      show qG none (d + 1) 244 73 [(2, 95)] [] (rsW w L) 142 Q9
      subst hQ9
      rw [reas_X hC ht6 (by omega) (by omega)]
      exact K_aReasonBX (by omega) hO L w hP hD hL (by omega) (by omega) i0 hJ0
  · skip
    refine qG.blk 3 (pc' := 15) (ls' := [(2, 95)]) (st' := [(0, 8), (0, w 95 27)]) (w' := w) (n' := 142) rfl ?_
    refine qG.br (P := w 95 27 = 8) (pc1 := 24) (pc2 := 18) (st1 := []) rfl (fun h8 => ?_) (fun h8 => ?_)
    · skip
      refine qG.blk 2 (pc' := 28) (ls' := [(2, 95)]) (st' := [(0, w 95 23)]) (w' := w) (n' := 142) rfl ?_
      rw [show w 95 23 = ((L : Nat) : Int) from hL.1]
      refine qG.blk 1 (pc' := 30) (ls' := [(2, 95)]) (st' := [(0, 20), (0, ((L : Nat) : Int))]) (w' := w) (n' := 142) rfl ?_
      refine qG.br (P := ((L : Nat) : Int) = 20) (pc1 := 33) (pc2 := 39) (st1 := []) rfl (fun h20 => ?_) (fun h20 => ?_)
      · skip
        refine qG.blk 2 (pc' := 35) (ls' := [(2, 95)]) (st' := [(0, 3), (2, 95)]) (w' := w) (n' := 142) rfl ?_
        refine qG.call (t := 232) (na := 2) (sk := 1) (md := 1) (ls1 := [(2, 95), (0, 3)]) (r1 := []) rfl rfl rfl rfl rfl (K_bad (by omega) 3 w hP.1 (by decide) (by decide)) ?_
        rintro _ _ _ ⟨rfl, rfl, rfl⟩
        show qG none (d + 1) 244 38 [(2, 95)] [(0, 0)] (qup (qup w 95 30 3) 95 31 (w 95 28)) 142 Q9
        refine qG.ret rfl (by first | rfl | exact decide_eq_true (by omega)) ?_
        subst hQ9
        exact ⟨rfl, .inl ⟨3, i0, (if_neg (by omega)).trans (if_pos (by omega)), .inr (.inr rfl), rfl, by rw [qup_j (by decide), qup_k], by rw [qup_k]; exact (hO.2.1 _ _ hJ0).2.1⟩⟩
      · skip
        refine qG.blk 2 (pc' := 43) (ls' := [(2, 95)]) (st' := [(2, w 95 14)]) (w' := w) (n' := 142) rfl ?_
        rw [show w 95 14 = 108 from zref hP.1 rfl rfl]
        refine qG.blk 2 (pc' := 47) (ls' := [(2, 95)]) (st' := [(0, w 95 23), (2, 108)]) (w' := w) (n' := 142) rfl ?_
        rw [show w 95 23 = ((L : Nat) : Int) from hL.1]
        refine qG.blk 4 (pc' := 54) (ls' := [(2, 95)]) (st' := [(0, wrp ((w 95 27) - 7)), (0, ((L : Nat) : Int)), (2, 108)]) (w' := w) (n' := 142) rfl ?_
        rw [show wrp ((w 95 27) - 7) = w 95 27 - 7 from wrp_id (by omega) (by omega)]
        refine qG.ar (P := 0 ≤ ((L : Nat) : Int) ∧ ((L : Nat) : Int) < ((40 : Nat) : Int)) (P2 := 0 < (108 : Int) ∧ (108 : Int) ≤ ((142 : Nat) : Int)) (pc' := 55) (ls' := [(2, 95)]) (st' := []) (w' := (qup w 108 L (w 95 27 - 7))) (n' := 142) rfl (by omega) (by decide) ?_
        refine qG.blk 2 (pc' := 59) (ls' := [(2, 95)]) (st' := [(2, w 95 15)]) (w' := (qup w 108 L (w 95 27 - 7))) (n' := 142) rfl ?_
        rw [show w 95 15 = 109 from zref hP.1 rfl rfl]
        refine qG.blk 2 (pc' := 63) (ls' := [(2, 95)]) (st' := [(0, w 95 23), (2, 109)]) (w' := (qup w 108 L (w 95 27 - 7))) (n' := 142) rfl ?_
        rw [show w 95 23 = ((L : Nat) : Int) from hL.1]
        refine qG.blk 2 (pc' := 67) (ls' := [(2, 95)]) (st' := [(0, w 95 24), (0, ((L : Nat) : Int)), (2, 109)]) (w' := (qup w 108 L (w 95 27 - 7))) (n' := 142) rfl ?_
        refine qG.ar (P := 0 ≤ ((L : Nat) : Int) ∧ ((L : Nat) : Int) < ((21 : Nat) : Int)) (P2 := 0 < (109 : Int) ∧ (109 : Int) ≤ ((142 : Nat) : Int)) (pc' := 68) (ls' := [(2, 95)]) (st' := []) (w' := (qup (qup w 108 L (w 95 27 - 7)) 109 L (w 95 24))) (n' := 142) rfl (by omega) (by decide) ?_
        refine qG.blk 3 (pc' := 73) (ls' := [(2, 95)]) (st' := []) (w' := (qup (qup (qup w 108 L (w 95 27 - 7)) 109 L (w 95 24)) 95 33 0)) (n' := 142) rfl ?_
        show qG none (d + 1) 244 73 [(2, 95)] [] (rsW w L) 142 Q9
        subst hQ9
        rw [reas_X hC ht6 (by omega) (by omega)]
        exact K_aReasonBX (by omega) hO L w hP hD hL (by omega) (by omega) i0 hJ0
    · skip
      refine qG.blk 2 (pc' := 20) (ls' := [(2, 95)]) (st' := [(0, 1), (2, 95)]) (w' := w) (n' := 142) rfl ?_
      refine qG.call (t := 232) (na := 2) (sk := 1) (md := 1) (ls1 := [(2, 95), (0, 1)]) (r1 := []) rfl rfl rfl rfl rfl (K_bad (by omega) 1 w hP.1 (by decide) (by decide)) ?_
      rintro _ _ _ ⟨rfl, rfl, rfl⟩
      show qG none (d + 1) 244 23 [(2, 95)] [(0, 0)] (qup (qup w 95 30 1) 95 31 (w 95 28)) 142 Q9
      refine qG.ret rfl (by first | rfl | exact decide_eq_true (by omega)) ?_
      subst hQ9
      exact ⟨rfl, .inl ⟨1, i0, if_pos (by omega), .inl rfl, rfl, by rw [qup_j (by decide), qup_k], by rw [qup_k]; exact (hO.2.1 _ _ hJ0).2.1⟩⟩
