/-! the class's text(k) -/
theorem qup_nk {w : qW} {p j q k : Nat} {v : Int} (h : q ≠ p) : qup w p j v q k = w q k := congrFun (qup_ne h) k
/-- rows of steps or reasons, one behind the other: the fault (0: none), how many, the token where it stands -/
noncomputable def sAll (C : Nat → Int) (R : Nat → Nat → Int × Nat) : Nat → Nat → Nat → Int × Nat × Nat
  | 0, c, i => (1, c, i)
  | f + 1, c, i => if C i = -2 then (0, c, i) else if (R c i).1 = 0 then sAll C R f (c + 1) (R c i).2 else ((R c i).1, c, (R c i).2)
theorem sAll_e {C : Nat → Int} {R : Nat → Nat → Int × Nat} {f c i : Nat} (h : C i = -2) : sAll C R (f + 1) c i = (0, c, i) := if_pos h
theorem sAll_s {C : Nat → Int} {R : Nat → Nat → Int × Nat} {f c i j : Nat} (h : ¬ C i = -2) (h2 : R c i = (0, j)) : sAll C R (f + 1) c i = sAll C R f (c + 1) j := by
  show (if C i = -2 then _ else _) = _
  rw [if_neg h, h2]
  exact if_pos rfl
theorem sAll_f {C : Nat → Int} {R : Nat → Nat → Int × Nat} {f c i j : Nat} {k : Int} (h : ¬ C i = -2) (h2 : R c i = (k, j)) (hk : k = 1 ∨ k = 2 ∨ k = 3) : sAll C R (f + 1) c i = (k, c, j) := by
  show (if C i = -2 then _ else _) = _
  rw [if_neg h, h2]
  exact if_neg (by show ¬ k = 0; omega)
theorem sReas_20 {C : Nat → Int} {n c i j : Nat} (hc : 20 ≤ c) (h : sReas C n c i = (0, j)) : False := by
  unfold sReas at h
  split at h
  · cases h
  · first | cases h | (rw [if_pos hc] at h; cases h)
theorem sStep_40 {C : Nat → Int} {c i j : Nat} (hc : 40 ≤ c) (h : sStep C c i = (0, j)) : False := by
  unfold sStep at h
  split at h
  · cases h
  · first | cases h | (rw [if_pos hc] at h; cases h)
theorem reas_3 {C : Nat → Int} {n c i : Nat} (hA : C i = 10000 ∨ C i = 10001) (hc : ¬ 20 ≤ c) : sReas C n c i = bnd (bnd (sNeed C 10002 (i + 1)) (sCho C n (sCond C n 8))) (sNeed C 20059) := by
  unfold sReas
  rw [if_neg (fun z => z hA), if_neg hc]
noncomputable def tkM (m : List Nat) : Bool := m.all (fun e => !Nat.beq (e % 1000) 8 && (!Nat.beq (e % 1000) 10 && !Nat.beq (e % 1000) 11))
theorem tkM_p {m : List Nat} (h : tkM m = true) {p : Nat} (hp : p = 8 ∨ p = 10 ∨ p = 11) : m.all (fun e => !Nat.beq (e % 1000) p) = true := by
  rw [List.all_eq_true]
  intro e he
  have q := List.all_eq_true.mp h e he
  simp only [Bool.and_eq_true] at q
  rcases hp with rfl | rfl | rfl
  · exact q.1
  · exact q.2.1
  · exact q.2.2
theorem cd_cg {w w2 : qW} (h8 : w2 8 4 = w 8 4) (h10 : ∀ j, w2 10 j = w 10 j) : cdF w2 = cdF w := funext fun i => by unfold cdF; rw [h8, h10]
theorem pl_cg {w w2 : qW} (h8 : w2 8 4 = w 8 4) (h1 : w2 8 1 = w 8 1) (h11 : ∀ j, w2 11 j = w 11 j) : plF w2 = plF w := funext fun i => by unfold plF; rw [h8, h1, h11]
theorem AW.cd {m : List Nat} {w w2 : qW} (a : AW m w w2) (h : tkM m = true) : cdF w2 = cdF w ∧ plF w2 = plF w ∧ w2 8 4 = w 8 4 ∧ (∀ k, w2 8 k = w 8 k) := by
  have e8 := a.a (p := 8) (by decide) (tkM_p h (.inl rfl))
  have e10 := a.a (p := 10) (by decide) (tkM_p h (.inr (.inl rfl)))
  have e11 := a.a (p := 11) (by decide) (tkM_p h (.inr (.inr rfl)))
  exact ⟨cd_cg (e8 4) e10, pl_cg (e8 4) (e8 1) e11, e8 4, e8⟩
noncomputable def PEM : List Nat := [15]
theorem ax_up {w : qW} {i p j : Nat} {v : Int} (h : ¬ (p = 8 ∧ j = 5)) : qup (axW w i) p j v = axW (qup w p j v) i := funext fun q => funext fun k => by
  by_cases e : q = p ∧ k = j
  · obtain ⟨rfl, rfl⟩ := e
    rw [qup_k, axW_o h, qup_k]
  · rw [qup_f e]
    by_cases e2 : q = 8 ∧ k = 5
    · obtain ⟨rfl, rfl⟩ := e2
      rw [axW_at, axW_at]
    · rw [axW_o e2, axW_o e2, qup_f e]
theorem K_tTokN {d : Nat} (hd : 0 ≤ d) (m : Nat) (hm6 : m ≤ 601) (w : qW) (hI : yInv zgf zga zra zSp w) (hm : w 8 4 = (m : Int)) (i : Nat) (hi : i ≤ m) : qG none d 146 0 [(2, 8)] [] (axW w i) 142 (fun (r : qV) (w1 : qW) (n1 : Nat) => n1 = 142 ∧ r = (0, (i : Int)) ∧ w1 = axW w i) := by
  generalize hQ9 : (fun (r : qV) (w1 : qW) (n1 : Nat) => n1 = 142 ∧ r = (0, (i : Int)) ∧ w1 = axW w i) = Q9
  refine qG.blk 2 (pc' := 4) (ls' := [(2, 8)]) (st' := [(0, (axW w i) 8 5)]) (w' := (axW w i)) (n' := 142) rfl ?_
  rw [show (axW w i) 8 5 = ((i : Nat) : Int) from axW_at]
  refine qG.ret rfl rfl ?_
  subst hQ9
  exact ⟨rfl, rfl, rfl⟩
theorem K_pReas {d : Nat} (hd : 24 ≤ d) (c : Nat) (hc : c ≤ 20) (m : Nat) (hm6 : m ≤ 601) (w : qW) (hI : yInv zgf zga zra zSp w) (hm : w 8 4 = (m : Int)) (i : Nat) (hi : i ≤ m) : qG none d 77 0 [(2, 12), (2, 8), (0, ((c : Nat) : Int)), (9, 0)] [] (axW w i) 142 (fun (r : qV) (w1 : qW) (n1 : Nat) => n1 = 142 ∧ ∃ w2, AW PEM w w2 ∧ RD w2 m (sReas (cdF w) 601 c i) r w1) := by
  generalize hQ9 : (fun (r : qV) (w1 : qW) (n1 : Nat) => n1 = 142 ∧ ∃ w2, AW PEM w w2 ∧ RD w2 m (sReas (cdF w) 601 c i) r w1) = Q9
  obtain ⟨d, rfl⟩ : ∃ d9, d = d9 + 1 := ⟨d - 1, by omega⟩
  refine qG.blk 1 (pc' := 1) (ls' := [(2, 12), (2, 8), (0, ((c : Nat) : Int)), (9, 0)]) (st' := [(2, 8)]) (w' := (axW w i)) (n' := 142) rfl ?_
  refine qG.call (t := 145) (na := 1) (sk := 1) (md := 1) (ls1 := [(2, 8)]) (r1 := []) rfl rfl rfl rfl rfl (K_tCode (by omega) m hm6 w hI hm i (by omega)) ?_
  rintro _ w7 _ ⟨rfl, rfl, hw7⟩
  rw [hw7]
  show qG none (d + 1) 77 4 [(2, 12), (2, 8), (0, ((c : Nat) : Int)), (9, 0)] [(0, cdF w i)] (axW w i) 142 Q9
  refine qG.blk 3 (pc' := 9) (ls' := [(2, 12), (2, 8), (0, ((c : Nat) : Int)), (0, cdF w i)]) (st' := [(0, 10000), (0, cdF w i)]) (w' := (axW w i)) (n' := 142) rfl ?_
  refine qG.br (P := cdF w i = 10000) (pc1 := 25) (pc2 := 12) (st1 := []) rfl (fun hq9 => ?_) (fun hq9 => ?_)
  · skip
    have hr0 : cdF w i = 10000 ∨ cdF w i = 10001 := .inl hq9
    have hlt : i < m := cd_lt hm (by omega)
    refine qG.blk 1 (pc' := 26) (ls' := [(2, 12), (2, 8), (0, ((c : Nat) : Int)), (0, cdF w i)]) (st' := [(0, ((c : Nat) : Int))]) (w' := (axW w i)) (n' := 142) rfl ?_
    refine qG.br (P := ((c : Nat) : Int) < 0) (pc1 := 35) (pc2 := 29) (st1 := []) rfl (fun h1 => ?_) (fun h1 => ?_)
    · exfalso; omega
    · skip
      refine qG.blk 2 (pc' := 32) (ls' := [(2, 12), (2, 8), (0, ((c : Nat) : Int)), (0, cdF w i)]) (st' := [(0, 20), (0, ((c : Nat) : Int))]) (w' := (axW w i)) (n' := 142) rfl ?_
      refine qG.br (P := ((c : Nat) : Int) < 20) (pc1 := 41) (pc2 := 35) (st1 := []) rfl (fun h32 => ?_) (fun h32 => ?_)
      · skip
        refine qG.blk 2 (pc' := 45) (ls' := [(2, 12), (2, 8), (0, ((c : Nat) : Int)), (0, cdF w i)]) (st' := [(2, (axW w i) 12 2)]) (w' := (axW w i)) (n' := 142) rfl ?_
        rw [show (axW w i) 12 2 = 15 from (axW_o (by decide)).trans (zref hI rfl rfl)]
        refine qG.blk 2 (pc' := 47) (ls' := [(2, 12), (2, 8), (0, ((c : Nat) : Int)), (0, cdF w i)]) (st' := [(2, 8), (0, ((c : Nat) : Int)), (2, 15)]) (w' := (axW w i)) (n' := 142) rfl ?_
        refine qG.call (t := 146) (na := 1) (sk := 1) (md := 1) (ls1 := [(2, 8)]) (r1 := [(0, ((c : Nat) : Int)), (2, 15)]) rfl rfl rfl rfl rfl (K_tTokN (by omega) m hm6 w hI hm i (by omega)) ?_
        rintro _ w7 _ ⟨rfl, rfl, hw7⟩
        rw [hw7]
        show qG none (d + 1) 77 50 [(2, 12), (2, 8), (0, ((c : Nat) : Int)), (0, cdF w i)] [(0, ((i : Nat) : Int)), (0, ((c : Nat) : Int)), (2, 15)] (axW w i) 142 Q9
        refine qG.ar (P := 0 ≤ ((c : Nat) : Int) ∧ ((c : Nat) : Int) < ((20 : Nat) : Int)) (P2 := 0 < (15 : Int) ∧ (15 : Int) ≤ ((142 : Nat) : Int)) (pc' := 51) (ls' := [(2, 12), (2, 8), (0, ((c : Nat) : Int)), (0, cdF w i)]) (st' := []) (w' := (qup (axW w i) 15 c ((i : Nat) : Int))) (n' := 142) rfl (by omega) (by decide) ?_
        refine qG.blk 1 (pc' := 52) (ls' := [(2, 12), (2, 8), (0, ((c : Nat) : Int)), (0, cdF w i)]) (st' := [(2, 8)]) (w' := (qup (axW w i) 15 c ((i : Nat) : Int))) (n' := 142) rfl ?_
        rw [show (qup (axW w i) 15 c ((i : Nat) : Int)) = axW (qup w 15 c ((i : Nat) : Int)) i from by rw [ax_up (by omega)]]
        obtain ⟨w2, hww2⟩ : ∃ q : qW, q = (qup w 15 c ((i : Nat) : Int)) := ⟨_, rfl⟩
        rw [← hww2]
        have hA2 : AW PEM w w2 := by rw [hww2]; exact (AW.rf hI).arr (zup_a hI (b := (-2147483648, 2147483647)) rfl rfl ⟨by omega, by omega⟩) (by decide) (by decide)
        have hI2 := hA2.1
        obtain ⟨ecd, epl, e84, e8⟩ := hA2.cd (by decide)
        have hm2 : w2 8 4 = (m : Int) := e84.trans hm
        have hr9 : cdF w2 i = 10000 ∨ cdF w2 i = 10001 := by rw [ecd]; omega
        refine qG.call (t := 149) (na := 1) (sk := 1) (md := 1) (ls1 := [(2, 8)]) (r1 := []) rfl rfl rfl rfl rfl (K_tNext (by omega) m hm6 w2 hI2 hm2 i (by omega)) ?_
        rintro _ w7 _ ⟨rfl, rfl, hw7⟩
        rw [hw7]
        show qG none (d + 1) 77 55 [(2, 12), (2, 8), (0, ((c : Nat) : Int)), (0, cdF w i)] [] (axW w2 (i + 1)) 142 Q9
        refine qG.blk 2 (pc' := 59) (ls' := [(2, 12), (2, 8), (0, ((c : Nat) : Int)), (0, cdF w i)]) (st' := [(0, 10002), (2, 8)]) (w' := (axW w2 (i + 1))) (n' := 142) rfl ?_
        refine qG.call (t := 151) (na := 2) (sk := 1) (md := 1) (ls1 := [(2, 8), (0, 10002)]) (r1 := []) rfl rfl rfl rfl rfl (K_tNeeds (by omega) 10002 (by decide) m hm6 w2 hI2 hm2 (i + 1) (by omega)) ?_
        rintro ⟨_, x9⟩ w7 _ ⟨rfl, hT⟩; rcases hT with ⟨j59, hs59, hl59, hx9, rfl⟩ | ⟨k59, j59, hs59, hk59, hl59, hx9, rfl⟩ <;> obtain ⟨rfl, rfl⟩ := Prod.mk.inj hx9
        · skip
          show qG none (d + 1) 77 62 [(2, 12), (2, 8), (0, ((c : Nat) : Int)), (0, cdF w i)] [(0, 1)] (axW w2 j59) 142 Q9
          refine qG.br (P := (1 : Int) = 0) (pc1 := 87) (pc2 := 65) (st1 := []) rfl (fun h2 => ?_) (fun h2 => ?_)
          · exact absurd h2 (by decide)
          · skip
            refine qG.blk 2 (pc' := 67) (ls' := [(2, 12), (2, 8), (0, ((c : Nat) : Int)), (0, cdF w i)]) (st' := [(0, 0), (2, 8)]) (w' := (axW w2 j59)) (n' := 142) rfl ?_
            refine qG.call (t := 78) (na := 2) (sk := 0) (md := 0) (ls1 := [(2, 8), (0, 0), (9, 0), (9, 0)]) (r1 := []) rfl rfl rfl rfl rfl ((P_pq 8 (by decide)).2 d (by omega) m hm6 w2 hI2 hm2 j59 (by omega)) ?_
            rintro ⟨_, x9⟩ w7 _ ⟨rfl, hT⟩; rcases hT with ⟨j67, hs67, hl67, hx9, rfl⟩ | ⟨k67, j67, hs67, hk67, hl67, hx9, rfl⟩ <;> obtain ⟨rfl, rfl⟩ := Prod.mk.inj hx9
            · skip
              show qG none (d + 1) 77 70 [(2, 12), (2, 8), (0, ((c : Nat) : Int)), (0, cdF w i)] [(0, 1)] (axW w2 j67) 142 Q9
              refine qG.br (P := (1 : Int) = 0) (pc1 := 87) (pc2 := 73) (st1 := []) rfl (fun h3 => ?_) (fun h3 => ?_)
              · exact absurd h3 (by decide)
              · skip
                refine qG.blk 2 (pc' := 77) (ls' := [(2, 12), (2, 8), (0, ((c : Nat) : Int)), (0, cdF w i)]) (st' := [(0, 20059), (2, 8)]) (w' := (axW w2 j67)) (n' := 142) rfl ?_
                refine qG.call (t := 151) (na := 2) (sk := 1) (md := 1) (ls1 := [(2, 8), (0, 20059)]) (r1 := []) rfl rfl rfl rfl rfl (K_tNeeds (by omega) 20059 (by decide) m hm6 w2 hI2 hm2 j67 (by omega)) ?_
                rintro ⟨_, x9⟩ w7 _ ⟨rfl, hT⟩; rcases hT with ⟨j77, hs77, hl77, hx9, rfl⟩ | ⟨k77, j77, hs77, hk77, hl77, hx9, rfl⟩ <;> obtain ⟨rfl, rfl⟩ := Prod.mk.inj hx9
                · skip
                  show qG none (d + 1) 77 80 [(2, 12), (2, 8), (0, ((c : Nat) : Int)), (0, cdF w i)] [(0, 1)] (axW w2 j77) 142 Q9
                  refine qG.br (P := (1 : Int) = 0) (pc1 := 87) (pc2 := 83) (st1 := []) rfl (fun h4 => ?_) (fun h4 => ?_)
                  · exact absurd h4 (by decide)
                  · skip
                    refine qG.blk 2 (pc' := 88) (ls' := [(2, 12), (2, 8), (0, ((c : Nat) : Int)), (0, cdF w i)]) (st' := [(0, 1)]) (w' := (axW w2 j77)) (n' := 142) rfl ?_
                    refine qG.ret rfl (by first | rfl | exact decide_eq_true (by omega)) ?_
                    subst hQ9
                    first | exact ⟨rfl, w, AW.rf hI, .inr ⟨1, i, if_pos (fun z => z.elim hq9 hq16), .inl rfl, hi, rfl, rfl⟩⟩ | exact ⟨rfl, w, AW.rf hI, .inr ⟨3, i, (if_neg (fun z => z hr0)).trans (if_pos (by omega)), .inr (.inr rfl), hi, rfl, rfl⟩⟩ | (rw [← ecd]; exact ⟨rfl, w2, hA2, .inl ⟨j77, (reas_3 hr9 (by omega)).trans ((bnd_y ((bnd_y hs59).trans hs67)).trans hs77), hl77, rfl, rfl⟩⟩) | (rw [← ecd]; exact ⟨rfl, w2, hA2, .inr ⟨k77, j77, (reas_3 hr9 (by omega)).trans ((bnd_y ((bnd_y hs59).trans hs67)).trans hs77), hk77, hl77, rfl, rfl⟩⟩) | (rw [← ecd]; exact ⟨rfl, w2, hA2, .inr ⟨k67, j67, (reas_3 hr9 (by omega)).trans (bnd_k ((bnd_y hs59).trans hs67) hk67), hk67, hl67, rfl, rfl⟩⟩) | (rw [← ecd]; exact ⟨rfl, w2, hA2, .inr ⟨k59, j59, (reas_3 hr9 (by omega)).trans (bnd_k (bnd_k hs59 hk59) hk59), hk59, hl59, rfl, rfl⟩⟩)
                · skip
                  show qG none (d + 1) 77 80 [(2, 12), (2, 8), (0, ((c : Nat) : Int)), (0, cdF w i)] [(0, 0)] (axF w2 k77 j77) 142 Q9
                  refine qG.br (P := (0 : Int) = 0) (pc1 := 87) (pc2 := 83) (st1 := []) rfl (fun h5 => ?_) (fun h5 => ?_)
                  · skip
                    refine qG.blk 1 (pc' := 88) (ls' := [(2, 12), (2, 8), (0, ((c : Nat) : Int)), (0, cdF w i)]) (st' := [(0, 0)]) (w' := (axF w2 k77 j77)) (n' := 142) rfl ?_
                    refine qG.ret rfl (by first | rfl | exact decide_eq_true (by omega)) ?_
                    subst hQ9
                    first | exact ⟨rfl, w, AW.rf hI, .inr ⟨1, i, if_pos (fun z => z.elim hq9 hq16), .inl rfl, hi, rfl, rfl⟩⟩ | exact ⟨rfl, w, AW.rf hI, .inr ⟨3, i, (if_neg (fun z => z hr0)).trans (if_pos (by omega)), .inr (.inr rfl), hi, rfl, rfl⟩⟩ | (rw [← ecd]; exact ⟨rfl, w2, hA2, .inl ⟨j77, (reas_3 hr9 (by omega)).trans ((bnd_y ((bnd_y hs59).trans hs67)).trans hs77), hl77, rfl, rfl⟩⟩) | (rw [← ecd]; exact ⟨rfl, w2, hA2, .inr ⟨k77, j77, (reas_3 hr9 (by omega)).trans ((bnd_y ((bnd_y hs59).trans hs67)).trans hs77), hk77, hl77, rfl, rfl⟩⟩) | (rw [← ecd]; exact ⟨rfl, w2, hA2, .inr ⟨k67, j67, (reas_3 hr9 (by omega)).trans (bnd_k ((bnd_y hs59).trans hs67) hk67), hk67, hl67, rfl, rfl⟩⟩) | (rw [← ecd]; exact ⟨rfl, w2, hA2, .inr ⟨k59, j59, (reas_3 hr9 (by omega)).trans (bnd_k (bnd_k hs59 hk59) hk59), hk59, hl59, rfl, rfl⟩⟩)
                  · exact absurd h5 (by decide)
            · skip
              show qG none (d + 1) 77 70 [(2, 12), (2, 8), (0, ((c : Nat) : Int)), (0, cdF w i)] [(0, 0)] (axF w2 k67 j67) 142 Q9
              refine qG.br (P := (0 : Int) = 0) (pc1 := 87) (pc2 := 73) (st1 := []) rfl (fun h6 => ?_) (fun h6 => ?_)
              · skip
                refine qG.blk 1 (pc' := 88) (ls' := [(2, 12), (2, 8), (0, ((c : Nat) : Int)), (0, cdF w i)]) (st' := [(0, 0)]) (w' := (axF w2 k67 j67)) (n' := 142) rfl ?_
                refine qG.ret rfl (by first | rfl | exact decide_eq_true (by omega)) ?_
                subst hQ9
                first | exact ⟨rfl, w, AW.rf hI, .inr ⟨1, i, if_pos (fun z => z.elim hq9 hq16), .inl rfl, hi, rfl, rfl⟩⟩ | exact ⟨rfl, w, AW.rf hI, .inr ⟨3, i, (if_neg (fun z => z hr0)).trans (if_pos (by omega)), .inr (.inr rfl), hi, rfl, rfl⟩⟩ | (rw [← ecd]; exact ⟨rfl, w2, hA2, .inl ⟨j77, (reas_3 hr9 (by omega)).trans ((bnd_y ((bnd_y hs59).trans hs67)).trans hs77), hl77, rfl, rfl⟩⟩) | (rw [← ecd]; exact ⟨rfl, w2, hA2, .inr ⟨k77, j77, (reas_3 hr9 (by omega)).trans ((bnd_y ((bnd_y hs59).trans hs67)).trans hs77), hk77, hl77, rfl, rfl⟩⟩) | (rw [← ecd]; exact ⟨rfl, w2, hA2, .inr ⟨k67, j67, (reas_3 hr9 (by omega)).trans (bnd_k ((bnd_y hs59).trans hs67) hk67), hk67, hl67, rfl, rfl⟩⟩) | (rw [← ecd]; exact ⟨rfl, w2, hA2, .inr ⟨k59, j59, (reas_3 hr9 (by omega)).trans (bnd_k (bnd_k hs59 hk59) hk59), hk59, hl59, rfl, rfl⟩⟩)
              · exact absurd h6 (by decide)
        · skip
          show qG none (d + 1) 77 62 [(2, 12), (2, 8), (0, ((c : Nat) : Int)), (0, cdF w i)] [(0, 0)] (axF w2 k59 j59) 142 Q9
          refine qG.br (P := (0 : Int) = 0) (pc1 := 87) (pc2 := 65) (st1 := []) rfl (fun h7 => ?_) (fun h7 => ?_)
          · skip
            refine qG.blk 1 (pc' := 88) (ls' := [(2, 12), (2, 8), (0, ((c : Nat) : Int)), (0, cdF w i)]) (st' := [(0, 0)]) (w' := (axF w2 k59 j59)) (n' := 142) rfl ?_
            refine qG.ret rfl (by first | rfl | exact decide_eq_true (by omega)) ?_
            subst hQ9
            first | exact ⟨rfl, w, AW.rf hI, .inr ⟨1, i, if_pos (fun z => z.elim hq9 hq16), .inl rfl, hi, rfl, rfl⟩⟩ | exact ⟨rfl, w, AW.rf hI, .inr ⟨3, i, (if_neg (fun z => z hr0)).trans (if_pos (by omega)), .inr (.inr rfl), hi, rfl, rfl⟩⟩ | (rw [← ecd]; exact ⟨rfl, w2, hA2, .inl ⟨j77, (reas_3 hr9 (by omega)).trans ((bnd_y ((bnd_y hs59).trans hs67)).trans hs77), hl77, rfl, rfl⟩⟩) | (rw [← ecd]; exact ⟨rfl, w2, hA2, .inr ⟨k77, j77, (reas_3 hr9 (by omega)).trans ((bnd_y ((bnd_y hs59).trans hs67)).trans hs77), hk77, hl77, rfl, rfl⟩⟩) | (rw [← ecd]; exact ⟨rfl, w2, hA2, .inr ⟨k67, j67, (reas_3 hr9 (by omega)).trans (bnd_k ((bnd_y hs59).trans hs67) hk67), hk67, hl67, rfl, rfl⟩⟩) | (rw [← ecd]; exact ⟨rfl, w2, hA2, .inr ⟨k59, j59, (reas_3 hr9 (by omega)).trans (bnd_k (bnd_k hs59 hk59) hk59), hk59, hl59, rfl, rfl⟩⟩)
          · exact absurd h7 (by decide)
      · skip
        refine qG.blk 2 (pc' := 37) (ls' := [(2, 12), (2, 8), (0, ((c : Nat) : Int)), (0, cdF w i)]) (st' := [(0, 3), (2, 8)]) (w' := (axW w i)) (n' := 142) rfl ?_
        refine qG.call (t := 153) (na := 2) (sk := 1) (md := 1) (ls1 := [(2, 8), (0, 3)]) (r1 := []) rfl rfl rfl rfl rfl (K_tFail (by omega) 3 m hm6 w hI hm i (by omega)) ?_
        rintro _ w7 _ ⟨rfl, rfl, hw7⟩
        rw [hw7]
        show qG none (d + 1) 77 40 [(2, 12), (2, 8), (0, ((c : Nat) : Int)), (0, cdF w i)] [(0, 0)] (axF w 3 i) 142 Q9
        refine qG.ret rfl (by first | rfl | exact decide_eq_true (by omega)) ?_
        subst hQ9
        first | exact ⟨rfl, w, AW.rf hI, .inr ⟨1, i, if_pos (fun z => z.elim hq9 hq16), .inl rfl, hi, rfl, rfl⟩⟩ | exact ⟨rfl, w, AW.rf hI, .inr ⟨3, i, (if_neg (fun z => z hr0)).trans (if_pos (by omega)), .inr (.inr rfl), hi, rfl, rfl⟩⟩ | (rw [← ecd]; exact ⟨rfl, w2, hA2, .inl ⟨j77, (reas_3 hr9 (by omega)).trans ((bnd_y ((bnd_y hs59).trans hs67)).trans hs77), hl77, rfl, rfl⟩⟩) | (rw [← ecd]; exact ⟨rfl, w2, hA2, .inr ⟨k77, j77, (reas_3 hr9 (by omega)).trans ((bnd_y ((bnd_y hs59).trans hs67)).trans hs77), hk77, hl77, rfl, rfl⟩⟩) | (rw [← ecd]; exact ⟨rfl, w2, hA2, .inr ⟨k67, j67, (reas_3 hr9 (by omega)).trans (bnd_k ((bnd_y hs59).trans hs67) hk67), hk67, hl67, rfl, rfl⟩⟩) | (rw [← ecd]; exact ⟨rfl, w2, hA2, .inr ⟨k59, j59, (reas_3 hr9 (by omega)).trans (bnd_k (bnd_k hs59 hk59) hk59), hk59, hl59, rfl, rfl⟩⟩)
  · skip
    refine qG.blk 2 (pc' := 16) (ls' := [(2, 12), (2, 8), (0, ((c : Nat) : Int)), (0, cdF w i)]) (st' := [(0, 10001), (0, cdF w i)]) (w' := (axW w i)) (n' := 142) rfl ?_
    refine qG.br (P := cdF w i = 10001) (pc1 := 25) (pc2 := 19) (st1 := []) rfl (fun hq16 => ?_) (fun hq16 => ?_)
    · skip
      have hr0 : cdF w i = 10000 ∨ cdF w i = 10001 := .inr hq16
      have hlt : i < m := cd_lt hm (by omega)
      refine qG.blk 1 (pc' := 26) (ls' := [(2, 12), (2, 8), (0, ((c : Nat) : Int)), (0, cdF w i)]) (st' := [(0, ((c : Nat) : Int))]) (w' := (axW w i)) (n' := 142) rfl ?_
      refine qG.br (P := ((c : Nat) : Int) < 0) (pc1 := 35) (pc2 := 29) (st1 := []) rfl (fun h8 => ?_) (fun h8 => ?_)
      · exfalso; omega
      · skip
        refine qG.blk 2 (pc' := 32) (ls' := [(2, 12), (2, 8), (0, ((c : Nat) : Int)), (0, cdF w i)]) (st' := [(0, 20), (0, ((c : Nat) : Int))]) (w' := (axW w i)) (n' := 142) rfl ?_
        refine qG.br (P := ((c : Nat) : Int) < 20) (pc1 := 41) (pc2 := 35) (st1 := []) rfl (fun h32 => ?_) (fun h32 => ?_)
        · skip
          refine qG.blk 2 (pc' := 45) (ls' := [(2, 12), (2, 8), (0, ((c : Nat) : Int)), (0, cdF w i)]) (st' := [(2, (axW w i) 12 2)]) (w' := (axW w i)) (n' := 142) rfl ?_
          rw [show (axW w i) 12 2 = 15 from (axW_o (by decide)).trans (zref hI rfl rfl)]
          refine qG.blk 2 (pc' := 47) (ls' := [(2, 12), (2, 8), (0, ((c : Nat) : Int)), (0, cdF w i)]) (st' := [(2, 8), (0, ((c : Nat) : Int)), (2, 15)]) (w' := (axW w i)) (n' := 142) rfl ?_
          refine qG.call (t := 146) (na := 1) (sk := 1) (md := 1) (ls1 := [(2, 8)]) (r1 := [(0, ((c : Nat) : Int)), (2, 15)]) rfl rfl rfl rfl rfl (K_tTokN (by omega) m hm6 w hI hm i (by omega)) ?_
          rintro _ w7 _ ⟨rfl, rfl, hw7⟩
          rw [hw7]
          show qG none (d + 1) 77 50 [(2, 12), (2, 8), (0, ((c : Nat) : Int)), (0, cdF w i)] [(0, ((i : Nat) : Int)), (0, ((c : Nat) : Int)), (2, 15)] (axW w i) 142 Q9
          refine qG.ar (P := 0 ≤ ((c : Nat) : Int) ∧ ((c : Nat) : Int) < ((20 : Nat) : Int)) (P2 := 0 < (15 : Int) ∧ (15 : Int) ≤ ((142 : Nat) : Int)) (pc' := 51) (ls' := [(2, 12), (2, 8), (0, ((c : Nat) : Int)), (0, cdF w i)]) (st' := []) (w' := (qup (axW w i) 15 c ((i : Nat) : Int))) (n' := 142) rfl (by omega) (by decide) ?_
          refine qG.blk 1 (pc' := 52) (ls' := [(2, 12), (2, 8), (0, ((c : Nat) : Int)), (0, cdF w i)]) (st' := [(2, 8)]) (w' := (qup (axW w i) 15 c ((i : Nat) : Int))) (n' := 142) rfl ?_
          rw [show (qup (axW w i) 15 c ((i : Nat) : Int)) = axW (qup w 15 c ((i : Nat) : Int)) i from by rw [ax_up (by omega)]]
          obtain ⟨w2, hww2⟩ : ∃ q : qW, q = (qup w 15 c ((i : Nat) : Int)) := ⟨_, rfl⟩
          rw [← hww2]
          have hA2 : AW PEM w w2 := by rw [hww2]; exact (AW.rf hI).arr (zup_a hI (b := (-2147483648, 2147483647)) rfl rfl ⟨by omega, by omega⟩) (by decide) (by decide)
          have hI2 := hA2.1
          obtain ⟨ecd, epl, e84, e8⟩ := hA2.cd (by decide)
          have hm2 : w2 8 4 = (m : Int) := e84.trans hm
          have hr9 : cdF w2 i = 10000 ∨ cdF w2 i = 10001 := by rw [ecd]; omega
          refine qG.call (t := 149) (na := 1) (sk := 1) (md := 1) (ls1 := [(2, 8)]) (r1 := []) rfl rfl rfl rfl rfl (K_tNext (by omega) m hm6 w2 hI2 hm2 i (by omega)) ?_
          rintro _ w7 _ ⟨rfl, rfl, hw7⟩
          rw [hw7]
          show qG none (d + 1) 77 55 [(2, 12), (2, 8), (0, ((c : Nat) : Int)), (0, cdF w i)] [] (axW w2 (i + 1)) 142 Q9
          refine qG.blk 2 (pc' := 59) (ls' := [(2, 12), (2, 8), (0, ((c : Nat) : Int)), (0, cdF w i)]) (st' := [(0, 10002), (2, 8)]) (w' := (axW w2 (i + 1))) (n' := 142) rfl ?_
          refine qG.call (t := 151) (na := 2) (sk := 1) (md := 1) (ls1 := [(2, 8), (0, 10002)]) (r1 := []) rfl rfl rfl rfl rfl (K_tNeeds (by omega) 10002 (by decide) m hm6 w2 hI2 hm2 (i + 1) (by omega)) ?_
          rintro ⟨_, x9⟩ w7 _ ⟨rfl, hT⟩; rcases hT with ⟨j59, hs59, hl59, hx9, rfl⟩ | ⟨k59, j59, hs59, hk59, hl59, hx9, rfl⟩ <;> obtain ⟨rfl, rfl⟩ := Prod.mk.inj hx9
          · skip
            show qG none (d + 1) 77 62 [(2, 12), (2, 8), (0, ((c : Nat) : Int)), (0, cdF w i)] [(0, 1)] (axW w2 j59) 142 Q9
            refine qG.br (P := (1 : Int) = 0) (pc1 := 87) (pc2 := 65) (st1 := []) rfl (fun h9 => ?_) (fun h9 => ?_)
            · exact absurd h9 (by decide)
            · skip
              refine qG.blk 2 (pc' := 67) (ls' := [(2, 12), (2, 8), (0, ((c : Nat) : Int)), (0, cdF w i)]) (st' := [(0, 0), (2, 8)]) (w' := (axW w2 j59)) (n' := 142) rfl ?_
              refine qG.call (t := 78) (na := 2) (sk := 0) (md := 0) (ls1 := [(2, 8), (0, 0), (9, 0), (9, 0)]) (r1 := []) rfl rfl rfl rfl rfl ((P_pq 8 (by decide)).2 d (by omega) m hm6 w2 hI2 hm2 j59 (by omega)) ?_
              rintro ⟨_, x9⟩ w7 _ ⟨rfl, hT⟩; rcases hT with ⟨j67, hs67, hl67, hx9, rfl⟩ | ⟨k67, j67, hs67, hk67, hl67, hx9, rfl⟩ <;> obtain ⟨rfl, rfl⟩ := Prod.mk.inj hx9
              · skip
                show qG none (d + 1) 77 70 [(2, 12), (2, 8), (0, ((c : Nat) : Int)), (0, cdF w i)] [(0, 1)] (axW w2 j67) 142 Q9
                refine qG.br (P := (1 : Int) = 0) (pc1 := 87) (pc2 := 73) (st1 := []) rfl (fun h10 => ?_) (fun h10 => ?_)
                · exact absurd h10 (by decide)
                · skip
                  refine qG.blk 2 (pc' := 77) (ls' := [(2, 12), (2, 8), (0, ((c : Nat) : Int)), (0, cdF w i)]) (st' := [(0, 20059), (2, 8)]) (w' := (axW w2 j67)) (n' := 142) rfl ?_
                  refine qG.call (t := 151) (na := 2) (sk := 1) (md := 1) (ls1 := [(2, 8), (0, 20059)]) (r1 := []) rfl rfl rfl rfl rfl (K_tNeeds (by omega) 20059 (by decide) m hm6 w2 hI2 hm2 j67 (by omega)) ?_
                  rintro ⟨_, x9⟩ w7 _ ⟨rfl, hT⟩; rcases hT with ⟨j77, hs77, hl77, hx9, rfl⟩ | ⟨k77, j77, hs77, hk77, hl77, hx9, rfl⟩ <;> obtain ⟨rfl, rfl⟩ := Prod.mk.inj hx9
                  · skip
                    show qG none (d + 1) 77 80 [(2, 12), (2, 8), (0, ((c : Nat) : Int)), (0, cdF w i)] [(0, 1)] (axW w2 j77) 142 Q9
                    refine qG.br (P := (1 : Int) = 0) (pc1 := 87) (pc2 := 83) (st1 := []) rfl (fun h11 => ?_) (fun h11 => ?_)
                    · exact absurd h11 (by decide)
                    · skip
                      refine qG.blk 2 (pc' := 88) (ls' := [(2, 12), (2, 8), (0, ((c : Nat) : Int)), (0, cdF w i)]) (st' := [(0, 1)]) (w' := (axW w2 j77)) (n' := 142) rfl ?_
                      refine qG.ret rfl (by first | rfl | exact decide_eq_true (by omega)) ?_
                      subst hQ9
                      first | exact ⟨rfl, w, AW.rf hI, .inr ⟨1, i, if_pos (fun z => z.elim hq9 hq16), .inl rfl, hi, rfl, rfl⟩⟩ | exact ⟨rfl, w, AW.rf hI, .inr ⟨3, i, (if_neg (fun z => z hr0)).trans (if_pos (by omega)), .inr (.inr rfl), hi, rfl, rfl⟩⟩ | (rw [← ecd]; exact ⟨rfl, w2, hA2, .inl ⟨j77, (reas_3 hr9 (by omega)).trans ((bnd_y ((bnd_y hs59).trans hs67)).trans hs77), hl77, rfl, rfl⟩⟩) | (rw [← ecd]; exact ⟨rfl, w2, hA2, .inr ⟨k77, j77, (reas_3 hr9 (by omega)).trans ((bnd_y ((bnd_y hs59).trans hs67)).trans hs77), hk77, hl77, rfl, rfl⟩⟩) | (rw [← ecd]; exact ⟨rfl, w2, hA2, .inr ⟨k67, j67, (reas_3 hr9 (by omega)).trans (bnd_k ((bnd_y hs59).trans hs67) hk67), hk67, hl67, rfl, rfl⟩⟩) | (rw [← ecd]; exact ⟨rfl, w2, hA2, .inr ⟨k59, j59, (reas_3 hr9 (by omega)).trans (bnd_k (bnd_k hs59 hk59) hk59), hk59, hl59, rfl, rfl⟩⟩)
                  · skip
                    show qG none (d + 1) 77 80 [(2, 12), (2, 8), (0, ((c : Nat) : Int)), (0, cdF w i)] [(0, 0)] (axF w2 k77 j77) 142 Q9
                    refine qG.br (P := (0 : Int) = 0) (pc1 := 87) (pc2 := 83) (st1 := []) rfl (fun h12 => ?_) (fun h12 => ?_)
                    · skip
                      refine qG.blk 1 (pc' := 88) (ls' := [(2, 12), (2, 8), (0, ((c : Nat) : Int)), (0, cdF w i)]) (st' := [(0, 0)]) (w' := (axF w2 k77 j77)) (n' := 142) rfl ?_
                      refine qG.ret rfl (by first | rfl | exact decide_eq_true (by omega)) ?_
                      subst hQ9
                      first | exact ⟨rfl, w, AW.rf hI, .inr ⟨1, i, if_pos (fun z => z.elim hq9 hq16), .inl rfl, hi, rfl, rfl⟩⟩ | exact ⟨rfl, w, AW.rf hI, .inr ⟨3, i, (if_neg (fun z => z hr0)).trans (if_pos (by omega)), .inr (.inr rfl), hi, rfl, rfl⟩⟩ | (rw [← ecd]; exact ⟨rfl, w2, hA2, .inl ⟨j77, (reas_3 hr9 (by omega)).trans ((bnd_y ((bnd_y hs59).trans hs67)).trans hs77), hl77, rfl, rfl⟩⟩) | (rw [← ecd]; exact ⟨rfl, w2, hA2, .inr ⟨k77, j77, (reas_3 hr9 (by omega)).trans ((bnd_y ((bnd_y hs59).trans hs67)).trans hs77), hk77, hl77, rfl, rfl⟩⟩) | (rw [← ecd]; exact ⟨rfl, w2, hA2, .inr ⟨k67, j67, (reas_3 hr9 (by omega)).trans (bnd_k ((bnd_y hs59).trans hs67) hk67), hk67, hl67, rfl, rfl⟩⟩) | (rw [← ecd]; exact ⟨rfl, w2, hA2, .inr ⟨k59, j59, (reas_3 hr9 (by omega)).trans (bnd_k (bnd_k hs59 hk59) hk59), hk59, hl59, rfl, rfl⟩⟩)
                    · exact absurd h12 (by decide)
              · skip
                show qG none (d + 1) 77 70 [(2, 12), (2, 8), (0, ((c : Nat) : Int)), (0, cdF w i)] [(0, 0)] (axF w2 k67 j67) 142 Q9
                refine qG.br (P := (0 : Int) = 0) (pc1 := 87) (pc2 := 73) (st1 := []) rfl (fun h13 => ?_) (fun h13 => ?_)
                · skip
                  refine qG.blk 1 (pc' := 88) (ls' := [(2, 12), (2, 8), (0, ((c : Nat) : Int)), (0, cdF w i)]) (st' := [(0, 0)]) (w' := (axF w2 k67 j67)) (n' := 142) rfl ?_
                  refine qG.ret rfl (by first | rfl | exact decide_eq_true (by omega)) ?_
                  subst hQ9
                  first | exact ⟨rfl, w, AW.rf hI, .inr ⟨1, i, if_pos (fun z => z.elim hq9 hq16), .inl rfl, hi, rfl, rfl⟩⟩ | exact ⟨rfl, w, AW.rf hI, .inr ⟨3, i, (if_neg (fun z => z hr0)).trans (if_pos (by omega)), .inr (.inr rfl), hi, rfl, rfl⟩⟩ | (rw [← ecd]; exact ⟨rfl, w2, hA2, .inl ⟨j77, (reas_3 hr9 (by omega)).trans ((bnd_y ((bnd_y hs59).trans hs67)).trans hs77), hl77, rfl, rfl⟩⟩) | (rw [← ecd]; exact ⟨rfl, w2, hA2, .inr ⟨k77, j77, (reas_3 hr9 (by omega)).trans ((bnd_y ((bnd_y hs59).trans hs67)).trans hs77), hk77, hl77, rfl, rfl⟩⟩) | (rw [← ecd]; exact ⟨rfl, w2, hA2, .inr ⟨k67, j67, (reas_3 hr9 (by omega)).trans (bnd_k ((bnd_y hs59).trans hs67) hk67), hk67, hl67, rfl, rfl⟩⟩) | (rw [← ecd]; exact ⟨rfl, w2, hA2, .inr ⟨k59, j59, (reas_3 hr9 (by omega)).trans (bnd_k (bnd_k hs59 hk59) hk59), hk59, hl59, rfl, rfl⟩⟩)
                · exact absurd h13 (by decide)
          · skip
            show qG none (d + 1) 77 62 [(2, 12), (2, 8), (0, ((c : Nat) : Int)), (0, cdF w i)] [(0, 0)] (axF w2 k59 j59) 142 Q9
            refine qG.br (P := (0 : Int) = 0) (pc1 := 87) (pc2 := 65) (st1 := []) rfl (fun h14 => ?_) (fun h14 => ?_)
            · skip
              refine qG.blk 1 (pc' := 88) (ls' := [(2, 12), (2, 8), (0, ((c : Nat) : Int)), (0, cdF w i)]) (st' := [(0, 0)]) (w' := (axF w2 k59 j59)) (n' := 142) rfl ?_
              refine qG.ret rfl (by first | rfl | exact decide_eq_true (by omega)) ?_
              subst hQ9
              first | exact ⟨rfl, w, AW.rf hI, .inr ⟨1, i, if_pos (fun z => z.elim hq9 hq16), .inl rfl, hi, rfl, rfl⟩⟩ | exact ⟨rfl, w, AW.rf hI, .inr ⟨3, i, (if_neg (fun z => z hr0)).trans (if_pos (by omega)), .inr (.inr rfl), hi, rfl, rfl⟩⟩ | (rw [← ecd]; exact ⟨rfl, w2, hA2, .inl ⟨j77, (reas_3 hr9 (by omega)).trans ((bnd_y ((bnd_y hs59).trans hs67)).trans hs77), hl77, rfl, rfl⟩⟩) | (rw [← ecd]; exact ⟨rfl, w2, hA2, .inr ⟨k77, j77, (reas_3 hr9 (by omega)).trans ((bnd_y ((bnd_y hs59).trans hs67)).trans hs77), hk77, hl77, rfl, rfl⟩⟩) | (rw [← ecd]; exact ⟨rfl, w2, hA2, .inr ⟨k67, j67, (reas_3 hr9 (by omega)).trans (bnd_k ((bnd_y hs59).trans hs67) hk67), hk67, hl67, rfl, rfl⟩⟩) | (rw [← ecd]; exact ⟨rfl, w2, hA2, .inr ⟨k59, j59, (reas_3 hr9 (by omega)).trans (bnd_k (bnd_k hs59 hk59) hk59), hk59, hl59, rfl, rfl⟩⟩)
            · exact absurd h14 (by decide)
        · skip
          refine qG.blk 2 (pc' := 37) (ls' := [(2, 12), (2, 8), (0, ((c : Nat) : Int)), (0, cdF w i)]) (st' := [(0, 3), (2, 8)]) (w' := (axW w i)) (n' := 142) rfl ?_
          refine qG.call (t := 153) (na := 2) (sk := 1) (md := 1) (ls1 := [(2, 8), (0, 3)]) (r1 := []) rfl rfl rfl rfl rfl (K_tFail (by omega) 3 m hm6 w hI hm i (by omega)) ?_
          rintro _ w7 _ ⟨rfl, rfl, hw7⟩
          rw [hw7]
          show qG none (d + 1) 77 40 [(2, 12), (2, 8), (0, ((c : Nat) : Int)), (0, cdF w i)] [(0, 0)] (axF w 3 i) 142 Q9
          refine qG.ret rfl (by first | rfl | exact decide_eq_true (by omega)) ?_
          subst hQ9
          first | exact ⟨rfl, w, AW.rf hI, .inr ⟨1, i, if_pos (fun z => z.elim hq9 hq16), .inl rfl, hi, rfl, rfl⟩⟩ | exact ⟨rfl, w, AW.rf hI, .inr ⟨3, i, (if_neg (fun z => z hr0)).trans (if_pos (by omega)), .inr (.inr rfl), hi, rfl, rfl⟩⟩ | (rw [← ecd]; exact ⟨rfl, w2, hA2, .inl ⟨j77, (reas_3 hr9 (by omega)).trans ((bnd_y ((bnd_y hs59).trans hs67)).trans hs77), hl77, rfl, rfl⟩⟩) | (rw [← ecd]; exact ⟨rfl, w2, hA2, .inr ⟨k77, j77, (reas_3 hr9 (by omega)).trans ((bnd_y ((bnd_y hs59).trans hs67)).trans hs77), hk77, hl77, rfl, rfl⟩⟩) | (rw [← ecd]; exact ⟨rfl, w2, hA2, .inr ⟨k67, j67, (reas_3 hr9 (by omega)).trans (bnd_k ((bnd_y hs59).trans hs67) hk67), hk67, hl67, rfl, rfl⟩⟩) | (rw [← ecd]; exact ⟨rfl, w2, hA2, .inr ⟨k59, j59, (reas_3 hr9 (by omega)).trans (bnd_k (bnd_k hs59 hk59) hk59), hk59, hl59, rfl, rfl⟩⟩)
    · skip
      refine qG.blk 2 (pc' := 21) (ls' := [(2, 12), (2, 8), (0, ((c : Nat) : Int)), (0, cdF w i)]) (st' := [(0, 1), (2, 8)]) (w' := (axW w i)) (n' := 142) rfl ?_
      refine qG.call (t := 153) (na := 2) (sk := 1) (md := 1) (ls1 := [(2, 8), (0, 1)]) (r1 := []) rfl rfl rfl rfl rfl (K_tFail (by omega) 1 m hm6 w hI hm i (by omega)) ?_
      rintro _ w7 _ ⟨rfl, rfl, hw7⟩
      rw [hw7]
      show qG none (d + 1) 77 24 [(2, 12), (2, 8), (0, ((c : Nat) : Int)), (0, cdF w i)] [(0, 0)] (axF w 1 i) 142 Q9
      refine qG.ret rfl (by first | rfl | exact decide_eq_true (by omega)) ?_
      subst hQ9
      first | exact ⟨rfl, w, AW.rf hI, .inr ⟨1, i, if_pos (fun z => z.elim hq9 hq16), .inl rfl, hi, rfl, rfl⟩⟩ | exact ⟨rfl, w, AW.rf hI, .inr ⟨3, i, (if_neg (fun z => z hr0)).trans (if_pos (by omega)), .inr (.inr rfl), hi, rfl, rfl⟩⟩ | (rw [← ecd]; exact ⟨rfl, w2, hA2, .inl ⟨j77, (reas_3 hr9 (by omega)).trans ((bnd_y ((bnd_y hs59).trans hs67)).trans hs77), hl77, rfl, rfl⟩⟩) | (rw [← ecd]; exact ⟨rfl, w2, hA2, .inr ⟨k77, j77, (reas_3 hr9 (by omega)).trans ((bnd_y ((bnd_y hs59).trans hs67)).trans hs77), hk77, hl77, rfl, rfl⟩⟩) | (rw [← ecd]; exact ⟨rfl, w2, hA2, .inr ⟨k67, j67, (reas_3 hr9 (by omega)).trans (bnd_k ((bnd_y hs59).trans hs67) hk67), hk67, hl67, rfl, rfl⟩⟩) | (rw [← ecd]; exact ⟨rfl, w2, hA2, .inr ⟨k59, j59, (reas_3 hr9 (by omega)).trans (bnd_k (bnd_k hs59 hk59) hk59), hk59, hl59, rfl, rfl⟩⟩)
noncomputable def C_keepT : Nat × yC := (76, (2, [(2, 12, 12), (2, 8, 8), (0, 0, 20)], (9, 0, 0), [13, 14, 4012], [], [], [], 0, []))
theorem T_keepT {w0 : qW} : yCOK w0 zgf zga zra zSp zgh C_keepT.1 C_keepT.2 := yctr (bv := fun _ _ => none) (bb := fun _ => none) (ct := yctl []) (an := fun k pc => none) (fk := fun k pc => none) (f := 100000) zgh0 (fun _ _ _ h => by cases h) (fun _ _ h => by cases h) zSp_ok (fun w hw => yctl_ok (P := fun t c => yCOK w zgf zga zra zSp zgh t c) ylnil) (by decide +kernel)
noncomputable def PLM : List Nat := [13, 14, 4012, 15]
noncomputable def sPam (C : Nat → Int) : Int × Nat × Nat := sAll C (sReas C 601) 21 0 0
/-- what a text leaves: the answer, the fault and its place -/
noncomputable def TXE (w : qW) (s : Int × Nat × Nat) (r : qV) (w1 : qW) : Prop := w1 1 3 = w 1 3 ∧ ((∃ c j, s = (0, c, j) ∧ r = (0, (c : Int)) ∧ w1 8 6 = w 8 6 ∧ w1 8 7 = w 8 7) ∨ (∃ (k : Int) (c j : Nat), s = (k, c, j) ∧ (k = 1 ∨ k = 2 ∨ k = 3) ∧ r = (0, -1) ∧ w1 8 6 = k ∧ w1 8 7 = plF w j))
theorem axW_0 {w : qW} (h : w 8 5 = 0) : w = axW w 0 := funext fun p => funext fun j => by
  by_cases e : p = 8 ∧ j = 5
  · obtain ⟨rfl, rfl⟩ := e
    rw [axW_at, h]; rfl
  · rw [axW_o e]
theorem TKA.m {w : qW} {l l2 : List Int} {n : Nat} {w1 : qW} (h : TKA w l l2 n w1) (hn : n ≤ 600) : ∃ m : Nat, m ≤ 601 ∧ w1 8 4 = (m : Int) ∧ yInv zgf zga zra zSp w1 ∧ 0 < m ∧ w1 = axW w1 0 := by
  obtain ⟨hI, t, E, a1, a2, a3, -⟩ := h
  exact ⟨t + 1, by omega, a2, hI, by omega, axW_0 a3⟩
theorem TKA.o {w : qW} {l l2 : List Int} {n : Nat} {w1 : qW} (h : TKA w l l2 n w1) {q k : Nat} (h1 : q ≠ 10) (h2 : q ≠ 11) (h3 : ¬ (q = 8 ∧ (k = 4 ∨ k = 5))) : w1 q k = w q k := by
  obtain ⟨hI, t, E, a1, a2, a3, a4, a5, a6, a7, a8, a9⟩ := h
  exact a9 q k h1 h2 h3
theorem K_pLearn {d : Nat} (hd : 26 ≤ d) (l l2 : List Int) (hl : qtxb 1 = some l) (hl2 : qtxb 2 = some l2) (hl6 : l.length ≤ 600) (n : Nat) (hn9 : n ≤ 600) (w0 : qW) (hI0 : yInv zgf zga zra zSp w0) (hn : w0 8 1 = (n : Int)) : qG none d 75 0 [(2, 12), (2, 8), (9, 0)] [] w0 142 (fun (r : qV) (w1 : qW) (n1 : Nat) => n1 = 142 ∧ ∃ w, TKA w0 l l2 n w ∧ TXE w (sPam (cdF w)) r w1) := by
  generalize hQ9 : (fun (r : qV) (w1 : qW) (n1 : Nat) => n1 = 142 ∧ ∃ w, TKA w0 l l2 n w ∧ TXE w (sPam (cdF w)) r w1) = Q9
  obtain ⟨d, rfl⟩ : ∃ d9, d = d9 + 1 := ⟨d - 1, by omega⟩
  refine qG.blk 3 (pc' := 5) (ls' := [(2, 12), (2, 8), (9, 0)]) (st' := [(3, 2), (3, 1), (2, 8)]) (w' := w0) (n' := 142) rfl ?_
  refine qG.call (t := 134) (na := 3) (sk := 1) (md := 1) (ls1 := [(2, 8), (3, 1), (3, 2), (9, 0), (9, 0)]) (r1 := []) rfl rfl rfl rfl rfl (K_cToks1 (by omega) l l2 hl hl2 hl6 n hn9 w0 hI0 hn) ?_
  rintro ⟨_, _⟩ wT _ ⟨rfl, hr1, hTA⟩
  obtain ⟨rfl, rfl⟩ := Prod.mk.inj hr1
  obtain ⟨m, hm6, hm, hI, hm0, hax⟩ := hTA.m hn9
  rw [hax]
  obtain ⟨w, hw⟩ : ∃ q, q = wT := ⟨_, rfl⟩
  rw [← hw] at hm hI hTA hax ⊢
  show qG none (d + 1) 75 8 [(2, 12), (2, 8), (9, 0)] [] (axW w 0) 142 Q9
  refine qG.blk 2 (pc' := 10) (ls' := [(2, 12), (2, 8), (0, 0)]) (st' := []) (w' := (axW w 0)) (n' := 142) rfl ?_
  have L10 : ∀ (m9 : Nat) (c j : Nat) (w2 : qW), 21 - c = m9 → (c ≤ 20 ∧ j ≤ m ∧ AW PLM w w2 ∧ sPam (cdF w) = sAll (cdF w) (sReas (cdF w) 601) (21 - c) c j) → qG none (d + 1) 75 10 [(2, 12), (2, 8), (0, ((c : Nat) : Int))] [] (axW w2 j) 142 Q9 := by
    intro m9
    induction m9 using Nat.strongRecOn with
    | ind m9 ih10 =>
    intro c j w2 hm10 hI10
    obtain ⟨hc21, hjm, hA2, hS⟩ := hI10
    have hI2 := hA2.1
    obtain ⟨ecd, epl, e84, e8⟩ := hA2.cd (by decide +kernel)
    have hm2 : w2 8 4 = (m : Int) := e84.trans hm
    refine qG.blk 2 (pc' := 13) (ls' := [(2, 12), (2, 8), (0, ((c : Nat) : Int))]) (st' := [(0, 20), (0, ((c : Nat) : Int))]) (w' := (axW w2 j)) (n' := 142) rfl ?_
    refine qG.br (P := 20 < ((c : Nat) : Int)) (pc1 := 50) (pc2 := 16) (st1 := []) rfl (fun h1 => ?_) (fun h1 => ?_)
    · exfalso; omega
    · skip
      refine qG.blk 1 (pc' := 17) (ls' := [(2, 12), (2, 8), (0, ((c : Nat) : Int))]) (st' := [(2, 8)]) (w' := (axW w2 j)) (n' := 142) rfl ?_
      refine qG.call (t := 145) (na := 1) (sk := 1) (md := 1) (ls1 := [(2, 8)]) (r1 := []) rfl rfl rfl rfl rfl (K_tCode (by omega) m hm6 w2 hI2 hm2 j (by omega)) ?_
      rintro _ w7 _ ⟨rfl, rfl, hw7⟩
      rw [hw7]
      show qG none (d + 1) 75 20 [(2, 12), (2, 8), (0, ((c : Nat) : Int))] [(0, cdF w2 j)] (axW w2 j) 142 Q9
      refine qG.blk 1 (pc' := 22) (ls' := [(2, 12), (2, 8), (0, ((c : Nat) : Int))]) (st' := [(0, (-2)), (0, cdF w2 j)]) (w' := (axW w2 j)) (n' := 142) rfl ?_
      refine qG.br (P := cdF w2 j = (-2)) (pc1 := 25) (pc2 := 33) (st1 := []) rfl (fun hce => ?_) (fun hce => ?_)
      · skip
        refine qG.blk 3 (pc' := 28) (ls' := [(2, 12), (2, 8), (0, ((c : Nat) : Int))]) (st' := [(0, ((c : Nat) : Int)), (2, 8), (2, 12)]) (w' := (axW w2 j)) (n' := 142) rfl ?_
        refine qG.call (t := 76) (na := 3) (sk := 1) (md := 1) (ls1 := [(2, 12), (2, 8), (0, ((c : Nat) : Int))]) (r1 := []) rfl rfl rfl rfl rfl (T_keepT (w0 := w2) d [(2, 12), (2, 8), (0, ((c : Nat) : Int))] (axW w2 j) (show C_keepT.2.1 ≤ d by exact Nat.le_trans (by decide) (show 20 ≤ d by omega)) ⟨⟨rfl, by decide, by decide⟩, ⟨rfl, by decide, by decide⟩, ⟨rfl, Int.natCast_nonneg _, by show ((c : Nat) : Int) ≤ 20; omega⟩, trivial⟩ (axW_I hI2 (by omega)) (fun p hp => by cases hp) (fun e he => by cases he)) ?_
        rintro ⟨k9, x9⟩ w3 _ ⟨⟨hk9, -⟩, hI3, rfl, hM3, -⟩
        obtain rfl : k9 = 9 := hk9
        have hA3 : AW C_keepT.2.2.2.2.1 (axW w2 j) w3 := ⟨hI3, hM3⟩
        show qG none (d + 1) 75 31 [(2, 12), (2, 8), (0, ((c : Nat) : Int))] [] w3 142 Q9
        refine qG.blk 1 (pc' := 32) (ls' := [(2, 12), (2, 8), (0, ((c : Nat) : Int))]) (st' := [(0, ((c : Nat) : Int))]) (w' := w3) (n' := 142) rfl ?_
        refine qG.ret rfl rfl ?_
        subst hQ9
        first | exact ⟨rfl, w, hTA, (hA3.2 1 3 (fun _ => rfl)).trans ((axW_o (by decide)).trans (hA2.2 1 3 (fun _ => rfl))), .inl ⟨c, j, hS.trans (by rw [show 21 - c = (21 - (c + 1)) + 1 by omega]; exact sAll_e (by rw [← ecd]; exact hce)), rfl, (hA3.2 8 6 (fun _ => rfl)).trans ((axW_o (by decide)).trans (e8 6)), (hA3.2 8 7 (fun _ => rfl)).trans ((axW_o (by decide)).trans (e8 7))⟩⟩ | exact ⟨rfl, w, hTA, (by unfold axF; rw [qup_ne (by decide), qup_ne (by decide), axW_o (by decide)]; exact (hA3.2 1 3 (fun _ => rfl)).trans (hA2.2 1 3 (fun _ => rfl))), .inr ⟨k2, c, j2, hS.trans (by rw [show 21 - c = (21 - (c + 1)) + 1 by omega]; exact sAll_f (by rw [← ecd]; exact hce) hs hk), hk, rfl, (by unfold axF; rw [qup_j (by decide), qup_k]), (by unfold axF; rw [qup_k]; exact congrFun ((hA3.cd (by decide)).2.1.trans epl) j2)⟩⟩
      · skip
        refine qG.blk 3 (pc' := 36) (ls' := [(2, 12), (2, 8), (0, ((c : Nat) : Int))]) (st' := [(0, ((c : Nat) : Int)), (2, 8), (2, 12)]) (w' := (axW w2 j)) (n' := 142) rfl ?_
        refine qG.call (t := 77) (na := 3) (sk := 1) (md := 1) (ls1 := [(2, 12), (2, 8), (0, ((c : Nat) : Int)), (9, 0)]) (r1 := []) rfl rfl rfl rfl rfl (K_pReas (by omega) c (by omega) m hm6 w2 hI2 hm2 j (by omega)) ?_
        rintro ⟨_, x9⟩ w7 _ ⟨rfl, w3, hA3, hT⟩; rcases hT with ⟨j2, hs, hl, hx9, rfl⟩ | ⟨k2, j2, hs, hk, hl, hx9, rfl⟩ <;> obtain ⟨rfl, rfl⟩ := Prod.mk.inj hx9 <;> rw [ecd] at hs
        · skip
          show qG none (d + 1) 75 39 [(2, 12), (2, 8), (0, ((c : Nat) : Int))] [(0, 1)] (axW w3 j2) 142 Q9
          refine qG.br (P := (1 : Int) = 0) (pc1 := 42) (pc2 := 44) (st1 := []) rfl (fun h2 => ?_) (fun h2 => ?_)
          · exact absurd h2 (by decide)
          · skip
            refine qG.blk 1 (pc' := 47) (ls' := [(2, 12), (2, 8), (0, wrp (((c : Nat) : Int) + 1))]) (st' := []) (w' := (axW w3 j2)) (n' := 142) rfl ?_
            rw [show wrp (((c : Nat) : Int) + 1) = ((c + 1 : Nat) : Int) from wrp_id (by omega) (by omega)]
            refine qG.blk 1 (pc' := 10) (ls' := [(2, 12), (2, 8), (0, ((c + 1 : Nat) : Int))]) (st' := []) (w' := (axW w3 j2)) (n' := 142) rfl ?_
            exact ih10 _ (by omega) (c + 1) (j2) (w3) rfl (⟨(by have q : ¬ 20 ≤ c := fun z => sReas_20 z hs; omega), hl, hA2.tr hA3 (by decide +kernel), by rw [hS, show 21 - c = (21 - (c + 1)) + 1 by omega]; exact sAll_s (by rw [← ecd]; exact hce) hs⟩)
        · skip
          show qG none (d + 1) 75 39 [(2, 12), (2, 8), (0, ((c : Nat) : Int))] [(0, 0)] (axF w3 k2 j2) 142 Q9
          refine qG.br (P := (0 : Int) = 0) (pc1 := 42) (pc2 := 44) (st1 := []) rfl (fun h3 => ?_) (fun h3 => ?_)
          · skip
            refine qG.blk 1 (pc' := 43) (ls' := [(2, 12), (2, 8), (0, ((c : Nat) : Int))]) (st' := [(0, (-1))]) (w' := (axF w3 k2 j2)) (n' := 142) rfl ?_
            refine qG.ret rfl rfl ?_
            subst hQ9
            first | exact ⟨rfl, w, hTA, (hA3.2 1 3 (fun _ => rfl)).trans ((axW_o (by decide)).trans (hA2.2 1 3 (fun _ => rfl))), .inl ⟨c, j, hS.trans (by rw [show 21 - c = (21 - (c + 1)) + 1 by omega]; exact sAll_e (by rw [← ecd]; exact hce)), rfl, (hA3.2 8 6 (fun _ => rfl)).trans ((axW_o (by decide)).trans (e8 6)), (hA3.2 8 7 (fun _ => rfl)).trans ((axW_o (by decide)).trans (e8 7))⟩⟩ | exact ⟨rfl, w, hTA, (by unfold axF; rw [qup_ne (by decide), qup_ne (by decide), axW_o (by decide)]; exact (hA3.2 1 3 (fun _ => rfl)).trans (hA2.2 1 3 (fun _ => rfl))), .inr ⟨k2, c, j2, hS.trans (by rw [show 21 - c = (21 - (c + 1)) + 1 by omega]; exact sAll_f (by rw [← ecd]; exact hce) hs hk), hk, rfl, (by unfold axF; rw [qup_j (by decide), qup_k]), (by unfold axF; rw [qup_k]; exact congrFun ((hA3.cd (by decide)).2.1.trans epl) j2)⟩⟩
          · exact absurd h3 (by decide)
  exact L10 _ (0) (0) (w) rfl (⟨by omega, Nat.zero_le _, AW.rf hI, rfl⟩)
/-- a show's step c at the token i: what is laid -/
noncomputable def lsW (w : qW) (p c : Nat) (v u : Int) : qW := qup (qup (qup w (p + 1) c v) (p + 2) c u) p 2 ((c + 1 : Nat) : Int)
noncomputable def SHM_ (p : Nat) : List Nat := [3000 + p, p + 1, p + 2]
theorem od_y {v : Int} (h : v = 0 ∨ v = 1 ∨ v = 3) : (1 : Int) = if v = 0 ∨ v = 1 ∨ v = 3 then 1 else 0 := (if_pos h).symm
theorem od_n {v : Int} (h : ¬ (v = 0 ∨ v = 1 ∨ v = 3)) : (0 : Int) = if v = 0 ∨ v = 1 ∨ v = 3 then 1 else 0 := (if_neg h).symm
noncomputable def sKind (C : Nat → Int) (i : Nat) : Int × Nat := if C i = 10002 then sNum C 1 20 (i + 1) else if C i = 10000 ∨ C i = 10001 ∨ C i = 10003 then sNum C 0 9 (i + 1) else (0, i + 1)
theorem kd_w {C : Nat → Int} {i : Nat} (h : C i = 10002) : sKind C i = sNum C 1 20 (i + 1) := if_pos h
theorem kd_d {C : Nat → Int} {i : Nat} (h : ¬ C i = 10002) (h2 : C i = 10000 ∨ C i = 10001 ∨ C i = 10003) : sKind C i = sNum C 0 9 (i + 1) := by unfold sKind; rw [if_neg h, if_pos h2]
theorem kd_n {C : Nat → Int} {i : Nat} (h : ¬ C i = 10002) (h2 : ¬ (C i = 10000 ∨ C i = 10001 ∨ C i = 10003)) : sKind C i = (0, i + 1) := by unfold sKind; rw [if_neg h, if_neg h2]
theorem stp_1 {C : Nat → Int} {c i : Nat} (h : ¬ (10000 ≤ C i ∧ C i < 20000)) : sStep C c i = (1, i) := if_pos h
theorem stp_3 {C : Nat → Int} {c i : Nat} (h : 10000 ≤ C i ∧ C i < 20000) (hc : 40 ≤ c) : sStep C c i = (3, i) := by unfold sStep; rw [if_neg (fun z => z h), if_pos hc]
theorem step_3 {C : Nat → Int} {c i : Nat} (h : 10000 ≤ C i ∧ C i < 20000) (hc : ¬ 40 ≤ c) : sStep C c i = bnd (sKind C i) (sNeed C 20059) := by
  unfold sStep
  rw [if_neg (fun z => z h), if_neg hc]
  rfl
/-- the steps as they are told: where each begins -/
noncomputable def stB (C : Nat → Int) : Nat → Nat
  | 0 => 0
  | c + 1 => (sStep C c (stB C c)).2
/-- the rows of a show hold the first c steps -/
noncomputable def SRW (C : Nat → Int) (p : Nat) (w : qW) (c : Nat) : Prop := w p 2 = (c : Int) ∧ ∀ t, t < c → (sStep C t (stB C t)).1 = 0 ∧ w (p + 1) t = C (stB C t) - 10000 ∧ w (p + 2) t = C (stB C t + 1)
noncomputable def sSho (C : Nat → Int) : Int × Nat × Nat := sAll C (sStep C) 41 0 0
theorem K_ofDoor {d : Nat} (hd : 0 ≤ d) (v : Int) (w : qW) : qG none d 109 0 [(0, v)] [] w 142 (fun (r : qV) (w1 : qW) (n1 : Nat) => r = (0, if v = 0 ∨ v = 1 ∨ v = 3 then 1 else 0) ∧ w1 = w ∧ n1 = 142) := by
  generalize hQ9 : (fun (r : qV) (w1 : qW) (n1 : Nat) => r = (0, if v = 0 ∨ v = 1 ∨ v = 3 then 1 else 0) ∧ w1 = w ∧ n1 = 142) = Q9
  refine qG.blk 1 (pc' := 1) (ls' := [(0, v)]) (st' := [(0, v)]) (w' := w) (n' := 142) rfl ?_
  refine qG.br (P := v = 0) (pc1 := 14) (pc2 := 4) (st1 := []) rfl (fun h1 => ?_) (fun h1 => ?_)
  · skip
    refine qG.blk 2 (pc' := 19) (ls' := [(0, v)]) (st' := [(0, 1)]) (w' := w) (n' := 142) rfl ?_
    refine qG.ret rfl (by first | rfl | exact decide_eq_true (by omega)) ?_
    subst hQ9
    first | exact ⟨congrArg (Prod.mk 0) (od_y (by omega)), rfl, rfl⟩ | exact ⟨congrArg (Prod.mk 0) (od_n (by omega)), rfl, rfl⟩
  · skip
    refine qG.blk 2 (pc' := 6) (ls' := [(0, v)]) (st' := [(0, 1), (0, v)]) (w' := w) (n' := 142) rfl ?_
    refine qG.br (P := v = 1) (pc1 := 14) (pc2 := 9) (st1 := []) rfl (fun h6 => ?_) (fun h6 => ?_)
    · skip
      refine qG.blk 2 (pc' := 19) (ls' := [(0, v)]) (st' := [(0, 1)]) (w' := w) (n' := 142) rfl ?_
      refine qG.ret rfl (by first | rfl | exact decide_eq_true (by omega)) ?_
      subst hQ9
      first | exact ⟨congrArg (Prod.mk 0) (od_y (by omega)), rfl, rfl⟩ | exact ⟨congrArg (Prod.mk 0) (od_n (by omega)), rfl, rfl⟩
    · skip
      refine qG.blk 2 (pc' := 11) (ls' := [(0, v)]) (st' := [(0, 3), (0, v)]) (w' := w) (n' := 142) rfl ?_
      refine qG.br (P := v = 3) (pc1 := 14) (pc2 := 18) (st1 := []) rfl (fun h11 => ?_) (fun h11 => ?_)
      · skip
        refine qG.blk 2 (pc' := 19) (ls' := [(0, v)]) (st' := [(0, 1)]) (w' := w) (n' := 142) rfl ?_
        refine qG.ret rfl (by first | rfl | exact decide_eq_true (by omega)) ?_
        subst hQ9
        first | exact ⟨congrArg (Prod.mk 0) (od_y (by omega)), rfl, rfl⟩ | exact ⟨congrArg (Prod.mk 0) (od_n (by omega)), rfl, rfl⟩
      · skip
        refine qG.blk 1 (pc' := 19) (ls' := [(0, v)]) (st' := [(0, 0)]) (w' := w) (n' := 142) rfl ?_
        refine qG.ret rfl (by first | rfl | exact decide_eq_true (by omega)) ?_
        subst hQ9
        first | exact ⟨congrArg (Prod.mk 0) (od_y (by omega)), rfl, rfl⟩ | exact ⟨congrArg (Prod.mk 0) (od_n (by omega)), rfl, rfl⟩
theorem cd_in {w : qW} (hI : yInv zgf zga zra zSp w) (i : Nat) : yin (-2147483648, 2147483647) (cdF w i) := by
  unfold cdF
  split
  · exact hI.2.1 10 i _ rfl rfl
  · exact ⟨by show (-2147483648 : Int) ≤ -2; decide, by show (-2 : Int) ≤ 2147483647; decide⟩
theorem K_tStep4 {d : Nat} (hd : 3 ≤ d) (c : Nat) (hc4 : c ≤ 40) (m : Nat) (hm6 : m ≤ 601) (w : qW) (hI : yInv zgf zga zra zSp w) (hm : w 8 4 = (m : Int)) (i : Nat) (hi : i ≤ m) (hc : w 4 2 = (c : Int)) : qG none d 108 0 [(2, 4), (2, 8), (9, 0), (9, 0)] [] (axW w i) 142 (fun (r : qV) (w1 : qW) (n1 : Nat) => n1 = 142 ∧ ∃ w3, AW (SHM_ 4) w w3 ∧ RD w3 m (sStep (cdF w) c i) r w1 ∧ ((sStep (cdF w) c i).1 = 0 → w3 = lsW w 4 c (cdF w i - 10000) (cdF w (i + 1)))) := by
  generalize hQ9 : (fun (r : qV) (w1 : qW) (n1 : Nat) => n1 = 142 ∧ ∃ w3, AW (SHM_ 4) w w3 ∧ RD w3 m (sStep (cdF w) c i) r w1 ∧ ((sStep (cdF w) c i).1 = 0 → w3 = lsW w 4 c (cdF w i - 10000) (cdF w (i + 1)))) = Q9
  obtain ⟨d, rfl⟩ : ∃ d9, d = d9 + 1 := ⟨d - 1, by omega⟩
  refine qG.blk 1 (pc' := 1) (ls' := [(2, 4), (2, 8), (9, 0), (9, 0)]) (st' := [(2, 8)]) (w' := (axW w i)) (n' := 142) rfl ?_
  refine qG.call (t := 148) (na := 1) (sk := 1) (md := 1) (ls1 := [(2, 8), (9, 0)]) (r1 := []) rfl rfl rfl rfl rfl (K_tWord (by omega) m hm6 w hI hm i (by omega)) ?_
  rintro _ w7 _ ⟨rfl, rfl, hw7⟩
  rw [hw7]
  show qG none (d + 1) 108 4 [(2, 4), (2, 8), (9, 0), (9, 0)] [(0, (if 10000 ≤ cdF w i ∧ cdF w i < 20000 then cdF w i - 10000 else -1))] (axW w i) 142 Q9
  refine qG.blk 3 (pc' := 7) (ls' := [(2, 4), (2, 8), (0, (if 10000 ≤ cdF w i ∧ cdF w i < 20000 then cdF w i - 10000 else -1)), (9, 0)]) (st' := [(0, (-1)), (0, (if 10000 ≤ cdF w i ∧ cdF w i < 20000 then cdF w i - 10000 else -1))]) (w' := (axW w i)) (n' := 142) rfl ?_
  refine qG.br (P := (if 10000 ≤ cdF w i ∧ cdF w i < 20000 then cdF w i - 10000 else -1) = (-1)) (pc1 := 10) (pc2 := 16) (st1 := []) rfl (fun hq7 => ?_) (fun hq7 => ?_)
  · skip
    have hw : ¬ (10000 ≤ cdF w i ∧ cdF w i < 20000) := fun z => by rw [if_pos z] at hq7; omega
    refine qG.blk 2 (pc' := 12) (ls' := [(2, 4), (2, 8), (0, (if 10000 ≤ cdF w i ∧ cdF w i < 20000 then cdF w i - 10000 else -1)), (9, 0)]) (st' := [(0, 1), (2, 8)]) (w' := (axW w i)) (n' := 142) rfl ?_
    refine qG.call (t := 153) (na := 2) (sk := 1) (md := 1) (ls1 := [(2, 8), (0, 1)]) (r1 := []) rfl rfl rfl rfl rfl (K_tFail (by omega) 1 m hm6 w hI hm i (by omega)) ?_
    rintro _ w7 _ ⟨rfl, rfl, hw7⟩
    rw [hw7]
    show qG none (d + 1) 108 15 [(2, 4), (2, 8), (0, (if 10000 ≤ cdF w i ∧ cdF w i < 20000 then cdF w i - 10000 else -1)), (9, 0)] [(0, 0)] (axF w 1 i) 142 Q9
    refine qG.ret rfl (by first | rfl | exact decide_eq_true (by omega)) ?_
    subst hQ9
    exact ⟨rfl, w, AW.rf hI, .inr ⟨1, i, stp_1 hw, .inl rfl, hi, rfl, rfl⟩, fun z => by rw [stp_1 hw] at z; cases z⟩
  · skip
    have hw : 10000 ≤ cdF w i ∧ cdF w i < 20000 := Decidable.of_not_not (fun z => hq7 (if_neg z))
    rw [if_pos hw]
    have hlt : i < m := cd_lt hm (by omega)
    have hin : yin (-2147483648, 2147483647) (cdF w (i + 1)) := cd_in hI (i + 1)
    refine qG.blk 2 (pc' := 20) (ls' := [(2, 4), (2, 8), (0, cdF w i - 10000), (9, 0)]) (st' := [(0, (axW w i) 4 2)]) (w' := (axW w i)) (n' := 142) rfl ?_
    rw [show (axW w i) 4 2 = ((c : Nat) : Int) from (axW_o (by decide)).trans (hc)]
    refine qG.blk 1 (pc' := 22) (ls' := [(2, 4), (2, 8), (0, cdF w i - 10000), (9, 0)]) (st' := [(0, 40), (0, ((c : Nat) : Int))]) (w' := (axW w i)) (n' := 142) rfl ?_
    refine qG.br (P := ((c : Nat) : Int) < 40) (pc1 := 31) (pc2 := 25) (st1 := []) rfl (fun hq22 => ?_) (fun hq22 => ?_)
    · skip
      refine qG.blk 1 (pc' := 32) (ls' := [(2, 4), (2, 8), (0, cdF w i - 10000), (9, 0)]) (st' := [(2, 8)]) (w' := (axW w i)) (n' := 142) rfl ?_
      refine qG.call (t := 149) (na := 1) (sk := 1) (md := 1) (ls1 := [(2, 8)]) (r1 := []) rfl rfl rfl rfl rfl (K_tNext (by omega) m hm6 w hI hm i (by omega)) ?_
      rintro _ w7 _ ⟨rfl, rfl, hw7⟩
      rw [hw7]
      show qG none (d + 1) 108 35 [(2, 4), (2, 8), (0, cdF w i - 10000), (9, 0)] [] (axW w (i + 1)) 142 Q9
      refine qG.blk 1 (pc' := 36) (ls' := [(2, 4), (2, 8), (0, cdF w i - 10000), (9, 0)]) (st' := [(2, 8)]) (w' := (axW w (i + 1))) (n' := 142) rfl ?_
      refine qG.call (t := 145) (na := 1) (sk := 1) (md := 1) (ls1 := [(2, 8)]) (r1 := []) rfl rfl rfl rfl rfl (K_tCode (by omega) m hm6 w hI hm (i + 1) (by omega)) ?_
      rintro _ w7 _ ⟨rfl, rfl, hw7⟩
      rw [hw7]
      show qG none (d + 1) 108 39 [(2, 4), (2, 8), (0, cdF w i - 10000), (9, 0)] [(0, cdF w (i + 1))] (axW w (i + 1)) 142 Q9
      refine qG.blk 3 (pc' := 42) (ls' := [(2, 4), (2, 8), (0, cdF w i - 10000), (0, cdF w (i + 1))]) (st' := [(0, 2), (0, cdF w i - 10000)]) (w' := (axW w (i + 1))) (n' := 142) rfl ?_
      refine qG.br (P := cdF w i - 10000 = 2) (pc1 := 45) (pc2 := 57) (st1 := []) rfl (fun hq42 => ?_) (fun hq42 => ?_)
      · skip
        refine qG.blk 3 (pc' := 49) (ls' := [(2, 4), (2, 8), (0, cdF w i - 10000), (0, cdF w (i + 1))]) (st' := [(0, 20), (0, 1), (2, 8)]) (w' := (axW w (i + 1))) (n' := 142) rfl ?_
        refine qG.call (t := 152) (na := 3) (sk := 1) (md := 1) (ls1 := [(2, 8), (0, 1), (0, 20), (9, 0)]) (r1 := []) rfl rfl rfl rfl rfl (K_tNum (by omega) 1 20 m hm6 w hI hm (i + 1) (by omega)) ?_
        rintro ⟨_, x9⟩ w7 _ ⟨rfl, hT⟩; rcases hT with ⟨j49, hs49, hl49, hx9, rfl⟩ | ⟨k49, j49, hs49, hk49, hl49, hx9, rfl⟩ <;> obtain ⟨rfl, rfl⟩ := Prod.mk.inj hx9
        · skip
          show qG none (d + 1) 108 52 [(2, 4), (2, 8), (0, cdF w i - 10000), (0, cdF w (i + 1))] [(0, 1)] (axW w j49) 142 Q9
          refine qG.br (P := (1 : Int) = 0) (pc1 := 55) (pc2 := 57) (st1 := []) rfl (fun h1 => ?_) (fun h1 => ?_)
          · exact absurd h1 (by decide)
          · skip
            refine qG.blk 1 (pc' := 58) (ls' := [(2, 4), (2, 8), (0, cdF w i - 10000), (0, cdF w (i + 1))]) (st' := [(0, cdF w i - 10000)]) (w' := (axW w j49)) (n' := 142) rfl ?_
            refine qG.call (t := 109) (na := 1) (sk := 0) (md := 0) (ls1 := [(0, cdF w i - 10000)]) (r1 := []) rfl rfl rfl rfl rfl (K_ofDoor (Nat.zero_le _) (cdF w i - 10000) (axW w j49)) ?_
            rintro _ w7 _ ⟨rfl, hw7, rfl⟩
            rw [hw7]
            show qG none (d + 1) 108 61 [(2, 4), (2, 8), (0, cdF w i - 10000), (0, cdF w (i + 1))] [(0, (if cdF w i - 10000 = 0 ∨ cdF w i - 10000 = 1 ∨ cdF w i - 10000 = 3 then 1 else 0))] (axW w j49) 142 Q9
            refine qG.br (P := (if cdF w i - 10000 = 0 ∨ cdF w i - 10000 = 1 ∨ cdF w i - 10000 = 3 then 1 else 0) = 0) (pc1 := 76) (pc2 := 64) (st1 := []) rfl (fun hq61 => ?_) (fun hq61 => ?_)
            · skip
              have hk3 : ¬ (cdF w i = 10000 ∨ cdF w i = 10001 ∨ cdF w i = 10003) := fun z => by rw [if_pos (by omega)] at hq61; omega
              refine qG.blk 2 (pc' := 80) (ls' := [(2, 4), (2, 8), (0, cdF w i - 10000), (0, cdF w (i + 1))]) (st' := [(2, (axW w j49) 4 0)]) (w' := (axW w j49)) (n' := 142) rfl ?_
              rw [show (axW w j49) 4 0 = 5 from (axW_o (by decide)).trans (zref hI rfl rfl)]
              refine qG.blk 2 (pc' := 84) (ls' := [(2, 4), (2, 8), (0, cdF w i - 10000), (0, cdF w (i + 1))]) (st' := [(0, (axW w j49) 4 2), (2, 5)]) (w' := (axW w j49)) (n' := 142) rfl ?_
              rw [show (axW w j49) 4 2 = ((c : Nat) : Int) from (axW_o (by decide)).trans (hc)]
              refine qG.blk 1 (pc' := 85) (ls' := [(2, 4), (2, 8), (0, cdF w i - 10000), (0, cdF w (i + 1))]) (st' := [(0, cdF w i - 10000), (0, ((c : Nat) : Int)), (2, 5)]) (w' := (axW w j49)) (n' := 142) rfl ?_
              refine qG.ar (P := 0 ≤ ((c : Nat) : Int) ∧ ((c : Nat) : Int) < ((40 : Nat) : Int)) (P2 := 0 < (5 : Int) ∧ (5 : Int) ≤ ((142 : Nat) : Int)) (pc' := 86) (ls' := [(2, 4), (2, 8), (0, cdF w i - 10000), (0, cdF w (i + 1))]) (st' := []) (w' := (qup (axW w j49) 5 c (cdF w i - 10000))) (n' := 142) rfl (by omega) (by decide) ?_
              refine qG.blk 2 (pc' := 90) (ls' := [(2, 4), (2, 8), (0, cdF w i - 10000), (0, cdF w (i + 1))]) (st' := [(2, (axW w j49) 4 1)]) (w' := (qup (axW w j49) 5 c (cdF w i - 10000))) (n' := 142) rfl ?_
              rw [show (axW w j49) 4 1 = 6 from (axW_o (by decide)).trans (zref hI rfl rfl)]
              refine qG.blk 2 (pc' := 94) (ls' := [(2, 4), (2, 8), (0, cdF w i - 10000), (0, cdF w (i + 1))]) (st' := [(0, (axW w j49) 4 2), (2, 6)]) (w' := (qup (axW w j49) 5 c (cdF w i - 10000))) (n' := 142) rfl ?_
              rw [show (axW w j49) 4 2 = ((c : Nat) : Int) from (axW_o (by decide)).trans (hc)]
              refine qG.blk 1 (pc' := 95) (ls' := [(2, 4), (2, 8), (0, cdF w i - 10000), (0, cdF w (i + 1))]) (st' := [(0, cdF w (i + 1)), (0, ((c : Nat) : Int)), (2, 6)]) (w' := (qup (axW w j49) 5 c (cdF w i - 10000))) (n' := 142) rfl ?_
              refine qG.ar (P := 0 ≤ ((c : Nat) : Int) ∧ ((c : Nat) : Int) < ((40 : Nat) : Int)) (P2 := 0 < (6 : Int) ∧ (6 : Int) ≤ ((142 : Nat) : Int)) (pc' := 96) (ls' := [(2, 4), (2, 8), (0, cdF w i - 10000), (0, cdF w (i + 1))]) (st' := []) (w' := (qup (qup (axW w j49) 5 c (cdF w i - 10000)) 6 c (cdF w (i + 1)))) (n' := 142) rfl (by omega) (by decide) ?_
              refine qG.blk 3 (pc' := 101) (ls' := [(2, 4), (2, 8), (0, cdF w i - 10000), (0, cdF w (i + 1))]) (st' := [(0, (axW w j49) 4 2), (2, 4)]) (w' := (qup (qup (axW w j49) 5 c (cdF w i - 10000)) 6 c (cdF w (i + 1)))) (n' := 142) rfl ?_
              rw [show (axW w j49) 4 2 = ((c : Nat) : Int) from (axW_o (by decide)).trans (hc)]
              refine qG.blk 2 (pc' := 103) (ls' := [(2, 4), (2, 8), (0, cdF w i - 10000), (0, cdF w (i + 1))]) (st' := [(0, wrp (((c : Nat) : Int) + 1)), (2, 4)]) (w' := (qup (qup (axW w j49) 5 c (cdF w i - 10000)) 6 c (cdF w (i + 1)))) (n' := 142) rfl ?_
              rw [show wrp (((c : Nat) : Int) + 1) = ((c + 1 : Nat) : Int) from by rw [wrp_id (by omega) (by omega)]; omega]
              refine qG.blk 3 (pc' := 110) (ls' := [(2, 4), (2, 8), (0, cdF w i - 10000), (0, cdF w (i + 1))]) (st' := [(0, 20059), (2, 8)]) (w' := (qup (qup (qup (axW w j49) 5 c (cdF w i - 10000)) 6 c (cdF w (i + 1))) 4 2 ((c + 1 : Nat) : Int))) (n' := 142) rfl ?_
              rw [show (qup (qup (qup (axW w j49) 5 c (cdF w i - 10000)) 6 c (cdF w (i + 1))) 4 2 ((c + 1 : Nat) : Int)) = axW (qup (qup (qup w 5 c (cdF w i - 10000)) 6 c (cdF w (i + 1))) 4 2 ((c + 1 : Nat) : Int)) j49 from by rw [ax_up (by omega), ax_up (by omega), ax_up (by omega)]]
              obtain ⟨w3, hww3⟩ : ∃ q : qW, q = (qup (qup (qup w 5 c (cdF w i - 10000)) 6 c (cdF w (i + 1))) 4 2 ((c + 1 : Nat) : Int)) := ⟨_, rfl⟩
              rw [← hww3]
              have hA3 : AW (SHM_ 4) w w3 := by rw [hww3]; exact (((AW.rf hI).arr (zup_a hI (b := (0, 9999)) rfl rfl ⟨by omega, by omega⟩) (by decide) (by decide)).arr (zup_a (zup_a hI (b := (0, 9999)) rfl rfl ⟨by omega, by omega⟩) (b := (-2147483648, 2147483647)) rfl rfl hin) (by decide) (by decide)).upd (by decide) (by decide) (zup_f (zup_a (zup_a hI (b := (0, 9999)) rfl rfl ⟨by omega, by omega⟩) (b := (-2147483648, 2147483647)) rfl rfl hin) (b := (0, 40)) rfl rfl rfl ⟨by show (0 : Int) ≤ _; omega, by show _ ≤ (40 : Int); omega⟩)
              have hI3 := hA3.1
              obtain ⟨ecd, epl, e84, e8⟩ := hA3.cd (by decide)
              have hm3 : w3 8 4 = (m : Int) := e84.trans hm
              refine qG.call (t := 151) (na := 2) (sk := 1) (md := 1) (ls1 := [(2, 8), (0, 20059)]) (r1 := []) rfl rfl rfl rfl rfl (K_tNeeds (by omega) 20059 (by decide) m hm6 w3 hI3 hm3 j49 (by omega)) ?_
              rintro ⟨_, x9⟩ w7 _ ⟨rfl, hT⟩; rcases hT with ⟨j110, hs110, hl110, hx9, rfl⟩ | ⟨k110, j110, hs110, hk110, hl110, hx9, rfl⟩ <;> obtain ⟨rfl, rfl⟩ := Prod.mk.inj hx9
              · skip
                show qG none (d + 1) 108 113 [(2, 4), (2, 8), (0, cdF w i - 10000), (0, cdF w (i + 1))] [(0, 1)] (axW w3 j110) 142 Q9
                refine qG.ret rfl (by first | rfl | exact decide_eq_true (by omega)) ?_
                subst hQ9
                first | (exfalso; omega) | (rw [ecd] at hs110; have e9 := step_3 hw (show ¬ 40 ≤ c by omega); (first | rw [bnd_y ((kd_w (by omega)).trans hs49)] at e9 | rw [bnd_y ((kd_d (by omega) hk3).trans hs68)] at e9 | rw [bnd_y (kd_n (by omega) hk3)] at e9); first | exact ⟨rfl, w3, hA3, .inl ⟨j110, e9.trans hs110, hl110, rfl, rfl⟩, fun _ => hww3⟩ | exact ⟨rfl, w3, hA3, .inr ⟨k110, j110, e9.trans hs110, hk110, hl110, rfl, rfl⟩, fun z => by rw [e9.trans hs110] at z; have z : k110 = 0 := z; omega⟩)
              · skip
                show qG none (d + 1) 108 113 [(2, 4), (2, 8), (0, cdF w i - 10000), (0, cdF w (i + 1))] [(0, 0)] (axF w3 k110 j110) 142 Q9
                refine qG.ret rfl (by first | rfl | exact decide_eq_true (by omega)) ?_
                subst hQ9
                first | (exfalso; omega) | (rw [ecd] at hs110; have e9 := step_3 hw (show ¬ 40 ≤ c by omega); (first | rw [bnd_y ((kd_w (by omega)).trans hs49)] at e9 | rw [bnd_y ((kd_d (by omega) hk3).trans hs68)] at e9 | rw [bnd_y (kd_n (by omega) hk3)] at e9); first | exact ⟨rfl, w3, hA3, .inl ⟨j110, e9.trans hs110, hl110, rfl, rfl⟩, fun _ => hww3⟩ | exact ⟨rfl, w3, hA3, .inr ⟨k110, j110, e9.trans hs110, hk110, hl110, rfl, rfl⟩, fun z => by rw [e9.trans hs110] at z; have z : k110 = 0 := z; omega⟩)
            · skip
              have hk3 : cdF w i = 10000 ∨ cdF w i = 10001 ∨ cdF w i = 10003 := Decidable.of_not_not (fun z => hq61 (if_neg (by omega)))
              refine qG.blk 3 (pc' := 68) (ls' := [(2, 4), (2, 8), (0, cdF w i - 10000), (0, cdF w (i + 1))]) (st' := [(0, 9), (0, 0), (2, 8)]) (w' := (axW w j49)) (n' := 142) rfl ?_
              refine qG.call (t := 152) (na := 3) (sk := 1) (md := 1) (ls1 := [(2, 8), (0, 0), (0, 9), (9, 0)]) (r1 := []) rfl rfl rfl rfl rfl (K_tNum (by omega) 0 9 m hm6 w hI hm j49 (by omega)) ?_
              rintro ⟨_, x9⟩ w7 _ ⟨rfl, hT⟩; rcases hT with ⟨j68, hs68, hl68, hx9, rfl⟩ | ⟨k68, j68, hs68, hk68, hl68, hx9, rfl⟩ <;> obtain ⟨rfl, rfl⟩ := Prod.mk.inj hx9
              · skip
                show qG none (d + 1) 108 71 [(2, 4), (2, 8), (0, cdF w i - 10000), (0, cdF w (i + 1))] [(0, 1)] (axW w j68) 142 Q9
                refine qG.br (P := (1 : Int) = 0) (pc1 := 74) (pc2 := 76) (st1 := []) rfl (fun h2 => ?_) (fun h2 => ?_)
                · exact absurd h2 (by decide)
                · skip
                  refine qG.blk 2 (pc' := 80) (ls' := [(2, 4), (2, 8), (0, cdF w i - 10000), (0, cdF w (i + 1))]) (st' := [(2, (axW w j68) 4 0)]) (w' := (axW w j68)) (n' := 142) rfl ?_
                  rw [show (axW w j68) 4 0 = 5 from (axW_o (by decide)).trans (zref hI rfl rfl)]
                  refine qG.blk 2 (pc' := 84) (ls' := [(2, 4), (2, 8), (0, cdF w i - 10000), (0, cdF w (i + 1))]) (st' := [(0, (axW w j68) 4 2), (2, 5)]) (w' := (axW w j68)) (n' := 142) rfl ?_
                  rw [show (axW w j68) 4 2 = ((c : Nat) : Int) from (axW_o (by decide)).trans (hc)]
                  refine qG.blk 1 (pc' := 85) (ls' := [(2, 4), (2, 8), (0, cdF w i - 10000), (0, cdF w (i + 1))]) (st' := [(0, cdF w i - 10000), (0, ((c : Nat) : Int)), (2, 5)]) (w' := (axW w j68)) (n' := 142) rfl ?_
                  refine qG.ar (P := 0 ≤ ((c : Nat) : Int) ∧ ((c : Nat) : Int) < ((40 : Nat) : Int)) (P2 := 0 < (5 : Int) ∧ (5 : Int) ≤ ((142 : Nat) : Int)) (pc' := 86) (ls' := [(2, 4), (2, 8), (0, cdF w i - 10000), (0, cdF w (i + 1))]) (st' := []) (w' := (qup (axW w j68) 5 c (cdF w i - 10000))) (n' := 142) rfl (by omega) (by decide) ?_
                  refine qG.blk 2 (pc' := 90) (ls' := [(2, 4), (2, 8), (0, cdF w i - 10000), (0, cdF w (i + 1))]) (st' := [(2, (axW w j68) 4 1)]) (w' := (qup (axW w j68) 5 c (cdF w i - 10000))) (n' := 142) rfl ?_
                  rw [show (axW w j68) 4 1 = 6 from (axW_o (by decide)).trans (zref hI rfl rfl)]
                  refine qG.blk 2 (pc' := 94) (ls' := [(2, 4), (2, 8), (0, cdF w i - 10000), (0, cdF w (i + 1))]) (st' := [(0, (axW w j68) 4 2), (2, 6)]) (w' := (qup (axW w j68) 5 c (cdF w i - 10000))) (n' := 142) rfl ?_
                  rw [show (axW w j68) 4 2 = ((c : Nat) : Int) from (axW_o (by decide)).trans (hc)]
                  refine qG.blk 1 (pc' := 95) (ls' := [(2, 4), (2, 8), (0, cdF w i - 10000), (0, cdF w (i + 1))]) (st' := [(0, cdF w (i + 1)), (0, ((c : Nat) : Int)), (2, 6)]) (w' := (qup (axW w j68) 5 c (cdF w i - 10000))) (n' := 142) rfl ?_
                  refine qG.ar (P := 0 ≤ ((c : Nat) : Int) ∧ ((c : Nat) : Int) < ((40 : Nat) : Int)) (P2 := 0 < (6 : Int) ∧ (6 : Int) ≤ ((142 : Nat) : Int)) (pc' := 96) (ls' := [(2, 4), (2, 8), (0, cdF w i - 10000), (0, cdF w (i + 1))]) (st' := []) (w' := (qup (qup (axW w j68) 5 c (cdF w i - 10000)) 6 c (cdF w (i + 1)))) (n' := 142) rfl (by omega) (by decide) ?_
                  refine qG.blk 3 (pc' := 101) (ls' := [(2, 4), (2, 8), (0, cdF w i - 10000), (0, cdF w (i + 1))]) (st' := [(0, (axW w j68) 4 2), (2, 4)]) (w' := (qup (qup (axW w j68) 5 c (cdF w i - 10000)) 6 c (cdF w (i + 1)))) (n' := 142) rfl ?_
                  rw [show (axW w j68) 4 2 = ((c : Nat) : Int) from (axW_o (by decide)).trans (hc)]
                  refine qG.blk 2 (pc' := 103) (ls' := [(2, 4), (2, 8), (0, cdF w i - 10000), (0, cdF w (i + 1))]) (st' := [(0, wrp (((c : Nat) : Int) + 1)), (2, 4)]) (w' := (qup (qup (axW w j68) 5 c (cdF w i - 10000)) 6 c (cdF w (i + 1)))) (n' := 142) rfl ?_
                  rw [show wrp (((c : Nat) : Int) + 1) = ((c + 1 : Nat) : Int) from by rw [wrp_id (by omega) (by omega)]; omega]
                  refine qG.blk 3 (pc' := 110) (ls' := [(2, 4), (2, 8), (0, cdF w i - 10000), (0, cdF w (i + 1))]) (st' := [(0, 20059), (2, 8)]) (w' := (qup (qup (qup (axW w j68) 5 c (cdF w i - 10000)) 6 c (cdF w (i + 1))) 4 2 ((c + 1 : Nat) : Int))) (n' := 142) rfl ?_
                  rw [show (qup (qup (qup (axW w j68) 5 c (cdF w i - 10000)) 6 c (cdF w (i + 1))) 4 2 ((c + 1 : Nat) : Int)) = axW (qup (qup (qup w 5 c (cdF w i - 10000)) 6 c (cdF w (i + 1))) 4 2 ((c + 1 : Nat) : Int)) j68 from by rw [ax_up (by omega), ax_up (by omega), ax_up (by omega)]]
                  obtain ⟨w3, hww3⟩ : ∃ q : qW, q = (qup (qup (qup w 5 c (cdF w i - 10000)) 6 c (cdF w (i + 1))) 4 2 ((c + 1 : Nat) : Int)) := ⟨_, rfl⟩
                  rw [← hww3]
                  have hA3 : AW (SHM_ 4) w w3 := by rw [hww3]; exact (((AW.rf hI).arr (zup_a hI (b := (0, 9999)) rfl rfl ⟨by omega, by omega⟩) (by decide) (by decide)).arr (zup_a (zup_a hI (b := (0, 9999)) rfl rfl ⟨by omega, by omega⟩) (b := (-2147483648, 2147483647)) rfl rfl hin) (by decide) (by decide)).upd (by decide) (by decide) (zup_f (zup_a (zup_a hI (b := (0, 9999)) rfl rfl ⟨by omega, by omega⟩) (b := (-2147483648, 2147483647)) rfl rfl hin) (b := (0, 40)) rfl rfl rfl ⟨by show (0 : Int) ≤ _; omega, by show _ ≤ (40 : Int); omega⟩)
                  have hI3 := hA3.1
                  obtain ⟨ecd, epl, e84, e8⟩ := hA3.cd (by decide)
                  have hm3 : w3 8 4 = (m : Int) := e84.trans hm
                  refine qG.call (t := 151) (na := 2) (sk := 1) (md := 1) (ls1 := [(2, 8), (0, 20059)]) (r1 := []) rfl rfl rfl rfl rfl (K_tNeeds (by omega) 20059 (by decide) m hm6 w3 hI3 hm3 j68 (by omega)) ?_
                  rintro ⟨_, x9⟩ w7 _ ⟨rfl, hT⟩; rcases hT with ⟨j110, hs110, hl110, hx9, rfl⟩ | ⟨k110, j110, hs110, hk110, hl110, hx9, rfl⟩ <;> obtain ⟨rfl, rfl⟩ := Prod.mk.inj hx9
                  · skip
                    show qG none (d + 1) 108 113 [(2, 4), (2, 8), (0, cdF w i - 10000), (0, cdF w (i + 1))] [(0, 1)] (axW w3 j110) 142 Q9
                    refine qG.ret rfl (by first | rfl | exact decide_eq_true (by omega)) ?_
                    subst hQ9
                    first | (exfalso; omega) | (rw [ecd] at hs110; have e9 := step_3 hw (show ¬ 40 ≤ c by omega); (first | rw [bnd_y ((kd_w (by omega)).trans hs49)] at e9 | rw [bnd_y ((kd_d (by omega) hk3).trans hs68)] at e9 | rw [bnd_y (kd_n (by omega) hk3)] at e9); first | exact ⟨rfl, w3, hA3, .inl ⟨j110, e9.trans hs110, hl110, rfl, rfl⟩, fun _ => hww3⟩ | exact ⟨rfl, w3, hA3, .inr ⟨k110, j110, e9.trans hs110, hk110, hl110, rfl, rfl⟩, fun z => by rw [e9.trans hs110] at z; have z : k110 = 0 := z; omega⟩)
                  · skip
                    show qG none (d + 1) 108 113 [(2, 4), (2, 8), (0, cdF w i - 10000), (0, cdF w (i + 1))] [(0, 0)] (axF w3 k110 j110) 142 Q9
                    refine qG.ret rfl (by first | rfl | exact decide_eq_true (by omega)) ?_
                    subst hQ9
                    first | (exfalso; omega) | (rw [ecd] at hs110; have e9 := step_3 hw (show ¬ 40 ≤ c by omega); (first | rw [bnd_y ((kd_w (by omega)).trans hs49)] at e9 | rw [bnd_y ((kd_d (by omega) hk3).trans hs68)] at e9 | rw [bnd_y (kd_n (by omega) hk3)] at e9); first | exact ⟨rfl, w3, hA3, .inl ⟨j110, e9.trans hs110, hl110, rfl, rfl⟩, fun _ => hww3⟩ | exact ⟨rfl, w3, hA3, .inr ⟨k110, j110, e9.trans hs110, hk110, hl110, rfl, rfl⟩, fun z => by rw [e9.trans hs110] at z; have z : k110 = 0 := z; omega⟩)
              · skip
                show qG none (d + 1) 108 71 [(2, 4), (2, 8), (0, cdF w i - 10000), (0, cdF w (i + 1))] [(0, 0)] (axF w k68 j68) 142 Q9
                refine qG.br (P := (0 : Int) = 0) (pc1 := 74) (pc2 := 76) (st1 := []) rfl (fun h3 => ?_) (fun h3 => ?_)
                · skip
                  refine qG.blk 1 (pc' := 75) (ls' := [(2, 4), (2, 8), (0, cdF w i - 10000), (0, cdF w (i + 1))]) (st' := [(0, 0)]) (w' := (axF w k68 j68)) (n' := 142) rfl ?_
                  refine qG.ret rfl (by first | rfl | exact decide_eq_true (by omega)) ?_
                  subst hQ9
                  first | (exfalso; omega) | exact ⟨rfl, w, AW.rf hI, .inr ⟨k68, j68, (step_3 hw (by omega)).trans (bnd_k ((kd_d (by omega) hk3).trans hs68) hk68), hk68, hl68, rfl, rfl⟩, fun z => by rw [(step_3 hw (by omega)).trans (bnd_k ((kd_d (by omega) hk3).trans hs68) hk68)] at z; have z : k68 = 0 := z; omega⟩
                · exact absurd h3 (by decide)
        · skip
          show qG none (d + 1) 108 52 [(2, 4), (2, 8), (0, cdF w i - 10000), (0, cdF w (i + 1))] [(0, 0)] (axF w k49 j49) 142 Q9
          refine qG.br (P := (0 : Int) = 0) (pc1 := 55) (pc2 := 57) (st1 := []) rfl (fun h4 => ?_) (fun h4 => ?_)
          · skip
            refine qG.blk 1 (pc' := 56) (ls' := [(2, 4), (2, 8), (0, cdF w i - 10000), (0, cdF w (i + 1))]) (st' := [(0, 0)]) (w' := (axF w k49 j49)) (n' := 142) rfl ?_
            refine qG.ret rfl (by first | rfl | exact decide_eq_true (by omega)) ?_
            subst hQ9
            have e9 : sStep (cdF w) c i = (k49, j49) := (step_3 hw (by omega)).trans (bnd_k ((kd_w (by omega)).trans hs49) hk49)
            exact ⟨rfl, w, AW.rf hI, .inr ⟨k49, j49, e9, hk49, hl49, rfl, rfl⟩, fun z => by rw [e9] at z; have z : k49 = 0 := z; omega⟩
          · exact absurd h4 (by decide)
      · skip
        refine qG.blk 1 (pc' := 58) (ls' := [(2, 4), (2, 8), (0, cdF w i - 10000), (0, cdF w (i + 1))]) (st' := [(0, cdF w i - 10000)]) (w' := (axW w (i + 1))) (n' := 142) rfl ?_
        refine qG.call (t := 109) (na := 1) (sk := 0) (md := 0) (ls1 := [(0, cdF w i - 10000)]) (r1 := []) rfl rfl rfl rfl rfl (K_ofDoor (Nat.zero_le _) (cdF w i - 10000) (axW w (i + 1))) ?_
        rintro _ w7 _ ⟨rfl, hw7, rfl⟩
        rw [hw7]
        show qG none (d + 1) 108 61 [(2, 4), (2, 8), (0, cdF w i - 10000), (0, cdF w (i + 1))] [(0, (if cdF w i - 10000 = 0 ∨ cdF w i - 10000 = 1 ∨ cdF w i - 10000 = 3 then 1 else 0))] (axW w (i + 1)) 142 Q9
        refine qG.br (P := (if cdF w i - 10000 = 0 ∨ cdF w i - 10000 = 1 ∨ cdF w i - 10000 = 3 then 1 else 0) = 0) (pc1 := 76) (pc2 := 64) (st1 := []) rfl (fun hq61 => ?_) (fun hq61 => ?_)
        · skip
          have hk3 : ¬ (cdF w i = 10000 ∨ cdF w i = 10001 ∨ cdF w i = 10003) := fun z => by rw [if_pos (by omega)] at hq61; omega
          refine qG.blk 2 (pc' := 80) (ls' := [(2, 4), (2, 8), (0, cdF w i - 10000), (0, cdF w (i + 1))]) (st' := [(2, (axW w (i + 1)) 4 0)]) (w' := (axW w (i + 1))) (n' := 142) rfl ?_
          rw [show (axW w (i + 1)) 4 0 = 5 from (axW_o (by decide)).trans (zref hI rfl rfl)]
          refine qG.blk 2 (pc' := 84) (ls' := [(2, 4), (2, 8), (0, cdF w i - 10000), (0, cdF w (i + 1))]) (st' := [(0, (axW w (i + 1)) 4 2), (2, 5)]) (w' := (axW w (i + 1))) (n' := 142) rfl ?_
          rw [show (axW w (i + 1)) 4 2 = ((c : Nat) : Int) from (axW_o (by decide)).trans (hc)]
          refine qG.blk 1 (pc' := 85) (ls' := [(2, 4), (2, 8), (0, cdF w i - 10000), (0, cdF w (i + 1))]) (st' := [(0, cdF w i - 10000), (0, ((c : Nat) : Int)), (2, 5)]) (w' := (axW w (i + 1))) (n' := 142) rfl ?_
          refine qG.ar (P := 0 ≤ ((c : Nat) : Int) ∧ ((c : Nat) : Int) < ((40 : Nat) : Int)) (P2 := 0 < (5 : Int) ∧ (5 : Int) ≤ ((142 : Nat) : Int)) (pc' := 86) (ls' := [(2, 4), (2, 8), (0, cdF w i - 10000), (0, cdF w (i + 1))]) (st' := []) (w' := (qup (axW w (i + 1)) 5 c (cdF w i - 10000))) (n' := 142) rfl (by omega) (by decide) ?_
          refine qG.blk 2 (pc' := 90) (ls' := [(2, 4), (2, 8), (0, cdF w i - 10000), (0, cdF w (i + 1))]) (st' := [(2, (axW w (i + 1)) 4 1)]) (w' := (qup (axW w (i + 1)) 5 c (cdF w i - 10000))) (n' := 142) rfl ?_
          rw [show (axW w (i + 1)) 4 1 = 6 from (axW_o (by decide)).trans (zref hI rfl rfl)]
          refine qG.blk 2 (pc' := 94) (ls' := [(2, 4), (2, 8), (0, cdF w i - 10000), (0, cdF w (i + 1))]) (st' := [(0, (axW w (i + 1)) 4 2), (2, 6)]) (w' := (qup (axW w (i + 1)) 5 c (cdF w i - 10000))) (n' := 142) rfl ?_
          rw [show (axW w (i + 1)) 4 2 = ((c : Nat) : Int) from (axW_o (by decide)).trans (hc)]
          refine qG.blk 1 (pc' := 95) (ls' := [(2, 4), (2, 8), (0, cdF w i - 10000), (0, cdF w (i + 1))]) (st' := [(0, cdF w (i + 1)), (0, ((c : Nat) : Int)), (2, 6)]) (w' := (qup (axW w (i + 1)) 5 c (cdF w i - 10000))) (n' := 142) rfl ?_
          refine qG.ar (P := 0 ≤ ((c : Nat) : Int) ∧ ((c : Nat) : Int) < ((40 : Nat) : Int)) (P2 := 0 < (6 : Int) ∧ (6 : Int) ≤ ((142 : Nat) : Int)) (pc' := 96) (ls' := [(2, 4), (2, 8), (0, cdF w i - 10000), (0, cdF w (i + 1))]) (st' := []) (w' := (qup (qup (axW w (i + 1)) 5 c (cdF w i - 10000)) 6 c (cdF w (i + 1)))) (n' := 142) rfl (by omega) (by decide) ?_
          refine qG.blk 3 (pc' := 101) (ls' := [(2, 4), (2, 8), (0, cdF w i - 10000), (0, cdF w (i + 1))]) (st' := [(0, (axW w (i + 1)) 4 2), (2, 4)]) (w' := (qup (qup (axW w (i + 1)) 5 c (cdF w i - 10000)) 6 c (cdF w (i + 1)))) (n' := 142) rfl ?_
          rw [show (axW w (i + 1)) 4 2 = ((c : Nat) : Int) from (axW_o (by decide)).trans (hc)]
          refine qG.blk 2 (pc' := 103) (ls' := [(2, 4), (2, 8), (0, cdF w i - 10000), (0, cdF w (i + 1))]) (st' := [(0, wrp (((c : Nat) : Int) + 1)), (2, 4)]) (w' := (qup (qup (axW w (i + 1)) 5 c (cdF w i - 10000)) 6 c (cdF w (i + 1)))) (n' := 142) rfl ?_
          rw [show wrp (((c : Nat) : Int) + 1) = ((c + 1 : Nat) : Int) from by rw [wrp_id (by omega) (by omega)]; omega]
          refine qG.blk 3 (pc' := 110) (ls' := [(2, 4), (2, 8), (0, cdF w i - 10000), (0, cdF w (i + 1))]) (st' := [(0, 20059), (2, 8)]) (w' := (qup (qup (qup (axW w (i + 1)) 5 c (cdF w i - 10000)) 6 c (cdF w (i + 1))) 4 2 ((c + 1 : Nat) : Int))) (n' := 142) rfl ?_
          rw [show (qup (qup (qup (axW w (i + 1)) 5 c (cdF w i - 10000)) 6 c (cdF w (i + 1))) 4 2 ((c + 1 : Nat) : Int)) = axW (qup (qup (qup w 5 c (cdF w i - 10000)) 6 c (cdF w (i + 1))) 4 2 ((c + 1 : Nat) : Int)) (i + 1) from by rw [ax_up (by omega), ax_up (by omega), ax_up (by omega)]]
          obtain ⟨w3, hww3⟩ : ∃ q : qW, q = (qup (qup (qup w 5 c (cdF w i - 10000)) 6 c (cdF w (i + 1))) 4 2 ((c + 1 : Nat) : Int)) := ⟨_, rfl⟩
          rw [← hww3]
          have hA3 : AW (SHM_ 4) w w3 := by rw [hww3]; exact (((AW.rf hI).arr (zup_a hI (b := (0, 9999)) rfl rfl ⟨by omega, by omega⟩) (by decide) (by decide)).arr (zup_a (zup_a hI (b := (0, 9999)) rfl rfl ⟨by omega, by omega⟩) (b := (-2147483648, 2147483647)) rfl rfl hin) (by decide) (by decide)).upd (by decide) (by decide) (zup_f (zup_a (zup_a hI (b := (0, 9999)) rfl rfl ⟨by omega, by omega⟩) (b := (-2147483648, 2147483647)) rfl rfl hin) (b := (0, 40)) rfl rfl rfl ⟨by show (0 : Int) ≤ _; omega, by show _ ≤ (40 : Int); omega⟩)
          have hI3 := hA3.1
          obtain ⟨ecd, epl, e84, e8⟩ := hA3.cd (by decide)
          have hm3 : w3 8 4 = (m : Int) := e84.trans hm
          refine qG.call (t := 151) (na := 2) (sk := 1) (md := 1) (ls1 := [(2, 8), (0, 20059)]) (r1 := []) rfl rfl rfl rfl rfl (K_tNeeds (by omega) 20059 (by decide) m hm6 w3 hI3 hm3 (i + 1) (by omega)) ?_
          rintro ⟨_, x9⟩ w7 _ ⟨rfl, hT⟩; rcases hT with ⟨j110, hs110, hl110, hx9, rfl⟩ | ⟨k110, j110, hs110, hk110, hl110, hx9, rfl⟩ <;> obtain ⟨rfl, rfl⟩ := Prod.mk.inj hx9
          · skip
            show qG none (d + 1) 108 113 [(2, 4), (2, 8), (0, cdF w i - 10000), (0, cdF w (i + 1))] [(0, 1)] (axW w3 j110) 142 Q9
            refine qG.ret rfl (by first | rfl | exact decide_eq_true (by omega)) ?_
            subst hQ9
            first | (exfalso; omega) | (rw [ecd] at hs110; have e9 := step_3 hw (show ¬ 40 ≤ c by omega); (first | rw [bnd_y ((kd_w (by omega)).trans hs49)] at e9 | rw [bnd_y ((kd_d (by omega) hk3).trans hs68)] at e9 | rw [bnd_y (kd_n (by omega) hk3)] at e9); first | exact ⟨rfl, w3, hA3, .inl ⟨j110, e9.trans hs110, hl110, rfl, rfl⟩, fun _ => hww3⟩ | exact ⟨rfl, w3, hA3, .inr ⟨k110, j110, e9.trans hs110, hk110, hl110, rfl, rfl⟩, fun z => by rw [e9.trans hs110] at z; have z : k110 = 0 := z; omega⟩)
          · skip
            show qG none (d + 1) 108 113 [(2, 4), (2, 8), (0, cdF w i - 10000), (0, cdF w (i + 1))] [(0, 0)] (axF w3 k110 j110) 142 Q9
            refine qG.ret rfl (by first | rfl | exact decide_eq_true (by omega)) ?_
            subst hQ9
            first | (exfalso; omega) | (rw [ecd] at hs110; have e9 := step_3 hw (show ¬ 40 ≤ c by omega); (first | rw [bnd_y ((kd_w (by omega)).trans hs49)] at e9 | rw [bnd_y ((kd_d (by omega) hk3).trans hs68)] at e9 | rw [bnd_y (kd_n (by omega) hk3)] at e9); first | exact ⟨rfl, w3, hA3, .inl ⟨j110, e9.trans hs110, hl110, rfl, rfl⟩, fun _ => hww3⟩ | exact ⟨rfl, w3, hA3, .inr ⟨k110, j110, e9.trans hs110, hk110, hl110, rfl, rfl⟩, fun z => by rw [e9.trans hs110] at z; have z : k110 = 0 := z; omega⟩)
        · skip
          have hk3 : cdF w i = 10000 ∨ cdF w i = 10001 ∨ cdF w i = 10003 := Decidable.of_not_not (fun z => hq61 (if_neg (by omega)))
          refine qG.blk 3 (pc' := 68) (ls' := [(2, 4), (2, 8), (0, cdF w i - 10000), (0, cdF w (i + 1))]) (st' := [(0, 9), (0, 0), (2, 8)]) (w' := (axW w (i + 1))) (n' := 142) rfl ?_
          refine qG.call (t := 152) (na := 3) (sk := 1) (md := 1) (ls1 := [(2, 8), (0, 0), (0, 9), (9, 0)]) (r1 := []) rfl rfl rfl rfl rfl (K_tNum (by omega) 0 9 m hm6 w hI hm (i + 1) (by omega)) ?_
          rintro ⟨_, x9⟩ w7 _ ⟨rfl, hT⟩; rcases hT with ⟨j68, hs68, hl68, hx9, rfl⟩ | ⟨k68, j68, hs68, hk68, hl68, hx9, rfl⟩ <;> obtain ⟨rfl, rfl⟩ := Prod.mk.inj hx9
          · skip
            show qG none (d + 1) 108 71 [(2, 4), (2, 8), (0, cdF w i - 10000), (0, cdF w (i + 1))] [(0, 1)] (axW w j68) 142 Q9
            refine qG.br (P := (1 : Int) = 0) (pc1 := 74) (pc2 := 76) (st1 := []) rfl (fun h5 => ?_) (fun h5 => ?_)
            · exact absurd h5 (by decide)
            · skip
              refine qG.blk 2 (pc' := 80) (ls' := [(2, 4), (2, 8), (0, cdF w i - 10000), (0, cdF w (i + 1))]) (st' := [(2, (axW w j68) 4 0)]) (w' := (axW w j68)) (n' := 142) rfl ?_
              rw [show (axW w j68) 4 0 = 5 from (axW_o (by decide)).trans (zref hI rfl rfl)]
              refine qG.blk 2 (pc' := 84) (ls' := [(2, 4), (2, 8), (0, cdF w i - 10000), (0, cdF w (i + 1))]) (st' := [(0, (axW w j68) 4 2), (2, 5)]) (w' := (axW w j68)) (n' := 142) rfl ?_
              rw [show (axW w j68) 4 2 = ((c : Nat) : Int) from (axW_o (by decide)).trans (hc)]
              refine qG.blk 1 (pc' := 85) (ls' := [(2, 4), (2, 8), (0, cdF w i - 10000), (0, cdF w (i + 1))]) (st' := [(0, cdF w i - 10000), (0, ((c : Nat) : Int)), (2, 5)]) (w' := (axW w j68)) (n' := 142) rfl ?_
              refine qG.ar (P := 0 ≤ ((c : Nat) : Int) ∧ ((c : Nat) : Int) < ((40 : Nat) : Int)) (P2 := 0 < (5 : Int) ∧ (5 : Int) ≤ ((142 : Nat) : Int)) (pc' := 86) (ls' := [(2, 4), (2, 8), (0, cdF w i - 10000), (0, cdF w (i + 1))]) (st' := []) (w' := (qup (axW w j68) 5 c (cdF w i - 10000))) (n' := 142) rfl (by omega) (by decide) ?_
              refine qG.blk 2 (pc' := 90) (ls' := [(2, 4), (2, 8), (0, cdF w i - 10000), (0, cdF w (i + 1))]) (st' := [(2, (axW w j68) 4 1)]) (w' := (qup (axW w j68) 5 c (cdF w i - 10000))) (n' := 142) rfl ?_
              rw [show (axW w j68) 4 1 = 6 from (axW_o (by decide)).trans (zref hI rfl rfl)]
              refine qG.blk 2 (pc' := 94) (ls' := [(2, 4), (2, 8), (0, cdF w i - 10000), (0, cdF w (i + 1))]) (st' := [(0, (axW w j68) 4 2), (2, 6)]) (w' := (qup (axW w j68) 5 c (cdF w i - 10000))) (n' := 142) rfl ?_
              rw [show (axW w j68) 4 2 = ((c : Nat) : Int) from (axW_o (by decide)).trans (hc)]
              refine qG.blk 1 (pc' := 95) (ls' := [(2, 4), (2, 8), (0, cdF w i - 10000), (0, cdF w (i + 1))]) (st' := [(0, cdF w (i + 1)), (0, ((c : Nat) : Int)), (2, 6)]) (w' := (qup (axW w j68) 5 c (cdF w i - 10000))) (n' := 142) rfl ?_
              refine qG.ar (P := 0 ≤ ((c : Nat) : Int) ∧ ((c : Nat) : Int) < ((40 : Nat) : Int)) (P2 := 0 < (6 : Int) ∧ (6 : Int) ≤ ((142 : Nat) : Int)) (pc' := 96) (ls' := [(2, 4), (2, 8), (0, cdF w i - 10000), (0, cdF w (i + 1))]) (st' := []) (w' := (qup (qup (axW w j68) 5 c (cdF w i - 10000)) 6 c (cdF w (i + 1)))) (n' := 142) rfl (by omega) (by decide) ?_
              refine qG.blk 3 (pc' := 101) (ls' := [(2, 4), (2, 8), (0, cdF w i - 10000), (0, cdF w (i + 1))]) (st' := [(0, (axW w j68) 4 2), (2, 4)]) (w' := (qup (qup (axW w j68) 5 c (cdF w i - 10000)) 6 c (cdF w (i + 1)))) (n' := 142) rfl ?_
              rw [show (axW w j68) 4 2 = ((c : Nat) : Int) from (axW_o (by decide)).trans (hc)]
              refine qG.blk 2 (pc' := 103) (ls' := [(2, 4), (2, 8), (0, cdF w i - 10000), (0, cdF w (i + 1))]) (st' := [(0, wrp (((c : Nat) : Int) + 1)), (2, 4)]) (w' := (qup (qup (axW w j68) 5 c (cdF w i - 10000)) 6 c (cdF w (i + 1)))) (n' := 142) rfl ?_
              rw [show wrp (((c : Nat) : Int) + 1) = ((c + 1 : Nat) : Int) from by rw [wrp_id (by omega) (by omega)]; omega]
              refine qG.blk 3 (pc' := 110) (ls' := [(2, 4), (2, 8), (0, cdF w i - 10000), (0, cdF w (i + 1))]) (st' := [(0, 20059), (2, 8)]) (w' := (qup (qup (qup (axW w j68) 5 c (cdF w i - 10000)) 6 c (cdF w (i + 1))) 4 2 ((c + 1 : Nat) : Int))) (n' := 142) rfl ?_
              rw [show (qup (qup (qup (axW w j68) 5 c (cdF w i - 10000)) 6 c (cdF w (i + 1))) 4 2 ((c + 1 : Nat) : Int)) = axW (qup (qup (qup w 5 c (cdF w i - 10000)) 6 c (cdF w (i + 1))) 4 2 ((c + 1 : Nat) : Int)) j68 from by rw [ax_up (by omega), ax_up (by omega), ax_up (by omega)]]
              obtain ⟨w3, hww3⟩ : ∃ q : qW, q = (qup (qup (qup w 5 c (cdF w i - 10000)) 6 c (cdF w (i + 1))) 4 2 ((c + 1 : Nat) : Int)) := ⟨_, rfl⟩
              rw [← hww3]
              have hA3 : AW (SHM_ 4) w w3 := by rw [hww3]; exact (((AW.rf hI).arr (zup_a hI (b := (0, 9999)) rfl rfl ⟨by omega, by omega⟩) (by decide) (by decide)).arr (zup_a (zup_a hI (b := (0, 9999)) rfl rfl ⟨by omega, by omega⟩) (b := (-2147483648, 2147483647)) rfl rfl hin) (by decide) (by decide)).upd (by decide) (by decide) (zup_f (zup_a (zup_a hI (b := (0, 9999)) rfl rfl ⟨by omega, by omega⟩) (b := (-2147483648, 2147483647)) rfl rfl hin) (b := (0, 40)) rfl rfl rfl ⟨by show (0 : Int) ≤ _; omega, by show _ ≤ (40 : Int); omega⟩)
              have hI3 := hA3.1
              obtain ⟨ecd, epl, e84, e8⟩ := hA3.cd (by decide)
              have hm3 : w3 8 4 = (m : Int) := e84.trans hm
              refine qG.call (t := 151) (na := 2) (sk := 1) (md := 1) (ls1 := [(2, 8), (0, 20059)]) (r1 := []) rfl rfl rfl rfl rfl (K_tNeeds (by omega) 20059 (by decide) m hm6 w3 hI3 hm3 j68 (by omega)) ?_
              rintro ⟨_, x9⟩ w7 _ ⟨rfl, hT⟩; rcases hT with ⟨j110, hs110, hl110, hx9, rfl⟩ | ⟨k110, j110, hs110, hk110, hl110, hx9, rfl⟩ <;> obtain ⟨rfl, rfl⟩ := Prod.mk.inj hx9
              · skip
                show qG none (d + 1) 108 113 [(2, 4), (2, 8), (0, cdF w i - 10000), (0, cdF w (i + 1))] [(0, 1)] (axW w3 j110) 142 Q9
                refine qG.ret rfl (by first | rfl | exact decide_eq_true (by omega)) ?_
                subst hQ9
                first | (exfalso; omega) | (rw [ecd] at hs110; have e9 := step_3 hw (show ¬ 40 ≤ c by omega); (first | rw [bnd_y ((kd_w (by omega)).trans hs49)] at e9 | rw [bnd_y ((kd_d (by omega) hk3).trans hs68)] at e9 | rw [bnd_y (kd_n (by omega) hk3)] at e9); first | exact ⟨rfl, w3, hA3, .inl ⟨j110, e9.trans hs110, hl110, rfl, rfl⟩, fun _ => hww3⟩ | exact ⟨rfl, w3, hA3, .inr ⟨k110, j110, e9.trans hs110, hk110, hl110, rfl, rfl⟩, fun z => by rw [e9.trans hs110] at z; have z : k110 = 0 := z; omega⟩)
              · skip
                show qG none (d + 1) 108 113 [(2, 4), (2, 8), (0, cdF w i - 10000), (0, cdF w (i + 1))] [(0, 0)] (axF w3 k110 j110) 142 Q9
                refine qG.ret rfl (by first | rfl | exact decide_eq_true (by omega)) ?_
                subst hQ9
                first | (exfalso; omega) | (rw [ecd] at hs110; have e9 := step_3 hw (show ¬ 40 ≤ c by omega); (first | rw [bnd_y ((kd_w (by omega)).trans hs49)] at e9 | rw [bnd_y ((kd_d (by omega) hk3).trans hs68)] at e9 | rw [bnd_y (kd_n (by omega) hk3)] at e9); first | exact ⟨rfl, w3, hA3, .inl ⟨j110, e9.trans hs110, hl110, rfl, rfl⟩, fun _ => hww3⟩ | exact ⟨rfl, w3, hA3, .inr ⟨k110, j110, e9.trans hs110, hk110, hl110, rfl, rfl⟩, fun z => by rw [e9.trans hs110] at z; have z : k110 = 0 := z; omega⟩)
          · skip
            show qG none (d + 1) 108 71 [(2, 4), (2, 8), (0, cdF w i - 10000), (0, cdF w (i + 1))] [(0, 0)] (axF w k68 j68) 142 Q9
            refine qG.br (P := (0 : Int) = 0) (pc1 := 74) (pc2 := 76) (st1 := []) rfl (fun h6 => ?_) (fun h6 => ?_)
            · skip
              refine qG.blk 1 (pc' := 75) (ls' := [(2, 4), (2, 8), (0, cdF w i - 10000), (0, cdF w (i + 1))]) (st' := [(0, 0)]) (w' := (axF w k68 j68)) (n' := 142) rfl ?_
              refine qG.ret rfl (by first | rfl | exact decide_eq_true (by omega)) ?_
              subst hQ9
              first | (exfalso; omega) | exact ⟨rfl, w, AW.rf hI, .inr ⟨k68, j68, (step_3 hw (by omega)).trans (bnd_k ((kd_d (by omega) hk3).trans hs68) hk68), hk68, hl68, rfl, rfl⟩, fun z => by rw [(step_3 hw (by omega)).trans (bnd_k ((kd_d (by omega) hk3).trans hs68) hk68)] at z; have z : k68 = 0 := z; omega⟩
            · exact absurd h6 (by decide)
    · skip
      refine qG.blk 2 (pc' := 27) (ls' := [(2, 4), (2, 8), (0, cdF w i - 10000), (9, 0)]) (st' := [(0, 3), (2, 8)]) (w' := (axW w i)) (n' := 142) rfl ?_
      refine qG.call (t := 153) (na := 2) (sk := 1) (md := 1) (ls1 := [(2, 8), (0, 3)]) (r1 := []) rfl rfl rfl rfl rfl (K_tFail (by omega) 3 m hm6 w hI hm i (by omega)) ?_
      rintro _ w7 _ ⟨rfl, rfl, hw7⟩
      rw [hw7]
      show qG none (d + 1) 108 30 [(2, 4), (2, 8), (0, cdF w i - 10000), (9, 0)] [(0, 0)] (axF w 3 i) 142 Q9
      refine qG.ret rfl (by first | rfl | exact decide_eq_true (by omega)) ?_
      subst hQ9
      exact ⟨rfl, w, AW.rf hI, .inr ⟨3, i, stp_3 hw (by omega), .inr (.inr rfl), hi, rfl, rfl⟩, fun z => by rw [stp_3 hw (by omega)] at z; cases z⟩
theorem K_tStep79 {d : Nat} (hd : 3 ≤ d) (c : Nat) (hc4 : c ≤ 40) (m : Nat) (hm6 : m ≤ 601) (w : qW) (hI : yInv zgf zga zra zSp w) (hm : w 8 4 = (m : Int)) (i : Nat) (hi : i ≤ m) (hc : w 79 2 = (c : Int)) : qG none d 108 0 [(2, 79), (2, 8), (9, 0), (9, 0)] [] (axW w i) 142 (fun (r : qV) (w1 : qW) (n1 : Nat) => n1 = 142 ∧ ∃ w3, AW (SHM_ 79) w w3 ∧ RD w3 m (sStep (cdF w) c i) r w1 ∧ ((sStep (cdF w) c i).1 = 0 → w3 = lsW w 79 c (cdF w i - 10000) (cdF w (i + 1)))) := by
  generalize hQ9 : (fun (r : qV) (w1 : qW) (n1 : Nat) => n1 = 142 ∧ ∃ w3, AW (SHM_ 79) w w3 ∧ RD w3 m (sStep (cdF w) c i) r w1 ∧ ((sStep (cdF w) c i).1 = 0 → w3 = lsW w 79 c (cdF w i - 10000) (cdF w (i + 1)))) = Q9
  obtain ⟨d, rfl⟩ : ∃ d9, d = d9 + 1 := ⟨d - 1, by omega⟩
  refine qG.blk 1 (pc' := 1) (ls' := [(2, 79), (2, 8), (9, 0), (9, 0)]) (st' := [(2, 8)]) (w' := (axW w i)) (n' := 142) rfl ?_
  refine qG.call (t := 148) (na := 1) (sk := 1) (md := 1) (ls1 := [(2, 8), (9, 0)]) (r1 := []) rfl rfl rfl rfl rfl (K_tWord (by omega) m hm6 w hI hm i (by omega)) ?_
  rintro _ w7 _ ⟨rfl, rfl, hw7⟩
  rw [hw7]
  show qG none (d + 1) 108 4 [(2, 79), (2, 8), (9, 0), (9, 0)] [(0, (if 10000 ≤ cdF w i ∧ cdF w i < 20000 then cdF w i - 10000 else -1))] (axW w i) 142 Q9
  refine qG.blk 3 (pc' := 7) (ls' := [(2, 79), (2, 8), (0, (if 10000 ≤ cdF w i ∧ cdF w i < 20000 then cdF w i - 10000 else -1)), (9, 0)]) (st' := [(0, (-1)), (0, (if 10000 ≤ cdF w i ∧ cdF w i < 20000 then cdF w i - 10000 else -1))]) (w' := (axW w i)) (n' := 142) rfl ?_
  refine qG.br (P := (if 10000 ≤ cdF w i ∧ cdF w i < 20000 then cdF w i - 10000 else -1) = (-1)) (pc1 := 10) (pc2 := 16) (st1 := []) rfl (fun hq7 => ?_) (fun hq7 => ?_)
  · skip
    have hw : ¬ (10000 ≤ cdF w i ∧ cdF w i < 20000) := fun z => by rw [if_pos z] at hq7; omega
    refine qG.blk 2 (pc' := 12) (ls' := [(2, 79), (2, 8), (0, (if 10000 ≤ cdF w i ∧ cdF w i < 20000 then cdF w i - 10000 else -1)), (9, 0)]) (st' := [(0, 1), (2, 8)]) (w' := (axW w i)) (n' := 142) rfl ?_
    refine qG.call (t := 153) (na := 2) (sk := 1) (md := 1) (ls1 := [(2, 8), (0, 1)]) (r1 := []) rfl rfl rfl rfl rfl (K_tFail (by omega) 1 m hm6 w hI hm i (by omega)) ?_
    rintro _ w7 _ ⟨rfl, rfl, hw7⟩
    rw [hw7]
    show qG none (d + 1) 108 15 [(2, 79), (2, 8), (0, (if 10000 ≤ cdF w i ∧ cdF w i < 20000 then cdF w i - 10000 else -1)), (9, 0)] [(0, 0)] (axF w 1 i) 142 Q9
    refine qG.ret rfl (by first | rfl | exact decide_eq_true (by omega)) ?_
    subst hQ9
    exact ⟨rfl, w, AW.rf hI, .inr ⟨1, i, stp_1 hw, .inl rfl, hi, rfl, rfl⟩, fun z => by rw [stp_1 hw] at z; cases z⟩
  · skip
    have hw : 10000 ≤ cdF w i ∧ cdF w i < 20000 := Decidable.of_not_not (fun z => hq7 (if_neg z))
    rw [if_pos hw]
    have hlt : i < m := cd_lt hm (by omega)
    have hin : yin (-2147483648, 2147483647) (cdF w (i + 1)) := cd_in hI (i + 1)
    refine qG.blk 2 (pc' := 20) (ls' := [(2, 79), (2, 8), (0, cdF w i - 10000), (9, 0)]) (st' := [(0, (axW w i) 79 2)]) (w' := (axW w i)) (n' := 142) rfl ?_
    rw [show (axW w i) 79 2 = ((c : Nat) : Int) from (axW_o (by decide)).trans (hc)]
    refine qG.blk 1 (pc' := 22) (ls' := [(2, 79), (2, 8), (0, cdF w i - 10000), (9, 0)]) (st' := [(0, 40), (0, ((c : Nat) : Int))]) (w' := (axW w i)) (n' := 142) rfl ?_
    refine qG.br (P := ((c : Nat) : Int) < 40) (pc1 := 31) (pc2 := 25) (st1 := []) rfl (fun hq22 => ?_) (fun hq22 => ?_)
    · skip
      refine qG.blk 1 (pc' := 32) (ls' := [(2, 79), (2, 8), (0, cdF w i - 10000), (9, 0)]) (st' := [(2, 8)]) (w' := (axW w i)) (n' := 142) rfl ?_
      refine qG.call (t := 149) (na := 1) (sk := 1) (md := 1) (ls1 := [(2, 8)]) (r1 := []) rfl rfl rfl rfl rfl (K_tNext (by omega) m hm6 w hI hm i (by omega)) ?_
      rintro _ w7 _ ⟨rfl, rfl, hw7⟩
      rw [hw7]
      show qG none (d + 1) 108 35 [(2, 79), (2, 8), (0, cdF w i - 10000), (9, 0)] [] (axW w (i + 1)) 142 Q9
      refine qG.blk 1 (pc' := 36) (ls' := [(2, 79), (2, 8), (0, cdF w i - 10000), (9, 0)]) (st' := [(2, 8)]) (w' := (axW w (i + 1))) (n' := 142) rfl ?_
      refine qG.call (t := 145) (na := 1) (sk := 1) (md := 1) (ls1 := [(2, 8)]) (r1 := []) rfl rfl rfl rfl rfl (K_tCode (by omega) m hm6 w hI hm (i + 1) (by omega)) ?_
      rintro _ w7 _ ⟨rfl, rfl, hw7⟩
      rw [hw7]
      show qG none (d + 1) 108 39 [(2, 79), (2, 8), (0, cdF w i - 10000), (9, 0)] [(0, cdF w (i + 1))] (axW w (i + 1)) 142 Q9
      refine qG.blk 3 (pc' := 42) (ls' := [(2, 79), (2, 8), (0, cdF w i - 10000), (0, cdF w (i + 1))]) (st' := [(0, 2), (0, cdF w i - 10000)]) (w' := (axW w (i + 1))) (n' := 142) rfl ?_
      refine qG.br (P := cdF w i - 10000 = 2) (pc1 := 45) (pc2 := 57) (st1 := []) rfl (fun hq42 => ?_) (fun hq42 => ?_)
      · skip
        refine qG.blk 3 (pc' := 49) (ls' := [(2, 79), (2, 8), (0, cdF w i - 10000), (0, cdF w (i + 1))]) (st' := [(0, 20), (0, 1), (2, 8)]) (w' := (axW w (i + 1))) (n' := 142) rfl ?_
        refine qG.call (t := 152) (na := 3) (sk := 1) (md := 1) (ls1 := [(2, 8), (0, 1), (0, 20), (9, 0)]) (r1 := []) rfl rfl rfl rfl rfl (K_tNum (by omega) 1 20 m hm6 w hI hm (i + 1) (by omega)) ?_
        rintro ⟨_, x9⟩ w7 _ ⟨rfl, hT⟩; rcases hT with ⟨j49, hs49, hl49, hx9, rfl⟩ | ⟨k49, j49, hs49, hk49, hl49, hx9, rfl⟩ <;> obtain ⟨rfl, rfl⟩ := Prod.mk.inj hx9
        · skip
          show qG none (d + 1) 108 52 [(2, 79), (2, 8), (0, cdF w i - 10000), (0, cdF w (i + 1))] [(0, 1)] (axW w j49) 142 Q9
          refine qG.br (P := (1 : Int) = 0) (pc1 := 55) (pc2 := 57) (st1 := []) rfl (fun h1 => ?_) (fun h1 => ?_)
          · exact absurd h1 (by decide)
          · skip
            refine qG.blk 1 (pc' := 58) (ls' := [(2, 79), (2, 8), (0, cdF w i - 10000), (0, cdF w (i + 1))]) (st' := [(0, cdF w i - 10000)]) (w' := (axW w j49)) (n' := 142) rfl ?_
            refine qG.call (t := 109) (na := 1) (sk := 0) (md := 0) (ls1 := [(0, cdF w i - 10000)]) (r1 := []) rfl rfl rfl rfl rfl (K_ofDoor (Nat.zero_le _) (cdF w i - 10000) (axW w j49)) ?_
            rintro _ w7 _ ⟨rfl, hw7, rfl⟩
            rw [hw7]
            show qG none (d + 1) 108 61 [(2, 79), (2, 8), (0, cdF w i - 10000), (0, cdF w (i + 1))] [(0, (if cdF w i - 10000 = 0 ∨ cdF w i - 10000 = 1 ∨ cdF w i - 10000 = 3 then 1 else 0))] (axW w j49) 142 Q9
            refine qG.br (P := (if cdF w i - 10000 = 0 ∨ cdF w i - 10000 = 1 ∨ cdF w i - 10000 = 3 then 1 else 0) = 0) (pc1 := 76) (pc2 := 64) (st1 := []) rfl (fun hq61 => ?_) (fun hq61 => ?_)
            · skip
              have hk3 : ¬ (cdF w i = 10000 ∨ cdF w i = 10001 ∨ cdF w i = 10003) := fun z => by rw [if_pos (by omega)] at hq61; omega
              refine qG.blk 2 (pc' := 80) (ls' := [(2, 79), (2, 8), (0, cdF w i - 10000), (0, cdF w (i + 1))]) (st' := [(2, (axW w j49) 79 0)]) (w' := (axW w j49)) (n' := 142) rfl ?_
              rw [show (axW w j49) 79 0 = 80 from (axW_o (by decide)).trans (zref hI rfl rfl)]
              refine qG.blk 2 (pc' := 84) (ls' := [(2, 79), (2, 8), (0, cdF w i - 10000), (0, cdF w (i + 1))]) (st' := [(0, (axW w j49) 79 2), (2, 80)]) (w' := (axW w j49)) (n' := 142) rfl ?_
              rw [show (axW w j49) 79 2 = ((c : Nat) : Int) from (axW_o (by decide)).trans (hc)]
              refine qG.blk 1 (pc' := 85) (ls' := [(2, 79), (2, 8), (0, cdF w i - 10000), (0, cdF w (i + 1))]) (st' := [(0, cdF w i - 10000), (0, ((c : Nat) : Int)), (2, 80)]) (w' := (axW w j49)) (n' := 142) rfl ?_
              refine qG.ar (P := 0 ≤ ((c : Nat) : Int) ∧ ((c : Nat) : Int) < ((40 : Nat) : Int)) (P2 := 0 < (80 : Int) ∧ (80 : Int) ≤ ((142 : Nat) : Int)) (pc' := 86) (ls' := [(2, 79), (2, 8), (0, cdF w i - 10000), (0, cdF w (i + 1))]) (st' := []) (w' := (qup (axW w j49) 80 c (cdF w i - 10000))) (n' := 142) rfl (by omega) (by decide) ?_
              refine qG.blk 2 (pc' := 90) (ls' := [(2, 79), (2, 8), (0, cdF w i - 10000), (0, cdF w (i + 1))]) (st' := [(2, (axW w j49) 79 1)]) (w' := (qup (axW w j49) 80 c (cdF w i - 10000))) (n' := 142) rfl ?_
              rw [show (axW w j49) 79 1 = 81 from (axW_o (by decide)).trans (zref hI rfl rfl)]
              refine qG.blk 2 (pc' := 94) (ls' := [(2, 79), (2, 8), (0, cdF w i - 10000), (0, cdF w (i + 1))]) (st' := [(0, (axW w j49) 79 2), (2, 81)]) (w' := (qup (axW w j49) 80 c (cdF w i - 10000))) (n' := 142) rfl ?_
              rw [show (axW w j49) 79 2 = ((c : Nat) : Int) from (axW_o (by decide)).trans (hc)]
              refine qG.blk 1 (pc' := 95) (ls' := [(2, 79), (2, 8), (0, cdF w i - 10000), (0, cdF w (i + 1))]) (st' := [(0, cdF w (i + 1)), (0, ((c : Nat) : Int)), (2, 81)]) (w' := (qup (axW w j49) 80 c (cdF w i - 10000))) (n' := 142) rfl ?_
              refine qG.ar (P := 0 ≤ ((c : Nat) : Int) ∧ ((c : Nat) : Int) < ((40 : Nat) : Int)) (P2 := 0 < (81 : Int) ∧ (81 : Int) ≤ ((142 : Nat) : Int)) (pc' := 96) (ls' := [(2, 79), (2, 8), (0, cdF w i - 10000), (0, cdF w (i + 1))]) (st' := []) (w' := (qup (qup (axW w j49) 80 c (cdF w i - 10000)) 81 c (cdF w (i + 1)))) (n' := 142) rfl (by omega) (by decide) ?_
              refine qG.blk 3 (pc' := 101) (ls' := [(2, 79), (2, 8), (0, cdF w i - 10000), (0, cdF w (i + 1))]) (st' := [(0, (axW w j49) 79 2), (2, 79)]) (w' := (qup (qup (axW w j49) 80 c (cdF w i - 10000)) 81 c (cdF w (i + 1)))) (n' := 142) rfl ?_
              rw [show (axW w j49) 79 2 = ((c : Nat) : Int) from (axW_o (by decide)).trans (hc)]
              refine qG.blk 2 (pc' := 103) (ls' := [(2, 79), (2, 8), (0, cdF w i - 10000), (0, cdF w (i + 1))]) (st' := [(0, wrp (((c : Nat) : Int) + 1)), (2, 79)]) (w' := (qup (qup (axW w j49) 80 c (cdF w i - 10000)) 81 c (cdF w (i + 1)))) (n' := 142) rfl ?_
              rw [show wrp (((c : Nat) : Int) + 1) = ((c + 1 : Nat) : Int) from by rw [wrp_id (by omega) (by omega)]; omega]
              refine qG.blk 3 (pc' := 110) (ls' := [(2, 79), (2, 8), (0, cdF w i - 10000), (0, cdF w (i + 1))]) (st' := [(0, 20059), (2, 8)]) (w' := (qup (qup (qup (axW w j49) 80 c (cdF w i - 10000)) 81 c (cdF w (i + 1))) 79 2 ((c + 1 : Nat) : Int))) (n' := 142) rfl ?_
              rw [show (qup (qup (qup (axW w j49) 80 c (cdF w i - 10000)) 81 c (cdF w (i + 1))) 79 2 ((c + 1 : Nat) : Int)) = axW (qup (qup (qup w 80 c (cdF w i - 10000)) 81 c (cdF w (i + 1))) 79 2 ((c + 1 : Nat) : Int)) j49 from by rw [ax_up (by omega), ax_up (by omega), ax_up (by omega)]]
              obtain ⟨w3, hww3⟩ : ∃ q : qW, q = (qup (qup (qup w 80 c (cdF w i - 10000)) 81 c (cdF w (i + 1))) 79 2 ((c + 1 : Nat) : Int)) := ⟨_, rfl⟩
              rw [← hww3]
              have hA3 : AW (SHM_ 79) w w3 := by rw [hww3]; exact (((AW.rf hI).arr (zup_a hI (b := (0, 9999)) rfl rfl ⟨by omega, by omega⟩) (by decide) (by decide)).arr (zup_a (zup_a hI (b := (0, 9999)) rfl rfl ⟨by omega, by omega⟩) (b := (-2147483648, 2147483647)) rfl rfl hin) (by decide) (by decide)).upd (by decide) (by decide) (zup_f (zup_a (zup_a hI (b := (0, 9999)) rfl rfl ⟨by omega, by omega⟩) (b := (-2147483648, 2147483647)) rfl rfl hin) (b := (0, 40)) rfl rfl rfl ⟨by show (0 : Int) ≤ _; omega, by show _ ≤ (40 : Int); omega⟩)
              have hI3 := hA3.1
              obtain ⟨ecd, epl, e84, e8⟩ := hA3.cd (by decide)
              have hm3 : w3 8 4 = (m : Int) := e84.trans hm
              refine qG.call (t := 151) (na := 2) (sk := 1) (md := 1) (ls1 := [(2, 8), (0, 20059)]) (r1 := []) rfl rfl rfl rfl rfl (K_tNeeds (by omega) 20059 (by decide) m hm6 w3 hI3 hm3 j49 (by omega)) ?_
              rintro ⟨_, x9⟩ w7 _ ⟨rfl, hT⟩; rcases hT with ⟨j110, hs110, hl110, hx9, rfl⟩ | ⟨k110, j110, hs110, hk110, hl110, hx9, rfl⟩ <;> obtain ⟨rfl, rfl⟩ := Prod.mk.inj hx9
              · skip
                show qG none (d + 1) 108 113 [(2, 79), (2, 8), (0, cdF w i - 10000), (0, cdF w (i + 1))] [(0, 1)] (axW w3 j110) 142 Q9
                refine qG.ret rfl (by first | rfl | exact decide_eq_true (by omega)) ?_
                subst hQ9
                first | (exfalso; omega) | (rw [ecd] at hs110; have e9 := step_3 hw (show ¬ 40 ≤ c by omega); (first | rw [bnd_y ((kd_w (by omega)).trans hs49)] at e9 | rw [bnd_y ((kd_d (by omega) hk3).trans hs68)] at e9 | rw [bnd_y (kd_n (by omega) hk3)] at e9); first | exact ⟨rfl, w3, hA3, .inl ⟨j110, e9.trans hs110, hl110, rfl, rfl⟩, fun _ => hww3⟩ | exact ⟨rfl, w3, hA3, .inr ⟨k110, j110, e9.trans hs110, hk110, hl110, rfl, rfl⟩, fun z => by rw [e9.trans hs110] at z; have z : k110 = 0 := z; omega⟩)
              · skip
                show qG none (d + 1) 108 113 [(2, 79), (2, 8), (0, cdF w i - 10000), (0, cdF w (i + 1))] [(0, 0)] (axF w3 k110 j110) 142 Q9
                refine qG.ret rfl (by first | rfl | exact decide_eq_true (by omega)) ?_
                subst hQ9
                first | (exfalso; omega) | (rw [ecd] at hs110; have e9 := step_3 hw (show ¬ 40 ≤ c by omega); (first | rw [bnd_y ((kd_w (by omega)).trans hs49)] at e9 | rw [bnd_y ((kd_d (by omega) hk3).trans hs68)] at e9 | rw [bnd_y (kd_n (by omega) hk3)] at e9); first | exact ⟨rfl, w3, hA3, .inl ⟨j110, e9.trans hs110, hl110, rfl, rfl⟩, fun _ => hww3⟩ | exact ⟨rfl, w3, hA3, .inr ⟨k110, j110, e9.trans hs110, hk110, hl110, rfl, rfl⟩, fun z => by rw [e9.trans hs110] at z; have z : k110 = 0 := z; omega⟩)
            · skip
              have hk3 : cdF w i = 10000 ∨ cdF w i = 10001 ∨ cdF w i = 10003 := Decidable.of_not_not (fun z => hq61 (if_neg (by omega)))
              refine qG.blk 3 (pc' := 68) (ls' := [(2, 79), (2, 8), (0, cdF w i - 10000), (0, cdF w (i + 1))]) (st' := [(0, 9), (0, 0), (2, 8)]) (w' := (axW w j49)) (n' := 142) rfl ?_
              refine qG.call (t := 152) (na := 3) (sk := 1) (md := 1) (ls1 := [(2, 8), (0, 0), (0, 9), (9, 0)]) (r1 := []) rfl rfl rfl rfl rfl (K_tNum (by omega) 0 9 m hm6 w hI hm j49 (by omega)) ?_
              rintro ⟨_, x9⟩ w7 _ ⟨rfl, hT⟩; rcases hT with ⟨j68, hs68, hl68, hx9, rfl⟩ | ⟨k68, j68, hs68, hk68, hl68, hx9, rfl⟩ <;> obtain ⟨rfl, rfl⟩ := Prod.mk.inj hx9
              · skip
                show qG none (d + 1) 108 71 [(2, 79), (2, 8), (0, cdF w i - 10000), (0, cdF w (i + 1))] [(0, 1)] (axW w j68) 142 Q9
                refine qG.br (P := (1 : Int) = 0) (pc1 := 74) (pc2 := 76) (st1 := []) rfl (fun h2 => ?_) (fun h2 => ?_)
                · exact absurd h2 (by decide)
                · skip
                  refine qG.blk 2 (pc' := 80) (ls' := [(2, 79), (2, 8), (0, cdF w i - 10000), (0, cdF w (i + 1))]) (st' := [(2, (axW w j68) 79 0)]) (w' := (axW w j68)) (n' := 142) rfl ?_
                  rw [show (axW w j68) 79 0 = 80 from (axW_o (by decide)).trans (zref hI rfl rfl)]
                  refine qG.blk 2 (pc' := 84) (ls' := [(2, 79), (2, 8), (0, cdF w i - 10000), (0, cdF w (i + 1))]) (st' := [(0, (axW w j68) 79 2), (2, 80)]) (w' := (axW w j68)) (n' := 142) rfl ?_
                  rw [show (axW w j68) 79 2 = ((c : Nat) : Int) from (axW_o (by decide)).trans (hc)]
                  refine qG.blk 1 (pc' := 85) (ls' := [(2, 79), (2, 8), (0, cdF w i - 10000), (0, cdF w (i + 1))]) (st' := [(0, cdF w i - 10000), (0, ((c : Nat) : Int)), (2, 80)]) (w' := (axW w j68)) (n' := 142) rfl ?_
                  refine qG.ar (P := 0 ≤ ((c : Nat) : Int) ∧ ((c : Nat) : Int) < ((40 : Nat) : Int)) (P2 := 0 < (80 : Int) ∧ (80 : Int) ≤ ((142 : Nat) : Int)) (pc' := 86) (ls' := [(2, 79), (2, 8), (0, cdF w i - 10000), (0, cdF w (i + 1))]) (st' := []) (w' := (qup (axW w j68) 80 c (cdF w i - 10000))) (n' := 142) rfl (by omega) (by decide) ?_
                  refine qG.blk 2 (pc' := 90) (ls' := [(2, 79), (2, 8), (0, cdF w i - 10000), (0, cdF w (i + 1))]) (st' := [(2, (axW w j68) 79 1)]) (w' := (qup (axW w j68) 80 c (cdF w i - 10000))) (n' := 142) rfl ?_
                  rw [show (axW w j68) 79 1 = 81 from (axW_o (by decide)).trans (zref hI rfl rfl)]
                  refine qG.blk 2 (pc' := 94) (ls' := [(2, 79), (2, 8), (0, cdF w i - 10000), (0, cdF w (i + 1))]) (st' := [(0, (axW w j68) 79 2), (2, 81)]) (w' := (qup (axW w j68) 80 c (cdF w i - 10000))) (n' := 142) rfl ?_
                  rw [show (axW w j68) 79 2 = ((c : Nat) : Int) from (axW_o (by decide)).trans (hc)]
                  refine qG.blk 1 (pc' := 95) (ls' := [(2, 79), (2, 8), (0, cdF w i - 10000), (0, cdF w (i + 1))]) (st' := [(0, cdF w (i + 1)), (0, ((c : Nat) : Int)), (2, 81)]) (w' := (qup (axW w j68) 80 c (cdF w i - 10000))) (n' := 142) rfl ?_
                  refine qG.ar (P := 0 ≤ ((c : Nat) : Int) ∧ ((c : Nat) : Int) < ((40 : Nat) : Int)) (P2 := 0 < (81 : Int) ∧ (81 : Int) ≤ ((142 : Nat) : Int)) (pc' := 96) (ls' := [(2, 79), (2, 8), (0, cdF w i - 10000), (0, cdF w (i + 1))]) (st' := []) (w' := (qup (qup (axW w j68) 80 c (cdF w i - 10000)) 81 c (cdF w (i + 1)))) (n' := 142) rfl (by omega) (by decide) ?_
                  refine qG.blk 3 (pc' := 101) (ls' := [(2, 79), (2, 8), (0, cdF w i - 10000), (0, cdF w (i + 1))]) (st' := [(0, (axW w j68) 79 2), (2, 79)]) (w' := (qup (qup (axW w j68) 80 c (cdF w i - 10000)) 81 c (cdF w (i + 1)))) (n' := 142) rfl ?_
                  rw [show (axW w j68) 79 2 = ((c : Nat) : Int) from (axW_o (by decide)).trans (hc)]
                  refine qG.blk 2 (pc' := 103) (ls' := [(2, 79), (2, 8), (0, cdF w i - 10000), (0, cdF w (i + 1))]) (st' := [(0, wrp (((c : Nat) : Int) + 1)), (2, 79)]) (w' := (qup (qup (axW w j68) 80 c (cdF w i - 10000)) 81 c (cdF w (i + 1)))) (n' := 142) rfl ?_
                  rw [show wrp (((c : Nat) : Int) + 1) = ((c + 1 : Nat) : Int) from by rw [wrp_id (by omega) (by omega)]; omega]
                  refine qG.blk 3 (pc' := 110) (ls' := [(2, 79), (2, 8), (0, cdF w i - 10000), (0, cdF w (i + 1))]) (st' := [(0, 20059), (2, 8)]) (w' := (qup (qup (qup (axW w j68) 80 c (cdF w i - 10000)) 81 c (cdF w (i + 1))) 79 2 ((c + 1 : Nat) : Int))) (n' := 142) rfl ?_
                  rw [show (qup (qup (qup (axW w j68) 80 c (cdF w i - 10000)) 81 c (cdF w (i + 1))) 79 2 ((c + 1 : Nat) : Int)) = axW (qup (qup (qup w 80 c (cdF w i - 10000)) 81 c (cdF w (i + 1))) 79 2 ((c + 1 : Nat) : Int)) j68 from by rw [ax_up (by omega), ax_up (by omega), ax_up (by omega)]]
                  obtain ⟨w3, hww3⟩ : ∃ q : qW, q = (qup (qup (qup w 80 c (cdF w i - 10000)) 81 c (cdF w (i + 1))) 79 2 ((c + 1 : Nat) : Int)) := ⟨_, rfl⟩
                  rw [← hww3]
                  have hA3 : AW (SHM_ 79) w w3 := by rw [hww3]; exact (((AW.rf hI).arr (zup_a hI (b := (0, 9999)) rfl rfl ⟨by omega, by omega⟩) (by decide) (by decide)).arr (zup_a (zup_a hI (b := (0, 9999)) rfl rfl ⟨by omega, by omega⟩) (b := (-2147483648, 2147483647)) rfl rfl hin) (by decide) (by decide)).upd (by decide) (by decide) (zup_f (zup_a (zup_a hI (b := (0, 9999)) rfl rfl ⟨by omega, by omega⟩) (b := (-2147483648, 2147483647)) rfl rfl hin) (b := (0, 40)) rfl rfl rfl ⟨by show (0 : Int) ≤ _; omega, by show _ ≤ (40 : Int); omega⟩)
                  have hI3 := hA3.1
                  obtain ⟨ecd, epl, e84, e8⟩ := hA3.cd (by decide)
                  have hm3 : w3 8 4 = (m : Int) := e84.trans hm
                  refine qG.call (t := 151) (na := 2) (sk := 1) (md := 1) (ls1 := [(2, 8), (0, 20059)]) (r1 := []) rfl rfl rfl rfl rfl (K_tNeeds (by omega) 20059 (by decide) m hm6 w3 hI3 hm3 j68 (by omega)) ?_
                  rintro ⟨_, x9⟩ w7 _ ⟨rfl, hT⟩; rcases hT with ⟨j110, hs110, hl110, hx9, rfl⟩ | ⟨k110, j110, hs110, hk110, hl110, hx9, rfl⟩ <;> obtain ⟨rfl, rfl⟩ := Prod.mk.inj hx9
                  · skip
                    show qG none (d + 1) 108 113 [(2, 79), (2, 8), (0, cdF w i - 10000), (0, cdF w (i + 1))] [(0, 1)] (axW w3 j110) 142 Q9
                    refine qG.ret rfl (by first | rfl | exact decide_eq_true (by omega)) ?_
                    subst hQ9
                    first | (exfalso; omega) | (rw [ecd] at hs110; have e9 := step_3 hw (show ¬ 40 ≤ c by omega); (first | rw [bnd_y ((kd_w (by omega)).trans hs49)] at e9 | rw [bnd_y ((kd_d (by omega) hk3).trans hs68)] at e9 | rw [bnd_y (kd_n (by omega) hk3)] at e9); first | exact ⟨rfl, w3, hA3, .inl ⟨j110, e9.trans hs110, hl110, rfl, rfl⟩, fun _ => hww3⟩ | exact ⟨rfl, w3, hA3, .inr ⟨k110, j110, e9.trans hs110, hk110, hl110, rfl, rfl⟩, fun z => by rw [e9.trans hs110] at z; have z : k110 = 0 := z; omega⟩)
                  · skip
                    show qG none (d + 1) 108 113 [(2, 79), (2, 8), (0, cdF w i - 10000), (0, cdF w (i + 1))] [(0, 0)] (axF w3 k110 j110) 142 Q9
                    refine qG.ret rfl (by first | rfl | exact decide_eq_true (by omega)) ?_
                    subst hQ9
                    first | (exfalso; omega) | (rw [ecd] at hs110; have e9 := step_3 hw (show ¬ 40 ≤ c by omega); (first | rw [bnd_y ((kd_w (by omega)).trans hs49)] at e9 | rw [bnd_y ((kd_d (by omega) hk3).trans hs68)] at e9 | rw [bnd_y (kd_n (by omega) hk3)] at e9); first | exact ⟨rfl, w3, hA3, .inl ⟨j110, e9.trans hs110, hl110, rfl, rfl⟩, fun _ => hww3⟩ | exact ⟨rfl, w3, hA3, .inr ⟨k110, j110, e9.trans hs110, hk110, hl110, rfl, rfl⟩, fun z => by rw [e9.trans hs110] at z; have z : k110 = 0 := z; omega⟩)
              · skip
                show qG none (d + 1) 108 71 [(2, 79), (2, 8), (0, cdF w i - 10000), (0, cdF w (i + 1))] [(0, 0)] (axF w k68 j68) 142 Q9
                refine qG.br (P := (0 : Int) = 0) (pc1 := 74) (pc2 := 76) (st1 := []) rfl (fun h3 => ?_) (fun h3 => ?_)
                · skip
                  refine qG.blk 1 (pc' := 75) (ls' := [(2, 79), (2, 8), (0, cdF w i - 10000), (0, cdF w (i + 1))]) (st' := [(0, 0)]) (w' := (axF w k68 j68)) (n' := 142) rfl ?_
                  refine qG.ret rfl (by first | rfl | exact decide_eq_true (by omega)) ?_
                  subst hQ9
                  first | (exfalso; omega) | exact ⟨rfl, w, AW.rf hI, .inr ⟨k68, j68, (step_3 hw (by omega)).trans (bnd_k ((kd_d (by omega) hk3).trans hs68) hk68), hk68, hl68, rfl, rfl⟩, fun z => by rw [(step_3 hw (by omega)).trans (bnd_k ((kd_d (by omega) hk3).trans hs68) hk68)] at z; have z : k68 = 0 := z; omega⟩
                · exact absurd h3 (by decide)
        · skip
          show qG none (d + 1) 108 52 [(2, 79), (2, 8), (0, cdF w i - 10000), (0, cdF w (i + 1))] [(0, 0)] (axF w k49 j49) 142 Q9
          refine qG.br (P := (0 : Int) = 0) (pc1 := 55) (pc2 := 57) (st1 := []) rfl (fun h4 => ?_) (fun h4 => ?_)
          · skip
            refine qG.blk 1 (pc' := 56) (ls' := [(2, 79), (2, 8), (0, cdF w i - 10000), (0, cdF w (i + 1))]) (st' := [(0, 0)]) (w' := (axF w k49 j49)) (n' := 142) rfl ?_
            refine qG.ret rfl (by first | rfl | exact decide_eq_true (by omega)) ?_
            subst hQ9
            have e9 : sStep (cdF w) c i = (k49, j49) := (step_3 hw (by omega)).trans (bnd_k ((kd_w (by omega)).trans hs49) hk49)
            exact ⟨rfl, w, AW.rf hI, .inr ⟨k49, j49, e9, hk49, hl49, rfl, rfl⟩, fun z => by rw [e9] at z; have z : k49 = 0 := z; omega⟩
          · exact absurd h4 (by decide)
      · skip
        refine qG.blk 1 (pc' := 58) (ls' := [(2, 79), (2, 8), (0, cdF w i - 10000), (0, cdF w (i + 1))]) (st' := [(0, cdF w i - 10000)]) (w' := (axW w (i + 1))) (n' := 142) rfl ?_
        refine qG.call (t := 109) (na := 1) (sk := 0) (md := 0) (ls1 := [(0, cdF w i - 10000)]) (r1 := []) rfl rfl rfl rfl rfl (K_ofDoor (Nat.zero_le _) (cdF w i - 10000) (axW w (i + 1))) ?_
        rintro _ w7 _ ⟨rfl, hw7, rfl⟩
        rw [hw7]
        show qG none (d + 1) 108 61 [(2, 79), (2, 8), (0, cdF w i - 10000), (0, cdF w (i + 1))] [(0, (if cdF w i - 10000 = 0 ∨ cdF w i - 10000 = 1 ∨ cdF w i - 10000 = 3 then 1 else 0))] (axW w (i + 1)) 142 Q9
        refine qG.br (P := (if cdF w i - 10000 = 0 ∨ cdF w i - 10000 = 1 ∨ cdF w i - 10000 = 3 then 1 else 0) = 0) (pc1 := 76) (pc2 := 64) (st1 := []) rfl (fun hq61 => ?_) (fun hq61 => ?_)
        · skip
          have hk3 : ¬ (cdF w i = 10000 ∨ cdF w i = 10001 ∨ cdF w i = 10003) := fun z => by rw [if_pos (by omega)] at hq61; omega
          refine qG.blk 2 (pc' := 80) (ls' := [(2, 79), (2, 8), (0, cdF w i - 10000), (0, cdF w (i + 1))]) (st' := [(2, (axW w (i + 1)) 79 0)]) (w' := (axW w (i + 1))) (n' := 142) rfl ?_
          rw [show (axW w (i + 1)) 79 0 = 80 from (axW_o (by decide)).trans (zref hI rfl rfl)]
          refine qG.blk 2 (pc' := 84) (ls' := [(2, 79), (2, 8), (0, cdF w i - 10000), (0, cdF w (i + 1))]) (st' := [(0, (axW w (i + 1)) 79 2), (2, 80)]) (w' := (axW w (i + 1))) (n' := 142) rfl ?_
          rw [show (axW w (i + 1)) 79 2 = ((c : Nat) : Int) from (axW_o (by decide)).trans (hc)]
          refine qG.blk 1 (pc' := 85) (ls' := [(2, 79), (2, 8), (0, cdF w i - 10000), (0, cdF w (i + 1))]) (st' := [(0, cdF w i - 10000), (0, ((c : Nat) : Int)), (2, 80)]) (w' := (axW w (i + 1))) (n' := 142) rfl ?_
          refine qG.ar (P := 0 ≤ ((c : Nat) : Int) ∧ ((c : Nat) : Int) < ((40 : Nat) : Int)) (P2 := 0 < (80 : Int) ∧ (80 : Int) ≤ ((142 : Nat) : Int)) (pc' := 86) (ls' := [(2, 79), (2, 8), (0, cdF w i - 10000), (0, cdF w (i + 1))]) (st' := []) (w' := (qup (axW w (i + 1)) 80 c (cdF w i - 10000))) (n' := 142) rfl (by omega) (by decide) ?_
          refine qG.blk 2 (pc' := 90) (ls' := [(2, 79), (2, 8), (0, cdF w i - 10000), (0, cdF w (i + 1))]) (st' := [(2, (axW w (i + 1)) 79 1)]) (w' := (qup (axW w (i + 1)) 80 c (cdF w i - 10000))) (n' := 142) rfl ?_
          rw [show (axW w (i + 1)) 79 1 = 81 from (axW_o (by decide)).trans (zref hI rfl rfl)]
          refine qG.blk 2 (pc' := 94) (ls' := [(2, 79), (2, 8), (0, cdF w i - 10000), (0, cdF w (i + 1))]) (st' := [(0, (axW w (i + 1)) 79 2), (2, 81)]) (w' := (qup (axW w (i + 1)) 80 c (cdF w i - 10000))) (n' := 142) rfl ?_
          rw [show (axW w (i + 1)) 79 2 = ((c : Nat) : Int) from (axW_o (by decide)).trans (hc)]
          refine qG.blk 1 (pc' := 95) (ls' := [(2, 79), (2, 8), (0, cdF w i - 10000), (0, cdF w (i + 1))]) (st' := [(0, cdF w (i + 1)), (0, ((c : Nat) : Int)), (2, 81)]) (w' := (qup (axW w (i + 1)) 80 c (cdF w i - 10000))) (n' := 142) rfl ?_
          refine qG.ar (P := 0 ≤ ((c : Nat) : Int) ∧ ((c : Nat) : Int) < ((40 : Nat) : Int)) (P2 := 0 < (81 : Int) ∧ (81 : Int) ≤ ((142 : Nat) : Int)) (pc' := 96) (ls' := [(2, 79), (2, 8), (0, cdF w i - 10000), (0, cdF w (i + 1))]) (st' := []) (w' := (qup (qup (axW w (i + 1)) 80 c (cdF w i - 10000)) 81 c (cdF w (i + 1)))) (n' := 142) rfl (by omega) (by decide) ?_
          refine qG.blk 3 (pc' := 101) (ls' := [(2, 79), (2, 8), (0, cdF w i - 10000), (0, cdF w (i + 1))]) (st' := [(0, (axW w (i + 1)) 79 2), (2, 79)]) (w' := (qup (qup (axW w (i + 1)) 80 c (cdF w i - 10000)) 81 c (cdF w (i + 1)))) (n' := 142) rfl ?_
          rw [show (axW w (i + 1)) 79 2 = ((c : Nat) : Int) from (axW_o (by decide)).trans (hc)]
          refine qG.blk 2 (pc' := 103) (ls' := [(2, 79), (2, 8), (0, cdF w i - 10000), (0, cdF w (i + 1))]) (st' := [(0, wrp (((c : Nat) : Int) + 1)), (2, 79)]) (w' := (qup (qup (axW w (i + 1)) 80 c (cdF w i - 10000)) 81 c (cdF w (i + 1)))) (n' := 142) rfl ?_
          rw [show wrp (((c : Nat) : Int) + 1) = ((c + 1 : Nat) : Int) from by rw [wrp_id (by omega) (by omega)]; omega]
          refine qG.blk 3 (pc' := 110) (ls' := [(2, 79), (2, 8), (0, cdF w i - 10000), (0, cdF w (i + 1))]) (st' := [(0, 20059), (2, 8)]) (w' := (qup (qup (qup (axW w (i + 1)) 80 c (cdF w i - 10000)) 81 c (cdF w (i + 1))) 79 2 ((c + 1 : Nat) : Int))) (n' := 142) rfl ?_
          rw [show (qup (qup (qup (axW w (i + 1)) 80 c (cdF w i - 10000)) 81 c (cdF w (i + 1))) 79 2 ((c + 1 : Nat) : Int)) = axW (qup (qup (qup w 80 c (cdF w i - 10000)) 81 c (cdF w (i + 1))) 79 2 ((c + 1 : Nat) : Int)) (i + 1) from by rw [ax_up (by omega), ax_up (by omega), ax_up (by omega)]]
          obtain ⟨w3, hww3⟩ : ∃ q : qW, q = (qup (qup (qup w 80 c (cdF w i - 10000)) 81 c (cdF w (i + 1))) 79 2 ((c + 1 : Nat) : Int)) := ⟨_, rfl⟩
          rw [← hww3]
          have hA3 : AW (SHM_ 79) w w3 := by rw [hww3]; exact (((AW.rf hI).arr (zup_a hI (b := (0, 9999)) rfl rfl ⟨by omega, by omega⟩) (by decide) (by decide)).arr (zup_a (zup_a hI (b := (0, 9999)) rfl rfl ⟨by omega, by omega⟩) (b := (-2147483648, 2147483647)) rfl rfl hin) (by decide) (by decide)).upd (by decide) (by decide) (zup_f (zup_a (zup_a hI (b := (0, 9999)) rfl rfl ⟨by omega, by omega⟩) (b := (-2147483648, 2147483647)) rfl rfl hin) (b := (0, 40)) rfl rfl rfl ⟨by show (0 : Int) ≤ _; omega, by show _ ≤ (40 : Int); omega⟩)
          have hI3 := hA3.1
          obtain ⟨ecd, epl, e84, e8⟩ := hA3.cd (by decide)
          have hm3 : w3 8 4 = (m : Int) := e84.trans hm
          refine qG.call (t := 151) (na := 2) (sk := 1) (md := 1) (ls1 := [(2, 8), (0, 20059)]) (r1 := []) rfl rfl rfl rfl rfl (K_tNeeds (by omega) 20059 (by decide) m hm6 w3 hI3 hm3 (i + 1) (by omega)) ?_
          rintro ⟨_, x9⟩ w7 _ ⟨rfl, hT⟩; rcases hT with ⟨j110, hs110, hl110, hx9, rfl⟩ | ⟨k110, j110, hs110, hk110, hl110, hx9, rfl⟩ <;> obtain ⟨rfl, rfl⟩ := Prod.mk.inj hx9
          · skip
            show qG none (d + 1) 108 113 [(2, 79), (2, 8), (0, cdF w i - 10000), (0, cdF w (i + 1))] [(0, 1)] (axW w3 j110) 142 Q9
            refine qG.ret rfl (by first | rfl | exact decide_eq_true (by omega)) ?_
            subst hQ9
            first | (exfalso; omega) | (rw [ecd] at hs110; have e9 := step_3 hw (show ¬ 40 ≤ c by omega); (first | rw [bnd_y ((kd_w (by omega)).trans hs49)] at e9 | rw [bnd_y ((kd_d (by omega) hk3).trans hs68)] at e9 | rw [bnd_y (kd_n (by omega) hk3)] at e9); first | exact ⟨rfl, w3, hA3, .inl ⟨j110, e9.trans hs110, hl110, rfl, rfl⟩, fun _ => hww3⟩ | exact ⟨rfl, w3, hA3, .inr ⟨k110, j110, e9.trans hs110, hk110, hl110, rfl, rfl⟩, fun z => by rw [e9.trans hs110] at z; have z : k110 = 0 := z; omega⟩)
          · skip
            show qG none (d + 1) 108 113 [(2, 79), (2, 8), (0, cdF w i - 10000), (0, cdF w (i + 1))] [(0, 0)] (axF w3 k110 j110) 142 Q9
            refine qG.ret rfl (by first | rfl | exact decide_eq_true (by omega)) ?_
            subst hQ9
            first | (exfalso; omega) | (rw [ecd] at hs110; have e9 := step_3 hw (show ¬ 40 ≤ c by omega); (first | rw [bnd_y ((kd_w (by omega)).trans hs49)] at e9 | rw [bnd_y ((kd_d (by omega) hk3).trans hs68)] at e9 | rw [bnd_y (kd_n (by omega) hk3)] at e9); first | exact ⟨rfl, w3, hA3, .inl ⟨j110, e9.trans hs110, hl110, rfl, rfl⟩, fun _ => hww3⟩ | exact ⟨rfl, w3, hA3, .inr ⟨k110, j110, e9.trans hs110, hk110, hl110, rfl, rfl⟩, fun z => by rw [e9.trans hs110] at z; have z : k110 = 0 := z; omega⟩)
        · skip
          have hk3 : cdF w i = 10000 ∨ cdF w i = 10001 ∨ cdF w i = 10003 := Decidable.of_not_not (fun z => hq61 (if_neg (by omega)))
          refine qG.blk 3 (pc' := 68) (ls' := [(2, 79), (2, 8), (0, cdF w i - 10000), (0, cdF w (i + 1))]) (st' := [(0, 9), (0, 0), (2, 8)]) (w' := (axW w (i + 1))) (n' := 142) rfl ?_
          refine qG.call (t := 152) (na := 3) (sk := 1) (md := 1) (ls1 := [(2, 8), (0, 0), (0, 9), (9, 0)]) (r1 := []) rfl rfl rfl rfl rfl (K_tNum (by omega) 0 9 m hm6 w hI hm (i + 1) (by omega)) ?_
          rintro ⟨_, x9⟩ w7 _ ⟨rfl, hT⟩; rcases hT with ⟨j68, hs68, hl68, hx9, rfl⟩ | ⟨k68, j68, hs68, hk68, hl68, hx9, rfl⟩ <;> obtain ⟨rfl, rfl⟩ := Prod.mk.inj hx9
          · skip
            show qG none (d + 1) 108 71 [(2, 79), (2, 8), (0, cdF w i - 10000), (0, cdF w (i + 1))] [(0, 1)] (axW w j68) 142 Q9
            refine qG.br (P := (1 : Int) = 0) (pc1 := 74) (pc2 := 76) (st1 := []) rfl (fun h5 => ?_) (fun h5 => ?_)
            · exact absurd h5 (by decide)
            · skip
              refine qG.blk 2 (pc' := 80) (ls' := [(2, 79), (2, 8), (0, cdF w i - 10000), (0, cdF w (i + 1))]) (st' := [(2, (axW w j68) 79 0)]) (w' := (axW w j68)) (n' := 142) rfl ?_
              rw [show (axW w j68) 79 0 = 80 from (axW_o (by decide)).trans (zref hI rfl rfl)]
              refine qG.blk 2 (pc' := 84) (ls' := [(2, 79), (2, 8), (0, cdF w i - 10000), (0, cdF w (i + 1))]) (st' := [(0, (axW w j68) 79 2), (2, 80)]) (w' := (axW w j68)) (n' := 142) rfl ?_
              rw [show (axW w j68) 79 2 = ((c : Nat) : Int) from (axW_o (by decide)).trans (hc)]
              refine qG.blk 1 (pc' := 85) (ls' := [(2, 79), (2, 8), (0, cdF w i - 10000), (0, cdF w (i + 1))]) (st' := [(0, cdF w i - 10000), (0, ((c : Nat) : Int)), (2, 80)]) (w' := (axW w j68)) (n' := 142) rfl ?_
              refine qG.ar (P := 0 ≤ ((c : Nat) : Int) ∧ ((c : Nat) : Int) < ((40 : Nat) : Int)) (P2 := 0 < (80 : Int) ∧ (80 : Int) ≤ ((142 : Nat) : Int)) (pc' := 86) (ls' := [(2, 79), (2, 8), (0, cdF w i - 10000), (0, cdF w (i + 1))]) (st' := []) (w' := (qup (axW w j68) 80 c (cdF w i - 10000))) (n' := 142) rfl (by omega) (by decide) ?_
              refine qG.blk 2 (pc' := 90) (ls' := [(2, 79), (2, 8), (0, cdF w i - 10000), (0, cdF w (i + 1))]) (st' := [(2, (axW w j68) 79 1)]) (w' := (qup (axW w j68) 80 c (cdF w i - 10000))) (n' := 142) rfl ?_
              rw [show (axW w j68) 79 1 = 81 from (axW_o (by decide)).trans (zref hI rfl rfl)]
              refine qG.blk 2 (pc' := 94) (ls' := [(2, 79), (2, 8), (0, cdF w i - 10000), (0, cdF w (i + 1))]) (st' := [(0, (axW w j68) 79 2), (2, 81)]) (w' := (qup (axW w j68) 80 c (cdF w i - 10000))) (n' := 142) rfl ?_
              rw [show (axW w j68) 79 2 = ((c : Nat) : Int) from (axW_o (by decide)).trans (hc)]
              refine qG.blk 1 (pc' := 95) (ls' := [(2, 79), (2, 8), (0, cdF w i - 10000), (0, cdF w (i + 1))]) (st' := [(0, cdF w (i + 1)), (0, ((c : Nat) : Int)), (2, 81)]) (w' := (qup (axW w j68) 80 c (cdF w i - 10000))) (n' := 142) rfl ?_
              refine qG.ar (P := 0 ≤ ((c : Nat) : Int) ∧ ((c : Nat) : Int) < ((40 : Nat) : Int)) (P2 := 0 < (81 : Int) ∧ (81 : Int) ≤ ((142 : Nat) : Int)) (pc' := 96) (ls' := [(2, 79), (2, 8), (0, cdF w i - 10000), (0, cdF w (i + 1))]) (st' := []) (w' := (qup (qup (axW w j68) 80 c (cdF w i - 10000)) 81 c (cdF w (i + 1)))) (n' := 142) rfl (by omega) (by decide) ?_
              refine qG.blk 3 (pc' := 101) (ls' := [(2, 79), (2, 8), (0, cdF w i - 10000), (0, cdF w (i + 1))]) (st' := [(0, (axW w j68) 79 2), (2, 79)]) (w' := (qup (qup (axW w j68) 80 c (cdF w i - 10000)) 81 c (cdF w (i + 1)))) (n' := 142) rfl ?_
              rw [show (axW w j68) 79 2 = ((c : Nat) : Int) from (axW_o (by decide)).trans (hc)]
              refine qG.blk 2 (pc' := 103) (ls' := [(2, 79), (2, 8), (0, cdF w i - 10000), (0, cdF w (i + 1))]) (st' := [(0, wrp (((c : Nat) : Int) + 1)), (2, 79)]) (w' := (qup (qup (axW w j68) 80 c (cdF w i - 10000)) 81 c (cdF w (i + 1)))) (n' := 142) rfl ?_
              rw [show wrp (((c : Nat) : Int) + 1) = ((c + 1 : Nat) : Int) from by rw [wrp_id (by omega) (by omega)]; omega]
              refine qG.blk 3 (pc' := 110) (ls' := [(2, 79), (2, 8), (0, cdF w i - 10000), (0, cdF w (i + 1))]) (st' := [(0, 20059), (2, 8)]) (w' := (qup (qup (qup (axW w j68) 80 c (cdF w i - 10000)) 81 c (cdF w (i + 1))) 79 2 ((c + 1 : Nat) : Int))) (n' := 142) rfl ?_
              rw [show (qup (qup (qup (axW w j68) 80 c (cdF w i - 10000)) 81 c (cdF w (i + 1))) 79 2 ((c + 1 : Nat) : Int)) = axW (qup (qup (qup w 80 c (cdF w i - 10000)) 81 c (cdF w (i + 1))) 79 2 ((c + 1 : Nat) : Int)) j68 from by rw [ax_up (by omega), ax_up (by omega), ax_up (by omega)]]
              obtain ⟨w3, hww3⟩ : ∃ q : qW, q = (qup (qup (qup w 80 c (cdF w i - 10000)) 81 c (cdF w (i + 1))) 79 2 ((c + 1 : Nat) : Int)) := ⟨_, rfl⟩
              rw [← hww3]
              have hA3 : AW (SHM_ 79) w w3 := by rw [hww3]; exact (((AW.rf hI).arr (zup_a hI (b := (0, 9999)) rfl rfl ⟨by omega, by omega⟩) (by decide) (by decide)).arr (zup_a (zup_a hI (b := (0, 9999)) rfl rfl ⟨by omega, by omega⟩) (b := (-2147483648, 2147483647)) rfl rfl hin) (by decide) (by decide)).upd (by decide) (by decide) (zup_f (zup_a (zup_a hI (b := (0, 9999)) rfl rfl ⟨by omega, by omega⟩) (b := (-2147483648, 2147483647)) rfl rfl hin) (b := (0, 40)) rfl rfl rfl ⟨by show (0 : Int) ≤ _; omega, by show _ ≤ (40 : Int); omega⟩)
              have hI3 := hA3.1
              obtain ⟨ecd, epl, e84, e8⟩ := hA3.cd (by decide)
              have hm3 : w3 8 4 = (m : Int) := e84.trans hm
              refine qG.call (t := 151) (na := 2) (sk := 1) (md := 1) (ls1 := [(2, 8), (0, 20059)]) (r1 := []) rfl rfl rfl rfl rfl (K_tNeeds (by omega) 20059 (by decide) m hm6 w3 hI3 hm3 j68 (by omega)) ?_
              rintro ⟨_, x9⟩ w7 _ ⟨rfl, hT⟩; rcases hT with ⟨j110, hs110, hl110, hx9, rfl⟩ | ⟨k110, j110, hs110, hk110, hl110, hx9, rfl⟩ <;> obtain ⟨rfl, rfl⟩ := Prod.mk.inj hx9
              · skip
                show qG none (d + 1) 108 113 [(2, 79), (2, 8), (0, cdF w i - 10000), (0, cdF w (i + 1))] [(0, 1)] (axW w3 j110) 142 Q9
                refine qG.ret rfl (by first | rfl | exact decide_eq_true (by omega)) ?_
                subst hQ9
                first | (exfalso; omega) | (rw [ecd] at hs110; have e9 := step_3 hw (show ¬ 40 ≤ c by omega); (first | rw [bnd_y ((kd_w (by omega)).trans hs49)] at e9 | rw [bnd_y ((kd_d (by omega) hk3).trans hs68)] at e9 | rw [bnd_y (kd_n (by omega) hk3)] at e9); first | exact ⟨rfl, w3, hA3, .inl ⟨j110, e9.trans hs110, hl110, rfl, rfl⟩, fun _ => hww3⟩ | exact ⟨rfl, w3, hA3, .inr ⟨k110, j110, e9.trans hs110, hk110, hl110, rfl, rfl⟩, fun z => by rw [e9.trans hs110] at z; have z : k110 = 0 := z; omega⟩)
              · skip
                show qG none (d + 1) 108 113 [(2, 79), (2, 8), (0, cdF w i - 10000), (0, cdF w (i + 1))] [(0, 0)] (axF w3 k110 j110) 142 Q9
                refine qG.ret rfl (by first | rfl | exact decide_eq_true (by omega)) ?_
                subst hQ9
                first | (exfalso; omega) | (rw [ecd] at hs110; have e9 := step_3 hw (show ¬ 40 ≤ c by omega); (first | rw [bnd_y ((kd_w (by omega)).trans hs49)] at e9 | rw [bnd_y ((kd_d (by omega) hk3).trans hs68)] at e9 | rw [bnd_y (kd_n (by omega) hk3)] at e9); first | exact ⟨rfl, w3, hA3, .inl ⟨j110, e9.trans hs110, hl110, rfl, rfl⟩, fun _ => hww3⟩ | exact ⟨rfl, w3, hA3, .inr ⟨k110, j110, e9.trans hs110, hk110, hl110, rfl, rfl⟩, fun z => by rw [e9.trans hs110] at z; have z : k110 = 0 := z; omega⟩)
          · skip
            show qG none (d + 1) 108 71 [(2, 79), (2, 8), (0, cdF w i - 10000), (0, cdF w (i + 1))] [(0, 0)] (axF w k68 j68) 142 Q9
            refine qG.br (P := (0 : Int) = 0) (pc1 := 74) (pc2 := 76) (st1 := []) rfl (fun h6 => ?_) (fun h6 => ?_)
            · skip
              refine qG.blk 1 (pc' := 75) (ls' := [(2, 79), (2, 8), (0, cdF w i - 10000), (0, cdF w (i + 1))]) (st' := [(0, 0)]) (w' := (axF w k68 j68)) (n' := 142) rfl ?_
              refine qG.ret rfl (by first | rfl | exact decide_eq_true (by omega)) ?_
              subst hQ9
              first | (exfalso; omega) | exact ⟨rfl, w, AW.rf hI, .inr ⟨k68, j68, (step_3 hw (by omega)).trans (bnd_k ((kd_d (by omega) hk3).trans hs68) hk68), hk68, hl68, rfl, rfl⟩, fun z => by rw [(step_3 hw (by omega)).trans (bnd_k ((kd_d (by omega) hk3).trans hs68) hk68)] at z; have z : k68 = 0 := z; omega⟩
            · exact absurd h6 (by decide)
    · skip
      refine qG.blk 2 (pc' := 27) (ls' := [(2, 79), (2, 8), (0, cdF w i - 10000), (9, 0)]) (st' := [(0, 3), (2, 8)]) (w' := (axW w i)) (n' := 142) rfl ?_
      refine qG.call (t := 153) (na := 2) (sk := 1) (md := 1) (ls1 := [(2, 8), (0, 3)]) (r1 := []) rfl rfl rfl rfl rfl (K_tFail (by omega) 3 m hm6 w hI hm i (by omega)) ?_
      rintro _ w7 _ ⟨rfl, rfl, hw7⟩
      rw [hw7]
      show qG none (d + 1) 108 30 [(2, 79), (2, 8), (0, cdF w i - 10000), (9, 0)] [(0, 0)] (axF w 3 i) 142 Q9
      refine qG.ret rfl (by first | rfl | exact decide_eq_true (by omega)) ?_
      subst hQ9
      exact ⟨rfl, w, AW.rf hI, .inr ⟨3, i, stp_3 hw (by omega), .inr (.inr rfl), hi, rfl, rfl⟩, fun z => by rw [stp_3 hw (by omega)] at z; cases z⟩
theorem K_tStep83 {d : Nat} (hd : 3 ≤ d) (c : Nat) (hc4 : c ≤ 40) (m : Nat) (hm6 : m ≤ 601) (w : qW) (hI : yInv zgf zga zra zSp w) (hm : w 8 4 = (m : Int)) (i : Nat) (hi : i ≤ m) (hc : w 83 2 = (c : Int)) : qG none d 108 0 [(2, 83), (2, 8), (9, 0), (9, 0)] [] (axW w i) 142 (fun (r : qV) (w1 : qW) (n1 : Nat) => n1 = 142 ∧ ∃ w3, AW (SHM_ 83) w w3 ∧ RD w3 m (sStep (cdF w) c i) r w1 ∧ ((sStep (cdF w) c i).1 = 0 → w3 = lsW w 83 c (cdF w i - 10000) (cdF w (i + 1)))) := by
  generalize hQ9 : (fun (r : qV) (w1 : qW) (n1 : Nat) => n1 = 142 ∧ ∃ w3, AW (SHM_ 83) w w3 ∧ RD w3 m (sStep (cdF w) c i) r w1 ∧ ((sStep (cdF w) c i).1 = 0 → w3 = lsW w 83 c (cdF w i - 10000) (cdF w (i + 1)))) = Q9
  obtain ⟨d, rfl⟩ : ∃ d9, d = d9 + 1 := ⟨d - 1, by omega⟩
  refine qG.blk 1 (pc' := 1) (ls' := [(2, 83), (2, 8), (9, 0), (9, 0)]) (st' := [(2, 8)]) (w' := (axW w i)) (n' := 142) rfl ?_
  refine qG.call (t := 148) (na := 1) (sk := 1) (md := 1) (ls1 := [(2, 8), (9, 0)]) (r1 := []) rfl rfl rfl rfl rfl (K_tWord (by omega) m hm6 w hI hm i (by omega)) ?_
  rintro _ w7 _ ⟨rfl, rfl, hw7⟩
  rw [hw7]
  show qG none (d + 1) 108 4 [(2, 83), (2, 8), (9, 0), (9, 0)] [(0, (if 10000 ≤ cdF w i ∧ cdF w i < 20000 then cdF w i - 10000 else -1))] (axW w i) 142 Q9
  refine qG.blk 3 (pc' := 7) (ls' := [(2, 83), (2, 8), (0, (if 10000 ≤ cdF w i ∧ cdF w i < 20000 then cdF w i - 10000 else -1)), (9, 0)]) (st' := [(0, (-1)), (0, (if 10000 ≤ cdF w i ∧ cdF w i < 20000 then cdF w i - 10000 else -1))]) (w' := (axW w i)) (n' := 142) rfl ?_
  refine qG.br (P := (if 10000 ≤ cdF w i ∧ cdF w i < 20000 then cdF w i - 10000 else -1) = (-1)) (pc1 := 10) (pc2 := 16) (st1 := []) rfl (fun hq7 => ?_) (fun hq7 => ?_)
  · skip
    have hw : ¬ (10000 ≤ cdF w i ∧ cdF w i < 20000) := fun z => by rw [if_pos z] at hq7; omega
    refine qG.blk 2 (pc' := 12) (ls' := [(2, 83), (2, 8), (0, (if 10000 ≤ cdF w i ∧ cdF w i < 20000 then cdF w i - 10000 else -1)), (9, 0)]) (st' := [(0, 1), (2, 8)]) (w' := (axW w i)) (n' := 142) rfl ?_
    refine qG.call (t := 153) (na := 2) (sk := 1) (md := 1) (ls1 := [(2, 8), (0, 1)]) (r1 := []) rfl rfl rfl rfl rfl (K_tFail (by omega) 1 m hm6 w hI hm i (by omega)) ?_
    rintro _ w7 _ ⟨rfl, rfl, hw7⟩
    rw [hw7]
    show qG none (d + 1) 108 15 [(2, 83), (2, 8), (0, (if 10000 ≤ cdF w i ∧ cdF w i < 20000 then cdF w i - 10000 else -1)), (9, 0)] [(0, 0)] (axF w 1 i) 142 Q9
    refine qG.ret rfl (by first | rfl | exact decide_eq_true (by omega)) ?_
    subst hQ9
    exact ⟨rfl, w, AW.rf hI, .inr ⟨1, i, stp_1 hw, .inl rfl, hi, rfl, rfl⟩, fun z => by rw [stp_1 hw] at z; cases z⟩
  · skip
    have hw : 10000 ≤ cdF w i ∧ cdF w i < 20000 := Decidable.of_not_not (fun z => hq7 (if_neg z))
    rw [if_pos hw]
    have hlt : i < m := cd_lt hm (by omega)
    have hin : yin (-2147483648, 2147483647) (cdF w (i + 1)) := cd_in hI (i + 1)
    refine qG.blk 2 (pc' := 20) (ls' := [(2, 83), (2, 8), (0, cdF w i - 10000), (9, 0)]) (st' := [(0, (axW w i) 83 2)]) (w' := (axW w i)) (n' := 142) rfl ?_
    rw [show (axW w i) 83 2 = ((c : Nat) : Int) from (axW_o (by decide)).trans (hc)]
    refine qG.blk 1 (pc' := 22) (ls' := [(2, 83), (2, 8), (0, cdF w i - 10000), (9, 0)]) (st' := [(0, 40), (0, ((c : Nat) : Int))]) (w' := (axW w i)) (n' := 142) rfl ?_
    refine qG.br (P := ((c : Nat) : Int) < 40) (pc1 := 31) (pc2 := 25) (st1 := []) rfl (fun hq22 => ?_) (fun hq22 => ?_)
    · skip
      refine qG.blk 1 (pc' := 32) (ls' := [(2, 83), (2, 8), (0, cdF w i - 10000), (9, 0)]) (st' := [(2, 8)]) (w' := (axW w i)) (n' := 142) rfl ?_
      refine qG.call (t := 149) (na := 1) (sk := 1) (md := 1) (ls1 := [(2, 8)]) (r1 := []) rfl rfl rfl rfl rfl (K_tNext (by omega) m hm6 w hI hm i (by omega)) ?_
      rintro _ w7 _ ⟨rfl, rfl, hw7⟩
      rw [hw7]
      show qG none (d + 1) 108 35 [(2, 83), (2, 8), (0, cdF w i - 10000), (9, 0)] [] (axW w (i + 1)) 142 Q9
      refine qG.blk 1 (pc' := 36) (ls' := [(2, 83), (2, 8), (0, cdF w i - 10000), (9, 0)]) (st' := [(2, 8)]) (w' := (axW w (i + 1))) (n' := 142) rfl ?_
      refine qG.call (t := 145) (na := 1) (sk := 1) (md := 1) (ls1 := [(2, 8)]) (r1 := []) rfl rfl rfl rfl rfl (K_tCode (by omega) m hm6 w hI hm (i + 1) (by omega)) ?_
      rintro _ w7 _ ⟨rfl, rfl, hw7⟩
      rw [hw7]
      show qG none (d + 1) 108 39 [(2, 83), (2, 8), (0, cdF w i - 10000), (9, 0)] [(0, cdF w (i + 1))] (axW w (i + 1)) 142 Q9
      refine qG.blk 3 (pc' := 42) (ls' := [(2, 83), (2, 8), (0, cdF w i - 10000), (0, cdF w (i + 1))]) (st' := [(0, 2), (0, cdF w i - 10000)]) (w' := (axW w (i + 1))) (n' := 142) rfl ?_
      refine qG.br (P := cdF w i - 10000 = 2) (pc1 := 45) (pc2 := 57) (st1 := []) rfl (fun hq42 => ?_) (fun hq42 => ?_)
      · skip
        refine qG.blk 3 (pc' := 49) (ls' := [(2, 83), (2, 8), (0, cdF w i - 10000), (0, cdF w (i + 1))]) (st' := [(0, 20), (0, 1), (2, 8)]) (w' := (axW w (i + 1))) (n' := 142) rfl ?_
        refine qG.call (t := 152) (na := 3) (sk := 1) (md := 1) (ls1 := [(2, 8), (0, 1), (0, 20), (9, 0)]) (r1 := []) rfl rfl rfl rfl rfl (K_tNum (by omega) 1 20 m hm6 w hI hm (i + 1) (by omega)) ?_
        rintro ⟨_, x9⟩ w7 _ ⟨rfl, hT⟩; rcases hT with ⟨j49, hs49, hl49, hx9, rfl⟩ | ⟨k49, j49, hs49, hk49, hl49, hx9, rfl⟩ <;> obtain ⟨rfl, rfl⟩ := Prod.mk.inj hx9
        · skip
          show qG none (d + 1) 108 52 [(2, 83), (2, 8), (0, cdF w i - 10000), (0, cdF w (i + 1))] [(0, 1)] (axW w j49) 142 Q9
          refine qG.br (P := (1 : Int) = 0) (pc1 := 55) (pc2 := 57) (st1 := []) rfl (fun h1 => ?_) (fun h1 => ?_)
          · exact absurd h1 (by decide)
          · skip
            refine qG.blk 1 (pc' := 58) (ls' := [(2, 83), (2, 8), (0, cdF w i - 10000), (0, cdF w (i + 1))]) (st' := [(0, cdF w i - 10000)]) (w' := (axW w j49)) (n' := 142) rfl ?_
            refine qG.call (t := 109) (na := 1) (sk := 0) (md := 0) (ls1 := [(0, cdF w i - 10000)]) (r1 := []) rfl rfl rfl rfl rfl (K_ofDoor (Nat.zero_le _) (cdF w i - 10000) (axW w j49)) ?_
            rintro _ w7 _ ⟨rfl, hw7, rfl⟩
            rw [hw7]
            show qG none (d + 1) 108 61 [(2, 83), (2, 8), (0, cdF w i - 10000), (0, cdF w (i + 1))] [(0, (if cdF w i - 10000 = 0 ∨ cdF w i - 10000 = 1 ∨ cdF w i - 10000 = 3 then 1 else 0))] (axW w j49) 142 Q9
            refine qG.br (P := (if cdF w i - 10000 = 0 ∨ cdF w i - 10000 = 1 ∨ cdF w i - 10000 = 3 then 1 else 0) = 0) (pc1 := 76) (pc2 := 64) (st1 := []) rfl (fun hq61 => ?_) (fun hq61 => ?_)
            · skip
              have hk3 : ¬ (cdF w i = 10000 ∨ cdF w i = 10001 ∨ cdF w i = 10003) := fun z => by rw [if_pos (by omega)] at hq61; omega
              refine qG.blk 2 (pc' := 80) (ls' := [(2, 83), (2, 8), (0, cdF w i - 10000), (0, cdF w (i + 1))]) (st' := [(2, (axW w j49) 83 0)]) (w' := (axW w j49)) (n' := 142) rfl ?_
              rw [show (axW w j49) 83 0 = 84 from (axW_o (by decide)).trans (zref hI rfl rfl)]
              refine qG.blk 2 (pc' := 84) (ls' := [(2, 83), (2, 8), (0, cdF w i - 10000), (0, cdF w (i + 1))]) (st' := [(0, (axW w j49) 83 2), (2, 84)]) (w' := (axW w j49)) (n' := 142) rfl ?_
              rw [show (axW w j49) 83 2 = ((c : Nat) : Int) from (axW_o (by decide)).trans (hc)]
              refine qG.blk 1 (pc' := 85) (ls' := [(2, 83), (2, 8), (0, cdF w i - 10000), (0, cdF w (i + 1))]) (st' := [(0, cdF w i - 10000), (0, ((c : Nat) : Int)), (2, 84)]) (w' := (axW w j49)) (n' := 142) rfl ?_
              refine qG.ar (P := 0 ≤ ((c : Nat) : Int) ∧ ((c : Nat) : Int) < ((40 : Nat) : Int)) (P2 := 0 < (84 : Int) ∧ (84 : Int) ≤ ((142 : Nat) : Int)) (pc' := 86) (ls' := [(2, 83), (2, 8), (0, cdF w i - 10000), (0, cdF w (i + 1))]) (st' := []) (w' := (qup (axW w j49) 84 c (cdF w i - 10000))) (n' := 142) rfl (by omega) (by decide) ?_
              refine qG.blk 2 (pc' := 90) (ls' := [(2, 83), (2, 8), (0, cdF w i - 10000), (0, cdF w (i + 1))]) (st' := [(2, (axW w j49) 83 1)]) (w' := (qup (axW w j49) 84 c (cdF w i - 10000))) (n' := 142) rfl ?_
              rw [show (axW w j49) 83 1 = 85 from (axW_o (by decide)).trans (zref hI rfl rfl)]
              refine qG.blk 2 (pc' := 94) (ls' := [(2, 83), (2, 8), (0, cdF w i - 10000), (0, cdF w (i + 1))]) (st' := [(0, (axW w j49) 83 2), (2, 85)]) (w' := (qup (axW w j49) 84 c (cdF w i - 10000))) (n' := 142) rfl ?_
              rw [show (axW w j49) 83 2 = ((c : Nat) : Int) from (axW_o (by decide)).trans (hc)]
              refine qG.blk 1 (pc' := 95) (ls' := [(2, 83), (2, 8), (0, cdF w i - 10000), (0, cdF w (i + 1))]) (st' := [(0, cdF w (i + 1)), (0, ((c : Nat) : Int)), (2, 85)]) (w' := (qup (axW w j49) 84 c (cdF w i - 10000))) (n' := 142) rfl ?_
              refine qG.ar (P := 0 ≤ ((c : Nat) : Int) ∧ ((c : Nat) : Int) < ((40 : Nat) : Int)) (P2 := 0 < (85 : Int) ∧ (85 : Int) ≤ ((142 : Nat) : Int)) (pc' := 96) (ls' := [(2, 83), (2, 8), (0, cdF w i - 10000), (0, cdF w (i + 1))]) (st' := []) (w' := (qup (qup (axW w j49) 84 c (cdF w i - 10000)) 85 c (cdF w (i + 1)))) (n' := 142) rfl (by omega) (by decide) ?_
              refine qG.blk 3 (pc' := 101) (ls' := [(2, 83), (2, 8), (0, cdF w i - 10000), (0, cdF w (i + 1))]) (st' := [(0, (axW w j49) 83 2), (2, 83)]) (w' := (qup (qup (axW w j49) 84 c (cdF w i - 10000)) 85 c (cdF w (i + 1)))) (n' := 142) rfl ?_
              rw [show (axW w j49) 83 2 = ((c : Nat) : Int) from (axW_o (by decide)).trans (hc)]
              refine qG.blk 2 (pc' := 103) (ls' := [(2, 83), (2, 8), (0, cdF w i - 10000), (0, cdF w (i + 1))]) (st' := [(0, wrp (((c : Nat) : Int) + 1)), (2, 83)]) (w' := (qup (qup (axW w j49) 84 c (cdF w i - 10000)) 85 c (cdF w (i + 1)))) (n' := 142) rfl ?_
              rw [show wrp (((c : Nat) : Int) + 1) = ((c + 1 : Nat) : Int) from by rw [wrp_id (by omega) (by omega)]; omega]
              refine qG.blk 3 (pc' := 110) (ls' := [(2, 83), (2, 8), (0, cdF w i - 10000), (0, cdF w (i + 1))]) (st' := [(0, 20059), (2, 8)]) (w' := (qup (qup (qup (axW w j49) 84 c (cdF w i - 10000)) 85 c (cdF w (i + 1))) 83 2 ((c + 1 : Nat) : Int))) (n' := 142) rfl ?_
              rw [show (qup (qup (qup (axW w j49) 84 c (cdF w i - 10000)) 85 c (cdF w (i + 1))) 83 2 ((c + 1 : Nat) : Int)) = axW (qup (qup (qup w 84 c (cdF w i - 10000)) 85 c (cdF w (i + 1))) 83 2 ((c + 1 : Nat) : Int)) j49 from by rw [ax_up (by omega), ax_up (by omega), ax_up (by omega)]]
              obtain ⟨w3, hww3⟩ : ∃ q : qW, q = (qup (qup (qup w 84 c (cdF w i - 10000)) 85 c (cdF w (i + 1))) 83 2 ((c + 1 : Nat) : Int)) := ⟨_, rfl⟩
              rw [← hww3]
              have hA3 : AW (SHM_ 83) w w3 := by rw [hww3]; exact (((AW.rf hI).arr (zup_a hI (b := (0, 9999)) rfl rfl ⟨by omega, by omega⟩) (by decide) (by decide)).arr (zup_a (zup_a hI (b := (0, 9999)) rfl rfl ⟨by omega, by omega⟩) (b := (-2147483648, 2147483647)) rfl rfl hin) (by decide) (by decide)).upd (by decide) (by decide) (zup_f (zup_a (zup_a hI (b := (0, 9999)) rfl rfl ⟨by omega, by omega⟩) (b := (-2147483648, 2147483647)) rfl rfl hin) (b := (0, 40)) rfl rfl rfl ⟨by show (0 : Int) ≤ _; omega, by show _ ≤ (40 : Int); omega⟩)
              have hI3 := hA3.1
              obtain ⟨ecd, epl, e84, e8⟩ := hA3.cd (by decide)
              have hm3 : w3 8 4 = (m : Int) := e84.trans hm
              refine qG.call (t := 151) (na := 2) (sk := 1) (md := 1) (ls1 := [(2, 8), (0, 20059)]) (r1 := []) rfl rfl rfl rfl rfl (K_tNeeds (by omega) 20059 (by decide) m hm6 w3 hI3 hm3 j49 (by omega)) ?_
              rintro ⟨_, x9⟩ w7 _ ⟨rfl, hT⟩; rcases hT with ⟨j110, hs110, hl110, hx9, rfl⟩ | ⟨k110, j110, hs110, hk110, hl110, hx9, rfl⟩ <;> obtain ⟨rfl, rfl⟩ := Prod.mk.inj hx9
              · skip
                show qG none (d + 1) 108 113 [(2, 83), (2, 8), (0, cdF w i - 10000), (0, cdF w (i + 1))] [(0, 1)] (axW w3 j110) 142 Q9
                refine qG.ret rfl (by first | rfl | exact decide_eq_true (by omega)) ?_
                subst hQ9
                first | (exfalso; omega) | (rw [ecd] at hs110; have e9 := step_3 hw (show ¬ 40 ≤ c by omega); (first | rw [bnd_y ((kd_w (by omega)).trans hs49)] at e9 | rw [bnd_y ((kd_d (by omega) hk3).trans hs68)] at e9 | rw [bnd_y (kd_n (by omega) hk3)] at e9); first | exact ⟨rfl, w3, hA3, .inl ⟨j110, e9.trans hs110, hl110, rfl, rfl⟩, fun _ => hww3⟩ | exact ⟨rfl, w3, hA3, .inr ⟨k110, j110, e9.trans hs110, hk110, hl110, rfl, rfl⟩, fun z => by rw [e9.trans hs110] at z; have z : k110 = 0 := z; omega⟩)
              · skip
                show qG none (d + 1) 108 113 [(2, 83), (2, 8), (0, cdF w i - 10000), (0, cdF w (i + 1))] [(0, 0)] (axF w3 k110 j110) 142 Q9
                refine qG.ret rfl (by first | rfl | exact decide_eq_true (by omega)) ?_
                subst hQ9
                first | (exfalso; omega) | (rw [ecd] at hs110; have e9 := step_3 hw (show ¬ 40 ≤ c by omega); (first | rw [bnd_y ((kd_w (by omega)).trans hs49)] at e9 | rw [bnd_y ((kd_d (by omega) hk3).trans hs68)] at e9 | rw [bnd_y (kd_n (by omega) hk3)] at e9); first | exact ⟨rfl, w3, hA3, .inl ⟨j110, e9.trans hs110, hl110, rfl, rfl⟩, fun _ => hww3⟩ | exact ⟨rfl, w3, hA3, .inr ⟨k110, j110, e9.trans hs110, hk110, hl110, rfl, rfl⟩, fun z => by rw [e9.trans hs110] at z; have z : k110 = 0 := z; omega⟩)
            · skip
              have hk3 : cdF w i = 10000 ∨ cdF w i = 10001 ∨ cdF w i = 10003 := Decidable.of_not_not (fun z => hq61 (if_neg (by omega)))
              refine qG.blk 3 (pc' := 68) (ls' := [(2, 83), (2, 8), (0, cdF w i - 10000), (0, cdF w (i + 1))]) (st' := [(0, 9), (0, 0), (2, 8)]) (w' := (axW w j49)) (n' := 142) rfl ?_
              refine qG.call (t := 152) (na := 3) (sk := 1) (md := 1) (ls1 := [(2, 8), (0, 0), (0, 9), (9, 0)]) (r1 := []) rfl rfl rfl rfl rfl (K_tNum (by omega) 0 9 m hm6 w hI hm j49 (by omega)) ?_
              rintro ⟨_, x9⟩ w7 _ ⟨rfl, hT⟩; rcases hT with ⟨j68, hs68, hl68, hx9, rfl⟩ | ⟨k68, j68, hs68, hk68, hl68, hx9, rfl⟩ <;> obtain ⟨rfl, rfl⟩ := Prod.mk.inj hx9
              · skip
                show qG none (d + 1) 108 71 [(2, 83), (2, 8), (0, cdF w i - 10000), (0, cdF w (i + 1))] [(0, 1)] (axW w j68) 142 Q9
                refine qG.br (P := (1 : Int) = 0) (pc1 := 74) (pc2 := 76) (st1 := []) rfl (fun h2 => ?_) (fun h2 => ?_)
                · exact absurd h2 (by decide)
                · skip
                  refine qG.blk 2 (pc' := 80) (ls' := [(2, 83), (2, 8), (0, cdF w i - 10000), (0, cdF w (i + 1))]) (st' := [(2, (axW w j68) 83 0)]) (w' := (axW w j68)) (n' := 142) rfl ?_
                  rw [show (axW w j68) 83 0 = 84 from (axW_o (by decide)).trans (zref hI rfl rfl)]
                  refine qG.blk 2 (pc' := 84) (ls' := [(2, 83), (2, 8), (0, cdF w i - 10000), (0, cdF w (i + 1))]) (st' := [(0, (axW w j68) 83 2), (2, 84)]) (w' := (axW w j68)) (n' := 142) rfl ?_
                  rw [show (axW w j68) 83 2 = ((c : Nat) : Int) from (axW_o (by decide)).trans (hc)]
                  refine qG.blk 1 (pc' := 85) (ls' := [(2, 83), (2, 8), (0, cdF w i - 10000), (0, cdF w (i + 1))]) (st' := [(0, cdF w i - 10000), (0, ((c : Nat) : Int)), (2, 84)]) (w' := (axW w j68)) (n' := 142) rfl ?_
                  refine qG.ar (P := 0 ≤ ((c : Nat) : Int) ∧ ((c : Nat) : Int) < ((40 : Nat) : Int)) (P2 := 0 < (84 : Int) ∧ (84 : Int) ≤ ((142 : Nat) : Int)) (pc' := 86) (ls' := [(2, 83), (2, 8), (0, cdF w i - 10000), (0, cdF w (i + 1))]) (st' := []) (w' := (qup (axW w j68) 84 c (cdF w i - 10000))) (n' := 142) rfl (by omega) (by decide) ?_
                  refine qG.blk 2 (pc' := 90) (ls' := [(2, 83), (2, 8), (0, cdF w i - 10000), (0, cdF w (i + 1))]) (st' := [(2, (axW w j68) 83 1)]) (w' := (qup (axW w j68) 84 c (cdF w i - 10000))) (n' := 142) rfl ?_
                  rw [show (axW w j68) 83 1 = 85 from (axW_o (by decide)).trans (zref hI rfl rfl)]
                  refine qG.blk 2 (pc' := 94) (ls' := [(2, 83), (2, 8), (0, cdF w i - 10000), (0, cdF w (i + 1))]) (st' := [(0, (axW w j68) 83 2), (2, 85)]) (w' := (qup (axW w j68) 84 c (cdF w i - 10000))) (n' := 142) rfl ?_
                  rw [show (axW w j68) 83 2 = ((c : Nat) : Int) from (axW_o (by decide)).trans (hc)]
                  refine qG.blk 1 (pc' := 95) (ls' := [(2, 83), (2, 8), (0, cdF w i - 10000), (0, cdF w (i + 1))]) (st' := [(0, cdF w (i + 1)), (0, ((c : Nat) : Int)), (2, 85)]) (w' := (qup (axW w j68) 84 c (cdF w i - 10000))) (n' := 142) rfl ?_
                  refine qG.ar (P := 0 ≤ ((c : Nat) : Int) ∧ ((c : Nat) : Int) < ((40 : Nat) : Int)) (P2 := 0 < (85 : Int) ∧ (85 : Int) ≤ ((142 : Nat) : Int)) (pc' := 96) (ls' := [(2, 83), (2, 8), (0, cdF w i - 10000), (0, cdF w (i + 1))]) (st' := []) (w' := (qup (qup (axW w j68) 84 c (cdF w i - 10000)) 85 c (cdF w (i + 1)))) (n' := 142) rfl (by omega) (by decide) ?_
                  refine qG.blk 3 (pc' := 101) (ls' := [(2, 83), (2, 8), (0, cdF w i - 10000), (0, cdF w (i + 1))]) (st' := [(0, (axW w j68) 83 2), (2, 83)]) (w' := (qup (qup (axW w j68) 84 c (cdF w i - 10000)) 85 c (cdF w (i + 1)))) (n' := 142) rfl ?_
                  rw [show (axW w j68) 83 2 = ((c : Nat) : Int) from (axW_o (by decide)).trans (hc)]
                  refine qG.blk 2 (pc' := 103) (ls' := [(2, 83), (2, 8), (0, cdF w i - 10000), (0, cdF w (i + 1))]) (st' := [(0, wrp (((c : Nat) : Int) + 1)), (2, 83)]) (w' := (qup (qup (axW w j68) 84 c (cdF w i - 10000)) 85 c (cdF w (i + 1)))) (n' := 142) rfl ?_
                  rw [show wrp (((c : Nat) : Int) + 1) = ((c + 1 : Nat) : Int) from by rw [wrp_id (by omega) (by omega)]; omega]
                  refine qG.blk 3 (pc' := 110) (ls' := [(2, 83), (2, 8), (0, cdF w i - 10000), (0, cdF w (i + 1))]) (st' := [(0, 20059), (2, 8)]) (w' := (qup (qup (qup (axW w j68) 84 c (cdF w i - 10000)) 85 c (cdF w (i + 1))) 83 2 ((c + 1 : Nat) : Int))) (n' := 142) rfl ?_
                  rw [show (qup (qup (qup (axW w j68) 84 c (cdF w i - 10000)) 85 c (cdF w (i + 1))) 83 2 ((c + 1 : Nat) : Int)) = axW (qup (qup (qup w 84 c (cdF w i - 10000)) 85 c (cdF w (i + 1))) 83 2 ((c + 1 : Nat) : Int)) j68 from by rw [ax_up (by omega), ax_up (by omega), ax_up (by omega)]]
                  obtain ⟨w3, hww3⟩ : ∃ q : qW, q = (qup (qup (qup w 84 c (cdF w i - 10000)) 85 c (cdF w (i + 1))) 83 2 ((c + 1 : Nat) : Int)) := ⟨_, rfl⟩
                  rw [← hww3]
                  have hA3 : AW (SHM_ 83) w w3 := by rw [hww3]; exact (((AW.rf hI).arr (zup_a hI (b := (0, 9999)) rfl rfl ⟨by omega, by omega⟩) (by decide) (by decide)).arr (zup_a (zup_a hI (b := (0, 9999)) rfl rfl ⟨by omega, by omega⟩) (b := (-2147483648, 2147483647)) rfl rfl hin) (by decide) (by decide)).upd (by decide) (by decide) (zup_f (zup_a (zup_a hI (b := (0, 9999)) rfl rfl ⟨by omega, by omega⟩) (b := (-2147483648, 2147483647)) rfl rfl hin) (b := (0, 40)) rfl rfl rfl ⟨by show (0 : Int) ≤ _; omega, by show _ ≤ (40 : Int); omega⟩)
                  have hI3 := hA3.1
                  obtain ⟨ecd, epl, e84, e8⟩ := hA3.cd (by decide)
                  have hm3 : w3 8 4 = (m : Int) := e84.trans hm
                  refine qG.call (t := 151) (na := 2) (sk := 1) (md := 1) (ls1 := [(2, 8), (0, 20059)]) (r1 := []) rfl rfl rfl rfl rfl (K_tNeeds (by omega) 20059 (by decide) m hm6 w3 hI3 hm3 j68 (by omega)) ?_
                  rintro ⟨_, x9⟩ w7 _ ⟨rfl, hT⟩; rcases hT with ⟨j110, hs110, hl110, hx9, rfl⟩ | ⟨k110, j110, hs110, hk110, hl110, hx9, rfl⟩ <;> obtain ⟨rfl, rfl⟩ := Prod.mk.inj hx9
                  · skip
                    show qG none (d + 1) 108 113 [(2, 83), (2, 8), (0, cdF w i - 10000), (0, cdF w (i + 1))] [(0, 1)] (axW w3 j110) 142 Q9
                    refine qG.ret rfl (by first | rfl | exact decide_eq_true (by omega)) ?_
                    subst hQ9
                    first | (exfalso; omega) | (rw [ecd] at hs110; have e9 := step_3 hw (show ¬ 40 ≤ c by omega); (first | rw [bnd_y ((kd_w (by omega)).trans hs49)] at e9 | rw [bnd_y ((kd_d (by omega) hk3).trans hs68)] at e9 | rw [bnd_y (kd_n (by omega) hk3)] at e9); first | exact ⟨rfl, w3, hA3, .inl ⟨j110, e9.trans hs110, hl110, rfl, rfl⟩, fun _ => hww3⟩ | exact ⟨rfl, w3, hA3, .inr ⟨k110, j110, e9.trans hs110, hk110, hl110, rfl, rfl⟩, fun z => by rw [e9.trans hs110] at z; have z : k110 = 0 := z; omega⟩)
                  · skip
                    show qG none (d + 1) 108 113 [(2, 83), (2, 8), (0, cdF w i - 10000), (0, cdF w (i + 1))] [(0, 0)] (axF w3 k110 j110) 142 Q9
                    refine qG.ret rfl (by first | rfl | exact decide_eq_true (by omega)) ?_
                    subst hQ9
                    first | (exfalso; omega) | (rw [ecd] at hs110; have e9 := step_3 hw (show ¬ 40 ≤ c by omega); (first | rw [bnd_y ((kd_w (by omega)).trans hs49)] at e9 | rw [bnd_y ((kd_d (by omega) hk3).trans hs68)] at e9 | rw [bnd_y (kd_n (by omega) hk3)] at e9); first | exact ⟨rfl, w3, hA3, .inl ⟨j110, e9.trans hs110, hl110, rfl, rfl⟩, fun _ => hww3⟩ | exact ⟨rfl, w3, hA3, .inr ⟨k110, j110, e9.trans hs110, hk110, hl110, rfl, rfl⟩, fun z => by rw [e9.trans hs110] at z; have z : k110 = 0 := z; omega⟩)
              · skip
                show qG none (d + 1) 108 71 [(2, 83), (2, 8), (0, cdF w i - 10000), (0, cdF w (i + 1))] [(0, 0)] (axF w k68 j68) 142 Q9
                refine qG.br (P := (0 : Int) = 0) (pc1 := 74) (pc2 := 76) (st1 := []) rfl (fun h3 => ?_) (fun h3 => ?_)
                · skip
                  refine qG.blk 1 (pc' := 75) (ls' := [(2, 83), (2, 8), (0, cdF w i - 10000), (0, cdF w (i + 1))]) (st' := [(0, 0)]) (w' := (axF w k68 j68)) (n' := 142) rfl ?_
                  refine qG.ret rfl (by first | rfl | exact decide_eq_true (by omega)) ?_
                  subst hQ9
                  first | (exfalso; omega) | exact ⟨rfl, w, AW.rf hI, .inr ⟨k68, j68, (step_3 hw (by omega)).trans (bnd_k ((kd_d (by omega) hk3).trans hs68) hk68), hk68, hl68, rfl, rfl⟩, fun z => by rw [(step_3 hw (by omega)).trans (bnd_k ((kd_d (by omega) hk3).trans hs68) hk68)] at z; have z : k68 = 0 := z; omega⟩
                · exact absurd h3 (by decide)
        · skip
          show qG none (d + 1) 108 52 [(2, 83), (2, 8), (0, cdF w i - 10000), (0, cdF w (i + 1))] [(0, 0)] (axF w k49 j49) 142 Q9
          refine qG.br (P := (0 : Int) = 0) (pc1 := 55) (pc2 := 57) (st1 := []) rfl (fun h4 => ?_) (fun h4 => ?_)
          · skip
            refine qG.blk 1 (pc' := 56) (ls' := [(2, 83), (2, 8), (0, cdF w i - 10000), (0, cdF w (i + 1))]) (st' := [(0, 0)]) (w' := (axF w k49 j49)) (n' := 142) rfl ?_
            refine qG.ret rfl (by first | rfl | exact decide_eq_true (by omega)) ?_
            subst hQ9
            have e9 : sStep (cdF w) c i = (k49, j49) := (step_3 hw (by omega)).trans (bnd_k ((kd_w (by omega)).trans hs49) hk49)
            exact ⟨rfl, w, AW.rf hI, .inr ⟨k49, j49, e9, hk49, hl49, rfl, rfl⟩, fun z => by rw [e9] at z; have z : k49 = 0 := z; omega⟩
          · exact absurd h4 (by decide)
      · skip
        refine qG.blk 1 (pc' := 58) (ls' := [(2, 83), (2, 8), (0, cdF w i - 10000), (0, cdF w (i + 1))]) (st' := [(0, cdF w i - 10000)]) (w' := (axW w (i + 1))) (n' := 142) rfl ?_
        refine qG.call (t := 109) (na := 1) (sk := 0) (md := 0) (ls1 := [(0, cdF w i - 10000)]) (r1 := []) rfl rfl rfl rfl rfl (K_ofDoor (Nat.zero_le _) (cdF w i - 10000) (axW w (i + 1))) ?_
        rintro _ w7 _ ⟨rfl, hw7, rfl⟩
        rw [hw7]
        show qG none (d + 1) 108 61 [(2, 83), (2, 8), (0, cdF w i - 10000), (0, cdF w (i + 1))] [(0, (if cdF w i - 10000 = 0 ∨ cdF w i - 10000 = 1 ∨ cdF w i - 10000 = 3 then 1 else 0))] (axW w (i + 1)) 142 Q9
        refine qG.br (P := (if cdF w i - 10000 = 0 ∨ cdF w i - 10000 = 1 ∨ cdF w i - 10000 = 3 then 1 else 0) = 0) (pc1 := 76) (pc2 := 64) (st1 := []) rfl (fun hq61 => ?_) (fun hq61 => ?_)
        · skip
          have hk3 : ¬ (cdF w i = 10000 ∨ cdF w i = 10001 ∨ cdF w i = 10003) := fun z => by rw [if_pos (by omega)] at hq61; omega
          refine qG.blk 2 (pc' := 80) (ls' := [(2, 83), (2, 8), (0, cdF w i - 10000), (0, cdF w (i + 1))]) (st' := [(2, (axW w (i + 1)) 83 0)]) (w' := (axW w (i + 1))) (n' := 142) rfl ?_
          rw [show (axW w (i + 1)) 83 0 = 84 from (axW_o (by decide)).trans (zref hI rfl rfl)]
          refine qG.blk 2 (pc' := 84) (ls' := [(2, 83), (2, 8), (0, cdF w i - 10000), (0, cdF w (i + 1))]) (st' := [(0, (axW w (i + 1)) 83 2), (2, 84)]) (w' := (axW w (i + 1))) (n' := 142) rfl ?_
          rw [show (axW w (i + 1)) 83 2 = ((c : Nat) : Int) from (axW_o (by decide)).trans (hc)]
          refine qG.blk 1 (pc' := 85) (ls' := [(2, 83), (2, 8), (0, cdF w i - 10000), (0, cdF w (i + 1))]) (st' := [(0, cdF w i - 10000), (0, ((c : Nat) : Int)), (2, 84)]) (w' := (axW w (i + 1))) (n' := 142) rfl ?_
          refine qG.ar (P := 0 ≤ ((c : Nat) : Int) ∧ ((c : Nat) : Int) < ((40 : Nat) : Int)) (P2 := 0 < (84 : Int) ∧ (84 : Int) ≤ ((142 : Nat) : Int)) (pc' := 86) (ls' := [(2, 83), (2, 8), (0, cdF w i - 10000), (0, cdF w (i + 1))]) (st' := []) (w' := (qup (axW w (i + 1)) 84 c (cdF w i - 10000))) (n' := 142) rfl (by omega) (by decide) ?_
          refine qG.blk 2 (pc' := 90) (ls' := [(2, 83), (2, 8), (0, cdF w i - 10000), (0, cdF w (i + 1))]) (st' := [(2, (axW w (i + 1)) 83 1)]) (w' := (qup (axW w (i + 1)) 84 c (cdF w i - 10000))) (n' := 142) rfl ?_
          rw [show (axW w (i + 1)) 83 1 = 85 from (axW_o (by decide)).trans (zref hI rfl rfl)]
          refine qG.blk 2 (pc' := 94) (ls' := [(2, 83), (2, 8), (0, cdF w i - 10000), (0, cdF w (i + 1))]) (st' := [(0, (axW w (i + 1)) 83 2), (2, 85)]) (w' := (qup (axW w (i + 1)) 84 c (cdF w i - 10000))) (n' := 142) rfl ?_
          rw [show (axW w (i + 1)) 83 2 = ((c : Nat) : Int) from (axW_o (by decide)).trans (hc)]
          refine qG.blk 1 (pc' := 95) (ls' := [(2, 83), (2, 8), (0, cdF w i - 10000), (0, cdF w (i + 1))]) (st' := [(0, cdF w (i + 1)), (0, ((c : Nat) : Int)), (2, 85)]) (w' := (qup (axW w (i + 1)) 84 c (cdF w i - 10000))) (n' := 142) rfl ?_
          refine qG.ar (P := 0 ≤ ((c : Nat) : Int) ∧ ((c : Nat) : Int) < ((40 : Nat) : Int)) (P2 := 0 < (85 : Int) ∧ (85 : Int) ≤ ((142 : Nat) : Int)) (pc' := 96) (ls' := [(2, 83), (2, 8), (0, cdF w i - 10000), (0, cdF w (i + 1))]) (st' := []) (w' := (qup (qup (axW w (i + 1)) 84 c (cdF w i - 10000)) 85 c (cdF w (i + 1)))) (n' := 142) rfl (by omega) (by decide) ?_
          refine qG.blk 3 (pc' := 101) (ls' := [(2, 83), (2, 8), (0, cdF w i - 10000), (0, cdF w (i + 1))]) (st' := [(0, (axW w (i + 1)) 83 2), (2, 83)]) (w' := (qup (qup (axW w (i + 1)) 84 c (cdF w i - 10000)) 85 c (cdF w (i + 1)))) (n' := 142) rfl ?_
          rw [show (axW w (i + 1)) 83 2 = ((c : Nat) : Int) from (axW_o (by decide)).trans (hc)]
          refine qG.blk 2 (pc' := 103) (ls' := [(2, 83), (2, 8), (0, cdF w i - 10000), (0, cdF w (i + 1))]) (st' := [(0, wrp (((c : Nat) : Int) + 1)), (2, 83)]) (w' := (qup (qup (axW w (i + 1)) 84 c (cdF w i - 10000)) 85 c (cdF w (i + 1)))) (n' := 142) rfl ?_
          rw [show wrp (((c : Nat) : Int) + 1) = ((c + 1 : Nat) : Int) from by rw [wrp_id (by omega) (by omega)]; omega]
          refine qG.blk 3 (pc' := 110) (ls' := [(2, 83), (2, 8), (0, cdF w i - 10000), (0, cdF w (i + 1))]) (st' := [(0, 20059), (2, 8)]) (w' := (qup (qup (qup (axW w (i + 1)) 84 c (cdF w i - 10000)) 85 c (cdF w (i + 1))) 83 2 ((c + 1 : Nat) : Int))) (n' := 142) rfl ?_
          rw [show (qup (qup (qup (axW w (i + 1)) 84 c (cdF w i - 10000)) 85 c (cdF w (i + 1))) 83 2 ((c + 1 : Nat) : Int)) = axW (qup (qup (qup w 84 c (cdF w i - 10000)) 85 c (cdF w (i + 1))) 83 2 ((c + 1 : Nat) : Int)) (i + 1) from by rw [ax_up (by omega), ax_up (by omega), ax_up (by omega)]]
          obtain ⟨w3, hww3⟩ : ∃ q : qW, q = (qup (qup (qup w 84 c (cdF w i - 10000)) 85 c (cdF w (i + 1))) 83 2 ((c + 1 : Nat) : Int)) := ⟨_, rfl⟩
          rw [← hww3]
          have hA3 : AW (SHM_ 83) w w3 := by rw [hww3]; exact (((AW.rf hI).arr (zup_a hI (b := (0, 9999)) rfl rfl ⟨by omega, by omega⟩) (by decide) (by decide)).arr (zup_a (zup_a hI (b := (0, 9999)) rfl rfl ⟨by omega, by omega⟩) (b := (-2147483648, 2147483647)) rfl rfl hin) (by decide) (by decide)).upd (by decide) (by decide) (zup_f (zup_a (zup_a hI (b := (0, 9999)) rfl rfl ⟨by omega, by omega⟩) (b := (-2147483648, 2147483647)) rfl rfl hin) (b := (0, 40)) rfl rfl rfl ⟨by show (0 : Int) ≤ _; omega, by show _ ≤ (40 : Int); omega⟩)
          have hI3 := hA3.1
          obtain ⟨ecd, epl, e84, e8⟩ := hA3.cd (by decide)
          have hm3 : w3 8 4 = (m : Int) := e84.trans hm
          refine qG.call (t := 151) (na := 2) (sk := 1) (md := 1) (ls1 := [(2, 8), (0, 20059)]) (r1 := []) rfl rfl rfl rfl rfl (K_tNeeds (by omega) 20059 (by decide) m hm6 w3 hI3 hm3 (i + 1) (by omega)) ?_
          rintro ⟨_, x9⟩ w7 _ ⟨rfl, hT⟩; rcases hT with ⟨j110, hs110, hl110, hx9, rfl⟩ | ⟨k110, j110, hs110, hk110, hl110, hx9, rfl⟩ <;> obtain ⟨rfl, rfl⟩ := Prod.mk.inj hx9
          · skip
            show qG none (d + 1) 108 113 [(2, 83), (2, 8), (0, cdF w i - 10000), (0, cdF w (i + 1))] [(0, 1)] (axW w3 j110) 142 Q9
            refine qG.ret rfl (by first | rfl | exact decide_eq_true (by omega)) ?_
            subst hQ9
            first | (exfalso; omega) | (rw [ecd] at hs110; have e9 := step_3 hw (show ¬ 40 ≤ c by omega); (first | rw [bnd_y ((kd_w (by omega)).trans hs49)] at e9 | rw [bnd_y ((kd_d (by omega) hk3).trans hs68)] at e9 | rw [bnd_y (kd_n (by omega) hk3)] at e9); first | exact ⟨rfl, w3, hA3, .inl ⟨j110, e9.trans hs110, hl110, rfl, rfl⟩, fun _ => hww3⟩ | exact ⟨rfl, w3, hA3, .inr ⟨k110, j110, e9.trans hs110, hk110, hl110, rfl, rfl⟩, fun z => by rw [e9.trans hs110] at z; have z : k110 = 0 := z; omega⟩)
          · skip
            show qG none (d + 1) 108 113 [(2, 83), (2, 8), (0, cdF w i - 10000), (0, cdF w (i + 1))] [(0, 0)] (axF w3 k110 j110) 142 Q9
            refine qG.ret rfl (by first | rfl | exact decide_eq_true (by omega)) ?_
            subst hQ9
            first | (exfalso; omega) | (rw [ecd] at hs110; have e9 := step_3 hw (show ¬ 40 ≤ c by omega); (first | rw [bnd_y ((kd_w (by omega)).trans hs49)] at e9 | rw [bnd_y ((kd_d (by omega) hk3).trans hs68)] at e9 | rw [bnd_y (kd_n (by omega) hk3)] at e9); first | exact ⟨rfl, w3, hA3, .inl ⟨j110, e9.trans hs110, hl110, rfl, rfl⟩, fun _ => hww3⟩ | exact ⟨rfl, w3, hA3, .inr ⟨k110, j110, e9.trans hs110, hk110, hl110, rfl, rfl⟩, fun z => by rw [e9.trans hs110] at z; have z : k110 = 0 := z; omega⟩)
        · skip
          have hk3 : cdF w i = 10000 ∨ cdF w i = 10001 ∨ cdF w i = 10003 := Decidable.of_not_not (fun z => hq61 (if_neg (by omega)))
          refine qG.blk 3 (pc' := 68) (ls' := [(2, 83), (2, 8), (0, cdF w i - 10000), (0, cdF w (i + 1))]) (st' := [(0, 9), (0, 0), (2, 8)]) (w' := (axW w (i + 1))) (n' := 142) rfl ?_
          refine qG.call (t := 152) (na := 3) (sk := 1) (md := 1) (ls1 := [(2, 8), (0, 0), (0, 9), (9, 0)]) (r1 := []) rfl rfl rfl rfl rfl (K_tNum (by omega) 0 9 m hm6 w hI hm (i + 1) (by omega)) ?_
          rintro ⟨_, x9⟩ w7 _ ⟨rfl, hT⟩; rcases hT with ⟨j68, hs68, hl68, hx9, rfl⟩ | ⟨k68, j68, hs68, hk68, hl68, hx9, rfl⟩ <;> obtain ⟨rfl, rfl⟩ := Prod.mk.inj hx9
          · skip
            show qG none (d + 1) 108 71 [(2, 83), (2, 8), (0, cdF w i - 10000), (0, cdF w (i + 1))] [(0, 1)] (axW w j68) 142 Q9
            refine qG.br (P := (1 : Int) = 0) (pc1 := 74) (pc2 := 76) (st1 := []) rfl (fun h5 => ?_) (fun h5 => ?_)
            · exact absurd h5 (by decide)
            · skip
              refine qG.blk 2 (pc' := 80) (ls' := [(2, 83), (2, 8), (0, cdF w i - 10000), (0, cdF w (i + 1))]) (st' := [(2, (axW w j68) 83 0)]) (w' := (axW w j68)) (n' := 142) rfl ?_
              rw [show (axW w j68) 83 0 = 84 from (axW_o (by decide)).trans (zref hI rfl rfl)]
              refine qG.blk 2 (pc' := 84) (ls' := [(2, 83), (2, 8), (0, cdF w i - 10000), (0, cdF w (i + 1))]) (st' := [(0, (axW w j68) 83 2), (2, 84)]) (w' := (axW w j68)) (n' := 142) rfl ?_
              rw [show (axW w j68) 83 2 = ((c : Nat) : Int) from (axW_o (by decide)).trans (hc)]
              refine qG.blk 1 (pc' := 85) (ls' := [(2, 83), (2, 8), (0, cdF w i - 10000), (0, cdF w (i + 1))]) (st' := [(0, cdF w i - 10000), (0, ((c : Nat) : Int)), (2, 84)]) (w' := (axW w j68)) (n' := 142) rfl ?_
              refine qG.ar (P := 0 ≤ ((c : Nat) : Int) ∧ ((c : Nat) : Int) < ((40 : Nat) : Int)) (P2 := 0 < (84 : Int) ∧ (84 : Int) ≤ ((142 : Nat) : Int)) (pc' := 86) (ls' := [(2, 83), (2, 8), (0, cdF w i - 10000), (0, cdF w (i + 1))]) (st' := []) (w' := (qup (axW w j68) 84 c (cdF w i - 10000))) (n' := 142) rfl (by omega) (by decide) ?_
              refine qG.blk 2 (pc' := 90) (ls' := [(2, 83), (2, 8), (0, cdF w i - 10000), (0, cdF w (i + 1))]) (st' := [(2, (axW w j68) 83 1)]) (w' := (qup (axW w j68) 84 c (cdF w i - 10000))) (n' := 142) rfl ?_
              rw [show (axW w j68) 83 1 = 85 from (axW_o (by decide)).trans (zref hI rfl rfl)]
              refine qG.blk 2 (pc' := 94) (ls' := [(2, 83), (2, 8), (0, cdF w i - 10000), (0, cdF w (i + 1))]) (st' := [(0, (axW w j68) 83 2), (2, 85)]) (w' := (qup (axW w j68) 84 c (cdF w i - 10000))) (n' := 142) rfl ?_
              rw [show (axW w j68) 83 2 = ((c : Nat) : Int) from (axW_o (by decide)).trans (hc)]
              refine qG.blk 1 (pc' := 95) (ls' := [(2, 83), (2, 8), (0, cdF w i - 10000), (0, cdF w (i + 1))]) (st' := [(0, cdF w (i + 1)), (0, ((c : Nat) : Int)), (2, 85)]) (w' := (qup (axW w j68) 84 c (cdF w i - 10000))) (n' := 142) rfl ?_
              refine qG.ar (P := 0 ≤ ((c : Nat) : Int) ∧ ((c : Nat) : Int) < ((40 : Nat) : Int)) (P2 := 0 < (85 : Int) ∧ (85 : Int) ≤ ((142 : Nat) : Int)) (pc' := 96) (ls' := [(2, 83), (2, 8), (0, cdF w i - 10000), (0, cdF w (i + 1))]) (st' := []) (w' := (qup (qup (axW w j68) 84 c (cdF w i - 10000)) 85 c (cdF w (i + 1)))) (n' := 142) rfl (by omega) (by decide) ?_
              refine qG.blk 3 (pc' := 101) (ls' := [(2, 83), (2, 8), (0, cdF w i - 10000), (0, cdF w (i + 1))]) (st' := [(0, (axW w j68) 83 2), (2, 83)]) (w' := (qup (qup (axW w j68) 84 c (cdF w i - 10000)) 85 c (cdF w (i + 1)))) (n' := 142) rfl ?_
              rw [show (axW w j68) 83 2 = ((c : Nat) : Int) from (axW_o (by decide)).trans (hc)]
              refine qG.blk 2 (pc' := 103) (ls' := [(2, 83), (2, 8), (0, cdF w i - 10000), (0, cdF w (i + 1))]) (st' := [(0, wrp (((c : Nat) : Int) + 1)), (2, 83)]) (w' := (qup (qup (axW w j68) 84 c (cdF w i - 10000)) 85 c (cdF w (i + 1)))) (n' := 142) rfl ?_
              rw [show wrp (((c : Nat) : Int) + 1) = ((c + 1 : Nat) : Int) from by rw [wrp_id (by omega) (by omega)]; omega]
              refine qG.blk 3 (pc' := 110) (ls' := [(2, 83), (2, 8), (0, cdF w i - 10000), (0, cdF w (i + 1))]) (st' := [(0, 20059), (2, 8)]) (w' := (qup (qup (qup (axW w j68) 84 c (cdF w i - 10000)) 85 c (cdF w (i + 1))) 83 2 ((c + 1 : Nat) : Int))) (n' := 142) rfl ?_
              rw [show (qup (qup (qup (axW w j68) 84 c (cdF w i - 10000)) 85 c (cdF w (i + 1))) 83 2 ((c + 1 : Nat) : Int)) = axW (qup (qup (qup w 84 c (cdF w i - 10000)) 85 c (cdF w (i + 1))) 83 2 ((c + 1 : Nat) : Int)) j68 from by rw [ax_up (by omega), ax_up (by omega), ax_up (by omega)]]
              obtain ⟨w3, hww3⟩ : ∃ q : qW, q = (qup (qup (qup w 84 c (cdF w i - 10000)) 85 c (cdF w (i + 1))) 83 2 ((c + 1 : Nat) : Int)) := ⟨_, rfl⟩
              rw [← hww3]
              have hA3 : AW (SHM_ 83) w w3 := by rw [hww3]; exact (((AW.rf hI).arr (zup_a hI (b := (0, 9999)) rfl rfl ⟨by omega, by omega⟩) (by decide) (by decide)).arr (zup_a (zup_a hI (b := (0, 9999)) rfl rfl ⟨by omega, by omega⟩) (b := (-2147483648, 2147483647)) rfl rfl hin) (by decide) (by decide)).upd (by decide) (by decide) (zup_f (zup_a (zup_a hI (b := (0, 9999)) rfl rfl ⟨by omega, by omega⟩) (b := (-2147483648, 2147483647)) rfl rfl hin) (b := (0, 40)) rfl rfl rfl ⟨by show (0 : Int) ≤ _; omega, by show _ ≤ (40 : Int); omega⟩)
              have hI3 := hA3.1
              obtain ⟨ecd, epl, e84, e8⟩ := hA3.cd (by decide)
              have hm3 : w3 8 4 = (m : Int) := e84.trans hm
              refine qG.call (t := 151) (na := 2) (sk := 1) (md := 1) (ls1 := [(2, 8), (0, 20059)]) (r1 := []) rfl rfl rfl rfl rfl (K_tNeeds (by omega) 20059 (by decide) m hm6 w3 hI3 hm3 j68 (by omega)) ?_
              rintro ⟨_, x9⟩ w7 _ ⟨rfl, hT⟩; rcases hT with ⟨j110, hs110, hl110, hx9, rfl⟩ | ⟨k110, j110, hs110, hk110, hl110, hx9, rfl⟩ <;> obtain ⟨rfl, rfl⟩ := Prod.mk.inj hx9
              · skip
                show qG none (d + 1) 108 113 [(2, 83), (2, 8), (0, cdF w i - 10000), (0, cdF w (i + 1))] [(0, 1)] (axW w3 j110) 142 Q9
                refine qG.ret rfl (by first | rfl | exact decide_eq_true (by omega)) ?_
                subst hQ9
                first | (exfalso; omega) | (rw [ecd] at hs110; have e9 := step_3 hw (show ¬ 40 ≤ c by omega); (first | rw [bnd_y ((kd_w (by omega)).trans hs49)] at e9 | rw [bnd_y ((kd_d (by omega) hk3).trans hs68)] at e9 | rw [bnd_y (kd_n (by omega) hk3)] at e9); first | exact ⟨rfl, w3, hA3, .inl ⟨j110, e9.trans hs110, hl110, rfl, rfl⟩, fun _ => hww3⟩ | exact ⟨rfl, w3, hA3, .inr ⟨k110, j110, e9.trans hs110, hk110, hl110, rfl, rfl⟩, fun z => by rw [e9.trans hs110] at z; have z : k110 = 0 := z; omega⟩)
              · skip
                show qG none (d + 1) 108 113 [(2, 83), (2, 8), (0, cdF w i - 10000), (0, cdF w (i + 1))] [(0, 0)] (axF w3 k110 j110) 142 Q9
                refine qG.ret rfl (by first | rfl | exact decide_eq_true (by omega)) ?_
                subst hQ9
                first | (exfalso; omega) | (rw [ecd] at hs110; have e9 := step_3 hw (show ¬ 40 ≤ c by omega); (first | rw [bnd_y ((kd_w (by omega)).trans hs49)] at e9 | rw [bnd_y ((kd_d (by omega) hk3).trans hs68)] at e9 | rw [bnd_y (kd_n (by omega) hk3)] at e9); first | exact ⟨rfl, w3, hA3, .inl ⟨j110, e9.trans hs110, hl110, rfl, rfl⟩, fun _ => hww3⟩ | exact ⟨rfl, w3, hA3, .inr ⟨k110, j110, e9.trans hs110, hk110, hl110, rfl, rfl⟩, fun z => by rw [e9.trans hs110] at z; have z : k110 = 0 := z; omega⟩)
          · skip
            show qG none (d + 1) 108 71 [(2, 83), (2, 8), (0, cdF w i - 10000), (0, cdF w (i + 1))] [(0, 0)] (axF w k68 j68) 142 Q9
            refine qG.br (P := (0 : Int) = 0) (pc1 := 74) (pc2 := 76) (st1 := []) rfl (fun h6 => ?_) (fun h6 => ?_)
            · skip
              refine qG.blk 1 (pc' := 75) (ls' := [(2, 83), (2, 8), (0, cdF w i - 10000), (0, cdF w (i + 1))]) (st' := [(0, 0)]) (w' := (axF w k68 j68)) (n' := 142) rfl ?_
              refine qG.ret rfl (by first | rfl | exact decide_eq_true (by omega)) ?_
              subst hQ9
              first | (exfalso; omega) | exact ⟨rfl, w, AW.rf hI, .inr ⟨k68, j68, (step_3 hw (by omega)).trans (bnd_k ((kd_d (by omega) hk3).trans hs68) hk68), hk68, hl68, rfl, rfl⟩, fun z => by rw [(step_3 hw (by omega)).trans (bnd_k ((kd_d (by omega) hk3).trans hs68) hk68)] at z; have z : k68 = 0 := z; omega⟩
            · exact absurd h6 (by decide)
    · skip
      refine qG.blk 2 (pc' := 27) (ls' := [(2, 83), (2, 8), (0, cdF w i - 10000), (9, 0)]) (st' := [(0, 3), (2, 8)]) (w' := (axW w i)) (n' := 142) rfl ?_
      refine qG.call (t := 153) (na := 2) (sk := 1) (md := 1) (ls1 := [(2, 8), (0, 3)]) (r1 := []) rfl rfl rfl rfl rfl (K_tFail (by omega) 3 m hm6 w hI hm i (by omega)) ?_
      rintro _ w7 _ ⟨rfl, rfl, hw7⟩
      rw [hw7]
      show qG none (d + 1) 108 30 [(2, 83), (2, 8), (0, cdF w i - 10000), (9, 0)] [(0, 0)] (axF w 3 i) 142 Q9
      refine qG.ret rfl (by first | rfl | exact decide_eq_true (by omega)) ?_
      subst hQ9
      exact ⟨rfl, w, AW.rf hI, .inr ⟨3, i, stp_3 hw (by omega), .inr (.inr rfl), hi, rfl, rfl⟩, fun z => by rw [stp_3 hw (by omega)] at z; cases z⟩
theorem K_tStep87 {d : Nat} (hd : 3 ≤ d) (c : Nat) (hc4 : c ≤ 40) (m : Nat) (hm6 : m ≤ 601) (w : qW) (hI : yInv zgf zga zra zSp w) (hm : w 8 4 = (m : Int)) (i : Nat) (hi : i ≤ m) (hc : w 87 2 = (c : Int)) : qG none d 108 0 [(2, 87), (2, 8), (9, 0), (9, 0)] [] (axW w i) 142 (fun (r : qV) (w1 : qW) (n1 : Nat) => n1 = 142 ∧ ∃ w3, AW (SHM_ 87) w w3 ∧ RD w3 m (sStep (cdF w) c i) r w1 ∧ ((sStep (cdF w) c i).1 = 0 → w3 = lsW w 87 c (cdF w i - 10000) (cdF w (i + 1)))) := by
  generalize hQ9 : (fun (r : qV) (w1 : qW) (n1 : Nat) => n1 = 142 ∧ ∃ w3, AW (SHM_ 87) w w3 ∧ RD w3 m (sStep (cdF w) c i) r w1 ∧ ((sStep (cdF w) c i).1 = 0 → w3 = lsW w 87 c (cdF w i - 10000) (cdF w (i + 1)))) = Q9
  obtain ⟨d, rfl⟩ : ∃ d9, d = d9 + 1 := ⟨d - 1, by omega⟩
  refine qG.blk 1 (pc' := 1) (ls' := [(2, 87), (2, 8), (9, 0), (9, 0)]) (st' := [(2, 8)]) (w' := (axW w i)) (n' := 142) rfl ?_
  refine qG.call (t := 148) (na := 1) (sk := 1) (md := 1) (ls1 := [(2, 8), (9, 0)]) (r1 := []) rfl rfl rfl rfl rfl (K_tWord (by omega) m hm6 w hI hm i (by omega)) ?_
  rintro _ w7 _ ⟨rfl, rfl, hw7⟩
  rw [hw7]
  show qG none (d + 1) 108 4 [(2, 87), (2, 8), (9, 0), (9, 0)] [(0, (if 10000 ≤ cdF w i ∧ cdF w i < 20000 then cdF w i - 10000 else -1))] (axW w i) 142 Q9
  refine qG.blk 3 (pc' := 7) (ls' := [(2, 87), (2, 8), (0, (if 10000 ≤ cdF w i ∧ cdF w i < 20000 then cdF w i - 10000 else -1)), (9, 0)]) (st' := [(0, (-1)), (0, (if 10000 ≤ cdF w i ∧ cdF w i < 20000 then cdF w i - 10000 else -1))]) (w' := (axW w i)) (n' := 142) rfl ?_
  refine qG.br (P := (if 10000 ≤ cdF w i ∧ cdF w i < 20000 then cdF w i - 10000 else -1) = (-1)) (pc1 := 10) (pc2 := 16) (st1 := []) rfl (fun hq7 => ?_) (fun hq7 => ?_)
  · skip
    have hw : ¬ (10000 ≤ cdF w i ∧ cdF w i < 20000) := fun z => by rw [if_pos z] at hq7; omega
    refine qG.blk 2 (pc' := 12) (ls' := [(2, 87), (2, 8), (0, (if 10000 ≤ cdF w i ∧ cdF w i < 20000 then cdF w i - 10000 else -1)), (9, 0)]) (st' := [(0, 1), (2, 8)]) (w' := (axW w i)) (n' := 142) rfl ?_
    refine qG.call (t := 153) (na := 2) (sk := 1) (md := 1) (ls1 := [(2, 8), (0, 1)]) (r1 := []) rfl rfl rfl rfl rfl (K_tFail (by omega) 1 m hm6 w hI hm i (by omega)) ?_
    rintro _ w7 _ ⟨rfl, rfl, hw7⟩
    rw [hw7]
    show qG none (d + 1) 108 15 [(2, 87), (2, 8), (0, (if 10000 ≤ cdF w i ∧ cdF w i < 20000 then cdF w i - 10000 else -1)), (9, 0)] [(0, 0)] (axF w 1 i) 142 Q9
    refine qG.ret rfl (by first | rfl | exact decide_eq_true (by omega)) ?_
    subst hQ9
    exact ⟨rfl, w, AW.rf hI, .inr ⟨1, i, stp_1 hw, .inl rfl, hi, rfl, rfl⟩, fun z => by rw [stp_1 hw] at z; cases z⟩
  · skip
    have hw : 10000 ≤ cdF w i ∧ cdF w i < 20000 := Decidable.of_not_not (fun z => hq7 (if_neg z))
    rw [if_pos hw]
    have hlt : i < m := cd_lt hm (by omega)
    have hin : yin (-2147483648, 2147483647) (cdF w (i + 1)) := cd_in hI (i + 1)
    refine qG.blk 2 (pc' := 20) (ls' := [(2, 87), (2, 8), (0, cdF w i - 10000), (9, 0)]) (st' := [(0, (axW w i) 87 2)]) (w' := (axW w i)) (n' := 142) rfl ?_
    rw [show (axW w i) 87 2 = ((c : Nat) : Int) from (axW_o (by decide)).trans (hc)]
    refine qG.blk 1 (pc' := 22) (ls' := [(2, 87), (2, 8), (0, cdF w i - 10000), (9, 0)]) (st' := [(0, 40), (0, ((c : Nat) : Int))]) (w' := (axW w i)) (n' := 142) rfl ?_
    refine qG.br (P := ((c : Nat) : Int) < 40) (pc1 := 31) (pc2 := 25) (st1 := []) rfl (fun hq22 => ?_) (fun hq22 => ?_)
    · skip
      refine qG.blk 1 (pc' := 32) (ls' := [(2, 87), (2, 8), (0, cdF w i - 10000), (9, 0)]) (st' := [(2, 8)]) (w' := (axW w i)) (n' := 142) rfl ?_
      refine qG.call (t := 149) (na := 1) (sk := 1) (md := 1) (ls1 := [(2, 8)]) (r1 := []) rfl rfl rfl rfl rfl (K_tNext (by omega) m hm6 w hI hm i (by omega)) ?_
      rintro _ w7 _ ⟨rfl, rfl, hw7⟩
      rw [hw7]
      show qG none (d + 1) 108 35 [(2, 87), (2, 8), (0, cdF w i - 10000), (9, 0)] [] (axW w (i + 1)) 142 Q9
      refine qG.blk 1 (pc' := 36) (ls' := [(2, 87), (2, 8), (0, cdF w i - 10000), (9, 0)]) (st' := [(2, 8)]) (w' := (axW w (i + 1))) (n' := 142) rfl ?_
      refine qG.call (t := 145) (na := 1) (sk := 1) (md := 1) (ls1 := [(2, 8)]) (r1 := []) rfl rfl rfl rfl rfl (K_tCode (by omega) m hm6 w hI hm (i + 1) (by omega)) ?_
      rintro _ w7 _ ⟨rfl, rfl, hw7⟩
      rw [hw7]
      show qG none (d + 1) 108 39 [(2, 87), (2, 8), (0, cdF w i - 10000), (9, 0)] [(0, cdF w (i + 1))] (axW w (i + 1)) 142 Q9
      refine qG.blk 3 (pc' := 42) (ls' := [(2, 87), (2, 8), (0, cdF w i - 10000), (0, cdF w (i + 1))]) (st' := [(0, 2), (0, cdF w i - 10000)]) (w' := (axW w (i + 1))) (n' := 142) rfl ?_
      refine qG.br (P := cdF w i - 10000 = 2) (pc1 := 45) (pc2 := 57) (st1 := []) rfl (fun hq42 => ?_) (fun hq42 => ?_)
      · skip
        refine qG.blk 3 (pc' := 49) (ls' := [(2, 87), (2, 8), (0, cdF w i - 10000), (0, cdF w (i + 1))]) (st' := [(0, 20), (0, 1), (2, 8)]) (w' := (axW w (i + 1))) (n' := 142) rfl ?_
        refine qG.call (t := 152) (na := 3) (sk := 1) (md := 1) (ls1 := [(2, 8), (0, 1), (0, 20), (9, 0)]) (r1 := []) rfl rfl rfl rfl rfl (K_tNum (by omega) 1 20 m hm6 w hI hm (i + 1) (by omega)) ?_
        rintro ⟨_, x9⟩ w7 _ ⟨rfl, hT⟩; rcases hT with ⟨j49, hs49, hl49, hx9, rfl⟩ | ⟨k49, j49, hs49, hk49, hl49, hx9, rfl⟩ <;> obtain ⟨rfl, rfl⟩ := Prod.mk.inj hx9
        · skip
          show qG none (d + 1) 108 52 [(2, 87), (2, 8), (0, cdF w i - 10000), (0, cdF w (i + 1))] [(0, 1)] (axW w j49) 142 Q9
          refine qG.br (P := (1 : Int) = 0) (pc1 := 55) (pc2 := 57) (st1 := []) rfl (fun h1 => ?_) (fun h1 => ?_)
          · exact absurd h1 (by decide)
          · skip
            refine qG.blk 1 (pc' := 58) (ls' := [(2, 87), (2, 8), (0, cdF w i - 10000), (0, cdF w (i + 1))]) (st' := [(0, cdF w i - 10000)]) (w' := (axW w j49)) (n' := 142) rfl ?_
            refine qG.call (t := 109) (na := 1) (sk := 0) (md := 0) (ls1 := [(0, cdF w i - 10000)]) (r1 := []) rfl rfl rfl rfl rfl (K_ofDoor (Nat.zero_le _) (cdF w i - 10000) (axW w j49)) ?_
            rintro _ w7 _ ⟨rfl, hw7, rfl⟩
            rw [hw7]
            show qG none (d + 1) 108 61 [(2, 87), (2, 8), (0, cdF w i - 10000), (0, cdF w (i + 1))] [(0, (if cdF w i - 10000 = 0 ∨ cdF w i - 10000 = 1 ∨ cdF w i - 10000 = 3 then 1 else 0))] (axW w j49) 142 Q9
            refine qG.br (P := (if cdF w i - 10000 = 0 ∨ cdF w i - 10000 = 1 ∨ cdF w i - 10000 = 3 then 1 else 0) = 0) (pc1 := 76) (pc2 := 64) (st1 := []) rfl (fun hq61 => ?_) (fun hq61 => ?_)
            · skip
              have hk3 : ¬ (cdF w i = 10000 ∨ cdF w i = 10001 ∨ cdF w i = 10003) := fun z => by rw [if_pos (by omega)] at hq61; omega
              refine qG.blk 2 (pc' := 80) (ls' := [(2, 87), (2, 8), (0, cdF w i - 10000), (0, cdF w (i + 1))]) (st' := [(2, (axW w j49) 87 0)]) (w' := (axW w j49)) (n' := 142) rfl ?_
              rw [show (axW w j49) 87 0 = 88 from (axW_o (by decide)).trans (zref hI rfl rfl)]
              refine qG.blk 2 (pc' := 84) (ls' := [(2, 87), (2, 8), (0, cdF w i - 10000), (0, cdF w (i + 1))]) (st' := [(0, (axW w j49) 87 2), (2, 88)]) (w' := (axW w j49)) (n' := 142) rfl ?_
              rw [show (axW w j49) 87 2 = ((c : Nat) : Int) from (axW_o (by decide)).trans (hc)]
              refine qG.blk 1 (pc' := 85) (ls' := [(2, 87), (2, 8), (0, cdF w i - 10000), (0, cdF w (i + 1))]) (st' := [(0, cdF w i - 10000), (0, ((c : Nat) : Int)), (2, 88)]) (w' := (axW w j49)) (n' := 142) rfl ?_
              refine qG.ar (P := 0 ≤ ((c : Nat) : Int) ∧ ((c : Nat) : Int) < ((40 : Nat) : Int)) (P2 := 0 < (88 : Int) ∧ (88 : Int) ≤ ((142 : Nat) : Int)) (pc' := 86) (ls' := [(2, 87), (2, 8), (0, cdF w i - 10000), (0, cdF w (i + 1))]) (st' := []) (w' := (qup (axW w j49) 88 c (cdF w i - 10000))) (n' := 142) rfl (by omega) (by decide) ?_
              refine qG.blk 2 (pc' := 90) (ls' := [(2, 87), (2, 8), (0, cdF w i - 10000), (0, cdF w (i + 1))]) (st' := [(2, (axW w j49) 87 1)]) (w' := (qup (axW w j49) 88 c (cdF w i - 10000))) (n' := 142) rfl ?_
              rw [show (axW w j49) 87 1 = 89 from (axW_o (by decide)).trans (zref hI rfl rfl)]
              refine qG.blk 2 (pc' := 94) (ls' := [(2, 87), (2, 8), (0, cdF w i - 10000), (0, cdF w (i + 1))]) (st' := [(0, (axW w j49) 87 2), (2, 89)]) (w' := (qup (axW w j49) 88 c (cdF w i - 10000))) (n' := 142) rfl ?_
              rw [show (axW w j49) 87 2 = ((c : Nat) : Int) from (axW_o (by decide)).trans (hc)]
              refine qG.blk 1 (pc' := 95) (ls' := [(2, 87), (2, 8), (0, cdF w i - 10000), (0, cdF w (i + 1))]) (st' := [(0, cdF w (i + 1)), (0, ((c : Nat) : Int)), (2, 89)]) (w' := (qup (axW w j49) 88 c (cdF w i - 10000))) (n' := 142) rfl ?_
              refine qG.ar (P := 0 ≤ ((c : Nat) : Int) ∧ ((c : Nat) : Int) < ((40 : Nat) : Int)) (P2 := 0 < (89 : Int) ∧ (89 : Int) ≤ ((142 : Nat) : Int)) (pc' := 96) (ls' := [(2, 87), (2, 8), (0, cdF w i - 10000), (0, cdF w (i + 1))]) (st' := []) (w' := (qup (qup (axW w j49) 88 c (cdF w i - 10000)) 89 c (cdF w (i + 1)))) (n' := 142) rfl (by omega) (by decide) ?_
              refine qG.blk 3 (pc' := 101) (ls' := [(2, 87), (2, 8), (0, cdF w i - 10000), (0, cdF w (i + 1))]) (st' := [(0, (axW w j49) 87 2), (2, 87)]) (w' := (qup (qup (axW w j49) 88 c (cdF w i - 10000)) 89 c (cdF w (i + 1)))) (n' := 142) rfl ?_
              rw [show (axW w j49) 87 2 = ((c : Nat) : Int) from (axW_o (by decide)).trans (hc)]
              refine qG.blk 2 (pc' := 103) (ls' := [(2, 87), (2, 8), (0, cdF w i - 10000), (0, cdF w (i + 1))]) (st' := [(0, wrp (((c : Nat) : Int) + 1)), (2, 87)]) (w' := (qup (qup (axW w j49) 88 c (cdF w i - 10000)) 89 c (cdF w (i + 1)))) (n' := 142) rfl ?_
              rw [show wrp (((c : Nat) : Int) + 1) = ((c + 1 : Nat) : Int) from by rw [wrp_id (by omega) (by omega)]; omega]
              refine qG.blk 3 (pc' := 110) (ls' := [(2, 87), (2, 8), (0, cdF w i - 10000), (0, cdF w (i + 1))]) (st' := [(0, 20059), (2, 8)]) (w' := (qup (qup (qup (axW w j49) 88 c (cdF w i - 10000)) 89 c (cdF w (i + 1))) 87 2 ((c + 1 : Nat) : Int))) (n' := 142) rfl ?_
              rw [show (qup (qup (qup (axW w j49) 88 c (cdF w i - 10000)) 89 c (cdF w (i + 1))) 87 2 ((c + 1 : Nat) : Int)) = axW (qup (qup (qup w 88 c (cdF w i - 10000)) 89 c (cdF w (i + 1))) 87 2 ((c + 1 : Nat) : Int)) j49 from by rw [ax_up (by omega), ax_up (by omega), ax_up (by omega)]]
              obtain ⟨w3, hww3⟩ : ∃ q : qW, q = (qup (qup (qup w 88 c (cdF w i - 10000)) 89 c (cdF w (i + 1))) 87 2 ((c + 1 : Nat) : Int)) := ⟨_, rfl⟩
              rw [← hww3]
              have hA3 : AW (SHM_ 87) w w3 := by rw [hww3]; exact (((AW.rf hI).arr (zup_a hI (b := (0, 9999)) rfl rfl ⟨by omega, by omega⟩) (by decide) (by decide)).arr (zup_a (zup_a hI (b := (0, 9999)) rfl rfl ⟨by omega, by omega⟩) (b := (-2147483648, 2147483647)) rfl rfl hin) (by decide) (by decide)).upd (by decide) (by decide) (zup_f (zup_a (zup_a hI (b := (0, 9999)) rfl rfl ⟨by omega, by omega⟩) (b := (-2147483648, 2147483647)) rfl rfl hin) (b := (0, 40)) rfl rfl rfl ⟨by show (0 : Int) ≤ _; omega, by show _ ≤ (40 : Int); omega⟩)
              have hI3 := hA3.1
              obtain ⟨ecd, epl, e84, e8⟩ := hA3.cd (by decide)
              have hm3 : w3 8 4 = (m : Int) := e84.trans hm
              refine qG.call (t := 151) (na := 2) (sk := 1) (md := 1) (ls1 := [(2, 8), (0, 20059)]) (r1 := []) rfl rfl rfl rfl rfl (K_tNeeds (by omega) 20059 (by decide) m hm6 w3 hI3 hm3 j49 (by omega)) ?_
              rintro ⟨_, x9⟩ w7 _ ⟨rfl, hT⟩; rcases hT with ⟨j110, hs110, hl110, hx9, rfl⟩ | ⟨k110, j110, hs110, hk110, hl110, hx9, rfl⟩ <;> obtain ⟨rfl, rfl⟩ := Prod.mk.inj hx9
              · skip
                show qG none (d + 1) 108 113 [(2, 87), (2, 8), (0, cdF w i - 10000), (0, cdF w (i + 1))] [(0, 1)] (axW w3 j110) 142 Q9
                refine qG.ret rfl (by first | rfl | exact decide_eq_true (by omega)) ?_
                subst hQ9
                first | (exfalso; omega) | (rw [ecd] at hs110; have e9 := step_3 hw (show ¬ 40 ≤ c by omega); (first | rw [bnd_y ((kd_w (by omega)).trans hs49)] at e9 | rw [bnd_y ((kd_d (by omega) hk3).trans hs68)] at e9 | rw [bnd_y (kd_n (by omega) hk3)] at e9); first | exact ⟨rfl, w3, hA3, .inl ⟨j110, e9.trans hs110, hl110, rfl, rfl⟩, fun _ => hww3⟩ | exact ⟨rfl, w3, hA3, .inr ⟨k110, j110, e9.trans hs110, hk110, hl110, rfl, rfl⟩, fun z => by rw [e9.trans hs110] at z; have z : k110 = 0 := z; omega⟩)
              · skip
                show qG none (d + 1) 108 113 [(2, 87), (2, 8), (0, cdF w i - 10000), (0, cdF w (i + 1))] [(0, 0)] (axF w3 k110 j110) 142 Q9
                refine qG.ret rfl (by first | rfl | exact decide_eq_true (by omega)) ?_
                subst hQ9
                first | (exfalso; omega) | (rw [ecd] at hs110; have e9 := step_3 hw (show ¬ 40 ≤ c by omega); (first | rw [bnd_y ((kd_w (by omega)).trans hs49)] at e9 | rw [bnd_y ((kd_d (by omega) hk3).trans hs68)] at e9 | rw [bnd_y (kd_n (by omega) hk3)] at e9); first | exact ⟨rfl, w3, hA3, .inl ⟨j110, e9.trans hs110, hl110, rfl, rfl⟩, fun _ => hww3⟩ | exact ⟨rfl, w3, hA3, .inr ⟨k110, j110, e9.trans hs110, hk110, hl110, rfl, rfl⟩, fun z => by rw [e9.trans hs110] at z; have z : k110 = 0 := z; omega⟩)
            · skip
              have hk3 : cdF w i = 10000 ∨ cdF w i = 10001 ∨ cdF w i = 10003 := Decidable.of_not_not (fun z => hq61 (if_neg (by omega)))
              refine qG.blk 3 (pc' := 68) (ls' := [(2, 87), (2, 8), (0, cdF w i - 10000), (0, cdF w (i + 1))]) (st' := [(0, 9), (0, 0), (2, 8)]) (w' := (axW w j49)) (n' := 142) rfl ?_
              refine qG.call (t := 152) (na := 3) (sk := 1) (md := 1) (ls1 := [(2, 8), (0, 0), (0, 9), (9, 0)]) (r1 := []) rfl rfl rfl rfl rfl (K_tNum (by omega) 0 9 m hm6 w hI hm j49 (by omega)) ?_
              rintro ⟨_, x9⟩ w7 _ ⟨rfl, hT⟩; rcases hT with ⟨j68, hs68, hl68, hx9, rfl⟩ | ⟨k68, j68, hs68, hk68, hl68, hx9, rfl⟩ <;> obtain ⟨rfl, rfl⟩ := Prod.mk.inj hx9
              · skip
                show qG none (d + 1) 108 71 [(2, 87), (2, 8), (0, cdF w i - 10000), (0, cdF w (i + 1))] [(0, 1)] (axW w j68) 142 Q9
                refine qG.br (P := (1 : Int) = 0) (pc1 := 74) (pc2 := 76) (st1 := []) rfl (fun h2 => ?_) (fun h2 => ?_)
                · exact absurd h2 (by decide)
                · skip
                  refine qG.blk 2 (pc' := 80) (ls' := [(2, 87), (2, 8), (0, cdF w i - 10000), (0, cdF w (i + 1))]) (st' := [(2, (axW w j68) 87 0)]) (w' := (axW w j68)) (n' := 142) rfl ?_
                  rw [show (axW w j68) 87 0 = 88 from (axW_o (by decide)).trans (zref hI rfl rfl)]
                  refine qG.blk 2 (pc' := 84) (ls' := [(2, 87), (2, 8), (0, cdF w i - 10000), (0, cdF w (i + 1))]) (st' := [(0, (axW w j68) 87 2), (2, 88)]) (w' := (axW w j68)) (n' := 142) rfl ?_
                  rw [show (axW w j68) 87 2 = ((c : Nat) : Int) from (axW_o (by decide)).trans (hc)]
                  refine qG.blk 1 (pc' := 85) (ls' := [(2, 87), (2, 8), (0, cdF w i - 10000), (0, cdF w (i + 1))]) (st' := [(0, cdF w i - 10000), (0, ((c : Nat) : Int)), (2, 88)]) (w' := (axW w j68)) (n' := 142) rfl ?_
                  refine qG.ar (P := 0 ≤ ((c : Nat) : Int) ∧ ((c : Nat) : Int) < ((40 : Nat) : Int)) (P2 := 0 < (88 : Int) ∧ (88 : Int) ≤ ((142 : Nat) : Int)) (pc' := 86) (ls' := [(2, 87), (2, 8), (0, cdF w i - 10000), (0, cdF w (i + 1))]) (st' := []) (w' := (qup (axW w j68) 88 c (cdF w i - 10000))) (n' := 142) rfl (by omega) (by decide) ?_
                  refine qG.blk 2 (pc' := 90) (ls' := [(2, 87), (2, 8), (0, cdF w i - 10000), (0, cdF w (i + 1))]) (st' := [(2, (axW w j68) 87 1)]) (w' := (qup (axW w j68) 88 c (cdF w i - 10000))) (n' := 142) rfl ?_
                  rw [show (axW w j68) 87 1 = 89 from (axW_o (by decide)).trans (zref hI rfl rfl)]
                  refine qG.blk 2 (pc' := 94) (ls' := [(2, 87), (2, 8), (0, cdF w i - 10000), (0, cdF w (i + 1))]) (st' := [(0, (axW w j68) 87 2), (2, 89)]) (w' := (qup (axW w j68) 88 c (cdF w i - 10000))) (n' := 142) rfl ?_
                  rw [show (axW w j68) 87 2 = ((c : Nat) : Int) from (axW_o (by decide)).trans (hc)]
                  refine qG.blk 1 (pc' := 95) (ls' := [(2, 87), (2, 8), (0, cdF w i - 10000), (0, cdF w (i + 1))]) (st' := [(0, cdF w (i + 1)), (0, ((c : Nat) : Int)), (2, 89)]) (w' := (qup (axW w j68) 88 c (cdF w i - 10000))) (n' := 142) rfl ?_
                  refine qG.ar (P := 0 ≤ ((c : Nat) : Int) ∧ ((c : Nat) : Int) < ((40 : Nat) : Int)) (P2 := 0 < (89 : Int) ∧ (89 : Int) ≤ ((142 : Nat) : Int)) (pc' := 96) (ls' := [(2, 87), (2, 8), (0, cdF w i - 10000), (0, cdF w (i + 1))]) (st' := []) (w' := (qup (qup (axW w j68) 88 c (cdF w i - 10000)) 89 c (cdF w (i + 1)))) (n' := 142) rfl (by omega) (by decide) ?_
                  refine qG.blk 3 (pc' := 101) (ls' := [(2, 87), (2, 8), (0, cdF w i - 10000), (0, cdF w (i + 1))]) (st' := [(0, (axW w j68) 87 2), (2, 87)]) (w' := (qup (qup (axW w j68) 88 c (cdF w i - 10000)) 89 c (cdF w (i + 1)))) (n' := 142) rfl ?_
                  rw [show (axW w j68) 87 2 = ((c : Nat) : Int) from (axW_o (by decide)).trans (hc)]
                  refine qG.blk 2 (pc' := 103) (ls' := [(2, 87), (2, 8), (0, cdF w i - 10000), (0, cdF w (i + 1))]) (st' := [(0, wrp (((c : Nat) : Int) + 1)), (2, 87)]) (w' := (qup (qup (axW w j68) 88 c (cdF w i - 10000)) 89 c (cdF w (i + 1)))) (n' := 142) rfl ?_
                  rw [show wrp (((c : Nat) : Int) + 1) = ((c + 1 : Nat) : Int) from by rw [wrp_id (by omega) (by omega)]; omega]
                  refine qG.blk 3 (pc' := 110) (ls' := [(2, 87), (2, 8), (0, cdF w i - 10000), (0, cdF w (i + 1))]) (st' := [(0, 20059), (2, 8)]) (w' := (qup (qup (qup (axW w j68) 88 c (cdF w i - 10000)) 89 c (cdF w (i + 1))) 87 2 ((c + 1 : Nat) : Int))) (n' := 142) rfl ?_
                  rw [show (qup (qup (qup (axW w j68) 88 c (cdF w i - 10000)) 89 c (cdF w (i + 1))) 87 2 ((c + 1 : Nat) : Int)) = axW (qup (qup (qup w 88 c (cdF w i - 10000)) 89 c (cdF w (i + 1))) 87 2 ((c + 1 : Nat) : Int)) j68 from by rw [ax_up (by omega), ax_up (by omega), ax_up (by omega)]]
                  obtain ⟨w3, hww3⟩ : ∃ q : qW, q = (qup (qup (qup w 88 c (cdF w i - 10000)) 89 c (cdF w (i + 1))) 87 2 ((c + 1 : Nat) : Int)) := ⟨_, rfl⟩
                  rw [← hww3]
                  have hA3 : AW (SHM_ 87) w w3 := by rw [hww3]; exact (((AW.rf hI).arr (zup_a hI (b := (0, 9999)) rfl rfl ⟨by omega, by omega⟩) (by decide) (by decide)).arr (zup_a (zup_a hI (b := (0, 9999)) rfl rfl ⟨by omega, by omega⟩) (b := (-2147483648, 2147483647)) rfl rfl hin) (by decide) (by decide)).upd (by decide) (by decide) (zup_f (zup_a (zup_a hI (b := (0, 9999)) rfl rfl ⟨by omega, by omega⟩) (b := (-2147483648, 2147483647)) rfl rfl hin) (b := (0, 40)) rfl rfl rfl ⟨by show (0 : Int) ≤ _; omega, by show _ ≤ (40 : Int); omega⟩)
                  have hI3 := hA3.1
                  obtain ⟨ecd, epl, e84, e8⟩ := hA3.cd (by decide)
                  have hm3 : w3 8 4 = (m : Int) := e84.trans hm
                  refine qG.call (t := 151) (na := 2) (sk := 1) (md := 1) (ls1 := [(2, 8), (0, 20059)]) (r1 := []) rfl rfl rfl rfl rfl (K_tNeeds (by omega) 20059 (by decide) m hm6 w3 hI3 hm3 j68 (by omega)) ?_
                  rintro ⟨_, x9⟩ w7 _ ⟨rfl, hT⟩; rcases hT with ⟨j110, hs110, hl110, hx9, rfl⟩ | ⟨k110, j110, hs110, hk110, hl110, hx9, rfl⟩ <;> obtain ⟨rfl, rfl⟩ := Prod.mk.inj hx9
                  · skip
                    show qG none (d + 1) 108 113 [(2, 87), (2, 8), (0, cdF w i - 10000), (0, cdF w (i + 1))] [(0, 1)] (axW w3 j110) 142 Q9
                    refine qG.ret rfl (by first | rfl | exact decide_eq_true (by omega)) ?_
                    subst hQ9
                    first | (exfalso; omega) | (rw [ecd] at hs110; have e9 := step_3 hw (show ¬ 40 ≤ c by omega); (first | rw [bnd_y ((kd_w (by omega)).trans hs49)] at e9 | rw [bnd_y ((kd_d (by omega) hk3).trans hs68)] at e9 | rw [bnd_y (kd_n (by omega) hk3)] at e9); first | exact ⟨rfl, w3, hA3, .inl ⟨j110, e9.trans hs110, hl110, rfl, rfl⟩, fun _ => hww3⟩ | exact ⟨rfl, w3, hA3, .inr ⟨k110, j110, e9.trans hs110, hk110, hl110, rfl, rfl⟩, fun z => by rw [e9.trans hs110] at z; have z : k110 = 0 := z; omega⟩)
                  · skip
                    show qG none (d + 1) 108 113 [(2, 87), (2, 8), (0, cdF w i - 10000), (0, cdF w (i + 1))] [(0, 0)] (axF w3 k110 j110) 142 Q9
                    refine qG.ret rfl (by first | rfl | exact decide_eq_true (by omega)) ?_
                    subst hQ9
                    first | (exfalso; omega) | (rw [ecd] at hs110; have e9 := step_3 hw (show ¬ 40 ≤ c by omega); (first | rw [bnd_y ((kd_w (by omega)).trans hs49)] at e9 | rw [bnd_y ((kd_d (by omega) hk3).trans hs68)] at e9 | rw [bnd_y (kd_n (by omega) hk3)] at e9); first | exact ⟨rfl, w3, hA3, .inl ⟨j110, e9.trans hs110, hl110, rfl, rfl⟩, fun _ => hww3⟩ | exact ⟨rfl, w3, hA3, .inr ⟨k110, j110, e9.trans hs110, hk110, hl110, rfl, rfl⟩, fun z => by rw [e9.trans hs110] at z; have z : k110 = 0 := z; omega⟩)
              · skip
                show qG none (d + 1) 108 71 [(2, 87), (2, 8), (0, cdF w i - 10000), (0, cdF w (i + 1))] [(0, 0)] (axF w k68 j68) 142 Q9
                refine qG.br (P := (0 : Int) = 0) (pc1 := 74) (pc2 := 76) (st1 := []) rfl (fun h3 => ?_) (fun h3 => ?_)
                · skip
                  refine qG.blk 1 (pc' := 75) (ls' := [(2, 87), (2, 8), (0, cdF w i - 10000), (0, cdF w (i + 1))]) (st' := [(0, 0)]) (w' := (axF w k68 j68)) (n' := 142) rfl ?_
                  refine qG.ret rfl (by first | rfl | exact decide_eq_true (by omega)) ?_
                  subst hQ9
                  first | (exfalso; omega) | exact ⟨rfl, w, AW.rf hI, .inr ⟨k68, j68, (step_3 hw (by omega)).trans (bnd_k ((kd_d (by omega) hk3).trans hs68) hk68), hk68, hl68, rfl, rfl⟩, fun z => by rw [(step_3 hw (by omega)).trans (bnd_k ((kd_d (by omega) hk3).trans hs68) hk68)] at z; have z : k68 = 0 := z; omega⟩
                · exact absurd h3 (by decide)
        · skip
          show qG none (d + 1) 108 52 [(2, 87), (2, 8), (0, cdF w i - 10000), (0, cdF w (i + 1))] [(0, 0)] (axF w k49 j49) 142 Q9
          refine qG.br (P := (0 : Int) = 0) (pc1 := 55) (pc2 := 57) (st1 := []) rfl (fun h4 => ?_) (fun h4 => ?_)
          · skip
            refine qG.blk 1 (pc' := 56) (ls' := [(2, 87), (2, 8), (0, cdF w i - 10000), (0, cdF w (i + 1))]) (st' := [(0, 0)]) (w' := (axF w k49 j49)) (n' := 142) rfl ?_
            refine qG.ret rfl (by first | rfl | exact decide_eq_true (by omega)) ?_
            subst hQ9
            have e9 : sStep (cdF w) c i = (k49, j49) := (step_3 hw (by omega)).trans (bnd_k ((kd_w (by omega)).trans hs49) hk49)
            exact ⟨rfl, w, AW.rf hI, .inr ⟨k49, j49, e9, hk49, hl49, rfl, rfl⟩, fun z => by rw [e9] at z; have z : k49 = 0 := z; omega⟩
          · exact absurd h4 (by decide)
      · skip
        refine qG.blk 1 (pc' := 58) (ls' := [(2, 87), (2, 8), (0, cdF w i - 10000), (0, cdF w (i + 1))]) (st' := [(0, cdF w i - 10000)]) (w' := (axW w (i + 1))) (n' := 142) rfl ?_
        refine qG.call (t := 109) (na := 1) (sk := 0) (md := 0) (ls1 := [(0, cdF w i - 10000)]) (r1 := []) rfl rfl rfl rfl rfl (K_ofDoor (Nat.zero_le _) (cdF w i - 10000) (axW w (i + 1))) ?_
        rintro _ w7 _ ⟨rfl, hw7, rfl⟩
        rw [hw7]
        show qG none (d + 1) 108 61 [(2, 87), (2, 8), (0, cdF w i - 10000), (0, cdF w (i + 1))] [(0, (if cdF w i - 10000 = 0 ∨ cdF w i - 10000 = 1 ∨ cdF w i - 10000 = 3 then 1 else 0))] (axW w (i + 1)) 142 Q9
        refine qG.br (P := (if cdF w i - 10000 = 0 ∨ cdF w i - 10000 = 1 ∨ cdF w i - 10000 = 3 then 1 else 0) = 0) (pc1 := 76) (pc2 := 64) (st1 := []) rfl (fun hq61 => ?_) (fun hq61 => ?_)
        · skip
          have hk3 : ¬ (cdF w i = 10000 ∨ cdF w i = 10001 ∨ cdF w i = 10003) := fun z => by rw [if_pos (by omega)] at hq61; omega
          refine qG.blk 2 (pc' := 80) (ls' := [(2, 87), (2, 8), (0, cdF w i - 10000), (0, cdF w (i + 1))]) (st' := [(2, (axW w (i + 1)) 87 0)]) (w' := (axW w (i + 1))) (n' := 142) rfl ?_
          rw [show (axW w (i + 1)) 87 0 = 88 from (axW_o (by decide)).trans (zref hI rfl rfl)]
          refine qG.blk 2 (pc' := 84) (ls' := [(2, 87), (2, 8), (0, cdF w i - 10000), (0, cdF w (i + 1))]) (st' := [(0, (axW w (i + 1)) 87 2), (2, 88)]) (w' := (axW w (i + 1))) (n' := 142) rfl ?_
          rw [show (axW w (i + 1)) 87 2 = ((c : Nat) : Int) from (axW_o (by decide)).trans (hc)]
          refine qG.blk 1 (pc' := 85) (ls' := [(2, 87), (2, 8), (0, cdF w i - 10000), (0, cdF w (i + 1))]) (st' := [(0, cdF w i - 10000), (0, ((c : Nat) : Int)), (2, 88)]) (w' := (axW w (i + 1))) (n' := 142) rfl ?_
          refine qG.ar (P := 0 ≤ ((c : Nat) : Int) ∧ ((c : Nat) : Int) < ((40 : Nat) : Int)) (P2 := 0 < (88 : Int) ∧ (88 : Int) ≤ ((142 : Nat) : Int)) (pc' := 86) (ls' := [(2, 87), (2, 8), (0, cdF w i - 10000), (0, cdF w (i + 1))]) (st' := []) (w' := (qup (axW w (i + 1)) 88 c (cdF w i - 10000))) (n' := 142) rfl (by omega) (by decide) ?_
          refine qG.blk 2 (pc' := 90) (ls' := [(2, 87), (2, 8), (0, cdF w i - 10000), (0, cdF w (i + 1))]) (st' := [(2, (axW w (i + 1)) 87 1)]) (w' := (qup (axW w (i + 1)) 88 c (cdF w i - 10000))) (n' := 142) rfl ?_
          rw [show (axW w (i + 1)) 87 1 = 89 from (axW_o (by decide)).trans (zref hI rfl rfl)]
          refine qG.blk 2 (pc' := 94) (ls' := [(2, 87), (2, 8), (0, cdF w i - 10000), (0, cdF w (i + 1))]) (st' := [(0, (axW w (i + 1)) 87 2), (2, 89)]) (w' := (qup (axW w (i + 1)) 88 c (cdF w i - 10000))) (n' := 142) rfl ?_
          rw [show (axW w (i + 1)) 87 2 = ((c : Nat) : Int) from (axW_o (by decide)).trans (hc)]
          refine qG.blk 1 (pc' := 95) (ls' := [(2, 87), (2, 8), (0, cdF w i - 10000), (0, cdF w (i + 1))]) (st' := [(0, cdF w (i + 1)), (0, ((c : Nat) : Int)), (2, 89)]) (w' := (qup (axW w (i + 1)) 88 c (cdF w i - 10000))) (n' := 142) rfl ?_
          refine qG.ar (P := 0 ≤ ((c : Nat) : Int) ∧ ((c : Nat) : Int) < ((40 : Nat) : Int)) (P2 := 0 < (89 : Int) ∧ (89 : Int) ≤ ((142 : Nat) : Int)) (pc' := 96) (ls' := [(2, 87), (2, 8), (0, cdF w i - 10000), (0, cdF w (i + 1))]) (st' := []) (w' := (qup (qup (axW w (i + 1)) 88 c (cdF w i - 10000)) 89 c (cdF w (i + 1)))) (n' := 142) rfl (by omega) (by decide) ?_
          refine qG.blk 3 (pc' := 101) (ls' := [(2, 87), (2, 8), (0, cdF w i - 10000), (0, cdF w (i + 1))]) (st' := [(0, (axW w (i + 1)) 87 2), (2, 87)]) (w' := (qup (qup (axW w (i + 1)) 88 c (cdF w i - 10000)) 89 c (cdF w (i + 1)))) (n' := 142) rfl ?_
          rw [show (axW w (i + 1)) 87 2 = ((c : Nat) : Int) from (axW_o (by decide)).trans (hc)]
          refine qG.blk 2 (pc' := 103) (ls' := [(2, 87), (2, 8), (0, cdF w i - 10000), (0, cdF w (i + 1))]) (st' := [(0, wrp (((c : Nat) : Int) + 1)), (2, 87)]) (w' := (qup (qup (axW w (i + 1)) 88 c (cdF w i - 10000)) 89 c (cdF w (i + 1)))) (n' := 142) rfl ?_
          rw [show wrp (((c : Nat) : Int) + 1) = ((c + 1 : Nat) : Int) from by rw [wrp_id (by omega) (by omega)]; omega]
          refine qG.blk 3 (pc' := 110) (ls' := [(2, 87), (2, 8), (0, cdF w i - 10000), (0, cdF w (i + 1))]) (st' := [(0, 20059), (2, 8)]) (w' := (qup (qup (qup (axW w (i + 1)) 88 c (cdF w i - 10000)) 89 c (cdF w (i + 1))) 87 2 ((c + 1 : Nat) : Int))) (n' := 142) rfl ?_
          rw [show (qup (qup (qup (axW w (i + 1)) 88 c (cdF w i - 10000)) 89 c (cdF w (i + 1))) 87 2 ((c + 1 : Nat) : Int)) = axW (qup (qup (qup w 88 c (cdF w i - 10000)) 89 c (cdF w (i + 1))) 87 2 ((c + 1 : Nat) : Int)) (i + 1) from by rw [ax_up (by omega), ax_up (by omega), ax_up (by omega)]]
          obtain ⟨w3, hww3⟩ : ∃ q : qW, q = (qup (qup (qup w 88 c (cdF w i - 10000)) 89 c (cdF w (i + 1))) 87 2 ((c + 1 : Nat) : Int)) := ⟨_, rfl⟩
          rw [← hww3]
          have hA3 : AW (SHM_ 87) w w3 := by rw [hww3]; exact (((AW.rf hI).arr (zup_a hI (b := (0, 9999)) rfl rfl ⟨by omega, by omega⟩) (by decide) (by decide)).arr (zup_a (zup_a hI (b := (0, 9999)) rfl rfl ⟨by omega, by omega⟩) (b := (-2147483648, 2147483647)) rfl rfl hin) (by decide) (by decide)).upd (by decide) (by decide) (zup_f (zup_a (zup_a hI (b := (0, 9999)) rfl rfl ⟨by omega, by omega⟩) (b := (-2147483648, 2147483647)) rfl rfl hin) (b := (0, 40)) rfl rfl rfl ⟨by show (0 : Int) ≤ _; omega, by show _ ≤ (40 : Int); omega⟩)
          have hI3 := hA3.1
          obtain ⟨ecd, epl, e84, e8⟩ := hA3.cd (by decide)
          have hm3 : w3 8 4 = (m : Int) := e84.trans hm
          refine qG.call (t := 151) (na := 2) (sk := 1) (md := 1) (ls1 := [(2, 8), (0, 20059)]) (r1 := []) rfl rfl rfl rfl rfl (K_tNeeds (by omega) 20059 (by decide) m hm6 w3 hI3 hm3 (i + 1) (by omega)) ?_
          rintro ⟨_, x9⟩ w7 _ ⟨rfl, hT⟩; rcases hT with ⟨j110, hs110, hl110, hx9, rfl⟩ | ⟨k110, j110, hs110, hk110, hl110, hx9, rfl⟩ <;> obtain ⟨rfl, rfl⟩ := Prod.mk.inj hx9
          · skip
            show qG none (d + 1) 108 113 [(2, 87), (2, 8), (0, cdF w i - 10000), (0, cdF w (i + 1))] [(0, 1)] (axW w3 j110) 142 Q9
            refine qG.ret rfl (by first | rfl | exact decide_eq_true (by omega)) ?_
            subst hQ9
            first | (exfalso; omega) | (rw [ecd] at hs110; have e9 := step_3 hw (show ¬ 40 ≤ c by omega); (first | rw [bnd_y ((kd_w (by omega)).trans hs49)] at e9 | rw [bnd_y ((kd_d (by omega) hk3).trans hs68)] at e9 | rw [bnd_y (kd_n (by omega) hk3)] at e9); first | exact ⟨rfl, w3, hA3, .inl ⟨j110, e9.trans hs110, hl110, rfl, rfl⟩, fun _ => hww3⟩ | exact ⟨rfl, w3, hA3, .inr ⟨k110, j110, e9.trans hs110, hk110, hl110, rfl, rfl⟩, fun z => by rw [e9.trans hs110] at z; have z : k110 = 0 := z; omega⟩)
          · skip
            show qG none (d + 1) 108 113 [(2, 87), (2, 8), (0, cdF w i - 10000), (0, cdF w (i + 1))] [(0, 0)] (axF w3 k110 j110) 142 Q9
            refine qG.ret rfl (by first | rfl | exact decide_eq_true (by omega)) ?_
            subst hQ9
            first | (exfalso; omega) | (rw [ecd] at hs110; have e9 := step_3 hw (show ¬ 40 ≤ c by omega); (first | rw [bnd_y ((kd_w (by omega)).trans hs49)] at e9 | rw [bnd_y ((kd_d (by omega) hk3).trans hs68)] at e9 | rw [bnd_y (kd_n (by omega) hk3)] at e9); first | exact ⟨rfl, w3, hA3, .inl ⟨j110, e9.trans hs110, hl110, rfl, rfl⟩, fun _ => hww3⟩ | exact ⟨rfl, w3, hA3, .inr ⟨k110, j110, e9.trans hs110, hk110, hl110, rfl, rfl⟩, fun z => by rw [e9.trans hs110] at z; have z : k110 = 0 := z; omega⟩)
        · skip
          have hk3 : cdF w i = 10000 ∨ cdF w i = 10001 ∨ cdF w i = 10003 := Decidable.of_not_not (fun z => hq61 (if_neg (by omega)))
          refine qG.blk 3 (pc' := 68) (ls' := [(2, 87), (2, 8), (0, cdF w i - 10000), (0, cdF w (i + 1))]) (st' := [(0, 9), (0, 0), (2, 8)]) (w' := (axW w (i + 1))) (n' := 142) rfl ?_
          refine qG.call (t := 152) (na := 3) (sk := 1) (md := 1) (ls1 := [(2, 8), (0, 0), (0, 9), (9, 0)]) (r1 := []) rfl rfl rfl rfl rfl (K_tNum (by omega) 0 9 m hm6 w hI hm (i + 1) (by omega)) ?_
          rintro ⟨_, x9⟩ w7 _ ⟨rfl, hT⟩; rcases hT with ⟨j68, hs68, hl68, hx9, rfl⟩ | ⟨k68, j68, hs68, hk68, hl68, hx9, rfl⟩ <;> obtain ⟨rfl, rfl⟩ := Prod.mk.inj hx9
          · skip
            show qG none (d + 1) 108 71 [(2, 87), (2, 8), (0, cdF w i - 10000), (0, cdF w (i + 1))] [(0, 1)] (axW w j68) 142 Q9
            refine qG.br (P := (1 : Int) = 0) (pc1 := 74) (pc2 := 76) (st1 := []) rfl (fun h5 => ?_) (fun h5 => ?_)
            · exact absurd h5 (by decide)
            · skip
              refine qG.blk 2 (pc' := 80) (ls' := [(2, 87), (2, 8), (0, cdF w i - 10000), (0, cdF w (i + 1))]) (st' := [(2, (axW w j68) 87 0)]) (w' := (axW w j68)) (n' := 142) rfl ?_
              rw [show (axW w j68) 87 0 = 88 from (axW_o (by decide)).trans (zref hI rfl rfl)]
              refine qG.blk 2 (pc' := 84) (ls' := [(2, 87), (2, 8), (0, cdF w i - 10000), (0, cdF w (i + 1))]) (st' := [(0, (axW w j68) 87 2), (2, 88)]) (w' := (axW w j68)) (n' := 142) rfl ?_
              rw [show (axW w j68) 87 2 = ((c : Nat) : Int) from (axW_o (by decide)).trans (hc)]
              refine qG.blk 1 (pc' := 85) (ls' := [(2, 87), (2, 8), (0, cdF w i - 10000), (0, cdF w (i + 1))]) (st' := [(0, cdF w i - 10000), (0, ((c : Nat) : Int)), (2, 88)]) (w' := (axW w j68)) (n' := 142) rfl ?_
              refine qG.ar (P := 0 ≤ ((c : Nat) : Int) ∧ ((c : Nat) : Int) < ((40 : Nat) : Int)) (P2 := 0 < (88 : Int) ∧ (88 : Int) ≤ ((142 : Nat) : Int)) (pc' := 86) (ls' := [(2, 87), (2, 8), (0, cdF w i - 10000), (0, cdF w (i + 1))]) (st' := []) (w' := (qup (axW w j68) 88 c (cdF w i - 10000))) (n' := 142) rfl (by omega) (by decide) ?_
              refine qG.blk 2 (pc' := 90) (ls' := [(2, 87), (2, 8), (0, cdF w i - 10000), (0, cdF w (i + 1))]) (st' := [(2, (axW w j68) 87 1)]) (w' := (qup (axW w j68) 88 c (cdF w i - 10000))) (n' := 142) rfl ?_
              rw [show (axW w j68) 87 1 = 89 from (axW_o (by decide)).trans (zref hI rfl rfl)]
              refine qG.blk 2 (pc' := 94) (ls' := [(2, 87), (2, 8), (0, cdF w i - 10000), (0, cdF w (i + 1))]) (st' := [(0, (axW w j68) 87 2), (2, 89)]) (w' := (qup (axW w j68) 88 c (cdF w i - 10000))) (n' := 142) rfl ?_
              rw [show (axW w j68) 87 2 = ((c : Nat) : Int) from (axW_o (by decide)).trans (hc)]
              refine qG.blk 1 (pc' := 95) (ls' := [(2, 87), (2, 8), (0, cdF w i - 10000), (0, cdF w (i + 1))]) (st' := [(0, cdF w (i + 1)), (0, ((c : Nat) : Int)), (2, 89)]) (w' := (qup (axW w j68) 88 c (cdF w i - 10000))) (n' := 142) rfl ?_
              refine qG.ar (P := 0 ≤ ((c : Nat) : Int) ∧ ((c : Nat) : Int) < ((40 : Nat) : Int)) (P2 := 0 < (89 : Int) ∧ (89 : Int) ≤ ((142 : Nat) : Int)) (pc' := 96) (ls' := [(2, 87), (2, 8), (0, cdF w i - 10000), (0, cdF w (i + 1))]) (st' := []) (w' := (qup (qup (axW w j68) 88 c (cdF w i - 10000)) 89 c (cdF w (i + 1)))) (n' := 142) rfl (by omega) (by decide) ?_
              refine qG.blk 3 (pc' := 101) (ls' := [(2, 87), (2, 8), (0, cdF w i - 10000), (0, cdF w (i + 1))]) (st' := [(0, (axW w j68) 87 2), (2, 87)]) (w' := (qup (qup (axW w j68) 88 c (cdF w i - 10000)) 89 c (cdF w (i + 1)))) (n' := 142) rfl ?_
              rw [show (axW w j68) 87 2 = ((c : Nat) : Int) from (axW_o (by decide)).trans (hc)]
              refine qG.blk 2 (pc' := 103) (ls' := [(2, 87), (2, 8), (0, cdF w i - 10000), (0, cdF w (i + 1))]) (st' := [(0, wrp (((c : Nat) : Int) + 1)), (2, 87)]) (w' := (qup (qup (axW w j68) 88 c (cdF w i - 10000)) 89 c (cdF w (i + 1)))) (n' := 142) rfl ?_
              rw [show wrp (((c : Nat) : Int) + 1) = ((c + 1 : Nat) : Int) from by rw [wrp_id (by omega) (by omega)]; omega]
              refine qG.blk 3 (pc' := 110) (ls' := [(2, 87), (2, 8), (0, cdF w i - 10000), (0, cdF w (i + 1))]) (st' := [(0, 20059), (2, 8)]) (w' := (qup (qup (qup (axW w j68) 88 c (cdF w i - 10000)) 89 c (cdF w (i + 1))) 87 2 ((c + 1 : Nat) : Int))) (n' := 142) rfl ?_
              rw [show (qup (qup (qup (axW w j68) 88 c (cdF w i - 10000)) 89 c (cdF w (i + 1))) 87 2 ((c + 1 : Nat) : Int)) = axW (qup (qup (qup w 88 c (cdF w i - 10000)) 89 c (cdF w (i + 1))) 87 2 ((c + 1 : Nat) : Int)) j68 from by rw [ax_up (by omega), ax_up (by omega), ax_up (by omega)]]
              obtain ⟨w3, hww3⟩ : ∃ q : qW, q = (qup (qup (qup w 88 c (cdF w i - 10000)) 89 c (cdF w (i + 1))) 87 2 ((c + 1 : Nat) : Int)) := ⟨_, rfl⟩
              rw [← hww3]
              have hA3 : AW (SHM_ 87) w w3 := by rw [hww3]; exact (((AW.rf hI).arr (zup_a hI (b := (0, 9999)) rfl rfl ⟨by omega, by omega⟩) (by decide) (by decide)).arr (zup_a (zup_a hI (b := (0, 9999)) rfl rfl ⟨by omega, by omega⟩) (b := (-2147483648, 2147483647)) rfl rfl hin) (by decide) (by decide)).upd (by decide) (by decide) (zup_f (zup_a (zup_a hI (b := (0, 9999)) rfl rfl ⟨by omega, by omega⟩) (b := (-2147483648, 2147483647)) rfl rfl hin) (b := (0, 40)) rfl rfl rfl ⟨by show (0 : Int) ≤ _; omega, by show _ ≤ (40 : Int); omega⟩)
              have hI3 := hA3.1
              obtain ⟨ecd, epl, e84, e8⟩ := hA3.cd (by decide)
              have hm3 : w3 8 4 = (m : Int) := e84.trans hm
              refine qG.call (t := 151) (na := 2) (sk := 1) (md := 1) (ls1 := [(2, 8), (0, 20059)]) (r1 := []) rfl rfl rfl rfl rfl (K_tNeeds (by omega) 20059 (by decide) m hm6 w3 hI3 hm3 j68 (by omega)) ?_
              rintro ⟨_, x9⟩ w7 _ ⟨rfl, hT⟩; rcases hT with ⟨j110, hs110, hl110, hx9, rfl⟩ | ⟨k110, j110, hs110, hk110, hl110, hx9, rfl⟩ <;> obtain ⟨rfl, rfl⟩ := Prod.mk.inj hx9
              · skip
                show qG none (d + 1) 108 113 [(2, 87), (2, 8), (0, cdF w i - 10000), (0, cdF w (i + 1))] [(0, 1)] (axW w3 j110) 142 Q9
                refine qG.ret rfl (by first | rfl | exact decide_eq_true (by omega)) ?_
                subst hQ9
                first | (exfalso; omega) | (rw [ecd] at hs110; have e9 := step_3 hw (show ¬ 40 ≤ c by omega); (first | rw [bnd_y ((kd_w (by omega)).trans hs49)] at e9 | rw [bnd_y ((kd_d (by omega) hk3).trans hs68)] at e9 | rw [bnd_y (kd_n (by omega) hk3)] at e9); first | exact ⟨rfl, w3, hA3, .inl ⟨j110, e9.trans hs110, hl110, rfl, rfl⟩, fun _ => hww3⟩ | exact ⟨rfl, w3, hA3, .inr ⟨k110, j110, e9.trans hs110, hk110, hl110, rfl, rfl⟩, fun z => by rw [e9.trans hs110] at z; have z : k110 = 0 := z; omega⟩)
              · skip
                show qG none (d + 1) 108 113 [(2, 87), (2, 8), (0, cdF w i - 10000), (0, cdF w (i + 1))] [(0, 0)] (axF w3 k110 j110) 142 Q9
                refine qG.ret rfl (by first | rfl | exact decide_eq_true (by omega)) ?_
                subst hQ9
                first | (exfalso; omega) | (rw [ecd] at hs110; have e9 := step_3 hw (show ¬ 40 ≤ c by omega); (first | rw [bnd_y ((kd_w (by omega)).trans hs49)] at e9 | rw [bnd_y ((kd_d (by omega) hk3).trans hs68)] at e9 | rw [bnd_y (kd_n (by omega) hk3)] at e9); first | exact ⟨rfl, w3, hA3, .inl ⟨j110, e9.trans hs110, hl110, rfl, rfl⟩, fun _ => hww3⟩ | exact ⟨rfl, w3, hA3, .inr ⟨k110, j110, e9.trans hs110, hk110, hl110, rfl, rfl⟩, fun z => by rw [e9.trans hs110] at z; have z : k110 = 0 := z; omega⟩)
          · skip
            show qG none (d + 1) 108 71 [(2, 87), (2, 8), (0, cdF w i - 10000), (0, cdF w (i + 1))] [(0, 0)] (axF w k68 j68) 142 Q9
            refine qG.br (P := (0 : Int) = 0) (pc1 := 74) (pc2 := 76) (st1 := []) rfl (fun h6 => ?_) (fun h6 => ?_)
            · skip
              refine qG.blk 1 (pc' := 75) (ls' := [(2, 87), (2, 8), (0, cdF w i - 10000), (0, cdF w (i + 1))]) (st' := [(0, 0)]) (w' := (axF w k68 j68)) (n' := 142) rfl ?_
              refine qG.ret rfl (by first | rfl | exact decide_eq_true (by omega)) ?_
              subst hQ9
              first | (exfalso; omega) | exact ⟨rfl, w, AW.rf hI, .inr ⟨k68, j68, (step_3 hw (by omega)).trans (bnd_k ((kd_d (by omega) hk3).trans hs68) hk68), hk68, hl68, rfl, rfl⟩, fun z => by rw [(step_3 hw (by omega)).trans (bnd_k ((kd_d (by omega) hk3).trans hs68) hk68)] at z; have z : k68 = 0 := z; omega⟩
            · exact absurd h6 (by decide)
    · skip
      refine qG.blk 2 (pc' := 27) (ls' := [(2, 87), (2, 8), (0, cdF w i - 10000), (9, 0)]) (st' := [(0, 3), (2, 8)]) (w' := (axW w i)) (n' := 142) rfl ?_
      refine qG.call (t := 153) (na := 2) (sk := 1) (md := 1) (ls1 := [(2, 8), (0, 3)]) (r1 := []) rfl rfl rfl rfl rfl (K_tFail (by omega) 3 m hm6 w hI hm i (by omega)) ?_
      rintro _ w7 _ ⟨rfl, rfl, hw7⟩
      rw [hw7]
      show qG none (d + 1) 108 30 [(2, 87), (2, 8), (0, cdF w i - 10000), (9, 0)] [(0, 0)] (axF w 3 i) 142 Q9
      refine qG.ret rfl (by first | rfl | exact decide_eq_true (by omega)) ?_
      subst hQ9
      exact ⟨rfl, w, AW.rf hI, .inr ⟨3, i, stp_3 hw (by omega), .inr (.inr rfl), hi, rfl, rfl⟩, fun z => by rw [stp_3 hw (by omega)] at z; cases z⟩
theorem K_tStep91 {d : Nat} (hd : 3 ≤ d) (c : Nat) (hc4 : c ≤ 40) (m : Nat) (hm6 : m ≤ 601) (w : qW) (hI : yInv zgf zga zra zSp w) (hm : w 8 4 = (m : Int)) (i : Nat) (hi : i ≤ m) (hc : w 91 2 = (c : Int)) : qG none d 108 0 [(2, 91), (2, 8), (9, 0), (9, 0)] [] (axW w i) 142 (fun (r : qV) (w1 : qW) (n1 : Nat) => n1 = 142 ∧ ∃ w3, AW (SHM_ 91) w w3 ∧ RD w3 m (sStep (cdF w) c i) r w1 ∧ ((sStep (cdF w) c i).1 = 0 → w3 = lsW w 91 c (cdF w i - 10000) (cdF w (i + 1)))) := by
  generalize hQ9 : (fun (r : qV) (w1 : qW) (n1 : Nat) => n1 = 142 ∧ ∃ w3, AW (SHM_ 91) w w3 ∧ RD w3 m (sStep (cdF w) c i) r w1 ∧ ((sStep (cdF w) c i).1 = 0 → w3 = lsW w 91 c (cdF w i - 10000) (cdF w (i + 1)))) = Q9
  obtain ⟨d, rfl⟩ : ∃ d9, d = d9 + 1 := ⟨d - 1, by omega⟩
  refine qG.blk 1 (pc' := 1) (ls' := [(2, 91), (2, 8), (9, 0), (9, 0)]) (st' := [(2, 8)]) (w' := (axW w i)) (n' := 142) rfl ?_
  refine qG.call (t := 148) (na := 1) (sk := 1) (md := 1) (ls1 := [(2, 8), (9, 0)]) (r1 := []) rfl rfl rfl rfl rfl (K_tWord (by omega) m hm6 w hI hm i (by omega)) ?_
  rintro _ w7 _ ⟨rfl, rfl, hw7⟩
  rw [hw7]
  show qG none (d + 1) 108 4 [(2, 91), (2, 8), (9, 0), (9, 0)] [(0, (if 10000 ≤ cdF w i ∧ cdF w i < 20000 then cdF w i - 10000 else -1))] (axW w i) 142 Q9
  refine qG.blk 3 (pc' := 7) (ls' := [(2, 91), (2, 8), (0, (if 10000 ≤ cdF w i ∧ cdF w i < 20000 then cdF w i - 10000 else -1)), (9, 0)]) (st' := [(0, (-1)), (0, (if 10000 ≤ cdF w i ∧ cdF w i < 20000 then cdF w i - 10000 else -1))]) (w' := (axW w i)) (n' := 142) rfl ?_
  refine qG.br (P := (if 10000 ≤ cdF w i ∧ cdF w i < 20000 then cdF w i - 10000 else -1) = (-1)) (pc1 := 10) (pc2 := 16) (st1 := []) rfl (fun hq7 => ?_) (fun hq7 => ?_)
  · skip
    have hw : ¬ (10000 ≤ cdF w i ∧ cdF w i < 20000) := fun z => by rw [if_pos z] at hq7; omega
    refine qG.blk 2 (pc' := 12) (ls' := [(2, 91), (2, 8), (0, (if 10000 ≤ cdF w i ∧ cdF w i < 20000 then cdF w i - 10000 else -1)), (9, 0)]) (st' := [(0, 1), (2, 8)]) (w' := (axW w i)) (n' := 142) rfl ?_
    refine qG.call (t := 153) (na := 2) (sk := 1) (md := 1) (ls1 := [(2, 8), (0, 1)]) (r1 := []) rfl rfl rfl rfl rfl (K_tFail (by omega) 1 m hm6 w hI hm i (by omega)) ?_
    rintro _ w7 _ ⟨rfl, rfl, hw7⟩
    rw [hw7]
    show qG none (d + 1) 108 15 [(2, 91), (2, 8), (0, (if 10000 ≤ cdF w i ∧ cdF w i < 20000 then cdF w i - 10000 else -1)), (9, 0)] [(0, 0)] (axF w 1 i) 142 Q9
    refine qG.ret rfl (by first | rfl | exact decide_eq_true (by omega)) ?_
    subst hQ9
    exact ⟨rfl, w, AW.rf hI, .inr ⟨1, i, stp_1 hw, .inl rfl, hi, rfl, rfl⟩, fun z => by rw [stp_1 hw] at z; cases z⟩
  · skip
    have hw : 10000 ≤ cdF w i ∧ cdF w i < 20000 := Decidable.of_not_not (fun z => hq7 (if_neg z))
    rw [if_pos hw]
    have hlt : i < m := cd_lt hm (by omega)
    have hin : yin (-2147483648, 2147483647) (cdF w (i + 1)) := cd_in hI (i + 1)
    refine qG.blk 2 (pc' := 20) (ls' := [(2, 91), (2, 8), (0, cdF w i - 10000), (9, 0)]) (st' := [(0, (axW w i) 91 2)]) (w' := (axW w i)) (n' := 142) rfl ?_
    rw [show (axW w i) 91 2 = ((c : Nat) : Int) from (axW_o (by decide)).trans (hc)]
    refine qG.blk 1 (pc' := 22) (ls' := [(2, 91), (2, 8), (0, cdF w i - 10000), (9, 0)]) (st' := [(0, 40), (0, ((c : Nat) : Int))]) (w' := (axW w i)) (n' := 142) rfl ?_
    refine qG.br (P := ((c : Nat) : Int) < 40) (pc1 := 31) (pc2 := 25) (st1 := []) rfl (fun hq22 => ?_) (fun hq22 => ?_)
    · skip
      refine qG.blk 1 (pc' := 32) (ls' := [(2, 91), (2, 8), (0, cdF w i - 10000), (9, 0)]) (st' := [(2, 8)]) (w' := (axW w i)) (n' := 142) rfl ?_
      refine qG.call (t := 149) (na := 1) (sk := 1) (md := 1) (ls1 := [(2, 8)]) (r1 := []) rfl rfl rfl rfl rfl (K_tNext (by omega) m hm6 w hI hm i (by omega)) ?_
      rintro _ w7 _ ⟨rfl, rfl, hw7⟩
      rw [hw7]
      show qG none (d + 1) 108 35 [(2, 91), (2, 8), (0, cdF w i - 10000), (9, 0)] [] (axW w (i + 1)) 142 Q9
      refine qG.blk 1 (pc' := 36) (ls' := [(2, 91), (2, 8), (0, cdF w i - 10000), (9, 0)]) (st' := [(2, 8)]) (w' := (axW w (i + 1))) (n' := 142) rfl ?_
      refine qG.call (t := 145) (na := 1) (sk := 1) (md := 1) (ls1 := [(2, 8)]) (r1 := []) rfl rfl rfl rfl rfl (K_tCode (by omega) m hm6 w hI hm (i + 1) (by omega)) ?_
      rintro _ w7 _ ⟨rfl, rfl, hw7⟩
      rw [hw7]
      show qG none (d + 1) 108 39 [(2, 91), (2, 8), (0, cdF w i - 10000), (9, 0)] [(0, cdF w (i + 1))] (axW w (i + 1)) 142 Q9
      refine qG.blk 3 (pc' := 42) (ls' := [(2, 91), (2, 8), (0, cdF w i - 10000), (0, cdF w (i + 1))]) (st' := [(0, 2), (0, cdF w i - 10000)]) (w' := (axW w (i + 1))) (n' := 142) rfl ?_
      refine qG.br (P := cdF w i - 10000 = 2) (pc1 := 45) (pc2 := 57) (st1 := []) rfl (fun hq42 => ?_) (fun hq42 => ?_)
      · skip
        refine qG.blk 3 (pc' := 49) (ls' := [(2, 91), (2, 8), (0, cdF w i - 10000), (0, cdF w (i + 1))]) (st' := [(0, 20), (0, 1), (2, 8)]) (w' := (axW w (i + 1))) (n' := 142) rfl ?_
        refine qG.call (t := 152) (na := 3) (sk := 1) (md := 1) (ls1 := [(2, 8), (0, 1), (0, 20), (9, 0)]) (r1 := []) rfl rfl rfl rfl rfl (K_tNum (by omega) 1 20 m hm6 w hI hm (i + 1) (by omega)) ?_
        rintro ⟨_, x9⟩ w7 _ ⟨rfl, hT⟩; rcases hT with ⟨j49, hs49, hl49, hx9, rfl⟩ | ⟨k49, j49, hs49, hk49, hl49, hx9, rfl⟩ <;> obtain ⟨rfl, rfl⟩ := Prod.mk.inj hx9
        · skip
          show qG none (d + 1) 108 52 [(2, 91), (2, 8), (0, cdF w i - 10000), (0, cdF w (i + 1))] [(0, 1)] (axW w j49) 142 Q9
          refine qG.br (P := (1 : Int) = 0) (pc1 := 55) (pc2 := 57) (st1 := []) rfl (fun h1 => ?_) (fun h1 => ?_)
          · exact absurd h1 (by decide)
          · skip
            refine qG.blk 1 (pc' := 58) (ls' := [(2, 91), (2, 8), (0, cdF w i - 10000), (0, cdF w (i + 1))]) (st' := [(0, cdF w i - 10000)]) (w' := (axW w j49)) (n' := 142) rfl ?_
            refine qG.call (t := 109) (na := 1) (sk := 0) (md := 0) (ls1 := [(0, cdF w i - 10000)]) (r1 := []) rfl rfl rfl rfl rfl (K_ofDoor (Nat.zero_le _) (cdF w i - 10000) (axW w j49)) ?_
            rintro _ w7 _ ⟨rfl, hw7, rfl⟩
            rw [hw7]
            show qG none (d + 1) 108 61 [(2, 91), (2, 8), (0, cdF w i - 10000), (0, cdF w (i + 1))] [(0, (if cdF w i - 10000 = 0 ∨ cdF w i - 10000 = 1 ∨ cdF w i - 10000 = 3 then 1 else 0))] (axW w j49) 142 Q9
            refine qG.br (P := (if cdF w i - 10000 = 0 ∨ cdF w i - 10000 = 1 ∨ cdF w i - 10000 = 3 then 1 else 0) = 0) (pc1 := 76) (pc2 := 64) (st1 := []) rfl (fun hq61 => ?_) (fun hq61 => ?_)
            · skip
              have hk3 : ¬ (cdF w i = 10000 ∨ cdF w i = 10001 ∨ cdF w i = 10003) := fun z => by rw [if_pos (by omega)] at hq61; omega
              refine qG.blk 2 (pc' := 80) (ls' := [(2, 91), (2, 8), (0, cdF w i - 10000), (0, cdF w (i + 1))]) (st' := [(2, (axW w j49) 91 0)]) (w' := (axW w j49)) (n' := 142) rfl ?_
              rw [show (axW w j49) 91 0 = 92 from (axW_o (by decide)).trans (zref hI rfl rfl)]
              refine qG.blk 2 (pc' := 84) (ls' := [(2, 91), (2, 8), (0, cdF w i - 10000), (0, cdF w (i + 1))]) (st' := [(0, (axW w j49) 91 2), (2, 92)]) (w' := (axW w j49)) (n' := 142) rfl ?_
              rw [show (axW w j49) 91 2 = ((c : Nat) : Int) from (axW_o (by decide)).trans (hc)]
              refine qG.blk 1 (pc' := 85) (ls' := [(2, 91), (2, 8), (0, cdF w i - 10000), (0, cdF w (i + 1))]) (st' := [(0, cdF w i - 10000), (0, ((c : Nat) : Int)), (2, 92)]) (w' := (axW w j49)) (n' := 142) rfl ?_
              refine qG.ar (P := 0 ≤ ((c : Nat) : Int) ∧ ((c : Nat) : Int) < ((40 : Nat) : Int)) (P2 := 0 < (92 : Int) ∧ (92 : Int) ≤ ((142 : Nat) : Int)) (pc' := 86) (ls' := [(2, 91), (2, 8), (0, cdF w i - 10000), (0, cdF w (i + 1))]) (st' := []) (w' := (qup (axW w j49) 92 c (cdF w i - 10000))) (n' := 142) rfl (by omega) (by decide) ?_
              refine qG.blk 2 (pc' := 90) (ls' := [(2, 91), (2, 8), (0, cdF w i - 10000), (0, cdF w (i + 1))]) (st' := [(2, (axW w j49) 91 1)]) (w' := (qup (axW w j49) 92 c (cdF w i - 10000))) (n' := 142) rfl ?_
              rw [show (axW w j49) 91 1 = 93 from (axW_o (by decide)).trans (zref hI rfl rfl)]
              refine qG.blk 2 (pc' := 94) (ls' := [(2, 91), (2, 8), (0, cdF w i - 10000), (0, cdF w (i + 1))]) (st' := [(0, (axW w j49) 91 2), (2, 93)]) (w' := (qup (axW w j49) 92 c (cdF w i - 10000))) (n' := 142) rfl ?_
              rw [show (axW w j49) 91 2 = ((c : Nat) : Int) from (axW_o (by decide)).trans (hc)]
              refine qG.blk 1 (pc' := 95) (ls' := [(2, 91), (2, 8), (0, cdF w i - 10000), (0, cdF w (i + 1))]) (st' := [(0, cdF w (i + 1)), (0, ((c : Nat) : Int)), (2, 93)]) (w' := (qup (axW w j49) 92 c (cdF w i - 10000))) (n' := 142) rfl ?_
              refine qG.ar (P := 0 ≤ ((c : Nat) : Int) ∧ ((c : Nat) : Int) < ((40 : Nat) : Int)) (P2 := 0 < (93 : Int) ∧ (93 : Int) ≤ ((142 : Nat) : Int)) (pc' := 96) (ls' := [(2, 91), (2, 8), (0, cdF w i - 10000), (0, cdF w (i + 1))]) (st' := []) (w' := (qup (qup (axW w j49) 92 c (cdF w i - 10000)) 93 c (cdF w (i + 1)))) (n' := 142) rfl (by omega) (by decide) ?_
              refine qG.blk 3 (pc' := 101) (ls' := [(2, 91), (2, 8), (0, cdF w i - 10000), (0, cdF w (i + 1))]) (st' := [(0, (axW w j49) 91 2), (2, 91)]) (w' := (qup (qup (axW w j49) 92 c (cdF w i - 10000)) 93 c (cdF w (i + 1)))) (n' := 142) rfl ?_
              rw [show (axW w j49) 91 2 = ((c : Nat) : Int) from (axW_o (by decide)).trans (hc)]
              refine qG.blk 2 (pc' := 103) (ls' := [(2, 91), (2, 8), (0, cdF w i - 10000), (0, cdF w (i + 1))]) (st' := [(0, wrp (((c : Nat) : Int) + 1)), (2, 91)]) (w' := (qup (qup (axW w j49) 92 c (cdF w i - 10000)) 93 c (cdF w (i + 1)))) (n' := 142) rfl ?_
              rw [show wrp (((c : Nat) : Int) + 1) = ((c + 1 : Nat) : Int) from by rw [wrp_id (by omega) (by omega)]; omega]
              refine qG.blk 3 (pc' := 110) (ls' := [(2, 91), (2, 8), (0, cdF w i - 10000), (0, cdF w (i + 1))]) (st' := [(0, 20059), (2, 8)]) (w' := (qup (qup (qup (axW w j49) 92 c (cdF w i - 10000)) 93 c (cdF w (i + 1))) 91 2 ((c + 1 : Nat) : Int))) (n' := 142) rfl ?_
              rw [show (qup (qup (qup (axW w j49) 92 c (cdF w i - 10000)) 93 c (cdF w (i + 1))) 91 2 ((c + 1 : Nat) : Int)) = axW (qup (qup (qup w 92 c (cdF w i - 10000)) 93 c (cdF w (i + 1))) 91 2 ((c + 1 : Nat) : Int)) j49 from by rw [ax_up (by omega), ax_up (by omega), ax_up (by omega)]]
              obtain ⟨w3, hww3⟩ : ∃ q : qW, q = (qup (qup (qup w 92 c (cdF w i - 10000)) 93 c (cdF w (i + 1))) 91 2 ((c + 1 : Nat) : Int)) := ⟨_, rfl⟩
              rw [← hww3]
              have hA3 : AW (SHM_ 91) w w3 := by rw [hww3]; exact (((AW.rf hI).arr (zup_a hI (b := (0, 9999)) rfl rfl ⟨by omega, by omega⟩) (by decide) (by decide)).arr (zup_a (zup_a hI (b := (0, 9999)) rfl rfl ⟨by omega, by omega⟩) (b := (-2147483648, 2147483647)) rfl rfl hin) (by decide) (by decide)).upd (by decide) (by decide) (zup_f (zup_a (zup_a hI (b := (0, 9999)) rfl rfl ⟨by omega, by omega⟩) (b := (-2147483648, 2147483647)) rfl rfl hin) (b := (0, 40)) rfl rfl rfl ⟨by show (0 : Int) ≤ _; omega, by show _ ≤ (40 : Int); omega⟩)
              have hI3 := hA3.1
              obtain ⟨ecd, epl, e84, e8⟩ := hA3.cd (by decide)
              have hm3 : w3 8 4 = (m : Int) := e84.trans hm
              refine qG.call (t := 151) (na := 2) (sk := 1) (md := 1) (ls1 := [(2, 8), (0, 20059)]) (r1 := []) rfl rfl rfl rfl rfl (K_tNeeds (by omega) 20059 (by decide) m hm6 w3 hI3 hm3 j49 (by omega)) ?_
              rintro ⟨_, x9⟩ w7 _ ⟨rfl, hT⟩; rcases hT with ⟨j110, hs110, hl110, hx9, rfl⟩ | ⟨k110, j110, hs110, hk110, hl110, hx9, rfl⟩ <;> obtain ⟨rfl, rfl⟩ := Prod.mk.inj hx9
              · skip
                show qG none (d + 1) 108 113 [(2, 91), (2, 8), (0, cdF w i - 10000), (0, cdF w (i + 1))] [(0, 1)] (axW w3 j110) 142 Q9
                refine qG.ret rfl (by first | rfl | exact decide_eq_true (by omega)) ?_
                subst hQ9
                first | (exfalso; omega) | (rw [ecd] at hs110; have e9 := step_3 hw (show ¬ 40 ≤ c by omega); (first | rw [bnd_y ((kd_w (by omega)).trans hs49)] at e9 | rw [bnd_y ((kd_d (by omega) hk3).trans hs68)] at e9 | rw [bnd_y (kd_n (by omega) hk3)] at e9); first | exact ⟨rfl, w3, hA3, .inl ⟨j110, e9.trans hs110, hl110, rfl, rfl⟩, fun _ => hww3⟩ | exact ⟨rfl, w3, hA3, .inr ⟨k110, j110, e9.trans hs110, hk110, hl110, rfl, rfl⟩, fun z => by rw [e9.trans hs110] at z; have z : k110 = 0 := z; omega⟩)
              · skip
                show qG none (d + 1) 108 113 [(2, 91), (2, 8), (0, cdF w i - 10000), (0, cdF w (i + 1))] [(0, 0)] (axF w3 k110 j110) 142 Q9
                refine qG.ret rfl (by first | rfl | exact decide_eq_true (by omega)) ?_
                subst hQ9
                first | (exfalso; omega) | (rw [ecd] at hs110; have e9 := step_3 hw (show ¬ 40 ≤ c by omega); (first | rw [bnd_y ((kd_w (by omega)).trans hs49)] at e9 | rw [bnd_y ((kd_d (by omega) hk3).trans hs68)] at e9 | rw [bnd_y (kd_n (by omega) hk3)] at e9); first | exact ⟨rfl, w3, hA3, .inl ⟨j110, e9.trans hs110, hl110, rfl, rfl⟩, fun _ => hww3⟩ | exact ⟨rfl, w3, hA3, .inr ⟨k110, j110, e9.trans hs110, hk110, hl110, rfl, rfl⟩, fun z => by rw [e9.trans hs110] at z; have z : k110 = 0 := z; omega⟩)
            · skip
              have hk3 : cdF w i = 10000 ∨ cdF w i = 10001 ∨ cdF w i = 10003 := Decidable.of_not_not (fun z => hq61 (if_neg (by omega)))
              refine qG.blk 3 (pc' := 68) (ls' := [(2, 91), (2, 8), (0, cdF w i - 10000), (0, cdF w (i + 1))]) (st' := [(0, 9), (0, 0), (2, 8)]) (w' := (axW w j49)) (n' := 142) rfl ?_
              refine qG.call (t := 152) (na := 3) (sk := 1) (md := 1) (ls1 := [(2, 8), (0, 0), (0, 9), (9, 0)]) (r1 := []) rfl rfl rfl rfl rfl (K_tNum (by omega) 0 9 m hm6 w hI hm j49 (by omega)) ?_
              rintro ⟨_, x9⟩ w7 _ ⟨rfl, hT⟩; rcases hT with ⟨j68, hs68, hl68, hx9, rfl⟩ | ⟨k68, j68, hs68, hk68, hl68, hx9, rfl⟩ <;> obtain ⟨rfl, rfl⟩ := Prod.mk.inj hx9
              · skip
                show qG none (d + 1) 108 71 [(2, 91), (2, 8), (0, cdF w i - 10000), (0, cdF w (i + 1))] [(0, 1)] (axW w j68) 142 Q9
                refine qG.br (P := (1 : Int) = 0) (pc1 := 74) (pc2 := 76) (st1 := []) rfl (fun h2 => ?_) (fun h2 => ?_)
                · exact absurd h2 (by decide)
                · skip
                  refine qG.blk 2 (pc' := 80) (ls' := [(2, 91), (2, 8), (0, cdF w i - 10000), (0, cdF w (i + 1))]) (st' := [(2, (axW w j68) 91 0)]) (w' := (axW w j68)) (n' := 142) rfl ?_
                  rw [show (axW w j68) 91 0 = 92 from (axW_o (by decide)).trans (zref hI rfl rfl)]
                  refine qG.blk 2 (pc' := 84) (ls' := [(2, 91), (2, 8), (0, cdF w i - 10000), (0, cdF w (i + 1))]) (st' := [(0, (axW w j68) 91 2), (2, 92)]) (w' := (axW w j68)) (n' := 142) rfl ?_
                  rw [show (axW w j68) 91 2 = ((c : Nat) : Int) from (axW_o (by decide)).trans (hc)]
                  refine qG.blk 1 (pc' := 85) (ls' := [(2, 91), (2, 8), (0, cdF w i - 10000), (0, cdF w (i + 1))]) (st' := [(0, cdF w i - 10000), (0, ((c : Nat) : Int)), (2, 92)]) (w' := (axW w j68)) (n' := 142) rfl ?_
                  refine qG.ar (P := 0 ≤ ((c : Nat) : Int) ∧ ((c : Nat) : Int) < ((40 : Nat) : Int)) (P2 := 0 < (92 : Int) ∧ (92 : Int) ≤ ((142 : Nat) : Int)) (pc' := 86) (ls' := [(2, 91), (2, 8), (0, cdF w i - 10000), (0, cdF w (i + 1))]) (st' := []) (w' := (qup (axW w j68) 92 c (cdF w i - 10000))) (n' := 142) rfl (by omega) (by decide) ?_
                  refine qG.blk 2 (pc' := 90) (ls' := [(2, 91), (2, 8), (0, cdF w i - 10000), (0, cdF w (i + 1))]) (st' := [(2, (axW w j68) 91 1)]) (w' := (qup (axW w j68) 92 c (cdF w i - 10000))) (n' := 142) rfl ?_
                  rw [show (axW w j68) 91 1 = 93 from (axW_o (by decide)).trans (zref hI rfl rfl)]
                  refine qG.blk 2 (pc' := 94) (ls' := [(2, 91), (2, 8), (0, cdF w i - 10000), (0, cdF w (i + 1))]) (st' := [(0, (axW w j68) 91 2), (2, 93)]) (w' := (qup (axW w j68) 92 c (cdF w i - 10000))) (n' := 142) rfl ?_
                  rw [show (axW w j68) 91 2 = ((c : Nat) : Int) from (axW_o (by decide)).trans (hc)]
                  refine qG.blk 1 (pc' := 95) (ls' := [(2, 91), (2, 8), (0, cdF w i - 10000), (0, cdF w (i + 1))]) (st' := [(0, cdF w (i + 1)), (0, ((c : Nat) : Int)), (2, 93)]) (w' := (qup (axW w j68) 92 c (cdF w i - 10000))) (n' := 142) rfl ?_
                  refine qG.ar (P := 0 ≤ ((c : Nat) : Int) ∧ ((c : Nat) : Int) < ((40 : Nat) : Int)) (P2 := 0 < (93 : Int) ∧ (93 : Int) ≤ ((142 : Nat) : Int)) (pc' := 96) (ls' := [(2, 91), (2, 8), (0, cdF w i - 10000), (0, cdF w (i + 1))]) (st' := []) (w' := (qup (qup (axW w j68) 92 c (cdF w i - 10000)) 93 c (cdF w (i + 1)))) (n' := 142) rfl (by omega) (by decide) ?_
                  refine qG.blk 3 (pc' := 101) (ls' := [(2, 91), (2, 8), (0, cdF w i - 10000), (0, cdF w (i + 1))]) (st' := [(0, (axW w j68) 91 2), (2, 91)]) (w' := (qup (qup (axW w j68) 92 c (cdF w i - 10000)) 93 c (cdF w (i + 1)))) (n' := 142) rfl ?_
                  rw [show (axW w j68) 91 2 = ((c : Nat) : Int) from (axW_o (by decide)).trans (hc)]
                  refine qG.blk 2 (pc' := 103) (ls' := [(2, 91), (2, 8), (0, cdF w i - 10000), (0, cdF w (i + 1))]) (st' := [(0, wrp (((c : Nat) : Int) + 1)), (2, 91)]) (w' := (qup (qup (axW w j68) 92 c (cdF w i - 10000)) 93 c (cdF w (i + 1)))) (n' := 142) rfl ?_
                  rw [show wrp (((c : Nat) : Int) + 1) = ((c + 1 : Nat) : Int) from by rw [wrp_id (by omega) (by omega)]; omega]
                  refine qG.blk 3 (pc' := 110) (ls' := [(2, 91), (2, 8), (0, cdF w i - 10000), (0, cdF w (i + 1))]) (st' := [(0, 20059), (2, 8)]) (w' := (qup (qup (qup (axW w j68) 92 c (cdF w i - 10000)) 93 c (cdF w (i + 1))) 91 2 ((c + 1 : Nat) : Int))) (n' := 142) rfl ?_
                  rw [show (qup (qup (qup (axW w j68) 92 c (cdF w i - 10000)) 93 c (cdF w (i + 1))) 91 2 ((c + 1 : Nat) : Int)) = axW (qup (qup (qup w 92 c (cdF w i - 10000)) 93 c (cdF w (i + 1))) 91 2 ((c + 1 : Nat) : Int)) j68 from by rw [ax_up (by omega), ax_up (by omega), ax_up (by omega)]]
                  obtain ⟨w3, hww3⟩ : ∃ q : qW, q = (qup (qup (qup w 92 c (cdF w i - 10000)) 93 c (cdF w (i + 1))) 91 2 ((c + 1 : Nat) : Int)) := ⟨_, rfl⟩
                  rw [← hww3]
                  have hA3 : AW (SHM_ 91) w w3 := by rw [hww3]; exact (((AW.rf hI).arr (zup_a hI (b := (0, 9999)) rfl rfl ⟨by omega, by omega⟩) (by decide) (by decide)).arr (zup_a (zup_a hI (b := (0, 9999)) rfl rfl ⟨by omega, by omega⟩) (b := (-2147483648, 2147483647)) rfl rfl hin) (by decide) (by decide)).upd (by decide) (by decide) (zup_f (zup_a (zup_a hI (b := (0, 9999)) rfl rfl ⟨by omega, by omega⟩) (b := (-2147483648, 2147483647)) rfl rfl hin) (b := (0, 40)) rfl rfl rfl ⟨by show (0 : Int) ≤ _; omega, by show _ ≤ (40 : Int); omega⟩)
                  have hI3 := hA3.1
                  obtain ⟨ecd, epl, e84, e8⟩ := hA3.cd (by decide)
                  have hm3 : w3 8 4 = (m : Int) := e84.trans hm
                  refine qG.call (t := 151) (na := 2) (sk := 1) (md := 1) (ls1 := [(2, 8), (0, 20059)]) (r1 := []) rfl rfl rfl rfl rfl (K_tNeeds (by omega) 20059 (by decide) m hm6 w3 hI3 hm3 j68 (by omega)) ?_
                  rintro ⟨_, x9⟩ w7 _ ⟨rfl, hT⟩; rcases hT with ⟨j110, hs110, hl110, hx9, rfl⟩ | ⟨k110, j110, hs110, hk110, hl110, hx9, rfl⟩ <;> obtain ⟨rfl, rfl⟩ := Prod.mk.inj hx9
                  · skip
                    show qG none (d + 1) 108 113 [(2, 91), (2, 8), (0, cdF w i - 10000), (0, cdF w (i + 1))] [(0, 1)] (axW w3 j110) 142 Q9
                    refine qG.ret rfl (by first | rfl | exact decide_eq_true (by omega)) ?_
                    subst hQ9
                    first | (exfalso; omega) | (rw [ecd] at hs110; have e9 := step_3 hw (show ¬ 40 ≤ c by omega); (first | rw [bnd_y ((kd_w (by omega)).trans hs49)] at e9 | rw [bnd_y ((kd_d (by omega) hk3).trans hs68)] at e9 | rw [bnd_y (kd_n (by omega) hk3)] at e9); first | exact ⟨rfl, w3, hA3, .inl ⟨j110, e9.trans hs110, hl110, rfl, rfl⟩, fun _ => hww3⟩ | exact ⟨rfl, w3, hA3, .inr ⟨k110, j110, e9.trans hs110, hk110, hl110, rfl, rfl⟩, fun z => by rw [e9.trans hs110] at z; have z : k110 = 0 := z; omega⟩)
                  · skip
                    show qG none (d + 1) 108 113 [(2, 91), (2, 8), (0, cdF w i - 10000), (0, cdF w (i + 1))] [(0, 0)] (axF w3 k110 j110) 142 Q9
                    refine qG.ret rfl (by first | rfl | exact decide_eq_true (by omega)) ?_
                    subst hQ9
                    first | (exfalso; omega) | (rw [ecd] at hs110; have e9 := step_3 hw (show ¬ 40 ≤ c by omega); (first | rw [bnd_y ((kd_w (by omega)).trans hs49)] at e9 | rw [bnd_y ((kd_d (by omega) hk3).trans hs68)] at e9 | rw [bnd_y (kd_n (by omega) hk3)] at e9); first | exact ⟨rfl, w3, hA3, .inl ⟨j110, e9.trans hs110, hl110, rfl, rfl⟩, fun _ => hww3⟩ | exact ⟨rfl, w3, hA3, .inr ⟨k110, j110, e9.trans hs110, hk110, hl110, rfl, rfl⟩, fun z => by rw [e9.trans hs110] at z; have z : k110 = 0 := z; omega⟩)
              · skip
                show qG none (d + 1) 108 71 [(2, 91), (2, 8), (0, cdF w i - 10000), (0, cdF w (i + 1))] [(0, 0)] (axF w k68 j68) 142 Q9
                refine qG.br (P := (0 : Int) = 0) (pc1 := 74) (pc2 := 76) (st1 := []) rfl (fun h3 => ?_) (fun h3 => ?_)
                · skip
                  refine qG.blk 1 (pc' := 75) (ls' := [(2, 91), (2, 8), (0, cdF w i - 10000), (0, cdF w (i + 1))]) (st' := [(0, 0)]) (w' := (axF w k68 j68)) (n' := 142) rfl ?_
                  refine qG.ret rfl (by first | rfl | exact decide_eq_true (by omega)) ?_
                  subst hQ9
                  first | (exfalso; omega) | exact ⟨rfl, w, AW.rf hI, .inr ⟨k68, j68, (step_3 hw (by omega)).trans (bnd_k ((kd_d (by omega) hk3).trans hs68) hk68), hk68, hl68, rfl, rfl⟩, fun z => by rw [(step_3 hw (by omega)).trans (bnd_k ((kd_d (by omega) hk3).trans hs68) hk68)] at z; have z : k68 = 0 := z; omega⟩
                · exact absurd h3 (by decide)
        · skip
          show qG none (d + 1) 108 52 [(2, 91), (2, 8), (0, cdF w i - 10000), (0, cdF w (i + 1))] [(0, 0)] (axF w k49 j49) 142 Q9
          refine qG.br (P := (0 : Int) = 0) (pc1 := 55) (pc2 := 57) (st1 := []) rfl (fun h4 => ?_) (fun h4 => ?_)
          · skip
            refine qG.blk 1 (pc' := 56) (ls' := [(2, 91), (2, 8), (0, cdF w i - 10000), (0, cdF w (i + 1))]) (st' := [(0, 0)]) (w' := (axF w k49 j49)) (n' := 142) rfl ?_
            refine qG.ret rfl (by first | rfl | exact decide_eq_true (by omega)) ?_
            subst hQ9
            have e9 : sStep (cdF w) c i = (k49, j49) := (step_3 hw (by omega)).trans (bnd_k ((kd_w (by omega)).trans hs49) hk49)
            exact ⟨rfl, w, AW.rf hI, .inr ⟨k49, j49, e9, hk49, hl49, rfl, rfl⟩, fun z => by rw [e9] at z; have z : k49 = 0 := z; omega⟩
          · exact absurd h4 (by decide)
      · skip
        refine qG.blk 1 (pc' := 58) (ls' := [(2, 91), (2, 8), (0, cdF w i - 10000), (0, cdF w (i + 1))]) (st' := [(0, cdF w i - 10000)]) (w' := (axW w (i + 1))) (n' := 142) rfl ?_
        refine qG.call (t := 109) (na := 1) (sk := 0) (md := 0) (ls1 := [(0, cdF w i - 10000)]) (r1 := []) rfl rfl rfl rfl rfl (K_ofDoor (Nat.zero_le _) (cdF w i - 10000) (axW w (i + 1))) ?_
        rintro _ w7 _ ⟨rfl, hw7, rfl⟩
        rw [hw7]
        show qG none (d + 1) 108 61 [(2, 91), (2, 8), (0, cdF w i - 10000), (0, cdF w (i + 1))] [(0, (if cdF w i - 10000 = 0 ∨ cdF w i - 10000 = 1 ∨ cdF w i - 10000 = 3 then 1 else 0))] (axW w (i + 1)) 142 Q9
        refine qG.br (P := (if cdF w i - 10000 = 0 ∨ cdF w i - 10000 = 1 ∨ cdF w i - 10000 = 3 then 1 else 0) = 0) (pc1 := 76) (pc2 := 64) (st1 := []) rfl (fun hq61 => ?_) (fun hq61 => ?_)
        · skip
          have hk3 : ¬ (cdF w i = 10000 ∨ cdF w i = 10001 ∨ cdF w i = 10003) := fun z => by rw [if_pos (by omega)] at hq61; omega
          refine qG.blk 2 (pc' := 80) (ls' := [(2, 91), (2, 8), (0, cdF w i - 10000), (0, cdF w (i + 1))]) (st' := [(2, (axW w (i + 1)) 91 0)]) (w' := (axW w (i + 1))) (n' := 142) rfl ?_
          rw [show (axW w (i + 1)) 91 0 = 92 from (axW_o (by decide)).trans (zref hI rfl rfl)]
          refine qG.blk 2 (pc' := 84) (ls' := [(2, 91), (2, 8), (0, cdF w i - 10000), (0, cdF w (i + 1))]) (st' := [(0, (axW w (i + 1)) 91 2), (2, 92)]) (w' := (axW w (i + 1))) (n' := 142) rfl ?_
          rw [show (axW w (i + 1)) 91 2 = ((c : Nat) : Int) from (axW_o (by decide)).trans (hc)]
          refine qG.blk 1 (pc' := 85) (ls' := [(2, 91), (2, 8), (0, cdF w i - 10000), (0, cdF w (i + 1))]) (st' := [(0, cdF w i - 10000), (0, ((c : Nat) : Int)), (2, 92)]) (w' := (axW w (i + 1))) (n' := 142) rfl ?_
          refine qG.ar (P := 0 ≤ ((c : Nat) : Int) ∧ ((c : Nat) : Int) < ((40 : Nat) : Int)) (P2 := 0 < (92 : Int) ∧ (92 : Int) ≤ ((142 : Nat) : Int)) (pc' := 86) (ls' := [(2, 91), (2, 8), (0, cdF w i - 10000), (0, cdF w (i + 1))]) (st' := []) (w' := (qup (axW w (i + 1)) 92 c (cdF w i - 10000))) (n' := 142) rfl (by omega) (by decide) ?_
          refine qG.blk 2 (pc' := 90) (ls' := [(2, 91), (2, 8), (0, cdF w i - 10000), (0, cdF w (i + 1))]) (st' := [(2, (axW w (i + 1)) 91 1)]) (w' := (qup (axW w (i + 1)) 92 c (cdF w i - 10000))) (n' := 142) rfl ?_
          rw [show (axW w (i + 1)) 91 1 = 93 from (axW_o (by decide)).trans (zref hI rfl rfl)]
          refine qG.blk 2 (pc' := 94) (ls' := [(2, 91), (2, 8), (0, cdF w i - 10000), (0, cdF w (i + 1))]) (st' := [(0, (axW w (i + 1)) 91 2), (2, 93)]) (w' := (qup (axW w (i + 1)) 92 c (cdF w i - 10000))) (n' := 142) rfl ?_
          rw [show (axW w (i + 1)) 91 2 = ((c : Nat) : Int) from (axW_o (by decide)).trans (hc)]
          refine qG.blk 1 (pc' := 95) (ls' := [(2, 91), (2, 8), (0, cdF w i - 10000), (0, cdF w (i + 1))]) (st' := [(0, cdF w (i + 1)), (0, ((c : Nat) : Int)), (2, 93)]) (w' := (qup (axW w (i + 1)) 92 c (cdF w i - 10000))) (n' := 142) rfl ?_
          refine qG.ar (P := 0 ≤ ((c : Nat) : Int) ∧ ((c : Nat) : Int) < ((40 : Nat) : Int)) (P2 := 0 < (93 : Int) ∧ (93 : Int) ≤ ((142 : Nat) : Int)) (pc' := 96) (ls' := [(2, 91), (2, 8), (0, cdF w i - 10000), (0, cdF w (i + 1))]) (st' := []) (w' := (qup (qup (axW w (i + 1)) 92 c (cdF w i - 10000)) 93 c (cdF w (i + 1)))) (n' := 142) rfl (by omega) (by decide) ?_
          refine qG.blk 3 (pc' := 101) (ls' := [(2, 91), (2, 8), (0, cdF w i - 10000), (0, cdF w (i + 1))]) (st' := [(0, (axW w (i + 1)) 91 2), (2, 91)]) (w' := (qup (qup (axW w (i + 1)) 92 c (cdF w i - 10000)) 93 c (cdF w (i + 1)))) (n' := 142) rfl ?_
          rw [show (axW w (i + 1)) 91 2 = ((c : Nat) : Int) from (axW_o (by decide)).trans (hc)]
          refine qG.blk 2 (pc' := 103) (ls' := [(2, 91), (2, 8), (0, cdF w i - 10000), (0, cdF w (i + 1))]) (st' := [(0, wrp (((c : Nat) : Int) + 1)), (2, 91)]) (w' := (qup (qup (axW w (i + 1)) 92 c (cdF w i - 10000)) 93 c (cdF w (i + 1)))) (n' := 142) rfl ?_
          rw [show wrp (((c : Nat) : Int) + 1) = ((c + 1 : Nat) : Int) from by rw [wrp_id (by omega) (by omega)]; omega]
          refine qG.blk 3 (pc' := 110) (ls' := [(2, 91), (2, 8), (0, cdF w i - 10000), (0, cdF w (i + 1))]) (st' := [(0, 20059), (2, 8)]) (w' := (qup (qup (qup (axW w (i + 1)) 92 c (cdF w i - 10000)) 93 c (cdF w (i + 1))) 91 2 ((c + 1 : Nat) : Int))) (n' := 142) rfl ?_
          rw [show (qup (qup (qup (axW w (i + 1)) 92 c (cdF w i - 10000)) 93 c (cdF w (i + 1))) 91 2 ((c + 1 : Nat) : Int)) = axW (qup (qup (qup w 92 c (cdF w i - 10000)) 93 c (cdF w (i + 1))) 91 2 ((c + 1 : Nat) : Int)) (i + 1) from by rw [ax_up (by omega), ax_up (by omega), ax_up (by omega)]]
          obtain ⟨w3, hww3⟩ : ∃ q : qW, q = (qup (qup (qup w 92 c (cdF w i - 10000)) 93 c (cdF w (i + 1))) 91 2 ((c + 1 : Nat) : Int)) := ⟨_, rfl⟩
          rw [← hww3]
          have hA3 : AW (SHM_ 91) w w3 := by rw [hww3]; exact (((AW.rf hI).arr (zup_a hI (b := (0, 9999)) rfl rfl ⟨by omega, by omega⟩) (by decide) (by decide)).arr (zup_a (zup_a hI (b := (0, 9999)) rfl rfl ⟨by omega, by omega⟩) (b := (-2147483648, 2147483647)) rfl rfl hin) (by decide) (by decide)).upd (by decide) (by decide) (zup_f (zup_a (zup_a hI (b := (0, 9999)) rfl rfl ⟨by omega, by omega⟩) (b := (-2147483648, 2147483647)) rfl rfl hin) (b := (0, 40)) rfl rfl rfl ⟨by show (0 : Int) ≤ _; omega, by show _ ≤ (40 : Int); omega⟩)
          have hI3 := hA3.1
          obtain ⟨ecd, epl, e84, e8⟩ := hA3.cd (by decide)
          have hm3 : w3 8 4 = (m : Int) := e84.trans hm
          refine qG.call (t := 151) (na := 2) (sk := 1) (md := 1) (ls1 := [(2, 8), (0, 20059)]) (r1 := []) rfl rfl rfl rfl rfl (K_tNeeds (by omega) 20059 (by decide) m hm6 w3 hI3 hm3 (i + 1) (by omega)) ?_
          rintro ⟨_, x9⟩ w7 _ ⟨rfl, hT⟩; rcases hT with ⟨j110, hs110, hl110, hx9, rfl⟩ | ⟨k110, j110, hs110, hk110, hl110, hx9, rfl⟩ <;> obtain ⟨rfl, rfl⟩ := Prod.mk.inj hx9
          · skip
            show qG none (d + 1) 108 113 [(2, 91), (2, 8), (0, cdF w i - 10000), (0, cdF w (i + 1))] [(0, 1)] (axW w3 j110) 142 Q9
            refine qG.ret rfl (by first | rfl | exact decide_eq_true (by omega)) ?_
            subst hQ9
            first | (exfalso; omega) | (rw [ecd] at hs110; have e9 := step_3 hw (show ¬ 40 ≤ c by omega); (first | rw [bnd_y ((kd_w (by omega)).trans hs49)] at e9 | rw [bnd_y ((kd_d (by omega) hk3).trans hs68)] at e9 | rw [bnd_y (kd_n (by omega) hk3)] at e9); first | exact ⟨rfl, w3, hA3, .inl ⟨j110, e9.trans hs110, hl110, rfl, rfl⟩, fun _ => hww3⟩ | exact ⟨rfl, w3, hA3, .inr ⟨k110, j110, e9.trans hs110, hk110, hl110, rfl, rfl⟩, fun z => by rw [e9.trans hs110] at z; have z : k110 = 0 := z; omega⟩)
          · skip
            show qG none (d + 1) 108 113 [(2, 91), (2, 8), (0, cdF w i - 10000), (0, cdF w (i + 1))] [(0, 0)] (axF w3 k110 j110) 142 Q9
            refine qG.ret rfl (by first | rfl | exact decide_eq_true (by omega)) ?_
            subst hQ9
            first | (exfalso; omega) | (rw [ecd] at hs110; have e9 := step_3 hw (show ¬ 40 ≤ c by omega); (first | rw [bnd_y ((kd_w (by omega)).trans hs49)] at e9 | rw [bnd_y ((kd_d (by omega) hk3).trans hs68)] at e9 | rw [bnd_y (kd_n (by omega) hk3)] at e9); first | exact ⟨rfl, w3, hA3, .inl ⟨j110, e9.trans hs110, hl110, rfl, rfl⟩, fun _ => hww3⟩ | exact ⟨rfl, w3, hA3, .inr ⟨k110, j110, e9.trans hs110, hk110, hl110, rfl, rfl⟩, fun z => by rw [e9.trans hs110] at z; have z : k110 = 0 := z; omega⟩)
        · skip
          have hk3 : cdF w i = 10000 ∨ cdF w i = 10001 ∨ cdF w i = 10003 := Decidable.of_not_not (fun z => hq61 (if_neg (by omega)))
          refine qG.blk 3 (pc' := 68) (ls' := [(2, 91), (2, 8), (0, cdF w i - 10000), (0, cdF w (i + 1))]) (st' := [(0, 9), (0, 0), (2, 8)]) (w' := (axW w (i + 1))) (n' := 142) rfl ?_
          refine qG.call (t := 152) (na := 3) (sk := 1) (md := 1) (ls1 := [(2, 8), (0, 0), (0, 9), (9, 0)]) (r1 := []) rfl rfl rfl rfl rfl (K_tNum (by omega) 0 9 m hm6 w hI hm (i + 1) (by omega)) ?_
          rintro ⟨_, x9⟩ w7 _ ⟨rfl, hT⟩; rcases hT with ⟨j68, hs68, hl68, hx9, rfl⟩ | ⟨k68, j68, hs68, hk68, hl68, hx9, rfl⟩ <;> obtain ⟨rfl, rfl⟩ := Prod.mk.inj hx9
          · skip
            show qG none (d + 1) 108 71 [(2, 91), (2, 8), (0, cdF w i - 10000), (0, cdF w (i + 1))] [(0, 1)] (axW w j68) 142 Q9
            refine qG.br (P := (1 : Int) = 0) (pc1 := 74) (pc2 := 76) (st1 := []) rfl (fun h5 => ?_) (fun h5 => ?_)
            · exact absurd h5 (by decide)
            · skip
              refine qG.blk 2 (pc' := 80) (ls' := [(2, 91), (2, 8), (0, cdF w i - 10000), (0, cdF w (i + 1))]) (st' := [(2, (axW w j68) 91 0)]) (w' := (axW w j68)) (n' := 142) rfl ?_
              rw [show (axW w j68) 91 0 = 92 from (axW_o (by decide)).trans (zref hI rfl rfl)]
              refine qG.blk 2 (pc' := 84) (ls' := [(2, 91), (2, 8), (0, cdF w i - 10000), (0, cdF w (i + 1))]) (st' := [(0, (axW w j68) 91 2), (2, 92)]) (w' := (axW w j68)) (n' := 142) rfl ?_
              rw [show (axW w j68) 91 2 = ((c : Nat) : Int) from (axW_o (by decide)).trans (hc)]
              refine qG.blk 1 (pc' := 85) (ls' := [(2, 91), (2, 8), (0, cdF w i - 10000), (0, cdF w (i + 1))]) (st' := [(0, cdF w i - 10000), (0, ((c : Nat) : Int)), (2, 92)]) (w' := (axW w j68)) (n' := 142) rfl ?_
              refine qG.ar (P := 0 ≤ ((c : Nat) : Int) ∧ ((c : Nat) : Int) < ((40 : Nat) : Int)) (P2 := 0 < (92 : Int) ∧ (92 : Int) ≤ ((142 : Nat) : Int)) (pc' := 86) (ls' := [(2, 91), (2, 8), (0, cdF w i - 10000), (0, cdF w (i + 1))]) (st' := []) (w' := (qup (axW w j68) 92 c (cdF w i - 10000))) (n' := 142) rfl (by omega) (by decide) ?_
              refine qG.blk 2 (pc' := 90) (ls' := [(2, 91), (2, 8), (0, cdF w i - 10000), (0, cdF w (i + 1))]) (st' := [(2, (axW w j68) 91 1)]) (w' := (qup (axW w j68) 92 c (cdF w i - 10000))) (n' := 142) rfl ?_
              rw [show (axW w j68) 91 1 = 93 from (axW_o (by decide)).trans (zref hI rfl rfl)]
              refine qG.blk 2 (pc' := 94) (ls' := [(2, 91), (2, 8), (0, cdF w i - 10000), (0, cdF w (i + 1))]) (st' := [(0, (axW w j68) 91 2), (2, 93)]) (w' := (qup (axW w j68) 92 c (cdF w i - 10000))) (n' := 142) rfl ?_
              rw [show (axW w j68) 91 2 = ((c : Nat) : Int) from (axW_o (by decide)).trans (hc)]
              refine qG.blk 1 (pc' := 95) (ls' := [(2, 91), (2, 8), (0, cdF w i - 10000), (0, cdF w (i + 1))]) (st' := [(0, cdF w (i + 1)), (0, ((c : Nat) : Int)), (2, 93)]) (w' := (qup (axW w j68) 92 c (cdF w i - 10000))) (n' := 142) rfl ?_
              refine qG.ar (P := 0 ≤ ((c : Nat) : Int) ∧ ((c : Nat) : Int) < ((40 : Nat) : Int)) (P2 := 0 < (93 : Int) ∧ (93 : Int) ≤ ((142 : Nat) : Int)) (pc' := 96) (ls' := [(2, 91), (2, 8), (0, cdF w i - 10000), (0, cdF w (i + 1))]) (st' := []) (w' := (qup (qup (axW w j68) 92 c (cdF w i - 10000)) 93 c (cdF w (i + 1)))) (n' := 142) rfl (by omega) (by decide) ?_
              refine qG.blk 3 (pc' := 101) (ls' := [(2, 91), (2, 8), (0, cdF w i - 10000), (0, cdF w (i + 1))]) (st' := [(0, (axW w j68) 91 2), (2, 91)]) (w' := (qup (qup (axW w j68) 92 c (cdF w i - 10000)) 93 c (cdF w (i + 1)))) (n' := 142) rfl ?_
              rw [show (axW w j68) 91 2 = ((c : Nat) : Int) from (axW_o (by decide)).trans (hc)]
              refine qG.blk 2 (pc' := 103) (ls' := [(2, 91), (2, 8), (0, cdF w i - 10000), (0, cdF w (i + 1))]) (st' := [(0, wrp (((c : Nat) : Int) + 1)), (2, 91)]) (w' := (qup (qup (axW w j68) 92 c (cdF w i - 10000)) 93 c (cdF w (i + 1)))) (n' := 142) rfl ?_
              rw [show wrp (((c : Nat) : Int) + 1) = ((c + 1 : Nat) : Int) from by rw [wrp_id (by omega) (by omega)]; omega]
              refine qG.blk 3 (pc' := 110) (ls' := [(2, 91), (2, 8), (0, cdF w i - 10000), (0, cdF w (i + 1))]) (st' := [(0, 20059), (2, 8)]) (w' := (qup (qup (qup (axW w j68) 92 c (cdF w i - 10000)) 93 c (cdF w (i + 1))) 91 2 ((c + 1 : Nat) : Int))) (n' := 142) rfl ?_
              rw [show (qup (qup (qup (axW w j68) 92 c (cdF w i - 10000)) 93 c (cdF w (i + 1))) 91 2 ((c + 1 : Nat) : Int)) = axW (qup (qup (qup w 92 c (cdF w i - 10000)) 93 c (cdF w (i + 1))) 91 2 ((c + 1 : Nat) : Int)) j68 from by rw [ax_up (by omega), ax_up (by omega), ax_up (by omega)]]
              obtain ⟨w3, hww3⟩ : ∃ q : qW, q = (qup (qup (qup w 92 c (cdF w i - 10000)) 93 c (cdF w (i + 1))) 91 2 ((c + 1 : Nat) : Int)) := ⟨_, rfl⟩
              rw [← hww3]
              have hA3 : AW (SHM_ 91) w w3 := by rw [hww3]; exact (((AW.rf hI).arr (zup_a hI (b := (0, 9999)) rfl rfl ⟨by omega, by omega⟩) (by decide) (by decide)).arr (zup_a (zup_a hI (b := (0, 9999)) rfl rfl ⟨by omega, by omega⟩) (b := (-2147483648, 2147483647)) rfl rfl hin) (by decide) (by decide)).upd (by decide) (by decide) (zup_f (zup_a (zup_a hI (b := (0, 9999)) rfl rfl ⟨by omega, by omega⟩) (b := (-2147483648, 2147483647)) rfl rfl hin) (b := (0, 40)) rfl rfl rfl ⟨by show (0 : Int) ≤ _; omega, by show _ ≤ (40 : Int); omega⟩)
              have hI3 := hA3.1
              obtain ⟨ecd, epl, e84, e8⟩ := hA3.cd (by decide)
              have hm3 : w3 8 4 = (m : Int) := e84.trans hm
              refine qG.call (t := 151) (na := 2) (sk := 1) (md := 1) (ls1 := [(2, 8), (0, 20059)]) (r1 := []) rfl rfl rfl rfl rfl (K_tNeeds (by omega) 20059 (by decide) m hm6 w3 hI3 hm3 j68 (by omega)) ?_
              rintro ⟨_, x9⟩ w7 _ ⟨rfl, hT⟩; rcases hT with ⟨j110, hs110, hl110, hx9, rfl⟩ | ⟨k110, j110, hs110, hk110, hl110, hx9, rfl⟩ <;> obtain ⟨rfl, rfl⟩ := Prod.mk.inj hx9
              · skip
                show qG none (d + 1) 108 113 [(2, 91), (2, 8), (0, cdF w i - 10000), (0, cdF w (i + 1))] [(0, 1)] (axW w3 j110) 142 Q9
                refine qG.ret rfl (by first | rfl | exact decide_eq_true (by omega)) ?_
                subst hQ9
                first | (exfalso; omega) | (rw [ecd] at hs110; have e9 := step_3 hw (show ¬ 40 ≤ c by omega); (first | rw [bnd_y ((kd_w (by omega)).trans hs49)] at e9 | rw [bnd_y ((kd_d (by omega) hk3).trans hs68)] at e9 | rw [bnd_y (kd_n (by omega) hk3)] at e9); first | exact ⟨rfl, w3, hA3, .inl ⟨j110, e9.trans hs110, hl110, rfl, rfl⟩, fun _ => hww3⟩ | exact ⟨rfl, w3, hA3, .inr ⟨k110, j110, e9.trans hs110, hk110, hl110, rfl, rfl⟩, fun z => by rw [e9.trans hs110] at z; have z : k110 = 0 := z; omega⟩)
              · skip
                show qG none (d + 1) 108 113 [(2, 91), (2, 8), (0, cdF w i - 10000), (0, cdF w (i + 1))] [(0, 0)] (axF w3 k110 j110) 142 Q9
                refine qG.ret rfl (by first | rfl | exact decide_eq_true (by omega)) ?_
                subst hQ9
                first | (exfalso; omega) | (rw [ecd] at hs110; have e9 := step_3 hw (show ¬ 40 ≤ c by omega); (first | rw [bnd_y ((kd_w (by omega)).trans hs49)] at e9 | rw [bnd_y ((kd_d (by omega) hk3).trans hs68)] at e9 | rw [bnd_y (kd_n (by omega) hk3)] at e9); first | exact ⟨rfl, w3, hA3, .inl ⟨j110, e9.trans hs110, hl110, rfl, rfl⟩, fun _ => hww3⟩ | exact ⟨rfl, w3, hA3, .inr ⟨k110, j110, e9.trans hs110, hk110, hl110, rfl, rfl⟩, fun z => by rw [e9.trans hs110] at z; have z : k110 = 0 := z; omega⟩)
          · skip
            show qG none (d + 1) 108 71 [(2, 91), (2, 8), (0, cdF w i - 10000), (0, cdF w (i + 1))] [(0, 0)] (axF w k68 j68) 142 Q9
            refine qG.br (P := (0 : Int) = 0) (pc1 := 74) (pc2 := 76) (st1 := []) rfl (fun h6 => ?_) (fun h6 => ?_)
            · skip
              refine qG.blk 1 (pc' := 75) (ls' := [(2, 91), (2, 8), (0, cdF w i - 10000), (0, cdF w (i + 1))]) (st' := [(0, 0)]) (w' := (axF w k68 j68)) (n' := 142) rfl ?_
              refine qG.ret rfl (by first | rfl | exact decide_eq_true (by omega)) ?_
              subst hQ9
              first | (exfalso; omega) | exact ⟨rfl, w, AW.rf hI, .inr ⟨k68, j68, (step_3 hw (by omega)).trans (bnd_k ((kd_d (by omega) hk3).trans hs68) hk68), hk68, hl68, rfl, rfl⟩, fun z => by rw [(step_3 hw (by omega)).trans (bnd_k ((kd_d (by omega) hk3).trans hs68) hk68)] at z; have z : k68 = 0 := z; omega⟩
            · exact absurd h6 (by decide)
    · skip
      refine qG.blk 2 (pc' := 27) (ls' := [(2, 91), (2, 8), (0, cdF w i - 10000), (9, 0)]) (st' := [(0, 3), (2, 8)]) (w' := (axW w i)) (n' := 142) rfl ?_
      refine qG.call (t := 153) (na := 2) (sk := 1) (md := 1) (ls1 := [(2, 8), (0, 3)]) (r1 := []) rfl rfl rfl rfl rfl (K_tFail (by omega) 3 m hm6 w hI hm i (by omega)) ?_
      rintro _ w7 _ ⟨rfl, rfl, hw7⟩
      rw [hw7]
      show qG none (d + 1) 108 30 [(2, 91), (2, 8), (0, cdF w i - 10000), (9, 0)] [(0, 0)] (axF w 3 i) 142 Q9
      refine qG.ret rfl (by first | rfl | exact decide_eq_true (by omega)) ?_
      subst hQ9
      exact ⟨rfl, w, AW.rf hI, .inr ⟨3, i, stp_3 hw (by omega), .inr (.inr rfl), hi, rfl, rfl⟩, fun z => by rw [stp_3 hw (by omega)] at z; cases z⟩
theorem SRW.up {C : Nat → Int} {p c i : Nat} {w2 : qW} (hp : p ≠ 8 ∧ p ≠ 10 ∧ p ≠ 11) (h : SRW C p w2 c) (hi : i = stB C c) (hs : (sStep C c i).1 = 0) : SRW C p (lsW w2 p c (C i - 10000) (C (i + 1))) (c + 1) := by
  refine ⟨qup_k, fun t ht => ?_⟩
  unfold lsW
  by_cases e : t = c
  · subst e
    rw [← hi]
    refine ⟨hs, ?_, ?_⟩
    · rw [qup_ne (by omega), qup_ne (by omega), qup_k]
    · rw [qup_ne (by omega), qup_k]
  · obtain ⟨a, b, d⟩ := h.2 t (by omega)
    refine ⟨a, ?_, ?_⟩
    · rw [qup_ne (by omega), qup_ne (by omega), qup_j e]; exact b
    · rw [qup_ne (by omega), qup_j e, qup_ne (by omega)]; exact d
/-- what learn leaves of a show p -/
noncomputable def LRN (p : Nat) (w : qW) (s : Int × Nat × Nat) (r : qV) (w1 : qW) : Prop := ∃ w2, AW (SHM_ p) w w2 ∧ ((∃ c j, s = (0, c, j) ∧ c ≤ 40 ∧ r = (0, 1) ∧ w1 = axW w2 j ∧ SRW (cdF w) p w2 c) ∨ (∃ (k : Int) (c j : Nat), s = (k, c, j) ∧ (k = 1 ∨ k = 2 ∨ k = 3) ∧ r = (0, 0) ∧ w1 = axF w2 k j))
theorem K_sLearn4 {d : Nat} (hd : 8 ≤ d) (l l2 : List Int) (hl : qtxb 3 = some l) (hl2 : qtxb 4 = some l2) (hl6 : l.length ≤ 600) (n : Nat) (hn9 : n ≤ 600) (w0 : qW) (hI0 : yInv zgf zga zra zSp w0) (hn : w0 8 1 = (n : Int)) : qG none d 107 0 [(2, 4), (2, 8), (9, 0)] [] w0 142 (fun (r : qV) (w1 : qW) (n1 : Nat) => n1 = 142 ∧ ∃ w, TKA (qup w0 4 2 0) l l2 n w ∧ LRN 4 w (sSho (cdF w)) r w1) := by
  generalize hQ9 : (fun (r : qV) (w1 : qW) (n1 : Nat) => n1 = 142 ∧ ∃ w, TKA (qup w0 4 2 0) l l2 n w ∧ LRN 4 w (sSho (cdF w)) r w1) = Q9
  obtain ⟨d, rfl⟩ : ∃ d9, d = d9 + 1 := ⟨d - 1, by omega⟩
  refine qG.blk 6 (pc' := 10) (ls' := [(2, 4), (2, 8), (9, 0)]) (st' := [(3, 4), (3, 3), (2, 8)]) (w' := (qup w0 4 2 0)) (n' := 142) rfl ?_
  refine qG.call (t := 134) (na := 3) (sk := 1) (md := 1) (ls1 := [(2, 8), (3, 3), (3, 4), (9, 0), (9, 0)]) (r1 := []) rfl rfl rfl rfl rfl (K_cToks3 (by omega) l l2 hl hl2 hl6 n hn9 (qup w0 4 2 0) (zup_f hI0 (b := (0, 40)) rfl rfl rfl ⟨by decide, by decide⟩) ((qup_nk (by decide)).trans hn)) ?_
  rintro ⟨_, _⟩ wT _ ⟨rfl, hr1, hTA⟩
  obtain ⟨rfl, rfl⟩ := Prod.mk.inj hr1
  obtain ⟨m, hm6, hm, hI, hm0, hax⟩ := hTA.m hn9
  have hp2 : wT 4 2 = 0 := (hTA.o (by decide) (by decide) (by decide)).trans qup_k
  rw [hax]
  obtain ⟨w, hw⟩ : ∃ q, q = wT := ⟨_, rfl⟩
  rw [← hw] at hm hI hTA hax hp2 ⊢
  show qG none (d + 1) 107 13 [(2, 4), (2, 8), (9, 0)] [] (axW w 0) 142 Q9
  refine qG.blk 2 (pc' := 15) (ls' := [(2, 4), (2, 8), (0, 0)]) (st' := []) (w' := (axW w 0)) (n' := 142) rfl ?_
  have L15 : ∀ (m9 : Nat) (c j : Nat) (w2 : qW), 41 - c = m9 → (c ≤ 40 ∧ j ≤ m ∧ AW (SHM_ 4) w w2 ∧ SRW (cdF w) 4 w2 c ∧ j = stB (cdF w) c ∧ sSho (cdF w) = sAll (cdF w) (sStep (cdF w)) (41 - c) c j) → qG none (d + 1) 107 15 [(2, 4), (2, 8), (0, ((c : Nat) : Int))] [] (axW w2 j) 142 Q9 := by
    intro m9
    induction m9 using Nat.strongRecOn with
    | ind m9 ih15 =>
    intro c j w2 hm15 hI15
    obtain ⟨hc40, hjm, hA2, hR, hst, hS⟩ := hI15
    have hI2 := hA2.1
    obtain ⟨ecd, epl, e84, e8⟩ := hA2.cd (by decide)
    have hm2 : w2 8 4 = (m : Int) := e84.trans hm
    refine qG.blk 2 (pc' := 18) (ls' := [(2, 4), (2, 8), (0, ((c : Nat) : Int))]) (st' := [(0, 40), (0, ((c : Nat) : Int))]) (w' := (axW w2 j)) (n' := 142) rfl ?_
    refine qG.br (P := 40 < ((c : Nat) : Int)) (pc1 := 48) (pc2 := 21) (st1 := []) rfl (fun h1 => ?_) (fun h1 => ?_)
    · exfalso; omega
    · skip
      refine qG.blk 1 (pc' := 22) (ls' := [(2, 4), (2, 8), (0, ((c : Nat) : Int))]) (st' := [(2, 8)]) (w' := (axW w2 j)) (n' := 142) rfl ?_
      refine qG.call (t := 145) (na := 1) (sk := 1) (md := 1) (ls1 := [(2, 8)]) (r1 := []) rfl rfl rfl rfl rfl (K_tCode (by omega) m hm6 w2 hI2 hm2 j (by omega)) ?_
      rintro _ w7 _ ⟨rfl, rfl, hw7⟩
      rw [hw7]
      show qG none (d + 1) 107 25 [(2, 4), (2, 8), (0, ((c : Nat) : Int))] [(0, cdF w2 j)] (axW w2 j) 142 Q9
      refine qG.blk 1 (pc' := 27) (ls' := [(2, 4), (2, 8), (0, ((c : Nat) : Int))]) (st' := [(0, (-2)), (0, cdF w2 j)]) (w' := (axW w2 j)) (n' := 142) rfl ?_
      refine qG.br (P := cdF w2 j = (-2)) (pc1 := 30) (pc2 := 32) (st1 := []) rfl (fun hce => ?_) (fun hce => ?_)
      · skip
        refine qG.blk 1 (pc' := 31) (ls' := [(2, 4), (2, 8), (0, ((c : Nat) : Int))]) (st' := [(0, 1)]) (w' := (axW w2 j)) (n' := 142) rfl ?_
        refine qG.ret rfl (by first | rfl | exact decide_eq_true (by omega)) ?_
        subst hQ9
        first | exact ⟨rfl, w, hTA, w2, hA2, .inl ⟨c, j, hS.trans (by rw [show 41 - c = (41 - (c + 1)) + 1 by omega]; exact sAll_e (by rw [← ecd]; exact hce)), hc40, rfl, rfl, hR⟩⟩ | exact ⟨rfl, w, hTA, w3, hA2.tr hA3 (by decide), .inr ⟨k2, c, j2, hS.trans (by rw [show 41 - c = (41 - (c + 1)) + 1 by omega]; exact sAll_f (by rw [← ecd]; exact hce) hs hk), hk, rfl, rfl⟩⟩
      · skip
        refine qG.blk 2 (pc' := 34) (ls' := [(2, 4), (2, 8), (0, ((c : Nat) : Int))]) (st' := [(2, 8), (2, 4)]) (w' := (axW w2 j)) (n' := 142) rfl ?_
        refine qG.call (t := 108) (na := 2) (sk := 1) (md := 1) (ls1 := [(2, 4), (2, 8), (9, 0), (9, 0)]) (r1 := []) rfl rfl rfl rfl rfl (K_tStep4 (by omega) c (by omega) m hm6 w2 hI2 hm2 j (by omega) hR.1) ?_
        rintro ⟨_, x9⟩ w7 _ ⟨rfl, w3, hA3, hT, hw3⟩; rcases hT with ⟨j2, hs, hl3, hx9, rfl⟩ | ⟨k2, j2, hs, hk, hl3, hx9, rfl⟩ <;> obtain ⟨rfl, rfl⟩ := Prod.mk.inj hx9 <;> rw [ecd] at hs hw3
        · skip
          show qG none (d + 1) 107 37 [(2, 4), (2, 8), (0, ((c : Nat) : Int))] [(0, 1)] (axW w3 j2) 142 Q9
          refine qG.br (P := (1 : Int) = 0) (pc1 := 40) (pc2 := 42) (st1 := []) rfl (fun h2 => ?_) (fun h2 => ?_)
          · exact absurd h2 (by decide)
          · skip
            refine qG.blk 1 (pc' := 45) (ls' := [(2, 4), (2, 8), (0, wrp (((c : Nat) : Int) + 1))]) (st' := []) (w' := (axW w3 j2)) (n' := 142) rfl ?_
            rw [show wrp (((c : Nat) : Int) + 1) = ((c + 1 : Nat) : Int) from wrp_id (by omega) (by omega)]
            refine qG.blk 1 (pc' := 15) (ls' := [(2, 4), (2, 8), (0, ((c + 1 : Nat) : Int))]) (st' := []) (w' := (axW w3 j2)) (n' := 142) rfl ?_
            exact ih15 _ (by omega) (c + 1) (j2) (w3) rfl (⟨(by have q : ¬ 40 ≤ c := fun z => sStep_40 z hs; omega), hl3, hA2.tr hA3 (by decide), (by rw [hw3 (by rw [hs])]; exact hR.up (by decide) hst (by rw [hs])), (by show j2 = (sStep (cdF w) c (stB (cdF w) c)).2; rw [← hst, hs]), by rw [hS, show 41 - c = (41 - (c + 1)) + 1 by omega]; exact sAll_s (by rw [← ecd]; exact hce) hs⟩)
        · skip
          show qG none (d + 1) 107 37 [(2, 4), (2, 8), (0, ((c : Nat) : Int))] [(0, 0)] (axF w3 k2 j2) 142 Q9
          refine qG.br (P := (0 : Int) = 0) (pc1 := 40) (pc2 := 42) (st1 := []) rfl (fun h3 => ?_) (fun h3 => ?_)
          · skip
            refine qG.blk 1 (pc' := 41) (ls' := [(2, 4), (2, 8), (0, ((c : Nat) : Int))]) (st' := [(0, 0)]) (w' := (axF w3 k2 j2)) (n' := 142) rfl ?_
            refine qG.ret rfl (by first | rfl | exact decide_eq_true (by omega)) ?_
            subst hQ9
            first | exact ⟨rfl, w, hTA, w2, hA2, .inl ⟨c, j, hS.trans (by rw [show 41 - c = (41 - (c + 1)) + 1 by omega]; exact sAll_e (by rw [← ecd]; exact hce)), hc40, rfl, rfl, hR⟩⟩ | exact ⟨rfl, w, hTA, w3, hA2.tr hA3 (by decide), .inr ⟨k2, c, j2, hS.trans (by rw [show 41 - c = (41 - (c + 1)) + 1 by omega]; exact sAll_f (by rw [← ecd]; exact hce) hs hk), hk, rfl, rfl⟩⟩
          · exact absurd h3 (by decide)
  exact L15 _ (0) (0) (w) rfl (⟨by omega, Nat.zero_le _, AW.rf hI, ⟨hp2, fun t ht => absurd ht (Nat.not_lt_zero t)⟩, rfl, rfl⟩)
theorem K_sLearn79 {d : Nat} (hd : 8 ≤ d) (l l2 : List Int) (hl : qtxb 3 = some l) (hl2 : qtxb 4 = some l2) (hl6 : l.length ≤ 600) (n : Nat) (hn9 : n ≤ 600) (w0 : qW) (hI0 : yInv zgf zga zra zSp w0) (hn : w0 8 1 = (n : Int)) : qG none d 107 0 [(2, 79), (2, 8), (9, 0)] [] w0 142 (fun (r : qV) (w1 : qW) (n1 : Nat) => n1 = 142 ∧ ∃ w, TKA (qup w0 79 2 0) l l2 n w ∧ LRN 79 w (sSho (cdF w)) r w1) := by
  generalize hQ9 : (fun (r : qV) (w1 : qW) (n1 : Nat) => n1 = 142 ∧ ∃ w, TKA (qup w0 79 2 0) l l2 n w ∧ LRN 79 w (sSho (cdF w)) r w1) = Q9
  obtain ⟨d, rfl⟩ : ∃ d9, d = d9 + 1 := ⟨d - 1, by omega⟩
  refine qG.blk 6 (pc' := 10) (ls' := [(2, 79), (2, 8), (9, 0)]) (st' := [(3, 4), (3, 3), (2, 8)]) (w' := (qup w0 79 2 0)) (n' := 142) rfl ?_
  refine qG.call (t := 134) (na := 3) (sk := 1) (md := 1) (ls1 := [(2, 8), (3, 3), (3, 4), (9, 0), (9, 0)]) (r1 := []) rfl rfl rfl rfl rfl (K_cToks3 (by omega) l l2 hl hl2 hl6 n hn9 (qup w0 79 2 0) (zup_f hI0 (b := (0, 40)) rfl rfl rfl ⟨by decide, by decide⟩) ((qup_nk (by decide)).trans hn)) ?_
  rintro ⟨_, _⟩ wT _ ⟨rfl, hr1, hTA⟩
  obtain ⟨rfl, rfl⟩ := Prod.mk.inj hr1
  obtain ⟨m, hm6, hm, hI, hm0, hax⟩ := hTA.m hn9
  have hp2 : wT 79 2 = 0 := (hTA.o (by decide) (by decide) (by decide)).trans qup_k
  rw [hax]
  obtain ⟨w, hw⟩ : ∃ q, q = wT := ⟨_, rfl⟩
  rw [← hw] at hm hI hTA hax hp2 ⊢
  show qG none (d + 1) 107 13 [(2, 79), (2, 8), (9, 0)] [] (axW w 0) 142 Q9
  refine qG.blk 2 (pc' := 15) (ls' := [(2, 79), (2, 8), (0, 0)]) (st' := []) (w' := (axW w 0)) (n' := 142) rfl ?_
  have L15 : ∀ (m9 : Nat) (c j : Nat) (w2 : qW), 41 - c = m9 → (c ≤ 40 ∧ j ≤ m ∧ AW (SHM_ 79) w w2 ∧ SRW (cdF w) 79 w2 c ∧ j = stB (cdF w) c ∧ sSho (cdF w) = sAll (cdF w) (sStep (cdF w)) (41 - c) c j) → qG none (d + 1) 107 15 [(2, 79), (2, 8), (0, ((c : Nat) : Int))] [] (axW w2 j) 142 Q9 := by
    intro m9
    induction m9 using Nat.strongRecOn with
    | ind m9 ih15 =>
    intro c j w2 hm15 hI15
    obtain ⟨hc40, hjm, hA2, hR, hst, hS⟩ := hI15
    have hI2 := hA2.1
    obtain ⟨ecd, epl, e84, e8⟩ := hA2.cd (by decide)
    have hm2 : w2 8 4 = (m : Int) := e84.trans hm
    refine qG.blk 2 (pc' := 18) (ls' := [(2, 79), (2, 8), (0, ((c : Nat) : Int))]) (st' := [(0, 40), (0, ((c : Nat) : Int))]) (w' := (axW w2 j)) (n' := 142) rfl ?_
    refine qG.br (P := 40 < ((c : Nat) : Int)) (pc1 := 48) (pc2 := 21) (st1 := []) rfl (fun h1 => ?_) (fun h1 => ?_)
    · exfalso; omega
    · skip
      refine qG.blk 1 (pc' := 22) (ls' := [(2, 79), (2, 8), (0, ((c : Nat) : Int))]) (st' := [(2, 8)]) (w' := (axW w2 j)) (n' := 142) rfl ?_
      refine qG.call (t := 145) (na := 1) (sk := 1) (md := 1) (ls1 := [(2, 8)]) (r1 := []) rfl rfl rfl rfl rfl (K_tCode (by omega) m hm6 w2 hI2 hm2 j (by omega)) ?_
      rintro _ w7 _ ⟨rfl, rfl, hw7⟩
      rw [hw7]
      show qG none (d + 1) 107 25 [(2, 79), (2, 8), (0, ((c : Nat) : Int))] [(0, cdF w2 j)] (axW w2 j) 142 Q9
      refine qG.blk 1 (pc' := 27) (ls' := [(2, 79), (2, 8), (0, ((c : Nat) : Int))]) (st' := [(0, (-2)), (0, cdF w2 j)]) (w' := (axW w2 j)) (n' := 142) rfl ?_
      refine qG.br (P := cdF w2 j = (-2)) (pc1 := 30) (pc2 := 32) (st1 := []) rfl (fun hce => ?_) (fun hce => ?_)
      · skip
        refine qG.blk 1 (pc' := 31) (ls' := [(2, 79), (2, 8), (0, ((c : Nat) : Int))]) (st' := [(0, 1)]) (w' := (axW w2 j)) (n' := 142) rfl ?_
        refine qG.ret rfl (by first | rfl | exact decide_eq_true (by omega)) ?_
        subst hQ9
        first | exact ⟨rfl, w, hTA, w2, hA2, .inl ⟨c, j, hS.trans (by rw [show 41 - c = (41 - (c + 1)) + 1 by omega]; exact sAll_e (by rw [← ecd]; exact hce)), hc40, rfl, rfl, hR⟩⟩ | exact ⟨rfl, w, hTA, w3, hA2.tr hA3 (by decide), .inr ⟨k2, c, j2, hS.trans (by rw [show 41 - c = (41 - (c + 1)) + 1 by omega]; exact sAll_f (by rw [← ecd]; exact hce) hs hk), hk, rfl, rfl⟩⟩
      · skip
        refine qG.blk 2 (pc' := 34) (ls' := [(2, 79), (2, 8), (0, ((c : Nat) : Int))]) (st' := [(2, 8), (2, 79)]) (w' := (axW w2 j)) (n' := 142) rfl ?_
        refine qG.call (t := 108) (na := 2) (sk := 1) (md := 1) (ls1 := [(2, 79), (2, 8), (9, 0), (9, 0)]) (r1 := []) rfl rfl rfl rfl rfl (K_tStep79 (by omega) c (by omega) m hm6 w2 hI2 hm2 j (by omega) hR.1) ?_
        rintro ⟨_, x9⟩ w7 _ ⟨rfl, w3, hA3, hT, hw3⟩; rcases hT with ⟨j2, hs, hl3, hx9, rfl⟩ | ⟨k2, j2, hs, hk, hl3, hx9, rfl⟩ <;> obtain ⟨rfl, rfl⟩ := Prod.mk.inj hx9 <;> rw [ecd] at hs hw3
        · skip
          show qG none (d + 1) 107 37 [(2, 79), (2, 8), (0, ((c : Nat) : Int))] [(0, 1)] (axW w3 j2) 142 Q9
          refine qG.br (P := (1 : Int) = 0) (pc1 := 40) (pc2 := 42) (st1 := []) rfl (fun h2 => ?_) (fun h2 => ?_)
          · exact absurd h2 (by decide)
          · skip
            refine qG.blk 1 (pc' := 45) (ls' := [(2, 79), (2, 8), (0, wrp (((c : Nat) : Int) + 1))]) (st' := []) (w' := (axW w3 j2)) (n' := 142) rfl ?_
            rw [show wrp (((c : Nat) : Int) + 1) = ((c + 1 : Nat) : Int) from wrp_id (by omega) (by omega)]
            refine qG.blk 1 (pc' := 15) (ls' := [(2, 79), (2, 8), (0, ((c + 1 : Nat) : Int))]) (st' := []) (w' := (axW w3 j2)) (n' := 142) rfl ?_
            exact ih15 _ (by omega) (c + 1) (j2) (w3) rfl (⟨(by have q : ¬ 40 ≤ c := fun z => sStep_40 z hs; omega), hl3, hA2.tr hA3 (by decide), (by rw [hw3 (by rw [hs])]; exact hR.up (by decide) hst (by rw [hs])), (by show j2 = (sStep (cdF w) c (stB (cdF w) c)).2; rw [← hst, hs]), by rw [hS, show 41 - c = (41 - (c + 1)) + 1 by omega]; exact sAll_s (by rw [← ecd]; exact hce) hs⟩)
        · skip
          show qG none (d + 1) 107 37 [(2, 79), (2, 8), (0, ((c : Nat) : Int))] [(0, 0)] (axF w3 k2 j2) 142 Q9
          refine qG.br (P := (0 : Int) = 0) (pc1 := 40) (pc2 := 42) (st1 := []) rfl (fun h3 => ?_) (fun h3 => ?_)
          · skip
            refine qG.blk 1 (pc' := 41) (ls' := [(2, 79), (2, 8), (0, ((c : Nat) : Int))]) (st' := [(0, 0)]) (w' := (axF w3 k2 j2)) (n' := 142) rfl ?_
            refine qG.ret rfl (by first | rfl | exact decide_eq_true (by omega)) ?_
            subst hQ9
            first | exact ⟨rfl, w, hTA, w2, hA2, .inl ⟨c, j, hS.trans (by rw [show 41 - c = (41 - (c + 1)) + 1 by omega]; exact sAll_e (by rw [← ecd]; exact hce)), hc40, rfl, rfl, hR⟩⟩ | exact ⟨rfl, w, hTA, w3, hA2.tr hA3 (by decide), .inr ⟨k2, c, j2, hS.trans (by rw [show 41 - c = (41 - (c + 1)) + 1 by omega]; exact sAll_f (by rw [← ecd]; exact hce) hs hk), hk, rfl, rfl⟩⟩
          · exact absurd h3 (by decide)
  exact L15 _ (0) (0) (w) rfl (⟨by omega, Nat.zero_le _, AW.rf hI, ⟨hp2, fun t ht => absurd ht (Nat.not_lt_zero t)⟩, rfl, rfl⟩)
theorem K_sLearn83 {d : Nat} (hd : 8 ≤ d) (l l2 : List Int) (hl : qtxb 3 = some l) (hl2 : qtxb 4 = some l2) (hl6 : l.length ≤ 600) (n : Nat) (hn9 : n ≤ 600) (w0 : qW) (hI0 : yInv zgf zga zra zSp w0) (hn : w0 8 1 = (n : Int)) : qG none d 107 0 [(2, 83), (2, 8), (9, 0)] [] w0 142 (fun (r : qV) (w1 : qW) (n1 : Nat) => n1 = 142 ∧ ∃ w, TKA (qup w0 83 2 0) l l2 n w ∧ LRN 83 w (sSho (cdF w)) r w1) := by
  generalize hQ9 : (fun (r : qV) (w1 : qW) (n1 : Nat) => n1 = 142 ∧ ∃ w, TKA (qup w0 83 2 0) l l2 n w ∧ LRN 83 w (sSho (cdF w)) r w1) = Q9
  obtain ⟨d, rfl⟩ : ∃ d9, d = d9 + 1 := ⟨d - 1, by omega⟩
  refine qG.blk 6 (pc' := 10) (ls' := [(2, 83), (2, 8), (9, 0)]) (st' := [(3, 4), (3, 3), (2, 8)]) (w' := (qup w0 83 2 0)) (n' := 142) rfl ?_
  refine qG.call (t := 134) (na := 3) (sk := 1) (md := 1) (ls1 := [(2, 8), (3, 3), (3, 4), (9, 0), (9, 0)]) (r1 := []) rfl rfl rfl rfl rfl (K_cToks3 (by omega) l l2 hl hl2 hl6 n hn9 (qup w0 83 2 0) (zup_f hI0 (b := (0, 40)) rfl rfl rfl ⟨by decide, by decide⟩) ((qup_nk (by decide)).trans hn)) ?_
  rintro ⟨_, _⟩ wT _ ⟨rfl, hr1, hTA⟩
  obtain ⟨rfl, rfl⟩ := Prod.mk.inj hr1
  obtain ⟨m, hm6, hm, hI, hm0, hax⟩ := hTA.m hn9
  have hp2 : wT 83 2 = 0 := (hTA.o (by decide) (by decide) (by decide)).trans qup_k
  rw [hax]
  obtain ⟨w, hw⟩ : ∃ q, q = wT := ⟨_, rfl⟩
  rw [← hw] at hm hI hTA hax hp2 ⊢
  show qG none (d + 1) 107 13 [(2, 83), (2, 8), (9, 0)] [] (axW w 0) 142 Q9
  refine qG.blk 2 (pc' := 15) (ls' := [(2, 83), (2, 8), (0, 0)]) (st' := []) (w' := (axW w 0)) (n' := 142) rfl ?_
  have L15 : ∀ (m9 : Nat) (c j : Nat) (w2 : qW), 41 - c = m9 → (c ≤ 40 ∧ j ≤ m ∧ AW (SHM_ 83) w w2 ∧ SRW (cdF w) 83 w2 c ∧ j = stB (cdF w) c ∧ sSho (cdF w) = sAll (cdF w) (sStep (cdF w)) (41 - c) c j) → qG none (d + 1) 107 15 [(2, 83), (2, 8), (0, ((c : Nat) : Int))] [] (axW w2 j) 142 Q9 := by
    intro m9
    induction m9 using Nat.strongRecOn with
    | ind m9 ih15 =>
    intro c j w2 hm15 hI15
    obtain ⟨hc40, hjm, hA2, hR, hst, hS⟩ := hI15
    have hI2 := hA2.1
    obtain ⟨ecd, epl, e84, e8⟩ := hA2.cd (by decide)
    have hm2 : w2 8 4 = (m : Int) := e84.trans hm
    refine qG.blk 2 (pc' := 18) (ls' := [(2, 83), (2, 8), (0, ((c : Nat) : Int))]) (st' := [(0, 40), (0, ((c : Nat) : Int))]) (w' := (axW w2 j)) (n' := 142) rfl ?_
    refine qG.br (P := 40 < ((c : Nat) : Int)) (pc1 := 48) (pc2 := 21) (st1 := []) rfl (fun h1 => ?_) (fun h1 => ?_)
    · exfalso; omega
    · skip
      refine qG.blk 1 (pc' := 22) (ls' := [(2, 83), (2, 8), (0, ((c : Nat) : Int))]) (st' := [(2, 8)]) (w' := (axW w2 j)) (n' := 142) rfl ?_
      refine qG.call (t := 145) (na := 1) (sk := 1) (md := 1) (ls1 := [(2, 8)]) (r1 := []) rfl rfl rfl rfl rfl (K_tCode (by omega) m hm6 w2 hI2 hm2 j (by omega)) ?_
      rintro _ w7 _ ⟨rfl, rfl, hw7⟩
      rw [hw7]
      show qG none (d + 1) 107 25 [(2, 83), (2, 8), (0, ((c : Nat) : Int))] [(0, cdF w2 j)] (axW w2 j) 142 Q9
      refine qG.blk 1 (pc' := 27) (ls' := [(2, 83), (2, 8), (0, ((c : Nat) : Int))]) (st' := [(0, (-2)), (0, cdF w2 j)]) (w' := (axW w2 j)) (n' := 142) rfl ?_
      refine qG.br (P := cdF w2 j = (-2)) (pc1 := 30) (pc2 := 32) (st1 := []) rfl (fun hce => ?_) (fun hce => ?_)
      · skip
        refine qG.blk 1 (pc' := 31) (ls' := [(2, 83), (2, 8), (0, ((c : Nat) : Int))]) (st' := [(0, 1)]) (w' := (axW w2 j)) (n' := 142) rfl ?_
        refine qG.ret rfl (by first | rfl | exact decide_eq_true (by omega)) ?_
        subst hQ9
        first | exact ⟨rfl, w, hTA, w2, hA2, .inl ⟨c, j, hS.trans (by rw [show 41 - c = (41 - (c + 1)) + 1 by omega]; exact sAll_e (by rw [← ecd]; exact hce)), hc40, rfl, rfl, hR⟩⟩ | exact ⟨rfl, w, hTA, w3, hA2.tr hA3 (by decide), .inr ⟨k2, c, j2, hS.trans (by rw [show 41 - c = (41 - (c + 1)) + 1 by omega]; exact sAll_f (by rw [← ecd]; exact hce) hs hk), hk, rfl, rfl⟩⟩
      · skip
        refine qG.blk 2 (pc' := 34) (ls' := [(2, 83), (2, 8), (0, ((c : Nat) : Int))]) (st' := [(2, 8), (2, 83)]) (w' := (axW w2 j)) (n' := 142) rfl ?_
        refine qG.call (t := 108) (na := 2) (sk := 1) (md := 1) (ls1 := [(2, 83), (2, 8), (9, 0), (9, 0)]) (r1 := []) rfl rfl rfl rfl rfl (K_tStep83 (by omega) c (by omega) m hm6 w2 hI2 hm2 j (by omega) hR.1) ?_
        rintro ⟨_, x9⟩ w7 _ ⟨rfl, w3, hA3, hT, hw3⟩; rcases hT with ⟨j2, hs, hl3, hx9, rfl⟩ | ⟨k2, j2, hs, hk, hl3, hx9, rfl⟩ <;> obtain ⟨rfl, rfl⟩ := Prod.mk.inj hx9 <;> rw [ecd] at hs hw3
        · skip
          show qG none (d + 1) 107 37 [(2, 83), (2, 8), (0, ((c : Nat) : Int))] [(0, 1)] (axW w3 j2) 142 Q9
          refine qG.br (P := (1 : Int) = 0) (pc1 := 40) (pc2 := 42) (st1 := []) rfl (fun h2 => ?_) (fun h2 => ?_)
          · exact absurd h2 (by decide)
          · skip
            refine qG.blk 1 (pc' := 45) (ls' := [(2, 83), (2, 8), (0, wrp (((c : Nat) : Int) + 1))]) (st' := []) (w' := (axW w3 j2)) (n' := 142) rfl ?_
            rw [show wrp (((c : Nat) : Int) + 1) = ((c + 1 : Nat) : Int) from wrp_id (by omega) (by omega)]
            refine qG.blk 1 (pc' := 15) (ls' := [(2, 83), (2, 8), (0, ((c + 1 : Nat) : Int))]) (st' := []) (w' := (axW w3 j2)) (n' := 142) rfl ?_
            exact ih15 _ (by omega) (c + 1) (j2) (w3) rfl (⟨(by have q : ¬ 40 ≤ c := fun z => sStep_40 z hs; omega), hl3, hA2.tr hA3 (by decide), (by rw [hw3 (by rw [hs])]; exact hR.up (by decide) hst (by rw [hs])), (by show j2 = (sStep (cdF w) c (stB (cdF w) c)).2; rw [← hst, hs]), by rw [hS, show 41 - c = (41 - (c + 1)) + 1 by omega]; exact sAll_s (by rw [← ecd]; exact hce) hs⟩)
        · skip
          show qG none (d + 1) 107 37 [(2, 83), (2, 8), (0, ((c : Nat) : Int))] [(0, 0)] (axF w3 k2 j2) 142 Q9
          refine qG.br (P := (0 : Int) = 0) (pc1 := 40) (pc2 := 42) (st1 := []) rfl (fun h3 => ?_) (fun h3 => ?_)
          · skip
            refine qG.blk 1 (pc' := 41) (ls' := [(2, 83), (2, 8), (0, ((c : Nat) : Int))]) (st' := [(0, 0)]) (w' := (axF w3 k2 j2)) (n' := 142) rfl ?_
            refine qG.ret rfl (by first | rfl | exact decide_eq_true (by omega)) ?_
            subst hQ9
            first | exact ⟨rfl, w, hTA, w2, hA2, .inl ⟨c, j, hS.trans (by rw [show 41 - c = (41 - (c + 1)) + 1 by omega]; exact sAll_e (by rw [← ecd]; exact hce)), hc40, rfl, rfl, hR⟩⟩ | exact ⟨rfl, w, hTA, w3, hA2.tr hA3 (by decide), .inr ⟨k2, c, j2, hS.trans (by rw [show 41 - c = (41 - (c + 1)) + 1 by omega]; exact sAll_f (by rw [← ecd]; exact hce) hs hk), hk, rfl, rfl⟩⟩
          · exact absurd h3 (by decide)
  exact L15 _ (0) (0) (w) rfl (⟨by omega, Nat.zero_le _, AW.rf hI, ⟨hp2, fun t ht => absurd ht (Nat.not_lt_zero t)⟩, rfl, rfl⟩)
theorem K_sLearn87 {d : Nat} (hd : 8 ≤ d) (l l2 : List Int) (hl : qtxb 3 = some l) (hl2 : qtxb 4 = some l2) (hl6 : l.length ≤ 600) (n : Nat) (hn9 : n ≤ 600) (w0 : qW) (hI0 : yInv zgf zga zra zSp w0) (hn : w0 8 1 = (n : Int)) : qG none d 107 0 [(2, 87), (2, 8), (9, 0)] [] w0 142 (fun (r : qV) (w1 : qW) (n1 : Nat) => n1 = 142 ∧ ∃ w, TKA (qup w0 87 2 0) l l2 n w ∧ LRN 87 w (sSho (cdF w)) r w1) := by
  generalize hQ9 : (fun (r : qV) (w1 : qW) (n1 : Nat) => n1 = 142 ∧ ∃ w, TKA (qup w0 87 2 0) l l2 n w ∧ LRN 87 w (sSho (cdF w)) r w1) = Q9
  obtain ⟨d, rfl⟩ : ∃ d9, d = d9 + 1 := ⟨d - 1, by omega⟩
  refine qG.blk 6 (pc' := 10) (ls' := [(2, 87), (2, 8), (9, 0)]) (st' := [(3, 4), (3, 3), (2, 8)]) (w' := (qup w0 87 2 0)) (n' := 142) rfl ?_
  refine qG.call (t := 134) (na := 3) (sk := 1) (md := 1) (ls1 := [(2, 8), (3, 3), (3, 4), (9, 0), (9, 0)]) (r1 := []) rfl rfl rfl rfl rfl (K_cToks3 (by omega) l l2 hl hl2 hl6 n hn9 (qup w0 87 2 0) (zup_f hI0 (b := (0, 40)) rfl rfl rfl ⟨by decide, by decide⟩) ((qup_nk (by decide)).trans hn)) ?_
  rintro ⟨_, _⟩ wT _ ⟨rfl, hr1, hTA⟩
  obtain ⟨rfl, rfl⟩ := Prod.mk.inj hr1
  obtain ⟨m, hm6, hm, hI, hm0, hax⟩ := hTA.m hn9
  have hp2 : wT 87 2 = 0 := (hTA.o (by decide) (by decide) (by decide)).trans qup_k
  rw [hax]
  obtain ⟨w, hw⟩ : ∃ q, q = wT := ⟨_, rfl⟩
  rw [← hw] at hm hI hTA hax hp2 ⊢
  show qG none (d + 1) 107 13 [(2, 87), (2, 8), (9, 0)] [] (axW w 0) 142 Q9
  refine qG.blk 2 (pc' := 15) (ls' := [(2, 87), (2, 8), (0, 0)]) (st' := []) (w' := (axW w 0)) (n' := 142) rfl ?_
  have L15 : ∀ (m9 : Nat) (c j : Nat) (w2 : qW), 41 - c = m9 → (c ≤ 40 ∧ j ≤ m ∧ AW (SHM_ 87) w w2 ∧ SRW (cdF w) 87 w2 c ∧ j = stB (cdF w) c ∧ sSho (cdF w) = sAll (cdF w) (sStep (cdF w)) (41 - c) c j) → qG none (d + 1) 107 15 [(2, 87), (2, 8), (0, ((c : Nat) : Int))] [] (axW w2 j) 142 Q9 := by
    intro m9
    induction m9 using Nat.strongRecOn with
    | ind m9 ih15 =>
    intro c j w2 hm15 hI15
    obtain ⟨hc40, hjm, hA2, hR, hst, hS⟩ := hI15
    have hI2 := hA2.1
    obtain ⟨ecd, epl, e84, e8⟩ := hA2.cd (by decide)
    have hm2 : w2 8 4 = (m : Int) := e84.trans hm
    refine qG.blk 2 (pc' := 18) (ls' := [(2, 87), (2, 8), (0, ((c : Nat) : Int))]) (st' := [(0, 40), (0, ((c : Nat) : Int))]) (w' := (axW w2 j)) (n' := 142) rfl ?_
    refine qG.br (P := 40 < ((c : Nat) : Int)) (pc1 := 48) (pc2 := 21) (st1 := []) rfl (fun h1 => ?_) (fun h1 => ?_)
    · exfalso; omega
    · skip
      refine qG.blk 1 (pc' := 22) (ls' := [(2, 87), (2, 8), (0, ((c : Nat) : Int))]) (st' := [(2, 8)]) (w' := (axW w2 j)) (n' := 142) rfl ?_
      refine qG.call (t := 145) (na := 1) (sk := 1) (md := 1) (ls1 := [(2, 8)]) (r1 := []) rfl rfl rfl rfl rfl (K_tCode (by omega) m hm6 w2 hI2 hm2 j (by omega)) ?_
      rintro _ w7 _ ⟨rfl, rfl, hw7⟩
      rw [hw7]
      show qG none (d + 1) 107 25 [(2, 87), (2, 8), (0, ((c : Nat) : Int))] [(0, cdF w2 j)] (axW w2 j) 142 Q9
      refine qG.blk 1 (pc' := 27) (ls' := [(2, 87), (2, 8), (0, ((c : Nat) : Int))]) (st' := [(0, (-2)), (0, cdF w2 j)]) (w' := (axW w2 j)) (n' := 142) rfl ?_
      refine qG.br (P := cdF w2 j = (-2)) (pc1 := 30) (pc2 := 32) (st1 := []) rfl (fun hce => ?_) (fun hce => ?_)
      · skip
        refine qG.blk 1 (pc' := 31) (ls' := [(2, 87), (2, 8), (0, ((c : Nat) : Int))]) (st' := [(0, 1)]) (w' := (axW w2 j)) (n' := 142) rfl ?_
        refine qG.ret rfl (by first | rfl | exact decide_eq_true (by omega)) ?_
        subst hQ9
        first | exact ⟨rfl, w, hTA, w2, hA2, .inl ⟨c, j, hS.trans (by rw [show 41 - c = (41 - (c + 1)) + 1 by omega]; exact sAll_e (by rw [← ecd]; exact hce)), hc40, rfl, rfl, hR⟩⟩ | exact ⟨rfl, w, hTA, w3, hA2.tr hA3 (by decide), .inr ⟨k2, c, j2, hS.trans (by rw [show 41 - c = (41 - (c + 1)) + 1 by omega]; exact sAll_f (by rw [← ecd]; exact hce) hs hk), hk, rfl, rfl⟩⟩
      · skip
        refine qG.blk 2 (pc' := 34) (ls' := [(2, 87), (2, 8), (0, ((c : Nat) : Int))]) (st' := [(2, 8), (2, 87)]) (w' := (axW w2 j)) (n' := 142) rfl ?_
        refine qG.call (t := 108) (na := 2) (sk := 1) (md := 1) (ls1 := [(2, 87), (2, 8), (9, 0), (9, 0)]) (r1 := []) rfl rfl rfl rfl rfl (K_tStep87 (by omega) c (by omega) m hm6 w2 hI2 hm2 j (by omega) hR.1) ?_
        rintro ⟨_, x9⟩ w7 _ ⟨rfl, w3, hA3, hT, hw3⟩; rcases hT with ⟨j2, hs, hl3, hx9, rfl⟩ | ⟨k2, j2, hs, hk, hl3, hx9, rfl⟩ <;> obtain ⟨rfl, rfl⟩ := Prod.mk.inj hx9 <;> rw [ecd] at hs hw3
        · skip
          show qG none (d + 1) 107 37 [(2, 87), (2, 8), (0, ((c : Nat) : Int))] [(0, 1)] (axW w3 j2) 142 Q9
          refine qG.br (P := (1 : Int) = 0) (pc1 := 40) (pc2 := 42) (st1 := []) rfl (fun h2 => ?_) (fun h2 => ?_)
          · exact absurd h2 (by decide)
          · skip
            refine qG.blk 1 (pc' := 45) (ls' := [(2, 87), (2, 8), (0, wrp (((c : Nat) : Int) + 1))]) (st' := []) (w' := (axW w3 j2)) (n' := 142) rfl ?_
            rw [show wrp (((c : Nat) : Int) + 1) = ((c + 1 : Nat) : Int) from wrp_id (by omega) (by omega)]
            refine qG.blk 1 (pc' := 15) (ls' := [(2, 87), (2, 8), (0, ((c + 1 : Nat) : Int))]) (st' := []) (w' := (axW w3 j2)) (n' := 142) rfl ?_
            exact ih15 _ (by omega) (c + 1) (j2) (w3) rfl (⟨(by have q : ¬ 40 ≤ c := fun z => sStep_40 z hs; omega), hl3, hA2.tr hA3 (by decide), (by rw [hw3 (by rw [hs])]; exact hR.up (by decide) hst (by rw [hs])), (by show j2 = (sStep (cdF w) c (stB (cdF w) c)).2; rw [← hst, hs]), by rw [hS, show 41 - c = (41 - (c + 1)) + 1 by omega]; exact sAll_s (by rw [← ecd]; exact hce) hs⟩)
        · skip
          show qG none (d + 1) 107 37 [(2, 87), (2, 8), (0, ((c : Nat) : Int))] [(0, 0)] (axF w3 k2 j2) 142 Q9
          refine qG.br (P := (0 : Int) = 0) (pc1 := 40) (pc2 := 42) (st1 := []) rfl (fun h3 => ?_) (fun h3 => ?_)
          · skip
            refine qG.blk 1 (pc' := 41) (ls' := [(2, 87), (2, 8), (0, ((c : Nat) : Int))]) (st' := [(0, 0)]) (w' := (axF w3 k2 j2)) (n' := 142) rfl ?_
            refine qG.ret rfl (by first | rfl | exact decide_eq_true (by omega)) ?_
            subst hQ9
            first | exact ⟨rfl, w, hTA, w2, hA2, .inl ⟨c, j, hS.trans (by rw [show 41 - c = (41 - (c + 1)) + 1 by omega]; exact sAll_e (by rw [← ecd]; exact hce)), hc40, rfl, rfl, hR⟩⟩ | exact ⟨rfl, w, hTA, w3, hA2.tr hA3 (by decide), .inr ⟨k2, c, j2, hS.trans (by rw [show 41 - c = (41 - (c + 1)) + 1 by omega]; exact sAll_f (by rw [← ecd]; exact hce) hs hk), hk, rfl, rfl⟩⟩
          · exact absurd h3 (by decide)
  exact L15 _ (0) (0) (w) rfl (⟨by omega, Nat.zero_le _, AW.rf hI, ⟨hp2, fun t ht => absurd ht (Nat.not_lt_zero t)⟩, rfl, rfl⟩)
theorem K_sLearn91 {d : Nat} (hd : 8 ≤ d) (l l2 : List Int) (hl : qtxb 3 = some l) (hl2 : qtxb 4 = some l2) (hl6 : l.length ≤ 600) (n : Nat) (hn9 : n ≤ 600) (w0 : qW) (hI0 : yInv zgf zga zra zSp w0) (hn : w0 8 1 = (n : Int)) : qG none d 107 0 [(2, 91), (2, 8), (9, 0)] [] w0 142 (fun (r : qV) (w1 : qW) (n1 : Nat) => n1 = 142 ∧ ∃ w, TKA (qup w0 91 2 0) l l2 n w ∧ LRN 91 w (sSho (cdF w)) r w1) := by
  generalize hQ9 : (fun (r : qV) (w1 : qW) (n1 : Nat) => n1 = 142 ∧ ∃ w, TKA (qup w0 91 2 0) l l2 n w ∧ LRN 91 w (sSho (cdF w)) r w1) = Q9
  obtain ⟨d, rfl⟩ : ∃ d9, d = d9 + 1 := ⟨d - 1, by omega⟩
  refine qG.blk 6 (pc' := 10) (ls' := [(2, 91), (2, 8), (9, 0)]) (st' := [(3, 4), (3, 3), (2, 8)]) (w' := (qup w0 91 2 0)) (n' := 142) rfl ?_
  refine qG.call (t := 134) (na := 3) (sk := 1) (md := 1) (ls1 := [(2, 8), (3, 3), (3, 4), (9, 0), (9, 0)]) (r1 := []) rfl rfl rfl rfl rfl (K_cToks3 (by omega) l l2 hl hl2 hl6 n hn9 (qup w0 91 2 0) (zup_f hI0 (b := (0, 40)) rfl rfl rfl ⟨by decide, by decide⟩) ((qup_nk (by decide)).trans hn)) ?_
  rintro ⟨_, _⟩ wT _ ⟨rfl, hr1, hTA⟩
  obtain ⟨rfl, rfl⟩ := Prod.mk.inj hr1
  obtain ⟨m, hm6, hm, hI, hm0, hax⟩ := hTA.m hn9
  have hp2 : wT 91 2 = 0 := (hTA.o (by decide) (by decide) (by decide)).trans qup_k
  rw [hax]
  obtain ⟨w, hw⟩ : ∃ q, q = wT := ⟨_, rfl⟩
  rw [← hw] at hm hI hTA hax hp2 ⊢
  show qG none (d + 1) 107 13 [(2, 91), (2, 8), (9, 0)] [] (axW w 0) 142 Q9
  refine qG.blk 2 (pc' := 15) (ls' := [(2, 91), (2, 8), (0, 0)]) (st' := []) (w' := (axW w 0)) (n' := 142) rfl ?_
  have L15 : ∀ (m9 : Nat) (c j : Nat) (w2 : qW), 41 - c = m9 → (c ≤ 40 ∧ j ≤ m ∧ AW (SHM_ 91) w w2 ∧ SRW (cdF w) 91 w2 c ∧ j = stB (cdF w) c ∧ sSho (cdF w) = sAll (cdF w) (sStep (cdF w)) (41 - c) c j) → qG none (d + 1) 107 15 [(2, 91), (2, 8), (0, ((c : Nat) : Int))] [] (axW w2 j) 142 Q9 := by
    intro m9
    induction m9 using Nat.strongRecOn with
    | ind m9 ih15 =>
    intro c j w2 hm15 hI15
    obtain ⟨hc40, hjm, hA2, hR, hst, hS⟩ := hI15
    have hI2 := hA2.1
    obtain ⟨ecd, epl, e84, e8⟩ := hA2.cd (by decide)
    have hm2 : w2 8 4 = (m : Int) := e84.trans hm
    refine qG.blk 2 (pc' := 18) (ls' := [(2, 91), (2, 8), (0, ((c : Nat) : Int))]) (st' := [(0, 40), (0, ((c : Nat) : Int))]) (w' := (axW w2 j)) (n' := 142) rfl ?_
    refine qG.br (P := 40 < ((c : Nat) : Int)) (pc1 := 48) (pc2 := 21) (st1 := []) rfl (fun h1 => ?_) (fun h1 => ?_)
    · exfalso; omega
    · skip
      refine qG.blk 1 (pc' := 22) (ls' := [(2, 91), (2, 8), (0, ((c : Nat) : Int))]) (st' := [(2, 8)]) (w' := (axW w2 j)) (n' := 142) rfl ?_
      refine qG.call (t := 145) (na := 1) (sk := 1) (md := 1) (ls1 := [(2, 8)]) (r1 := []) rfl rfl rfl rfl rfl (K_tCode (by omega) m hm6 w2 hI2 hm2 j (by omega)) ?_
      rintro _ w7 _ ⟨rfl, rfl, hw7⟩
      rw [hw7]
      show qG none (d + 1) 107 25 [(2, 91), (2, 8), (0, ((c : Nat) : Int))] [(0, cdF w2 j)] (axW w2 j) 142 Q9
      refine qG.blk 1 (pc' := 27) (ls' := [(2, 91), (2, 8), (0, ((c : Nat) : Int))]) (st' := [(0, (-2)), (0, cdF w2 j)]) (w' := (axW w2 j)) (n' := 142) rfl ?_
      refine qG.br (P := cdF w2 j = (-2)) (pc1 := 30) (pc2 := 32) (st1 := []) rfl (fun hce => ?_) (fun hce => ?_)
      · skip
        refine qG.blk 1 (pc' := 31) (ls' := [(2, 91), (2, 8), (0, ((c : Nat) : Int))]) (st' := [(0, 1)]) (w' := (axW w2 j)) (n' := 142) rfl ?_
        refine qG.ret rfl (by first | rfl | exact decide_eq_true (by omega)) ?_
        subst hQ9
        first | exact ⟨rfl, w, hTA, w2, hA2, .inl ⟨c, j, hS.trans (by rw [show 41 - c = (41 - (c + 1)) + 1 by omega]; exact sAll_e (by rw [← ecd]; exact hce)), hc40, rfl, rfl, hR⟩⟩ | exact ⟨rfl, w, hTA, w3, hA2.tr hA3 (by decide), .inr ⟨k2, c, j2, hS.trans (by rw [show 41 - c = (41 - (c + 1)) + 1 by omega]; exact sAll_f (by rw [← ecd]; exact hce) hs hk), hk, rfl, rfl⟩⟩
      · skip
        refine qG.blk 2 (pc' := 34) (ls' := [(2, 91), (2, 8), (0, ((c : Nat) : Int))]) (st' := [(2, 8), (2, 91)]) (w' := (axW w2 j)) (n' := 142) rfl ?_
        refine qG.call (t := 108) (na := 2) (sk := 1) (md := 1) (ls1 := [(2, 91), (2, 8), (9, 0), (9, 0)]) (r1 := []) rfl rfl rfl rfl rfl (K_tStep91 (by omega) c (by omega) m hm6 w2 hI2 hm2 j (by omega) hR.1) ?_
        rintro ⟨_, x9⟩ w7 _ ⟨rfl, w3, hA3, hT, hw3⟩; rcases hT with ⟨j2, hs, hl3, hx9, rfl⟩ | ⟨k2, j2, hs, hk, hl3, hx9, rfl⟩ <;> obtain ⟨rfl, rfl⟩ := Prod.mk.inj hx9 <;> rw [ecd] at hs hw3
        · skip
          show qG none (d + 1) 107 37 [(2, 91), (2, 8), (0, ((c : Nat) : Int))] [(0, 1)] (axW w3 j2) 142 Q9
          refine qG.br (P := (1 : Int) = 0) (pc1 := 40) (pc2 := 42) (st1 := []) rfl (fun h2 => ?_) (fun h2 => ?_)
          · exact absurd h2 (by decide)
          · skip
            refine qG.blk 1 (pc' := 45) (ls' := [(2, 91), (2, 8), (0, wrp (((c : Nat) : Int) + 1))]) (st' := []) (w' := (axW w3 j2)) (n' := 142) rfl ?_
            rw [show wrp (((c : Nat) : Int) + 1) = ((c + 1 : Nat) : Int) from wrp_id (by omega) (by omega)]
            refine qG.blk 1 (pc' := 15) (ls' := [(2, 91), (2, 8), (0, ((c + 1 : Nat) : Int))]) (st' := []) (w' := (axW w3 j2)) (n' := 142) rfl ?_
            exact ih15 _ (by omega) (c + 1) (j2) (w3) rfl (⟨(by have q : ¬ 40 ≤ c := fun z => sStep_40 z hs; omega), hl3, hA2.tr hA3 (by decide), (by rw [hw3 (by rw [hs])]; exact hR.up (by decide) hst (by rw [hs])), (by show j2 = (sStep (cdF w) c (stB (cdF w) c)).2; rw [← hst, hs]), by rw [hS, show 41 - c = (41 - (c + 1)) + 1 by omega]; exact sAll_s (by rw [← ecd]; exact hce) hs⟩)
        · skip
          show qG none (d + 1) 107 37 [(2, 91), (2, 8), (0, ((c : Nat) : Int))] [(0, 0)] (axF w3 k2 j2) 142 Q9
          refine qG.br (P := (0 : Int) = 0) (pc1 := 40) (pc2 := 42) (st1 := []) rfl (fun h3 => ?_) (fun h3 => ?_)
          · skip
            refine qG.blk 1 (pc' := 41) (ls' := [(2, 91), (2, 8), (0, ((c : Nat) : Int))]) (st' := [(0, 0)]) (w' := (axF w3 k2 j2)) (n' := 142) rfl ?_
            refine qG.ret rfl (by first | rfl | exact decide_eq_true (by omega)) ?_
            subst hQ9
            first | exact ⟨rfl, w, hTA, w2, hA2, .inl ⟨c, j, hS.trans (by rw [show 41 - c = (41 - (c + 1)) + 1 by omega]; exact sAll_e (by rw [← ecd]; exact hce)), hc40, rfl, rfl, hR⟩⟩ | exact ⟨rfl, w, hTA, w3, hA2.tr hA3 (by decide), .inr ⟨k2, c, j2, hS.trans (by rw [show 41 - c = (41 - (c + 1)) + 1 by omega]; exact sAll_f (by rw [← ecd]; exact hce) hs hk), hk, rfl, rfl⟩⟩
          · exact absurd h3 (by decide)
  exact L15 _ (0) (0) (w) rfl (⟨by omega, Nat.zero_le _, AW.rf hI, ⟨hp2, fun t ht => absurd ht (Nat.not_lt_zero t)⟩, rfl, rfl⟩)
/-- tokens of the tape of w, as they stand in wT -/
noncomputable def TKB (w : qW) (l l2 : List Int) (n : Nat) (wT : qW) : Prop := ∃ (t : Nat) (E : Nat → Nat), t ≤ n ∧ wT 8 4 = ((t + 1 : Nat) : Int) ∧ CHc w l l2 n wT t E ∧ E t ≤ n ∧ (∀ u, E t ≤ u → u < n → sbl w u) ∧ wT 10 t = -2 ∧ wT 11 t = (n : Int) ∧ wT 8 1 = (n : Int)
theorem CHc.cg {w w0 : qW} (h9 : ∀ k, w0 9 k = w 9 k) (h8 : w0 8 1 = w 8 1) {l l2 : List Int} {n : Nat} {wT : qW} {t : Nat} {E : Nat → Nat} (h : CHc w0 l l2 n wT t E) : CHc w l l2 n wT t E := by
  refine ⟨h.1, fun j hj => ?_⟩
  obtain ⟨a, c1, c2, c3, c4, c5, c6, c7⟩ := h.2 j hj
  have s := sg_cg h9 h8
  refine ⟨a, c1, c2, c3, fun u h1 h2 => ?_, fun z => c5 ?_, TK_cg h9 h8 c6, c7⟩
  · have q := c4 u h1 h2
    unfold sbl at q ⊢
    rw [s] at q; exact q
  · unfold sbl at z ⊢
    rw [s]; exact z
theorem TKA.b {w w0 : qW} (h9 : ∀ k, w0 9 k = w 9 k) (h8 : w0 8 1 = w 8 1) {l l2 : List Int} {n : Nat} {wT : qW} (hn : w 8 1 = (n : Int)) (h : TKA w0 l l2 n wT) : TKB w l l2 n wT := by
  have h81 := h.o (q := 8) (k := 1) (by decide) (by decide) (by decide)
  obtain ⟨hI, t, E, a1, a2, a3, a4, a5, a6, a7, a8, a9⟩ := h
  refine ⟨t, E, a1, a2, a4.cg h9 h8, a5, fun u h1 h2 => ?_, a7, a8, h81.trans (h8.trans hn)⟩
  have q := a6 u h1 h2
  unfold sbl at q ⊢
  rw [sg_cg h9 h8] at q; exact q
noncomputable def LSH (p k : Nat) (w0 : qW) (l l2 : List Int) (n : Nat) (r : qV) (w1 : qW) : Prop := ∃ wT w2, TKA (qup w0 p 2 0) l l2 n wT ∧ AW (SHM_ p) wT w2 ∧ ((∃ c j, sSho (cdF wT) = (0, c, j) ∧ c ≤ 40 ∧ r = (0, (c : Int)) ∧ w1 = qup (qup (axW w2 j) 3 k (p : Int)) 1 2 (w2 3 k) ∧ SRW (cdF wT) p w2 c) ∨ (∃ (k9 : Int) (c j : Nat), sSho (cdF wT) = (k9, c, j) ∧ (k9 = 1 ∨ k9 = 2 ∨ k9 = 3) ∧ r = (0, -1) ∧ w1 = axF w2 k9 j))
/-- the answer and the fault of a text -/
noncomputable def TXF (s : Int × Nat × Nat) (wT : qW) (r : qV) (w1 : qW) : Prop := (∃ c j, s = (0, c, j) ∧ r = (0, (c : Int)) ∧ w1 8 6 = 0 ∧ w1 8 7 = -1) ∨ (∃ (k : Int) (c j : Nat), s = (k, c, j) ∧ (k = 1 ∨ k = 2 ∨ k = 3) ∧ r = (0, -1) ∧ w1 8 6 = k ∧ w1 8 7 = plF wT j)
theorem K_stepC4 {d : Nat} (hd : 0 ≤ d) (w : qW) {x : Int} (hx : w 4 2 = x) : qG none d 110 0 [(2, 4)] [] w 142 (fun (r : qV) (w1 : qW) (n1 : Nat) => r = (0, x) ∧ w1 = w ∧ n1 = 142) := by
  generalize hQ9 : (fun (r : qV) (w1 : qW) (n1 : Nat) => r = (0, x) ∧ w1 = w ∧ n1 = 142) = Q9
  refine qG.blk 2 (pc' := 4) (ls' := [(2, 4)]) (st' := [(0, w 4 2)]) (w' := w) (n' := 142) rfl ?_
  rw [show w 4 2 = x from hx]
  refine qG.ret rfl rfl ?_
  subst hQ9
  exact ⟨rfl, rfl, rfl⟩
theorem K_learnSh4 {d : Nat} (hd : 10 ≤ d) (k : Nat) (hk4 : k < 4) (l l2 : List Int) (hl : qtxb 3 = some l) (hl2 : qtxb 4 = some l2) (hl6 : l.length ≤ 600) (n : Nat) (hn9 : n ≤ 600) (w0 : qW) (hI0 : yInv zgf zga zra zSp w0) (hn : w0 8 1 = (n : Int)) (h12 : w0 1 2 = 4) : qG none d 202 0 [(2, 1), (0, ((k : Nat) : Int)), (9, 0)] [] w0 142 (fun (r : qV) (w1 : qW) (n1 : Nat) => n1 = 142 ∧ LSH 4 k w0 l l2 n r w1) := by
  generalize hQ9 : (fun (r : qV) (w1 : qW) (n1 : Nat) => n1 = 142 ∧ LSH 4 k w0 l l2 n r w1) = Q9
  obtain ⟨d, rfl⟩ : ∃ d9, d = d9 + 1 := ⟨d - 1, by omega⟩
  refine qG.blk 2 (pc' := 4) (ls' := [(2, 1), (0, ((k : Nat) : Int)), (9, 0)]) (st' := [(2, w0 1 2)]) (w' := w0) (n' := 142) rfl ?_
  rw [show w0 1 2 = 4 from h12]
  refine qG.blk 2 (pc' := 8) (ls' := [(2, 1), (0, ((k : Nat) : Int)), (9, 0)]) (st' := [(2, w0 1 3), (2, 4)]) (w' := w0) (n' := 142) rfl ?_
  rw [show w0 1 3 = 8 from zref hI0 rfl rfl]
  refine qG.call (t := 107) (na := 2) (sk := 1) (md := 1) (ls1 := [(2, 4), (2, 8), (9, 0)]) (r1 := []) rfl rfl rfl rfl rfl (K_sLearn4 (by omega) l l2 hl hl2 hl6 n hn9 w0 hI0 hn) ?_
  rintro ⟨_, x9⟩ w7 _ ⟨rfl, wT, hTA, w2, hA2, hT⟩; rcases hT with ⟨c, j, hs, hc, hx9, rfl, hR⟩ | ⟨k9, c, j, hs, hk, hx9, rfl⟩ <;> obtain ⟨rfl, rfl⟩ := Prod.mk.inj hx9 <;> have hI2 := hA2.1
  · skip
    show qG none (d + 1) 202 11 [(2, 1), (0, ((k : Nat) : Int)), (9, 0)] [(0, 1)] (axW w2 j) 142 Q9
    refine qG.br (P := (1 : Int) = 0) (pc1 := 14) (pc2 := 16) (st1 := []) rfl (fun h1 => ?_) (fun h1 => ?_)
    · exact absurd h1 (by decide)
    · skip
      have h12b : w2 1 2 = 4 := (hA2.a (p := 1) (by decide) (by decide) 2).trans ((hTA.o (by decide) (by decide) (by decide)).trans ((qup_nk (by decide)).trans h12))
      have hq9 : axW w2 j 3 k = w2 3 k := axW_o (fun z => by cases z.1)
      refine qG.blk 2 (pc' := 20) (ls' := [(2, 1), (0, ((k : Nat) : Int)), (9, 0)]) (st' := [(2, (axW w2 j) 1 1)]) (w' := (axW w2 j)) (n' := 142) rfl ?_
      rw [show (axW w2 j) 1 1 = 3 from (axW_o (by decide)).trans (zref hI2 rfl rfl)]
      refine qG.blk 1 (pc' := 21) (ls' := [(2, 1), (0, ((k : Nat) : Int)), (9, 0)]) (st' := [(0, ((k : Nat) : Int)), (2, 3)]) (w' := (axW w2 j)) (n' := 142) rfl ?_
      refine qG.ar (P := 0 ≤ ((k : Nat) : Int) ∧ ((k : Nat) : Int) < ((4 : Nat) : Int)) (P2 := 0 < (3 : Int) ∧ (3 : Int) ≤ ((142 : Nat) : Int)) (pc' := 22) (ls' := [(2, 1), (0, ((k : Nat) : Int)), (9, 0)]) (st' := [(2, (axW w2 j) 3 k)]) (w' := (axW w2 j)) (n' := 142) rfl (by omega) (by decide) ?_
      refine qG.blk 3 (pc' := 27) (ls' := [(2, 1), (0, ((k : Nat) : Int)), (2, (axW w2 j) 3 k)]) (st' := [(2, (axW w2 j) 1 1)]) (w' := (axW w2 j)) (n' := 142) rfl ?_
      rw [show (axW w2 j) 1 1 = 3 from (axW_o (by decide)).trans (zref hI2 rfl rfl)]
      refine qG.blk 3 (pc' := 32) (ls' := [(2, 1), (0, ((k : Nat) : Int)), (2, (axW w2 j) 3 k)]) (st' := [(2, (axW w2 j) 1 2), (0, ((k : Nat) : Int)), (2, 3)]) (w' := (axW w2 j)) (n' := 142) rfl ?_
      rw [show (axW w2 j) 1 2 = 4 from (axW_o (by decide)).trans h12b]
      refine qG.ar (P := 0 ≤ ((k : Nat) : Int) ∧ ((k : Nat) : Int) < ((4 : Nat) : Int)) (P2 := (0 < (3 : Int) ∧ (3 : Int) ≤ ((142 : Nat) : Int)) ∧ 0 < 4 ∧ 4 ≤ ((142 : Nat) : Int)) (pc' := 33) (ls' := [(2, 1), (0, ((k : Nat) : Int)), (2, (axW w2 j) 3 k)]) (st' := []) (w' := (qup (axW w2 j) 3 k 4)) (n' := 142) rfl (by omega) (by omega) ?_
      refine qG.blk 5 (pc' := 42) (ls' := [(2, 1), (0, ((k : Nat) : Int)), (2, (axW w2 j) 3 k)]) (st' := [(2, (axW w2 j) 1 1)]) (w' := (qup (qup (axW w2 j) 3 k 4) 1 2 ((axW w2 j) 3 k))) (n' := 142) rfl ?_
      rw [show (axW w2 j) 1 1 = 3 from (axW_o (by decide)).trans (zref hI2 rfl rfl)]
      refine qG.blk 1 (pc' := 43) (ls' := [(2, 1), (0, ((k : Nat) : Int)), (2, (axW w2 j) 3 k)]) (st' := [(0, ((k : Nat) : Int)), (2, 3)]) (w' := (qup (qup (axW w2 j) 3 k 4) 1 2 ((axW w2 j) 3 k))) (n' := 142) rfl ?_
      refine qG.ar (P := 0 ≤ ((k : Nat) : Int) ∧ ((k : Nat) : Int) < ((4 : Nat) : Int)) (P2 := 0 < (3 : Int) ∧ (3 : Int) ≤ ((142 : Nat) : Int)) (pc' := 44) (ls' := [(2, 1), (0, ((k : Nat) : Int)), (2, (axW w2 j) 3 k)]) (st' := [(2, (qup (qup (axW w2 j) 3 k 4) 1 2 ((axW w2 j) 3 k)) 3 k)]) (w' := (qup (qup (axW w2 j) 3 k 4) 1 2 ((axW w2 j) 3 k))) (n' := 142) rfl (by omega) (by decide) ?_
      rw [show (qup (qup (axW w2 j) 3 k 4) 1 2 ((axW w2 j) 3 k)) 3 k = 4 from by simp (disch := decide) only [qup_ne, qup_k]]
      refine qG.call (t := 110) (na := 1) (sk := 1) (md := 1) (ls1 := [(2, 4)]) (r1 := []) rfl rfl rfl rfl rfl (K_stepC4 (Nat.zero_le _) (qup (qup (axW w2 j) 3 k 4) 1 2 ((axW w2 j) 3 k)) (x := ((c : Nat) : Int)) (by rw [qup_ne (by decide), qup_ne (by decide), axW_o (by decide)]; exact hR.1)) ?_
      rintro _ w7 _ ⟨rfl, hw7, rfl⟩
      rw [hw7]
      show qG none (d + 1) 202 47 [(2, 1), (0, ((k : Nat) : Int)), (2, (axW w2 j) 3 k)] [(0, ((c : Nat) : Int))] (qup (qup (axW w2 j) 3 k 4) 1 2 ((axW w2 j) 3 k)) 142 Q9
      refine qG.ret rfl rfl ?_
      subst hQ9
      first | exact ⟨rfl, wT, w2, hTA, hA2, .inl ⟨c, j, hs, hc, rfl, (by rw [← hq9]; rfl), hR⟩⟩ | exact ⟨rfl, wT, w2, hTA, hA2, .inr ⟨k9, c, j, hs, hk, rfl, rfl⟩⟩
  · skip
    show qG none (d + 1) 202 11 [(2, 1), (0, ((k : Nat) : Int)), (9, 0)] [(0, 0)] (axF w2 k9 j) 142 Q9
    refine qG.br (P := (0 : Int) = 0) (pc1 := 14) (pc2 := 16) (st1 := []) rfl (fun h2 => ?_) (fun h2 => ?_)
    · skip
      refine qG.blk 1 (pc' := 15) (ls' := [(2, 1), (0, ((k : Nat) : Int)), (9, 0)]) (st' := [(0, (-1))]) (w' := (axF w2 k9 j)) (n' := 142) rfl ?_
      refine qG.ret rfl rfl ?_
      subst hQ9
      first | exact ⟨rfl, wT, w2, hTA, hA2, .inl ⟨c, j, hs, hc, rfl, (by rw [← hq9]; rfl), hR⟩⟩ | exact ⟨rfl, wT, w2, hTA, hA2, .inr ⟨k9, c, j, hs, hk, rfl, rfl⟩⟩
    · exact absurd h2 (by decide)
theorem K_stepC79 {d : Nat} (hd : 0 ≤ d) (w : qW) {x : Int} (hx : w 79 2 = x) : qG none d 110 0 [(2, 79)] [] w 142 (fun (r : qV) (w1 : qW) (n1 : Nat) => r = (0, x) ∧ w1 = w ∧ n1 = 142) := by
  generalize hQ9 : (fun (r : qV) (w1 : qW) (n1 : Nat) => r = (0, x) ∧ w1 = w ∧ n1 = 142) = Q9
  refine qG.blk 2 (pc' := 4) (ls' := [(2, 79)]) (st' := [(0, w 79 2)]) (w' := w) (n' := 142) rfl ?_
  rw [show w 79 2 = x from hx]
  refine qG.ret rfl rfl ?_
  subst hQ9
  exact ⟨rfl, rfl, rfl⟩
theorem K_learnSh79 {d : Nat} (hd : 10 ≤ d) (k : Nat) (hk4 : k < 4) (l l2 : List Int) (hl : qtxb 3 = some l) (hl2 : qtxb 4 = some l2) (hl6 : l.length ≤ 600) (n : Nat) (hn9 : n ≤ 600) (w0 : qW) (hI0 : yInv zgf zga zra zSp w0) (hn : w0 8 1 = (n : Int)) (h12 : w0 1 2 = 79) : qG none d 202 0 [(2, 1), (0, ((k : Nat) : Int)), (9, 0)] [] w0 142 (fun (r : qV) (w1 : qW) (n1 : Nat) => n1 = 142 ∧ LSH 79 k w0 l l2 n r w1) := by
  generalize hQ9 : (fun (r : qV) (w1 : qW) (n1 : Nat) => n1 = 142 ∧ LSH 79 k w0 l l2 n r w1) = Q9
  obtain ⟨d, rfl⟩ : ∃ d9, d = d9 + 1 := ⟨d - 1, by omega⟩
  refine qG.blk 2 (pc' := 4) (ls' := [(2, 1), (0, ((k : Nat) : Int)), (9, 0)]) (st' := [(2, w0 1 2)]) (w' := w0) (n' := 142) rfl ?_
  rw [show w0 1 2 = 79 from h12]
  refine qG.blk 2 (pc' := 8) (ls' := [(2, 1), (0, ((k : Nat) : Int)), (9, 0)]) (st' := [(2, w0 1 3), (2, 79)]) (w' := w0) (n' := 142) rfl ?_
  rw [show w0 1 3 = 8 from zref hI0 rfl rfl]
  refine qG.call (t := 107) (na := 2) (sk := 1) (md := 1) (ls1 := [(2, 79), (2, 8), (9, 0)]) (r1 := []) rfl rfl rfl rfl rfl (K_sLearn79 (by omega) l l2 hl hl2 hl6 n hn9 w0 hI0 hn) ?_
  rintro ⟨_, x9⟩ w7 _ ⟨rfl, wT, hTA, w2, hA2, hT⟩; rcases hT with ⟨c, j, hs, hc, hx9, rfl, hR⟩ | ⟨k9, c, j, hs, hk, hx9, rfl⟩ <;> obtain ⟨rfl, rfl⟩ := Prod.mk.inj hx9 <;> have hI2 := hA2.1
  · skip
    show qG none (d + 1) 202 11 [(2, 1), (0, ((k : Nat) : Int)), (9, 0)] [(0, 1)] (axW w2 j) 142 Q9
    refine qG.br (P := (1 : Int) = 0) (pc1 := 14) (pc2 := 16) (st1 := []) rfl (fun h1 => ?_) (fun h1 => ?_)
    · exact absurd h1 (by decide)
    · skip
      have h12b : w2 1 2 = 79 := (hA2.a (p := 1) (by decide) (by decide) 2).trans ((hTA.o (by decide) (by decide) (by decide)).trans ((qup_nk (by decide)).trans h12))
      have hq9 : axW w2 j 3 k = w2 3 k := axW_o (fun z => by cases z.1)
      refine qG.blk 2 (pc' := 20) (ls' := [(2, 1), (0, ((k : Nat) : Int)), (9, 0)]) (st' := [(2, (axW w2 j) 1 1)]) (w' := (axW w2 j)) (n' := 142) rfl ?_
      rw [show (axW w2 j) 1 1 = 3 from (axW_o (by decide)).trans (zref hI2 rfl rfl)]
      refine qG.blk 1 (pc' := 21) (ls' := [(2, 1), (0, ((k : Nat) : Int)), (9, 0)]) (st' := [(0, ((k : Nat) : Int)), (2, 3)]) (w' := (axW w2 j)) (n' := 142) rfl ?_
      refine qG.ar (P := 0 ≤ ((k : Nat) : Int) ∧ ((k : Nat) : Int) < ((4 : Nat) : Int)) (P2 := 0 < (3 : Int) ∧ (3 : Int) ≤ ((142 : Nat) : Int)) (pc' := 22) (ls' := [(2, 1), (0, ((k : Nat) : Int)), (9, 0)]) (st' := [(2, (axW w2 j) 3 k)]) (w' := (axW w2 j)) (n' := 142) rfl (by omega) (by decide) ?_
      refine qG.blk 3 (pc' := 27) (ls' := [(2, 1), (0, ((k : Nat) : Int)), (2, (axW w2 j) 3 k)]) (st' := [(2, (axW w2 j) 1 1)]) (w' := (axW w2 j)) (n' := 142) rfl ?_
      rw [show (axW w2 j) 1 1 = 3 from (axW_o (by decide)).trans (zref hI2 rfl rfl)]
      refine qG.blk 3 (pc' := 32) (ls' := [(2, 1), (0, ((k : Nat) : Int)), (2, (axW w2 j) 3 k)]) (st' := [(2, (axW w2 j) 1 2), (0, ((k : Nat) : Int)), (2, 3)]) (w' := (axW w2 j)) (n' := 142) rfl ?_
      rw [show (axW w2 j) 1 2 = 79 from (axW_o (by decide)).trans h12b]
      refine qG.ar (P := 0 ≤ ((k : Nat) : Int) ∧ ((k : Nat) : Int) < ((4 : Nat) : Int)) (P2 := (0 < (3 : Int) ∧ (3 : Int) ≤ ((142 : Nat) : Int)) ∧ 0 < 79 ∧ 79 ≤ ((142 : Nat) : Int)) (pc' := 33) (ls' := [(2, 1), (0, ((k : Nat) : Int)), (2, (axW w2 j) 3 k)]) (st' := []) (w' := (qup (axW w2 j) 3 k 79)) (n' := 142) rfl (by omega) (by omega) ?_
      refine qG.blk 5 (pc' := 42) (ls' := [(2, 1), (0, ((k : Nat) : Int)), (2, (axW w2 j) 3 k)]) (st' := [(2, (axW w2 j) 1 1)]) (w' := (qup (qup (axW w2 j) 3 k 79) 1 2 ((axW w2 j) 3 k))) (n' := 142) rfl ?_
      rw [show (axW w2 j) 1 1 = 3 from (axW_o (by decide)).trans (zref hI2 rfl rfl)]
      refine qG.blk 1 (pc' := 43) (ls' := [(2, 1), (0, ((k : Nat) : Int)), (2, (axW w2 j) 3 k)]) (st' := [(0, ((k : Nat) : Int)), (2, 3)]) (w' := (qup (qup (axW w2 j) 3 k 79) 1 2 ((axW w2 j) 3 k))) (n' := 142) rfl ?_
      refine qG.ar (P := 0 ≤ ((k : Nat) : Int) ∧ ((k : Nat) : Int) < ((4 : Nat) : Int)) (P2 := 0 < (3 : Int) ∧ (3 : Int) ≤ ((142 : Nat) : Int)) (pc' := 44) (ls' := [(2, 1), (0, ((k : Nat) : Int)), (2, (axW w2 j) 3 k)]) (st' := [(2, (qup (qup (axW w2 j) 3 k 79) 1 2 ((axW w2 j) 3 k)) 3 k)]) (w' := (qup (qup (axW w2 j) 3 k 79) 1 2 ((axW w2 j) 3 k))) (n' := 142) rfl (by omega) (by decide) ?_
      rw [show (qup (qup (axW w2 j) 3 k 79) 1 2 ((axW w2 j) 3 k)) 3 k = 79 from by simp (disch := decide) only [qup_ne, qup_k]]
      refine qG.call (t := 110) (na := 1) (sk := 1) (md := 1) (ls1 := [(2, 79)]) (r1 := []) rfl rfl rfl rfl rfl (K_stepC79 (Nat.zero_le _) (qup (qup (axW w2 j) 3 k 79) 1 2 ((axW w2 j) 3 k)) (x := ((c : Nat) : Int)) (by rw [qup_ne (by decide), qup_ne (by decide), axW_o (by decide)]; exact hR.1)) ?_
      rintro _ w7 _ ⟨rfl, hw7, rfl⟩
      rw [hw7]
      show qG none (d + 1) 202 47 [(2, 1), (0, ((k : Nat) : Int)), (2, (axW w2 j) 3 k)] [(0, ((c : Nat) : Int))] (qup (qup (axW w2 j) 3 k 79) 1 2 ((axW w2 j) 3 k)) 142 Q9
      refine qG.ret rfl rfl ?_
      subst hQ9
      first | exact ⟨rfl, wT, w2, hTA, hA2, .inl ⟨c, j, hs, hc, rfl, (by rw [← hq9]; rfl), hR⟩⟩ | exact ⟨rfl, wT, w2, hTA, hA2, .inr ⟨k9, c, j, hs, hk, rfl, rfl⟩⟩
  · skip
    show qG none (d + 1) 202 11 [(2, 1), (0, ((k : Nat) : Int)), (9, 0)] [(0, 0)] (axF w2 k9 j) 142 Q9
    refine qG.br (P := (0 : Int) = 0) (pc1 := 14) (pc2 := 16) (st1 := []) rfl (fun h2 => ?_) (fun h2 => ?_)
    · skip
      refine qG.blk 1 (pc' := 15) (ls' := [(2, 1), (0, ((k : Nat) : Int)), (9, 0)]) (st' := [(0, (-1))]) (w' := (axF w2 k9 j)) (n' := 142) rfl ?_
      refine qG.ret rfl rfl ?_
      subst hQ9
      first | exact ⟨rfl, wT, w2, hTA, hA2, .inl ⟨c, j, hs, hc, rfl, (by rw [← hq9]; rfl), hR⟩⟩ | exact ⟨rfl, wT, w2, hTA, hA2, .inr ⟨k9, c, j, hs, hk, rfl, rfl⟩⟩
    · exact absurd h2 (by decide)
theorem K_stepC83 {d : Nat} (hd : 0 ≤ d) (w : qW) {x : Int} (hx : w 83 2 = x) : qG none d 110 0 [(2, 83)] [] w 142 (fun (r : qV) (w1 : qW) (n1 : Nat) => r = (0, x) ∧ w1 = w ∧ n1 = 142) := by
  generalize hQ9 : (fun (r : qV) (w1 : qW) (n1 : Nat) => r = (0, x) ∧ w1 = w ∧ n1 = 142) = Q9
  refine qG.blk 2 (pc' := 4) (ls' := [(2, 83)]) (st' := [(0, w 83 2)]) (w' := w) (n' := 142) rfl ?_
  rw [show w 83 2 = x from hx]
  refine qG.ret rfl rfl ?_
  subst hQ9
  exact ⟨rfl, rfl, rfl⟩
theorem K_learnSh83 {d : Nat} (hd : 10 ≤ d) (k : Nat) (hk4 : k < 4) (l l2 : List Int) (hl : qtxb 3 = some l) (hl2 : qtxb 4 = some l2) (hl6 : l.length ≤ 600) (n : Nat) (hn9 : n ≤ 600) (w0 : qW) (hI0 : yInv zgf zga zra zSp w0) (hn : w0 8 1 = (n : Int)) (h12 : w0 1 2 = 83) : qG none d 202 0 [(2, 1), (0, ((k : Nat) : Int)), (9, 0)] [] w0 142 (fun (r : qV) (w1 : qW) (n1 : Nat) => n1 = 142 ∧ LSH 83 k w0 l l2 n r w1) := by
  generalize hQ9 : (fun (r : qV) (w1 : qW) (n1 : Nat) => n1 = 142 ∧ LSH 83 k w0 l l2 n r w1) = Q9
  obtain ⟨d, rfl⟩ : ∃ d9, d = d9 + 1 := ⟨d - 1, by omega⟩
  refine qG.blk 2 (pc' := 4) (ls' := [(2, 1), (0, ((k : Nat) : Int)), (9, 0)]) (st' := [(2, w0 1 2)]) (w' := w0) (n' := 142) rfl ?_
  rw [show w0 1 2 = 83 from h12]
  refine qG.blk 2 (pc' := 8) (ls' := [(2, 1), (0, ((k : Nat) : Int)), (9, 0)]) (st' := [(2, w0 1 3), (2, 83)]) (w' := w0) (n' := 142) rfl ?_
  rw [show w0 1 3 = 8 from zref hI0 rfl rfl]
  refine qG.call (t := 107) (na := 2) (sk := 1) (md := 1) (ls1 := [(2, 83), (2, 8), (9, 0)]) (r1 := []) rfl rfl rfl rfl rfl (K_sLearn83 (by omega) l l2 hl hl2 hl6 n hn9 w0 hI0 hn) ?_
  rintro ⟨_, x9⟩ w7 _ ⟨rfl, wT, hTA, w2, hA2, hT⟩; rcases hT with ⟨c, j, hs, hc, hx9, rfl, hR⟩ | ⟨k9, c, j, hs, hk, hx9, rfl⟩ <;> obtain ⟨rfl, rfl⟩ := Prod.mk.inj hx9 <;> have hI2 := hA2.1
  · skip
    show qG none (d + 1) 202 11 [(2, 1), (0, ((k : Nat) : Int)), (9, 0)] [(0, 1)] (axW w2 j) 142 Q9
    refine qG.br (P := (1 : Int) = 0) (pc1 := 14) (pc2 := 16) (st1 := []) rfl (fun h1 => ?_) (fun h1 => ?_)
    · exact absurd h1 (by decide)
    · skip
      have h12b : w2 1 2 = 83 := (hA2.a (p := 1) (by decide) (by decide) 2).trans ((hTA.o (by decide) (by decide) (by decide)).trans ((qup_nk (by decide)).trans h12))
      have hq9 : axW w2 j 3 k = w2 3 k := axW_o (fun z => by cases z.1)
      refine qG.blk 2 (pc' := 20) (ls' := [(2, 1), (0, ((k : Nat) : Int)), (9, 0)]) (st' := [(2, (axW w2 j) 1 1)]) (w' := (axW w2 j)) (n' := 142) rfl ?_
      rw [show (axW w2 j) 1 1 = 3 from (axW_o (by decide)).trans (zref hI2 rfl rfl)]
      refine qG.blk 1 (pc' := 21) (ls' := [(2, 1), (0, ((k : Nat) : Int)), (9, 0)]) (st' := [(0, ((k : Nat) : Int)), (2, 3)]) (w' := (axW w2 j)) (n' := 142) rfl ?_
      refine qG.ar (P := 0 ≤ ((k : Nat) : Int) ∧ ((k : Nat) : Int) < ((4 : Nat) : Int)) (P2 := 0 < (3 : Int) ∧ (3 : Int) ≤ ((142 : Nat) : Int)) (pc' := 22) (ls' := [(2, 1), (0, ((k : Nat) : Int)), (9, 0)]) (st' := [(2, (axW w2 j) 3 k)]) (w' := (axW w2 j)) (n' := 142) rfl (by omega) (by decide) ?_
      refine qG.blk 3 (pc' := 27) (ls' := [(2, 1), (0, ((k : Nat) : Int)), (2, (axW w2 j) 3 k)]) (st' := [(2, (axW w2 j) 1 1)]) (w' := (axW w2 j)) (n' := 142) rfl ?_
      rw [show (axW w2 j) 1 1 = 3 from (axW_o (by decide)).trans (zref hI2 rfl rfl)]
      refine qG.blk 3 (pc' := 32) (ls' := [(2, 1), (0, ((k : Nat) : Int)), (2, (axW w2 j) 3 k)]) (st' := [(2, (axW w2 j) 1 2), (0, ((k : Nat) : Int)), (2, 3)]) (w' := (axW w2 j)) (n' := 142) rfl ?_
      rw [show (axW w2 j) 1 2 = 83 from (axW_o (by decide)).trans h12b]
      refine qG.ar (P := 0 ≤ ((k : Nat) : Int) ∧ ((k : Nat) : Int) < ((4 : Nat) : Int)) (P2 := (0 < (3 : Int) ∧ (3 : Int) ≤ ((142 : Nat) : Int)) ∧ 0 < 83 ∧ 83 ≤ ((142 : Nat) : Int)) (pc' := 33) (ls' := [(2, 1), (0, ((k : Nat) : Int)), (2, (axW w2 j) 3 k)]) (st' := []) (w' := (qup (axW w2 j) 3 k 83)) (n' := 142) rfl (by omega) (by omega) ?_
      refine qG.blk 5 (pc' := 42) (ls' := [(2, 1), (0, ((k : Nat) : Int)), (2, (axW w2 j) 3 k)]) (st' := [(2, (axW w2 j) 1 1)]) (w' := (qup (qup (axW w2 j) 3 k 83) 1 2 ((axW w2 j) 3 k))) (n' := 142) rfl ?_
      rw [show (axW w2 j) 1 1 = 3 from (axW_o (by decide)).trans (zref hI2 rfl rfl)]
      refine qG.blk 1 (pc' := 43) (ls' := [(2, 1), (0, ((k : Nat) : Int)), (2, (axW w2 j) 3 k)]) (st' := [(0, ((k : Nat) : Int)), (2, 3)]) (w' := (qup (qup (axW w2 j) 3 k 83) 1 2 ((axW w2 j) 3 k))) (n' := 142) rfl ?_
      refine qG.ar (P := 0 ≤ ((k : Nat) : Int) ∧ ((k : Nat) : Int) < ((4 : Nat) : Int)) (P2 := 0 < (3 : Int) ∧ (3 : Int) ≤ ((142 : Nat) : Int)) (pc' := 44) (ls' := [(2, 1), (0, ((k : Nat) : Int)), (2, (axW w2 j) 3 k)]) (st' := [(2, (qup (qup (axW w2 j) 3 k 83) 1 2 ((axW w2 j) 3 k)) 3 k)]) (w' := (qup (qup (axW w2 j) 3 k 83) 1 2 ((axW w2 j) 3 k))) (n' := 142) rfl (by omega) (by decide) ?_
      rw [show (qup (qup (axW w2 j) 3 k 83) 1 2 ((axW w2 j) 3 k)) 3 k = 83 from by simp (disch := decide) only [qup_ne, qup_k]]
      refine qG.call (t := 110) (na := 1) (sk := 1) (md := 1) (ls1 := [(2, 83)]) (r1 := []) rfl rfl rfl rfl rfl (K_stepC83 (Nat.zero_le _) (qup (qup (axW w2 j) 3 k 83) 1 2 ((axW w2 j) 3 k)) (x := ((c : Nat) : Int)) (by rw [qup_ne (by decide), qup_ne (by decide), axW_o (by decide)]; exact hR.1)) ?_
      rintro _ w7 _ ⟨rfl, hw7, rfl⟩
      rw [hw7]
      show qG none (d + 1) 202 47 [(2, 1), (0, ((k : Nat) : Int)), (2, (axW w2 j) 3 k)] [(0, ((c : Nat) : Int))] (qup (qup (axW w2 j) 3 k 83) 1 2 ((axW w2 j) 3 k)) 142 Q9
      refine qG.ret rfl rfl ?_
      subst hQ9
      first | exact ⟨rfl, wT, w2, hTA, hA2, .inl ⟨c, j, hs, hc, rfl, (by rw [← hq9]; rfl), hR⟩⟩ | exact ⟨rfl, wT, w2, hTA, hA2, .inr ⟨k9, c, j, hs, hk, rfl, rfl⟩⟩
  · skip
    show qG none (d + 1) 202 11 [(2, 1), (0, ((k : Nat) : Int)), (9, 0)] [(0, 0)] (axF w2 k9 j) 142 Q9
    refine qG.br (P := (0 : Int) = 0) (pc1 := 14) (pc2 := 16) (st1 := []) rfl (fun h2 => ?_) (fun h2 => ?_)
    · skip
      refine qG.blk 1 (pc' := 15) (ls' := [(2, 1), (0, ((k : Nat) : Int)), (9, 0)]) (st' := [(0, (-1))]) (w' := (axF w2 k9 j)) (n' := 142) rfl ?_
      refine qG.ret rfl rfl ?_
      subst hQ9
      first | exact ⟨rfl, wT, w2, hTA, hA2, .inl ⟨c, j, hs, hc, rfl, (by rw [← hq9]; rfl), hR⟩⟩ | exact ⟨rfl, wT, w2, hTA, hA2, .inr ⟨k9, c, j, hs, hk, rfl, rfl⟩⟩
    · exact absurd h2 (by decide)
theorem K_stepC87 {d : Nat} (hd : 0 ≤ d) (w : qW) {x : Int} (hx : w 87 2 = x) : qG none d 110 0 [(2, 87)] [] w 142 (fun (r : qV) (w1 : qW) (n1 : Nat) => r = (0, x) ∧ w1 = w ∧ n1 = 142) := by
  generalize hQ9 : (fun (r : qV) (w1 : qW) (n1 : Nat) => r = (0, x) ∧ w1 = w ∧ n1 = 142) = Q9
  refine qG.blk 2 (pc' := 4) (ls' := [(2, 87)]) (st' := [(0, w 87 2)]) (w' := w) (n' := 142) rfl ?_
  rw [show w 87 2 = x from hx]
  refine qG.ret rfl rfl ?_
  subst hQ9
  exact ⟨rfl, rfl, rfl⟩
theorem K_learnSh87 {d : Nat} (hd : 10 ≤ d) (k : Nat) (hk4 : k < 4) (l l2 : List Int) (hl : qtxb 3 = some l) (hl2 : qtxb 4 = some l2) (hl6 : l.length ≤ 600) (n : Nat) (hn9 : n ≤ 600) (w0 : qW) (hI0 : yInv zgf zga zra zSp w0) (hn : w0 8 1 = (n : Int)) (h12 : w0 1 2 = 87) : qG none d 202 0 [(2, 1), (0, ((k : Nat) : Int)), (9, 0)] [] w0 142 (fun (r : qV) (w1 : qW) (n1 : Nat) => n1 = 142 ∧ LSH 87 k w0 l l2 n r w1) := by
  generalize hQ9 : (fun (r : qV) (w1 : qW) (n1 : Nat) => n1 = 142 ∧ LSH 87 k w0 l l2 n r w1) = Q9
  obtain ⟨d, rfl⟩ : ∃ d9, d = d9 + 1 := ⟨d - 1, by omega⟩
  refine qG.blk 2 (pc' := 4) (ls' := [(2, 1), (0, ((k : Nat) : Int)), (9, 0)]) (st' := [(2, w0 1 2)]) (w' := w0) (n' := 142) rfl ?_
  rw [show w0 1 2 = 87 from h12]
  refine qG.blk 2 (pc' := 8) (ls' := [(2, 1), (0, ((k : Nat) : Int)), (9, 0)]) (st' := [(2, w0 1 3), (2, 87)]) (w' := w0) (n' := 142) rfl ?_
  rw [show w0 1 3 = 8 from zref hI0 rfl rfl]
  refine qG.call (t := 107) (na := 2) (sk := 1) (md := 1) (ls1 := [(2, 87), (2, 8), (9, 0)]) (r1 := []) rfl rfl rfl rfl rfl (K_sLearn87 (by omega) l l2 hl hl2 hl6 n hn9 w0 hI0 hn) ?_
  rintro ⟨_, x9⟩ w7 _ ⟨rfl, wT, hTA, w2, hA2, hT⟩; rcases hT with ⟨c, j, hs, hc, hx9, rfl, hR⟩ | ⟨k9, c, j, hs, hk, hx9, rfl⟩ <;> obtain ⟨rfl, rfl⟩ := Prod.mk.inj hx9 <;> have hI2 := hA2.1
  · skip
    show qG none (d + 1) 202 11 [(2, 1), (0, ((k : Nat) : Int)), (9, 0)] [(0, 1)] (axW w2 j) 142 Q9
    refine qG.br (P := (1 : Int) = 0) (pc1 := 14) (pc2 := 16) (st1 := []) rfl (fun h1 => ?_) (fun h1 => ?_)
    · exact absurd h1 (by decide)
    · skip
      have h12b : w2 1 2 = 87 := (hA2.a (p := 1) (by decide) (by decide) 2).trans ((hTA.o (by decide) (by decide) (by decide)).trans ((qup_nk (by decide)).trans h12))
      have hq9 : axW w2 j 3 k = w2 3 k := axW_o (fun z => by cases z.1)
      refine qG.blk 2 (pc' := 20) (ls' := [(2, 1), (0, ((k : Nat) : Int)), (9, 0)]) (st' := [(2, (axW w2 j) 1 1)]) (w' := (axW w2 j)) (n' := 142) rfl ?_
      rw [show (axW w2 j) 1 1 = 3 from (axW_o (by decide)).trans (zref hI2 rfl rfl)]
      refine qG.blk 1 (pc' := 21) (ls' := [(2, 1), (0, ((k : Nat) : Int)), (9, 0)]) (st' := [(0, ((k : Nat) : Int)), (2, 3)]) (w' := (axW w2 j)) (n' := 142) rfl ?_
      refine qG.ar (P := 0 ≤ ((k : Nat) : Int) ∧ ((k : Nat) : Int) < ((4 : Nat) : Int)) (P2 := 0 < (3 : Int) ∧ (3 : Int) ≤ ((142 : Nat) : Int)) (pc' := 22) (ls' := [(2, 1), (0, ((k : Nat) : Int)), (9, 0)]) (st' := [(2, (axW w2 j) 3 k)]) (w' := (axW w2 j)) (n' := 142) rfl (by omega) (by decide) ?_
      refine qG.blk 3 (pc' := 27) (ls' := [(2, 1), (0, ((k : Nat) : Int)), (2, (axW w2 j) 3 k)]) (st' := [(2, (axW w2 j) 1 1)]) (w' := (axW w2 j)) (n' := 142) rfl ?_
      rw [show (axW w2 j) 1 1 = 3 from (axW_o (by decide)).trans (zref hI2 rfl rfl)]
      refine qG.blk 3 (pc' := 32) (ls' := [(2, 1), (0, ((k : Nat) : Int)), (2, (axW w2 j) 3 k)]) (st' := [(2, (axW w2 j) 1 2), (0, ((k : Nat) : Int)), (2, 3)]) (w' := (axW w2 j)) (n' := 142) rfl ?_
      rw [show (axW w2 j) 1 2 = 87 from (axW_o (by decide)).trans h12b]
      refine qG.ar (P := 0 ≤ ((k : Nat) : Int) ∧ ((k : Nat) : Int) < ((4 : Nat) : Int)) (P2 := (0 < (3 : Int) ∧ (3 : Int) ≤ ((142 : Nat) : Int)) ∧ 0 < 87 ∧ 87 ≤ ((142 : Nat) : Int)) (pc' := 33) (ls' := [(2, 1), (0, ((k : Nat) : Int)), (2, (axW w2 j) 3 k)]) (st' := []) (w' := (qup (axW w2 j) 3 k 87)) (n' := 142) rfl (by omega) (by omega) ?_
      refine qG.blk 5 (pc' := 42) (ls' := [(2, 1), (0, ((k : Nat) : Int)), (2, (axW w2 j) 3 k)]) (st' := [(2, (axW w2 j) 1 1)]) (w' := (qup (qup (axW w2 j) 3 k 87) 1 2 ((axW w2 j) 3 k))) (n' := 142) rfl ?_
      rw [show (axW w2 j) 1 1 = 3 from (axW_o (by decide)).trans (zref hI2 rfl rfl)]
      refine qG.blk 1 (pc' := 43) (ls' := [(2, 1), (0, ((k : Nat) : Int)), (2, (axW w2 j) 3 k)]) (st' := [(0, ((k : Nat) : Int)), (2, 3)]) (w' := (qup (qup (axW w2 j) 3 k 87) 1 2 ((axW w2 j) 3 k))) (n' := 142) rfl ?_
      refine qG.ar (P := 0 ≤ ((k : Nat) : Int) ∧ ((k : Nat) : Int) < ((4 : Nat) : Int)) (P2 := 0 < (3 : Int) ∧ (3 : Int) ≤ ((142 : Nat) : Int)) (pc' := 44) (ls' := [(2, 1), (0, ((k : Nat) : Int)), (2, (axW w2 j) 3 k)]) (st' := [(2, (qup (qup (axW w2 j) 3 k 87) 1 2 ((axW w2 j) 3 k)) 3 k)]) (w' := (qup (qup (axW w2 j) 3 k 87) 1 2 ((axW w2 j) 3 k))) (n' := 142) rfl (by omega) (by decide) ?_
      rw [show (qup (qup (axW w2 j) 3 k 87) 1 2 ((axW w2 j) 3 k)) 3 k = 87 from by simp (disch := decide) only [qup_ne, qup_k]]
      refine qG.call (t := 110) (na := 1) (sk := 1) (md := 1) (ls1 := [(2, 87)]) (r1 := []) rfl rfl rfl rfl rfl (K_stepC87 (Nat.zero_le _) (qup (qup (axW w2 j) 3 k 87) 1 2 ((axW w2 j) 3 k)) (x := ((c : Nat) : Int)) (by rw [qup_ne (by decide), qup_ne (by decide), axW_o (by decide)]; exact hR.1)) ?_
      rintro _ w7 _ ⟨rfl, hw7, rfl⟩
      rw [hw7]
      show qG none (d + 1) 202 47 [(2, 1), (0, ((k : Nat) : Int)), (2, (axW w2 j) 3 k)] [(0, ((c : Nat) : Int))] (qup (qup (axW w2 j) 3 k 87) 1 2 ((axW w2 j) 3 k)) 142 Q9
      refine qG.ret rfl rfl ?_
      subst hQ9
      first | exact ⟨rfl, wT, w2, hTA, hA2, .inl ⟨c, j, hs, hc, rfl, (by rw [← hq9]; rfl), hR⟩⟩ | exact ⟨rfl, wT, w2, hTA, hA2, .inr ⟨k9, c, j, hs, hk, rfl, rfl⟩⟩
  · skip
    show qG none (d + 1) 202 11 [(2, 1), (0, ((k : Nat) : Int)), (9, 0)] [(0, 0)] (axF w2 k9 j) 142 Q9
    refine qG.br (P := (0 : Int) = 0) (pc1 := 14) (pc2 := 16) (st1 := []) rfl (fun h2 => ?_) (fun h2 => ?_)
    · skip
      refine qG.blk 1 (pc' := 15) (ls' := [(2, 1), (0, ((k : Nat) : Int)), (9, 0)]) (st' := [(0, (-1))]) (w' := (axF w2 k9 j)) (n' := 142) rfl ?_
      refine qG.ret rfl rfl ?_
      subst hQ9
      first | exact ⟨rfl, wT, w2, hTA, hA2, .inl ⟨c, j, hs, hc, rfl, (by rw [← hq9]; rfl), hR⟩⟩ | exact ⟨rfl, wT, w2, hTA, hA2, .inr ⟨k9, c, j, hs, hk, rfl, rfl⟩⟩
    · exact absurd h2 (by decide)
theorem K_stepC91 {d : Nat} (hd : 0 ≤ d) (w : qW) {x : Int} (hx : w 91 2 = x) : qG none d 110 0 [(2, 91)] [] w 142 (fun (r : qV) (w1 : qW) (n1 : Nat) => r = (0, x) ∧ w1 = w ∧ n1 = 142) := by
  generalize hQ9 : (fun (r : qV) (w1 : qW) (n1 : Nat) => r = (0, x) ∧ w1 = w ∧ n1 = 142) = Q9
  refine qG.blk 2 (pc' := 4) (ls' := [(2, 91)]) (st' := [(0, w 91 2)]) (w' := w) (n' := 142) rfl ?_
  rw [show w 91 2 = x from hx]
  refine qG.ret rfl rfl ?_
  subst hQ9
  exact ⟨rfl, rfl, rfl⟩
theorem K_learnSh91 {d : Nat} (hd : 10 ≤ d) (k : Nat) (hk4 : k < 4) (l l2 : List Int) (hl : qtxb 3 = some l) (hl2 : qtxb 4 = some l2) (hl6 : l.length ≤ 600) (n : Nat) (hn9 : n ≤ 600) (w0 : qW) (hI0 : yInv zgf zga zra zSp w0) (hn : w0 8 1 = (n : Int)) (h12 : w0 1 2 = 91) : qG none d 202 0 [(2, 1), (0, ((k : Nat) : Int)), (9, 0)] [] w0 142 (fun (r : qV) (w1 : qW) (n1 : Nat) => n1 = 142 ∧ LSH 91 k w0 l l2 n r w1) := by
  generalize hQ9 : (fun (r : qV) (w1 : qW) (n1 : Nat) => n1 = 142 ∧ LSH 91 k w0 l l2 n r w1) = Q9
  obtain ⟨d, rfl⟩ : ∃ d9, d = d9 + 1 := ⟨d - 1, by omega⟩
  refine qG.blk 2 (pc' := 4) (ls' := [(2, 1), (0, ((k : Nat) : Int)), (9, 0)]) (st' := [(2, w0 1 2)]) (w' := w0) (n' := 142) rfl ?_
  rw [show w0 1 2 = 91 from h12]
  refine qG.blk 2 (pc' := 8) (ls' := [(2, 1), (0, ((k : Nat) : Int)), (9, 0)]) (st' := [(2, w0 1 3), (2, 91)]) (w' := w0) (n' := 142) rfl ?_
  rw [show w0 1 3 = 8 from zref hI0 rfl rfl]
  refine qG.call (t := 107) (na := 2) (sk := 1) (md := 1) (ls1 := [(2, 91), (2, 8), (9, 0)]) (r1 := []) rfl rfl rfl rfl rfl (K_sLearn91 (by omega) l l2 hl hl2 hl6 n hn9 w0 hI0 hn) ?_
  rintro ⟨_, x9⟩ w7 _ ⟨rfl, wT, hTA, w2, hA2, hT⟩; rcases hT with ⟨c, j, hs, hc, hx9, rfl, hR⟩ | ⟨k9, c, j, hs, hk, hx9, rfl⟩ <;> obtain ⟨rfl, rfl⟩ := Prod.mk.inj hx9 <;> have hI2 := hA2.1
  · skip
    show qG none (d + 1) 202 11 [(2, 1), (0, ((k : Nat) : Int)), (9, 0)] [(0, 1)] (axW w2 j) 142 Q9
    refine qG.br (P := (1 : Int) = 0) (pc1 := 14) (pc2 := 16) (st1 := []) rfl (fun h1 => ?_) (fun h1 => ?_)
    · exact absurd h1 (by decide)
    · skip
      have h12b : w2 1 2 = 91 := (hA2.a (p := 1) (by decide) (by decide) 2).trans ((hTA.o (by decide) (by decide) (by decide)).trans ((qup_nk (by decide)).trans h12))
      have hq9 : axW w2 j 3 k = w2 3 k := axW_o (fun z => by cases z.1)
      refine qG.blk 2 (pc' := 20) (ls' := [(2, 1), (0, ((k : Nat) : Int)), (9, 0)]) (st' := [(2, (axW w2 j) 1 1)]) (w' := (axW w2 j)) (n' := 142) rfl ?_
      rw [show (axW w2 j) 1 1 = 3 from (axW_o (by decide)).trans (zref hI2 rfl rfl)]
      refine qG.blk 1 (pc' := 21) (ls' := [(2, 1), (0, ((k : Nat) : Int)), (9, 0)]) (st' := [(0, ((k : Nat) : Int)), (2, 3)]) (w' := (axW w2 j)) (n' := 142) rfl ?_
      refine qG.ar (P := 0 ≤ ((k : Nat) : Int) ∧ ((k : Nat) : Int) < ((4 : Nat) : Int)) (P2 := 0 < (3 : Int) ∧ (3 : Int) ≤ ((142 : Nat) : Int)) (pc' := 22) (ls' := [(2, 1), (0, ((k : Nat) : Int)), (9, 0)]) (st' := [(2, (axW w2 j) 3 k)]) (w' := (axW w2 j)) (n' := 142) rfl (by omega) (by decide) ?_
      refine qG.blk 3 (pc' := 27) (ls' := [(2, 1), (0, ((k : Nat) : Int)), (2, (axW w2 j) 3 k)]) (st' := [(2, (axW w2 j) 1 1)]) (w' := (axW w2 j)) (n' := 142) rfl ?_
      rw [show (axW w2 j) 1 1 = 3 from (axW_o (by decide)).trans (zref hI2 rfl rfl)]
      refine qG.blk 3 (pc' := 32) (ls' := [(2, 1), (0, ((k : Nat) : Int)), (2, (axW w2 j) 3 k)]) (st' := [(2, (axW w2 j) 1 2), (0, ((k : Nat) : Int)), (2, 3)]) (w' := (axW w2 j)) (n' := 142) rfl ?_
      rw [show (axW w2 j) 1 2 = 91 from (axW_o (by decide)).trans h12b]
      refine qG.ar (P := 0 ≤ ((k : Nat) : Int) ∧ ((k : Nat) : Int) < ((4 : Nat) : Int)) (P2 := (0 < (3 : Int) ∧ (3 : Int) ≤ ((142 : Nat) : Int)) ∧ 0 < 91 ∧ 91 ≤ ((142 : Nat) : Int)) (pc' := 33) (ls' := [(2, 1), (0, ((k : Nat) : Int)), (2, (axW w2 j) 3 k)]) (st' := []) (w' := (qup (axW w2 j) 3 k 91)) (n' := 142) rfl (by omega) (by omega) ?_
      refine qG.blk 5 (pc' := 42) (ls' := [(2, 1), (0, ((k : Nat) : Int)), (2, (axW w2 j) 3 k)]) (st' := [(2, (axW w2 j) 1 1)]) (w' := (qup (qup (axW w2 j) 3 k 91) 1 2 ((axW w2 j) 3 k))) (n' := 142) rfl ?_
      rw [show (axW w2 j) 1 1 = 3 from (axW_o (by decide)).trans (zref hI2 rfl rfl)]
      refine qG.blk 1 (pc' := 43) (ls' := [(2, 1), (0, ((k : Nat) : Int)), (2, (axW w2 j) 3 k)]) (st' := [(0, ((k : Nat) : Int)), (2, 3)]) (w' := (qup (qup (axW w2 j) 3 k 91) 1 2 ((axW w2 j) 3 k))) (n' := 142) rfl ?_
      refine qG.ar (P := 0 ≤ ((k : Nat) : Int) ∧ ((k : Nat) : Int) < ((4 : Nat) : Int)) (P2 := 0 < (3 : Int) ∧ (3 : Int) ≤ ((142 : Nat) : Int)) (pc' := 44) (ls' := [(2, 1), (0, ((k : Nat) : Int)), (2, (axW w2 j) 3 k)]) (st' := [(2, (qup (qup (axW w2 j) 3 k 91) 1 2 ((axW w2 j) 3 k)) 3 k)]) (w' := (qup (qup (axW w2 j) 3 k 91) 1 2 ((axW w2 j) 3 k))) (n' := 142) rfl (by omega) (by decide) ?_
      rw [show (qup (qup (axW w2 j) 3 k 91) 1 2 ((axW w2 j) 3 k)) 3 k = 91 from by simp (disch := decide) only [qup_ne, qup_k]]
      refine qG.call (t := 110) (na := 1) (sk := 1) (md := 1) (ls1 := [(2, 91)]) (r1 := []) rfl rfl rfl rfl rfl (K_stepC91 (Nat.zero_le _) (qup (qup (axW w2 j) 3 k 91) 1 2 ((axW w2 j) 3 k)) (x := ((c : Nat) : Int)) (by rw [qup_ne (by decide), qup_ne (by decide), axW_o (by decide)]; exact hR.1)) ?_
      rintro _ w7 _ ⟨rfl, hw7, rfl⟩
      rw [hw7]
      show qG none (d + 1) 202 47 [(2, 1), (0, ((k : Nat) : Int)), (2, (axW w2 j) 3 k)] [(0, ((c : Nat) : Int))] (qup (qup (axW w2 j) 3 k 91) 1 2 ((axW w2 j) 3 k)) 142 Q9
      refine qG.ret rfl rfl ?_
      subst hQ9
      first | exact ⟨rfl, wT, w2, hTA, hA2, .inl ⟨c, j, hs, hc, rfl, (by rw [← hq9]; rfl), hR⟩⟩ | exact ⟨rfl, wT, w2, hTA, hA2, .inr ⟨k9, c, j, hs, hk, rfl, rfl⟩⟩
  · skip
    show qG none (d + 1) 202 11 [(2, 1), (0, ((k : Nat) : Int)), (9, 0)] [(0, 0)] (axF w2 k9 j) 142 Q9
    refine qG.br (P := (0 : Int) = 0) (pc1 := 14) (pc2 := 16) (st1 := []) rfl (fun h2 => ?_) (fun h2 => ?_)
    · skip
      refine qG.blk 1 (pc' := 15) (ls' := [(2, 1), (0, ((k : Nat) : Int)), (9, 0)]) (st' := [(0, (-1))]) (w' := (axF w2 k9 j)) (n' := 142) rfl ?_
      refine qG.ret rfl rfl ?_
      subst hQ9
      first | exact ⟨rfl, wT, w2, hTA, hA2, .inl ⟨c, j, hs, hc, rfl, (by rw [← hq9]; rfl), hR⟩⟩ | exact ⟨rfl, wT, w2, hTA, hA2, .inr ⟨k9, c, j, hs, hk, rfl, rfl⟩⟩
    · exact absurd h2 (by decide)
theorem K_X11_isShow {d : Nat} (hd : 0 ≤ d) (c : Int) (w : qW) : qG none d 199 0 [(0, c)] [] w 142 (fun (r : qV) (w1 : qW) (n1 : Nat) => r = (0, isInV c 0 3) ∧ w1 = w ∧ n1 = 142) := by
  generalize hQ9 : (fun (r : qV) (w1 : qW) (n1 : Nat) => r = (0, isInV c 0 3) ∧ w1 = w ∧ n1 = 142) = Q9
  refine qG.blk 1 (pc' := 1) (ls' := [(0, c)]) (st' := [(0, c)]) (w' := w) (n' := 142) rfl ?_
  refine qG.br (P := c < 0) (pc1 := 13) (pc2 := 4) (st1 := []) rfl (fun h1 => ?_) (fun h1 => ?_)
  · skip
    refine qG.blk 1 (pc' := 14) (ls' := [(0, c)]) (st' := [(0, 0)]) (w' := w) (n' := 142) rfl ?_
    refine qG.ret rfl (by first | rfl | exact decide_eq_true (by omega)) ?_
    subst hQ9
    exact ⟨by unfold isInV; split <;> (try split) <;> first | rfl | (exfalso; omega), rfl, rfl⟩
  · skip
    refine qG.blk 2 (pc' := 6) (ls' := [(0, c)]) (st' := [(0, 4), (0, c)]) (w' := w) (n' := 142) rfl ?_
    refine qG.br (P := c < 4) (pc1 := 9) (pc2 := 13) (st1 := []) rfl (fun h2 => ?_) (fun h2 => ?_)
    · skip
      refine qG.blk 2 (pc' := 14) (ls' := [(0, c)]) (st' := [(0, 1)]) (w' := w) (n' := 142) rfl ?_
      refine qG.ret rfl (by first | rfl | exact decide_eq_true (by omega)) ?_
      subst hQ9
      exact ⟨by unfold isInV; split <;> (try split) <;> first | rfl | (exfalso; omega), rfl, rfl⟩
    · skip
      refine qG.blk 1 (pc' := 14) (ls' := [(0, c)]) (st' := [(0, 0)]) (w' := w) (n' := 142) rfl ?_
      refine qG.ret rfl (by first | rfl | exact decide_eq_true (by omega)) ?_
      subst hQ9
      exact ⟨by unfold isInV; split <;> (try split) <;> first | rfl | (exfalso; omega), rfl, rfl⟩
theorem K_forget {d : Nat} (hd : 0 ≤ d) (w : qW) : qG none d 132 0 [(2, 8)] [] w 142 (fun (r : qV) (w1 : qW) (n1 : Nat) => r = (9, 0) ∧ w1 = qup (qup w 8 6 0) 8 7 (-1) ∧ n1 = 142) := by
  generalize hQ9 : (fun (r : qV) (w1 : qW) (n1 : Nat) => r = (9, 0) ∧ w1 = qup (qup w 8 6 0) 8 7 (-1) ∧ n1 = 142) = Q9
  refine qG.blk 6 (pc' := 10) (ls' := [(2, 8)]) (st' := []) (w' := (qup (qup w 8 6 0) 8 7 (-1))) (n' := 142) rfl ?_
  refine qG.retv rfl rfl ?_
  subst hQ9
  exact ⟨rfl, rfl, rfl⟩
theorem K_cut0 {d : Nat} (hd : 0 ≤ d) (w : qW) : qG none d 131 0 [(2, 8), (0, 0)] [] w 142 (fun (r : qV) (w1 : qW) (n1 : Nat) => (∃ x, r = (0, x)) ∧ (w1 = w ∨ w1 = qup w 8 1 0) ∧ n1 = 142) := by
  generalize hQ9 : (fun (r : qV) (w1 : qW) (n1 : Nat) => (∃ x, r = (0, x)) ∧ (w1 = w ∨ w1 = qup w 8 1 0) ∧ n1 = 142) = Q9
  refine qG.blk 1 (pc' := 1) (ls' := [(2, 8), (0, 0)]) (st' := [(0, 0)]) (w' := w) (n' := 142) rfl ?_
  refine qG.br (P := (0 : Int) < 0) (pc1 := 12) (pc2 := 4) (st1 := []) rfl (fun h1 => ?_) (fun h1 => ?_)
  · exact absurd h1 (by decide)
  · skip
    refine qG.blk 3 (pc' := 9) (ls' := [(2, 8), (0, 0)]) (st' := [(0, w 8 1), (0, 0)]) (w' := w) (n' := 142) rfl ?_
    refine qG.br (P := w 8 1 < 0) (pc1 := 12) (pc2 := 14) (st1 := []) rfl (fun h2 => ?_) (fun h2 => ?_)
    · skip
      refine qG.blk 1 (pc' := 13) (ls' := [(2, 8), (0, 0)]) (st' := [(0, 0)]) (w' := w) (n' := 142) rfl ?_
      refine qG.ret rfl (by first | rfl | exact decide_eq_true (by omega)) ?_
      subst hQ9
      first | exact ⟨⟨_, rfl⟩, .inl rfl, rfl⟩ | exact ⟨⟨_, rfl⟩, .inr rfl, rfl⟩
    · skip
      refine qG.blk 4 (pc' := 20) (ls' := [(2, 8), (0, 0)]) (st' := [(0, 1)]) (w' := (qup w 8 1 0)) (n' := 142) rfl ?_
      refine qG.ret rfl (by first | rfl | exact decide_eq_true (by omega)) ?_
      subst hQ9
      first | exact ⟨⟨_, rfl⟩, .inl rfl, rfl⟩ | exact ⟨⟨_, rfl⟩, .inr rfl, rfl⟩
theorem LSH.fin {p k : Nat} {w0 : qW} {l l2 : List Int} {n : Nat} {r : qV} {w1 : qW} (hp : p ≠ 8 ∧ p ≠ 1) (hp1 : (SHM_ p).all (fun e => !Nat.beq (e % 1000) 1) = true) (h : LSH p k w0 l l2 n r w1) (h6 : w0 8 6 = 0) (h7 : w0 8 7 = -1) (ha : tkM (SHM_ p) = true) : (∃ x, r = (0, x)) ∧ w1 1 3 = w0 1 3 ∧ ∃ wT, TKA (qup w0 p 2 0) l l2 n wT ∧ TXF (sSho (cdF wT)) wT r w1 := by
  obtain ⟨wT, w2, hT, hA, hs⟩ := h
  obtain ⟨-, epl, -, e8⟩ := hA.cd ha
  have t6 : wT 8 6 = 0 := (hT.o (by decide) (by decide) (by decide)).trans ((qup_nk (by omega)).trans h6)
  have t13 : w2 1 3 = w0 1 3 := (hA.a (by decide) hp1 3).trans ((hT.o (by decide) (by decide) (by decide)).trans (qup_nk (by omega)))
  have t7 : wT 8 7 = -1 := (hT.o (by decide) (by decide) (by decide)).trans ((qup_nk (by omega)).trans h7)
  rcases hs with ⟨c, j, a1, a2, a3, a4, a5⟩ | ⟨k9, c, j, a1, a2, a3, a4⟩
  · refine ⟨⟨_, a3⟩, (by rw [a4, qup_j (by decide), qup_ne (by decide), axW_o (by decide)]; exact t13), wT, hT, .inl ⟨c, j, a1, a3, ?_, ?_⟩⟩
    · rw [a4, qup_ne (by decide), qup_ne (by decide), axW_o (by decide), e8]; exact t6
    · rw [a4, qup_ne (by decide), qup_ne (by decide), axW_o (by decide), e8]; exact t7
  · refine ⟨⟨_, a3⟩, (by rw [a4]; unfold axF; rw [qup_ne (by decide), qup_ne (by decide), axW_o (by decide)]; exact t13), wT, hT, .inr ⟨k9, c, j, a1, a2, a3, ?_, ?_⟩⟩
    · rw [a4]; unfold axF; rw [qup_j (by decide), qup_k]
    · rw [a4]; unfold axF; rw [qup_k, epl]
theorem TXE.fin {w : qW} {s : Int × Nat × Nat} {r : qV} {w1 : qW} (h : TXE w s r w1) (h6 : w 8 6 = 0) (h7 : w 8 7 = -1) : (∃ x, r = (0, x)) ∧ w1 1 3 = w 1 3 ∧ TXF s w r w1 := by
  obtain ⟨h13, h⟩ := h
  rcases h with ⟨c, j, a1, a2, a3, a4⟩ | ⟨k, c, j, a1, a2, a3, a4, a5⟩
  · exact ⟨⟨_, a2⟩, h13, .inl ⟨c, j, a1, a2, a3.trans h6, a4.trans h7⟩⟩
  · exact ⟨⟨_, a3⟩, h13, .inr ⟨k, c, j, a1, a2, a3, a4, a5⟩⟩
theorem TXF.o {s : Int × Nat × Nat} {wT : qW} {r : qV} {w1 w2 : qW} (h : TXF s wT r w1) (e : w2 = w1 ∨ w2 = qup w1 8 1 0) : TXF s wT r w2 := by
  have e6 : w2 8 6 = w1 8 6 := by rcases e with e | e <;> rw [e]; exact qup_j (by decide)
  have e7 : w2 8 7 = w1 8 7 := by rcases e with e | e <;> rw [e]; exact qup_j (by decide)
  unfold TXF at h ⊢
  rw [e6, e7]
  exact h
/-- the class's text: its answer and its fault -/
noncomputable def TEX (k : Int) (w : qW) (n : Nat) (r : qV) (w1 : qW) : Prop := (isInV k 0 3 = 0 ∧ ¬ k = 4 ∧ r = (0, -1) ∧ w1 8 6 = 0 ∧ w1 8 7 = -1) ∨ (¬ isInV k 0 3 = 0 ∧ ∃ l l2 wT, qtxb 3 = some l ∧ qtxb 4 = some l2 ∧ TKB w l l2 n wT ∧ TXF (sSho (cdF wT)) wT r w1) ∨ (k = 4 ∧ ∃ l l2 wT, qtxb 1 = some l ∧ qtxb 2 = some l2 ∧ TKB w l l2 n wT ∧ TXF (sPam (cdF wT)) wT r w1)
theorem K_X11_textE4 {d : Nat} (hd : 30 ≤ d) (k : Int) (l l2 : List Int) (hl : qtxb 3 = some l) (hl2 : qtxb 4 = some l2) (hl6 : l.length ≤ 600) (l3 l4 : List Int) (hl3 : qtxb 1 = some l3) (hl4 : qtxb 2 = some l4) (hl36 : l3.length ≤ 600) (n : Nat) (hn9 : n ≤ 600) (w : qW) (hI : yInv zgf zga zra zSp w) (hn : w 8 1 = (n : Int)) (h12 : w 1 2 = 4) : qG none d 169 0 [(2, 1), (0, k), (9, 0)] [] w 142 (fun (r : qV) (w1 : qW) (_ : Nat) => TEX k w n r w1) := by
  generalize hQ9 : (fun (r : qV) (w1 : qW) (_ : Nat) => TEX k w n r w1) = Q9
  obtain ⟨d, rfl⟩ : ∃ d9, d = d9 + 1 := ⟨d - 1, by omega⟩
  refine qG.blk 2 (pc' := 4) (ls' := [(2, 1), (0, k), (9, 0)]) (st' := [(2, w 1 3)]) (w' := w) (n' := 142) rfl ?_
  rw [show w 1 3 = 8 from zref hI rfl rfl]
  refine qG.call (t := 132) (na := 1) (sk := 1) (md := 1) (ls1 := [(2, 8)]) (r1 := []) rfl rfl rfl rfl rfl (K_forget (Nat.zero_le _) w) ?_
  rintro _ w7 _ ⟨rfl, hw7, rfl⟩
  obtain ⟨w0, hw0⟩ : ∃ q : qW, q = qup (qup w 8 6 0) 8 7 (-1) := ⟨_, rfl⟩
  rw [← hw0] at hw7
  rw [hw7]
  have hI0 : yInv zgf zga zra zSp w0 := by rw [hw0]; exact zup_f (zup_f hI (b := (0, 3)) rfl rfl rfl ⟨by decide, by decide⟩) (b := (-2147483648, 2147483647)) rfl rfl rfl ⟨by decide, by decide⟩
  have e6 : w0 8 6 = 0 := by rw [hw0, qup_j (by decide), qup_k]
  have e7 : w0 8 7 = -1 := by rw [hw0, qup_k]
  have hn0 : w0 8 1 = (n : Int) := by rw [hw0, qup_j (by decide), qup_j (by decide)]; exact hn
  have h120 : w0 1 2 = 4 := by rw [hw0, qup_ne (by decide), qup_ne (by decide)]; exact h12
  have h90 : ∀ j, w0 9 j = w 9 j := fun j => by rw [hw0, qup_ne (by decide), qup_ne (by decide)]
  show qG none (d + 1) 169 7 [(2, 1), (0, k), (9, 0)] [] w0 142 Q9
  refine qG.blk 3 (pc' := 10) (ls' := [(2, 1), (0, k), (0, (-1))]) (st' := [(0, k)]) (w' := w0) (n' := 142) rfl ?_
  refine qG.call (t := 199) (na := 1) (sk := 0) (md := 0) (ls1 := [(0, k)]) (r1 := []) rfl rfl rfl rfl rfl (K_X11_isShow (Nat.zero_le _) _ _) ?_
  rintro _ w7 _ ⟨rfl, hw7, rfl⟩
  rw [hw7]
  show qG none (d + 1) 169 13 [(2, 1), (0, k), (0, (-1))] [(0, isInV k 0 3)] w0 142 Q9
  refine qG.br (P := isInV k 0 3 = 0) (pc1 := 25) (pc2 := 16) (st1 := []) rfl (fun hk0 => ?_) (fun hk0 => ?_)
  · skip
    refine qG.blk 2 (pc' := 27) (ls' := [(2, 1), (0, k), (0, (-1))]) (st' := [(0, 4), (0, k)]) (w' := w0) (n' := 142) rfl ?_
    refine qG.br (P := k = 4) (pc1 := 30) (pc2 := 42) (st1 := []) rfl (fun hk4 => ?_) (fun hk4 => ?_)
    · skip
      refine qG.blk 2 (pc' := 34) (ls' := [(2, 1), (0, k), (0, (-1))]) (st' := [(2, w0 1 4)]) (w' := w0) (n' := 142) rfl ?_
      rw [show w0 1 4 = 12 from zref hI0 rfl rfl]
      refine qG.blk 2 (pc' := 38) (ls' := [(2, 1), (0, k), (0, (-1))]) (st' := [(2, w0 1 3), (2, 12)]) (w' := w0) (n' := 142) rfl ?_
      rw [show w0 1 3 = 8 from zref hI0 rfl rfl]
      refine qG.call (t := 75) (na := 2) (sk := 1) (md := 1) (ls1 := [(2, 12), (2, 8), (9, 0)]) (r1 := []) rfl rfl rfl rfl rfl (K_pLearn (by omega) l3 l4 hl3 hl4 hl36 n hn9 w0 hI0 hn0) ?_
      rintro r3 w3 _ ⟨rfl, wT, hTA, hTE⟩
      obtain ⟨⟨x3, rfl⟩, h13, hTF⟩ := hTE.fin ((hTA.o (by decide) (by decide) (by decide)).trans e6) ((hTA.o (by decide) (by decide) (by decide)).trans e7)
      have h13 : w3 1 3 = w0 1 3 := h13.trans (hTA.o (by decide) (by decide) (by decide))
      have hTB : TKB w l3 l4 n wT := TKA.b h90 (hn0.trans hn.symm) hn hTA
      show qG none (d + 1) 169 41 [(2, 1), (0, k), (0, (-1))] [(0, x3)] w3 142 Q9
      refine qG.blk 3 (pc' := 46) (ls' := [(2, 1), (0, k), (0, x3)]) (st' := [(2, w3 1 3)]) (w' := w3) (n' := 142) rfl ?_
      rw [show w3 1 3 = 8 from h13.trans (zref hI0 rfl rfl)]
      refine qG.blk 1 (pc' := 47) (ls' := [(2, 1), (0, k), (0, x3)]) (st' := [(0, 0), (2, 8)]) (w' := w3) (n' := 142) rfl ?_
      refine qG.call (t := 131) (na := 2) (sk := 1) (md := 1) (ls1 := [(2, 8), (0, 0)]) (r1 := []) rfl rfl rfl rfl rfl (K_cut0 (Nat.zero_le _) w3) ?_
      rintro _ w4 _ ⟨⟨x4, rfl⟩, hw4, rfl⟩
      show qG none (d + 1) 169 50 [(2, 1), (0, k), (0, x3)] [(0, x4)] w4 142 Q9
      refine qG.blk 2 (pc' := 52) (ls' := [(2, 1), (0, k), (0, x3)]) (st' := [(0, x3)]) (w' := w4) (n' := 142) rfl ?_
      refine qG.ret rfl rfl ?_
      subst hQ9
      first | exact .inl ⟨hk0, hk4, rfl, by rcases hw4 with e | e <;> rw [e] <;> first | exact e6 | exact (qup_j (by decide)).trans e6, by rcases hw4 with e | e <;> rw [e] <;> first | exact e7 | exact (qup_j (by decide)).trans e7⟩ | exact .inr (.inl ⟨hk0, l, l2, wT, hl, hl2, hTB, hTF.o hw4⟩) | exact .inr (.inr ⟨hk4, l3, l4, wT, hl3, hl4, hTB, hTF.o hw4⟩)
    · skip
      refine qG.blk 2 (pc' := 46) (ls' := [(2, 1), (0, k), (0, (-1))]) (st' := [(2, w0 1 3)]) (w' := w0) (n' := 142) rfl ?_
      rw [show w0 1 3 = 8 from zref hI0 rfl rfl]
      refine qG.blk 1 (pc' := 47) (ls' := [(2, 1), (0, k), (0, (-1))]) (st' := [(0, 0), (2, 8)]) (w' := w0) (n' := 142) rfl ?_
      refine qG.call (t := 131) (na := 2) (sk := 1) (md := 1) (ls1 := [(2, 8), (0, 0)]) (r1 := []) rfl rfl rfl rfl rfl (K_cut0 (Nat.zero_le _) w0) ?_
      rintro _ w4 _ ⟨⟨x4, rfl⟩, hw4, rfl⟩
      show qG none (d + 1) 169 50 [(2, 1), (0, k), (0, (-1))] [(0, x4)] w4 142 Q9
      refine qG.blk 2 (pc' := 52) (ls' := [(2, 1), (0, k), (0, (-1))]) (st' := [(0, (-1))]) (w' := w4) (n' := 142) rfl ?_
      refine qG.ret rfl rfl ?_
      subst hQ9
      first | exact .inl ⟨hk0, hk4, rfl, by rcases hw4 with e | e <;> rw [e] <;> first | exact e6 | exact (qup_j (by decide)).trans e6, by rcases hw4 with e | e <;> rw [e] <;> first | exact e7 | exact (qup_j (by decide)).trans e7⟩ | exact .inr (.inl ⟨hk0, l, l2, wT, hl, hl2, hTB, hTF.o hw4⟩) | exact .inr (.inr ⟨hk4, l3, l4, wT, hl3, hl4, hTB, hTF.o hw4⟩)
  · skip
    obtain ⟨k9, rfl, hk1, hk2⟩ := isIn_n (by decide) hk0
    refine qG.blk 2 (pc' := 18) (ls' := [(2, 1), (0, ((k9 : Nat) : Int)), (0, (-1))]) (st' := [(0, ((k9 : Nat) : Int)), (2, 1)]) (w' := w0) (n' := 142) rfl ?_
    refine qG.call (t := 202) (na := 2) (sk := 1) (md := 1) (ls1 := [(2, 1), (0, ((k9 : Nat) : Int)), (9, 0)]) (r1 := []) rfl rfl rfl rfl rfl (K_learnSh4 (by omega) k9 (by omega) l l2 hl hl2 hl6 n hn9 w0 hI0 hn0 h120) ?_
    rintro r3 w3 _ ⟨rfl, hL⟩
    obtain ⟨⟨x3, rfl⟩, h13, wT, hTA, hTF⟩ := hL.fin (by decide) (by decide) e6 e7 (by decide)
    have hTB : TKB w l l2 n wT := TKA.b (fun j => (qup_nk (by decide)).trans (h90 j)) ((qup_nk (by decide)).trans (hn0.trans hn.symm)) hn hTA
    show qG none (d + 1) 169 21 [(2, 1), (0, ((k9 : Nat) : Int)), (0, (-1))] [(0, x3)] w3 142 Q9
    refine qG.blk 4 (pc' := 46) (ls' := [(2, 1), (0, ((k9 : Nat) : Int)), (0, x3)]) (st' := [(2, w3 1 3)]) (w' := w3) (n' := 142) rfl ?_
    rw [show w3 1 3 = 8 from h13.trans (zref hI0 rfl rfl)]
    refine qG.blk 1 (pc' := 47) (ls' := [(2, 1), (0, ((k9 : Nat) : Int)), (0, x3)]) (st' := [(0, 0), (2, 8)]) (w' := w3) (n' := 142) rfl ?_
    refine qG.call (t := 131) (na := 2) (sk := 1) (md := 1) (ls1 := [(2, 8), (0, 0)]) (r1 := []) rfl rfl rfl rfl rfl (K_cut0 (Nat.zero_le _) w3) ?_
    rintro _ w4 _ ⟨⟨x4, rfl⟩, hw4, rfl⟩
    show qG none (d + 1) 169 50 [(2, 1), (0, ((k9 : Nat) : Int)), (0, x3)] [(0, x4)] w4 142 Q9
    refine qG.blk 2 (pc' := 52) (ls' := [(2, 1), (0, ((k9 : Nat) : Int)), (0, x3)]) (st' := [(0, x3)]) (w' := w4) (n' := 142) rfl ?_
    refine qG.ret rfl rfl ?_
    subst hQ9
    first | exact .inl ⟨hk0, hk4, rfl, by rcases hw4 with e | e <;> rw [e] <;> first | exact e6 | exact (qup_j (by decide)).trans e6, by rcases hw4 with e | e <;> rw [e] <;> first | exact e7 | exact (qup_j (by decide)).trans e7⟩ | exact .inr (.inl ⟨hk0, l, l2, wT, hl, hl2, hTB, hTF.o hw4⟩) | exact .inr (.inr ⟨hk4, l3, l4, wT, hl3, hl4, hTB, hTF.o hw4⟩)
theorem K_X11_textE79 {d : Nat} (hd : 30 ≤ d) (k : Int) (l l2 : List Int) (hl : qtxb 3 = some l) (hl2 : qtxb 4 = some l2) (hl6 : l.length ≤ 600) (l3 l4 : List Int) (hl3 : qtxb 1 = some l3) (hl4 : qtxb 2 = some l4) (hl36 : l3.length ≤ 600) (n : Nat) (hn9 : n ≤ 600) (w : qW) (hI : yInv zgf zga zra zSp w) (hn : w 8 1 = (n : Int)) (h12 : w 1 2 = 79) : qG none d 169 0 [(2, 1), (0, k), (9, 0)] [] w 142 (fun (r : qV) (w1 : qW) (_ : Nat) => TEX k w n r w1) := by
  generalize hQ9 : (fun (r : qV) (w1 : qW) (_ : Nat) => TEX k w n r w1) = Q9
  obtain ⟨d, rfl⟩ : ∃ d9, d = d9 + 1 := ⟨d - 1, by omega⟩
  refine qG.blk 2 (pc' := 4) (ls' := [(2, 1), (0, k), (9, 0)]) (st' := [(2, w 1 3)]) (w' := w) (n' := 142) rfl ?_
  rw [show w 1 3 = 8 from zref hI rfl rfl]
  refine qG.call (t := 132) (na := 1) (sk := 1) (md := 1) (ls1 := [(2, 8)]) (r1 := []) rfl rfl rfl rfl rfl (K_forget (Nat.zero_le _) w) ?_
  rintro _ w7 _ ⟨rfl, hw7, rfl⟩
  obtain ⟨w0, hw0⟩ : ∃ q : qW, q = qup (qup w 8 6 0) 8 7 (-1) := ⟨_, rfl⟩
  rw [← hw0] at hw7
  rw [hw7]
  have hI0 : yInv zgf zga zra zSp w0 := by rw [hw0]; exact zup_f (zup_f hI (b := (0, 3)) rfl rfl rfl ⟨by decide, by decide⟩) (b := (-2147483648, 2147483647)) rfl rfl rfl ⟨by decide, by decide⟩
  have e6 : w0 8 6 = 0 := by rw [hw0, qup_j (by decide), qup_k]
  have e7 : w0 8 7 = -1 := by rw [hw0, qup_k]
  have hn0 : w0 8 1 = (n : Int) := by rw [hw0, qup_j (by decide), qup_j (by decide)]; exact hn
  have h120 : w0 1 2 = 79 := by rw [hw0, qup_ne (by decide), qup_ne (by decide)]; exact h12
  have h90 : ∀ j, w0 9 j = w 9 j := fun j => by rw [hw0, qup_ne (by decide), qup_ne (by decide)]
  show qG none (d + 1) 169 7 [(2, 1), (0, k), (9, 0)] [] w0 142 Q9
  refine qG.blk 3 (pc' := 10) (ls' := [(2, 1), (0, k), (0, (-1))]) (st' := [(0, k)]) (w' := w0) (n' := 142) rfl ?_
  refine qG.call (t := 199) (na := 1) (sk := 0) (md := 0) (ls1 := [(0, k)]) (r1 := []) rfl rfl rfl rfl rfl (K_X11_isShow (Nat.zero_le _) _ _) ?_
  rintro _ w7 _ ⟨rfl, hw7, rfl⟩
  rw [hw7]
  show qG none (d + 1) 169 13 [(2, 1), (0, k), (0, (-1))] [(0, isInV k 0 3)] w0 142 Q9
  refine qG.br (P := isInV k 0 3 = 0) (pc1 := 25) (pc2 := 16) (st1 := []) rfl (fun hk0 => ?_) (fun hk0 => ?_)
  · skip
    refine qG.blk 2 (pc' := 27) (ls' := [(2, 1), (0, k), (0, (-1))]) (st' := [(0, 4), (0, k)]) (w' := w0) (n' := 142) rfl ?_
    refine qG.br (P := k = 4) (pc1 := 30) (pc2 := 42) (st1 := []) rfl (fun hk4 => ?_) (fun hk4 => ?_)
    · skip
      refine qG.blk 2 (pc' := 34) (ls' := [(2, 1), (0, k), (0, (-1))]) (st' := [(2, w0 1 4)]) (w' := w0) (n' := 142) rfl ?_
      rw [show w0 1 4 = 12 from zref hI0 rfl rfl]
      refine qG.blk 2 (pc' := 38) (ls' := [(2, 1), (0, k), (0, (-1))]) (st' := [(2, w0 1 3), (2, 12)]) (w' := w0) (n' := 142) rfl ?_
      rw [show w0 1 3 = 8 from zref hI0 rfl rfl]
      refine qG.call (t := 75) (na := 2) (sk := 1) (md := 1) (ls1 := [(2, 12), (2, 8), (9, 0)]) (r1 := []) rfl rfl rfl rfl rfl (K_pLearn (by omega) l3 l4 hl3 hl4 hl36 n hn9 w0 hI0 hn0) ?_
      rintro r3 w3 _ ⟨rfl, wT, hTA, hTE⟩
      obtain ⟨⟨x3, rfl⟩, h13, hTF⟩ := hTE.fin ((hTA.o (by decide) (by decide) (by decide)).trans e6) ((hTA.o (by decide) (by decide) (by decide)).trans e7)
      have h13 : w3 1 3 = w0 1 3 := h13.trans (hTA.o (by decide) (by decide) (by decide))
      have hTB : TKB w l3 l4 n wT := TKA.b h90 (hn0.trans hn.symm) hn hTA
      show qG none (d + 1) 169 41 [(2, 1), (0, k), (0, (-1))] [(0, x3)] w3 142 Q9
      refine qG.blk 3 (pc' := 46) (ls' := [(2, 1), (0, k), (0, x3)]) (st' := [(2, w3 1 3)]) (w' := w3) (n' := 142) rfl ?_
      rw [show w3 1 3 = 8 from h13.trans (zref hI0 rfl rfl)]
      refine qG.blk 1 (pc' := 47) (ls' := [(2, 1), (0, k), (0, x3)]) (st' := [(0, 0), (2, 8)]) (w' := w3) (n' := 142) rfl ?_
      refine qG.call (t := 131) (na := 2) (sk := 1) (md := 1) (ls1 := [(2, 8), (0, 0)]) (r1 := []) rfl rfl rfl rfl rfl (K_cut0 (Nat.zero_le _) w3) ?_
      rintro _ w4 _ ⟨⟨x4, rfl⟩, hw4, rfl⟩
      show qG none (d + 1) 169 50 [(2, 1), (0, k), (0, x3)] [(0, x4)] w4 142 Q9
      refine qG.blk 2 (pc' := 52) (ls' := [(2, 1), (0, k), (0, x3)]) (st' := [(0, x3)]) (w' := w4) (n' := 142) rfl ?_
      refine qG.ret rfl rfl ?_
      subst hQ9
      first | exact .inl ⟨hk0, hk4, rfl, by rcases hw4 with e | e <;> rw [e] <;> first | exact e6 | exact (qup_j (by decide)).trans e6, by rcases hw4 with e | e <;> rw [e] <;> first | exact e7 | exact (qup_j (by decide)).trans e7⟩ | exact .inr (.inl ⟨hk0, l, l2, wT, hl, hl2, hTB, hTF.o hw4⟩) | exact .inr (.inr ⟨hk4, l3, l4, wT, hl3, hl4, hTB, hTF.o hw4⟩)
    · skip
      refine qG.blk 2 (pc' := 46) (ls' := [(2, 1), (0, k), (0, (-1))]) (st' := [(2, w0 1 3)]) (w' := w0) (n' := 142) rfl ?_
      rw [show w0 1 3 = 8 from zref hI0 rfl rfl]
      refine qG.blk 1 (pc' := 47) (ls' := [(2, 1), (0, k), (0, (-1))]) (st' := [(0, 0), (2, 8)]) (w' := w0) (n' := 142) rfl ?_
      refine qG.call (t := 131) (na := 2) (sk := 1) (md := 1) (ls1 := [(2, 8), (0, 0)]) (r1 := []) rfl rfl rfl rfl rfl (K_cut0 (Nat.zero_le _) w0) ?_
      rintro _ w4 _ ⟨⟨x4, rfl⟩, hw4, rfl⟩
      show qG none (d + 1) 169 50 [(2, 1), (0, k), (0, (-1))] [(0, x4)] w4 142 Q9
      refine qG.blk 2 (pc' := 52) (ls' := [(2, 1), (0, k), (0, (-1))]) (st' := [(0, (-1))]) (w' := w4) (n' := 142) rfl ?_
      refine qG.ret rfl rfl ?_
      subst hQ9
      first | exact .inl ⟨hk0, hk4, rfl, by rcases hw4 with e | e <;> rw [e] <;> first | exact e6 | exact (qup_j (by decide)).trans e6, by rcases hw4 with e | e <;> rw [e] <;> first | exact e7 | exact (qup_j (by decide)).trans e7⟩ | exact .inr (.inl ⟨hk0, l, l2, wT, hl, hl2, hTB, hTF.o hw4⟩) | exact .inr (.inr ⟨hk4, l3, l4, wT, hl3, hl4, hTB, hTF.o hw4⟩)
  · skip
    obtain ⟨k9, rfl, hk1, hk2⟩ := isIn_n (by decide) hk0
    refine qG.blk 2 (pc' := 18) (ls' := [(2, 1), (0, ((k9 : Nat) : Int)), (0, (-1))]) (st' := [(0, ((k9 : Nat) : Int)), (2, 1)]) (w' := w0) (n' := 142) rfl ?_
    refine qG.call (t := 202) (na := 2) (sk := 1) (md := 1) (ls1 := [(2, 1), (0, ((k9 : Nat) : Int)), (9, 0)]) (r1 := []) rfl rfl rfl rfl rfl (K_learnSh79 (by omega) k9 (by omega) l l2 hl hl2 hl6 n hn9 w0 hI0 hn0 h120) ?_
    rintro r3 w3 _ ⟨rfl, hL⟩
    obtain ⟨⟨x3, rfl⟩, h13, wT, hTA, hTF⟩ := hL.fin (by decide) (by decide) e6 e7 (by decide)
    have hTB : TKB w l l2 n wT := TKA.b (fun j => (qup_nk (by decide)).trans (h90 j)) ((qup_nk (by decide)).trans (hn0.trans hn.symm)) hn hTA
    show qG none (d + 1) 169 21 [(2, 1), (0, ((k9 : Nat) : Int)), (0, (-1))] [(0, x3)] w3 142 Q9
    refine qG.blk 4 (pc' := 46) (ls' := [(2, 1), (0, ((k9 : Nat) : Int)), (0, x3)]) (st' := [(2, w3 1 3)]) (w' := w3) (n' := 142) rfl ?_
    rw [show w3 1 3 = 8 from h13.trans (zref hI0 rfl rfl)]
    refine qG.blk 1 (pc' := 47) (ls' := [(2, 1), (0, ((k9 : Nat) : Int)), (0, x3)]) (st' := [(0, 0), (2, 8)]) (w' := w3) (n' := 142) rfl ?_
    refine qG.call (t := 131) (na := 2) (sk := 1) (md := 1) (ls1 := [(2, 8), (0, 0)]) (r1 := []) rfl rfl rfl rfl rfl (K_cut0 (Nat.zero_le _) w3) ?_
    rintro _ w4 _ ⟨⟨x4, rfl⟩, hw4, rfl⟩
    show qG none (d + 1) 169 50 [(2, 1), (0, ((k9 : Nat) : Int)), (0, x3)] [(0, x4)] w4 142 Q9
    refine qG.blk 2 (pc' := 52) (ls' := [(2, 1), (0, ((k9 : Nat) : Int)), (0, x3)]) (st' := [(0, x3)]) (w' := w4) (n' := 142) rfl ?_
    refine qG.ret rfl rfl ?_
    subst hQ9
    first | exact .inl ⟨hk0, hk4, rfl, by rcases hw4 with e | e <;> rw [e] <;> first | exact e6 | exact (qup_j (by decide)).trans e6, by rcases hw4 with e | e <;> rw [e] <;> first | exact e7 | exact (qup_j (by decide)).trans e7⟩ | exact .inr (.inl ⟨hk0, l, l2, wT, hl, hl2, hTB, hTF.o hw4⟩) | exact .inr (.inr ⟨hk4, l3, l4, wT, hl3, hl4, hTB, hTF.o hw4⟩)
theorem K_X11_textE83 {d : Nat} (hd : 30 ≤ d) (k : Int) (l l2 : List Int) (hl : qtxb 3 = some l) (hl2 : qtxb 4 = some l2) (hl6 : l.length ≤ 600) (l3 l4 : List Int) (hl3 : qtxb 1 = some l3) (hl4 : qtxb 2 = some l4) (hl36 : l3.length ≤ 600) (n : Nat) (hn9 : n ≤ 600) (w : qW) (hI : yInv zgf zga zra zSp w) (hn : w 8 1 = (n : Int)) (h12 : w 1 2 = 83) : qG none d 169 0 [(2, 1), (0, k), (9, 0)] [] w 142 (fun (r : qV) (w1 : qW) (_ : Nat) => TEX k w n r w1) := by
  generalize hQ9 : (fun (r : qV) (w1 : qW) (_ : Nat) => TEX k w n r w1) = Q9
  obtain ⟨d, rfl⟩ : ∃ d9, d = d9 + 1 := ⟨d - 1, by omega⟩
  refine qG.blk 2 (pc' := 4) (ls' := [(2, 1), (0, k), (9, 0)]) (st' := [(2, w 1 3)]) (w' := w) (n' := 142) rfl ?_
  rw [show w 1 3 = 8 from zref hI rfl rfl]
  refine qG.call (t := 132) (na := 1) (sk := 1) (md := 1) (ls1 := [(2, 8)]) (r1 := []) rfl rfl rfl rfl rfl (K_forget (Nat.zero_le _) w) ?_
  rintro _ w7 _ ⟨rfl, hw7, rfl⟩
  obtain ⟨w0, hw0⟩ : ∃ q : qW, q = qup (qup w 8 6 0) 8 7 (-1) := ⟨_, rfl⟩
  rw [← hw0] at hw7
  rw [hw7]
  have hI0 : yInv zgf zga zra zSp w0 := by rw [hw0]; exact zup_f (zup_f hI (b := (0, 3)) rfl rfl rfl ⟨by decide, by decide⟩) (b := (-2147483648, 2147483647)) rfl rfl rfl ⟨by decide, by decide⟩
  have e6 : w0 8 6 = 0 := by rw [hw0, qup_j (by decide), qup_k]
  have e7 : w0 8 7 = -1 := by rw [hw0, qup_k]
  have hn0 : w0 8 1 = (n : Int) := by rw [hw0, qup_j (by decide), qup_j (by decide)]; exact hn
  have h120 : w0 1 2 = 83 := by rw [hw0, qup_ne (by decide), qup_ne (by decide)]; exact h12
  have h90 : ∀ j, w0 9 j = w 9 j := fun j => by rw [hw0, qup_ne (by decide), qup_ne (by decide)]
  show qG none (d + 1) 169 7 [(2, 1), (0, k), (9, 0)] [] w0 142 Q9
  refine qG.blk 3 (pc' := 10) (ls' := [(2, 1), (0, k), (0, (-1))]) (st' := [(0, k)]) (w' := w0) (n' := 142) rfl ?_
  refine qG.call (t := 199) (na := 1) (sk := 0) (md := 0) (ls1 := [(0, k)]) (r1 := []) rfl rfl rfl rfl rfl (K_X11_isShow (Nat.zero_le _) _ _) ?_
  rintro _ w7 _ ⟨rfl, hw7, rfl⟩
  rw [hw7]
  show qG none (d + 1) 169 13 [(2, 1), (0, k), (0, (-1))] [(0, isInV k 0 3)] w0 142 Q9
  refine qG.br (P := isInV k 0 3 = 0) (pc1 := 25) (pc2 := 16) (st1 := []) rfl (fun hk0 => ?_) (fun hk0 => ?_)
  · skip
    refine qG.blk 2 (pc' := 27) (ls' := [(2, 1), (0, k), (0, (-1))]) (st' := [(0, 4), (0, k)]) (w' := w0) (n' := 142) rfl ?_
    refine qG.br (P := k = 4) (pc1 := 30) (pc2 := 42) (st1 := []) rfl (fun hk4 => ?_) (fun hk4 => ?_)
    · skip
      refine qG.blk 2 (pc' := 34) (ls' := [(2, 1), (0, k), (0, (-1))]) (st' := [(2, w0 1 4)]) (w' := w0) (n' := 142) rfl ?_
      rw [show w0 1 4 = 12 from zref hI0 rfl rfl]
      refine qG.blk 2 (pc' := 38) (ls' := [(2, 1), (0, k), (0, (-1))]) (st' := [(2, w0 1 3), (2, 12)]) (w' := w0) (n' := 142) rfl ?_
      rw [show w0 1 3 = 8 from zref hI0 rfl rfl]
      refine qG.call (t := 75) (na := 2) (sk := 1) (md := 1) (ls1 := [(2, 12), (2, 8), (9, 0)]) (r1 := []) rfl rfl rfl rfl rfl (K_pLearn (by omega) l3 l4 hl3 hl4 hl36 n hn9 w0 hI0 hn0) ?_
      rintro r3 w3 _ ⟨rfl, wT, hTA, hTE⟩
      obtain ⟨⟨x3, rfl⟩, h13, hTF⟩ := hTE.fin ((hTA.o (by decide) (by decide) (by decide)).trans e6) ((hTA.o (by decide) (by decide) (by decide)).trans e7)
      have h13 : w3 1 3 = w0 1 3 := h13.trans (hTA.o (by decide) (by decide) (by decide))
      have hTB : TKB w l3 l4 n wT := TKA.b h90 (hn0.trans hn.symm) hn hTA
      show qG none (d + 1) 169 41 [(2, 1), (0, k), (0, (-1))] [(0, x3)] w3 142 Q9
      refine qG.blk 3 (pc' := 46) (ls' := [(2, 1), (0, k), (0, x3)]) (st' := [(2, w3 1 3)]) (w' := w3) (n' := 142) rfl ?_
      rw [show w3 1 3 = 8 from h13.trans (zref hI0 rfl rfl)]
      refine qG.blk 1 (pc' := 47) (ls' := [(2, 1), (0, k), (0, x3)]) (st' := [(0, 0), (2, 8)]) (w' := w3) (n' := 142) rfl ?_
      refine qG.call (t := 131) (na := 2) (sk := 1) (md := 1) (ls1 := [(2, 8), (0, 0)]) (r1 := []) rfl rfl rfl rfl rfl (K_cut0 (Nat.zero_le _) w3) ?_
      rintro _ w4 _ ⟨⟨x4, rfl⟩, hw4, rfl⟩
      show qG none (d + 1) 169 50 [(2, 1), (0, k), (0, x3)] [(0, x4)] w4 142 Q9
      refine qG.blk 2 (pc' := 52) (ls' := [(2, 1), (0, k), (0, x3)]) (st' := [(0, x3)]) (w' := w4) (n' := 142) rfl ?_
      refine qG.ret rfl rfl ?_
      subst hQ9
      first | exact .inl ⟨hk0, hk4, rfl, by rcases hw4 with e | e <;> rw [e] <;> first | exact e6 | exact (qup_j (by decide)).trans e6, by rcases hw4 with e | e <;> rw [e] <;> first | exact e7 | exact (qup_j (by decide)).trans e7⟩ | exact .inr (.inl ⟨hk0, l, l2, wT, hl, hl2, hTB, hTF.o hw4⟩) | exact .inr (.inr ⟨hk4, l3, l4, wT, hl3, hl4, hTB, hTF.o hw4⟩)
    · skip
      refine qG.blk 2 (pc' := 46) (ls' := [(2, 1), (0, k), (0, (-1))]) (st' := [(2, w0 1 3)]) (w' := w0) (n' := 142) rfl ?_
      rw [show w0 1 3 = 8 from zref hI0 rfl rfl]
      refine qG.blk 1 (pc' := 47) (ls' := [(2, 1), (0, k), (0, (-1))]) (st' := [(0, 0), (2, 8)]) (w' := w0) (n' := 142) rfl ?_
      refine qG.call (t := 131) (na := 2) (sk := 1) (md := 1) (ls1 := [(2, 8), (0, 0)]) (r1 := []) rfl rfl rfl rfl rfl (K_cut0 (Nat.zero_le _) w0) ?_
      rintro _ w4 _ ⟨⟨x4, rfl⟩, hw4, rfl⟩
      show qG none (d + 1) 169 50 [(2, 1), (0, k), (0, (-1))] [(0, x4)] w4 142 Q9
      refine qG.blk 2 (pc' := 52) (ls' := [(2, 1), (0, k), (0, (-1))]) (st' := [(0, (-1))]) (w' := w4) (n' := 142) rfl ?_
      refine qG.ret rfl rfl ?_
      subst hQ9
      first | exact .inl ⟨hk0, hk4, rfl, by rcases hw4 with e | e <;> rw [e] <;> first | exact e6 | exact (qup_j (by decide)).trans e6, by rcases hw4 with e | e <;> rw [e] <;> first | exact e7 | exact (qup_j (by decide)).trans e7⟩ | exact .inr (.inl ⟨hk0, l, l2, wT, hl, hl2, hTB, hTF.o hw4⟩) | exact .inr (.inr ⟨hk4, l3, l4, wT, hl3, hl4, hTB, hTF.o hw4⟩)
  · skip
    obtain ⟨k9, rfl, hk1, hk2⟩ := isIn_n (by decide) hk0
    refine qG.blk 2 (pc' := 18) (ls' := [(2, 1), (0, ((k9 : Nat) : Int)), (0, (-1))]) (st' := [(0, ((k9 : Nat) : Int)), (2, 1)]) (w' := w0) (n' := 142) rfl ?_
    refine qG.call (t := 202) (na := 2) (sk := 1) (md := 1) (ls1 := [(2, 1), (0, ((k9 : Nat) : Int)), (9, 0)]) (r1 := []) rfl rfl rfl rfl rfl (K_learnSh83 (by omega) k9 (by omega) l l2 hl hl2 hl6 n hn9 w0 hI0 hn0 h120) ?_
    rintro r3 w3 _ ⟨rfl, hL⟩
    obtain ⟨⟨x3, rfl⟩, h13, wT, hTA, hTF⟩ := hL.fin (by decide) (by decide) e6 e7 (by decide)
    have hTB : TKB w l l2 n wT := TKA.b (fun j => (qup_nk (by decide)).trans (h90 j)) ((qup_nk (by decide)).trans (hn0.trans hn.symm)) hn hTA
    show qG none (d + 1) 169 21 [(2, 1), (0, ((k9 : Nat) : Int)), (0, (-1))] [(0, x3)] w3 142 Q9
    refine qG.blk 4 (pc' := 46) (ls' := [(2, 1), (0, ((k9 : Nat) : Int)), (0, x3)]) (st' := [(2, w3 1 3)]) (w' := w3) (n' := 142) rfl ?_
    rw [show w3 1 3 = 8 from h13.trans (zref hI0 rfl rfl)]
    refine qG.blk 1 (pc' := 47) (ls' := [(2, 1), (0, ((k9 : Nat) : Int)), (0, x3)]) (st' := [(0, 0), (2, 8)]) (w' := w3) (n' := 142) rfl ?_
    refine qG.call (t := 131) (na := 2) (sk := 1) (md := 1) (ls1 := [(2, 8), (0, 0)]) (r1 := []) rfl rfl rfl rfl rfl (K_cut0 (Nat.zero_le _) w3) ?_
    rintro _ w4 _ ⟨⟨x4, rfl⟩, hw4, rfl⟩
    show qG none (d + 1) 169 50 [(2, 1), (0, ((k9 : Nat) : Int)), (0, x3)] [(0, x4)] w4 142 Q9
    refine qG.blk 2 (pc' := 52) (ls' := [(2, 1), (0, ((k9 : Nat) : Int)), (0, x3)]) (st' := [(0, x3)]) (w' := w4) (n' := 142) rfl ?_
    refine qG.ret rfl rfl ?_
    subst hQ9
    first | exact .inl ⟨hk0, hk4, rfl, by rcases hw4 with e | e <;> rw [e] <;> first | exact e6 | exact (qup_j (by decide)).trans e6, by rcases hw4 with e | e <;> rw [e] <;> first | exact e7 | exact (qup_j (by decide)).trans e7⟩ | exact .inr (.inl ⟨hk0, l, l2, wT, hl, hl2, hTB, hTF.o hw4⟩) | exact .inr (.inr ⟨hk4, l3, l4, wT, hl3, hl4, hTB, hTF.o hw4⟩)
theorem K_X11_textE87 {d : Nat} (hd : 30 ≤ d) (k : Int) (l l2 : List Int) (hl : qtxb 3 = some l) (hl2 : qtxb 4 = some l2) (hl6 : l.length ≤ 600) (l3 l4 : List Int) (hl3 : qtxb 1 = some l3) (hl4 : qtxb 2 = some l4) (hl36 : l3.length ≤ 600) (n : Nat) (hn9 : n ≤ 600) (w : qW) (hI : yInv zgf zga zra zSp w) (hn : w 8 1 = (n : Int)) (h12 : w 1 2 = 87) : qG none d 169 0 [(2, 1), (0, k), (9, 0)] [] w 142 (fun (r : qV) (w1 : qW) (_ : Nat) => TEX k w n r w1) := by
  generalize hQ9 : (fun (r : qV) (w1 : qW) (_ : Nat) => TEX k w n r w1) = Q9
  obtain ⟨d, rfl⟩ : ∃ d9, d = d9 + 1 := ⟨d - 1, by omega⟩
  refine qG.blk 2 (pc' := 4) (ls' := [(2, 1), (0, k), (9, 0)]) (st' := [(2, w 1 3)]) (w' := w) (n' := 142) rfl ?_
  rw [show w 1 3 = 8 from zref hI rfl rfl]
  refine qG.call (t := 132) (na := 1) (sk := 1) (md := 1) (ls1 := [(2, 8)]) (r1 := []) rfl rfl rfl rfl rfl (K_forget (Nat.zero_le _) w) ?_
  rintro _ w7 _ ⟨rfl, hw7, rfl⟩
  obtain ⟨w0, hw0⟩ : ∃ q : qW, q = qup (qup w 8 6 0) 8 7 (-1) := ⟨_, rfl⟩
  rw [← hw0] at hw7
  rw [hw7]
  have hI0 : yInv zgf zga zra zSp w0 := by rw [hw0]; exact zup_f (zup_f hI (b := (0, 3)) rfl rfl rfl ⟨by decide, by decide⟩) (b := (-2147483648, 2147483647)) rfl rfl rfl ⟨by decide, by decide⟩
  have e6 : w0 8 6 = 0 := by rw [hw0, qup_j (by decide), qup_k]
  have e7 : w0 8 7 = -1 := by rw [hw0, qup_k]
  have hn0 : w0 8 1 = (n : Int) := by rw [hw0, qup_j (by decide), qup_j (by decide)]; exact hn
  have h120 : w0 1 2 = 87 := by rw [hw0, qup_ne (by decide), qup_ne (by decide)]; exact h12
  have h90 : ∀ j, w0 9 j = w 9 j := fun j => by rw [hw0, qup_ne (by decide), qup_ne (by decide)]
  show qG none (d + 1) 169 7 [(2, 1), (0, k), (9, 0)] [] w0 142 Q9
  refine qG.blk 3 (pc' := 10) (ls' := [(2, 1), (0, k), (0, (-1))]) (st' := [(0, k)]) (w' := w0) (n' := 142) rfl ?_
  refine qG.call (t := 199) (na := 1) (sk := 0) (md := 0) (ls1 := [(0, k)]) (r1 := []) rfl rfl rfl rfl rfl (K_X11_isShow (Nat.zero_le _) _ _) ?_
  rintro _ w7 _ ⟨rfl, hw7, rfl⟩
  rw [hw7]
  show qG none (d + 1) 169 13 [(2, 1), (0, k), (0, (-1))] [(0, isInV k 0 3)] w0 142 Q9
  refine qG.br (P := isInV k 0 3 = 0) (pc1 := 25) (pc2 := 16) (st1 := []) rfl (fun hk0 => ?_) (fun hk0 => ?_)
  · skip
    refine qG.blk 2 (pc' := 27) (ls' := [(2, 1), (0, k), (0, (-1))]) (st' := [(0, 4), (0, k)]) (w' := w0) (n' := 142) rfl ?_
    refine qG.br (P := k = 4) (pc1 := 30) (pc2 := 42) (st1 := []) rfl (fun hk4 => ?_) (fun hk4 => ?_)
    · skip
      refine qG.blk 2 (pc' := 34) (ls' := [(2, 1), (0, k), (0, (-1))]) (st' := [(2, w0 1 4)]) (w' := w0) (n' := 142) rfl ?_
      rw [show w0 1 4 = 12 from zref hI0 rfl rfl]
      refine qG.blk 2 (pc' := 38) (ls' := [(2, 1), (0, k), (0, (-1))]) (st' := [(2, w0 1 3), (2, 12)]) (w' := w0) (n' := 142) rfl ?_
      rw [show w0 1 3 = 8 from zref hI0 rfl rfl]
      refine qG.call (t := 75) (na := 2) (sk := 1) (md := 1) (ls1 := [(2, 12), (2, 8), (9, 0)]) (r1 := []) rfl rfl rfl rfl rfl (K_pLearn (by omega) l3 l4 hl3 hl4 hl36 n hn9 w0 hI0 hn0) ?_
      rintro r3 w3 _ ⟨rfl, wT, hTA, hTE⟩
      obtain ⟨⟨x3, rfl⟩, h13, hTF⟩ := hTE.fin ((hTA.o (by decide) (by decide) (by decide)).trans e6) ((hTA.o (by decide) (by decide) (by decide)).trans e7)
      have h13 : w3 1 3 = w0 1 3 := h13.trans (hTA.o (by decide) (by decide) (by decide))
      have hTB : TKB w l3 l4 n wT := TKA.b h90 (hn0.trans hn.symm) hn hTA
      show qG none (d + 1) 169 41 [(2, 1), (0, k), (0, (-1))] [(0, x3)] w3 142 Q9
      refine qG.blk 3 (pc' := 46) (ls' := [(2, 1), (0, k), (0, x3)]) (st' := [(2, w3 1 3)]) (w' := w3) (n' := 142) rfl ?_
      rw [show w3 1 3 = 8 from h13.trans (zref hI0 rfl rfl)]
      refine qG.blk 1 (pc' := 47) (ls' := [(2, 1), (0, k), (0, x3)]) (st' := [(0, 0), (2, 8)]) (w' := w3) (n' := 142) rfl ?_
      refine qG.call (t := 131) (na := 2) (sk := 1) (md := 1) (ls1 := [(2, 8), (0, 0)]) (r1 := []) rfl rfl rfl rfl rfl (K_cut0 (Nat.zero_le _) w3) ?_
      rintro _ w4 _ ⟨⟨x4, rfl⟩, hw4, rfl⟩
      show qG none (d + 1) 169 50 [(2, 1), (0, k), (0, x3)] [(0, x4)] w4 142 Q9
      refine qG.blk 2 (pc' := 52) (ls' := [(2, 1), (0, k), (0, x3)]) (st' := [(0, x3)]) (w' := w4) (n' := 142) rfl ?_
      refine qG.ret rfl rfl ?_
      subst hQ9
      first | exact .inl ⟨hk0, hk4, rfl, by rcases hw4 with e | e <;> rw [e] <;> first | exact e6 | exact (qup_j (by decide)).trans e6, by rcases hw4 with e | e <;> rw [e] <;> first | exact e7 | exact (qup_j (by decide)).trans e7⟩ | exact .inr (.inl ⟨hk0, l, l2, wT, hl, hl2, hTB, hTF.o hw4⟩) | exact .inr (.inr ⟨hk4, l3, l4, wT, hl3, hl4, hTB, hTF.o hw4⟩)
    · skip
      refine qG.blk 2 (pc' := 46) (ls' := [(2, 1), (0, k), (0, (-1))]) (st' := [(2, w0 1 3)]) (w' := w0) (n' := 142) rfl ?_
      rw [show w0 1 3 = 8 from zref hI0 rfl rfl]
      refine qG.blk 1 (pc' := 47) (ls' := [(2, 1), (0, k), (0, (-1))]) (st' := [(0, 0), (2, 8)]) (w' := w0) (n' := 142) rfl ?_
      refine qG.call (t := 131) (na := 2) (sk := 1) (md := 1) (ls1 := [(2, 8), (0, 0)]) (r1 := []) rfl rfl rfl rfl rfl (K_cut0 (Nat.zero_le _) w0) ?_
      rintro _ w4 _ ⟨⟨x4, rfl⟩, hw4, rfl⟩
      show qG none (d + 1) 169 50 [(2, 1), (0, k), (0, (-1))] [(0, x4)] w4 142 Q9
      refine qG.blk 2 (pc' := 52) (ls' := [(2, 1), (0, k), (0, (-1))]) (st' := [(0, (-1))]) (w' := w4) (n' := 142) rfl ?_
      refine qG.ret rfl rfl ?_
      subst hQ9
      first | exact .inl ⟨hk0, hk4, rfl, by rcases hw4 with e | e <;> rw [e] <;> first | exact e6 | exact (qup_j (by decide)).trans e6, by rcases hw4 with e | e <;> rw [e] <;> first | exact e7 | exact (qup_j (by decide)).trans e7⟩ | exact .inr (.inl ⟨hk0, l, l2, wT, hl, hl2, hTB, hTF.o hw4⟩) | exact .inr (.inr ⟨hk4, l3, l4, wT, hl3, hl4, hTB, hTF.o hw4⟩)
  · skip
    obtain ⟨k9, rfl, hk1, hk2⟩ := isIn_n (by decide) hk0
    refine qG.blk 2 (pc' := 18) (ls' := [(2, 1), (0, ((k9 : Nat) : Int)), (0, (-1))]) (st' := [(0, ((k9 : Nat) : Int)), (2, 1)]) (w' := w0) (n' := 142) rfl ?_
    refine qG.call (t := 202) (na := 2) (sk := 1) (md := 1) (ls1 := [(2, 1), (0, ((k9 : Nat) : Int)), (9, 0)]) (r1 := []) rfl rfl rfl rfl rfl (K_learnSh87 (by omega) k9 (by omega) l l2 hl hl2 hl6 n hn9 w0 hI0 hn0 h120) ?_
    rintro r3 w3 _ ⟨rfl, hL⟩
    obtain ⟨⟨x3, rfl⟩, h13, wT, hTA, hTF⟩ := hL.fin (by decide) (by decide) e6 e7 (by decide)
    have hTB : TKB w l l2 n wT := TKA.b (fun j => (qup_nk (by decide)).trans (h90 j)) ((qup_nk (by decide)).trans (hn0.trans hn.symm)) hn hTA
    show qG none (d + 1) 169 21 [(2, 1), (0, ((k9 : Nat) : Int)), (0, (-1))] [(0, x3)] w3 142 Q9
    refine qG.blk 4 (pc' := 46) (ls' := [(2, 1), (0, ((k9 : Nat) : Int)), (0, x3)]) (st' := [(2, w3 1 3)]) (w' := w3) (n' := 142) rfl ?_
    rw [show w3 1 3 = 8 from h13.trans (zref hI0 rfl rfl)]
    refine qG.blk 1 (pc' := 47) (ls' := [(2, 1), (0, ((k9 : Nat) : Int)), (0, x3)]) (st' := [(0, 0), (2, 8)]) (w' := w3) (n' := 142) rfl ?_
    refine qG.call (t := 131) (na := 2) (sk := 1) (md := 1) (ls1 := [(2, 8), (0, 0)]) (r1 := []) rfl rfl rfl rfl rfl (K_cut0 (Nat.zero_le _) w3) ?_
    rintro _ w4 _ ⟨⟨x4, rfl⟩, hw4, rfl⟩
    show qG none (d + 1) 169 50 [(2, 1), (0, ((k9 : Nat) : Int)), (0, x3)] [(0, x4)] w4 142 Q9
    refine qG.blk 2 (pc' := 52) (ls' := [(2, 1), (0, ((k9 : Nat) : Int)), (0, x3)]) (st' := [(0, x3)]) (w' := w4) (n' := 142) rfl ?_
    refine qG.ret rfl rfl ?_
    subst hQ9
    first | exact .inl ⟨hk0, hk4, rfl, by rcases hw4 with e | e <;> rw [e] <;> first | exact e6 | exact (qup_j (by decide)).trans e6, by rcases hw4 with e | e <;> rw [e] <;> first | exact e7 | exact (qup_j (by decide)).trans e7⟩ | exact .inr (.inl ⟨hk0, l, l2, wT, hl, hl2, hTB, hTF.o hw4⟩) | exact .inr (.inr ⟨hk4, l3, l4, wT, hl3, hl4, hTB, hTF.o hw4⟩)
theorem K_X11_textE91 {d : Nat} (hd : 30 ≤ d) (k : Int) (l l2 : List Int) (hl : qtxb 3 = some l) (hl2 : qtxb 4 = some l2) (hl6 : l.length ≤ 600) (l3 l4 : List Int) (hl3 : qtxb 1 = some l3) (hl4 : qtxb 2 = some l4) (hl36 : l3.length ≤ 600) (n : Nat) (hn9 : n ≤ 600) (w : qW) (hI : yInv zgf zga zra zSp w) (hn : w 8 1 = (n : Int)) (h12 : w 1 2 = 91) : qG none d 169 0 [(2, 1), (0, k), (9, 0)] [] w 142 (fun (r : qV) (w1 : qW) (_ : Nat) => TEX k w n r w1) := by
  generalize hQ9 : (fun (r : qV) (w1 : qW) (_ : Nat) => TEX k w n r w1) = Q9
  obtain ⟨d, rfl⟩ : ∃ d9, d = d9 + 1 := ⟨d - 1, by omega⟩
  refine qG.blk 2 (pc' := 4) (ls' := [(2, 1), (0, k), (9, 0)]) (st' := [(2, w 1 3)]) (w' := w) (n' := 142) rfl ?_
  rw [show w 1 3 = 8 from zref hI rfl rfl]
  refine qG.call (t := 132) (na := 1) (sk := 1) (md := 1) (ls1 := [(2, 8)]) (r1 := []) rfl rfl rfl rfl rfl (K_forget (Nat.zero_le _) w) ?_
  rintro _ w7 _ ⟨rfl, hw7, rfl⟩
  obtain ⟨w0, hw0⟩ : ∃ q : qW, q = qup (qup w 8 6 0) 8 7 (-1) := ⟨_, rfl⟩
  rw [← hw0] at hw7
  rw [hw7]
  have hI0 : yInv zgf zga zra zSp w0 := by rw [hw0]; exact zup_f (zup_f hI (b := (0, 3)) rfl rfl rfl ⟨by decide, by decide⟩) (b := (-2147483648, 2147483647)) rfl rfl rfl ⟨by decide, by decide⟩
  have e6 : w0 8 6 = 0 := by rw [hw0, qup_j (by decide), qup_k]
  have e7 : w0 8 7 = -1 := by rw [hw0, qup_k]
  have hn0 : w0 8 1 = (n : Int) := by rw [hw0, qup_j (by decide), qup_j (by decide)]; exact hn
  have h120 : w0 1 2 = 91 := by rw [hw0, qup_ne (by decide), qup_ne (by decide)]; exact h12
  have h90 : ∀ j, w0 9 j = w 9 j := fun j => by rw [hw0, qup_ne (by decide), qup_ne (by decide)]
  show qG none (d + 1) 169 7 [(2, 1), (0, k), (9, 0)] [] w0 142 Q9
  refine qG.blk 3 (pc' := 10) (ls' := [(2, 1), (0, k), (0, (-1))]) (st' := [(0, k)]) (w' := w0) (n' := 142) rfl ?_
  refine qG.call (t := 199) (na := 1) (sk := 0) (md := 0) (ls1 := [(0, k)]) (r1 := []) rfl rfl rfl rfl rfl (K_X11_isShow (Nat.zero_le _) _ _) ?_
  rintro _ w7 _ ⟨rfl, hw7, rfl⟩
  rw [hw7]
  show qG none (d + 1) 169 13 [(2, 1), (0, k), (0, (-1))] [(0, isInV k 0 3)] w0 142 Q9
  refine qG.br (P := isInV k 0 3 = 0) (pc1 := 25) (pc2 := 16) (st1 := []) rfl (fun hk0 => ?_) (fun hk0 => ?_)
  · skip
    refine qG.blk 2 (pc' := 27) (ls' := [(2, 1), (0, k), (0, (-1))]) (st' := [(0, 4), (0, k)]) (w' := w0) (n' := 142) rfl ?_
    refine qG.br (P := k = 4) (pc1 := 30) (pc2 := 42) (st1 := []) rfl (fun hk4 => ?_) (fun hk4 => ?_)
    · skip
      refine qG.blk 2 (pc' := 34) (ls' := [(2, 1), (0, k), (0, (-1))]) (st' := [(2, w0 1 4)]) (w' := w0) (n' := 142) rfl ?_
      rw [show w0 1 4 = 12 from zref hI0 rfl rfl]
      refine qG.blk 2 (pc' := 38) (ls' := [(2, 1), (0, k), (0, (-1))]) (st' := [(2, w0 1 3), (2, 12)]) (w' := w0) (n' := 142) rfl ?_
      rw [show w0 1 3 = 8 from zref hI0 rfl rfl]
      refine qG.call (t := 75) (na := 2) (sk := 1) (md := 1) (ls1 := [(2, 12), (2, 8), (9, 0)]) (r1 := []) rfl rfl rfl rfl rfl (K_pLearn (by omega) l3 l4 hl3 hl4 hl36 n hn9 w0 hI0 hn0) ?_
      rintro r3 w3 _ ⟨rfl, wT, hTA, hTE⟩
      obtain ⟨⟨x3, rfl⟩, h13, hTF⟩ := hTE.fin ((hTA.o (by decide) (by decide) (by decide)).trans e6) ((hTA.o (by decide) (by decide) (by decide)).trans e7)
      have h13 : w3 1 3 = w0 1 3 := h13.trans (hTA.o (by decide) (by decide) (by decide))
      have hTB : TKB w l3 l4 n wT := TKA.b h90 (hn0.trans hn.symm) hn hTA
      show qG none (d + 1) 169 41 [(2, 1), (0, k), (0, (-1))] [(0, x3)] w3 142 Q9
      refine qG.blk 3 (pc' := 46) (ls' := [(2, 1), (0, k), (0, x3)]) (st' := [(2, w3 1 3)]) (w' := w3) (n' := 142) rfl ?_
      rw [show w3 1 3 = 8 from h13.trans (zref hI0 rfl rfl)]
      refine qG.blk 1 (pc' := 47) (ls' := [(2, 1), (0, k), (0, x3)]) (st' := [(0, 0), (2, 8)]) (w' := w3) (n' := 142) rfl ?_
      refine qG.call (t := 131) (na := 2) (sk := 1) (md := 1) (ls1 := [(2, 8), (0, 0)]) (r1 := []) rfl rfl rfl rfl rfl (K_cut0 (Nat.zero_le _) w3) ?_
      rintro _ w4 _ ⟨⟨x4, rfl⟩, hw4, rfl⟩
      show qG none (d + 1) 169 50 [(2, 1), (0, k), (0, x3)] [(0, x4)] w4 142 Q9
      refine qG.blk 2 (pc' := 52) (ls' := [(2, 1), (0, k), (0, x3)]) (st' := [(0, x3)]) (w' := w4) (n' := 142) rfl ?_
      refine qG.ret rfl rfl ?_
      subst hQ9
      first | exact .inl ⟨hk0, hk4, rfl, by rcases hw4 with e | e <;> rw [e] <;> first | exact e6 | exact (qup_j (by decide)).trans e6, by rcases hw4 with e | e <;> rw [e] <;> first | exact e7 | exact (qup_j (by decide)).trans e7⟩ | exact .inr (.inl ⟨hk0, l, l2, wT, hl, hl2, hTB, hTF.o hw4⟩) | exact .inr (.inr ⟨hk4, l3, l4, wT, hl3, hl4, hTB, hTF.o hw4⟩)
    · skip
      refine qG.blk 2 (pc' := 46) (ls' := [(2, 1), (0, k), (0, (-1))]) (st' := [(2, w0 1 3)]) (w' := w0) (n' := 142) rfl ?_
      rw [show w0 1 3 = 8 from zref hI0 rfl rfl]
      refine qG.blk 1 (pc' := 47) (ls' := [(2, 1), (0, k), (0, (-1))]) (st' := [(0, 0), (2, 8)]) (w' := w0) (n' := 142) rfl ?_
      refine qG.call (t := 131) (na := 2) (sk := 1) (md := 1) (ls1 := [(2, 8), (0, 0)]) (r1 := []) rfl rfl rfl rfl rfl (K_cut0 (Nat.zero_le _) w0) ?_
      rintro _ w4 _ ⟨⟨x4, rfl⟩, hw4, rfl⟩
      show qG none (d + 1) 169 50 [(2, 1), (0, k), (0, (-1))] [(0, x4)] w4 142 Q9
      refine qG.blk 2 (pc' := 52) (ls' := [(2, 1), (0, k), (0, (-1))]) (st' := [(0, (-1))]) (w' := w4) (n' := 142) rfl ?_
      refine qG.ret rfl rfl ?_
      subst hQ9
      first | exact .inl ⟨hk0, hk4, rfl, by rcases hw4 with e | e <;> rw [e] <;> first | exact e6 | exact (qup_j (by decide)).trans e6, by rcases hw4 with e | e <;> rw [e] <;> first | exact e7 | exact (qup_j (by decide)).trans e7⟩ | exact .inr (.inl ⟨hk0, l, l2, wT, hl, hl2, hTB, hTF.o hw4⟩) | exact .inr (.inr ⟨hk4, l3, l4, wT, hl3, hl4, hTB, hTF.o hw4⟩)
  · skip
    obtain ⟨k9, rfl, hk1, hk2⟩ := isIn_n (by decide) hk0
    refine qG.blk 2 (pc' := 18) (ls' := [(2, 1), (0, ((k9 : Nat) : Int)), (0, (-1))]) (st' := [(0, ((k9 : Nat) : Int)), (2, 1)]) (w' := w0) (n' := 142) rfl ?_
    refine qG.call (t := 202) (na := 2) (sk := 1) (md := 1) (ls1 := [(2, 1), (0, ((k9 : Nat) : Int)), (9, 0)]) (r1 := []) rfl rfl rfl rfl rfl (K_learnSh91 (by omega) k9 (by omega) l l2 hl hl2 hl6 n hn9 w0 hI0 hn0 h120) ?_
    rintro r3 w3 _ ⟨rfl, hL⟩
    obtain ⟨⟨x3, rfl⟩, h13, wT, hTA, hTF⟩ := hL.fin (by decide) (by decide) e6 e7 (by decide)
    have hTB : TKB w l l2 n wT := TKA.b (fun j => (qup_nk (by decide)).trans (h90 j)) ((qup_nk (by decide)).trans (hn0.trans hn.symm)) hn hTA
    show qG none (d + 1) 169 21 [(2, 1), (0, ((k9 : Nat) : Int)), (0, (-1))] [(0, x3)] w3 142 Q9
    refine qG.blk 4 (pc' := 46) (ls' := [(2, 1), (0, ((k9 : Nat) : Int)), (0, x3)]) (st' := [(2, w3 1 3)]) (w' := w3) (n' := 142) rfl ?_
    rw [show w3 1 3 = 8 from h13.trans (zref hI0 rfl rfl)]
    refine qG.blk 1 (pc' := 47) (ls' := [(2, 1), (0, ((k9 : Nat) : Int)), (0, x3)]) (st' := [(0, 0), (2, 8)]) (w' := w3) (n' := 142) rfl ?_
    refine qG.call (t := 131) (na := 2) (sk := 1) (md := 1) (ls1 := [(2, 8), (0, 0)]) (r1 := []) rfl rfl rfl rfl rfl (K_cut0 (Nat.zero_le _) w3) ?_
    rintro _ w4 _ ⟨⟨x4, rfl⟩, hw4, rfl⟩
    show qG none (d + 1) 169 50 [(2, 1), (0, ((k9 : Nat) : Int)), (0, x3)] [(0, x4)] w4 142 Q9
    refine qG.blk 2 (pc' := 52) (ls' := [(2, 1), (0, ((k9 : Nat) : Int)), (0, x3)]) (st' := [(0, x3)]) (w' := w4) (n' := 142) rfl ?_
    refine qG.ret rfl rfl ?_
    subst hQ9
    first | exact .inl ⟨hk0, hk4, rfl, by rcases hw4 with e | e <;> rw [e] <;> first | exact e6 | exact (qup_j (by decide)).trans e6, by rcases hw4 with e | e <;> rw [e] <;> first | exact e7 | exact (qup_j (by decide)).trans e7⟩ | exact .inr (.inl ⟨hk0, l, l2, wT, hl, hl2, hTB, hTF.o hw4⟩) | exact .inr (.inr ⟨hk4, l3, l4, wT, hl3, hl4, hTB, hTF.o hw4⟩)
