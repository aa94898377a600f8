/-! the class's lowest bit, next set of as many, next spaces, hangsTogether -/
theorem neg_a {v : Int} {s : Nat} (hs : s < 32) (h : ∀ t, t < s → hbit v t = false) : hbit (wrp (-v)) s = hbit v s := by
  rw [hbit_b hs, ← e_neg, Int32.toBitVec_neg, BitVec.getLsbD_neg, decide_eq_false (show ¬ ∃ j, j < s ∧ (Int32.ofInt v).toBitVec.getLsbD j = true from fun ⟨j, hj, z⟩ => by
    have := h j hj
    rw [hbit_b (by omega), z] at this
    cases this), Bool.and_false, Bool.xor_false, ← hbit_b hs]
theorem neg_b {v : Int} {s r : Nat} (hs : s < 32) (hr : r < s) (h : hbit v r = true) : hbit (wrp (-v)) s = !hbit v s := by
  rw [hbit_b hs, ← e_neg, Int32.toBitVec_neg, BitVec.getLsbD_neg, decide_eq_true (show ∃ j, j < s ∧ (Int32.ofInt v).toBitVec.getLsbD j = true from ⟨r, hr, by rw [← hbit_b (by omega)]; exact h⟩), decide_eq_true hs, Bool.true_and, Bool.xor_true, ← hbit_b hs]
theorem low_eq {v : Int} (hv : 0 ≤ v ∧ v ≤ 65535) {r : Nat} (hr : r < 16) (hb : hbit v r = true) (hlo : ∀ t, t < r → hbit v t = false) : qand v (wrp (-v)) = qshl 1 (r : Int) := by
  obtain ⟨e1, e2⟩ := q2p r hr
  have hx : 0 ≤ qshl 1 (r : Int) ∧ qshl 1 (r : Int) ≤ 65535 := by rw [e1]; have : 0 < 2 ^ r := Nat.two_pow_pos r; omega
  have hl : 0 ≤ qand v (wrp (-v)) ∧ qand v (wrp (-v)) ≤ 65535 := by
    rw [qand_c]
    have := qand_hi (x := wrp (-v)) (y := v) (d := 65535) hv.1 hv.2 (by decide)
    exact ⟨this.1, this.2⟩
  refine hb_ext hl hx (fun s hs => ?_)
  rw [hbit_and (by omega), hbit_1 r (by omega) s (by omega)]
  rcases Nat.lt_trichotomy s r with q | q | q
  · rw [hlo s q, Bool.false_and, decide_eq_false (by omega)]
  · rw [neg_a (by omega) (fun t ht => hlo t (by omega)), q, hb, decide_eq_true rfl]; rfl
  · rw [neg_b (by omega) q hb, decide_eq_false (by omega)]
    cases hbit v s <;> rfl
noncomputable def ntz1 (y : Int) : Int × Int := if 65536 < y then (17, qush y 16) else (1, y)
noncomputable def ntz2 (p : Int × Int) : Int × Int := if 256 < p.2 then (p.1 + 8, qush p.2 8) else p
noncomputable def ntz3 (p : Int × Int) : Int × Int := if 16 < p.2 then (p.1 + 4, qush p.2 4) else p
noncomputable def ntz4 (p : Int × Int) : Int × Int := if 4 < p.2 then (p.1 + 2, qush p.2 2) else p
noncomputable def ntz5 (p : Int × Int) : Int := wrp (p.1 + qush p.2 1)
noncomputable def ntzF (x : Int) : Int := if 0 < qand (qxor x (-1)) (wrp (x - 1)) then ntz5 (ntz4 (ntz3 (ntz2 (ntz1 (qand (qxor x (-1)) (wrp (x - 1))))))) else qand (qand (qxor x (-1)) (wrp (x - 1))) 32
noncomputable def gosF (x : Int) : Int := qor (wrp (x + qand x (wrp (-x)))) (qush (qxor x (wrp (x + qand x (wrp (-x))))) (wrp (2 + ntzF x)))
theorem K_lowest {d : Nat} (hd : 0 ≤ d) (x : Int) (w : qW) : qG none d 300 0 [(0, x)] [] w 142 (fun (r : qV) (w1 : qW) (n1 : Nat) => r = (0, qand x (wrp (-x))) ∧ w1 = w ∧ n1 = 142) := by
  generalize hQ9 : (fun (r : qV) (w1 : qW) (n1 : Nat) => r = (0, qand x (wrp (-x))) ∧ w1 = w ∧ n1 = 142) = Q9
  refine qG.blk 4 (pc' := 4) (ls' := [(0, x)]) (st' := [(0, qand x (wrp (-x)))]) (w' := w) (n' := 142) rfl ?_
  refine qG.ret rfl rfl ?_
  subst hQ9
  exact ⟨rfl, rfl, rfl⟩
theorem K_nTZ {d : Nat} (hd : 0 ≤ d) (x : Int) (w : qW) : qG none d 301 0 [(0, x), (9, 0)] [] w 142 (fun (r : qV) (w1 : qW) (n1 : Nat) => r = (0, ntzF x) ∧ w1 = w ∧ n1 = 142) := by
  generalize hQ9 : (fun (r : qV) (w1 : qW) (n1 : Nat) => r = (0, ntzF x) ∧ w1 = w ∧ n1 = 142) = Q9
  refine qG.blk 6 (pc' := 6) (ls' := [(0, x), (9, 0)]) (st' := [(0, wrp (x - 1)), (0, qxor x (-1))]) (w' := w) (n' := 142) rfl ?_
  refine qG.blk 3 (pc' := 9) (ls' := [(0, qand (qxor x (-1)) (wrp (x - 1))), (9, 0)]) (st' := [(0, qand (qxor x (-1)) (wrp (x - 1)))]) (w' := w) (n' := 142) rfl ?_
  refine qG.br (P := 0 < qand (qxor x (-1)) (wrp (x - 1))) (pc1 := 17) (pc2 := 12) (st1 := []) rfl (fun h0 => ?_) (fun h0 => ?_)
  · skip
    refine qG.blk 4 (pc' := 23) (ls' := [(0, qand (qxor x (-1)) (wrp (x - 1))), (0, 1)]) (st' := [(0, 65536), (0, qand (qxor x (-1)) (wrp (x - 1)))]) (w' := w) (n' := 142) rfl ?_
    refine qG.br (P := 65536 < qand (qxor x (-1)) (wrp (x - 1))) (pc1 := 26) (pc2 := 34) (st1 := []) rfl (fun h1 => ?_) (fun h1 => ?_)
    · skip
      refine qG.blk 1 (pc' := 29) (ls' := [(0, qand (qxor x (-1)) (wrp (x - 1))), (0, wrp (1 + 16))]) (st' := []) (w' := w) (n' := 142) rfl ?_
      rw [show wrp (1 + 16) = 17 from wrp_id (by omega) (by omega)]
      refine qG.blk 6 (pc' := 38) (ls' := [(0, qush (qand (qxor x (-1)) (wrp (x - 1))) 16), (0, 17)]) (st' := [(0, 256), (0, qush (qand (qxor x (-1)) (wrp (x - 1))) 16)]) (w' := w) (n' := 142) rfl ?_
      refine qG.br (P := 256 < qush (qand (qxor x (-1)) (wrp (x - 1))) 16) (pc1 := 41) (pc2 := 49) (st1 := []) rfl (fun h2 => ?_) (fun h2 => ?_)
      · skip
        refine qG.blk 1 (pc' := 44) (ls' := [(0, qush (qand (qxor x (-1)) (wrp (x - 1))) 16), (0, wrp (17 + 8))]) (st' := []) (w' := w) (n' := 142) rfl ?_
        rw [show wrp (17 + 8) = 25 from wrp_id (by omega) (by omega)]
        refine qG.blk 6 (pc' := 52) (ls' := [(0, qush (qush (qand (qxor x (-1)) (wrp (x - 1))) 16) 8), (0, 25)]) (st' := [(0, 16), (0, qush (qush (qand (qxor x (-1)) (wrp (x - 1))) 16) 8)]) (w' := w) (n' := 142) rfl ?_
        refine qG.br (P := 16 < qush (qush (qand (qxor x (-1)) (wrp (x - 1))) 16) 8) (pc1 := 55) (pc2 := 62) (st1 := []) rfl (fun h3 => ?_) (fun h3 => ?_)
        · skip
          refine qG.blk 1 (pc' := 58) (ls' := [(0, qush (qush (qand (qxor x (-1)) (wrp (x - 1))) 16) 8), (0, wrp (25 + 4))]) (st' := []) (w' := w) (n' := 142) rfl ?_
          rw [show wrp (25 + 4) = 29 from wrp_id (by omega) (by omega)]
          refine qG.blk 6 (pc' := 64) (ls' := [(0, qush (qush (qush (qand (qxor x (-1)) (wrp (x - 1))) 16) 8) 4), (0, 29)]) (st' := [(0, 4), (0, qush (qush (qush (qand (qxor x (-1)) (wrp (x - 1))) 16) 8) 4)]) (w' := w) (n' := 142) rfl ?_
          refine qG.br (P := 4 < qush (qush (qush (qand (qxor x (-1)) (wrp (x - 1))) 16) 8) 4) (pc1 := 67) (pc2 := 74) (st1 := []) rfl (fun h4 => ?_) (fun h4 => ?_)
          · skip
            refine qG.blk 1 (pc' := 70) (ls' := [(0, qush (qush (qush (qand (qxor x (-1)) (wrp (x - 1))) 16) 8) 4), (0, wrp (29 + 2))]) (st' := []) (w' := w) (n' := 142) rfl ?_
            rw [show wrp (29 + 2) = 31 from wrp_id (by omega) (by omega)]
            refine qG.blk 9 (pc' := 79) (ls' := [(0, qush (qush (qush (qush (qand (qxor x (-1)) (wrp (x - 1))) 16) 8) 4) 2), (0, 31)]) (st' := [(0, wrp (31 + (qush (qush (qush (qush (qush (qand (qxor x (-1)) (wrp (x - 1))) 16) 8) 4) 2) 1)))]) (w' := w) (n' := 142) rfl ?_
            refine qG.ret rfl rfl ?_
            subst hQ9
            exact ⟨congrArg (Prod.mk (0 : Nat)) (by unfold ntzF; first | (rw [if_neg h0]; done) | (rw [if_pos h0]; unfold ntz5 ntz4 ntz3 ntz2 ntz1; simp only [h1, h2, h3, h4, if_true, if_false]; first | done | rfl) | (rw [if_neg h0]; rfl)), rfl, rfl⟩
          · skip
            refine qG.blk 5 (pc' := 79) (ls' := [(0, qush (qush (qush (qand (qxor x (-1)) (wrp (x - 1))) 16) 8) 4), (0, 29)]) (st' := [(0, wrp (29 + (qush (qush (qush (qush (qand (qxor x (-1)) (wrp (x - 1))) 16) 8) 4) 1)))]) (w' := w) (n' := 142) rfl ?_
            refine qG.ret rfl rfl ?_
            subst hQ9
            exact ⟨congrArg (Prod.mk (0 : Nat)) (by unfold ntzF; first | (rw [if_neg h0]; done) | (rw [if_pos h0]; unfold ntz5 ntz4 ntz3 ntz2 ntz1; simp only [h1, h2, h3, h4, if_true, if_false]; first | done | rfl) | (rw [if_neg h0]; rfl)), rfl, rfl⟩
        · skip
          refine qG.blk 2 (pc' := 64) (ls' := [(0, qush (qush (qand (qxor x (-1)) (wrp (x - 1))) 16) 8), (0, 25)]) (st' := [(0, 4), (0, qush (qush (qand (qxor x (-1)) (wrp (x - 1))) 16) 8)]) (w' := w) (n' := 142) rfl ?_
          refine qG.br (P := 4 < qush (qush (qand (qxor x (-1)) (wrp (x - 1))) 16) 8) (pc1 := 67) (pc2 := 74) (st1 := []) rfl (fun h4 => ?_) (fun h4 => ?_)
          · skip
            refine qG.blk 1 (pc' := 70) (ls' := [(0, qush (qush (qand (qxor x (-1)) (wrp (x - 1))) 16) 8), (0, wrp (25 + 2))]) (st' := []) (w' := w) (n' := 142) rfl ?_
            rw [show wrp (25 + 2) = 27 from wrp_id (by omega) (by omega)]
            refine qG.blk 9 (pc' := 79) (ls' := [(0, qush (qush (qush (qand (qxor x (-1)) (wrp (x - 1))) 16) 8) 2), (0, 27)]) (st' := [(0, wrp (27 + (qush (qush (qush (qush (qand (qxor x (-1)) (wrp (x - 1))) 16) 8) 2) 1)))]) (w' := w) (n' := 142) rfl ?_
            refine qG.ret rfl rfl ?_
            subst hQ9
            exact ⟨congrArg (Prod.mk (0 : Nat)) (by unfold ntzF; first | (rw [if_neg h0]; done) | (rw [if_pos h0]; unfold ntz5 ntz4 ntz3 ntz2 ntz1; simp only [h1, h2, h3, h4, if_true, if_false]; first | done | rfl) | (rw [if_neg h0]; rfl)), rfl, rfl⟩
          · skip
            refine qG.blk 5 (pc' := 79) (ls' := [(0, qush (qush (qand (qxor x (-1)) (wrp (x - 1))) 16) 8), (0, 25)]) (st' := [(0, wrp (25 + (qush (qush (qush (qand (qxor x (-1)) (wrp (x - 1))) 16) 8) 1)))]) (w' := w) (n' := 142) rfl ?_
            refine qG.ret rfl rfl ?_
            subst hQ9
            exact ⟨congrArg (Prod.mk (0 : Nat)) (by unfold ntzF; first | (rw [if_neg h0]; done) | (rw [if_pos h0]; unfold ntz5 ntz4 ntz3 ntz2 ntz1; simp only [h1, h2, h3, h4, if_true, if_false]; first | done | rfl) | (rw [if_neg h0]; rfl)), rfl, rfl⟩
      · skip
        refine qG.blk 2 (pc' := 52) (ls' := [(0, qush (qand (qxor x (-1)) (wrp (x - 1))) 16), (0, 17)]) (st' := [(0, 16), (0, qush (qand (qxor x (-1)) (wrp (x - 1))) 16)]) (w' := w) (n' := 142) rfl ?_
        refine qG.br (P := 16 < qush (qand (qxor x (-1)) (wrp (x - 1))) 16) (pc1 := 55) (pc2 := 62) (st1 := []) rfl (fun h3 => ?_) (fun h3 => ?_)
        · skip
          refine qG.blk 1 (pc' := 58) (ls' := [(0, qush (qand (qxor x (-1)) (wrp (x - 1))) 16), (0, wrp (17 + 4))]) (st' := []) (w' := w) (n' := 142) rfl ?_
          rw [show wrp (17 + 4) = 21 from wrp_id (by omega) (by omega)]
          refine qG.blk 6 (pc' := 64) (ls' := [(0, qush (qush (qand (qxor x (-1)) (wrp (x - 1))) 16) 4), (0, 21)]) (st' := [(0, 4), (0, qush (qush (qand (qxor x (-1)) (wrp (x - 1))) 16) 4)]) (w' := w) (n' := 142) rfl ?_
          refine qG.br (P := 4 < qush (qush (qand (qxor x (-1)) (wrp (x - 1))) 16) 4) (pc1 := 67) (pc2 := 74) (st1 := []) rfl (fun h4 => ?_) (fun h4 => ?_)
          · skip
            refine qG.blk 1 (pc' := 70) (ls' := [(0, qush (qush (qand (qxor x (-1)) (wrp (x - 1))) 16) 4), (0, wrp (21 + 2))]) (st' := []) (w' := w) (n' := 142) rfl ?_
            rw [show wrp (21 + 2) = 23 from wrp_id (by omega) (by omega)]
            refine qG.blk 9 (pc' := 79) (ls' := [(0, qush (qush (qush (qand (qxor x (-1)) (wrp (x - 1))) 16) 4) 2), (0, 23)]) (st' := [(0, wrp (23 + (qush (qush (qush (qush (qand (qxor x (-1)) (wrp (x - 1))) 16) 4) 2) 1)))]) (w' := w) (n' := 142) rfl ?_
            refine qG.ret rfl rfl ?_
            subst hQ9
            exact ⟨congrArg (Prod.mk (0 : Nat)) (by unfold ntzF; first | (rw [if_neg h0]; done) | (rw [if_pos h0]; unfold ntz5 ntz4 ntz3 ntz2 ntz1; simp only [h1, h2, h3, h4, if_true, if_false]; first | done | rfl) | (rw [if_neg h0]; rfl)), rfl, rfl⟩
          · skip
            refine qG.blk 5 (pc' := 79) (ls' := [(0, qush (qush (qand (qxor x (-1)) (wrp (x - 1))) 16) 4), (0, 21)]) (st' := [(0, wrp (21 + (qush (qush (qush (qand (qxor x (-1)) (wrp (x - 1))) 16) 4) 1)))]) (w' := w) (n' := 142) rfl ?_
            refine qG.ret rfl rfl ?_
            subst hQ9
            exact ⟨congrArg (Prod.mk (0 : Nat)) (by unfold ntzF; first | (rw [if_neg h0]; done) | (rw [if_pos h0]; unfold ntz5 ntz4 ntz3 ntz2 ntz1; simp only [h1, h2, h3, h4, if_true, if_false]; first | done | rfl) | (rw [if_neg h0]; rfl)), rfl, rfl⟩
        · skip
          refine qG.blk 2 (pc' := 64) (ls' := [(0, qush (qand (qxor x (-1)) (wrp (x - 1))) 16), (0, 17)]) (st' := [(0, 4), (0, qush (qand (qxor x (-1)) (wrp (x - 1))) 16)]) (w' := w) (n' := 142) rfl ?_
          refine qG.br (P := 4 < qush (qand (qxor x (-1)) (wrp (x - 1))) 16) (pc1 := 67) (pc2 := 74) (st1 := []) rfl (fun h4 => ?_) (fun h4 => ?_)
          · skip
            refine qG.blk 1 (pc' := 70) (ls' := [(0, qush (qand (qxor x (-1)) (wrp (x - 1))) 16), (0, wrp (17 + 2))]) (st' := []) (w' := w) (n' := 142) rfl ?_
            rw [show wrp (17 + 2) = 19 from wrp_id (by omega) (by omega)]
            refine qG.blk 9 (pc' := 79) (ls' := [(0, qush (qush (qand (qxor x (-1)) (wrp (x - 1))) 16) 2), (0, 19)]) (st' := [(0, wrp (19 + (qush (qush (qush (qand (qxor x (-1)) (wrp (x - 1))) 16) 2) 1)))]) (w' := w) (n' := 142) rfl ?_
            refine qG.ret rfl rfl ?_
            subst hQ9
            exact ⟨congrArg (Prod.mk (0 : Nat)) (by unfold ntzF; first | (rw [if_neg h0]; done) | (rw [if_pos h0]; unfold ntz5 ntz4 ntz3 ntz2 ntz1; simp only [h1, h2, h3, h4, if_true, if_false]; first | done | rfl) | (rw [if_neg h0]; rfl)), rfl, rfl⟩
          · skip
            refine qG.blk 5 (pc' := 79) (ls' := [(0, qush (qand (qxor x (-1)) (wrp (x - 1))) 16), (0, 17)]) (st' := [(0, wrp (17 + (qush (qush (qand (qxor x (-1)) (wrp (x - 1))) 16) 1)))]) (w' := w) (n' := 142) rfl ?_
            refine qG.ret rfl rfl ?_
            subst hQ9
            exact ⟨congrArg (Prod.mk (0 : Nat)) (by unfold ntzF; first | (rw [if_neg h0]; done) | (rw [if_pos h0]; unfold ntz5 ntz4 ntz3 ntz2 ntz1; simp only [h1, h2, h3, h4, if_true, if_false]; first | done | rfl) | (rw [if_neg h0]; rfl)), rfl, rfl⟩
    · skip
      refine qG.blk 2 (pc' := 38) (ls' := [(0, qand (qxor x (-1)) (wrp (x - 1))), (0, 1)]) (st' := [(0, 256), (0, qand (qxor x (-1)) (wrp (x - 1)))]) (w' := w) (n' := 142) rfl ?_
      refine qG.br (P := 256 < qand (qxor x (-1)) (wrp (x - 1))) (pc1 := 41) (pc2 := 49) (st1 := []) rfl (fun h2 => ?_) (fun h2 => ?_)
      · skip
        refine qG.blk 1 (pc' := 44) (ls' := [(0, qand (qxor x (-1)) (wrp (x - 1))), (0, wrp (1 + 8))]) (st' := []) (w' := w) (n' := 142) rfl ?_
        rw [show wrp (1 + 8) = 9 from wrp_id (by omega) (by omega)]
        refine qG.blk 6 (pc' := 52) (ls' := [(0, qush (qand (qxor x (-1)) (wrp (x - 1))) 8), (0, 9)]) (st' := [(0, 16), (0, qush (qand (qxor x (-1)) (wrp (x - 1))) 8)]) (w' := w) (n' := 142) rfl ?_
        refine qG.br (P := 16 < qush (qand (qxor x (-1)) (wrp (x - 1))) 8) (pc1 := 55) (pc2 := 62) (st1 := []) rfl (fun h3 => ?_) (fun h3 => ?_)
        · skip
          refine qG.blk 1 (pc' := 58) (ls' := [(0, qush (qand (qxor x (-1)) (wrp (x - 1))) 8), (0, wrp (9 + 4))]) (st' := []) (w' := w) (n' := 142) rfl ?_
          rw [show wrp (9 + 4) = 13 from wrp_id (by omega) (by omega)]
          refine qG.blk 6 (pc' := 64) (ls' := [(0, qush (qush (qand (qxor x (-1)) (wrp (x - 1))) 8) 4), (0, 13)]) (st' := [(0, 4), (0, qush (qush (qand (qxor x (-1)) (wrp (x - 1))) 8) 4)]) (w' := w) (n' := 142) rfl ?_
          refine qG.br (P := 4 < qush (qush (qand (qxor x (-1)) (wrp (x - 1))) 8) 4) (pc1 := 67) (pc2 := 74) (st1 := []) rfl (fun h4 => ?_) (fun h4 => ?_)
          · skip
            refine qG.blk 1 (pc' := 70) (ls' := [(0, qush (qush (qand (qxor x (-1)) (wrp (x - 1))) 8) 4), (0, wrp (13 + 2))]) (st' := []) (w' := w) (n' := 142) rfl ?_
            rw [show wrp (13 + 2) = 15 from wrp_id (by omega) (by omega)]
            refine qG.blk 9 (pc' := 79) (ls' := [(0, qush (qush (qush (qand (qxor x (-1)) (wrp (x - 1))) 8) 4) 2), (0, 15)]) (st' := [(0, wrp (15 + (qush (qush (qush (qush (qand (qxor x (-1)) (wrp (x - 1))) 8) 4) 2) 1)))]) (w' := w) (n' := 142) rfl ?_
            refine qG.ret rfl rfl ?_
            subst hQ9
            exact ⟨congrArg (Prod.mk (0 : Nat)) (by unfold ntzF; first | (rw [if_neg h0]; done) | (rw [if_pos h0]; unfold ntz5 ntz4 ntz3 ntz2 ntz1; simp only [h1, h2, h3, h4, if_true, if_false]; first | done | rfl) | (rw [if_neg h0]; rfl)), rfl, rfl⟩
          · skip
            refine qG.blk 5 (pc' := 79) (ls' := [(0, qush (qush (qand (qxor x (-1)) (wrp (x - 1))) 8) 4), (0, 13)]) (st' := [(0, wrp (13 + (qush (qush (qush (qand (qxor x (-1)) (wrp (x - 1))) 8) 4) 1)))]) (w' := w) (n' := 142) rfl ?_
            refine qG.ret rfl rfl ?_
            subst hQ9
            exact ⟨congrArg (Prod.mk (0 : Nat)) (by unfold ntzF; first | (rw [if_neg h0]; done) | (rw [if_pos h0]; unfold ntz5 ntz4 ntz3 ntz2 ntz1; simp only [h1, h2, h3, h4, if_true, if_false]; first | done | rfl) | (rw [if_neg h0]; rfl)), rfl, rfl⟩
        · skip
          refine qG.blk 2 (pc' := 64) (ls' := [(0, qush (qand (qxor x (-1)) (wrp (x - 1))) 8), (0, 9)]) (st' := [(0, 4), (0, qush (qand (qxor x (-1)) (wrp (x - 1))) 8)]) (w' := w) (n' := 142) rfl ?_
          refine qG.br (P := 4 < qush (qand (qxor x (-1)) (wrp (x - 1))) 8) (pc1 := 67) (pc2 := 74) (st1 := []) rfl (fun h4 => ?_) (fun h4 => ?_)
          · skip
            refine qG.blk 1 (pc' := 70) (ls' := [(0, qush (qand (qxor x (-1)) (wrp (x - 1))) 8), (0, wrp (9 + 2))]) (st' := []) (w' := w) (n' := 142) rfl ?_
            rw [show wrp (9 + 2) = 11 from wrp_id (by omega) (by omega)]
            refine qG.blk 9 (pc' := 79) (ls' := [(0, qush (qush (qand (qxor x (-1)) (wrp (x - 1))) 8) 2), (0, 11)]) (st' := [(0, wrp (11 + (qush (qush (qush (qand (qxor x (-1)) (wrp (x - 1))) 8) 2) 1)))]) (w' := w) (n' := 142) rfl ?_
            refine qG.ret rfl rfl ?_
            subst hQ9
            exact ⟨congrArg (Prod.mk (0 : Nat)) (by unfold ntzF; first | (rw [if_neg h0]; done) | (rw [if_pos h0]; unfold ntz5 ntz4 ntz3 ntz2 ntz1; simp only [h1, h2, h3, h4, if_true, if_false]; first | done | rfl) | (rw [if_neg h0]; rfl)), rfl, rfl⟩
          · skip
            refine qG.blk 5 (pc' := 79) (ls' := [(0, qush (qand (qxor x (-1)) (wrp (x - 1))) 8), (0, 9)]) (st' := [(0, wrp (9 + (qush (qush (qand (qxor x (-1)) (wrp (x - 1))) 8) 1)))]) (w' := w) (n' := 142) rfl ?_
            refine qG.ret rfl rfl ?_
            subst hQ9
            exact ⟨congrArg (Prod.mk (0 : Nat)) (by unfold ntzF; first | (rw [if_neg h0]; done) | (rw [if_pos h0]; unfold ntz5 ntz4 ntz3 ntz2 ntz1; simp only [h1, h2, h3, h4, if_true, if_false]; first | done | rfl) | (rw [if_neg h0]; rfl)), rfl, rfl⟩
      · skip
        refine qG.blk 2 (pc' := 52) (ls' := [(0, qand (qxor x (-1)) (wrp (x - 1))), (0, 1)]) (st' := [(0, 16), (0, qand (qxor x (-1)) (wrp (x - 1)))]) (w' := w) (n' := 142) rfl ?_
        refine qG.br (P := 16 < qand (qxor x (-1)) (wrp (x - 1))) (pc1 := 55) (pc2 := 62) (st1 := []) rfl (fun h3 => ?_) (fun h3 => ?_)
        · skip
          refine qG.blk 1 (pc' := 58) (ls' := [(0, qand (qxor x (-1)) (wrp (x - 1))), (0, wrp (1 + 4))]) (st' := []) (w' := w) (n' := 142) rfl ?_
          rw [show wrp (1 + 4) = 5 from wrp_id (by omega) (by omega)]
          refine qG.blk 6 (pc' := 64) (ls' := [(0, qush (qand (qxor x (-1)) (wrp (x - 1))) 4), (0, 5)]) (st' := [(0, 4), (0, qush (qand (qxor x (-1)) (wrp (x - 1))) 4)]) (w' := w) (n' := 142) rfl ?_
          refine qG.br (P := 4 < qush (qand (qxor x (-1)) (wrp (x - 1))) 4) (pc1 := 67) (pc2 := 74) (st1 := []) rfl (fun h4 => ?_) (fun h4 => ?_)
          · skip
            refine qG.blk 1 (pc' := 70) (ls' := [(0, qush (qand (qxor x (-1)) (wrp (x - 1))) 4), (0, wrp (5 + 2))]) (st' := []) (w' := w) (n' := 142) rfl ?_
            rw [show wrp (5 + 2) = 7 from wrp_id (by omega) (by omega)]
            refine qG.blk 9 (pc' := 79) (ls' := [(0, qush (qush (qand (qxor x (-1)) (wrp (x - 1))) 4) 2), (0, 7)]) (st' := [(0, wrp (7 + (qush (qush (qush (qand (qxor x (-1)) (wrp (x - 1))) 4) 2) 1)))]) (w' := w) (n' := 142) rfl ?_
            refine qG.ret rfl rfl ?_
            subst hQ9
            exact ⟨congrArg (Prod.mk (0 : Nat)) (by unfold ntzF; first | (rw [if_neg h0]; done) | (rw [if_pos h0]; unfold ntz5 ntz4 ntz3 ntz2 ntz1; simp only [h1, h2, h3, h4, if_true, if_false]; first | done | rfl) | (rw [if_neg h0]; rfl)), rfl, rfl⟩
          · skip
            refine qG.blk 5 (pc' := 79) (ls' := [(0, qush (qand (qxor x (-1)) (wrp (x - 1))) 4), (0, 5)]) (st' := [(0, wrp (5 + (qush (qush (qand (qxor x (-1)) (wrp (x - 1))) 4) 1)))]) (w' := w) (n' := 142) rfl ?_
            refine qG.ret rfl rfl ?_
            subst hQ9
            exact ⟨congrArg (Prod.mk (0 : Nat)) (by unfold ntzF; first | (rw [if_neg h0]; done) | (rw [if_pos h0]; unfold ntz5 ntz4 ntz3 ntz2 ntz1; simp only [h1, h2, h3, h4, if_true, if_false]; first | done | rfl) | (rw [if_neg h0]; rfl)), rfl, rfl⟩
        · skip
          refine qG.blk 2 (pc' := 64) (ls' := [(0, qand (qxor x (-1)) (wrp (x - 1))), (0, 1)]) (st' := [(0, 4), (0, qand (qxor x (-1)) (wrp (x - 1)))]) (w' := w) (n' := 142) rfl ?_
          refine qG.br (P := 4 < qand (qxor x (-1)) (wrp (x - 1))) (pc1 := 67) (pc2 := 74) (st1 := []) rfl (fun h4 => ?_) (fun h4 => ?_)
          · skip
            refine qG.blk 1 (pc' := 70) (ls' := [(0, qand (qxor x (-1)) (wrp (x - 1))), (0, wrp (1 + 2))]) (st' := []) (w' := w) (n' := 142) rfl ?_
            rw [show wrp (1 + 2) = 3 from wrp_id (by omega) (by omega)]
            refine qG.blk 9 (pc' := 79) (ls' := [(0, qush (qand (qxor x (-1)) (wrp (x - 1))) 2), (0, 3)]) (st' := [(0, wrp (3 + (qush (qush (qand (qxor x (-1)) (wrp (x - 1))) 2) 1)))]) (w' := w) (n' := 142) rfl ?_
            refine qG.ret rfl rfl ?_
            subst hQ9
            exact ⟨congrArg (Prod.mk (0 : Nat)) (by unfold ntzF; first | (rw [if_neg h0]; done) | (rw [if_pos h0]; unfold ntz5 ntz4 ntz3 ntz2 ntz1; simp only [h1, h2, h3, h4, if_true, if_false]; first | done | rfl) | (rw [if_neg h0]; rfl)), rfl, rfl⟩
          · skip
            refine qG.blk 5 (pc' := 79) (ls' := [(0, qand (qxor x (-1)) (wrp (x - 1))), (0, 1)]) (st' := [(0, wrp (1 + (qush (qand (qxor x (-1)) (wrp (x - 1))) 1)))]) (w' := w) (n' := 142) rfl ?_
            refine qG.ret rfl rfl ?_
            subst hQ9
            exact ⟨congrArg (Prod.mk (0 : Nat)) (by unfold ntzF; first | (rw [if_neg h0]; done) | (rw [if_pos h0]; unfold ntz5 ntz4 ntz3 ntz2 ntz1; simp only [h1, h2, h3, h4, if_true, if_false]; first | done | rfl) | (rw [if_neg h0]; rfl)), rfl, rfl⟩
  · skip
    refine qG.blk 3 (pc' := 16) (ls' := [(0, qand (qxor x (-1)) (wrp (x - 1))), (9, 0)]) (st' := [(0, qand (qand (qxor x (-1)) (wrp (x - 1))) 32)]) (w' := w) (n' := 142) rfl ?_
    refine qG.ret rfl rfl ?_
    subst hQ9
    exact ⟨congrArg (Prod.mk (0 : Nat)) (by unfold ntzF; first | (rw [if_neg h0]; done) | (rw [if_pos h0]; unfold ntz5 ntz4 ntz3 ntz2 ntz1; simp only [h1, h2, h3, h4, if_true, if_false]; first | done | rfl) | (rw [if_neg h0]; rfl)), rfl, rfl⟩
theorem K_nextOf {d : Nat} (hd : 1 ≤ d) (x : Int) (w : qW) : qG none d 96 0 [(0, x), (9, 0), (9, 0)] [] w 142 (fun (r : qV) (w1 : qW) (n1 : Nat) => r = (0, gosF x) ∧ w1 = w ∧ n1 = 142) := by
  generalize hQ9 : (fun (r : qV) (w1 : qW) (n1 : Nat) => r = (0, gosF x) ∧ w1 = w ∧ n1 = 142) = Q9
  obtain ⟨d, rfl⟩ : ∃ d9, d = d9 + 1 := ⟨d - 1, by omega⟩
  refine qG.blk 1 (pc' := 1) (ls' := [(0, x), (9, 0), (9, 0)]) (st' := [(0, x)]) (w' := w) (n' := 142) rfl ?_
  refine qG.call (t := 300) (na := 1) (sk := 0) (md := 0) (ls1 := [(0, x)]) (r1 := []) rfl rfl rfl rfl rfl (K_lowest (Nat.zero_le _) x _) ?_
  rintro _ w7 _ ⟨rfl, hw7, rfl⟩
  rw [hw7]
  show qG none (d + 1) 96 4 [(0, x), (9, 0), (9, 0)] [(0, qand x (wrp (-x)))] w 142 Q9
  refine qG.blk 4 (pc' := 8) (ls' := [(0, x), (0, qand x (wrp (-x))), (9, 0)]) (st' := [(0, wrp (x + (qand x (wrp (-x)))))]) (w' := w) (n' := 142) rfl ?_
  refine qG.blk 7 (pc' := 15) (ls' := [(0, x), (0, qand x (wrp (-x))), (0, wrp (x + (qand x (wrp (-x)))))]) (st' := [(0, x), (0, 2), (0, qxor x (wrp (x + (qand x (wrp (-x)))))), (0, wrp (x + (qand x (wrp (-x)))))]) (w' := w) (n' := 142) rfl ?_
  refine qG.call (t := 301) (na := 1) (sk := 0) (md := 0) (ls1 := [(0, x), (9, 0)]) (r1 := [(0, 2), (0, qxor x (wrp (x + (qand x (wrp (-x)))))), (0, wrp (x + (qand x (wrp (-x)))))]) rfl rfl rfl rfl rfl (K_nTZ (Nat.zero_le _) x _) ?_
  rintro _ w7 _ ⟨rfl, hw7, rfl⟩
  rw [hw7]
  show qG none (d + 1) 96 18 [(0, x), (0, qand x (wrp (-x))), (0, wrp (x + (qand x (wrp (-x)))))] [(0, ntzF x), (0, 2), (0, qxor x (wrp (x + (qand x (wrp (-x)))))), (0, wrp (x + (qand x (wrp (-x)))))] w 142 Q9
  refine qG.blk 1 (pc' := 19) (ls' := [(0, x), (0, qand x (wrp (-x))), (0, wrp (x + (qand x (wrp (-x)))))]) (st' := [(0, wrp (2 + (ntzF x))), (0, qxor x (wrp (x + (qand x (wrp (-x)))))), (0, wrp (x + (qand x (wrp (-x)))))]) (w' := w) (n' := 142) rfl ?_
  refine qG.blk 2 (pc' := 21) (ls' := [(0, x), (0, qand x (wrp (-x))), (0, wrp (x + (qand x (wrp (-x)))))]) (st' := [(0, qor (wrp (x + (qand x (wrp (-x))))) (qush (qxor x (wrp (x + (qand x (wrp (-x)))))) (wrp (2 + (ntzF x)))))]) (w' := w) (n' := 142) rfl ?_
  refine qG.ret rfl rfl ?_
  subst hQ9
  exact ⟨rfl, rfl, rfl⟩
theorem K_nextTo64 {d : Nat} (hd : 0 ≤ d) (x : Int) (w : qW) (hg2 : w 64 2 = 65) : qG none d 28 0 [(2, 64), (0, x), (9, 0), (9, 0)] [] w 142 (fun (r : qV) (w1 : qW) (n1 : Nat) => r = (0, ntF (w 65) x 16) ∧ w1 = w ∧ n1 = 142) := by
  generalize hQ9 : (fun (r : qV) (w1 : qW) (n1 : Nat) => r = (0, ntF (w 65) x 16) ∧ w1 = w ∧ n1 = 142) = Q9
  refine qG.blk 4 (pc' := 4) (ls' := [(2, 64), (0, x), (0, 0), (0, 0)]) (st' := []) (w' := w) (n' := 142) rfl ?_
  have L4 : ∀ (m9 : Nat) (s : Nat), 16 - s = m9 → (s ≤ 16) → qG none d 28 4 [(2, 64), (0, x), (0, ntF (w 65) x s), (0, ((s : Nat) : Int))] [] w 142 Q9 := by
    intro m9
    induction m9 using Nat.strongRecOn with
    | ind m9 ih4 =>
    intro s hm4 hI4
    refine qG.blk 2 (pc' := 7) (ls' := [(2, 64), (0, x), (0, ntF (w 65) x s), (0, ((s : Nat) : Int))]) (st' := [(0, 16), (0, ((s : Nat) : Int))]) (w' := w) (n' := 142) rfl ?_
    refine qG.br (P := ((s : Nat) : Int) < 16) (pc1 := 10) (pc2 := 33) (st1 := []) rfl (fun h1 => ?_) (fun h1 => ?_)
    · skip
      refine qG.blk 5 (pc' := 15) (ls' := [(2, 64), (0, x), (0, ntF (w 65) x s), (0, ((s : Nat) : Int))]) (st' := [(0, qand (qush x ((s : Nat) : Int)) 1)]) (w' := w) (n' := 142) rfl ?_
      rw [show qand (qush x ((s : Nat) : Int)) 1 = (if hbit x s = true then 1 else 0) from ush_b (by omega)]
      refine qG.br (P := (if hbit x s = true then 1 else 0) = 0) (pc1 := 27) (pc2 := 18) (st1 := []) rfl (fun hb9 => ?_) (fun hb9 => ?_)
      · skip
        have hb : ¬ hbit x s = true := ite01.mp hb9
        refine qG.blk 1 (pc' := 30) (ls' := [(2, 64), (0, x), (0, ntF (w 65) x s), (0, wrp (((s : Nat) : Int) + 1))]) (st' := []) (w' := w) (n' := 142) rfl ?_
        rw [show wrp (((s : Nat) : Int) + 1) = ((s + 1 : Nat) : Int) from wrp_id (by omega) (by omega)]
        refine qG.blk 1 (pc' := 4) (ls' := [(2, 64), (0, x), (0, ntF (w 65) x s), (0, ((s + 1 : Nat) : Int))]) (st' := []) (w' := w) (n' := 142) rfl ?_
        have e9 : ntF (w 65) x (s + 1) = ntF (w 65) x s := by show (if hbit x s = true then qor (ntF (w 65) x s) ((w 65) s) else ntF (w 65) x s) = _; first | (rw [if_pos hb]; done) | (rw [if_neg hb]; done)
        have := ih4 _ (by omega) (s + 1) rfl (by omega)
        rw [e9] at this
        exact this
      · skip
        have hb : hbit x s = true := Decidable.of_not_not (fun z => hb9 (ite01.mpr z))
        refine qG.blk 3 (pc' := 23) (ls' := [(2, 64), (0, x), (0, ntF (w 65) x s), (0, ((s : Nat) : Int))]) (st' := [(2, w 64 2), (0, ntF (w 65) x s)]) (w' := w) (n' := 142) rfl ?_
        rw [show w 64 2 = 65 from hg2]
        refine qG.blk 1 (pc' := 24) (ls' := [(2, 64), (0, x), (0, ntF (w 65) x s), (0, ((s : Nat) : Int))]) (st' := [(0, ((s : Nat) : Int)), (2, 65), (0, ntF (w 65) x s)]) (w' := w) (n' := 142) rfl ?_
        refine qG.ar (P := 0 ≤ ((s : Nat) : Int) ∧ ((s : Nat) : Int) < ((16 : Nat) : Int)) (P2 := 0 < (65 : Int) ∧ (65 : Int) ≤ ((142 : Nat) : Int)) (pc' := 25) (ls' := [(2, 64), (0, x), (0, ntF (w 65) x s), (0, ((s : Nat) : Int))]) (st' := [(0, w 65 s), (0, ntF (w 65) x s)]) (w' := w) (n' := 142) rfl (by omega) (by decide) ?_
        refine qG.blk 3 (pc' := 30) (ls' := [(2, 64), (0, x), (0, qor (ntF (w 65) x s) (w 65 s)), (0, wrp (((s : Nat) : Int) + 1))]) (st' := []) (w' := w) (n' := 142) rfl ?_
        rw [show wrp (((s : Nat) : Int) + 1) = ((s + 1 : Nat) : Int) from wrp_id (by omega) (by omega)]
        refine qG.blk 1 (pc' := 4) (ls' := [(2, 64), (0, x), (0, qor (ntF (w 65) x s) (w 65 s)), (0, ((s + 1 : Nat) : Int))]) (st' := []) (w' := w) (n' := 142) rfl ?_
        have e9 : ntF (w 65) x (s + 1) = qor (ntF (w 65) x s) (w 65 s) := by show (if hbit x s = true then qor (ntF (w 65) x s) ((w 65) s) else ntF (w 65) x s) = _; first | (rw [if_pos hb]; done) | (rw [if_neg hb]; done)
        have := ih4 _ (by omega) (s + 1) rfl (by omega)
        rw [e9] at this
        exact this
    · skip
      refine qG.blk 1 (pc' := 34) (ls' := [(2, 64), (0, x), (0, ntF (w 65) x s), (0, ((s : Nat) : Int))]) (st' := [(0, ntF (w 65) x s)]) (w' := w) (n' := 142) rfl ?_
      refine qG.ret rfl rfl ?_
      subst hQ9
      exact ⟨by rw [show s = 16 by omega], rfl, rfl⟩
  exact L4 _ (0) rfl (by omega)
theorem K_hangsX64 {d : Nat} (hd : 1 ≤ d) (v : Int) (w : qW) (hg2 : w 64 2 = 65) : qG none d 29 0 [(2, 64), (0, v), (9, 0), (9, 0)] [] w 142 (fun (r : qV) (w1 : qW) (n1 : Nat) => r = (0, if stI (w 65) v (stI (w 65) v (stI (w 65) v (qand v (wrp (-v))))) = v then 1 else 0) ∧ w1 = w ∧ n1 = 142) := by
  generalize hQ9 : (fun (r : qV) (w1 : qW) (n1 : Nat) => r = (0, if stI (w 65) v (stI (w 65) v (stI (w 65) v (qand v (wrp (-v))))) = v then 1 else 0) ∧ w1 = w ∧ n1 = 142) = Q9
  obtain ⟨d, rfl⟩ : ∃ d9, d = d9 + 1 := ⟨d - 1, by omega⟩
  refine qG.blk 1 (pc' := 1) (ls' := [(2, 64), (0, v), (9, 0), (9, 0)]) (st' := [(0, v)]) (w' := w) (n' := 142) rfl ?_
  refine qG.call (t := 300) (na := 1) (sk := 0) (md := 0) (ls1 := [(0, v)]) (r1 := []) rfl rfl rfl rfl rfl (K_lowest (Nat.zero_le _) v _) ?_
  rintro _ w7 _ ⟨rfl, hw7, rfl⟩
  rw [hw7]
  show qG none (d + 1) 29 4 [(2, 64), (0, v), (9, 0), (9, 0)] [(0, qand v (wrp (-v)))] w 142 Q9
  refine qG.blk 5 (pc' := 9) (ls' := [(2, 64), (0, v), (0, qand v (wrp (-v))), (0, 1)]) (st' := [(0, 4), (0, 1)]) (w' := w) (n' := 142) rfl ?_
  refine qG.br (P := (1 : Int) < 4) (pc1 := 12) (pc2 := 28) (st1 := []) rfl (fun h1 => ?_) (fun h1 => ?_)
  · skip
    refine qG.blk 3 (pc' := 15) (ls' := [(2, 64), (0, v), (0, qand v (wrp (-v))), (0, 1)]) (st' := [(0, qand v (wrp (-v))), (2, 64), (0, qand v (wrp (-v)))]) (w' := w) (n' := 142) rfl ?_
    refine qG.call (t := 28) (na := 2) (sk := 1) (md := 1) (ls1 := [(2, 64), (0, qand v (wrp (-v))), (9, 0), (9, 0)]) (r1 := [(0, qand v (wrp (-v)))]) rfl rfl rfl rfl rfl (K_nextTo64 (by omega) (qand v (wrp (-v))) w hg2) ?_
    rintro _ w7 _ ⟨rfl, hw7, rfl⟩
    rw [hw7]
    show qG none (d + 1) 29 18 [(2, 64), (0, v), (0, qand v (wrp (-v))), (0, 1)] [(0, ntF (w 65) (qand v (wrp (-v))) 16), (0, qand v (wrp (-v)))] w 142 Q9
    refine qG.blk 5 (pc' := 25) (ls' := [(2, 64), (0, v), (0, qor (qand v (wrp (-v))) (qand (ntF (w 65) (qand v (wrp (-v))) 16) v)), (0, wrp (1 + 1))]) (st' := []) (w' := w) (n' := 142) rfl ?_
    rw [show wrp (1 + 1) = 2 from wrp_id (by omega) (by omega)]
    refine qG.blk 3 (pc' := 9) (ls' := [(2, 64), (0, v), (0, qor (qand v (wrp (-v))) (qand (ntF (w 65) (qand v (wrp (-v))) 16) v)), (0, 2)]) (st' := [(0, 4), (0, 2)]) (w' := w) (n' := 142) rfl ?_
    refine qG.br (P := (2 : Int) < 4) (pc1 := 12) (pc2 := 28) (st1 := []) rfl (fun h2 => ?_) (fun h2 => ?_)
    · skip
      refine qG.blk 3 (pc' := 15) (ls' := [(2, 64), (0, v), (0, qor (qand v (wrp (-v))) (qand (ntF (w 65) (qand v (wrp (-v))) 16) v)), (0, 2)]) (st' := [(0, qor (qand v (wrp (-v))) (qand (ntF (w 65) (qand v (wrp (-v))) 16) v)), (2, 64), (0, qor (qand v (wrp (-v))) (qand (ntF (w 65) (qand v (wrp (-v))) 16) v))]) (w' := w) (n' := 142) rfl ?_
      refine qG.call (t := 28) (na := 2) (sk := 1) (md := 1) (ls1 := [(2, 64), (0, qor (qand v (wrp (-v))) (qand (ntF (w 65) (qand v (wrp (-v))) 16) v)), (9, 0), (9, 0)]) (r1 := [(0, qor (qand v (wrp (-v))) (qand (ntF (w 65) (qand v (wrp (-v))) 16) v))]) rfl rfl rfl rfl rfl (K_nextTo64 (by omega) (qor (qand v (wrp (-v))) (qand (ntF (w 65) (qand v (wrp (-v))) 16) v)) w hg2) ?_
      rintro _ w7 _ ⟨rfl, hw7, rfl⟩
      rw [hw7]
      show qG none (d + 1) 29 18 [(2, 64), (0, v), (0, qor (qand v (wrp (-v))) (qand (ntF (w 65) (qand v (wrp (-v))) 16) v)), (0, 2)] [(0, ntF (w 65) (qor (qand v (wrp (-v))) (qand (ntF (w 65) (qand v (wrp (-v))) 16) v)) 16), (0, qor (qand v (wrp (-v))) (qand (ntF (w 65) (qand v (wrp (-v))) 16) v))] w 142 Q9
      refine qG.blk 5 (pc' := 25) (ls' := [(2, 64), (0, v), (0, qor (qor (qand v (wrp (-v))) (qand (ntF (w 65) (qand v (wrp (-v))) 16) v)) (qand (ntF (w 65) (qor (qand v (wrp (-v))) (qand (ntF (w 65) (qand v (wrp (-v))) 16) v)) 16) v)), (0, wrp (2 + 1))]) (st' := []) (w' := w) (n' := 142) rfl ?_
      rw [show wrp (2 + 1) = 3 from wrp_id (by omega) (by omega)]
      refine qG.blk 3 (pc' := 9) (ls' := [(2, 64), (0, v), (0, qor (qor (qand v (wrp (-v))) (qand (ntF (w 65) (qand v (wrp (-v))) 16) v)) (qand (ntF (w 65) (qor (qand v (wrp (-v))) (qand (ntF (w 65) (qand v (wrp (-v))) 16) v)) 16) v)), (0, 3)]) (st' := [(0, 4), (0, 3)]) (w' := w) (n' := 142) rfl ?_
      refine qG.br (P := (3 : Int) < 4) (pc1 := 12) (pc2 := 28) (st1 := []) rfl (fun h3 => ?_) (fun h3 => ?_)
      · skip
        refine qG.blk 3 (pc' := 15) (ls' := [(2, 64), (0, v), (0, qor (qor (qand v (wrp (-v))) (qand (ntF (w 65) (qand v (wrp (-v))) 16) v)) (qand (ntF (w 65) (qor (qand v (wrp (-v))) (qand (ntF (w 65) (qand v (wrp (-v))) 16) v)) 16) v)), (0, 3)]) (st' := [(0, qor (qor (qand v (wrp (-v))) (qand (ntF (w 65) (qand v (wrp (-v))) 16) v)) (qand (ntF (w 65) (qor (qand v (wrp (-v))) (qand (ntF (w 65) (qand v (wrp (-v))) 16) v)) 16) v)), (2, 64), (0, qor (qor (qand v (wrp (-v))) (qand (ntF (w 65) (qand v (wrp (-v))) 16) v)) (qand (ntF (w 65) (qor (qand v (wrp (-v))) (qand (ntF (w 65) (qand v (wrp (-v))) 16) v)) 16) v))]) (w' := w) (n' := 142) rfl ?_
        refine qG.call (t := 28) (na := 2) (sk := 1) (md := 1) (ls1 := [(2, 64), (0, qor (qor (qand v (wrp (-v))) (qand (ntF (w 65) (qand v (wrp (-v))) 16) v)) (qand (ntF (w 65) (qor (qand v (wrp (-v))) (qand (ntF (w 65) (qand v (wrp (-v))) 16) v)) 16) v)), (9, 0), (9, 0)]) (r1 := [(0, qor (qor (qand v (wrp (-v))) (qand (ntF (w 65) (qand v (wrp (-v))) 16) v)) (qand (ntF (w 65) (qor (qand v (wrp (-v))) (qand (ntF (w 65) (qand v (wrp (-v))) 16) v)) 16) v))]) rfl rfl rfl rfl rfl (K_nextTo64 (by omega) (qor (qor (qand v (wrp (-v))) (qand (ntF (w 65) (qand v (wrp (-v))) 16) v)) (qand (ntF (w 65) (qor (qand v (wrp (-v))) (qand (ntF (w 65) (qand v (wrp (-v))) 16) v)) 16) v)) w hg2) ?_
        rintro _ w7 _ ⟨rfl, hw7, rfl⟩
        rw [hw7]
        show qG none (d + 1) 29 18 [(2, 64), (0, v), (0, qor (qor (qand v (wrp (-v))) (qand (ntF (w 65) (qand v (wrp (-v))) 16) v)) (qand (ntF (w 65) (qor (qand v (wrp (-v))) (qand (ntF (w 65) (qand v (wrp (-v))) 16) v)) 16) v)), (0, 3)] [(0, ntF (w 65) (qor (qor (qand v (wrp (-v))) (qand (ntF (w 65) (qand v (wrp (-v))) 16) v)) (qand (ntF (w 65) (qor (qand v (wrp (-v))) (qand (ntF (w 65) (qand v (wrp (-v))) 16) v)) 16) v)) 16), (0, qor (qor (qand v (wrp (-v))) (qand (ntF (w 65) (qand v (wrp (-v))) 16) v)) (qand (ntF (w 65) (qor (qand v (wrp (-v))) (qand (ntF (w 65) (qand v (wrp (-v))) 16) v)) 16) v))] w 142 Q9
        refine qG.blk 5 (pc' := 25) (ls' := [(2, 64), (0, v), (0, qor (qor (qor (qand v (wrp (-v))) (qand (ntF (w 65) (qand v (wrp (-v))) 16) v)) (qand (ntF (w 65) (qor (qand v (wrp (-v))) (qand (ntF (w 65) (qand v (wrp (-v))) 16) v)) 16) v)) (qand (ntF (w 65) (qor (qor (qand v (wrp (-v))) (qand (ntF (w 65) (qand v (wrp (-v))) 16) v)) (qand (ntF (w 65) (qor (qand v (wrp (-v))) (qand (ntF (w 65) (qand v (wrp (-v))) 16) v)) 16) v)) 16) v)), (0, wrp (3 + 1))]) (st' := []) (w' := w) (n' := 142) rfl ?_
        rw [show wrp (3 + 1) = 4 from wrp_id (by omega) (by omega)]
        refine qG.blk 3 (pc' := 9) (ls' := [(2, 64), (0, v), (0, qor (qor (qor (qand v (wrp (-v))) (qand (ntF (w 65) (qand v (wrp (-v))) 16) v)) (qand (ntF (w 65) (qor (qand v (wrp (-v))) (qand (ntF (w 65) (qand v (wrp (-v))) 16) v)) 16) v)) (qand (ntF (w 65) (qor (qor (qand v (wrp (-v))) (qand (ntF (w 65) (qand v (wrp (-v))) 16) v)) (qand (ntF (w 65) (qor (qand v (wrp (-v))) (qand (ntF (w 65) (qand v (wrp (-v))) 16) v)) 16) v)) 16) v)), (0, 4)]) (st' := [(0, 4), (0, 4)]) (w' := w) (n' := 142) rfl ?_
        refine qG.br (P := (4 : Int) < 4) (pc1 := 12) (pc2 := 28) (st1 := []) rfl (fun h4 => ?_) (fun h4 => ?_)
        · exact absurd h4 (by decide)
        · skip
          refine qG.blk 2 (pc' := 30) (ls' := [(2, 64), (0, v), (0, qor (qor (qor (qand v (wrp (-v))) (qand (ntF (w 65) (qand v (wrp (-v))) 16) v)) (qand (ntF (w 65) (qor (qand v (wrp (-v))) (qand (ntF (w 65) (qand v (wrp (-v))) 16) v)) 16) v)) (qand (ntF (w 65) (qor (qor (qand v (wrp (-v))) (qand (ntF (w 65) (qand v (wrp (-v))) 16) v)) (qand (ntF (w 65) (qor (qand v (wrp (-v))) (qand (ntF (w 65) (qand v (wrp (-v))) 16) v)) 16) v)) 16) v)), (0, 4)]) (st' := [(0, v), (0, qor (qor (qor (qand v (wrp (-v))) (qand (ntF (w 65) (qand v (wrp (-v))) 16) v)) (qand (ntF (w 65) (qor (qand v (wrp (-v))) (qand (ntF (w 65) (qand v (wrp (-v))) 16) v)) 16) v)) (qand (ntF (w 65) (qor (qor (qand v (wrp (-v))) (qand (ntF (w 65) (qand v (wrp (-v))) 16) v)) (qand (ntF (w 65) (qor (qand v (wrp (-v))) (qand (ntF (w 65) (qand v (wrp (-v))) 16) v)) 16) v)) 16) v))]) (w' := w) (n' := 142) rfl ?_
          refine qG.br (P := qor (qor (qor (qand v (wrp (-v))) (qand (ntF (w 65) (qand v (wrp (-v))) 16) v)) (qand (ntF (w 65) (qor (qand v (wrp (-v))) (qand (ntF (w 65) (qand v (wrp (-v))) 16) v)) 16) v)) (qand (ntF (w 65) (qor (qor (qand v (wrp (-v))) (qand (ntF (w 65) (qand v (wrp (-v))) 16) v)) (qand (ntF (w 65) (qor (qand v (wrp (-v))) (qand (ntF (w 65) (qand v (wrp (-v))) 16) v)) 16) v)) 16) v) = v) (pc1 := 33) (pc2 := 37) (st1 := []) rfl (fun hq => ?_) (fun hq => ?_)
          · skip
            refine qG.blk 2 (pc' := 38) (ls' := [(2, 64), (0, v), (0, qor (qor (qor (qand v (wrp (-v))) (qand (ntF (w 65) (qand v (wrp (-v))) 16) v)) (qand (ntF (w 65) (qor (qand v (wrp (-v))) (qand (ntF (w 65) (qand v (wrp (-v))) 16) v)) 16) v)) (qand (ntF (w 65) (qor (qor (qand v (wrp (-v))) (qand (ntF (w 65) (qand v (wrp (-v))) 16) v)) (qand (ntF (w 65) (qor (qand v (wrp (-v))) (qand (ntF (w 65) (qand v (wrp (-v))) 16) v)) 16) v)) 16) v)), (0, 4)]) (st' := [(0, 1)]) (w' := w) (n' := 142) rfl ?_
            refine qG.ret rfl (by first | rfl | exact decide_eq_true (by omega)) ?_
            subst hQ9
            exact ⟨congrArg (Prod.mk (0 : Nat)) (by first | exact (if_pos hq).symm | exact (if_neg hq).symm), rfl, rfl⟩
          · skip
            refine qG.blk 1 (pc' := 38) (ls' := [(2, 64), (0, v), (0, qor (qor (qor (qand v (wrp (-v))) (qand (ntF (w 65) (qand v (wrp (-v))) 16) v)) (qand (ntF (w 65) (qor (qand v (wrp (-v))) (qand (ntF (w 65) (qand v (wrp (-v))) 16) v)) 16) v)) (qand (ntF (w 65) (qor (qor (qand v (wrp (-v))) (qand (ntF (w 65) (qand v (wrp (-v))) 16) v)) (qand (ntF (w 65) (qor (qand v (wrp (-v))) (qand (ntF (w 65) (qand v (wrp (-v))) 16) v)) 16) v)) 16) v)), (0, 4)]) (st' := [(0, 0)]) (w' := w) (n' := 142) rfl ?_
            refine qG.ret rfl (by first | rfl | exact decide_eq_true (by omega)) ?_
            subst hQ9
            exact ⟨congrArg (Prod.mk (0 : Nat)) (by first | exact (if_pos hq).symm | exact (if_neg hq).symm), rfl, rfl⟩
      · exact absurd h3 (by decide)
    · exact absurd h2 (by decide)
  · exact absurd h1 (by decide)
theorem K_nextTo69 {d : Nat} (hd : 0 ≤ d) (x : Int) (w : qW) (hg2 : w 69 2 = 70) : qG none d 28 0 [(2, 69), (0, x), (9, 0), (9, 0)] [] w 142 (fun (r : qV) (w1 : qW) (n1 : Nat) => r = (0, ntF (w 70) x 16) ∧ w1 = w ∧ n1 = 142) := by
  generalize hQ9 : (fun (r : qV) (w1 : qW) (n1 : Nat) => r = (0, ntF (w 70) x 16) ∧ w1 = w ∧ n1 = 142) = Q9
  refine qG.blk 4 (pc' := 4) (ls' := [(2, 69), (0, x), (0, 0), (0, 0)]) (st' := []) (w' := w) (n' := 142) rfl ?_
  have L4 : ∀ (m9 : Nat) (s : Nat), 16 - s = m9 → (s ≤ 16) → qG none d 28 4 [(2, 69), (0, x), (0, ntF (w 70) x s), (0, ((s : Nat) : Int))] [] w 142 Q9 := by
    intro m9
    induction m9 using Nat.strongRecOn with
    | ind m9 ih4 =>
    intro s hm4 hI4
    refine qG.blk 2 (pc' := 7) (ls' := [(2, 69), (0, x), (0, ntF (w 70) x s), (0, ((s : Nat) : Int))]) (st' := [(0, 16), (0, ((s : Nat) : Int))]) (w' := w) (n' := 142) rfl ?_
    refine qG.br (P := ((s : Nat) : Int) < 16) (pc1 := 10) (pc2 := 33) (st1 := []) rfl (fun h1 => ?_) (fun h1 => ?_)
    · skip
      refine qG.blk 5 (pc' := 15) (ls' := [(2, 69), (0, x), (0, ntF (w 70) x s), (0, ((s : Nat) : Int))]) (st' := [(0, qand (qush x ((s : Nat) : Int)) 1)]) (w' := w) (n' := 142) rfl ?_
      rw [show qand (qush x ((s : Nat) : Int)) 1 = (if hbit x s = true then 1 else 0) from ush_b (by omega)]
      refine qG.br (P := (if hbit x s = true then 1 else 0) = 0) (pc1 := 27) (pc2 := 18) (st1 := []) rfl (fun hb9 => ?_) (fun hb9 => ?_)
      · skip
        have hb : ¬ hbit x s = true := ite01.mp hb9
        refine qG.blk 1 (pc' := 30) (ls' := [(2, 69), (0, x), (0, ntF (w 70) x s), (0, wrp (((s : Nat) : Int) + 1))]) (st' := []) (w' := w) (n' := 142) rfl ?_
        rw [show wrp (((s : Nat) : Int) + 1) = ((s + 1 : Nat) : Int) from wrp_id (by omega) (by omega)]
        refine qG.blk 1 (pc' := 4) (ls' := [(2, 69), (0, x), (0, ntF (w 70) x s), (0, ((s + 1 : Nat) : Int))]) (st' := []) (w' := w) (n' := 142) rfl ?_
        have e9 : ntF (w 70) x (s + 1) = ntF (w 70) x s := by show (if hbit x s = true then qor (ntF (w 70) x s) ((w 70) s) else ntF (w 70) x s) = _; first | (rw [if_pos hb]; done) | (rw [if_neg hb]; done)
        have := ih4 _ (by omega) (s + 1) rfl (by omega)
        rw [e9] at this
        exact this
      · skip
        have hb : hbit x s = true := Decidable.of_not_not (fun z => hb9 (ite01.mpr z))
        refine qG.blk 3 (pc' := 23) (ls' := [(2, 69), (0, x), (0, ntF (w 70) x s), (0, ((s : Nat) : Int))]) (st' := [(2, w 69 2), (0, ntF (w 70) x s)]) (w' := w) (n' := 142) rfl ?_
        rw [show w 69 2 = 70 from hg2]
        refine qG.blk 1 (pc' := 24) (ls' := [(2, 69), (0, x), (0, ntF (w 70) x s), (0, ((s : Nat) : Int))]) (st' := [(0, ((s : Nat) : Int)), (2, 70), (0, ntF (w 70) x s)]) (w' := w) (n' := 142) rfl ?_
        refine qG.ar (P := 0 ≤ ((s : Nat) : Int) ∧ ((s : Nat) : Int) < ((16 : Nat) : Int)) (P2 := 0 < (70 : Int) ∧ (70 : Int) ≤ ((142 : Nat) : Int)) (pc' := 25) (ls' := [(2, 69), (0, x), (0, ntF (w 70) x s), (0, ((s : Nat) : Int))]) (st' := [(0, w 70 s), (0, ntF (w 70) x s)]) (w' := w) (n' := 142) rfl (by omega) (by decide) ?_
        refine qG.blk 3 (pc' := 30) (ls' := [(2, 69), (0, x), (0, qor (ntF (w 70) x s) (w 70 s)), (0, wrp (((s : Nat) : Int) + 1))]) (st' := []) (w' := w) (n' := 142) rfl ?_
        rw [show wrp (((s : Nat) : Int) + 1) = ((s + 1 : Nat) : Int) from wrp_id (by omega) (by omega)]
        refine qG.blk 1 (pc' := 4) (ls' := [(2, 69), (0, x), (0, qor (ntF (w 70) x s) (w 70 s)), (0, ((s + 1 : Nat) : Int))]) (st' := []) (w' := w) (n' := 142) rfl ?_
        have e9 : ntF (w 70) x (s + 1) = qor (ntF (w 70) x s) (w 70 s) := by show (if hbit x s = true then qor (ntF (w 70) x s) ((w 70) s) else ntF (w 70) x s) = _; first | (rw [if_pos hb]; done) | (rw [if_neg hb]; done)
        have := ih4 _ (by omega) (s + 1) rfl (by omega)
        rw [e9] at this
        exact this
    · skip
      refine qG.blk 1 (pc' := 34) (ls' := [(2, 69), (0, x), (0, ntF (w 70) x s), (0, ((s : Nat) : Int))]) (st' := [(0, ntF (w 70) x s)]) (w' := w) (n' := 142) rfl ?_
      refine qG.ret rfl rfl ?_
      subst hQ9
      exact ⟨by rw [show s = 16 by omega], rfl, rfl⟩
  exact L4 _ (0) rfl (by omega)
theorem K_hangsX69 {d : Nat} (hd : 1 ≤ d) (v : Int) (w : qW) (hg2 : w 69 2 = 70) : qG none d 29 0 [(2, 69), (0, v), (9, 0), (9, 0)] [] w 142 (fun (r : qV) (w1 : qW) (n1 : Nat) => r = (0, if stI (w 70) v (stI (w 70) v (stI (w 70) v (qand v (wrp (-v))))) = v then 1 else 0) ∧ w1 = w ∧ n1 = 142) := by
  generalize hQ9 : (fun (r : qV) (w1 : qW) (n1 : Nat) => r = (0, if stI (w 70) v (stI (w 70) v (stI (w 70) v (qand v (wrp (-v))))) = v then 1 else 0) ∧ w1 = w ∧ n1 = 142) = Q9
  obtain ⟨d, rfl⟩ : ∃ d9, d = d9 + 1 := ⟨d - 1, by omega⟩
  refine qG.blk 1 (pc' := 1) (ls' := [(2, 69), (0, v), (9, 0), (9, 0)]) (st' := [(0, v)]) (w' := w) (n' := 142) rfl ?_
  refine qG.call (t := 300) (na := 1) (sk := 0) (md := 0) (ls1 := [(0, v)]) (r1 := []) rfl rfl rfl rfl rfl (K_lowest (Nat.zero_le _) v _) ?_
  rintro _ w7 _ ⟨rfl, hw7, rfl⟩
  rw [hw7]
  show qG none (d + 1) 29 4 [(2, 69), (0, v), (9, 0), (9, 0)] [(0, qand v (wrp (-v)))] w 142 Q9
  refine qG.blk 5 (pc' := 9) (ls' := [(2, 69), (0, v), (0, qand v (wrp (-v))), (0, 1)]) (st' := [(0, 4), (0, 1)]) (w' := w) (n' := 142) rfl ?_
  refine qG.br (P := (1 : Int) < 4) (pc1 := 12) (pc2 := 28) (st1 := []) rfl (fun h1 => ?_) (fun h1 => ?_)
  · skip
    refine qG.blk 3 (pc' := 15) (ls' := [(2, 69), (0, v), (0, qand v (wrp (-v))), (0, 1)]) (st' := [(0, qand v (wrp (-v))), (2, 69), (0, qand v (wrp (-v)))]) (w' := w) (n' := 142) rfl ?_
    refine qG.call (t := 28) (na := 2) (sk := 1) (md := 1) (ls1 := [(2, 69), (0, qand v (wrp (-v))), (9, 0), (9, 0)]) (r1 := [(0, qand v (wrp (-v)))]) rfl rfl rfl rfl rfl (K_nextTo69 (by omega) (qand v (wrp (-v))) w hg2) ?_
    rintro _ w7 _ ⟨rfl, hw7, rfl⟩
    rw [hw7]
    show qG none (d + 1) 29 18 [(2, 69), (0, v), (0, qand v (wrp (-v))), (0, 1)] [(0, ntF (w 70) (qand v (wrp (-v))) 16), (0, qand v (wrp (-v)))] w 142 Q9
    refine qG.blk 5 (pc' := 25) (ls' := [(2, 69), (0, v), (0, qor (qand v (wrp (-v))) (qand (ntF (w 70) (qand v (wrp (-v))) 16) v)), (0, wrp (1 + 1))]) (st' := []) (w' := w) (n' := 142) rfl ?_
    rw [show wrp (1 + 1) = 2 from wrp_id (by omega) (by omega)]
    refine qG.blk 3 (pc' := 9) (ls' := [(2, 69), (0, v), (0, qor (qand v (wrp (-v))) (qand (ntF (w 70) (qand v (wrp (-v))) 16) v)), (0, 2)]) (st' := [(0, 4), (0, 2)]) (w' := w) (n' := 142) rfl ?_
    refine qG.br (P := (2 : Int) < 4) (pc1 := 12) (pc2 := 28) (st1 := []) rfl (fun h2 => ?_) (fun h2 => ?_)
    · skip
      refine qG.blk 3 (pc' := 15) (ls' := [(2, 69), (0, v), (0, qor (qand v (wrp (-v))) (qand (ntF (w 70) (qand v (wrp (-v))) 16) v)), (0, 2)]) (st' := [(0, qor (qand v (wrp (-v))) (qand (ntF (w 70) (qand v (wrp (-v))) 16) v)), (2, 69), (0, qor (qand v (wrp (-v))) (qand (ntF (w 70) (qand v (wrp (-v))) 16) v))]) (w' := w) (n' := 142) rfl ?_
      refine qG.call (t := 28) (na := 2) (sk := 1) (md := 1) (ls1 := [(2, 69), (0, qor (qand v (wrp (-v))) (qand (ntF (w 70) (qand v (wrp (-v))) 16) v)), (9, 0), (9, 0)]) (r1 := [(0, qor (qand v (wrp (-v))) (qand (ntF (w 70) (qand v (wrp (-v))) 16) v))]) rfl rfl rfl rfl rfl (K_nextTo69 (by omega) (qor (qand v (wrp (-v))) (qand (ntF (w 70) (qand v (wrp (-v))) 16) v)) w hg2) ?_
      rintro _ w7 _ ⟨rfl, hw7, rfl⟩
      rw [hw7]
      show qG none (d + 1) 29 18 [(2, 69), (0, v), (0, qor (qand v (wrp (-v))) (qand (ntF (w 70) (qand v (wrp (-v))) 16) v)), (0, 2)] [(0, ntF (w 70) (qor (qand v (wrp (-v))) (qand (ntF (w 70) (qand v (wrp (-v))) 16) v)) 16), (0, qor (qand v (wrp (-v))) (qand (ntF (w 70) (qand v (wrp (-v))) 16) v))] w 142 Q9
      refine qG.blk 5 (pc' := 25) (ls' := [(2, 69), (0, v), (0, qor (qor (qand v (wrp (-v))) (qand (ntF (w 70) (qand v (wrp (-v))) 16) v)) (qand (ntF (w 70) (qor (qand v (wrp (-v))) (qand (ntF (w 70) (qand v (wrp (-v))) 16) v)) 16) v)), (0, wrp (2 + 1))]) (st' := []) (w' := w) (n' := 142) rfl ?_
      rw [show wrp (2 + 1) = 3 from wrp_id (by omega) (by omega)]
      refine qG.blk 3 (pc' := 9) (ls' := [(2, 69), (0, v), (0, qor (qor (qand v (wrp (-v))) (qand (ntF (w 70) (qand v (wrp (-v))) 16) v)) (qand (ntF (w 70) (qor (qand v (wrp (-v))) (qand (ntF (w 70) (qand v (wrp (-v))) 16) v)) 16) v)), (0, 3)]) (st' := [(0, 4), (0, 3)]) (w' := w) (n' := 142) rfl ?_
      refine qG.br (P := (3 : Int) < 4) (pc1 := 12) (pc2 := 28) (st1 := []) rfl (fun h3 => ?_) (fun h3 => ?_)
      · skip
        refine qG.blk 3 (pc' := 15) (ls' := [(2, 69), (0, v), (0, qor (qor (qand v (wrp (-v))) (qand (ntF (w 70) (qand v (wrp (-v))) 16) v)) (qand (ntF (w 70) (qor (qand v (wrp (-v))) (qand (ntF (w 70) (qand v (wrp (-v))) 16) v)) 16) v)), (0, 3)]) (st' := [(0, qor (qor (qand v (wrp (-v))) (qand (ntF (w 70) (qand v (wrp (-v))) 16) v)) (qand (ntF (w 70) (qor (qand v (wrp (-v))) (qand (ntF (w 70) (qand v (wrp (-v))) 16) v)) 16) v)), (2, 69), (0, qor (qor (qand v (wrp (-v))) (qand (ntF (w 70) (qand v (wrp (-v))) 16) v)) (qand (ntF (w 70) (qor (qand v (wrp (-v))) (qand (ntF (w 70) (qand v (wrp (-v))) 16) v)) 16) v))]) (w' := w) (n' := 142) rfl ?_
        refine qG.call (t := 28) (na := 2) (sk := 1) (md := 1) (ls1 := [(2, 69), (0, qor (qor (qand v (wrp (-v))) (qand (ntF (w 70) (qand v (wrp (-v))) 16) v)) (qand (ntF (w 70) (qor (qand v (wrp (-v))) (qand (ntF (w 70) (qand v (wrp (-v))) 16) v)) 16) v)), (9, 0), (9, 0)]) (r1 := [(0, qor (qor (qand v (wrp (-v))) (qand (ntF (w 70) (qand v (wrp (-v))) 16) v)) (qand (ntF (w 70) (qor (qand v (wrp (-v))) (qand (ntF (w 70) (qand v (wrp (-v))) 16) v)) 16) v))]) rfl rfl rfl rfl rfl (K_nextTo69 (by omega) (qor (qor (qand v (wrp (-v))) (qand (ntF (w 70) (qand v (wrp (-v))) 16) v)) (qand (ntF (w 70) (qor (qand v (wrp (-v))) (qand (ntF (w 70) (qand v (wrp (-v))) 16) v)) 16) v)) w hg2) ?_
        rintro _ w7 _ ⟨rfl, hw7, rfl⟩
        rw [hw7]
        show qG none (d + 1) 29 18 [(2, 69), (0, v), (0, qor (qor (qand v (wrp (-v))) (qand (ntF (w 70) (qand v (wrp (-v))) 16) v)) (qand (ntF (w 70) (qor (qand v (wrp (-v))) (qand (ntF (w 70) (qand v (wrp (-v))) 16) v)) 16) v)), (0, 3)] [(0, ntF (w 70) (qor (qor (qand v (wrp (-v))) (qand (ntF (w 70) (qand v (wrp (-v))) 16) v)) (qand (ntF (w 70) (qor (qand v (wrp (-v))) (qand (ntF (w 70) (qand v (wrp (-v))) 16) v)) 16) v)) 16), (0, qor (qor (qand v (wrp (-v))) (qand (ntF (w 70) (qand v (wrp (-v))) 16) v)) (qand (ntF (w 70) (qor (qand v (wrp (-v))) (qand (ntF (w 70) (qand v (wrp (-v))) 16) v)) 16) v))] w 142 Q9
        refine qG.blk 5 (pc' := 25) (ls' := [(2, 69), (0, v), (0, qor (qor (qor (qand v (wrp (-v))) (qand (ntF (w 70) (qand v (wrp (-v))) 16) v)) (qand (ntF (w 70) (qor (qand v (wrp (-v))) (qand (ntF (w 70) (qand v (wrp (-v))) 16) v)) 16) v)) (qand (ntF (w 70) (qor (qor (qand v (wrp (-v))) (qand (ntF (w 70) (qand v (wrp (-v))) 16) v)) (qand (ntF (w 70) (qor (qand v (wrp (-v))) (qand (ntF (w 70) (qand v (wrp (-v))) 16) v)) 16) v)) 16) v)), (0, wrp (3 + 1))]) (st' := []) (w' := w) (n' := 142) rfl ?_
        rw [show wrp (3 + 1) = 4 from wrp_id (by omega) (by omega)]
        refine qG.blk 3 (pc' := 9) (ls' := [(2, 69), (0, v), (0, qor (qor (qor (qand v (wrp (-v))) (qand (ntF (w 70) (qand v (wrp (-v))) 16) v)) (qand (ntF (w 70) (qor (qand v (wrp (-v))) (qand (ntF (w 70) (qand v (wrp (-v))) 16) v)) 16) v)) (qand (ntF (w 70) (qor (qor (qand v (wrp (-v))) (qand (ntF (w 70) (qand v (wrp (-v))) 16) v)) (qand (ntF (w 70) (qor (qand v (wrp (-v))) (qand (ntF (w 70) (qand v (wrp (-v))) 16) v)) 16) v)) 16) v)), (0, 4)]) (st' := [(0, 4), (0, 4)]) (w' := w) (n' := 142) rfl ?_
        refine qG.br (P := (4 : Int) < 4) (pc1 := 12) (pc2 := 28) (st1 := []) rfl (fun h4 => ?_) (fun h4 => ?_)
        · exact absurd h4 (by decide)
        · skip
          refine qG.blk 2 (pc' := 30) (ls' := [(2, 69), (0, v), (0, qor (qor (qor (qand v (wrp (-v))) (qand (ntF (w 70) (qand v (wrp (-v))) 16) v)) (qand (ntF (w 70) (qor (qand v (wrp (-v))) (qand (ntF (w 70) (qand v (wrp (-v))) 16) v)) 16) v)) (qand (ntF (w 70) (qor (qor (qand v (wrp (-v))) (qand (ntF (w 70) (qand v (wrp (-v))) 16) v)) (qand (ntF (w 70) (qor (qand v (wrp (-v))) (qand (ntF (w 70) (qand v (wrp (-v))) 16) v)) 16) v)) 16) v)), (0, 4)]) (st' := [(0, v), (0, qor (qor (qor (qand v (wrp (-v))) (qand (ntF (w 70) (qand v (wrp (-v))) 16) v)) (qand (ntF (w 70) (qor (qand v (wrp (-v))) (qand (ntF (w 70) (qand v (wrp (-v))) 16) v)) 16) v)) (qand (ntF (w 70) (qor (qor (qand v (wrp (-v))) (qand (ntF (w 70) (qand v (wrp (-v))) 16) v)) (qand (ntF (w 70) (qor (qand v (wrp (-v))) (qand (ntF (w 70) (qand v (wrp (-v))) 16) v)) 16) v)) 16) v))]) (w' := w) (n' := 142) rfl ?_
          refine qG.br (P := qor (qor (qor (qand v (wrp (-v))) (qand (ntF (w 70) (qand v (wrp (-v))) 16) v)) (qand (ntF (w 70) (qor (qand v (wrp (-v))) (qand (ntF (w 70) (qand v (wrp (-v))) 16) v)) 16) v)) (qand (ntF (w 70) (qor (qor (qand v (wrp (-v))) (qand (ntF (w 70) (qand v (wrp (-v))) 16) v)) (qand (ntF (w 70) (qor (qand v (wrp (-v))) (qand (ntF (w 70) (qand v (wrp (-v))) 16) v)) 16) v)) 16) v) = v) (pc1 := 33) (pc2 := 37) (st1 := []) rfl (fun hq => ?_) (fun hq => ?_)
          · skip
            refine qG.blk 2 (pc' := 38) (ls' := [(2, 69), (0, v), (0, qor (qor (qor (qand v (wrp (-v))) (qand (ntF (w 70) (qand v (wrp (-v))) 16) v)) (qand (ntF (w 70) (qor (qand v (wrp (-v))) (qand (ntF (w 70) (qand v (wrp (-v))) 16) v)) 16) v)) (qand (ntF (w 70) (qor (qor (qand v (wrp (-v))) (qand (ntF (w 70) (qand v (wrp (-v))) 16) v)) (qand (ntF (w 70) (qor (qand v (wrp (-v))) (qand (ntF (w 70) (qand v (wrp (-v))) 16) v)) 16) v)) 16) v)), (0, 4)]) (st' := [(0, 1)]) (w' := w) (n' := 142) rfl ?_
            refine qG.ret rfl (by first | rfl | exact decide_eq_true (by omega)) ?_
            subst hQ9
            exact ⟨congrArg (Prod.mk (0 : Nat)) (by first | exact (if_pos hq).symm | exact (if_neg hq).symm), rfl, rfl⟩
          · skip
            refine qG.blk 1 (pc' := 38) (ls' := [(2, 69), (0, v), (0, qor (qor (qor (qand v (wrp (-v))) (qand (ntF (w 70) (qand v (wrp (-v))) 16) v)) (qand (ntF (w 70) (qor (qand v (wrp (-v))) (qand (ntF (w 70) (qand v (wrp (-v))) 16) v)) 16) v)) (qand (ntF (w 70) (qor (qor (qand v (wrp (-v))) (qand (ntF (w 70) (qand v (wrp (-v))) 16) v)) (qand (ntF (w 70) (qor (qand v (wrp (-v))) (qand (ntF (w 70) (qand v (wrp (-v))) 16) v)) 16) v)) 16) v)), (0, 4)]) (st' := [(0, 0)]) (w' := w) (n' := 142) rfl ?_
            refine qG.ret rfl (by first | rfl | exact decide_eq_true (by omega)) ?_
            subst hQ9
            exact ⟨congrArg (Prod.mk (0 : Nat)) (by first | exact (if_pos hq).symm | exact (if_neg hq).symm), rfl, rfl⟩
      · exact absurd h3 (by decide)
    · exact absurd h2 (by decide)
  · exact absurd h1 (by decide)
theorem K_nextTo74 {d : Nat} (hd : 0 ≤ d) (x : Int) (w : qW) (hg2 : w 74 2 = 75) : qG none d 28 0 [(2, 74), (0, x), (9, 0), (9, 0)] [] w 142 (fun (r : qV) (w1 : qW) (n1 : Nat) => r = (0, ntF (w 75) x 16) ∧ w1 = w ∧ n1 = 142) := by
  generalize hQ9 : (fun (r : qV) (w1 : qW) (n1 : Nat) => r = (0, ntF (w 75) x 16) ∧ w1 = w ∧ n1 = 142) = Q9
  refine qG.blk 4 (pc' := 4) (ls' := [(2, 74), (0, x), (0, 0), (0, 0)]) (st' := []) (w' := w) (n' := 142) rfl ?_
  have L4 : ∀ (m9 : Nat) (s : Nat), 16 - s = m9 → (s ≤ 16) → qG none d 28 4 [(2, 74), (0, x), (0, ntF (w 75) x s), (0, ((s : Nat) : Int))] [] w 142 Q9 := by
    intro m9
    induction m9 using Nat.strongRecOn with
    | ind m9 ih4 =>
    intro s hm4 hI4
    refine qG.blk 2 (pc' := 7) (ls' := [(2, 74), (0, x), (0, ntF (w 75) x s), (0, ((s : Nat) : Int))]) (st' := [(0, 16), (0, ((s : Nat) : Int))]) (w' := w) (n' := 142) rfl ?_
    refine qG.br (P := ((s : Nat) : Int) < 16) (pc1 := 10) (pc2 := 33) (st1 := []) rfl (fun h1 => ?_) (fun h1 => ?_)
    · skip
      refine qG.blk 5 (pc' := 15) (ls' := [(2, 74), (0, x), (0, ntF (w 75) x s), (0, ((s : Nat) : Int))]) (st' := [(0, qand (qush x ((s : Nat) : Int)) 1)]) (w' := w) (n' := 142) rfl ?_
      rw [show qand (qush x ((s : Nat) : Int)) 1 = (if hbit x s = true then 1 else 0) from ush_b (by omega)]
      refine qG.br (P := (if hbit x s = true then 1 else 0) = 0) (pc1 := 27) (pc2 := 18) (st1 := []) rfl (fun hb9 => ?_) (fun hb9 => ?_)
      · skip
        have hb : ¬ hbit x s = true := ite01.mp hb9
        refine qG.blk 1 (pc' := 30) (ls' := [(2, 74), (0, x), (0, ntF (w 75) x s), (0, wrp (((s : Nat) : Int) + 1))]) (st' := []) (w' := w) (n' := 142) rfl ?_
        rw [show wrp (((s : Nat) : Int) + 1) = ((s + 1 : Nat) : Int) from wrp_id (by omega) (by omega)]
        refine qG.blk 1 (pc' := 4) (ls' := [(2, 74), (0, x), (0, ntF (w 75) x s), (0, ((s + 1 : Nat) : Int))]) (st' := []) (w' := w) (n' := 142) rfl ?_
        have e9 : ntF (w 75) x (s + 1) = ntF (w 75) x s := by show (if hbit x s = true then qor (ntF (w 75) x s) ((w 75) s) else ntF (w 75) x s) = _; first | (rw [if_pos hb]; done) | (rw [if_neg hb]; done)
        have := ih4 _ (by omega) (s + 1) rfl (by omega)
        rw [e9] at this
        exact this
      · skip
        have hb : hbit x s = true := Decidable.of_not_not (fun z => hb9 (ite01.mpr z))
        refine qG.blk 3 (pc' := 23) (ls' := [(2, 74), (0, x), (0, ntF (w 75) x s), (0, ((s : Nat) : Int))]) (st' := [(2, w 74 2), (0, ntF (w 75) x s)]) (w' := w) (n' := 142) rfl ?_
        rw [show w 74 2 = 75 from hg2]
        refine qG.blk 1 (pc' := 24) (ls' := [(2, 74), (0, x), (0, ntF (w 75) x s), (0, ((s : Nat) : Int))]) (st' := [(0, ((s : Nat) : Int)), (2, 75), (0, ntF (w 75) x s)]) (w' := w) (n' := 142) rfl ?_
        refine qG.ar (P := 0 ≤ ((s : Nat) : Int) ∧ ((s : Nat) : Int) < ((16 : Nat) : Int)) (P2 := 0 < (75 : Int) ∧ (75 : Int) ≤ ((142 : Nat) : Int)) (pc' := 25) (ls' := [(2, 74), (0, x), (0, ntF (w 75) x s), (0, ((s : Nat) : Int))]) (st' := [(0, w 75 s), (0, ntF (w 75) x s)]) (w' := w) (n' := 142) rfl (by omega) (by decide) ?_
        refine qG.blk 3 (pc' := 30) (ls' := [(2, 74), (0, x), (0, qor (ntF (w 75) x s) (w 75 s)), (0, wrp (((s : Nat) : Int) + 1))]) (st' := []) (w' := w) (n' := 142) rfl ?_
        rw [show wrp (((s : Nat) : Int) + 1) = ((s + 1 : Nat) : Int) from wrp_id (by omega) (by omega)]
        refine qG.blk 1 (pc' := 4) (ls' := [(2, 74), (0, x), (0, qor (ntF (w 75) x s) (w 75 s)), (0, ((s + 1 : Nat) : Int))]) (st' := []) (w' := w) (n' := 142) rfl ?_
        have e9 : ntF (w 75) x (s + 1) = qor (ntF (w 75) x s) (w 75 s) := by show (if hbit x s = true then qor (ntF (w 75) x s) ((w 75) s) else ntF (w 75) x s) = _; first | (rw [if_pos hb]; done) | (rw [if_neg hb]; done)
        have := ih4 _ (by omega) (s + 1) rfl (by omega)
        rw [e9] at this
        exact this
    · skip
      refine qG.blk 1 (pc' := 34) (ls' := [(2, 74), (0, x), (0, ntF (w 75) x s), (0, ((s : Nat) : Int))]) (st' := [(0, ntF (w 75) x s)]) (w' := w) (n' := 142) rfl ?_
      refine qG.ret rfl rfl ?_
      subst hQ9
      exact ⟨by rw [show s = 16 by omega], rfl, rfl⟩
  exact L4 _ (0) rfl (by omega)
theorem K_hangsX74 {d : Nat} (hd : 1 ≤ d) (v : Int) (w : qW) (hg2 : w 74 2 = 75) : qG none d 29 0 [(2, 74), (0, v), (9, 0), (9, 0)] [] w 142 (fun (r : qV) (w1 : qW) (n1 : Nat) => r = (0, if stI (w 75) v (stI (w 75) v (stI (w 75) v (qand v (wrp (-v))))) = v then 1 else 0) ∧ w1 = w ∧ n1 = 142) := by
  generalize hQ9 : (fun (r : qV) (w1 : qW) (n1 : Nat) => r = (0, if stI (w 75) v (stI (w 75) v (stI (w 75) v (qand v (wrp (-v))))) = v then 1 else 0) ∧ w1 = w ∧ n1 = 142) = Q9
  obtain ⟨d, rfl⟩ : ∃ d9, d = d9 + 1 := ⟨d - 1, by omega⟩
  refine qG.blk 1 (pc' := 1) (ls' := [(2, 74), (0, v), (9, 0), (9, 0)]) (st' := [(0, v)]) (w' := w) (n' := 142) rfl ?_
  refine qG.call (t := 300) (na := 1) (sk := 0) (md := 0) (ls1 := [(0, v)]) (r1 := []) rfl rfl rfl rfl rfl (K_lowest (Nat.zero_le _) v _) ?_
  rintro _ w7 _ ⟨rfl, hw7, rfl⟩
  rw [hw7]
  show qG none (d + 1) 29 4 [(2, 74), (0, v), (9, 0), (9, 0)] [(0, qand v (wrp (-v)))] w 142 Q9
  refine qG.blk 5 (pc' := 9) (ls' := [(2, 74), (0, v), (0, qand v (wrp (-v))), (0, 1)]) (st' := [(0, 4), (0, 1)]) (w' := w) (n' := 142) rfl ?_
  refine qG.br (P := (1 : Int) < 4) (pc1 := 12) (pc2 := 28) (st1 := []) rfl (fun h1 => ?_) (fun h1 => ?_)
  · skip
    refine qG.blk 3 (pc' := 15) (ls' := [(2, 74), (0, v), (0, qand v (wrp (-v))), (0, 1)]) (st' := [(0, qand v (wrp (-v))), (2, 74), (0, qand v (wrp (-v)))]) (w' := w) (n' := 142) rfl ?_
    refine qG.call (t := 28) (na := 2) (sk := 1) (md := 1) (ls1 := [(2, 74), (0, qand v (wrp (-v))), (9, 0), (9, 0)]) (r1 := [(0, qand v (wrp (-v)))]) rfl rfl rfl rfl rfl (K_nextTo74 (by omega) (qand v (wrp (-v))) w hg2) ?_
    rintro _ w7 _ ⟨rfl, hw7, rfl⟩
    rw [hw7]
    show qG none (d + 1) 29 18 [(2, 74), (0, v), (0, qand v (wrp (-v))), (0, 1)] [(0, ntF (w 75) (qand v (wrp (-v))) 16), (0, qand v (wrp (-v)))] w 142 Q9
    refine qG.blk 5 (pc' := 25) (ls' := [(2, 74), (0, v), (0, qor (qand v (wrp (-v))) (qand (ntF (w 75) (qand v (wrp (-v))) 16) v)), (0, wrp (1 + 1))]) (st' := []) (w' := w) (n' := 142) rfl ?_
    rw [show wrp (1 + 1) = 2 from wrp_id (by omega) (by omega)]
    refine qG.blk 3 (pc' := 9) (ls' := [(2, 74), (0, v), (0, qor (qand v (wrp (-v))) (qand (ntF (w 75) (qand v (wrp (-v))) 16) v)), (0, 2)]) (st' := [(0, 4), (0, 2)]) (w' := w) (n' := 142) rfl ?_
    refine qG.br (P := (2 : Int) < 4) (pc1 := 12) (pc2 := 28) (st1 := []) rfl (fun h2 => ?_) (fun h2 => ?_)
    · skip
      refine qG.blk 3 (pc' := 15) (ls' := [(2, 74), (0, v), (0, qor (qand v (wrp (-v))) (qand (ntF (w 75) (qand v (wrp (-v))) 16) v)), (0, 2)]) (st' := [(0, qor (qand v (wrp (-v))) (qand (ntF (w 75) (qand v (wrp (-v))) 16) v)), (2, 74), (0, qor (qand v (wrp (-v))) (qand (ntF (w 75) (qand v (wrp (-v))) 16) v))]) (w' := w) (n' := 142) rfl ?_
      refine qG.call (t := 28) (na := 2) (sk := 1) (md := 1) (ls1 := [(2, 74), (0, qor (qand v (wrp (-v))) (qand (ntF (w 75) (qand v (wrp (-v))) 16) v)), (9, 0), (9, 0)]) (r1 := [(0, qor (qand v (wrp (-v))) (qand (ntF (w 75) (qand v (wrp (-v))) 16) v))]) rfl rfl rfl rfl rfl (K_nextTo74 (by omega) (qor (qand v (wrp (-v))) (qand (ntF (w 75) (qand v (wrp (-v))) 16) v)) w hg2) ?_
      rintro _ w7 _ ⟨rfl, hw7, rfl⟩
      rw [hw7]
      show qG none (d + 1) 29 18 [(2, 74), (0, v), (0, qor (qand v (wrp (-v))) (qand (ntF (w 75) (qand v (wrp (-v))) 16) v)), (0, 2)] [(0, ntF (w 75) (qor (qand v (wrp (-v))) (qand (ntF (w 75) (qand v (wrp (-v))) 16) v)) 16), (0, qor (qand v (wrp (-v))) (qand (ntF (w 75) (qand v (wrp (-v))) 16) v))] w 142 Q9
      refine qG.blk 5 (pc' := 25) (ls' := [(2, 74), (0, v), (0, qor (qor (qand v (wrp (-v))) (qand (ntF (w 75) (qand v (wrp (-v))) 16) v)) (qand (ntF (w 75) (qor (qand v (wrp (-v))) (qand (ntF (w 75) (qand v (wrp (-v))) 16) v)) 16) v)), (0, wrp (2 + 1))]) (st' := []) (w' := w) (n' := 142) rfl ?_
      rw [show wrp (2 + 1) = 3 from wrp_id (by omega) (by omega)]
      refine qG.blk 3 (pc' := 9) (ls' := [(2, 74), (0, v), (0, qor (qor (qand v (wrp (-v))) (qand (ntF (w 75) (qand v (wrp (-v))) 16) v)) (qand (ntF (w 75) (qor (qand v (wrp (-v))) (qand (ntF (w 75) (qand v (wrp (-v))) 16) v)) 16) v)), (0, 3)]) (st' := [(0, 4), (0, 3)]) (w' := w) (n' := 142) rfl ?_
      refine qG.br (P := (3 : Int) < 4) (pc1 := 12) (pc2 := 28) (st1 := []) rfl (fun h3 => ?_) (fun h3 => ?_)
      · skip
        refine qG.blk 3 (pc' := 15) (ls' := [(2, 74), (0, v), (0, qor (qor (qand v (wrp (-v))) (qand (ntF (w 75) (qand v (wrp (-v))) 16) v)) (qand (ntF (w 75) (qor (qand v (wrp (-v))) (qand (ntF (w 75) (qand v (wrp (-v))) 16) v)) 16) v)), (0, 3)]) (st' := [(0, qor (qor (qand v (wrp (-v))) (qand (ntF (w 75) (qand v (wrp (-v))) 16) v)) (qand (ntF (w 75) (qor (qand v (wrp (-v))) (qand (ntF (w 75) (qand v (wrp (-v))) 16) v)) 16) v)), (2, 74), (0, qor (qor (qand v (wrp (-v))) (qand (ntF (w 75) (qand v (wrp (-v))) 16) v)) (qand (ntF (w 75) (qor (qand v (wrp (-v))) (qand (ntF (w 75) (qand v (wrp (-v))) 16) v)) 16) v))]) (w' := w) (n' := 142) rfl ?_
        refine qG.call (t := 28) (na := 2) (sk := 1) (md := 1) (ls1 := [(2, 74), (0, qor (qor (qand v (wrp (-v))) (qand (ntF (w 75) (qand v (wrp (-v))) 16) v)) (qand (ntF (w 75) (qor (qand v (wrp (-v))) (qand (ntF (w 75) (qand v (wrp (-v))) 16) v)) 16) v)), (9, 0), (9, 0)]) (r1 := [(0, qor (qor (qand v (wrp (-v))) (qand (ntF (w 75) (qand v (wrp (-v))) 16) v)) (qand (ntF (w 75) (qor (qand v (wrp (-v))) (qand (ntF (w 75) (qand v (wrp (-v))) 16) v)) 16) v))]) rfl rfl rfl rfl rfl (K_nextTo74 (by omega) (qor (qor (qand v (wrp (-v))) (qand (ntF (w 75) (qand v (wrp (-v))) 16) v)) (qand (ntF (w 75) (qor (qand v (wrp (-v))) (qand (ntF (w 75) (qand v (wrp (-v))) 16) v)) 16) v)) w hg2) ?_
        rintro _ w7 _ ⟨rfl, hw7, rfl⟩
        rw [hw7]
        show qG none (d + 1) 29 18 [(2, 74), (0, v), (0, qor (qor (qand v (wrp (-v))) (qand (ntF (w 75) (qand v (wrp (-v))) 16) v)) (qand (ntF (w 75) (qor (qand v (wrp (-v))) (qand (ntF (w 75) (qand v (wrp (-v))) 16) v)) 16) v)), (0, 3)] [(0, ntF (w 75) (qor (qor (qand v (wrp (-v))) (qand (ntF (w 75) (qand v (wrp (-v))) 16) v)) (qand (ntF (w 75) (qor (qand v (wrp (-v))) (qand (ntF (w 75) (qand v (wrp (-v))) 16) v)) 16) v)) 16), (0, qor (qor (qand v (wrp (-v))) (qand (ntF (w 75) (qand v (wrp (-v))) 16) v)) (qand (ntF (w 75) (qor (qand v (wrp (-v))) (qand (ntF (w 75) (qand v (wrp (-v))) 16) v)) 16) v))] w 142 Q9
        refine qG.blk 5 (pc' := 25) (ls' := [(2, 74), (0, v), (0, qor (qor (qor (qand v (wrp (-v))) (qand (ntF (w 75) (qand v (wrp (-v))) 16) v)) (qand (ntF (w 75) (qor (qand v (wrp (-v))) (qand (ntF (w 75) (qand v (wrp (-v))) 16) v)) 16) v)) (qand (ntF (w 75) (qor (qor (qand v (wrp (-v))) (qand (ntF (w 75) (qand v (wrp (-v))) 16) v)) (qand (ntF (w 75) (qor (qand v (wrp (-v))) (qand (ntF (w 75) (qand v (wrp (-v))) 16) v)) 16) v)) 16) v)), (0, wrp (3 + 1))]) (st' := []) (w' := w) (n' := 142) rfl ?_
        rw [show wrp (3 + 1) = 4 from wrp_id (by omega) (by omega)]
        refine qG.blk 3 (pc' := 9) (ls' := [(2, 74), (0, v), (0, qor (qor (qor (qand v (wrp (-v))) (qand (ntF (w 75) (qand v (wrp (-v))) 16) v)) (qand (ntF (w 75) (qor (qand v (wrp (-v))) (qand (ntF (w 75) (qand v (wrp (-v))) 16) v)) 16) v)) (qand (ntF (w 75) (qor (qor (qand v (wrp (-v))) (qand (ntF (w 75) (qand v (wrp (-v))) 16) v)) (qand (ntF (w 75) (qor (qand v (wrp (-v))) (qand (ntF (w 75) (qand v (wrp (-v))) 16) v)) 16) v)) 16) v)), (0, 4)]) (st' := [(0, 4), (0, 4)]) (w' := w) (n' := 142) rfl ?_
        refine qG.br (P := (4 : Int) < 4) (pc1 := 12) (pc2 := 28) (st1 := []) rfl (fun h4 => ?_) (fun h4 => ?_)
        · exact absurd h4 (by decide)
        · skip
          refine qG.blk 2 (pc' := 30) (ls' := [(2, 74), (0, v), (0, qor (qor (qor (qand v (wrp (-v))) (qand (ntF (w 75) (qand v (wrp (-v))) 16) v)) (qand (ntF (w 75) (qor (qand v (wrp (-v))) (qand (ntF (w 75) (qand v (wrp (-v))) 16) v)) 16) v)) (qand (ntF (w 75) (qor (qor (qand v (wrp (-v))) (qand (ntF (w 75) (qand v (wrp (-v))) 16) v)) (qand (ntF (w 75) (qor (qand v (wrp (-v))) (qand (ntF (w 75) (qand v (wrp (-v))) 16) v)) 16) v)) 16) v)), (0, 4)]) (st' := [(0, v), (0, qor (qor (qor (qand v (wrp (-v))) (qand (ntF (w 75) (qand v (wrp (-v))) 16) v)) (qand (ntF (w 75) (qor (qand v (wrp (-v))) (qand (ntF (w 75) (qand v (wrp (-v))) 16) v)) 16) v)) (qand (ntF (w 75) (qor (qor (qand v (wrp (-v))) (qand (ntF (w 75) (qand v (wrp (-v))) 16) v)) (qand (ntF (w 75) (qor (qand v (wrp (-v))) (qand (ntF (w 75) (qand v (wrp (-v))) 16) v)) 16) v)) 16) v))]) (w' := w) (n' := 142) rfl ?_
          refine qG.br (P := qor (qor (qor (qand v (wrp (-v))) (qand (ntF (w 75) (qand v (wrp (-v))) 16) v)) (qand (ntF (w 75) (qor (qand v (wrp (-v))) (qand (ntF (w 75) (qand v (wrp (-v))) 16) v)) 16) v)) (qand (ntF (w 75) (qor (qor (qand v (wrp (-v))) (qand (ntF (w 75) (qand v (wrp (-v))) 16) v)) (qand (ntF (w 75) (qor (qand v (wrp (-v))) (qand (ntF (w 75) (qand v (wrp (-v))) 16) v)) 16) v)) 16) v) = v) (pc1 := 33) (pc2 := 37) (st1 := []) rfl (fun hq => ?_) (fun hq => ?_)
          · skip
            refine qG.blk 2 (pc' := 38) (ls' := [(2, 74), (0, v), (0, qor (qor (qor (qand v (wrp (-v))) (qand (ntF (w 75) (qand v (wrp (-v))) 16) v)) (qand (ntF (w 75) (qor (qand v (wrp (-v))) (qand (ntF (w 75) (qand v (wrp (-v))) 16) v)) 16) v)) (qand (ntF (w 75) (qor (qor (qand v (wrp (-v))) (qand (ntF (w 75) (qand v (wrp (-v))) 16) v)) (qand (ntF (w 75) (qor (qand v (wrp (-v))) (qand (ntF (w 75) (qand v (wrp (-v))) 16) v)) 16) v)) 16) v)), (0, 4)]) (st' := [(0, 1)]) (w' := w) (n' := 142) rfl ?_
            refine qG.ret rfl (by first | rfl | exact decide_eq_true (by omega)) ?_
            subst hQ9
            exact ⟨congrArg (Prod.mk (0 : Nat)) (by first | exact (if_pos hq).symm | exact (if_neg hq).symm), rfl, rfl⟩
          · skip
            refine qG.blk 1 (pc' := 38) (ls' := [(2, 74), (0, v), (0, qor (qor (qor (qand v (wrp (-v))) (qand (ntF (w 75) (qand v (wrp (-v))) 16) v)) (qand (ntF (w 75) (qor (qand v (wrp (-v))) (qand (ntF (w 75) (qand v (wrp (-v))) 16) v)) 16) v)) (qand (ntF (w 75) (qor (qor (qand v (wrp (-v))) (qand (ntF (w 75) (qand v (wrp (-v))) 16) v)) (qand (ntF (w 75) (qor (qand v (wrp (-v))) (qand (ntF (w 75) (qand v (wrp (-v))) 16) v)) 16) v)) 16) v)), (0, 4)]) (st' := [(0, 0)]) (w' := w) (n' := 142) rfl ?_
            refine qG.ret rfl (by first | rfl | exact decide_eq_true (by omega)) ?_
            subst hQ9
            exact ⟨congrArg (Prod.mk (0 : Nat)) (by first | exact (if_pos hq).symm | exact (if_neg hq).symm), rfl, rfl⟩
      · exact absurd h3 (by decide)
    · exact absurd h2 (by decide)
  · exact absurd h1 (by decide)
