/-! how long the tape is, on both sides -/
theorem qi2b_in (x : Int) : -128 ≤ qi2b x ∧ qi2b x ≤ 127 := by
  unfold qi2b
  omega
theorem qG.cst {sc : Option (Nat × (Nat → Int))} {d k pc n m x len : Nat} {ls r : List qV} {w : qW} {Q : qV → qW → Nat → Prop} {i p v : Int} (hq : qcd k pc = some (.bastore, len)) (hp : qpl p.toNat = (1, 4, m, x)) (hi : (0 ≤ i ∧ i < (m : Int)) ∧ -128 ≤ v ∧ v ≤ 127) (h0 : 0 < p ∧ p ≤ (n : Int)) (g : qG sc d k (pc + 1) ls r (qup w p.toNat i.toNat v) n Q) : qG sc d k pc ls ((0, v) :: (0, i) :: (2, p) :: r) w n Q := by
  refine qG.one (pc' := pc + 1) (ls' := ls) (st' := r) (w' := qup w p.toNat i.toNat v) (n' := n) ?_ g
  unfold qone
  rw [hq]
  show qs1 sc k .bastore len pc ls ((0, v) :: (0, i) :: (2, p) :: r) w n = _
  rw [qs1_bastore]
  show (match qpl p.toNat with
    | (1, 3, m, _) => if (0 ≤ i ∧ i < (m : Int)) ∧ 0 ≤ v ∧ v ≤ 1 then (if 0 < p ∧ p ≤ (n : Int) then some (pc + 1, ls, r, qup w p.toNat i.toNat v, n) else none) else none
    | (1, 4, m, _) => if (0 ≤ i ∧ i < (m : Int)) ∧ -128 ≤ v ∧ v ≤ 127 then (if 0 < p ∧ p ≤ (n : Int) then some (pc + 1, ls, r, qup w p.toNat i.toNat v, n) else none) else none
    | _ => none) = _
  rw [hp]
  show (if (0 ≤ i ∧ i < (m : Int)) ∧ -128 ≤ v ∧ v ≤ 127 then (if 0 < p ∧ p ≤ (n : Int) then some (pc + 1, ls, r, qup w p.toNat i.toNat v, n) else none) else none) = _
  rw [if_pos hi, if_pos h0]
noncomputable def fdX (n : Nat) (w : qW) (r : qV) (w1 : qW) : Prop := (¬ n + 20 ≤ 600 ∧ r = (0, -1) ∧ w1 = w) ∨ (n + 20 ≤ 600 ∧ r = (0, ((n + 20 : Nat) : Int)) ∧ w1 8 1 = ((n + 20 : Nat) : Int) ∧ w1 95 25 = w 95 25)
noncomputable def fdR (n : Nat) (w : qW) (r : qV) (w1 : qW) : Prop := (¬ n + 20 ≤ 600 ∧ r = (0, -1) ∧ w1 = w) ∨ (n + 20 ≤ 600 ∧ r = (0, ((n + 20 : Nat) : Int)) ∧ w1 95 25 = ((n + 20 : Nat) : Int) ∧ w1 8 1 = w 8 1)
noncomputable def enX (v : Int) (n : Nat) (w : qW) (r : qV) (w1 : qW) : Prop := (¬ (0 ≤ v ∧ v ≤ (n : Int)) ∧ r = (0, 0) ∧ w1 = w) ∨ ((0 ≤ v ∧ v ≤ (n : Int)) ∧ r = (0, 1) ∧ w1 = qup w 8 1 v)
noncomputable def enR (v : Int) (n : Nat) (w : qW) (r : qV) (w1 : qW) : Prop := (¬ (0 ≤ v ∧ v ≤ (n : Int)) ∧ r = (0, 0) ∧ w1 = w) ∨ ((0 ≤ v ∧ v ≤ (n : Int)) ∧ r = (0, 1) ∧ w1 = qup w 95 25 v)
theorem K_hasRoom {d : Nat} (hd : 0 ≤ d) (n : Nat) (hn9 : n ≤ 600) (w : qW) (hn : w 8 1 = (n : Int)) : qG none d 129 0 [(2, 8), (0, 20)] [] w 142 (fun (r : qV) (w1 : qW) (n1 : Nat) => r = (0, if n + 20 ≤ 600 then 1 else 0) ∧ w1 = w ∧ n1 = 142) := by
  generalize hQ9 : (fun (r : qV) (w1 : qW) (n1 : Nat) => r = (0, if n + 20 ≤ 600 then 1 else 0) ∧ w1 = w ∧ n1 = 142) = Q9
  refine qG.blk 2 (pc' := 4) (ls' := [(2, 8), (0, 20)]) (st' := [(0, w 8 1)]) (w' := w) (n' := 142) rfl ?_
  rw [show w 8 1 = ((n : Nat) : Int) from hn]
  refine qG.blk 2 (pc' := 6) (ls' := [(2, 8), (0, 20)]) (st' := [(0, wrp (((n : Nat) : Int) + 20))]) (w' := w) (n' := 142) rfl ?_
  rw [show wrp (((n : Nat) : Int) + 20) = ((n + 20 : Nat) : Int) from by rw [wrp_id (by omega) (by omega)]; omega]
  refine qG.blk 1 (pc' := 9) (ls' := [(2, 8), (0, 20)]) (st' := [(0, 600), (0, ((n + 20 : Nat) : Int))]) (w' := w) (n' := 142) rfl ?_
  refine qG.br (P := 600 < ((n + 20 : Nat) : Int)) (pc1 := 16) (pc2 := 12) (st1 := []) rfl (fun h1 => ?_) (fun h1 => ?_)
  · skip
    refine qG.blk 1 (pc' := 17) (ls' := [(2, 8), (0, 20)]) (st' := [(0, 0)]) (w' := w) (n' := 142) rfl ?_
    refine qG.ret rfl (by first | rfl | exact decide_eq_true (by omega)) ?_
    subst hQ9
    exact ⟨congrArg (Prod.mk (0 : Nat)) (by first | (rw [if_pos (by omega)]; done) | (rw [if_neg (by omega)]; done)), rfl, rfl⟩
  · skip
    refine qG.blk 2 (pc' := 17) (ls' := [(2, 8), (0, 20)]) (st' := [(0, 1)]) (w' := w) (n' := 142) rfl ?_
    refine qG.ret rfl (by first | rfl | exact decide_eq_true (by omega)) ?_
    subst hQ9
    exact ⟨congrArg (Prod.mk (0 : Nat)) (by first | (rw [if_pos (by omega)]; done) | (rw [if_neg (by omega)]; done)), rfl, rfl⟩
theorem K_cutTo {d : Nat} (hd : 0 ≤ d) (v : Int) (n : Nat) (hn9 : n ≤ 600) (w : qW) (hI : yInv zgf zga zra zSp w) (hn : w 8 1 = (n : Int)) : qG none d 131 0 [(2, 8), (0, v)] [] w 142 (fun (r : qV) (w1 : qW) (n1 : Nat) => n1 = 142 ∧ enX v n w r w1) := by
  generalize hQ9 : (fun (r : qV) (w1 : qW) (n1 : Nat) => n1 = 142 ∧ enX v n w r w1) = Q9
  refine qG.blk 1 (pc' := 1) (ls' := [(2, 8), (0, v)]) (st' := [(0, v)]) (w' := w) (n' := 142) rfl ?_
  refine qG.br (P := v < 0) (pc1 := 12) (pc2 := 4) (st1 := []) rfl (fun h1 => ?_) (fun h1 => ?_)
  · skip
    refine qG.blk 1 (pc' := 13) (ls' := [(2, 8), (0, v)]) (st' := [(0, 0)]) (w' := w) (n' := 142) rfl ?_
    refine qG.ret rfl (by first | rfl | exact decide_eq_true (by omega)) ?_
    subst hQ9
    refine ⟨rfl, ?_⟩; first | exact .inl ⟨by omega, rfl, rfl⟩ | exact .inr ⟨by omega, rfl, rfl⟩
  · skip
    refine qG.blk 3 (pc' := 9) (ls' := [(2, 8), (0, v)]) (st' := [(0, w 8 1), (0, v)]) (w' := w) (n' := 142) rfl ?_
    rw [show w 8 1 = ((n : Nat) : Int) from hn]
    refine qG.br (P := ((n : Nat) : Int) < v) (pc1 := 12) (pc2 := 14) (st1 := []) rfl (fun h2 => ?_) (fun h2 => ?_)
    · skip
      refine qG.blk 1 (pc' := 13) (ls' := [(2, 8), (0, v)]) (st' := [(0, 0)]) (w' := w) (n' := 142) rfl ?_
      refine qG.ret rfl (by first | rfl | exact decide_eq_true (by omega)) ?_
      subst hQ9
      refine ⟨rfl, ?_⟩; first | exact .inl ⟨by omega, rfl, rfl⟩ | exact .inr ⟨by omega, rfl, rfl⟩
    · skip
      refine qG.blk 4 (pc' := 20) (ls' := [(2, 8), (0, v)]) (st' := [(0, 1)]) (w' := (qup w 8 1 v)) (n' := 142) rfl ?_
      refine qG.ret rfl (by first | rfl | exact decide_eq_true (by omega)) ?_
      subst hQ9
      refine ⟨rfl, ?_⟩; first | exact .inl ⟨by omega, rfl, rfl⟩ | exact .inr ⟨by omega, rfl, rfl⟩
theorem K_X11_end {d : Nat} (hd : 1 ≤ d) (v : Int) (n : Nat) (hn9 : n ≤ 600) (w : qW) (hI : yInv zgf zga zra zSp w) (hn : w 8 1 = (n : Int)) : qG none d 168 0 [(2, 1), (0, v)] [] w 142 (fun (r : qV) (w1 : qW) (_ : Nat) => enX v n w r w1) := by
  generalize hQ9 : (fun (r : qV) (w1 : qW) (_ : Nat) => enX v n w r w1) = Q9
  obtain ⟨d, rfl⟩ : ∃ d9, d = d9 + 1 := ⟨d - 1, by omega⟩
  refine qG.blk 2 (pc' := 4) (ls' := [(2, 1), (0, v)]) (st' := [(2, w 1 3)]) (w' := w) (n' := 142) rfl ?_
  rw [show w 1 3 = 8 from zref hI rfl rfl]
  refine qG.blk 1 (pc' := 5) (ls' := [(2, 1), (0, v)]) (st' := [(0, v), (2, 8)]) (w' := w) (n' := 142) rfl ?_
  refine qG.call (t := 131) (na := 2) (sk := 1) (md := 1) (ls1 := [(2, 8), (0, v)]) (r1 := []) rfl rfl rfl rfl rfl (K_cutTo (Nat.zero_le _) v n hn9 w hI hn) ?_
  rintro ⟨_, x9⟩ w1 _ ⟨rfl, ⟨h9, hx9, hw9⟩ | ⟨h9, hx9, hw9⟩⟩ <;> obtain ⟨rfl, rfl⟩ := Prod.mk.inj hx9
  · skip
    show qG none (d + 1) 168 8 [(2, 1), (0, v)] [(0, 0)] w1 142 Q9
    refine qG.ret rfl (by first | rfl | exact decide_eq_true (by omega)) ?_
    subst hQ9
    first | exact .inl ⟨h9, rfl, hw9⟩ | exact .inr ⟨h9, rfl, hw9⟩
  · skip
    show qG none (d + 1) 168 8 [(2, 1), (0, v)] [(0, 1)] w1 142 Q9
    refine qG.ret rfl (by first | rfl | exact decide_eq_true (by omega)) ?_
    subst hQ9
    first | exact .inl ⟨h9, rfl, hw9⟩ | exact .inr ⟨h9, rfl, hw9⟩
theorem K_X12_end {d : Nat} (hd : 1 ≤ d) (v : Int) (n : Nat) (hn9 : n ≤ 600) (w : qW) (hI : yInv zgf zga zra zSp w) (hn : w 95 25 = (n : Int)) : qG none d 223 0 [(2, 95), (0, v)] [] w 142 (fun (r : qV) (w1 : qW) (_ : Nat) => enR v n w r w1) := by
  generalize hQ9 : (fun (r : qV) (w1 : qW) (_ : Nat) => enR v n w r w1) = Q9
  obtain ⟨d, rfl⟩ : ∃ d9, d = d9 + 1 := ⟨d - 1, by omega⟩
  refine qG.blk 4 (pc' := 6) (ls' := [(2, 95), (0, v)]) (st' := [(0, w 95 25), (0, 0), (0, v)]) (w' := w) (n' := 142) rfl ?_
  rw [show w 95 25 = ((n : Nat) : Int) from hn]
  refine qG.call (t := 206) (na := 3) (sk := 0) (md := 0) (ls1 := [(0, v), (0, 0), (0, ((n : Nat) : Int))]) (r1 := []) rfl rfl rfl rfl rfl (K_isIn (Nat.zero_le _) _ _ _ _) ?_
  rintro _ w7 _ ⟨rfl, hw7, rfl⟩
  rw [hw7]
  show qG none (d + 1) 223 9 [(2, 95), (0, v)] [(0, isInV (v) (0) (((n : Nat) : Int)))] w 142 Q9
  refine qG.br (P := isInV (v) (0) (((n : Nat) : Int)) = 0) (pc1 := 12) (pc2 := 14) (st1 := []) rfl (fun h1 => ?_) (fun h1 => ?_)
  · skip
    rw [isIn_b] at h1
    refine qG.blk 1 (pc' := 13) (ls' := [(2, 95), (0, v)]) (st' := [(0, 0)]) (w' := w) (n' := 142) rfl ?_
    refine qG.ret rfl (by first | rfl | exact decide_eq_true (by omega)) ?_
    subst hQ9
    first | exact .inl ⟨h1, rfl, rfl⟩ | exact .inr ⟨h1, rfl, rfl⟩
  · skip
    rw [isIn_p] at h1
    refine qG.blk 4 (pc' := 20) (ls' := [(2, 95), (0, v)]) (st' := [(0, 1)]) (w' := (qup w 95 25 v)) (n' := 142) rfl ?_
    refine qG.ret rfl (by first | rfl | exact decide_eq_true (by omega)) ?_
    subst hQ9
    first | exact .inl ⟨h1, rfl, rfl⟩ | exact .inr ⟨h1, rfl, rfl⟩
noncomputable def TXZ (_ : qV) (w1 : qW) (_ : Nat) : Prop := w1 95 25 = 0
theorem K_textCS {d : Nat} (hd : 42 ≤ d) (k : Nat) (hk : k < 4) (w : qW) (hI : yInv zgf zga zra zSp w) : qG none d 245 67 [(2, 95), (0, ((k : Nat) : Int)), (9, 0)] [] (txW w 1) 142 (TXZ) := by
  generalize hQ9 : (TXZ) = Q9
  obtain ⟨d, rfl⟩ : ∃ d9, d = d9 + 1 := ⟨d - 1, by omega⟩
  have hAT : AW XN w (txW w 1) := txW_A hI (by decide) (by decide)
  refine qG.blk 1 (pc' := 68) (ls' := [(2, 95), (0, ((k : Nat) : Int)), (9, 0)]) (st' := [(2, 95)]) (w' := (txW w 1)) (n' := 142) rfl ?_
  refine qG.call (t := 231) (na := 1) (sk := 1) (md := 1) (ls1 := [(2, 95), (9, 0)]) (r1 := []) rfl rfl rfl rfl rfl (K_next0 (by omega) (txW w 1) hAT.1) ?_
  rintro _ w1 _ ⟨rfl, rfl, hX1⟩
  obtain ⟨hN1, hg1, hg2, hg3⟩ := hX1.look hAT.1
  have hA1 : AW XN w w1 := hAT.tr hN1 (by decide +kernel)
  have hP1 : PI w1 := ⟨hN1.1, hg2, hg3⟩
  have e23 : w1 95 23 = 0 := (hN1.2 95 23 (fun _ => rfl)).trans (by unfold txW; simp (disch := decide) only [qup_ne, qup_j, qup_k])
  have e24 : w1 95 24 = 0 := (hN1.2 95 24 (fun _ => rfl)).trans (by unfold txW; simp (disch := decide) only [qup_ne, qup_j, qup_k])
  have e35 : w1 95 35 = 1 := (hN1.2 95 35 (fun _ => rfl)).trans (by unfold txW; simp (disch := decide) only [qup_ne, qup_j, qup_k])
  have e109 : w1 109 0 = 0 := (hN1.2 109 0 (fun _ => rfl)).trans (by unfold txW; simp (disch := decide) only [qup_ne, qup_j, qup_k])
  have hb1 := hP1.b
  show qG none (d + 1) 245 71 [(2, 95), (0, ((k : Nat) : Int)), (9, 0)] [] w1 142 Q9
  refine qG.blk 2 (pc' := 73) (ls' := [(2, 95), (0, ((k : Nat) : Int)), (0, 1)]) (st' := []) (w' := w1) (n' := 142) rfl ?_
  have L73 : ∀ (m9 : Nat) (good : Int) (L : Nat) (wL : qW), (good * (601 - wL 95 28)).toNat = m9 → (AW XN w wL ∧ wL 95 35 = 1 ∧ (good = 0 ∨ (good = 1 ∧ L ≤ 40 ∧ PI wL ∧ SL wL L))) → qG none (d + 1) 245 73 [(2, 95), (0, ((k : Nat) : Int)), (0, good)] [] wL 142 Q9 := by
    intro m9
    induction m9 using Nat.strongRecOn with
    | ind m9 ih73 =>
    intro good L wL hm73 hI73
    obtain ⟨hAL, heL, hOr⟩ := hI73
    refine qG.blk 1 (pc' := 74) (ls' := [(2, 95), (0, ((k : Nat) : Int)), (0, good)]) (st' := [(0, good)]) (w' := wL) (n' := 142) rfl ?_
    refine qG.br (P := good = 0) (pc1 := 106) (pc2 := 77) (st1 := []) rfl (fun hg => ?_) (fun hg => ?_)
    · skip
      subst hg
      refine qG.blk 9 (pc' := 121) (ls' := [(2, 95), (0, ((k : Nat) : Int)), (0, 0)]) (st' := [(0, 0), (2, 95)]) (w' := (qup (qup wL 95 25 0) 95 32 (wL 95 30))) (n' := 142) rfl ?_
      refine qG.br (P := (0 : Int) = 0) (pc1 := 128) (pc2 := 124) (st1 := [(2, 95)]) rfl (fun h1 => ?_) (fun h1 => ?_)
      · skip
        refine qG.blk 4 (pc' := 136) (ls' := [(2, 95), (0, ((k : Nat) : Int)), (0, 0)]) (st' := [(0, 0)]) (w' := (qup (qup (qup wL 95 25 0) 95 32 (wL 95 30)) 95 34 (wL 95 31))) (n' := 142) rfl ?_
        refine qG.br (P := (0 : Int) = 0) (pc1 := 139) (pc2 := 141) (st1 := []) rfl (fun h2 => ?_) (fun h2 => ?_)
        · skip
          refine qG.blk 1 (pc' := 140) (ls' := [(2, 95), (0, ((k : Nat) : Int)), (0, 0)]) (st' := [(0, (-1))]) (w' := (qup (qup (qup wL 95 25 0) 95 32 (wL 95 30)) 95 34 (wL 95 31))) (n' := 142) rfl ?_
          refine qG.ret rfl rfl ?_
          subst hQ9
          unfold TXZ; simp (disch := decide) only [qup_ne, qup_j, qup_k]
        · exact absurd h2 (by decide)
      · exact absurd h1 (by decide)
    · skip
      obtain ⟨hg1, hL40, hPL, hSL⟩ := hOr.resolve_left hg
      subst hg1
      have hbL := hPL.b
      refine qG.blk 2 (pc' := 81) (ls' := [(2, 95), (0, ((k : Nat) : Int)), (0, 1)]) (st' := [(0, wL 95 27)]) (w' := wL) (n' := 142) rfl ?_
      refine qG.br (P := wL 95 27 = 0) (pc1 := 106) (pc2 := 84) (st1 := []) rfl (fun htok => ?_) (fun htok => ?_)
      · skip
        refine qG.blk 9 (pc' := 121) (ls' := [(2, 95), (0, ((k : Nat) : Int)), (0, 1)]) (st' := [(0, 1), (2, 95)]) (w' := (qup (qup wL 95 25 0) 95 32 (wL 95 30))) (n' := 142) rfl ?_
        refine qG.br (P := (1 : Int) = 0) (pc1 := 128) (pc2 := 124) (st1 := [(2, 95)]) rfl (fun h3 => ?_) (fun h3 => ?_)
        · exact absurd h3 (by decide)
        · skip
          refine qG.blk 4 (pc' := 136) (ls' := [(2, 95), (0, ((k : Nat) : Int)), (0, 1)]) (st' := [(0, 1)]) (w' := (qup (qup (qup wL 95 25 0) 95 32 (wL 95 30)) 95 34 (-1))) (n' := 142) rfl ?_
          refine qG.br (P := (1 : Int) = 0) (pc1 := 139) (pc2 := 141) (st1 := []) rfl (fun h4 => ?_) (fun h4 => ?_)
          · exact absurd h4 (by decide)
          · skip
            refine qG.blk 2 (pc' := 145) (ls' := [(2, 95), (0, ((k : Nat) : Int)), (0, 1)]) (st' := [(0, wL 95 35)]) (w' := (qup (qup (qup wL 95 25 0) 95 32 (wL 95 30)) 95 34 (-1))) (n' := 142) rfl ?_
            rw [show wL 95 35 = 1 from heL]
            refine qG.br (P := (1 : Int) = 0) (pc1 := 156) (pc2 := 148) (st1 := []) rfl (fun h5 => ?_) (fun h5 => ?_)
            · exact absurd h5 (by decide)
            · skip
              refine qG.blk 2 (pc' := 150) (ls' := [(2, 95), (0, ((k : Nat) : Int)), (0, 1)]) (st' := [(0, ((k : Nat) : Int)), (2, 95)]) (w' := (qup (qup (qup wL 95 25 0) 95 32 (wL 95 30)) 95 34 (-1))) (n' := 142) rfl ?_
              have hA3 := tlW_A hAL (v := -1) (by decide) (by decide)
              show qG none (d + 1) 245 150 [(2, 95), (0, ((k : Nat) : Int)), (0, 1)] [(0, ((k : Nat) : Int)), (2, 95)] (tlW wL (-1)) 142 Q9
              refine qG.call (t := 246) (na := 2) (sk := 1) (md := 1) (ls1 := [(2, 95), (0, ((k : Nat) : Int)), (9, 0)]) (r1 := []) rfl rfl rfl rfl rfl (K_keepsShow (by omega) k hk (tlW wL (-1)) hA3.1) ?_
              rintro _ _ _ ⟨rfl, rfl, rfl⟩
              show qG none (d + 1) 245 153 [(2, 95), (0, ((k : Nat) : Int)), (0, 1)] [] (ksW (tlW wL (-1)) k ((tlW wL (-1)) 95 23).toNat) 142 Q9
              refine qG.blk 3 (pc' := 164) (ls' := [(2, 95), (0, ((k : Nat) : Int)), (0, 1)]) (st' := [(0, (ksW (tlW wL (-1)) k ((tlW wL (-1)) 95 23).toNat) 95 23)]) (w' := (ksW (tlW wL (-1)) k ((tlW wL (-1)) 95 23).toNat)) (n' := 142) rfl ?_
              refine qG.ret rfl rfl ?_
              subst hQ9
              exact (ksW_o (p := 95) (by decide) _ 25).trans (by unfold tlW; simp (disch := decide) only [qup_ne, qup_j, qup_k])
      · skip
        refine qG.blk 2 (pc' := 88) (ls' := [(2, 95), (0, ((k : Nat) : Int)), (0, 1)]) (st' := [(0, wL 95 35)]) (w' := wL) (n' := 142) rfl ?_
        rw [show wL 95 35 = 1 from heL]
        refine qG.br (P := (1 : Int) = 0) (pc1 := 98) (pc2 := 91) (st1 := []) rfl (fun h6 => ?_) (fun h6 => ?_)
        · exact absurd h6 (by decide)
        · skip
          refine qG.blk 1 (pc' := 92) (ls' := [(2, 95), (0, ((k : Nat) : Int)), (0, 1)]) (st' := [(2, 95)]) (w' := wL) (n' := 142) rfl ?_
          refine qG.call (t := 243) (na := 1) (sk := 1) (md := 1) (ls1 := [(2, 95), (9, 0)]) (r1 := []) rfl rfl rfl rfl rfl (K_aStep (by omega) L wL hPL hSL hL40) ?_
          rintro _ w7 _ ⟨rfl, ⟨rfl, hS7⟩ | ⟨rfl, hS7, hPn, hSn, hL41, hmn⟩⟩
          · skip
            show qG none (d + 1) 245 95 [(2, 95), (0, ((k : Nat) : Int)), (0, 1)] [(0, 0)] w7 142 Q9
            have hAn := hAL.tr hS7 (by decide +kernel)
            have hen := (hS7.2 95 35 (fun _ => rfl)).trans heL
            have hbn := hbL
            refine qG.blk 3 (pc' := 73) (ls' := [(2, 95), (0, ((k : Nat) : Int)), (0, 0)]) (st' := []) (w' := w7) (n' := 142) rfl ?_
            exact ih73 _ (by omega) (0) (L) (w7) rfl (⟨hAn, hen, .inl rfl⟩)
          · skip
            show qG none (d + 1) 245 95 [(2, 95), (0, ((k : Nat) : Int)), (0, 1)] [(0, 1)] w7 142 Q9
            have hAn := hAL.tr hS7 (by decide +kernel)
            have hen := (hS7.2 95 35 (fun _ => rfl)).trans heL
            have hbn := hbL
            have hbn2 := hPn.b
            refine qG.blk 3 (pc' := 73) (ls' := [(2, 95), (0, ((k : Nat) : Int)), (0, 1)]) (st' := []) (w' := w7) (n' := 142) rfl ?_
            exact ih73 _ (by omega) (1) (L + 1) (w7) rfl (⟨hAn, hen, .inr ⟨rfl, hL41, hPn, hSn⟩⟩)
  exact L73 _ (1) (0) (w1) rfl (⟨hA1, e35, .inr ⟨rfl, by omega, hP1, e23, fun i hi => by omega⟩⟩)
theorem K_textDS {d : Nat} (hd : 42 ≤ d) (k : Nat) (hk : k < 4) (w : qW) (hI : yInv zgf zga zra zSp w) : qG none d 245 0 [(2, 95), (0, ((k : Nat) : Int)), (9, 0)] [] w 142 (TXZ) := by
  generalize hQ9 : (TXZ) = Q9
  obtain ⟨d, rfl⟩ : ∃ d9, d = d9 + 1 := ⟨d - 1, by omega⟩
  refine qG.blk 6 (pc' := 8) (ls' := [(2, 95), (0, ((k : Nat) : Int)), (9, 0)]) (st' := [(0, 4), (0, 0), (0, ((k : Nat) : Int))]) (w' := (qup w 95 30 0)) (n' := 142) rfl ?_
  refine qG.call (t := 206) (na := 3) (sk := 0) (md := 0) (ls1 := [(0, ((k : Nat) : Int)), (0, 0), (0, 4)]) (r1 := []) rfl rfl rfl rfl rfl (K_isIn (by omega) _ _ _ _) ?_
  rintro _ w7 _ ⟨rfl, hw7, rfl⟩
  rw [hw7]
  show qG none (d + 1) 245 11 [(2, 95), (0, ((k : Nat) : Int)), (9, 0)] [(0, isInV ((k : Nat) : Int) 0 4)] (qup w 95 30 0) 142 Q9
  refine qG.br (P := isInV ((k : Nat) : Int) 0 4 = 0) (pc1 := 14) (pc2 := 31) (st1 := []) rfl (fun hin => ?_) (fun hin => ?_)
  · exfalso; unfold isInV at hin; (repeat' split at hin) <;> omega
  · skip
    refine qG.blk 3 (pc' := 34) (ls' := [(2, 95), (0, ((k : Nat) : Int)), (9, 0)]) (st' := [(0, 4), (0, ((k : Nat) : Int)), (2, 95)]) (w' := (qup w 95 30 0)) (n' := 142) rfl ?_
    refine qG.br (P := ((k : Nat) : Int) < 4) (pc1 := 37) (pc2 := 41) (st1 := [(2, 95)]) rfl (fun hk4 => ?_) (fun hk4 => ?_)
    · skip
      refine qG.blk 2 (pc' := 42) (ls' := [(2, 95), (0, ((k : Nat) : Int)), (9, 0)]) (st' := [(0, 1), (2, 95)]) (w' := (qup w 95 30 0)) (n' := 142) rfl ?_
      refine qG.gd (P := (0 < (95 : Int) ∧ (95 : Int) ≤ ((142 : Nat) : Int)) ∧ 0 ≤ 1 ∧ 1 ≤ 1) (pc' := 45) (ls' := [(2, 95), (0, ((k : Nat) : Int)), (9, 0)]) (st' := []) (w' := (qup (qup w 95 30 0) 95 35 1)) (n' := 142) rfl (by omega) ?_
      refine qG.blk 11 (pc' := 64) (ls' := [(2, 95), (0, ((k : Nat) : Int)), (9, 0)]) (st' := [(2, w 95 15)]) (w' := (qup (qup (qup (qup (qup w 95 30 0) 95 35 1) 95 26 0) 95 23 0) 95 24 0)) (n' := 142) rfl ?_
      rw [show w 95 15 = 109 from zref hI rfl rfl]
      refine qG.blk 2 (pc' := 66) (ls' := [(2, 95), (0, ((k : Nat) : Int)), (9, 0)]) (st' := [(0, 0), (0, 0), (2, 109)]) (w' := (qup (qup (qup (qup (qup w 95 30 0) 95 35 1) 95 26 0) 95 23 0) 95 24 0)) (n' := 142) rfl ?_
      refine qG.ar (P := 0 ≤ 0 ∧ 0 < ((21 : Nat) : Int)) (P2 := 0 < (109 : Int) ∧ (109 : Int) ≤ ((142 : Nat) : Int)) (pc' := 67) (ls' := [(2, 95), (0, ((k : Nat) : Int)), (9, 0)]) (st' := []) (w' := (qup (qup (qup (qup (qup (qup w 95 30 0) 95 35 1) 95 26 0) 95 23 0) 95 24 0) 109 0 0)) (n' := 142) rfl (by omega) (by decide) ?_
      subst hQ9
      exact K_textCS (by omega) k hk w hI
    · exfalso; omega
theorem K_textCP {d : Nat} (hd : 42 ≤ d) (w : qW) (hI : yInv zgf zga zra zSp w) : qG none d 245 67 [(2, 95), (0, 4), (9, 0)] [] (txW w 0) 142 (TXZ) := by
  generalize hQ9 : (TXZ) = Q9
  obtain ⟨d, rfl⟩ : ∃ d9, d = d9 + 1 := ⟨d - 1, by omega⟩
  have hAT : AW XN w (txW w 0) := txW_A hI (by decide) (by decide)
  refine qG.blk 1 (pc' := 68) (ls' := [(2, 95), (0, 4), (9, 0)]) (st' := [(2, 95)]) (w' := (txW w 0)) (n' := 142) rfl ?_
  refine qG.call (t := 231) (na := 1) (sk := 1) (md := 1) (ls1 := [(2, 95), (9, 0)]) (r1 := []) rfl rfl rfl rfl rfl (K_next0 (by omega) (txW w 0) hAT.1) ?_
  rintro _ w1 _ ⟨rfl, rfl, hX1⟩
  obtain ⟨hN1, hg1, hg2, hg3⟩ := hX1.look hAT.1
  have hA1 : AW XN w w1 := hAT.tr hN1 (by decide +kernel)
  have hP1 : PI w1 := ⟨hN1.1, hg2, hg3⟩
  have e23 : w1 95 23 = 0 := (hN1.2 95 23 (fun _ => rfl)).trans (by unfold txW; simp (disch := decide) only [qup_ne, qup_j, qup_k])
  have e24 : w1 95 24 = 0 := (hN1.2 95 24 (fun _ => rfl)).trans (by unfold txW; simp (disch := decide) only [qup_ne, qup_j, qup_k])
  have e35 : w1 95 35 = 0 := (hN1.2 95 35 (fun _ => rfl)).trans (by unfold txW; simp (disch := decide) only [qup_ne, qup_j, qup_k])
  have e109 : w1 109 0 = 0 := (hN1.2 109 0 (fun _ => rfl)).trans (by unfold txW; simp (disch := decide) only [qup_ne, qup_j, qup_k])
  have hb1 := hP1.b
  show qG none (d + 1) 245 71 [(2, 95), (0, 4), (9, 0)] [] w1 142 Q9
  refine qG.blk 2 (pc' := 73) (ls' := [(2, 95), (0, 4), (0, 1)]) (st' := []) (w' := w1) (n' := 142) rfl ?_
  have L73 : ∀ (m9 : Nat) (good : Int) (L : Nat) (wL : qW), (good * (601 - wL 95 28)).toNat = m9 → (AW XN w wL ∧ wL 95 35 = 0 ∧ (good = 0 ∨ (good = 1 ∧ L ≤ 20 ∧ PI wL ∧ wL 95 24 ≤ wL 95 28 ∧ RsL wL L))) → qG none (d + 1) 245 73 [(2, 95), (0, 4), (0, good)] [] wL 142 Q9 := by
    intro m9
    induction m9 using Nat.strongRecOn with
    | ind m9 ih73 =>
    intro good L wL hm73 hI73
    obtain ⟨hAL, heL, hOr⟩ := hI73
    refine qG.blk 1 (pc' := 74) (ls' := [(2, 95), (0, 4), (0, good)]) (st' := [(0, good)]) (w' := wL) (n' := 142) rfl ?_
    refine qG.br (P := good = 0) (pc1 := 106) (pc2 := 77) (st1 := []) rfl (fun hg => ?_) (fun hg => ?_)
    · skip
      subst hg
      refine qG.blk 9 (pc' := 121) (ls' := [(2, 95), (0, 4), (0, 0)]) (st' := [(0, 0), (2, 95)]) (w' := (qup (qup wL 95 25 0) 95 32 (wL 95 30))) (n' := 142) rfl ?_
      refine qG.br (P := (0 : Int) = 0) (pc1 := 128) (pc2 := 124) (st1 := [(2, 95)]) rfl (fun h1 => ?_) (fun h1 => ?_)
      · skip
        refine qG.blk 4 (pc' := 136) (ls' := [(2, 95), (0, 4), (0, 0)]) (st' := [(0, 0)]) (w' := (qup (qup (qup wL 95 25 0) 95 32 (wL 95 30)) 95 34 (wL 95 31))) (n' := 142) rfl ?_
        refine qG.br (P := (0 : Int) = 0) (pc1 := 139) (pc2 := 141) (st1 := []) rfl (fun h2 => ?_) (fun h2 => ?_)
        · skip
          refine qG.blk 1 (pc' := 140) (ls' := [(2, 95), (0, 4), (0, 0)]) (st' := [(0, (-1))]) (w' := (qup (qup (qup wL 95 25 0) 95 32 (wL 95 30)) 95 34 (wL 95 31))) (n' := 142) rfl ?_
          refine qG.ret rfl rfl ?_
          subst hQ9
          unfold TXZ; simp (disch := decide) only [qup_ne, qup_j, qup_k]
        · exact absurd h2 (by decide)
      · exact absurd h1 (by decide)
    · skip
      obtain ⟨hg1, hL40, hPL, hDL, hSL⟩ := hOr.resolve_left hg
      subst hg1
      have hbL := hPL.b
      refine qG.blk 2 (pc' := 81) (ls' := [(2, 95), (0, 4), (0, 1)]) (st' := [(0, wL 95 27)]) (w' := wL) (n' := 142) rfl ?_
      refine qG.br (P := wL 95 27 = 0) (pc1 := 106) (pc2 := 84) (st1 := []) rfl (fun htok => ?_) (fun htok => ?_)
      · skip
        refine qG.blk 9 (pc' := 121) (ls' := [(2, 95), (0, 4), (0, 1)]) (st' := [(0, 1), (2, 95)]) (w' := (qup (qup wL 95 25 0) 95 32 (wL 95 30))) (n' := 142) rfl ?_
        refine qG.br (P := (1 : Int) = 0) (pc1 := 128) (pc2 := 124) (st1 := [(2, 95)]) rfl (fun h3 => ?_) (fun h3 => ?_)
        · exact absurd h3 (by decide)
        · skip
          refine qG.blk 4 (pc' := 136) (ls' := [(2, 95), (0, 4), (0, 1)]) (st' := [(0, 1)]) (w' := (qup (qup (qup wL 95 25 0) 95 32 (wL 95 30)) 95 34 (-1))) (n' := 142) rfl ?_
          refine qG.br (P := (1 : Int) = 0) (pc1 := 139) (pc2 := 141) (st1 := []) rfl (fun h4 => ?_) (fun h4 => ?_)
          · exact absurd h4 (by decide)
          · skip
            refine qG.blk 2 (pc' := 145) (ls' := [(2, 95), (0, 4), (0, 1)]) (st' := [(0, wL 95 35)]) (w' := (qup (qup (qup wL 95 25 0) 95 32 (wL 95 30)) 95 34 (-1))) (n' := 142) rfl ?_
            rw [show wL 95 35 = 0 from heL]
            refine qG.br (P := (0 : Int) = 0) (pc1 := 156) (pc2 := 148) (st1 := []) rfl (fun h5 => ?_) (fun h5 => ?_)
            · skip
              refine qG.blk 1 (pc' := 157) (ls' := [(2, 95), (0, 4), (0, 1)]) (st' := [(2, 95)]) (w' := (qup (qup (qup wL 95 25 0) 95 32 (wL 95 30)) 95 34 (-1))) (n' := 142) rfl ?_
              have hA3 := tlW_A hAL (v := -1) (by decide) (by decide)
              show qG none (d + 1) 245 157 [(2, 95), (0, 4), (0, 1)] [(2, 95)] (tlW wL (-1)) 142 Q9
              refine qG.call (t := 247) (na := 1) (sk := 1) (md := 1) (ls1 := [(2, 95), (9, 0)]) (r1 := []) rfl rfl rfl rfl rfl (K_keepsReasons (by omega) L (tlW wL (-1)) hA3.1 hSL.tl hL40) ?_
              rintro _ _ _ ⟨rfl, rfl, rfl⟩
              show qG none (d + 1) 245 160 [(2, 95), (0, 4), (0, 1)] [] (krW (tlW wL (-1)) L) 142 Q9
              refine qG.blk 2 (pc' := 164) (ls' := [(2, 95), (0, 4), (0, 1)]) (st' := [(0, (krW (tlW wL (-1)) L) 95 23)]) (w' := (krW (tlW wL (-1)) L)) (n' := 142) rfl ?_
              refine qG.ret rfl rfl ?_
              subst hQ9
              exact (krW_o (p := 95) (j := 25) (by decide)).trans (by unfold tlW; simp (disch := decide) only [qup_ne, qup_j, qup_k])
            · exact absurd h5 (by decide)
      · skip
        refine qG.blk 2 (pc' := 88) (ls' := [(2, 95), (0, 4), (0, 1)]) (st' := [(0, wL 95 35)]) (w' := wL) (n' := 142) rfl ?_
        rw [show wL 95 35 = 0 from heL]
        refine qG.br (P := (0 : Int) = 0) (pc1 := 98) (pc2 := 91) (st1 := []) rfl (fun h6 => ?_) (fun h6 => ?_)
        · skip
          refine qG.blk 1 (pc' := 99) (ls' := [(2, 95), (0, 4), (0, 1)]) (st' := [(2, 95)]) (w' := wL) (n' := 142) rfl ?_
          refine qG.call (t := 244) (na := 1) (sk := 1) (md := 1) (ls1 := [(2, 95)]) (r1 := []) rfl rfl rfl rfl rfl (K_aReason (by omega) L wL hPL hDL hSL hL40) ?_
          rintro _ w7 _ ⟨rfl, ⟨rfl, hS7⟩ | ⟨rfl, hS7, hPn, hSn, hDn, hmn, hL41⟩⟩
          · skip
            show qG none (d + 1) 245 102 [(2, 95), (0, 4), (0, 1)] [(0, 0)] w7 142 Q9
            have hAn := hAL.tr hS7 (by decide +kernel)
            have hen := (hS7.2 95 35 (fun _ => rfl)).trans heL
            have hbn := hbL
            refine qG.blk 2 (pc' := 73) (ls' := [(2, 95), (0, 4), (0, 0)]) (st' := []) (w' := w7) (n' := 142) rfl ?_
            exact ih73 _ (by omega) (0) (L) (w7) rfl (⟨hAn, hen, .inl rfl⟩)
          · skip
            show qG none (d + 1) 245 102 [(2, 95), (0, 4), (0, 1)] [(0, 1)] w7 142 Q9
            have hAn := hAL.tr hS7 (by decide +kernel)
            have hen := (hS7.2 95 35 (fun _ => rfl)).trans heL
            have hbn := hbL
            have hbn2 := hPn.b
            refine qG.blk 2 (pc' := 73) (ls' := [(2, 95), (0, 4), (0, 1)]) (st' := []) (w' := w7) (n' := 142) rfl ?_
            exact ih73 _ (by omega) (1) (L + 1) (w7) rfl (⟨hAn, hen, .inr ⟨rfl, hL41, hPn, hDn, hSn⟩⟩)
        · exact absurd h6 (by decide)
  exact L73 _ (1) (0) (w1) rfl (⟨hA1, e35, .inr ⟨rfl, by omega, hP1, by omega, e23, by rw [e109, e24], fun i hi => by rw [show i = 0 by omega, e109, e24]; omega, fun i hi => by omega⟩⟩)
theorem K_textDP {d : Nat} (hd : 42 ≤ d) (w : qW) (hI : yInv zgf zga zra zSp w) : qG none d 245 0 [(2, 95), (0, 4), (9, 0)] [] w 142 (TXZ) := by
  generalize hQ9 : (TXZ) = Q9
  obtain ⟨d, rfl⟩ : ∃ d9, d = d9 + 1 := ⟨d - 1, by omega⟩
  refine qG.blk 6 (pc' := 8) (ls' := [(2, 95), (0, 4), (9, 0)]) (st' := [(0, 4), (0, 0), (0, 4)]) (w' := (qup w 95 30 0)) (n' := 142) rfl ?_
  refine qG.call (t := 206) (na := 3) (sk := 0) (md := 0) (ls1 := [(0, 4), (0, 0), (0, 4)]) (r1 := []) rfl rfl rfl rfl rfl (K_isIn (by omega) _ _ _ _) ?_
  rintro _ w7 _ ⟨rfl, hw7, rfl⟩
  rw [hw7]
  show qG none (d + 1) 245 11 [(2, 95), (0, 4), (9, 0)] [(0, isInV 4 0 4)] (qup w 95 30 0) 142 Q9
  refine qG.br (P := isInV 4 0 4 = 0) (pc1 := 14) (pc2 := 31) (st1 := []) rfl (fun hin => ?_) (fun hin => ?_)
  · exfalso; unfold isInV at hin; (repeat' split at hin) <;> omega
  · skip
    refine qG.blk 3 (pc' := 34) (ls' := [(2, 95), (0, 4), (9, 0)]) (st' := [(0, 4), (0, 4), (2, 95)]) (w' := (qup w 95 30 0)) (n' := 142) rfl ?_
    refine qG.br (P := (4 : Int) < 4) (pc1 := 37) (pc2 := 41) (st1 := [(2, 95)]) rfl (fun h1 => ?_) (fun h1 => ?_)
    · exact absurd h1 (by decide)
    · skip
      refine qG.blk 1 (pc' := 42) (ls' := [(2, 95), (0, 4), (9, 0)]) (st' := [(0, 0), (2, 95)]) (w' := (qup w 95 30 0)) (n' := 142) rfl ?_
      refine qG.gd (P := (0 < (95 : Int) ∧ (95 : Int) ≤ ((142 : Nat) : Int)) ∧ 0 ≤ 0 ∧ 0 ≤ 1) (pc' := 45) (ls' := [(2, 95), (0, 4), (9, 0)]) (st' := []) (w' := (qup (qup w 95 30 0) 95 35 0)) (n' := 142) rfl (by omega) ?_
      refine qG.blk 11 (pc' := 64) (ls' := [(2, 95), (0, 4), (9, 0)]) (st' := [(2, w 95 15)]) (w' := (qup (qup (qup (qup (qup w 95 30 0) 95 35 0) 95 26 0) 95 23 0) 95 24 0)) (n' := 142) rfl ?_
      rw [show w 95 15 = 109 from zref hI rfl rfl]
      refine qG.blk 2 (pc' := 66) (ls' := [(2, 95), (0, 4), (9, 0)]) (st' := [(0, 0), (0, 0), (2, 109)]) (w' := (qup (qup (qup (qup (qup w 95 30 0) 95 35 0) 95 26 0) 95 23 0) 95 24 0)) (n' := 142) rfl ?_
      refine qG.ar (P := 0 ≤ 0 ∧ 0 < ((21 : Nat) : Int)) (P2 := 0 < (109 : Int) ∧ (109 : Int) ≤ ((142 : Nat) : Int)) (pc' := 67) (ls' := [(2, 95), (0, 4), (9, 0)]) (st' := []) (w' := (qup (qup (qup (qup (qup (qup w 95 30 0) 95 35 0) 95 26 0) 95 23 0) 95 24 0) 109 0 0)) (n' := 142) rfl (by omega) (by decide) ?_
      subst hQ9
      exact K_textCP (by omega) w hI
theorem K_textDX {d : Nat} (hd : 42 ≤ d) (k : Int) (hk : k < 0 ∨ 4 < k) (w : qW) (hI : yInv zgf zga zra zSp w) : qG none d 245 0 [(2, 95), (0, k), (9, 0)] [] w 142 (TXZ) := by
  generalize hQ9 : (TXZ) = Q9
  obtain ⟨d, rfl⟩ : ∃ d9, d = d9 + 1 := ⟨d - 1, by omega⟩
  refine qG.blk 6 (pc' := 8) (ls' := [(2, 95), (0, k), (9, 0)]) (st' := [(0, 4), (0, 0), (0, k)]) (w' := (qup w 95 30 0)) (n' := 142) rfl ?_
  refine qG.call (t := 206) (na := 3) (sk := 0) (md := 0) (ls1 := [(0, k), (0, 0), (0, 4)]) (r1 := []) rfl rfl rfl rfl rfl (K_isIn (by omega) _ _ _ _) ?_
  rintro _ w7 _ ⟨rfl, hw7, rfl⟩
  rw [hw7]
  show qG none (d + 1) 245 11 [(2, 95), (0, k), (9, 0)] [(0, isInV k 0 4)] (qup w 95 30 0) 142 Q9
  refine qG.br (P := isInV k 0 4 = 0) (pc1 := 14) (pc2 := 31) (st1 := []) rfl (fun hin => ?_) (fun hin => ?_)
  · skip
    refine qG.blk 10 (pc' := 30) (ls' := [(2, 95), (0, k), (9, 0)]) (st' := [(0, (-1))]) (w' := (qup (qup (qup (qup w 95 30 0) 95 25 0) 95 32 0) 95 34 (-1))) (n' := 142) rfl ?_
    refine qG.ret rfl rfl ?_
    subst hQ9
    unfold TXZ; simp (disch := decide) only [qup_ne, qup_j, qup_k]
  · exfalso; unfold isInV at hin; (repeat' split at hin) <;> omega
theorem K_textZ {d : Nat} (hd : 42 ≤ d) (k : Int) (w : qW) (hI : yInv zgf zga zra zSp w) : qG none d 245 0 [(2, 95), (0, k), (9, 0)] [] w 142 TXZ := by
  by_cases h : k < 0 ∨ 4 < k
  · exact K_textDX hd k h w hI
  · by_cases h4 : k = 4
    · subst h4; exact K_textDP hd w hI
    · have := K_textDS hd k.toNat (by omega) w hI
      rwa [show ((k.toNat : Nat) : Int) = k by omega] at this
noncomputable def C_tx_X11 : Nat × yC := (169, (24, [(2, 1, 1), (0, (-2147483648), 2147483647)], (0, (-1), 40), [5, 6, 10, 11, 13, 14, 15, 80, 81, 84, 85, 88, 89, 92, 93, 1003, 2003, 2008, 3001, 3003, 3004, 3079, 3083, 3087, 3091, 4003, 4012, 5008, 6008, 7008, 8008], [], [], [(8, 1, 0)], 0, []))
theorem T_tx_X11 {w0 : qW} : yCOK w0 zgf zga zra zSp zgh C_tx_X11.1 C_tx_X11.2 := yctr (bv := fun _ _ => none) (bb := fun _ => none) (ct := yctl [C_X_learnShow, C_learnP]) (an := fun k pc => none) (fk := fun k pc => none) (f := 100000) zgh0 (fun _ _ _ h => by cases h) (fun _ _ h => by cases h) zSp_ok (fun w hw => yctl_ok (P := fun t c => yCOK w zgf zga zra zSp zgh t c) (ylcons (T_X_learnShow : yCOK w zgf zga zra zSp zgh C_X_learnShow.1 C_X_learnShow.2) (ylcons (T_learnP : yCOK w zgf zga zra zSp zgh C_learnP.1 C_learnP.2) ylnil))) (by decide +kernel)
noncomputable def JL (w : qW) : Prop := w 8 1 = w 95 25
noncomputable def jlM (m : List Nat) : Bool := !ymo 8 1 m && !ymo 95 25 m
theorem JL.aw {m : List Nat} {w w1 : qW} (h : JL w) (a : AW m w w1) (hm : jlM m = true) : JL w1 := by
  unfold jlM at hm
  simp only [Bool.and_eq_true, Bool.not_eq_true'] at hm
  unfold JL
  rw [a.2 8 1 (fun _ => hm.1), a.2 95 25 (fun _ => hm.2)]
  exact h
theorem JL.e {w : qW} (h : JL w) : w 8 1 = w 95 25 := h
theorem JL.feed {w w1 w2 : qW} {n : Nat} {r r2 : qV} (h : JL w) (hX : fdX n w r w1) (hR : fdR n w1 r2 w2) : JL w2 ∧ r = r2 := by
  rcases hX with ⟨c1, rfl, rfl⟩ | ⟨c1, rfl, x1, x2⟩ <;> rcases hR with ⟨c2, rfl, rfl⟩ | ⟨c2, rfl, y1, y2⟩
  · exact ⟨h, rfl⟩
  · exact absurd c2 c1
  · exact absurd c1 c2
  · exact ⟨by unfold JL; rw [y1, y2, x1], rfl⟩
theorem JL.fin {w w1 w2 : qW} {v : Int} {n : Nat} {r r2 : qV} (h : JL w) (hX : enX v n w r w1) (hR : enR v n w1 r2 w2) : JL w2 ∧ r = r2 := by
  rcases hX with ⟨c1, rfl, rfl⟩ | ⟨c1, rfl, rfl⟩ <;> rcases hR with ⟨c2, rfl, rfl⟩ | ⟨c2, rfl, rfl⟩
  · exact ⟨h, rfl⟩
  · exact absurd c2 c1
  · exact absurd c1 c2
  · exact ⟨by unfold JL; simp (disch := decide) only [qup_ne, qup_k], rfl⟩
