/-! the reference's text, by the grammar -/
/-- the answer and the fault that the reference's text leaves -/
noncomputable def TXR (P : Nat → Int) (s : Int × Nat × Nat) (r : qV) (w1 : qW) : Prop := (∃ c j, s = (0, c, j) ∧ r = (0, (c : Int)) ∧ w1 95 32 = 0 ∧ w1 95 34 = -1) ∨ (∃ (k : Int) (c j : Nat), s = (k, c, j) ∧ (k = 1 ∨ k = 2 ∨ k = 3) ∧ r = (0, -1) ∧ w1 95 32 = k ∧ w1 95 34 = P j)
theorem XRT.f {S : Nat → qW → Prop} {P : Nat → Int} {s : Int × Nat} {w1 : qW} (h : XRT S P s (0, 0) w1) : ∃ k j, s = (k, j) ∧ (k = 1 ∨ k = 2 ∨ k = 3) ∧ w1 95 30 = k ∧ w1 95 31 = P j := by
  rcases h with ⟨k, j, a, b, -, c, d⟩ | ⟨j, -, z, -⟩
  · exact ⟨k, j, a, b, c, d⟩
  · cases z
theorem XRT.y {S : Nat → qW → Prop} {P : Nat → Int} {s : Int × Nat} {w1 : qW} (h : XRT S P s (0, 1) w1) : ∃ j, s = (0, j) ∧ S j w1 := by
  rcases h with ⟨k, j, -, -, z, -, -⟩ | ⟨j, a, -, b⟩
  · cases z
  · exact ⟨j, a, b⟩
theorem tlW_32 {w : qW} {v : Int} : tlW w v 95 32 = w 95 30 := by unfold tlW; rw [qup_j (by decide), qup_k]
theorem tlW_34 {w : qW} {v : Int} : tlW w v 95 34 = v := qup_k
theorem TXR.bad {P : Nat → Int} {s : Int × Nat × Nat} {w : qW} {k : Int} {c j : Nat} {v : Int} (h : s = (k, c, j)) (hk : k = 1 ∨ k = 2 ∨ k = 3) (h30 : w 95 30 = k) (hv : v = P j) : TXR P s (0, -1) (tlW w v) := .inr ⟨k, c, j, h, hk, rfl, tlW_32.trans h30, tlW_34.trans hv⟩
theorem TXR.ks {P : Nat → Int} {s : Int × Nat × Nat} {w : qW} {k L n j : Nat} (h : s = (0, L, j)) (hL : w 95 23 = (L : Int)) (h30 : w 95 30 = 0) : TXR P s (0, ksW (tlW w (-1)) k n 95 23) (ksW (tlW w (-1)) k n) := by
  have e : ∀ j, ksW (tlW w (-1)) k n 95 j = tlW w (-1) 95 j := fun j => ksW_o (by decide) n j
  exact .inl ⟨L, j, h, congrArg (Prod.mk 0) ((e 23).trans ((tlW_o (by decide)).trans hL)), (e 32).trans (tlW_32.trans h30), (e 34).trans tlW_34⟩
theorem TXR.kr {P : Nat → Int} {s : Int × Nat × Nat} {w : qW} {L j : Nat} (h : s = (0, L, j)) (hL : w 95 23 = (L : Int)) (h30 : w 95 30 = 0) : TXR P s (0, krW (tlW w (-1)) L 95 23) (krW (tlW w (-1)) L) := by
  have e : ∀ j, j ≠ 22 → krW (tlW w (-1)) L 95 j = tlW w (-1) 95 j := fun j hj => krW_o (by omega)
  exact .inl ⟨L, j, h, congrArg (Prod.mk 0) ((e 23 (by decide)).trans ((tlW_o (by decide)).trans hL)), (e 32 (by decide)).trans (tlW_32.trans h30), (e 34 (by decide)).trans tlW_34⟩
theorem TKS.cg {sh : Int} {TM : Int → Int → Prop} {w w1 : qW} {C P : Nat → Int} {t n : Nat} {E : Nat → Nat} (h25 : w1 95 25 = w 95 25) (h114 : ∀ k, w1 114 k = w 114 k) (h : TKS sh TM w C P t n E) : TKS sh TM w1 C P t n E := by
  have sv := see_cg h25 h114
  obtain ⟨b1, b2, b3, b4, b5, b6, b7, b8⟩ := h
  have bl : ∀ u, blR w u → blR w1 u := fun u z => by unfold blR at z ⊢; rw [sv]; exact z
  refine ⟨b1, b2, h25.trans b3, b4, b5, fun u p q => bl u (b6 u p q), b7, fun j hj => ?_⟩
  obtain ⟨a, c1, c2, c3, c4, c5, c6, c7, c8⟩ := b8 j hj
  refine ⟨a, c1, c2, c3, fun u p q => bl u (c4 u p q), fun z => c5 (by unfold blR at z ⊢; rw [sv] at z; exact z), c6, c7, ?_⟩
  unfold TKr at c8 ⊢
  rw [sv, val_cg sv]
  rcases c8 with ⟨d1, d2, d3⟩ | ⟨d1, d2, d3, d4⟩ | d
  · exact .inl ⟨d1, ⟨d2.1, fun j p q => by rw [sv]; exact d2.2.1 j p q, by rw [sv]; exact d2.2.2⟩, fun W p1 p2 p3 p4 => d3 W p1 p2 (fun k => (p3 k).trans (h114 k)) p4⟩
  · exact .inr (.inl ⟨d1, d2, ⟨d3.1, fun j p q => by rw [sv]; exact d3.2.1 j p q, by rw [sv]; exact d3.2.2⟩, d4⟩)
  · exact .inr (.inr d)
theorem K_textBSX {d : Nat} (hd : 42 ≤ d) (k : Nat) (hk : k < 4) (w : qW) (hI : yInv zgf zga zra zSp w) {C P : Nat → Int} {t n : Nat} {E : Nat → Nat} (hpos : ∀ k, 0 ≤ w 114 k) (hT : TKS 1 TMS w C P t n E) : qG none d 245 67 [(2, 95), (0, ((k : Nat) : Int)), (9, 0)] [] (txW w 1) 142 (fun (r : qV) (w1 : qW) (_ : Nat) => TXR P (sSho C) r w1) := by
  generalize hQ9 : (fun (r : qV) (w1 : qW) (_ : Nat) => TXR P (sSho C) r w1) = Q9
  obtain ⟨d, rfl⟩ : ∃ d9, d = d9 + 1 := ⟨d - 1, by omega⟩
  have hAT : AW XN w (txW w 1) := txW_A hI (by decide) (by decide)
  have tm0 : TMS (-2) 0 := .inl ⟨rfl, rfl⟩
  have tm1 : TMS (-1) 1 := .inr (.inl ⟨rfl, rfl⟩)
  have tm2 : ∀ c, 0 ≤ c → c < 10000 → TMS c 2 := fun c h0 h1 => .inr (.inr (.inl ⟨h0, h1, rfl⟩))
  have hO : SO (SIMR 1 TMS w C P t n E) C P TMS := SIMR.so hpos hT tm0 tm1 tm2
  have hCe : ∀ i, t ≤ i → C i = -2 := fun i hi => (hT.2.2.2.2.2.2.1 i hi).1
  have ht6 : t ≤ 600 := Nat.le_trans hT.2.1 hT.1
  refine qG.blk 1 (pc' := 68) (ls' := [(2, 95), (0, ((k : Nat) : Int)), (9, 0)]) (st' := [(2, 95)]) (w' := (txW w 1)) (n' := 142) rfl ?_
  refine qG.call (t := 231) (na := 1) (sk := 1) (md := 1) (ls1 := [(2, 95), (9, 0)]) (r1 := []) rfl rfl rfl rfl rfl (K_next0 (by omega) (txW w 1) hAT.1) ?_
  rintro _ w1 _ ⟨rfl, rfl, hX1⟩
  obtain ⟨hN1, hg1, hg2, hg3⟩ := hX1.look hAT.1
  have hA1 : AW XN w w1 := hAT.tr hN1 (by decide +kernel)
  have hP1 : PI w1 := ⟨hN1.1, hg2, hg3⟩
  have e23 : w1 95 23 = 0 := (hN1.2 95 23 (fun _ => rfl)).trans (by unfold txW; simp (disch := decide) only [qup_ne, qup_j, qup_k])
  have e24 : w1 95 24 = 0 := (hN1.2 95 24 (fun _ => rfl)).trans (by unfold txW; simp (disch := decide) only [qup_ne, qup_j, qup_k])
  have e35 : w1 95 35 = 1 := (hN1.2 95 35 (fun _ => rfl)).trans (by unfold txW; simp (disch := decide) only [qup_ne, qup_j, qup_k])
  have e109 : w1 109 0 = 0 := (hN1.2 109 0 (fun _ => rfl)).trans (by unfold txW; simp (disch := decide) only [qup_ne, qup_j, qup_k])
  have hb1 := hP1.b
  have hS1 : SIMR 1 TMS w C P t n E 0 w1 := sim_nx hpos hT tm0 tm1 tm2 (i := 0) (by rw [show ENd E t n 0 = 0 from (if_pos (Nat.zero_le _)).trans hT.2.2.2.1]; unfold txW; simp (disch := decide) only [qup_ne, qup_j, qup_k]; rfl) (fun k => by unfold txW; simp (disch := decide) only [qup_ne, qup_j, qup_k]) (by unfold txW; simp (disch := decide) only [qup_ne, qup_j, qup_k]) (by unfold txW; simp (disch := decide) only [qup_ne, qup_j, qup_k]) (by unfold txW; simp (disch := decide) only [qup_ne, qup_j, qup_k]) hX1
  show qG none (d + 1) 245 71 [(2, 95), (0, ((k : Nat) : Int)), (9, 0)] [] w1 142 Q9
  refine qG.blk 2 (pc' := 73) (ls' := [(2, 95), (0, ((k : Nat) : Int)), (0, 1)]) (st' := []) (w' := w1) (n' := 142) rfl ?_
  have L73 : ∀ (m9 : Nat) (good : Int) (L : Nat) (wL : qW), (good * (601 - wL 95 28)).toNat = m9 → (AW XN w wL ∧ wL 95 35 = 1 ∧ ((good = 0 ∧ ∃ (k9 : Int) (c9 j9 : Nat), (sSho C) = (k9, c9, j9) ∧ (k9 = 1 ∨ k9 = 2 ∨ k9 = 3) ∧ wL 95 30 = k9 ∧ wL 95 31 = P j9) ∨ (good = 1 ∧ (L ≤ 40 ∧ PI wL ∧ SL wL L) ∧ ∃ i9, SIMR 1 TMS w C P t n E i9 wL ∧ (sSho C) = sAll C (sStep C) (41 - L) L i9))) → qG none (d + 1) 245 73 [(2, 95), (0, ((k : Nat) : Int)), (0, good)] [] wL 142 Q9 := by
    intro m9
    induction m9 using Nat.strongRecOn with
    | ind m9 ih73 =>
    intro good L wL hm73 hI73
    obtain ⟨hAL, heL, hOr⟩ := hI73
    refine qG.blk 1 (pc' := 74) (ls' := [(2, 95), (0, ((k : Nat) : Int)), (0, good)]) (st' := [(0, good)]) (w' := wL) (n' := 142) rfl ?_
    refine qG.br (P := good = 0) (pc1 := 106) (pc2 := 77) (st1 := []) rfl (fun hg => ?_) (fun hg => ?_)
    · skip
      subst hg
      refine qG.blk 9 (pc' := 121) (ls' := [(2, 95), (0, ((k : Nat) : Int)), (0, 0)]) (st' := [(0, 0), (2, 95)]) (w' := (qup (qup wL 95 25 0) 95 32 (wL 95 30))) (n' := 142) rfl ?_
      refine qG.br (P := (0 : Int) = 0) (pc1 := 128) (pc2 := 124) (st1 := [(2, 95)]) rfl (fun h1 => ?_) (fun h1 => ?_)
      · skip
        refine qG.blk 4 (pc' := 136) (ls' := [(2, 95), (0, ((k : Nat) : Int)), (0, 0)]) (st' := [(0, 0)]) (w' := (qup (qup (qup wL 95 25 0) 95 32 (wL 95 30)) 95 34 (wL 95 31))) (n' := 142) rfl ?_
        refine qG.br (P := (0 : Int) = 0) (pc1 := 139) (pc2 := 141) (st1 := []) rfl (fun h2 => ?_) (fun h2 => ?_)
        · skip
          refine qG.blk 1 (pc' := 140) (ls' := [(2, 95), (0, ((k : Nat) : Int)), (0, 0)]) (st' := [(0, (-1))]) (w' := (qup (qup (qup wL 95 25 0) 95 32 (wL 95 30)) 95 34 (wL 95 31))) (n' := 142) rfl ?_
          refine qG.ret rfl rfl ?_
          subst hQ9
          rcases hOr with ⟨-, k9, c9, j9, a1, a2, a3, a4⟩ | ⟨z, -⟩
          · exact TXR.bad a1 a2 a3 a4
          · exact absurd z (by decide)
        · exact absurd h2 (by decide)
      · exact absurd h1 (by decide)
    · skip
      obtain ⟨hg1, ⟨hL40, hPL, hSL⟩, i9, hJ9, hS9⟩ := hOr.resolve_left (fun z => hg z.1)
      subst hg1
      have hbL := hPL.b
      have htc9 := (hO.2.1 _ _ hJ9).1
      have h309 : wL 95 30 = 0 := hJ9.2.2.2.2.2.2.2
      refine qG.blk 2 (pc' := 81) (ls' := [(2, 95), (0, ((k : Nat) : Int)), (0, 1)]) (st' := [(0, wL 95 27)]) (w' := wL) (n' := 142) rfl ?_
      refine qG.br (P := wL 95 27 = 0) (pc1 := 106) (pc2 := 84) (st1 := []) rfl (fun htok => ?_) (fun htok => ?_)
      · skip
        refine qG.blk 9 (pc' := 121) (ls' := [(2, 95), (0, ((k : Nat) : Int)), (0, 1)]) (st' := [(0, 1), (2, 95)]) (w' := (qup (qup wL 95 25 0) 95 32 (wL 95 30))) (n' := 142) rfl ?_
        refine qG.br (P := (1 : Int) = 0) (pc1 := 128) (pc2 := 124) (st1 := [(2, 95)]) rfl (fun h3 => ?_) (fun h3 => ?_)
        · exact absurd h3 (by decide)
        · skip
          refine qG.blk 4 (pc' := 136) (ls' := [(2, 95), (0, ((k : Nat) : Int)), (0, 1)]) (st' := [(0, 1)]) (w' := (qup (qup (qup wL 95 25 0) 95 32 (wL 95 30)) 95 34 (-1))) (n' := 142) rfl ?_
          refine qG.br (P := (1 : Int) = 0) (pc1 := 139) (pc2 := 141) (st1 := []) rfl (fun h4 => ?_) (fun h4 => ?_)
          · exact absurd h4 (by decide)
          · skip
            refine qG.blk 2 (pc' := 145) (ls' := [(2, 95), (0, ((k : Nat) : Int)), (0, 1)]) (st' := [(0, wL 95 35)]) (w' := (qup (qup (qup wL 95 25 0) 95 32 (wL 95 30)) 95 34 (-1))) (n' := 142) rfl ?_
            rw [show wL 95 35 = 1 from heL]
            refine qG.br (P := (1 : Int) = 0) (pc1 := 156) (pc2 := 148) (st1 := []) rfl (fun h5 => ?_) (fun h5 => ?_)
            · exact absurd h5 (by decide)
            · skip
              refine qG.blk 2 (pc' := 150) (ls' := [(2, 95), (0, ((k : Nat) : Int)), (0, 1)]) (st' := [(0, ((k : Nat) : Int)), (2, 95)]) (w' := (qup (qup (qup wL 95 25 0) 95 32 (wL 95 30)) 95 34 (-1))) (n' := 142) rfl ?_
              have hA3 := tlW_A hAL (v := -1) (by decide) (by decide)
              show qG none (d + 1) 245 150 [(2, 95), (0, ((k : Nat) : Int)), (0, 1)] [(0, ((k : Nat) : Int)), (2, 95)] (tlW wL (-1)) 142 Q9
              refine qG.call (t := 246) (na := 2) (sk := 1) (md := 1) (ls1 := [(2, 95), (0, ((k : Nat) : Int)), (9, 0)]) (r1 := []) rfl rfl rfl rfl rfl (K_keepsShow (by omega) k hk (tlW wL (-1)) hA3.1) ?_
              rintro _ _ _ ⟨rfl, rfl, rfl⟩
              show qG none (d + 1) 245 153 [(2, 95), (0, ((k : Nat) : Int)), (0, 1)] [] (ksW (tlW wL (-1)) k ((tlW wL (-1)) 95 23).toNat) 142 Q9
              refine qG.blk 3 (pc' := 164) (ls' := [(2, 95), (0, ((k : Nat) : Int)), (0, 1)]) (st' := [(0, (ksW (tlW wL (-1)) k ((tlW wL (-1)) 95 23).toNat) 95 23)]) (w' := (ksW (tlW wL (-1)) k ((tlW wL (-1)) 95 23).toNat)) (n' := 142) rfl ?_
              refine qG.ret rfl rfl ?_
              subst hQ9
              have hE9 : C i9 = -2 := by unfold TMS at htc9; omega
              exact TXR.ks (hS9.trans (by rw [show 41 - L = (41 - (L + 1)) + 1 by omega]; exact sAll_e hE9)) hSL.1 h309
      · skip
        refine qG.blk 2 (pc' := 88) (ls' := [(2, 95), (0, ((k : Nat) : Int)), (0, 1)]) (st' := [(0, wL 95 35)]) (w' := wL) (n' := 142) rfl ?_
        rw [show wL 95 35 = 1 from heL]
        refine qG.br (P := (1 : Int) = 0) (pc1 := 98) (pc2 := 91) (st1 := []) rfl (fun h6 => ?_) (fun h6 => ?_)
        · exact absurd h6 (by decide)
        · skip
          refine qG.blk 1 (pc' := 92) (ls' := [(2, 95), (0, ((k : Nat) : Int)), (0, 1)]) (st' := [(2, 95)]) (w' := wL) (n' := 142) rfl ?_
          refine qG.call (t := 243) (na := 1) (sk := 1) (md := 1) (ls1 := [(2, 95), (9, 0)]) (r1 := []) rfl rfl rfl rfl rfl (qG.and (K_aStep (by omega) L wL hPL hSL hL40) (K_aStepX (by omega) hO L wL hPL hSL.1 hL40 i9 hJ9)) ?_
          rintro _ w7 _ ⟨⟨rfl, ⟨rfl, hS7⟩ | ⟨rfl, hS7, hPn, hSn, hL41, hmn⟩⟩, -, hXR⟩
          · skip
            show qG none (d + 1) 245 95 [(2, 95), (0, ((k : Nat) : Int)), (0, 1)] [(0, 0)] w7 142 Q9
            have hAn := hAL.tr hS7 (by decide +kernel)
            have hen := (hS7.2 95 35 (fun _ => rfl)).trans heL
            have hbn := hbL
            have hne9 : ¬ C i9 = -2 := fun z => htok (by unfold TMS at htc9; omega)
            obtain ⟨k9, j9, hx9, hk9, h30, h31⟩ := hXR.f
            refine qG.blk 3 (pc' := 73) (ls' := [(2, 95), (0, ((k : Nat) : Int)), (0, 0)]) (st' := []) (w' := w7) (n' := 142) rfl ?_
            exact ih73 _ (by omega) (0) (L) (w7) rfl (⟨hAn, hen, .inl ⟨rfl, k9, L, j9, hS9.trans (by rw [show 41 - L = (41 - (L + 1)) + 1 by omega]; exact sAll_f hne9 hx9 hk9), hk9, h30, h31⟩⟩)
          · skip
            show qG none (d + 1) 245 95 [(2, 95), (0, ((k : Nat) : Int)), (0, 1)] [(0, 1)] w7 142 Q9
            have hAn := hAL.tr hS7 (by decide +kernel)
            have hen := (hS7.2 95 35 (fun _ => rfl)).trans heL
            have hbn := hbL
            have hne9 : ¬ C i9 = -2 := fun z => htok (by unfold TMS at htc9; omega)
            have hbn2 := hPn.b
            obtain ⟨j9, hx9, hJ9⟩ := hXR.y
            refine qG.blk 3 (pc' := 73) (ls' := [(2, 95), (0, ((k : Nat) : Int)), (0, 1)]) (st' := []) (w' := w7) (n' := 142) rfl ?_
            exact ih73 _ (by omega) (1) (L + 1) (w7) rfl (⟨hAn, hen, .inr ⟨rfl, ⟨hL41, hPn, hSn⟩, j9, hJ9, hS9.trans (by rw [show 41 - L = (41 - (L + 1)) + 1 by omega]; exact sAll_s hne9 hx9)⟩⟩)
  exact L73 _ (1) (0) (w1) rfl (⟨hA1, e35, .inr ⟨rfl, ⟨by omega, hP1, e23, fun i hi => by omega⟩, 0, hS1, rfl⟩⟩)
theorem K_textSX {d : Nat} (hd : 42 ≤ d) (k : Nat) (hk : k < 4) (w : qW) (hI : yInv zgf zga zra zSp w) {C P : Nat → Int} {t n : Nat} {E : Nat → Nat} (hpos : ∀ k, 0 ≤ w 114 k) (hT : TKS 1 TMS w C P t n E) : qG none d 245 0 [(2, 95), (0, ((k : Nat) : Int)), (9, 0)] [] w 142 (fun (r : qV) (w1 : qW) (_ : Nat) => TXR P (sSho C) r w1) := by
  generalize hQ9 : (fun (r : qV) (w1 : qW) (_ : Nat) => TXR P (sSho C) r w1) = Q9
  obtain ⟨d, rfl⟩ : ∃ d9, d = d9 + 1 := ⟨d - 1, by omega⟩
  refine qG.blk 6 (pc' := 8) (ls' := [(2, 95), (0, ((k : Nat) : Int)), (9, 0)]) (st' := [(0, 4), (0, 0), (0, ((k : Nat) : Int))]) (w' := (qup w 95 30 0)) (n' := 142) rfl ?_
  refine qG.call (t := 206) (na := 3) (sk := 0) (md := 0) (ls1 := [(0, ((k : Nat) : Int)), (0, 0), (0, 4)]) (r1 := []) rfl rfl rfl rfl rfl (K_isIn (by omega) _ _ _ _) ?_
  rintro _ w7 _ ⟨rfl, hw7, rfl⟩
  rw [hw7]
  show qG none (d + 1) 245 11 [(2, 95), (0, ((k : Nat) : Int)), (9, 0)] [(0, isInV ((k : Nat) : Int) 0 4)] (qup w 95 30 0) 142 Q9
  refine qG.br (P := isInV ((k : Nat) : Int) 0 4 = 0) (pc1 := 14) (pc2 := 31) (st1 := []) rfl (fun hin => ?_) (fun hin => ?_)
  · exfalso; unfold isInV at hin; (repeat' split at hin) <;> omega
  · skip
    refine qG.blk 3 (pc' := 34) (ls' := [(2, 95), (0, ((k : Nat) : Int)), (9, 0)]) (st' := [(0, 4), (0, ((k : Nat) : Int)), (2, 95)]) (w' := (qup w 95 30 0)) (n' := 142) rfl ?_
    refine qG.br (P := ((k : Nat) : Int) < 4) (pc1 := 37) (pc2 := 41) (st1 := [(2, 95)]) rfl (fun hk4 => ?_) (fun hk4 => ?_)
    · skip
      refine qG.blk 2 (pc' := 42) (ls' := [(2, 95), (0, ((k : Nat) : Int)), (9, 0)]) (st' := [(0, 1), (2, 95)]) (w' := (qup w 95 30 0)) (n' := 142) rfl ?_
      refine qG.gd (P := (0 < (95 : Int) ∧ (95 : Int) ≤ ((142 : Nat) : Int)) ∧ 0 ≤ 1 ∧ 1 ≤ 1) (pc' := 45) (ls' := [(2, 95), (0, ((k : Nat) : Int)), (9, 0)]) (st' := []) (w' := (qup (qup w 95 30 0) 95 35 1)) (n' := 142) rfl (by omega) ?_
      refine qG.blk 11 (pc' := 64) (ls' := [(2, 95), (0, ((k : Nat) : Int)), (9, 0)]) (st' := [(2, w 95 15)]) (w' := (qup (qup (qup (qup (qup w 95 30 0) 95 35 1) 95 26 0) 95 23 0) 95 24 0)) (n' := 142) rfl ?_
      rw [show w 95 15 = 109 from zref hI rfl rfl]
      refine qG.blk 2 (pc' := 66) (ls' := [(2, 95), (0, ((k : Nat) : Int)), (9, 0)]) (st' := [(0, 0), (0, 0), (2, 109)]) (w' := (qup (qup (qup (qup (qup w 95 30 0) 95 35 1) 95 26 0) 95 23 0) 95 24 0)) (n' := 142) rfl ?_
      refine qG.ar (P := 0 ≤ 0 ∧ 0 < ((21 : Nat) : Int)) (P2 := 0 < (109 : Int) ∧ (109 : Int) ≤ ((142 : Nat) : Int)) (pc' := 67) (ls' := [(2, 95), (0, ((k : Nat) : Int)), (9, 0)]) (st' := []) (w' := (qup (qup (qup (qup (qup (qup w 95 30 0) 95 35 1) 95 26 0) 95 23 0) 95 24 0) 109 0 0)) (n' := 142) rfl (by omega) (by decide) ?_
      subst hQ9
      exact K_textBSX (by omega) k hk w hI hpos hT
    · exfalso; omega
theorem K_textBPX {d : Nat} (hd : 42 ≤ d) (w : qW) (hI : yInv zgf zga zra zSp w) {C P : Nat → Int} {t n : Nat} {E : Nat → Nat} (hpos : ∀ k, 0 ≤ w 114 k) (hT : TKS 0 TMP w C P t n E) : qG none d 245 67 [(2, 95), (0, 4), (9, 0)] [] (txW w 0) 142 (fun (r : qV) (w1 : qW) (_ : Nat) => TXR P (sPam C) r w1) := by
  generalize hQ9 : (fun (r : qV) (w1 : qW) (_ : Nat) => TXR P (sPam C) r w1) = Q9
  obtain ⟨d, rfl⟩ : ∃ d9, d = d9 + 1 := ⟨d - 1, by omega⟩
  have hAT : AW XN w (txW w 0) := txW_A hI (by decide) (by decide)
  have tm0 : TMP (-2) 0 := .inl ⟨rfl, rfl⟩
  have tm1 : TMP (-1) 1 := .inr (.inl ⟨rfl, rfl⟩)
  have tm2 : ∀ c, 0 ≤ c → c < 10000 → TMP c 2 := fun c h0 h1 => .inr (.inr (.inl ⟨h0, h1, rfl⟩))
  have hO : SO (SIMR 0 TMP w C P t n E) C P TMP := SIMR.so hpos hT tm0 tm1 tm2
  have hCe : ∀ i, t ≤ i → C i = -2 := fun i hi => (hT.2.2.2.2.2.2.1 i hi).1
  have ht6 : t ≤ 600 := Nat.le_trans hT.2.1 hT.1
  refine qG.blk 1 (pc' := 68) (ls' := [(2, 95), (0, 4), (9, 0)]) (st' := [(2, 95)]) (w' := (txW w 0)) (n' := 142) rfl ?_
  refine qG.call (t := 231) (na := 1) (sk := 1) (md := 1) (ls1 := [(2, 95), (9, 0)]) (r1 := []) rfl rfl rfl rfl rfl (K_next0 (by omega) (txW w 0) hAT.1) ?_
  rintro _ w1 _ ⟨rfl, rfl, hX1⟩
  obtain ⟨hN1, hg1, hg2, hg3⟩ := hX1.look hAT.1
  have hA1 : AW XN w w1 := hAT.tr hN1 (by decide +kernel)
  have hP1 : PI w1 := ⟨hN1.1, hg2, hg3⟩
  have e23 : w1 95 23 = 0 := (hN1.2 95 23 (fun _ => rfl)).trans (by unfold txW; simp (disch := decide) only [qup_ne, qup_j, qup_k])
  have e24 : w1 95 24 = 0 := (hN1.2 95 24 (fun _ => rfl)).trans (by unfold txW; simp (disch := decide) only [qup_ne, qup_j, qup_k])
  have e35 : w1 95 35 = 0 := (hN1.2 95 35 (fun _ => rfl)).trans (by unfold txW; simp (disch := decide) only [qup_ne, qup_j, qup_k])
  have e109 : w1 109 0 = 0 := (hN1.2 109 0 (fun _ => rfl)).trans (by unfold txW; simp (disch := decide) only [qup_ne, qup_j, qup_k])
  have hb1 := hP1.b
  have hS1 : SIMR 0 TMP w C P t n E 0 w1 := sim_nx hpos hT tm0 tm1 tm2 (i := 0) (by rw [show ENd E t n 0 = 0 from (if_pos (Nat.zero_le _)).trans hT.2.2.2.1]; unfold txW; simp (disch := decide) only [qup_ne, qup_j, qup_k]; rfl) (fun k => by unfold txW; simp (disch := decide) only [qup_ne, qup_j, qup_k]) (by unfold txW; simp (disch := decide) only [qup_ne, qup_j, qup_k]) (by unfold txW; simp (disch := decide) only [qup_ne, qup_j, qup_k]) (by unfold txW; simp (disch := decide) only [qup_ne, qup_j, qup_k]) hX1
  show qG none (d + 1) 245 71 [(2, 95), (0, 4), (9, 0)] [] w1 142 Q9
  refine qG.blk 2 (pc' := 73) (ls' := [(2, 95), (0, 4), (0, 1)]) (st' := []) (w' := w1) (n' := 142) rfl ?_
  have L73 : ∀ (m9 : Nat) (good : Int) (L : Nat) (wL : qW), (good * (601 - wL 95 28)).toNat = m9 → (AW XN w wL ∧ wL 95 35 = 0 ∧ ((good = 0 ∧ ∃ (k9 : Int) (c9 j9 : Nat), (sPam C) = (k9, c9, j9) ∧ (k9 = 1 ∨ k9 = 2 ∨ k9 = 3) ∧ wL 95 30 = k9 ∧ wL 95 31 = P j9) ∨ (good = 1 ∧ (L ≤ 20 ∧ PI wL ∧ wL 95 24 ≤ wL 95 28 ∧ RsL wL L) ∧ ∃ i9, SIMR 0 TMP w C P t n E i9 wL ∧ (sPam C) = sAll C (sReas C 601) (21 - L) L i9))) → qG none (d + 1) 245 73 [(2, 95), (0, 4), (0, good)] [] wL 142 Q9 := by
    intro m9
    induction m9 using Nat.strongRecOn with
    | ind m9 ih73 =>
    intro good L wL hm73 hI73
    obtain ⟨hAL, heL, hOr⟩ := hI73
    refine qG.blk 1 (pc' := 74) (ls' := [(2, 95), (0, 4), (0, good)]) (st' := [(0, good)]) (w' := wL) (n' := 142) rfl ?_
    refine qG.br (P := good = 0) (pc1 := 106) (pc2 := 77) (st1 := []) rfl (fun hg => ?_) (fun hg => ?_)
    · skip
      subst hg
      refine qG.blk 9 (pc' := 121) (ls' := [(2, 95), (0, 4), (0, 0)]) (st' := [(0, 0), (2, 95)]) (w' := (qup (qup wL 95 25 0) 95 32 (wL 95 30))) (n' := 142) rfl ?_
      refine qG.br (P := (0 : Int) = 0) (pc1 := 128) (pc2 := 124) (st1 := [(2, 95)]) rfl (fun h1 => ?_) (fun h1 => ?_)
      · skip
        refine qG.blk 4 (pc' := 136) (ls' := [(2, 95), (0, 4), (0, 0)]) (st' := [(0, 0)]) (w' := (qup (qup (qup wL 95 25 0) 95 32 (wL 95 30)) 95 34 (wL 95 31))) (n' := 142) rfl ?_
        refine qG.br (P := (0 : Int) = 0) (pc1 := 139) (pc2 := 141) (st1 := []) rfl (fun h2 => ?_) (fun h2 => ?_)
        · skip
          refine qG.blk 1 (pc' := 140) (ls' := [(2, 95), (0, 4), (0, 0)]) (st' := [(0, (-1))]) (w' := (qup (qup (qup wL 95 25 0) 95 32 (wL 95 30)) 95 34 (wL 95 31))) (n' := 142) rfl ?_
          refine qG.ret rfl rfl ?_
          subst hQ9
          rcases hOr with ⟨-, k9, c9, j9, a1, a2, a3, a4⟩ | ⟨z, -⟩
          · exact TXR.bad a1 a2 a3 a4
          · exact absurd z (by decide)
        · exact absurd h2 (by decide)
      · exact absurd h1 (by decide)
    · skip
      obtain ⟨hg1, ⟨hL40, hPL, hDL, hSL⟩, i9, hJ9, hS9⟩ := hOr.resolve_left (fun z => hg z.1)
      subst hg1
      have hbL := hPL.b
      have htc9 := (hO.2.1 _ _ hJ9).1
      have h309 : wL 95 30 = 0 := hJ9.2.2.2.2.2.2.2
      refine qG.blk 2 (pc' := 81) (ls' := [(2, 95), (0, 4), (0, 1)]) (st' := [(0, wL 95 27)]) (w' := wL) (n' := 142) rfl ?_
      refine qG.br (P := wL 95 27 = 0) (pc1 := 106) (pc2 := 84) (st1 := []) rfl (fun htok => ?_) (fun htok => ?_)
      · skip
        refine qG.blk 9 (pc' := 121) (ls' := [(2, 95), (0, 4), (0, 1)]) (st' := [(0, 1), (2, 95)]) (w' := (qup (qup wL 95 25 0) 95 32 (wL 95 30))) (n' := 142) rfl ?_
        refine qG.br (P := (1 : Int) = 0) (pc1 := 128) (pc2 := 124) (st1 := [(2, 95)]) rfl (fun h3 => ?_) (fun h3 => ?_)
        · exact absurd h3 (by decide)
        · skip
          refine qG.blk 4 (pc' := 136) (ls' := [(2, 95), (0, 4), (0, 1)]) (st' := [(0, 1)]) (w' := (qup (qup (qup wL 95 25 0) 95 32 (wL 95 30)) 95 34 (-1))) (n' := 142) rfl ?_
          refine qG.br (P := (1 : Int) = 0) (pc1 := 139) (pc2 := 141) (st1 := []) rfl (fun h4 => ?_) (fun h4 => ?_)
          · exact absurd h4 (by decide)
          · skip
            refine qG.blk 2 (pc' := 145) (ls' := [(2, 95), (0, 4), (0, 1)]) (st' := [(0, wL 95 35)]) (w' := (qup (qup (qup wL 95 25 0) 95 32 (wL 95 30)) 95 34 (-1))) (n' := 142) rfl ?_
            rw [show wL 95 35 = 0 from heL]
            refine qG.br (P := (0 : Int) = 0) (pc1 := 156) (pc2 := 148) (st1 := []) rfl (fun h5 => ?_) (fun h5 => ?_)
            · skip
              refine qG.blk 1 (pc' := 157) (ls' := [(2, 95), (0, 4), (0, 1)]) (st' := [(2, 95)]) (w' := (qup (qup (qup wL 95 25 0) 95 32 (wL 95 30)) 95 34 (-1))) (n' := 142) rfl ?_
              have hA3 := tlW_A hAL (v := -1) (by decide) (by decide)
              show qG none (d + 1) 245 157 [(2, 95), (0, 4), (0, 1)] [(2, 95)] (tlW wL (-1)) 142 Q9
              refine qG.call (t := 247) (na := 1) (sk := 1) (md := 1) (ls1 := [(2, 95), (9, 0)]) (r1 := []) rfl rfl rfl rfl rfl (K_keepsReasons (by omega) L (tlW wL (-1)) hA3.1 hSL.tl hL40) ?_
              rintro _ _ _ ⟨rfl, rfl, rfl⟩
              show qG none (d + 1) 245 160 [(2, 95), (0, 4), (0, 1)] [] (krW (tlW wL (-1)) L) 142 Q9
              refine qG.blk 2 (pc' := 164) (ls' := [(2, 95), (0, 4), (0, 1)]) (st' := [(0, (krW (tlW wL (-1)) L) 95 23)]) (w' := (krW (tlW wL (-1)) L)) (n' := 142) rfl ?_
              refine qG.ret rfl rfl ?_
              subst hQ9
              have hE9 : C i9 = -2 := by unfold TMP at htc9; omega
              exact TXR.kr (hS9.trans (by rw [show 21 - L = (21 - (L + 1)) + 1 by omega]; exact sAll_e hE9)) hSL.1 h309
            · exact absurd h5 (by decide)
      · skip
        refine qG.blk 2 (pc' := 88) (ls' := [(2, 95), (0, 4), (0, 1)]) (st' := [(0, wL 95 35)]) (w' := wL) (n' := 142) rfl ?_
        rw [show wL 95 35 = 0 from heL]
        refine qG.br (P := (0 : Int) = 0) (pc1 := 98) (pc2 := 91) (st1 := []) rfl (fun h6 => ?_) (fun h6 => ?_)
        · skip
          refine qG.blk 1 (pc' := 99) (ls' := [(2, 95), (0, 4), (0, 1)]) (st' := [(2, 95)]) (w' := wL) (n' := 142) rfl ?_
          refine qG.call (t := 244) (na := 1) (sk := 1) (md := 1) (ls1 := [(2, 95)]) (r1 := []) rfl rfl rfl rfl rfl (qG.and (K_aReason (by omega) L wL hPL hDL hSL hL40) (K_aReasonX (by omega) hO hCe ht6 L wL hPL hDL hSL hL40 i9 hJ9)) ?_
          rintro _ w7 _ ⟨⟨rfl, ⟨rfl, hS7⟩ | ⟨rfl, hS7, hPn, hSn, hDn, hmn, hL41⟩⟩, -, hXR⟩
          · skip
            show qG none (d + 1) 245 102 [(2, 95), (0, 4), (0, 1)] [(0, 0)] w7 142 Q9
            have hAn := hAL.tr hS7 (by decide +kernel)
            have hen := (hS7.2 95 35 (fun _ => rfl)).trans heL
            have hbn := hbL
            have hne9 : ¬ C i9 = -2 := fun z => htok (by unfold TMP at htc9; omega)
            obtain ⟨k9, j9, hx9, hk9, h30, h31⟩ := hXR.f
            refine qG.blk 2 (pc' := 73) (ls' := [(2, 95), (0, 4), (0, 0)]) (st' := []) (w' := w7) (n' := 142) rfl ?_
            exact ih73 _ (by omega) (0) (L) (w7) rfl (⟨hAn, hen, .inl ⟨rfl, k9, L, j9, hS9.trans (by rw [show 21 - L = (21 - (L + 1)) + 1 by omega]; exact sAll_f hne9 hx9 hk9), hk9, h30, h31⟩⟩)
          · skip
            show qG none (d + 1) 245 102 [(2, 95), (0, 4), (0, 1)] [(0, 1)] w7 142 Q9
            have hAn := hAL.tr hS7 (by decide +kernel)
            have hen := (hS7.2 95 35 (fun _ => rfl)).trans heL
            have hbn := hbL
            have hne9 : ¬ C i9 = -2 := fun z => htok (by unfold TMP at htc9; omega)
            have hbn2 := hPn.b
            obtain ⟨j9, hx9, hJ9⟩ := hXR.y
            refine qG.blk 2 (pc' := 73) (ls' := [(2, 95), (0, 4), (0, 1)]) (st' := []) (w' := w7) (n' := 142) rfl ?_
            exact ih73 _ (by omega) (1) (L + 1) (w7) rfl (⟨hAn, hen, .inr ⟨rfl, ⟨hL41, hPn, hDn, hSn⟩, j9, hJ9, hS9.trans (by rw [show 21 - L = (21 - (L + 1)) + 1 by omega]; exact sAll_s hne9 hx9)⟩⟩)
        · exact absurd h6 (by decide)
  exact L73 _ (1) (0) (w1) rfl (⟨hA1, e35, .inr ⟨rfl, ⟨by omega, hP1, by omega, e23, by rw [e109, e24], fun i hi => by rw [show i = 0 by omega, e109, e24]; omega, fun i hi => by omega⟩, 0, hS1, rfl⟩⟩)
theorem K_textPX {d : Nat} (hd : 42 ≤ d) (w : qW) (hI : yInv zgf zga zra zSp w) {C P : Nat → Int} {t n : Nat} {E : Nat → Nat} (hpos : ∀ k, 0 ≤ w 114 k) (hT : TKS 0 TMP w C P t n E) : qG none d 245 0 [(2, 95), (0, 4), (9, 0)] [] w 142 (fun (r : qV) (w1 : qW) (_ : Nat) => TXR P (sPam C) r w1) := by
  generalize hQ9 : (fun (r : qV) (w1 : qW) (_ : Nat) => TXR P (sPam C) r w1) = Q9
  obtain ⟨d, rfl⟩ : ∃ d9, d = d9 + 1 := ⟨d - 1, by omega⟩
  refine qG.blk 6 (pc' := 8) (ls' := [(2, 95), (0, 4), (9, 0)]) (st' := [(0, 4), (0, 0), (0, 4)]) (w' := (qup w 95 30 0)) (n' := 142) rfl ?_
  refine qG.call (t := 206) (na := 3) (sk := 0) (md := 0) (ls1 := [(0, 4), (0, 0), (0, 4)]) (r1 := []) rfl rfl rfl rfl rfl (K_isIn (by omega) _ _ _ _) ?_
  rintro _ w7 _ ⟨rfl, hw7, rfl⟩
  rw [hw7]
  show qG none (d + 1) 245 11 [(2, 95), (0, 4), (9, 0)] [(0, isInV 4 0 4)] (qup w 95 30 0) 142 Q9
  refine qG.br (P := isInV 4 0 4 = 0) (pc1 := 14) (pc2 := 31) (st1 := []) rfl (fun hin => ?_) (fun hin => ?_)
  · exfalso; unfold isInV at hin; (repeat' split at hin) <;> omega
  · skip
    refine qG.blk 3 (pc' := 34) (ls' := [(2, 95), (0, 4), (9, 0)]) (st' := [(0, 4), (0, 4), (2, 95)]) (w' := (qup w 95 30 0)) (n' := 142) rfl ?_
    refine qG.br (P := (4 : Int) < 4) (pc1 := 37) (pc2 := 41) (st1 := [(2, 95)]) rfl (fun h1 => ?_) (fun h1 => ?_)
    · exact absurd h1 (by decide)
    · skip
      refine qG.blk 1 (pc' := 42) (ls' := [(2, 95), (0, 4), (9, 0)]) (st' := [(0, 0), (2, 95)]) (w' := (qup w 95 30 0)) (n' := 142) rfl ?_
      refine qG.gd (P := (0 < (95 : Int) ∧ (95 : Int) ≤ ((142 : Nat) : Int)) ∧ 0 ≤ 0 ∧ 0 ≤ 1) (pc' := 45) (ls' := [(2, 95), (0, 4), (9, 0)]) (st' := []) (w' := (qup (qup w 95 30 0) 95 35 0)) (n' := 142) rfl (by omega) ?_
      refine qG.blk 11 (pc' := 64) (ls' := [(2, 95), (0, 4), (9, 0)]) (st' := [(2, w 95 15)]) (w' := (qup (qup (qup (qup (qup w 95 30 0) 95 35 0) 95 26 0) 95 23 0) 95 24 0)) (n' := 142) rfl ?_
      rw [show w 95 15 = 109 from zref hI rfl rfl]
      refine qG.blk 2 (pc' := 66) (ls' := [(2, 95), (0, 4), (9, 0)]) (st' := [(0, 0), (0, 0), (2, 109)]) (w' := (qup (qup (qup (qup (qup w 95 30 0) 95 35 0) 95 26 0) 95 23 0) 95 24 0)) (n' := 142) rfl ?_
      refine qG.ar (P := 0 ≤ 0 ∧ 0 < ((21 : Nat) : Int)) (P2 := 0 < (109 : Int) ∧ (109 : Int) ≤ ((142 : Nat) : Int)) (pc' := 67) (ls' := [(2, 95), (0, 4), (9, 0)]) (st' := []) (w' := (qup (qup (qup (qup (qup (qup w 95 30 0) 95 35 0) 95 26 0) 95 23 0) 95 24 0) 109 0 0)) (n' := 142) rfl (by omega) (by decide) ?_
      subst hQ9
      exact K_textBPX (by omega) w hI hpos hT
theorem K_textXX {d : Nat} (hd : 42 ≤ d) (k : Int) (hk : k < 0 ∨ 4 < k) (w : qW) (hI : yInv zgf zga zra zSp w) : qG none d 245 0 [(2, 95), (0, k), (9, 0)] [] w 142 (fun (r : qV) (w1 : qW) (_ : Nat) => r = (0, -1) ∧ w1 95 32 = 0 ∧ w1 95 34 = -1) := by
  generalize hQ9 : (fun (r : qV) (w1 : qW) (_ : Nat) => r = (0, -1) ∧ w1 95 32 = 0 ∧ w1 95 34 = -1) = Q9
  obtain ⟨d, rfl⟩ : ∃ d9, d = d9 + 1 := ⟨d - 1, by omega⟩
  refine qG.blk 6 (pc' := 8) (ls' := [(2, 95), (0, k), (9, 0)]) (st' := [(0, 4), (0, 0), (0, k)]) (w' := (qup w 95 30 0)) (n' := 142) rfl ?_
  refine qG.call (t := 206) (na := 3) (sk := 0) (md := 0) (ls1 := [(0, k), (0, 0), (0, 4)]) (r1 := []) rfl rfl rfl rfl rfl (K_isIn (by omega) _ _ _ _) ?_
  rintro _ w7 _ ⟨rfl, hw7, rfl⟩
  rw [hw7]
  show qG none (d + 1) 245 11 [(2, 95), (0, k), (9, 0)] [(0, isInV k 0 4)] (qup w 95 30 0) 142 Q9
  refine qG.br (P := isInV k 0 4 = 0) (pc1 := 14) (pc2 := 31) (st1 := []) rfl (fun hin => ?_) (fun hin => ?_)
  · skip
    refine qG.blk 10 (pc' := 30) (ls' := [(2, 95), (0, k), (9, 0)]) (st' := [(0, (-1))]) (w' := (qup (qup (qup (qup w 95 30 0) 95 25 0) 95 32 0) 95 34 (-1))) (n' := 142) rfl ?_
    refine qG.ret rfl rfl ?_
    subst hQ9
    exact ⟨rfl, (qup_j (by decide)).trans qup_k, qup_k⟩
  · exfalso; unfold isInV at hin; (repeat' split at hin) <;> omega
