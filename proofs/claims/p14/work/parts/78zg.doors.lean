/-! doors on both sides with their sides; what an open door shows -/
noncomputable def dr2X (c d1 s v b : Int) (w : qW) (r : qV) (w1 : qW) : Prop := (doorV c d1 s v = 0 ∧ r = (0, 0) ∧ w1 = w) ∨ (doorV c d1 s v = 1 ∧ r = (0, 1) ∧ ∃ c9 d9 : Nat, c = (c9 : Int) ∧ d1 = (d9 : Int) ∧ c9 < 3 ∧ d9 < 10 ∧ (∀ k, w1 (66 + 5 * c9) k = if k = d9 then s else w (66 + 5 * c9) k) ∧ (∀ k, w1 (67 + 5 * c9) k = if k = d9 then v else w (67 + 5 * c9) k) ∧ (∀ k, w1 (68 + 5 * c9) k = if k = d9 then b else w (68 + 5 * c9) k) ∧ ∀ q k, q ≠ 66 + 5 * c9 → q ≠ 67 + 5 * c9 → q ≠ 68 + 5 * c9 → w1 q k = w q k)
noncomputable def drS (s v : Int) : Prop := (0 ≤ v ∧ v ≤ 65535) ∧ ((s = 0 ∧ qand v 65280 = 0) ∨ (s = 1 ∧ qand v 255 = 0))
noncomputable def dr2R (c d1 s v b : Int) (w : qW) (r : qV) (w1 : qW) : Prop := (doorV c d1 s v = 0 ∧ r = (0, 0) ∧ w1 = w) ∨ (doorV c d1 s v = 1 ∧ drS s v ∧ r = (0, 1) ∧ ∃ c9 d9 : Nat, c = (c9 : Int) ∧ d1 = (d9 : Int) ∧ c9 < 3 ∧ d9 < 10 ∧ (∀ k, w1 97 k = if k = 10 * c9 + d9 then s else w 97 k) ∧ (∀ k, w1 98 k = if k = 10 * c9 + d9 then v else w 98 k) ∧ (∀ k, w1 100 k = if k = 10 * c9 + d9 then b else w 100 k) ∧ ∀ q k, q ≠ 97 → q ≠ 98 → q ≠ 100 → w1 q k = w q k)
noncomputable def pd2E (p : Nat) (d1 s v b : Int) (w : qW) (r : qV) (w1 : qW) : Prop := (pdV d1 s v = 0 ∧ r = (0, 0) ∧ w1 = w) ∨ (pdV d1 s v = 1 ∧ r = (0, 1) ∧ ∃ d9 : Nat, d1 = (d9 : Int) ∧ d9 < 10 ∧ (∀ k, w1 (p + 2) k = if k = d9 then s else w (p + 2) k) ∧ (∀ k, w1 (p + 3) k = if k = d9 then v else w (p + 3) k) ∧ (∀ k, w1 (p + 4) k = if k = d9 then b else w (p + 4) k) ∧ ∀ q k, q ≠ p + 2 → q ≠ p + 3 → q ≠ p + 4 → w1 q k = w q k)
theorem K_putDoor264 {d : Nat} (hd : 0 ≤ d) (d1 s v b : Int) (hv1 : -2147483648 ≤ v) (hv2 : v ≤ 2147483647) (hb : 0 ≤ b ∧ b ≤ 1) (w : qW) (hI : yInv zgf zga zra zSp w) : qG none d 22 0 [(2, 64), (0, d1), (0, s), (0, v), (0, b), (9, 0)] [] w 142 (fun (r : qV) (w1 : qW) (n1 : Nat) => n1 = 142 ∧ pd2E 64 d1 s v b w r w1) := by
  generalize hQ9 : (fun (r : qV) (w1 : qW) (n1 : Nat) => n1 = 142 ∧ pd2E 64 d1 s v b w r w1) = Q9
  refine qG.blk 1 (pc' := 1) (ls' := [(2, 64), (0, d1), (0, s), (0, v), (0, b), (9, 0)]) (st' := [(0, d1)]) (w' := w) (n' := 142) rfl ?_
  refine qG.br (P := d1 < 0) (pc1 := 19) (pc2 := 4) (st1 := []) rfl (fun h1 => ?_) (fun h1 => ?_)
  · skip
    refine qG.blk 1 (pc' := 20) (ls' := [(2, 64), (0, d1), (0, s), (0, v), (0, b), (9, 0)]) (st' := [(0, 0)]) (w' := w) (n' := 142) rfl ?_
    refine qG.ret rfl (by first | rfl | exact decide_eq_true (by omega)) ?_
    subst hQ9
    refine ⟨rfl, ?_⟩; first | exact .inl ⟨(by first | exact (pdV_r (by omega)) | exact (pdV_0n hz (fun z => hm ((mk0 hv1 hv2).mpr z))) | exact (pdV_1n hz (fun z => hm ((mk1 hv1 hv2).mpr z)))), rfl, rfl⟩ | exact .inr ⟨(by first | exact (pdV_0 (by omega) hz ((mk0 hv1 hv2).mp hm)) | exact (pdV_1 (by omega) hz (by omega) ((mk1 hv1 hv2).mp hm))), rfl, d9, rfl, by omega, (fun k => by simp (disch := decide) only [qup_ne, qup_if]), (fun k => by simp (disch := decide) only [qup_ne, qup_if]), (fun k => by simp (disch := decide) only [qup_ne, qup_if]), fun q k h2 h3 h4 => by simp only [qup_ne h2, qup_ne h3, qup_ne h4]⟩
  · skip
    refine qG.blk 2 (pc' := 7) (ls' := [(2, 64), (0, d1), (0, s), (0, v), (0, b), (9, 0)]) (st' := [(0, 10), (0, d1)]) (w' := w) (n' := 142) rfl ?_
    refine qG.br (P := d1 < 10) (pc1 := 10) (pc2 := 19) (st1 := []) rfl (fun h2 => ?_) (fun h2 => ?_)
    · skip
      refine qG.blk 1 (pc' := 11) (ls' := [(2, 64), (0, d1), (0, s), (0, v), (0, b), (9, 0)]) (st' := [(0, s)]) (w' := w) (n' := 142) rfl ?_
      refine qG.br (P := s < 0) (pc1 := 19) (pc2 := 14) (st1 := []) rfl (fun h3 => ?_) (fun h3 => ?_)
      · skip
        refine qG.blk 1 (pc' := 20) (ls' := [(2, 64), (0, d1), (0, s), (0, v), (0, b), (9, 0)]) (st' := [(0, 0)]) (w' := w) (n' := 142) rfl ?_
        refine qG.ret rfl (by first | rfl | exact decide_eq_true (by omega)) ?_
        subst hQ9
        refine ⟨rfl, ?_⟩; first | exact .inl ⟨(by first | exact (pdV_r (by omega)) | exact (pdV_0n hz (fun z => hm ((mk0 hv1 hv2).mpr z))) | exact (pdV_1n hz (fun z => hm ((mk1 hv1 hv2).mpr z)))), rfl, rfl⟩ | exact .inr ⟨(by first | exact (pdV_0 (by omega) hz ((mk0 hv1 hv2).mp hm)) | exact (pdV_1 (by omega) hz (by omega) ((mk1 hv1 hv2).mp hm))), rfl, d9, rfl, by omega, (fun k => by simp (disch := decide) only [qup_ne, qup_if]), (fun k => by simp (disch := decide) only [qup_ne, qup_if]), (fun k => by simp (disch := decide) only [qup_ne, qup_if]), fun q k h2 h3 h4 => by simp only [qup_ne h2, qup_ne h3, qup_ne h4]⟩
      · skip
        refine qG.blk 2 (pc' := 16) (ls' := [(2, 64), (0, d1), (0, s), (0, v), (0, b), (9, 0)]) (st' := [(0, 1), (0, s)]) (w' := w) (n' := 142) rfl ?_
        refine qG.br (P := 1 < s) (pc1 := 19) (pc2 := 21) (st1 := []) rfl (fun h4 => ?_) (fun h4 => ?_)
        · skip
          refine qG.blk 1 (pc' := 20) (ls' := [(2, 64), (0, d1), (0, s), (0, v), (0, b), (9, 0)]) (st' := [(0, 0)]) (w' := w) (n' := 142) rfl ?_
          refine qG.ret rfl (by first | rfl | exact decide_eq_true (by omega)) ?_
          subst hQ9
          refine ⟨rfl, ?_⟩; first | exact .inl ⟨(by first | exact (pdV_r (by omega)) | exact (pdV_0n hz (fun z => hm ((mk0 hv1 hv2).mpr z))) | exact (pdV_1n hz (fun z => hm ((mk1 hv1 hv2).mpr z)))), rfl, rfl⟩ | exact .inr ⟨(by first | exact (pdV_0 (by omega) hz ((mk0 hv1 hv2).mp hm)) | exact (pdV_1 (by omega) hz (by omega) ((mk1 hv1 hv2).mp hm))), rfl, d9, rfl, by omega, (fun k => by simp (disch := decide) only [qup_ne, qup_if]), (fun k => by simp (disch := decide) only [qup_ne, qup_if]), (fun k => by simp (disch := decide) only [qup_ne, qup_if]), fun q k h2 h3 h4 => by simp only [qup_ne h2, qup_ne h3, qup_ne h4]⟩
        · skip
          refine qG.blk 1 (pc' := 22) (ls' := [(2, 64), (0, d1), (0, s), (0, v), (0, b), (9, 0)]) (st' := [(0, s)]) (w' := w) (n' := 142) rfl ?_
          obtain ⟨d9, rfl⟩ : ∃ n : Nat, d1 = (n : Int) := ⟨d1.toNat, by omega⟩
          refine qG.br (P := s = 0) (pc1 := 25) (pc2 := 31) (st1 := []) rfl (fun hz => ?_) (fun hz => ?_)
          · skip
            refine qG.blk 8 (pc' := 41) (ls' := [(2, 64), (0, ((d9 : Nat) : Int)), (0, s), (0, v), (0, b), (0, 255)]) (st' := [(0, qand v (qxor 255 (-1)))]) (w' := w) (n' := 142) rfl ?_
            refine qG.br (P := qand v (qxor 255 (-1)) = 0) (pc1 := 46) (pc2 := 44) (st1 := []) rfl (fun hm => ?_) (fun hm => ?_)
            · skip
              refine qG.blk 2 (pc' := 50) (ls' := [(2, 64), (0, ((d9 : Nat) : Int)), (0, s), (0, v), (0, b), (0, 255)]) (st' := [(2, w 64 3)]) (w' := w) (n' := 142) rfl ?_
              rw [show w 64 3 = 66 from zref hI rfl rfl]
              refine qG.blk 2 (pc' := 52) (ls' := [(2, 64), (0, ((d9 : Nat) : Int)), (0, s), (0, v), (0, b), (0, 255)]) (st' := [(0, s), (0, ((d9 : Nat) : Int)), (2, 66)]) (w' := w) (n' := 142) rfl ?_
              refine qG.ar (P := 0 ≤ ((d9 : Nat) : Int) ∧ ((d9 : Nat) : Int) < ((10 : Nat) : Int)) (P2 := 0 < (66 : Int) ∧ (66 : Int) ≤ ((142 : Nat) : Int)) (pc' := 53) (ls' := [(2, 64), (0, ((d9 : Nat) : Int)), (0, s), (0, v), (0, b), (0, 255)]) (st' := []) (w' := (qup w 66 d9 s)) (n' := 142) rfl (by omega) (by decide) ?_
              refine qG.blk 2 (pc' := 57) (ls' := [(2, 64), (0, ((d9 : Nat) : Int)), (0, s), (0, v), (0, b), (0, 255)]) (st' := [(2, w 64 4)]) (w' := (qup w 66 d9 s)) (n' := 142) rfl ?_
              rw [show w 64 4 = 67 from zref hI rfl rfl]
              refine qG.blk 2 (pc' := 59) (ls' := [(2, 64), (0, ((d9 : Nat) : Int)), (0, s), (0, v), (0, b), (0, 255)]) (st' := [(0, v), (0, ((d9 : Nat) : Int)), (2, 67)]) (w' := (qup w 66 d9 s)) (n' := 142) rfl ?_
              refine qG.ar (P := 0 ≤ ((d9 : Nat) : Int) ∧ ((d9 : Nat) : Int) < ((10 : Nat) : Int)) (P2 := 0 < (67 : Int) ∧ (67 : Int) ≤ ((142 : Nat) : Int)) (pc' := 60) (ls' := [(2, 64), (0, ((d9 : Nat) : Int)), (0, s), (0, v), (0, b), (0, 255)]) (st' := []) (w' := (qup (qup w 66 d9 s) 67 d9 v)) (n' := 142) rfl (by omega) (by decide) ?_
              refine qG.blk 2 (pc' := 64) (ls' := [(2, 64), (0, ((d9 : Nat) : Int)), (0, s), (0, v), (0, b), (0, 255)]) (st' := [(2, w 64 5)]) (w' := (qup (qup w 66 d9 s) 67 d9 v)) (n' := 142) rfl ?_
              rw [show w 64 5 = 68 from zref hI rfl rfl]
              refine qG.blk 2 (pc' := 67) (ls' := [(2, 64), (0, ((d9 : Nat) : Int)), (0, s), (0, v), (0, b), (0, 255)]) (st' := [(0, b), (0, ((d9 : Nat) : Int)), (2, 68)]) (w' := (qup (qup w 66 d9 s) 67 d9 v)) (n' := 142) rfl ?_
              refine qG.ar (P := (0 ≤ ((d9 : Nat) : Int) ∧ ((d9 : Nat) : Int) < ((10 : Nat) : Int)) ∧ 0 ≤ b ∧ b ≤ 1) (P2 := 0 < (68 : Int) ∧ (68 : Int) ≤ ((142 : Nat) : Int)) (pc' := 68) (ls' := [(2, 64), (0, ((d9 : Nat) : Int)), (0, s), (0, v), (0, b), (0, 255)]) (st' := []) (w' := (qup (qup (qup w 66 d9 s) 67 d9 v) 68 d9 b)) (n' := 142) rfl (by exact ⟨⟨by omega, by omega⟩, hb⟩) (by decide) ?_
              refine qG.blk 1 (pc' := 69) (ls' := [(2, 64), (0, ((d9 : Nat) : Int)), (0, s), (0, v), (0, b), (0, 255)]) (st' := [(0, 1)]) (w' := (qup (qup (qup w 66 d9 s) 67 d9 v) 68 d9 b)) (n' := 142) rfl ?_
              refine qG.ret rfl (by first | rfl | exact decide_eq_true (by omega)) ?_
              subst hQ9
              refine ⟨rfl, ?_⟩; first | exact .inl ⟨(by first | exact (pdV_r (by omega)) | exact (pdV_0n hz (fun z => hm ((mk0 hv1 hv2).mpr z))) | exact (pdV_1n hz (fun z => hm ((mk1 hv1 hv2).mpr z)))), rfl, rfl⟩ | exact .inr ⟨(by first | exact (pdV_0 (by omega) hz ((mk0 hv1 hv2).mp hm)) | exact (pdV_1 (by omega) hz (by omega) ((mk1 hv1 hv2).mp hm))), rfl, d9, rfl, by omega, (fun k => by simp (disch := decide) only [qup_ne, qup_if]), (fun k => by simp (disch := decide) only [qup_ne, qup_if]), (fun k => by simp (disch := decide) only [qup_ne, qup_if]), fun q k h2 h3 h4 => by simp only [qup_ne h2, qup_ne h3, qup_ne h4]⟩
            · skip
              refine qG.blk 1 (pc' := 45) (ls' := [(2, 64), (0, ((d9 : Nat) : Int)), (0, s), (0, v), (0, b), (0, 255)]) (st' := [(0, 0)]) (w' := w) (n' := 142) rfl ?_
              refine qG.ret rfl (by first | rfl | exact decide_eq_true (by omega)) ?_
              subst hQ9
              refine ⟨rfl, ?_⟩; first | exact .inl ⟨(by first | exact (pdV_r (by omega)) | exact (pdV_0n hz (fun z => hm ((mk0 hv1 hv2).mpr z))) | exact (pdV_1n hz (fun z => hm ((mk1 hv1 hv2).mpr z)))), rfl, rfl⟩ | exact .inr ⟨(by first | exact (pdV_0 (by omega) hz ((mk0 hv1 hv2).mp hm)) | exact (pdV_1 (by omega) hz (by omega) ((mk1 hv1 hv2).mp hm))), rfl, d9, rfl, by omega, (fun k => by simp (disch := decide) only [qup_ne, qup_if]), (fun k => by simp (disch := decide) only [qup_ne, qup_if]), (fun k => by simp (disch := decide) only [qup_ne, qup_if]), fun q k h2 h3 h4 => by simp only [qup_ne h2, qup_ne h3, qup_ne h4]⟩
          · skip
            refine qG.blk 7 (pc' := 41) (ls' := [(2, 64), (0, ((d9 : Nat) : Int)), (0, s), (0, v), (0, b), (0, 65280)]) (st' := [(0, qand v (qxor 65280 (-1)))]) (w' := w) (n' := 142) rfl ?_
            refine qG.br (P := qand v (qxor 65280 (-1)) = 0) (pc1 := 46) (pc2 := 44) (st1 := []) rfl (fun hm => ?_) (fun hm => ?_)
            · skip
              refine qG.blk 2 (pc' := 50) (ls' := [(2, 64), (0, ((d9 : Nat) : Int)), (0, s), (0, v), (0, b), (0, 65280)]) (st' := [(2, w 64 3)]) (w' := w) (n' := 142) rfl ?_
              rw [show w 64 3 = 66 from zref hI rfl rfl]
              refine qG.blk 2 (pc' := 52) (ls' := [(2, 64), (0, ((d9 : Nat) : Int)), (0, s), (0, v), (0, b), (0, 65280)]) (st' := [(0, s), (0, ((d9 : Nat) : Int)), (2, 66)]) (w' := w) (n' := 142) rfl ?_
              refine qG.ar (P := 0 ≤ ((d9 : Nat) : Int) ∧ ((d9 : Nat) : Int) < ((10 : Nat) : Int)) (P2 := 0 < (66 : Int) ∧ (66 : Int) ≤ ((142 : Nat) : Int)) (pc' := 53) (ls' := [(2, 64), (0, ((d9 : Nat) : Int)), (0, s), (0, v), (0, b), (0, 65280)]) (st' := []) (w' := (qup w 66 d9 s)) (n' := 142) rfl (by omega) (by decide) ?_
              refine qG.blk 2 (pc' := 57) (ls' := [(2, 64), (0, ((d9 : Nat) : Int)), (0, s), (0, v), (0, b), (0, 65280)]) (st' := [(2, w 64 4)]) (w' := (qup w 66 d9 s)) (n' := 142) rfl ?_
              rw [show w 64 4 = 67 from zref hI rfl rfl]
              refine qG.blk 2 (pc' := 59) (ls' := [(2, 64), (0, ((d9 : Nat) : Int)), (0, s), (0, v), (0, b), (0, 65280)]) (st' := [(0, v), (0, ((d9 : Nat) : Int)), (2, 67)]) (w' := (qup w 66 d9 s)) (n' := 142) rfl ?_
              refine qG.ar (P := 0 ≤ ((d9 : Nat) : Int) ∧ ((d9 : Nat) : Int) < ((10 : Nat) : Int)) (P2 := 0 < (67 : Int) ∧ (67 : Int) ≤ ((142 : Nat) : Int)) (pc' := 60) (ls' := [(2, 64), (0, ((d9 : Nat) : Int)), (0, s), (0, v), (0, b), (0, 65280)]) (st' := []) (w' := (qup (qup w 66 d9 s) 67 d9 v)) (n' := 142) rfl (by omega) (by decide) ?_
              refine qG.blk 2 (pc' := 64) (ls' := [(2, 64), (0, ((d9 : Nat) : Int)), (0, s), (0, v), (0, b), (0, 65280)]) (st' := [(2, w 64 5)]) (w' := (qup (qup w 66 d9 s) 67 d9 v)) (n' := 142) rfl ?_
              rw [show w 64 5 = 68 from zref hI rfl rfl]
              refine qG.blk 2 (pc' := 67) (ls' := [(2, 64), (0, ((d9 : Nat) : Int)), (0, s), (0, v), (0, b), (0, 65280)]) (st' := [(0, b), (0, ((d9 : Nat) : Int)), (2, 68)]) (w' := (qup (qup w 66 d9 s) 67 d9 v)) (n' := 142) rfl ?_
              refine qG.ar (P := (0 ≤ ((d9 : Nat) : Int) ∧ ((d9 : Nat) : Int) < ((10 : Nat) : Int)) ∧ 0 ≤ b ∧ b ≤ 1) (P2 := 0 < (68 : Int) ∧ (68 : Int) ≤ ((142 : Nat) : Int)) (pc' := 68) (ls' := [(2, 64), (0, ((d9 : Nat) : Int)), (0, s), (0, v), (0, b), (0, 65280)]) (st' := []) (w' := (qup (qup (qup w 66 d9 s) 67 d9 v) 68 d9 b)) (n' := 142) rfl (by exact ⟨⟨by omega, by omega⟩, hb⟩) (by decide) ?_
              refine qG.blk 1 (pc' := 69) (ls' := [(2, 64), (0, ((d9 : Nat) : Int)), (0, s), (0, v), (0, b), (0, 65280)]) (st' := [(0, 1)]) (w' := (qup (qup (qup w 66 d9 s) 67 d9 v) 68 d9 b)) (n' := 142) rfl ?_
              refine qG.ret rfl (by first | rfl | exact decide_eq_true (by omega)) ?_
              subst hQ9
              refine ⟨rfl, ?_⟩; first | exact .inl ⟨(by first | exact (pdV_r (by omega)) | exact (pdV_0n hz (fun z => hm ((mk0 hv1 hv2).mpr z))) | exact (pdV_1n hz (fun z => hm ((mk1 hv1 hv2).mpr z)))), rfl, rfl⟩ | exact .inr ⟨(by first | exact (pdV_0 (by omega) hz ((mk0 hv1 hv2).mp hm)) | exact (pdV_1 (by omega) hz (by omega) ((mk1 hv1 hv2).mp hm))), rfl, d9, rfl, by omega, (fun k => by simp (disch := decide) only [qup_ne, qup_if]), (fun k => by simp (disch := decide) only [qup_ne, qup_if]), (fun k => by simp (disch := decide) only [qup_ne, qup_if]), fun q k h2 h3 h4 => by simp only [qup_ne h2, qup_ne h3, qup_ne h4]⟩
            · skip
              refine qG.blk 1 (pc' := 45) (ls' := [(2, 64), (0, ((d9 : Nat) : Int)), (0, s), (0, v), (0, b), (0, 65280)]) (st' := [(0, 0)]) (w' := w) (n' := 142) rfl ?_
              refine qG.ret rfl (by first | rfl | exact decide_eq_true (by omega)) ?_
              subst hQ9
              refine ⟨rfl, ?_⟩; first | exact .inl ⟨(by first | exact (pdV_r (by omega)) | exact (pdV_0n hz (fun z => hm ((mk0 hv1 hv2).mpr z))) | exact (pdV_1n hz (fun z => hm ((mk1 hv1 hv2).mpr z)))), rfl, rfl⟩ | exact .inr ⟨(by first | exact (pdV_0 (by omega) hz ((mk0 hv1 hv2).mp hm)) | exact (pdV_1 (by omega) hz (by omega) ((mk1 hv1 hv2).mp hm))), rfl, d9, rfl, by omega, (fun k => by simp (disch := decide) only [qup_ne, qup_if]), (fun k => by simp (disch := decide) only [qup_ne, qup_if]), (fun k => by simp (disch := decide) only [qup_ne, qup_if]), fun q k h2 h3 h4 => by simp only [qup_ne h2, qup_ne h3, qup_ne h4]⟩
    · skip
      refine qG.blk 1 (pc' := 20) (ls' := [(2, 64), (0, d1), (0, s), (0, v), (0, b), (9, 0)]) (st' := [(0, 0)]) (w' := w) (n' := 142) rfl ?_
      refine qG.ret rfl (by first | rfl | exact decide_eq_true (by omega)) ?_
      subst hQ9
      refine ⟨rfl, ?_⟩; first | exact .inl ⟨(by first | exact (pdV_r (by omega)) | exact (pdV_0n hz (fun z => hm ((mk0 hv1 hv2).mpr z))) | exact (pdV_1n hz (fun z => hm ((mk1 hv1 hv2).mpr z)))), rfl, rfl⟩ | exact .inr ⟨(by first | exact (pdV_0 (by omega) hz ((mk0 hv1 hv2).mp hm)) | exact (pdV_1 (by omega) hz (by omega) ((mk1 hv1 hv2).mp hm))), rfl, d9, rfl, by omega, (fun k => by simp (disch := decide) only [qup_ne, qup_if]), (fun k => by simp (disch := decide) only [qup_ne, qup_if]), (fun k => by simp (disch := decide) only [qup_ne, qup_if]), fun q k h2 h3 h4 => by simp only [qup_ne h2, qup_ne h3, qup_ne h4]⟩
theorem K_putDoor269 {d : Nat} (hd : 0 ≤ d) (d1 s v b : Int) (hv1 : -2147483648 ≤ v) (hv2 : v ≤ 2147483647) (hb : 0 ≤ b ∧ b ≤ 1) (w : qW) (hI : yInv zgf zga zra zSp w) : qG none d 22 0 [(2, 69), (0, d1), (0, s), (0, v), (0, b), (9, 0)] [] w 142 (fun (r : qV) (w1 : qW) (n1 : Nat) => n1 = 142 ∧ pd2E 69 d1 s v b w r w1) := by
  generalize hQ9 : (fun (r : qV) (w1 : qW) (n1 : Nat) => n1 = 142 ∧ pd2E 69 d1 s v b w r w1) = Q9
  refine qG.blk 1 (pc' := 1) (ls' := [(2, 69), (0, d1), (0, s), (0, v), (0, b), (9, 0)]) (st' := [(0, d1)]) (w' := w) (n' := 142) rfl ?_
  refine qG.br (P := d1 < 0) (pc1 := 19) (pc2 := 4) (st1 := []) rfl (fun h1 => ?_) (fun h1 => ?_)
  · skip
    refine qG.blk 1 (pc' := 20) (ls' := [(2, 69), (0, d1), (0, s), (0, v), (0, b), (9, 0)]) (st' := [(0, 0)]) (w' := w) (n' := 142) rfl ?_
    refine qG.ret rfl (by first | rfl | exact decide_eq_true (by omega)) ?_
    subst hQ9
    refine ⟨rfl, ?_⟩; first | exact .inl ⟨(by first | exact (pdV_r (by omega)) | exact (pdV_0n hz (fun z => hm ((mk0 hv1 hv2).mpr z))) | exact (pdV_1n hz (fun z => hm ((mk1 hv1 hv2).mpr z)))), rfl, rfl⟩ | exact .inr ⟨(by first | exact (pdV_0 (by omega) hz ((mk0 hv1 hv2).mp hm)) | exact (pdV_1 (by omega) hz (by omega) ((mk1 hv1 hv2).mp hm))), rfl, d9, rfl, by omega, (fun k => by simp (disch := decide) only [qup_ne, qup_if]), (fun k => by simp (disch := decide) only [qup_ne, qup_if]), (fun k => by simp (disch := decide) only [qup_ne, qup_if]), fun q k h2 h3 h4 => by simp only [qup_ne h2, qup_ne h3, qup_ne h4]⟩
  · skip
    refine qG.blk 2 (pc' := 7) (ls' := [(2, 69), (0, d1), (0, s), (0, v), (0, b), (9, 0)]) (st' := [(0, 10), (0, d1)]) (w' := w) (n' := 142) rfl ?_
    refine qG.br (P := d1 < 10) (pc1 := 10) (pc2 := 19) (st1 := []) rfl (fun h2 => ?_) (fun h2 => ?_)
    · skip
      refine qG.blk 1 (pc' := 11) (ls' := [(2, 69), (0, d1), (0, s), (0, v), (0, b), (9, 0)]) (st' := [(0, s)]) (w' := w) (n' := 142) rfl ?_
      refine qG.br (P := s < 0) (pc1 := 19) (pc2 := 14) (st1 := []) rfl (fun h3 => ?_) (fun h3 => ?_)
      · skip
        refine qG.blk 1 (pc' := 20) (ls' := [(2, 69), (0, d1), (0, s), (0, v), (0, b), (9, 0)]) (st' := [(0, 0)]) (w' := w) (n' := 142) rfl ?_
        refine qG.ret rfl (by first | rfl | exact decide_eq_true (by omega)) ?_
        subst hQ9
        refine ⟨rfl, ?_⟩; first | exact .inl ⟨(by first | exact (pdV_r (by omega)) | exact (pdV_0n hz (fun z => hm ((mk0 hv1 hv2).mpr z))) | exact (pdV_1n hz (fun z => hm ((mk1 hv1 hv2).mpr z)))), rfl, rfl⟩ | exact .inr ⟨(by first | exact (pdV_0 (by omega) hz ((mk0 hv1 hv2).mp hm)) | exact (pdV_1 (by omega) hz (by omega) ((mk1 hv1 hv2).mp hm))), rfl, d9, rfl, by omega, (fun k => by simp (disch := decide) only [qup_ne, qup_if]), (fun k => by simp (disch := decide) only [qup_ne, qup_if]), (fun k => by simp (disch := decide) only [qup_ne, qup_if]), fun q k h2 h3 h4 => by simp only [qup_ne h2, qup_ne h3, qup_ne h4]⟩
      · skip
        refine qG.blk 2 (pc' := 16) (ls' := [(2, 69), (0, d1), (0, s), (0, v), (0, b), (9, 0)]) (st' := [(0, 1), (0, s)]) (w' := w) (n' := 142) rfl ?_
        refine qG.br (P := 1 < s) (pc1 := 19) (pc2 := 21) (st1 := []) rfl (fun h4 => ?_) (fun h4 => ?_)
        · skip
          refine qG.blk 1 (pc' := 20) (ls' := [(2, 69), (0, d1), (0, s), (0, v), (0, b), (9, 0)]) (st' := [(0, 0)]) (w' := w) (n' := 142) rfl ?_
          refine qG.ret rfl (by first | rfl | exact decide_eq_true (by omega)) ?_
          subst hQ9
          refine ⟨rfl, ?_⟩; first | exact .inl ⟨(by first | exact (pdV_r (by omega)) | exact (pdV_0n hz (fun z => hm ((mk0 hv1 hv2).mpr z))) | exact (pdV_1n hz (fun z => hm ((mk1 hv1 hv2).mpr z)))), rfl, rfl⟩ | exact .inr ⟨(by first | exact (pdV_0 (by omega) hz ((mk0 hv1 hv2).mp hm)) | exact (pdV_1 (by omega) hz (by omega) ((mk1 hv1 hv2).mp hm))), rfl, d9, rfl, by omega, (fun k => by simp (disch := decide) only [qup_ne, qup_if]), (fun k => by simp (disch := decide) only [qup_ne, qup_if]), (fun k => by simp (disch := decide) only [qup_ne, qup_if]), fun q k h2 h3 h4 => by simp only [qup_ne h2, qup_ne h3, qup_ne h4]⟩
        · skip
          refine qG.blk 1 (pc' := 22) (ls' := [(2, 69), (0, d1), (0, s), (0, v), (0, b), (9, 0)]) (st' := [(0, s)]) (w' := w) (n' := 142) rfl ?_
          obtain ⟨d9, rfl⟩ : ∃ n : Nat, d1 = (n : Int) := ⟨d1.toNat, by omega⟩
          refine qG.br (P := s = 0) (pc1 := 25) (pc2 := 31) (st1 := []) rfl (fun hz => ?_) (fun hz => ?_)
          · skip
            refine qG.blk 8 (pc' := 41) (ls' := [(2, 69), (0, ((d9 : Nat) : Int)), (0, s), (0, v), (0, b), (0, 255)]) (st' := [(0, qand v (qxor 255 (-1)))]) (w' := w) (n' := 142) rfl ?_
            refine qG.br (P := qand v (qxor 255 (-1)) = 0) (pc1 := 46) (pc2 := 44) (st1 := []) rfl (fun hm => ?_) (fun hm => ?_)
            · skip
              refine qG.blk 2 (pc' := 50) (ls' := [(2, 69), (0, ((d9 : Nat) : Int)), (0, s), (0, v), (0, b), (0, 255)]) (st' := [(2, w 69 3)]) (w' := w) (n' := 142) rfl ?_
              rw [show w 69 3 = 71 from zref hI rfl rfl]
              refine qG.blk 2 (pc' := 52) (ls' := [(2, 69), (0, ((d9 : Nat) : Int)), (0, s), (0, v), (0, b), (0, 255)]) (st' := [(0, s), (0, ((d9 : Nat) : Int)), (2, 71)]) (w' := w) (n' := 142) rfl ?_
              refine qG.ar (P := 0 ≤ ((d9 : Nat) : Int) ∧ ((d9 : Nat) : Int) < ((10 : Nat) : Int)) (P2 := 0 < (71 : Int) ∧ (71 : Int) ≤ ((142 : Nat) : Int)) (pc' := 53) (ls' := [(2, 69), (0, ((d9 : Nat) : Int)), (0, s), (0, v), (0, b), (0, 255)]) (st' := []) (w' := (qup w 71 d9 s)) (n' := 142) rfl (by omega) (by decide) ?_
              refine qG.blk 2 (pc' := 57) (ls' := [(2, 69), (0, ((d9 : Nat) : Int)), (0, s), (0, v), (0, b), (0, 255)]) (st' := [(2, w 69 4)]) (w' := (qup w 71 d9 s)) (n' := 142) rfl ?_
              rw [show w 69 4 = 72 from zref hI rfl rfl]
              refine qG.blk 2 (pc' := 59) (ls' := [(2, 69), (0, ((d9 : Nat) : Int)), (0, s), (0, v), (0, b), (0, 255)]) (st' := [(0, v), (0, ((d9 : Nat) : Int)), (2, 72)]) (w' := (qup w 71 d9 s)) (n' := 142) rfl ?_
              refine qG.ar (P := 0 ≤ ((d9 : Nat) : Int) ∧ ((d9 : Nat) : Int) < ((10 : Nat) : Int)) (P2 := 0 < (72 : Int) ∧ (72 : Int) ≤ ((142 : Nat) : Int)) (pc' := 60) (ls' := [(2, 69), (0, ((d9 : Nat) : Int)), (0, s), (0, v), (0, b), (0, 255)]) (st' := []) (w' := (qup (qup w 71 d9 s) 72 d9 v)) (n' := 142) rfl (by omega) (by decide) ?_
              refine qG.blk 2 (pc' := 64) (ls' := [(2, 69), (0, ((d9 : Nat) : Int)), (0, s), (0, v), (0, b), (0, 255)]) (st' := [(2, w 69 5)]) (w' := (qup (qup w 71 d9 s) 72 d9 v)) (n' := 142) rfl ?_
              rw [show w 69 5 = 73 from zref hI rfl rfl]
              refine qG.blk 2 (pc' := 67) (ls' := [(2, 69), (0, ((d9 : Nat) : Int)), (0, s), (0, v), (0, b), (0, 255)]) (st' := [(0, b), (0, ((d9 : Nat) : Int)), (2, 73)]) (w' := (qup (qup w 71 d9 s) 72 d9 v)) (n' := 142) rfl ?_
              refine qG.ar (P := (0 ≤ ((d9 : Nat) : Int) ∧ ((d9 : Nat) : Int) < ((10 : Nat) : Int)) ∧ 0 ≤ b ∧ b ≤ 1) (P2 := 0 < (73 : Int) ∧ (73 : Int) ≤ ((142 : Nat) : Int)) (pc' := 68) (ls' := [(2, 69), (0, ((d9 : Nat) : Int)), (0, s), (0, v), (0, b), (0, 255)]) (st' := []) (w' := (qup (qup (qup w 71 d9 s) 72 d9 v) 73 d9 b)) (n' := 142) rfl (by exact ⟨⟨by omega, by omega⟩, hb⟩) (by decide) ?_
              refine qG.blk 1 (pc' := 69) (ls' := [(2, 69), (0, ((d9 : Nat) : Int)), (0, s), (0, v), (0, b), (0, 255)]) (st' := [(0, 1)]) (w' := (qup (qup (qup w 71 d9 s) 72 d9 v) 73 d9 b)) (n' := 142) rfl ?_
              refine qG.ret rfl (by first | rfl | exact decide_eq_true (by omega)) ?_
              subst hQ9
              refine ⟨rfl, ?_⟩; first | exact .inl ⟨(by first | exact (pdV_r (by omega)) | exact (pdV_0n hz (fun z => hm ((mk0 hv1 hv2).mpr z))) | exact (pdV_1n hz (fun z => hm ((mk1 hv1 hv2).mpr z)))), rfl, rfl⟩ | exact .inr ⟨(by first | exact (pdV_0 (by omega) hz ((mk0 hv1 hv2).mp hm)) | exact (pdV_1 (by omega) hz (by omega) ((mk1 hv1 hv2).mp hm))), rfl, d9, rfl, by omega, (fun k => by simp (disch := decide) only [qup_ne, qup_if]), (fun k => by simp (disch := decide) only [qup_ne, qup_if]), (fun k => by simp (disch := decide) only [qup_ne, qup_if]), fun q k h2 h3 h4 => by simp only [qup_ne h2, qup_ne h3, qup_ne h4]⟩
            · skip
              refine qG.blk 1 (pc' := 45) (ls' := [(2, 69), (0, ((d9 : Nat) : Int)), (0, s), (0, v), (0, b), (0, 255)]) (st' := [(0, 0)]) (w' := w) (n' := 142) rfl ?_
              refine qG.ret rfl (by first | rfl | exact decide_eq_true (by omega)) ?_
              subst hQ9
              refine ⟨rfl, ?_⟩; first | exact .inl ⟨(by first | exact (pdV_r (by omega)) | exact (pdV_0n hz (fun z => hm ((mk0 hv1 hv2).mpr z))) | exact (pdV_1n hz (fun z => hm ((mk1 hv1 hv2).mpr z)))), rfl, rfl⟩ | exact .inr ⟨(by first | exact (pdV_0 (by omega) hz ((mk0 hv1 hv2).mp hm)) | exact (pdV_1 (by omega) hz (by omega) ((mk1 hv1 hv2).mp hm))), rfl, d9, rfl, by omega, (fun k => by simp (disch := decide) only [qup_ne, qup_if]), (fun k => by simp (disch := decide) only [qup_ne, qup_if]), (fun k => by simp (disch := decide) only [qup_ne, qup_if]), fun q k h2 h3 h4 => by simp only [qup_ne h2, qup_ne h3, qup_ne h4]⟩
          · skip
            refine qG.blk 7 (pc' := 41) (ls' := [(2, 69), (0, ((d9 : Nat) : Int)), (0, s), (0, v), (0, b), (0, 65280)]) (st' := [(0, qand v (qxor 65280 (-1)))]) (w' := w) (n' := 142) rfl ?_
            refine qG.br (P := qand v (qxor 65280 (-1)) = 0) (pc1 := 46) (pc2 := 44) (st1 := []) rfl (fun hm => ?_) (fun hm => ?_)
            · skip
              refine qG.blk 2 (pc' := 50) (ls' := [(2, 69), (0, ((d9 : Nat) : Int)), (0, s), (0, v), (0, b), (0, 65280)]) (st' := [(2, w 69 3)]) (w' := w) (n' := 142) rfl ?_
              rw [show w 69 3 = 71 from zref hI rfl rfl]
              refine qG.blk 2 (pc' := 52) (ls' := [(2, 69), (0, ((d9 : Nat) : Int)), (0, s), (0, v), (0, b), (0, 65280)]) (st' := [(0, s), (0, ((d9 : Nat) : Int)), (2, 71)]) (w' := w) (n' := 142) rfl ?_
              refine qG.ar (P := 0 ≤ ((d9 : Nat) : Int) ∧ ((d9 : Nat) : Int) < ((10 : Nat) : Int)) (P2 := 0 < (71 : Int) ∧ (71 : Int) ≤ ((142 : Nat) : Int)) (pc' := 53) (ls' := [(2, 69), (0, ((d9 : Nat) : Int)), (0, s), (0, v), (0, b), (0, 65280)]) (st' := []) (w' := (qup w 71 d9 s)) (n' := 142) rfl (by omega) (by decide) ?_
              refine qG.blk 2 (pc' := 57) (ls' := [(2, 69), (0, ((d9 : Nat) : Int)), (0, s), (0, v), (0, b), (0, 65280)]) (st' := [(2, w 69 4)]) (w' := (qup w 71 d9 s)) (n' := 142) rfl ?_
              rw [show w 69 4 = 72 from zref hI rfl rfl]
              refine qG.blk 2 (pc' := 59) (ls' := [(2, 69), (0, ((d9 : Nat) : Int)), (0, s), (0, v), (0, b), (0, 65280)]) (st' := [(0, v), (0, ((d9 : Nat) : Int)), (2, 72)]) (w' := (qup w 71 d9 s)) (n' := 142) rfl ?_
              refine qG.ar (P := 0 ≤ ((d9 : Nat) : Int) ∧ ((d9 : Nat) : Int) < ((10 : Nat) : Int)) (P2 := 0 < (72 : Int) ∧ (72 : Int) ≤ ((142 : Nat) : Int)) (pc' := 60) (ls' := [(2, 69), (0, ((d9 : Nat) : Int)), (0, s), (0, v), (0, b), (0, 65280)]) (st' := []) (w' := (qup (qup w 71 d9 s) 72 d9 v)) (n' := 142) rfl (by omega) (by decide) ?_
              refine qG.blk 2 (pc' := 64) (ls' := [(2, 69), (0, ((d9 : Nat) : Int)), (0, s), (0, v), (0, b), (0, 65280)]) (st' := [(2, w 69 5)]) (w' := (qup (qup w 71 d9 s) 72 d9 v)) (n' := 142) rfl ?_
              rw [show w 69 5 = 73 from zref hI rfl rfl]
              refine qG.blk 2 (pc' := 67) (ls' := [(2, 69), (0, ((d9 : Nat) : Int)), (0, s), (0, v), (0, b), (0, 65280)]) (st' := [(0, b), (0, ((d9 : Nat) : Int)), (2, 73)]) (w' := (qup (qup w 71 d9 s) 72 d9 v)) (n' := 142) rfl ?_
              refine qG.ar (P := (0 ≤ ((d9 : Nat) : Int) ∧ ((d9 : Nat) : Int) < ((10 : Nat) : Int)) ∧ 0 ≤ b ∧ b ≤ 1) (P2 := 0 < (73 : Int) ∧ (73 : Int) ≤ ((142 : Nat) : Int)) (pc' := 68) (ls' := [(2, 69), (0, ((d9 : Nat) : Int)), (0, s), (0, v), (0, b), (0, 65280)]) (st' := []) (w' := (qup (qup (qup w 71 d9 s) 72 d9 v) 73 d9 b)) (n' := 142) rfl (by exact ⟨⟨by omega, by omega⟩, hb⟩) (by decide) ?_
              refine qG.blk 1 (pc' := 69) (ls' := [(2, 69), (0, ((d9 : Nat) : Int)), (0, s), (0, v), (0, b), (0, 65280)]) (st' := [(0, 1)]) (w' := (qup (qup (qup w 71 d9 s) 72 d9 v) 73 d9 b)) (n' := 142) rfl ?_
              refine qG.ret rfl (by first | rfl | exact decide_eq_true (by omega)) ?_
              subst hQ9
              refine ⟨rfl, ?_⟩; first | exact .inl ⟨(by first | exact (pdV_r (by omega)) | exact (pdV_0n hz (fun z => hm ((mk0 hv1 hv2).mpr z))) | exact (pdV_1n hz (fun z => hm ((mk1 hv1 hv2).mpr z)))), rfl, rfl⟩ | exact .inr ⟨(by first | exact (pdV_0 (by omega) hz ((mk0 hv1 hv2).mp hm)) | exact (pdV_1 (by omega) hz (by omega) ((mk1 hv1 hv2).mp hm))), rfl, d9, rfl, by omega, (fun k => by simp (disch := decide) only [qup_ne, qup_if]), (fun k => by simp (disch := decide) only [qup_ne, qup_if]), (fun k => by simp (disch := decide) only [qup_ne, qup_if]), fun q k h2 h3 h4 => by simp only [qup_ne h2, qup_ne h3, qup_ne h4]⟩
            · skip
              refine qG.blk 1 (pc' := 45) (ls' := [(2, 69), (0, ((d9 : Nat) : Int)), (0, s), (0, v), (0, b), (0, 65280)]) (st' := [(0, 0)]) (w' := w) (n' := 142) rfl ?_
              refine qG.ret rfl (by first | rfl | exact decide_eq_true (by omega)) ?_
              subst hQ9
              refine ⟨rfl, ?_⟩; first | exact .inl ⟨(by first | exact (pdV_r (by omega)) | exact (pdV_0n hz (fun z => hm ((mk0 hv1 hv2).mpr z))) | exact (pdV_1n hz (fun z => hm ((mk1 hv1 hv2).mpr z)))), rfl, rfl⟩ | exact .inr ⟨(by first | exact (pdV_0 (by omega) hz ((mk0 hv1 hv2).mp hm)) | exact (pdV_1 (by omega) hz (by omega) ((mk1 hv1 hv2).mp hm))), rfl, d9, rfl, by omega, (fun k => by simp (disch := decide) only [qup_ne, qup_if]), (fun k => by simp (disch := decide) only [qup_ne, qup_if]), (fun k => by simp (disch := decide) only [qup_ne, qup_if]), fun q k h2 h3 h4 => by simp only [qup_ne h2, qup_ne h3, qup_ne h4]⟩
    · skip
      refine qG.blk 1 (pc' := 20) (ls' := [(2, 69), (0, d1), (0, s), (0, v), (0, b), (9, 0)]) (st' := [(0, 0)]) (w' := w) (n' := 142) rfl ?_
      refine qG.ret rfl (by first | rfl | exact decide_eq_true (by omega)) ?_
      subst hQ9
      refine ⟨rfl, ?_⟩; first | exact .inl ⟨(by first | exact (pdV_r (by omega)) | exact (pdV_0n hz (fun z => hm ((mk0 hv1 hv2).mpr z))) | exact (pdV_1n hz (fun z => hm ((mk1 hv1 hv2).mpr z)))), rfl, rfl⟩ | exact .inr ⟨(by first | exact (pdV_0 (by omega) hz ((mk0 hv1 hv2).mp hm)) | exact (pdV_1 (by omega) hz (by omega) ((mk1 hv1 hv2).mp hm))), rfl, d9, rfl, by omega, (fun k => by simp (disch := decide) only [qup_ne, qup_if]), (fun k => by simp (disch := decide) only [qup_ne, qup_if]), (fun k => by simp (disch := decide) only [qup_ne, qup_if]), fun q k h2 h3 h4 => by simp only [qup_ne h2, qup_ne h3, qup_ne h4]⟩
theorem K_putDoor274 {d : Nat} (hd : 0 ≤ d) (d1 s v b : Int) (hv1 : -2147483648 ≤ v) (hv2 : v ≤ 2147483647) (hb : 0 ≤ b ∧ b ≤ 1) (w : qW) (hI : yInv zgf zga zra zSp w) : qG none d 22 0 [(2, 74), (0, d1), (0, s), (0, v), (0, b), (9, 0)] [] w 142 (fun (r : qV) (w1 : qW) (n1 : Nat) => n1 = 142 ∧ pd2E 74 d1 s v b w r w1) := by
  generalize hQ9 : (fun (r : qV) (w1 : qW) (n1 : Nat) => n1 = 142 ∧ pd2E 74 d1 s v b w r w1) = Q9
  refine qG.blk 1 (pc' := 1) (ls' := [(2, 74), (0, d1), (0, s), (0, v), (0, b), (9, 0)]) (st' := [(0, d1)]) (w' := w) (n' := 142) rfl ?_
  refine qG.br (P := d1 < 0) (pc1 := 19) (pc2 := 4) (st1 := []) rfl (fun h1 => ?_) (fun h1 => ?_)
  · skip
    refine qG.blk 1 (pc' := 20) (ls' := [(2, 74), (0, d1), (0, s), (0, v), (0, b), (9, 0)]) (st' := [(0, 0)]) (w' := w) (n' := 142) rfl ?_
    refine qG.ret rfl (by first | rfl | exact decide_eq_true (by omega)) ?_
    subst hQ9
    refine ⟨rfl, ?_⟩; first | exact .inl ⟨(by first | exact (pdV_r (by omega)) | exact (pdV_0n hz (fun z => hm ((mk0 hv1 hv2).mpr z))) | exact (pdV_1n hz (fun z => hm ((mk1 hv1 hv2).mpr z)))), rfl, rfl⟩ | exact .inr ⟨(by first | exact (pdV_0 (by omega) hz ((mk0 hv1 hv2).mp hm)) | exact (pdV_1 (by omega) hz (by omega) ((mk1 hv1 hv2).mp hm))), rfl, d9, rfl, by omega, (fun k => by simp (disch := decide) only [qup_ne, qup_if]), (fun k => by simp (disch := decide) only [qup_ne, qup_if]), (fun k => by simp (disch := decide) only [qup_ne, qup_if]), fun q k h2 h3 h4 => by simp only [qup_ne h2, qup_ne h3, qup_ne h4]⟩
  · skip
    refine qG.blk 2 (pc' := 7) (ls' := [(2, 74), (0, d1), (0, s), (0, v), (0, b), (9, 0)]) (st' := [(0, 10), (0, d1)]) (w' := w) (n' := 142) rfl ?_
    refine qG.br (P := d1 < 10) (pc1 := 10) (pc2 := 19) (st1 := []) rfl (fun h2 => ?_) (fun h2 => ?_)
    · skip
      refine qG.blk 1 (pc' := 11) (ls' := [(2, 74), (0, d1), (0, s), (0, v), (0, b), (9, 0)]) (st' := [(0, s)]) (w' := w) (n' := 142) rfl ?_
      refine qG.br (P := s < 0) (pc1 := 19) (pc2 := 14) (st1 := []) rfl (fun h3 => ?_) (fun h3 => ?_)
      · skip
        refine qG.blk 1 (pc' := 20) (ls' := [(2, 74), (0, d1), (0, s), (0, v), (0, b), (9, 0)]) (st' := [(0, 0)]) (w' := w) (n' := 142) rfl ?_
        refine qG.ret rfl (by first | rfl | exact decide_eq_true (by omega)) ?_
        subst hQ9
        refine ⟨rfl, ?_⟩; first | exact .inl ⟨(by first | exact (pdV_r (by omega)) | exact (pdV_0n hz (fun z => hm ((mk0 hv1 hv2).mpr z))) | exact (pdV_1n hz (fun z => hm ((mk1 hv1 hv2).mpr z)))), rfl, rfl⟩ | exact .inr ⟨(by first | exact (pdV_0 (by omega) hz ((mk0 hv1 hv2).mp hm)) | exact (pdV_1 (by omega) hz (by omega) ((mk1 hv1 hv2).mp hm))), rfl, d9, rfl, by omega, (fun k => by simp (disch := decide) only [qup_ne, qup_if]), (fun k => by simp (disch := decide) only [qup_ne, qup_if]), (fun k => by simp (disch := decide) only [qup_ne, qup_if]), fun q k h2 h3 h4 => by simp only [qup_ne h2, qup_ne h3, qup_ne h4]⟩
      · skip
        refine qG.blk 2 (pc' := 16) (ls' := [(2, 74), (0, d1), (0, s), (0, v), (0, b), (9, 0)]) (st' := [(0, 1), (0, s)]) (w' := w) (n' := 142) rfl ?_
        refine qG.br (P := 1 < s) (pc1 := 19) (pc2 := 21) (st1 := []) rfl (fun h4 => ?_) (fun h4 => ?_)
        · skip
          refine qG.blk 1 (pc' := 20) (ls' := [(2, 74), (0, d1), (0, s), (0, v), (0, b), (9, 0)]) (st' := [(0, 0)]) (w' := w) (n' := 142) rfl ?_
          refine qG.ret rfl (by first | rfl | exact decide_eq_true (by omega)) ?_
          subst hQ9
          refine ⟨rfl, ?_⟩; first | exact .inl ⟨(by first | exact (pdV_r (by omega)) | exact (pdV_0n hz (fun z => hm ((mk0 hv1 hv2).mpr z))) | exact (pdV_1n hz (fun z => hm ((mk1 hv1 hv2).mpr z)))), rfl, rfl⟩ | exact .inr ⟨(by first | exact (pdV_0 (by omega) hz ((mk0 hv1 hv2).mp hm)) | exact (pdV_1 (by omega) hz (by omega) ((mk1 hv1 hv2).mp hm))), rfl, d9, rfl, by omega, (fun k => by simp (disch := decide) only [qup_ne, qup_if]), (fun k => by simp (disch := decide) only [qup_ne, qup_if]), (fun k => by simp (disch := decide) only [qup_ne, qup_if]), fun q k h2 h3 h4 => by simp only [qup_ne h2, qup_ne h3, qup_ne h4]⟩
        · skip
          refine qG.blk 1 (pc' := 22) (ls' := [(2, 74), (0, d1), (0, s), (0, v), (0, b), (9, 0)]) (st' := [(0, s)]) (w' := w) (n' := 142) rfl ?_
          obtain ⟨d9, rfl⟩ : ∃ n : Nat, d1 = (n : Int) := ⟨d1.toNat, by omega⟩
          refine qG.br (P := s = 0) (pc1 := 25) (pc2 := 31) (st1 := []) rfl (fun hz => ?_) (fun hz => ?_)
          · skip
            refine qG.blk 8 (pc' := 41) (ls' := [(2, 74), (0, ((d9 : Nat) : Int)), (0, s), (0, v), (0, b), (0, 255)]) (st' := [(0, qand v (qxor 255 (-1)))]) (w' := w) (n' := 142) rfl ?_
            refine qG.br (P := qand v (qxor 255 (-1)) = 0) (pc1 := 46) (pc2 := 44) (st1 := []) rfl (fun hm => ?_) (fun hm => ?_)
            · skip
              refine qG.blk 2 (pc' := 50) (ls' := [(2, 74), (0, ((d9 : Nat) : Int)), (0, s), (0, v), (0, b), (0, 255)]) (st' := [(2, w 74 3)]) (w' := w) (n' := 142) rfl ?_
              rw [show w 74 3 = 76 from zref hI rfl rfl]
              refine qG.blk 2 (pc' := 52) (ls' := [(2, 74), (0, ((d9 : Nat) : Int)), (0, s), (0, v), (0, b), (0, 255)]) (st' := [(0, s), (0, ((d9 : Nat) : Int)), (2, 76)]) (w' := w) (n' := 142) rfl ?_
              refine qG.ar (P := 0 ≤ ((d9 : Nat) : Int) ∧ ((d9 : Nat) : Int) < ((10 : Nat) : Int)) (P2 := 0 < (76 : Int) ∧ (76 : Int) ≤ ((142 : Nat) : Int)) (pc' := 53) (ls' := [(2, 74), (0, ((d9 : Nat) : Int)), (0, s), (0, v), (0, b), (0, 255)]) (st' := []) (w' := (qup w 76 d9 s)) (n' := 142) rfl (by omega) (by decide) ?_
              refine qG.blk 2 (pc' := 57) (ls' := [(2, 74), (0, ((d9 : Nat) : Int)), (0, s), (0, v), (0, b), (0, 255)]) (st' := [(2, w 74 4)]) (w' := (qup w 76 d9 s)) (n' := 142) rfl ?_
              rw [show w 74 4 = 77 from zref hI rfl rfl]
              refine qG.blk 2 (pc' := 59) (ls' := [(2, 74), (0, ((d9 : Nat) : Int)), (0, s), (0, v), (0, b), (0, 255)]) (st' := [(0, v), (0, ((d9 : Nat) : Int)), (2, 77)]) (w' := (qup w 76 d9 s)) (n' := 142) rfl ?_
              refine qG.ar (P := 0 ≤ ((d9 : Nat) : Int) ∧ ((d9 : Nat) : Int) < ((10 : Nat) : Int)) (P2 := 0 < (77 : Int) ∧ (77 : Int) ≤ ((142 : Nat) : Int)) (pc' := 60) (ls' := [(2, 74), (0, ((d9 : Nat) : Int)), (0, s), (0, v), (0, b), (0, 255)]) (st' := []) (w' := (qup (qup w 76 d9 s) 77 d9 v)) (n' := 142) rfl (by omega) (by decide) ?_
              refine qG.blk 2 (pc' := 64) (ls' := [(2, 74), (0, ((d9 : Nat) : Int)), (0, s), (0, v), (0, b), (0, 255)]) (st' := [(2, w 74 5)]) (w' := (qup (qup w 76 d9 s) 77 d9 v)) (n' := 142) rfl ?_
              rw [show w 74 5 = 78 from zref hI rfl rfl]
              refine qG.blk 2 (pc' := 67) (ls' := [(2, 74), (0, ((d9 : Nat) : Int)), (0, s), (0, v), (0, b), (0, 255)]) (st' := [(0, b), (0, ((d9 : Nat) : Int)), (2, 78)]) (w' := (qup (qup w 76 d9 s) 77 d9 v)) (n' := 142) rfl ?_
              refine qG.ar (P := (0 ≤ ((d9 : Nat) : Int) ∧ ((d9 : Nat) : Int) < ((10 : Nat) : Int)) ∧ 0 ≤ b ∧ b ≤ 1) (P2 := 0 < (78 : Int) ∧ (78 : Int) ≤ ((142 : Nat) : Int)) (pc' := 68) (ls' := [(2, 74), (0, ((d9 : Nat) : Int)), (0, s), (0, v), (0, b), (0, 255)]) (st' := []) (w' := (qup (qup (qup w 76 d9 s) 77 d9 v) 78 d9 b)) (n' := 142) rfl (by exact ⟨⟨by omega, by omega⟩, hb⟩) (by decide) ?_
              refine qG.blk 1 (pc' := 69) (ls' := [(2, 74), (0, ((d9 : Nat) : Int)), (0, s), (0, v), (0, b), (0, 255)]) (st' := [(0, 1)]) (w' := (qup (qup (qup w 76 d9 s) 77 d9 v) 78 d9 b)) (n' := 142) rfl ?_
              refine qG.ret rfl (by first | rfl | exact decide_eq_true (by omega)) ?_
              subst hQ9
              refine ⟨rfl, ?_⟩; first | exact .inl ⟨(by first | exact (pdV_r (by omega)) | exact (pdV_0n hz (fun z => hm ((mk0 hv1 hv2).mpr z))) | exact (pdV_1n hz (fun z => hm ((mk1 hv1 hv2).mpr z)))), rfl, rfl⟩ | exact .inr ⟨(by first | exact (pdV_0 (by omega) hz ((mk0 hv1 hv2).mp hm)) | exact (pdV_1 (by omega) hz (by omega) ((mk1 hv1 hv2).mp hm))), rfl, d9, rfl, by omega, (fun k => by simp (disch := decide) only [qup_ne, qup_if]), (fun k => by simp (disch := decide) only [qup_ne, qup_if]), (fun k => by simp (disch := decide) only [qup_ne, qup_if]), fun q k h2 h3 h4 => by simp only [qup_ne h2, qup_ne h3, qup_ne h4]⟩
            · skip
              refine qG.blk 1 (pc' := 45) (ls' := [(2, 74), (0, ((d9 : Nat) : Int)), (0, s), (0, v), (0, b), (0, 255)]) (st' := [(0, 0)]) (w' := w) (n' := 142) rfl ?_
              refine qG.ret rfl (by first | rfl | exact decide_eq_true (by omega)) ?_
              subst hQ9
              refine ⟨rfl, ?_⟩; first | exact .inl ⟨(by first | exact (pdV_r (by omega)) | exact (pdV_0n hz (fun z => hm ((mk0 hv1 hv2).mpr z))) | exact (pdV_1n hz (fun z => hm ((mk1 hv1 hv2).mpr z)))), rfl, rfl⟩ | exact .inr ⟨(by first | exact (pdV_0 (by omega) hz ((mk0 hv1 hv2).mp hm)) | exact (pdV_1 (by omega) hz (by omega) ((mk1 hv1 hv2).mp hm))), rfl, d9, rfl, by omega, (fun k => by simp (disch := decide) only [qup_ne, qup_if]), (fun k => by simp (disch := decide) only [qup_ne, qup_if]), (fun k => by simp (disch := decide) only [qup_ne, qup_if]), fun q k h2 h3 h4 => by simp only [qup_ne h2, qup_ne h3, qup_ne h4]⟩
          · skip
            refine qG.blk 7 (pc' := 41) (ls' := [(2, 74), (0, ((d9 : Nat) : Int)), (0, s), (0, v), (0, b), (0, 65280)]) (st' := [(0, qand v (qxor 65280 (-1)))]) (w' := w) (n' := 142) rfl ?_
            refine qG.br (P := qand v (qxor 65280 (-1)) = 0) (pc1 := 46) (pc2 := 44) (st1 := []) rfl (fun hm => ?_) (fun hm => ?_)
            · skip
              refine qG.blk 2 (pc' := 50) (ls' := [(2, 74), (0, ((d9 : Nat) : Int)), (0, s), (0, v), (0, b), (0, 65280)]) (st' := [(2, w 74 3)]) (w' := w) (n' := 142) rfl ?_
              rw [show w 74 3 = 76 from zref hI rfl rfl]
              refine qG.blk 2 (pc' := 52) (ls' := [(2, 74), (0, ((d9 : Nat) : Int)), (0, s), (0, v), (0, b), (0, 65280)]) (st' := [(0, s), (0, ((d9 : Nat) : Int)), (2, 76)]) (w' := w) (n' := 142) rfl ?_
              refine qG.ar (P := 0 ≤ ((d9 : Nat) : Int) ∧ ((d9 : Nat) : Int) < ((10 : Nat) : Int)) (P2 := 0 < (76 : Int) ∧ (76 : Int) ≤ ((142 : Nat) : Int)) (pc' := 53) (ls' := [(2, 74), (0, ((d9 : Nat) : Int)), (0, s), (0, v), (0, b), (0, 65280)]) (st' := []) (w' := (qup w 76 d9 s)) (n' := 142) rfl (by omega) (by decide) ?_
              refine qG.blk 2 (pc' := 57) (ls' := [(2, 74), (0, ((d9 : Nat) : Int)), (0, s), (0, v), (0, b), (0, 65280)]) (st' := [(2, w 74 4)]) (w' := (qup w 76 d9 s)) (n' := 142) rfl ?_
              rw [show w 74 4 = 77 from zref hI rfl rfl]
              refine qG.blk 2 (pc' := 59) (ls' := [(2, 74), (0, ((d9 : Nat) : Int)), (0, s), (0, v), (0, b), (0, 65280)]) (st' := [(0, v), (0, ((d9 : Nat) : Int)), (2, 77)]) (w' := (qup w 76 d9 s)) (n' := 142) rfl ?_
              refine qG.ar (P := 0 ≤ ((d9 : Nat) : Int) ∧ ((d9 : Nat) : Int) < ((10 : Nat) : Int)) (P2 := 0 < (77 : Int) ∧ (77 : Int) ≤ ((142 : Nat) : Int)) (pc' := 60) (ls' := [(2, 74), (0, ((d9 : Nat) : Int)), (0, s), (0, v), (0, b), (0, 65280)]) (st' := []) (w' := (qup (qup w 76 d9 s) 77 d9 v)) (n' := 142) rfl (by omega) (by decide) ?_
              refine qG.blk 2 (pc' := 64) (ls' := [(2, 74), (0, ((d9 : Nat) : Int)), (0, s), (0, v), (0, b), (0, 65280)]) (st' := [(2, w 74 5)]) (w' := (qup (qup w 76 d9 s) 77 d9 v)) (n' := 142) rfl ?_
              rw [show w 74 5 = 78 from zref hI rfl rfl]
              refine qG.blk 2 (pc' := 67) (ls' := [(2, 74), (0, ((d9 : Nat) : Int)), (0, s), (0, v), (0, b), (0, 65280)]) (st' := [(0, b), (0, ((d9 : Nat) : Int)), (2, 78)]) (w' := (qup (qup w 76 d9 s) 77 d9 v)) (n' := 142) rfl ?_
              refine qG.ar (P := (0 ≤ ((d9 : Nat) : Int) ∧ ((d9 : Nat) : Int) < ((10 : Nat) : Int)) ∧ 0 ≤ b ∧ b ≤ 1) (P2 := 0 < (78 : Int) ∧ (78 : Int) ≤ ((142 : Nat) : Int)) (pc' := 68) (ls' := [(2, 74), (0, ((d9 : Nat) : Int)), (0, s), (0, v), (0, b), (0, 65280)]) (st' := []) (w' := (qup (qup (qup w 76 d9 s) 77 d9 v) 78 d9 b)) (n' := 142) rfl (by exact ⟨⟨by omega, by omega⟩, hb⟩) (by decide) ?_
              refine qG.blk 1 (pc' := 69) (ls' := [(2, 74), (0, ((d9 : Nat) : Int)), (0, s), (0, v), (0, b), (0, 65280)]) (st' := [(0, 1)]) (w' := (qup (qup (qup w 76 d9 s) 77 d9 v) 78 d9 b)) (n' := 142) rfl ?_
              refine qG.ret rfl (by first | rfl | exact decide_eq_true (by omega)) ?_
              subst hQ9
              refine ⟨rfl, ?_⟩; first | exact .inl ⟨(by first | exact (pdV_r (by omega)) | exact (pdV_0n hz (fun z => hm ((mk0 hv1 hv2).mpr z))) | exact (pdV_1n hz (fun z => hm ((mk1 hv1 hv2).mpr z)))), rfl, rfl⟩ | exact .inr ⟨(by first | exact (pdV_0 (by omega) hz ((mk0 hv1 hv2).mp hm)) | exact (pdV_1 (by omega) hz (by omega) ((mk1 hv1 hv2).mp hm))), rfl, d9, rfl, by omega, (fun k => by simp (disch := decide) only [qup_ne, qup_if]), (fun k => by simp (disch := decide) only [qup_ne, qup_if]), (fun k => by simp (disch := decide) only [qup_ne, qup_if]), fun q k h2 h3 h4 => by simp only [qup_ne h2, qup_ne h3, qup_ne h4]⟩
            · skip
              refine qG.blk 1 (pc' := 45) (ls' := [(2, 74), (0, ((d9 : Nat) : Int)), (0, s), (0, v), (0, b), (0, 65280)]) (st' := [(0, 0)]) (w' := w) (n' := 142) rfl ?_
              refine qG.ret rfl (by first | rfl | exact decide_eq_true (by omega)) ?_
              subst hQ9
              refine ⟨rfl, ?_⟩; first | exact .inl ⟨(by first | exact (pdV_r (by omega)) | exact (pdV_0n hz (fun z => hm ((mk0 hv1 hv2).mpr z))) | exact (pdV_1n hz (fun z => hm ((mk1 hv1 hv2).mpr z)))), rfl, rfl⟩ | exact .inr ⟨(by first | exact (pdV_0 (by omega) hz ((mk0 hv1 hv2).mp hm)) | exact (pdV_1 (by omega) hz (by omega) ((mk1 hv1 hv2).mp hm))), rfl, d9, rfl, by omega, (fun k => by simp (disch := decide) only [qup_ne, qup_if]), (fun k => by simp (disch := decide) only [qup_ne, qup_if]), (fun k => by simp (disch := decide) only [qup_ne, qup_if]), fun q k h2 h3 h4 => by simp only [qup_ne h2, qup_ne h3, qup_ne h4]⟩
    · skip
      refine qG.blk 1 (pc' := 20) (ls' := [(2, 74), (0, d1), (0, s), (0, v), (0, b), (9, 0)]) (st' := [(0, 0)]) (w' := w) (n' := 142) rfl ?_
      refine qG.ret rfl (by first | rfl | exact decide_eq_true (by omega)) ?_
      subst hQ9
      refine ⟨rfl, ?_⟩; first | exact .inl ⟨(by first | exact (pdV_r (by omega)) | exact (pdV_0n hz (fun z => hm ((mk0 hv1 hv2).mpr z))) | exact (pdV_1n hz (fun z => hm ((mk1 hv1 hv2).mpr z)))), rfl, rfl⟩ | exact .inr ⟨(by first | exact (pdV_0 (by omega) hz ((mk0 hv1 hv2).mp hm)) | exact (pdV_1 (by omega) hz (by omega) ((mk1 hv1 hv2).mp hm))), rfl, d9, rfl, by omega, (fun k => by simp (disch := decide) only [qup_ne, qup_if]), (fun k => by simp (disch := decide) only [qup_ne, qup_if]), (fun k => by simp (disch := decide) only [qup_ne, qup_if]), fun q k h2 h3 h4 => by simp only [qup_ne h2, qup_ne h3, qup_ne h4]⟩
theorem K_X11_door2_0 {d : Nat} (hd : 1 ≤ d) (d1 s v b : Int) (hv1 : -2147483648 ≤ v) (hv2 : v ≤ 2147483647) (hb : 0 ≤ b ∧ b ≤ 1) (w : qW) (hI : yInv zgf zga zra zSp w) : qG none d 166 0 [(2, 1), (0, 0), (0, d1), (0, s), (0, v), (0, b)] [] w 142 (fun (r : qV) (w1 : qW) (_ : Nat) => dr2X 0 d1 s v b w r w1) := by
  generalize hQ9 : (fun (r : qV) (w1 : qW) (_ : Nat) => dr2X 0 d1 s v b w r w1) = Q9
  obtain ⟨d, rfl⟩ : ∃ d9, d = d9 + 1 := ⟨d - 1, by omega⟩
  refine qG.blk 1 (pc' := 1) (ls' := [(2, 1), (0, 0), (0, d1), (0, s), (0, v), (0, b)]) (st' := [(0, 0)]) (w' := w) (n' := 142) rfl ?_
  refine qG.call (t := 198) (na := 1) (sk := 0) (md := 0) (ls1 := [(0, 0)]) (r1 := []) rfl rfl rfl rfl rfl (K_X11_isChest (Nat.zero_le _) _ _) ?_
  rintro _ w7 _ ⟨rfl, hw7, rfl⟩
  rw [hw7, show isInV 0 0 2 = 1 from by decide]
  show qG none (d + 1) 166 4 [(2, 1), (0, 0), (0, d1), (0, s), (0, v), (0, b)] [(0, 1)] w 142 Q9
  refine qG.br (P := (1 : Int) = 0) (pc1 := 29) (pc2 := 7) (st1 := []) rfl (fun h1 => ?_) (fun h1 => ?_)
  · exact absurd h1 (by decide)
  · skip
    refine qG.blk 2 (pc' := 11) (ls' := [(2, 1), (0, 0), (0, d1), (0, s), (0, v), (0, b)]) (st' := [(2, w 1 0)]) (w' := w) (n' := 142) rfl ?_
    rw [show w 1 0 = 2 from zref hI rfl rfl]
    refine qG.blk 1 (pc' := 12) (ls' := [(2, 1), (0, 0), (0, d1), (0, s), (0, v), (0, b)]) (st' := [(0, 0), (2, 2)]) (w' := w) (n' := 142) rfl ?_
    refine qG.ar (P := 0 ≤ 0 ∧ 0 < ((3 : Nat) : Int)) (P2 := 0 < (2 : Int) ∧ (2 : Int) ≤ ((142 : Nat) : Int)) (pc' := 13) (ls' := [(2, 1), (0, 0), (0, d1), (0, s), (0, v), (0, b)]) (st' := [(2, w 2 0)]) (w' := w) (n' := 142) rfl (by omega) (by decide) ?_
    rw [show w 2 0 = 64 from zref hI rfl rfl]
    refine qG.blk 4 (pc' := 19) (ls' := [(2, 1), (0, 0), (0, d1), (0, s), (0, v), (0, b)]) (st' := [(0, b), (0, v), (0, s), (0, d1), (2, 64)]) (w' := w) (n' := 142) rfl ?_
    refine qG.call (t := 22) (na := 5) (sk := 1) (md := 1) (ls1 := [(2, 64), (0, d1), (0, s), (0, v), (0, b), (9, 0)]) (r1 := []) rfl rfl rfl rfl rfl (K_putDoor264 (Nat.zero_le _) d1 s v b hv1 hv2 hb w hI) ?_
    rintro ⟨_, x9⟩ w1 _ ⟨rfl, hE⟩; rcases hE with ⟨h9, hx9, hw1⟩ | ⟨h9, hx9, hE⟩ <;> obtain ⟨rfl, rfl⟩ := Prod.mk.inj hx9
    · skip
      show qG none (d + 1) 166 22 [(2, 1), (0, 0), (0, d1), (0, s), (0, v), (0, b)] [(0, 0)] w1 142 Q9
      refine qG.br (P := (0 : Int) = 0) (pc1 := 29) (pc2 := 25) (st1 := []) rfl (fun h2 => ?_) (fun h2 => ?_)
      · skip
        refine qG.blk 1 (pc' := 30) (ls' := [(2, 1), (0, 0), (0, d1), (0, s), (0, v), (0, b)]) (st' := [(0, 0)]) (w' := w1) (n' := 142) rfl ?_
        refine qG.ret rfl (by first | rfl | exact decide_eq_true (by omega)) ?_
        subst hQ9
        first | exact .inl ⟨h9, rfl, hw1⟩ | (obtain ⟨d9, e1, e2, e3⟩ := hE; exact .inr ⟨h9, rfl, 0, d9, rfl, e1, by decide, e2, e3⟩)
      · exact absurd h2 (by decide)
    · skip
      show qG none (d + 1) 166 22 [(2, 1), (0, 0), (0, d1), (0, s), (0, v), (0, b)] [(0, 1)] w1 142 Q9
      refine qG.br (P := (1 : Int) = 0) (pc1 := 29) (pc2 := 25) (st1 := []) rfl (fun h3 => ?_) (fun h3 => ?_)
      · exact absurd h3 (by decide)
      · skip
        refine qG.blk 2 (pc' := 30) (ls' := [(2, 1), (0, 0), (0, d1), (0, s), (0, v), (0, b)]) (st' := [(0, 1)]) (w' := w1) (n' := 142) rfl ?_
        refine qG.ret rfl (by first | rfl | exact decide_eq_true (by omega)) ?_
        subst hQ9
        first | exact .inl ⟨h9, rfl, hw1⟩ | (obtain ⟨d9, e1, e2, e3⟩ := hE; exact .inr ⟨h9, rfl, 0, d9, rfl, e1, by decide, e2, e3⟩)
theorem K_X11_door2_1 {d : Nat} (hd : 1 ≤ d) (d1 s v b : Int) (hv1 : -2147483648 ≤ v) (hv2 : v ≤ 2147483647) (hb : 0 ≤ b ∧ b ≤ 1) (w : qW) (hI : yInv zgf zga zra zSp w) : qG none d 166 0 [(2, 1), (0, 1), (0, d1), (0, s), (0, v), (0, b)] [] w 142 (fun (r : qV) (w1 : qW) (_ : Nat) => dr2X 1 d1 s v b w r w1) := by
  generalize hQ9 : (fun (r : qV) (w1 : qW) (_ : Nat) => dr2X 1 d1 s v b w r w1) = Q9
  obtain ⟨d, rfl⟩ : ∃ d9, d = d9 + 1 := ⟨d - 1, by omega⟩
  refine qG.blk 1 (pc' := 1) (ls' := [(2, 1), (0, 1), (0, d1), (0, s), (0, v), (0, b)]) (st' := [(0, 1)]) (w' := w) (n' := 142) rfl ?_
  refine qG.call (t := 198) (na := 1) (sk := 0) (md := 0) (ls1 := [(0, 1)]) (r1 := []) rfl rfl rfl rfl rfl (K_X11_isChest (Nat.zero_le _) _ _) ?_
  rintro _ w7 _ ⟨rfl, hw7, rfl⟩
  rw [hw7, show isInV 1 0 2 = 1 from by decide]
  show qG none (d + 1) 166 4 [(2, 1), (0, 1), (0, d1), (0, s), (0, v), (0, b)] [(0, 1)] w 142 Q9
  refine qG.br (P := (1 : Int) = 0) (pc1 := 29) (pc2 := 7) (st1 := []) rfl (fun h1 => ?_) (fun h1 => ?_)
  · exact absurd h1 (by decide)
  · skip
    refine qG.blk 2 (pc' := 11) (ls' := [(2, 1), (0, 1), (0, d1), (0, s), (0, v), (0, b)]) (st' := [(2, w 1 0)]) (w' := w) (n' := 142) rfl ?_
    rw [show w 1 0 = 2 from zref hI rfl rfl]
    refine qG.blk 1 (pc' := 12) (ls' := [(2, 1), (0, 1), (0, d1), (0, s), (0, v), (0, b)]) (st' := [(0, 1), (2, 2)]) (w' := w) (n' := 142) rfl ?_
    refine qG.ar (P := 0 ≤ 1 ∧ 1 < ((3 : Nat) : Int)) (P2 := 0 < (2 : Int) ∧ (2 : Int) ≤ ((142 : Nat) : Int)) (pc' := 13) (ls' := [(2, 1), (0, 1), (0, d1), (0, s), (0, v), (0, b)]) (st' := [(2, w 2 1)]) (w' := w) (n' := 142) rfl (by omega) (by decide) ?_
    rw [show w 2 1 = 69 from zref hI rfl rfl]
    refine qG.blk 4 (pc' := 19) (ls' := [(2, 1), (0, 1), (0, d1), (0, s), (0, v), (0, b)]) (st' := [(0, b), (0, v), (0, s), (0, d1), (2, 69)]) (w' := w) (n' := 142) rfl ?_
    refine qG.call (t := 22) (na := 5) (sk := 1) (md := 1) (ls1 := [(2, 69), (0, d1), (0, s), (0, v), (0, b), (9, 0)]) (r1 := []) rfl rfl rfl rfl rfl (K_putDoor269 (Nat.zero_le _) d1 s v b hv1 hv2 hb w hI) ?_
    rintro ⟨_, x9⟩ w1 _ ⟨rfl, hE⟩; rcases hE with ⟨h9, hx9, hw1⟩ | ⟨h9, hx9, hE⟩ <;> obtain ⟨rfl, rfl⟩ := Prod.mk.inj hx9
    · skip
      show qG none (d + 1) 166 22 [(2, 1), (0, 1), (0, d1), (0, s), (0, v), (0, b)] [(0, 0)] w1 142 Q9
      refine qG.br (P := (0 : Int) = 0) (pc1 := 29) (pc2 := 25) (st1 := []) rfl (fun h2 => ?_) (fun h2 => ?_)
      · skip
        refine qG.blk 1 (pc' := 30) (ls' := [(2, 1), (0, 1), (0, d1), (0, s), (0, v), (0, b)]) (st' := [(0, 0)]) (w' := w1) (n' := 142) rfl ?_
        refine qG.ret rfl (by first | rfl | exact decide_eq_true (by omega)) ?_
        subst hQ9
        first | exact .inl ⟨h9, rfl, hw1⟩ | (obtain ⟨d9, e1, e2, e3⟩ := hE; exact .inr ⟨h9, rfl, 1, d9, rfl, e1, by decide, e2, e3⟩)
      · exact absurd h2 (by decide)
    · skip
      show qG none (d + 1) 166 22 [(2, 1), (0, 1), (0, d1), (0, s), (0, v), (0, b)] [(0, 1)] w1 142 Q9
      refine qG.br (P := (1 : Int) = 0) (pc1 := 29) (pc2 := 25) (st1 := []) rfl (fun h3 => ?_) (fun h3 => ?_)
      · exact absurd h3 (by decide)
      · skip
        refine qG.blk 2 (pc' := 30) (ls' := [(2, 1), (0, 1), (0, d1), (0, s), (0, v), (0, b)]) (st' := [(0, 1)]) (w' := w1) (n' := 142) rfl ?_
        refine qG.ret rfl (by first | rfl | exact decide_eq_true (by omega)) ?_
        subst hQ9
        first | exact .inl ⟨h9, rfl, hw1⟩ | (obtain ⟨d9, e1, e2, e3⟩ := hE; exact .inr ⟨h9, rfl, 1, d9, rfl, e1, by decide, e2, e3⟩)
theorem K_X11_door2_2 {d : Nat} (hd : 1 ≤ d) (d1 s v b : Int) (hv1 : -2147483648 ≤ v) (hv2 : v ≤ 2147483647) (hb : 0 ≤ b ∧ b ≤ 1) (w : qW) (hI : yInv zgf zga zra zSp w) : qG none d 166 0 [(2, 1), (0, 2), (0, d1), (0, s), (0, v), (0, b)] [] w 142 (fun (r : qV) (w1 : qW) (_ : Nat) => dr2X 2 d1 s v b w r w1) := by
  generalize hQ9 : (fun (r : qV) (w1 : qW) (_ : Nat) => dr2X 2 d1 s v b w r w1) = Q9
  obtain ⟨d, rfl⟩ : ∃ d9, d = d9 + 1 := ⟨d - 1, by omega⟩
  refine qG.blk 1 (pc' := 1) (ls' := [(2, 1), (0, 2), (0, d1), (0, s), (0, v), (0, b)]) (st' := [(0, 2)]) (w' := w) (n' := 142) rfl ?_
  refine qG.call (t := 198) (na := 1) (sk := 0) (md := 0) (ls1 := [(0, 2)]) (r1 := []) rfl rfl rfl rfl rfl (K_X11_isChest (Nat.zero_le _) _ _) ?_
  rintro _ w7 _ ⟨rfl, hw7, rfl⟩
  rw [hw7, show isInV 2 0 2 = 1 from by decide]
  show qG none (d + 1) 166 4 [(2, 1), (0, 2), (0, d1), (0, s), (0, v), (0, b)] [(0, 1)] w 142 Q9
  refine qG.br (P := (1 : Int) = 0) (pc1 := 29) (pc2 := 7) (st1 := []) rfl (fun h1 => ?_) (fun h1 => ?_)
  · exact absurd h1 (by decide)
  · skip
    refine qG.blk 2 (pc' := 11) (ls' := [(2, 1), (0, 2), (0, d1), (0, s), (0, v), (0, b)]) (st' := [(2, w 1 0)]) (w' := w) (n' := 142) rfl ?_
    rw [show w 1 0 = 2 from zref hI rfl rfl]
    refine qG.blk 1 (pc' := 12) (ls' := [(2, 1), (0, 2), (0, d1), (0, s), (0, v), (0, b)]) (st' := [(0, 2), (2, 2)]) (w' := w) (n' := 142) rfl ?_
    refine qG.ar (P := 0 ≤ 2 ∧ 2 < ((3 : Nat) : Int)) (P2 := 0 < (2 : Int) ∧ (2 : Int) ≤ ((142 : Nat) : Int)) (pc' := 13) (ls' := [(2, 1), (0, 2), (0, d1), (0, s), (0, v), (0, b)]) (st' := [(2, w 2 2)]) (w' := w) (n' := 142) rfl (by omega) (by decide) ?_
    rw [show w 2 2 = 74 from zref hI rfl rfl]
    refine qG.blk 4 (pc' := 19) (ls' := [(2, 1), (0, 2), (0, d1), (0, s), (0, v), (0, b)]) (st' := [(0, b), (0, v), (0, s), (0, d1), (2, 74)]) (w' := w) (n' := 142) rfl ?_
    refine qG.call (t := 22) (na := 5) (sk := 1) (md := 1) (ls1 := [(2, 74), (0, d1), (0, s), (0, v), (0, b), (9, 0)]) (r1 := []) rfl rfl rfl rfl rfl (K_putDoor274 (Nat.zero_le _) d1 s v b hv1 hv2 hb w hI) ?_
    rintro ⟨_, x9⟩ w1 _ ⟨rfl, hE⟩; rcases hE with ⟨h9, hx9, hw1⟩ | ⟨h9, hx9, hE⟩ <;> obtain ⟨rfl, rfl⟩ := Prod.mk.inj hx9
    · skip
      show qG none (d + 1) 166 22 [(2, 1), (0, 2), (0, d1), (0, s), (0, v), (0, b)] [(0, 0)] w1 142 Q9
      refine qG.br (P := (0 : Int) = 0) (pc1 := 29) (pc2 := 25) (st1 := []) rfl (fun h2 => ?_) (fun h2 => ?_)
      · skip
        refine qG.blk 1 (pc' := 30) (ls' := [(2, 1), (0, 2), (0, d1), (0, s), (0, v), (0, b)]) (st' := [(0, 0)]) (w' := w1) (n' := 142) rfl ?_
        refine qG.ret rfl (by first | rfl | exact decide_eq_true (by omega)) ?_
        subst hQ9
        first | exact .inl ⟨h9, rfl, hw1⟩ | (obtain ⟨d9, e1, e2, e3⟩ := hE; exact .inr ⟨h9, rfl, 2, d9, rfl, e1, by decide, e2, e3⟩)
      · exact absurd h2 (by decide)
    · skip
      show qG none (d + 1) 166 22 [(2, 1), (0, 2), (0, d1), (0, s), (0, v), (0, b)] [(0, 1)] w1 142 Q9
      refine qG.br (P := (1 : Int) = 0) (pc1 := 29) (pc2 := 25) (st1 := []) rfl (fun h3 => ?_) (fun h3 => ?_)
      · exact absurd h3 (by decide)
      · skip
        refine qG.blk 2 (pc' := 30) (ls' := [(2, 1), (0, 2), (0, d1), (0, s), (0, v), (0, b)]) (st' := [(0, 1)]) (w' := w1) (n' := 142) rfl ?_
        refine qG.ret rfl (by first | rfl | exact decide_eq_true (by omega)) ?_
        subst hQ9
        first | exact .inl ⟨h9, rfl, hw1⟩ | (obtain ⟨d9, e1, e2, e3⟩ := hE; exact .inr ⟨h9, rfl, 2, d9, rfl, e1, by decide, e2, e3⟩)
theorem K_X11_door2_n {d : Nat} (hd : 1 ≤ d) (c d1 s v b : Int) (hc : isInV c 0 2 = 0) (hv1 : -2147483648 ≤ v) (hv2 : v ≤ 2147483647) (hb : 0 ≤ b ∧ b ≤ 1) (w : qW) (hI : yInv zgf zga zra zSp w) : qG none d 166 0 [(2, 1), (0, c), (0, d1), (0, s), (0, v), (0, b)] [] w 142 (fun (r : qV) (w1 : qW) (_ : Nat) => dr2X c d1 s v b w r w1) := by
  generalize hQ9 : (fun (r : qV) (w1 : qW) (_ : Nat) => dr2X c d1 s v b w r w1) = Q9
  obtain ⟨d, rfl⟩ : ∃ d9, d = d9 + 1 := ⟨d - 1, by omega⟩
  refine qG.blk 1 (pc' := 1) (ls' := [(2, 1), (0, c), (0, d1), (0, s), (0, v), (0, b)]) (st' := [(0, c)]) (w' := w) (n' := 142) rfl ?_
  refine qG.call (t := 198) (na := 1) (sk := 0) (md := 0) (ls1 := [(0, c)]) (r1 := []) rfl rfl rfl rfl rfl (K_X11_isChest (Nat.zero_le _) _ _) ?_
  rintro _ w7 _ ⟨rfl, hw7, rfl⟩
  rw [hw7]
  show qG none (d + 1) 166 4 [(2, 1), (0, c), (0, d1), (0, s), (0, v), (0, b)] [(0, isInV c 0 2)] w 142 Q9
  refine qG.br (P := isInV c 0 2 = 0) (pc1 := 29) (pc2 := 7) (st1 := []) rfl (fun hc0 => ?_) (fun hc0 => ?_)
  · skip
    refine qG.blk 1 (pc' := 30) (ls' := [(2, 1), (0, c), (0, d1), (0, s), (0, v), (0, b)]) (st' := [(0, 0)]) (w' := w) (n' := 142) rfl ?_
    refine qG.ret rfl (by first | rfl | exact decide_eq_true (by omega)) ?_
    subst hQ9
    exact .inl ⟨if_pos hc, rfl, rfl⟩
  · exfalso; exact hc0 hc
theorem K_X11_door2 {d : Nat} (hd : 1 ≤ d) (c d1 s v b : Int) (hv1 : -2147483648 ≤ v) (hv2 : v ≤ 2147483647) (hb : 0 ≤ b ∧ b ≤ 1) (w : qW) (hI : yInv zgf zga zra zSp w) : qG none d 166 0 (qini 166 [(2, 1), (0, c), (0, d1), (0, s), (0, v), (0, b)]) [] w 142 (fun (r : qV) (w1 : qW) (_ : Nat) => dr2X c d1 s v b w r w1) := by
  by_cases h : isInV c 0 2 = 0
  · exact K_X11_door2_n hd c d1 s v b h hv1 hv2 hb w hI
  · obtain ⟨n, rfl, h1, h2⟩ := isIn_n (by decide) h
    rcases (show n = 0 ∨ n = 1 ∨ n = 2 by omega) with rfl | rfl | rfl
    · exact K_X11_door2_0 hd d1 s v b hv1 hv2 hb w hI
    · exact K_X11_door2_1 hd d1 s v b hv1 hv2 hb w hI
    · exact K_X11_door2_2 hd d1 s v b hv1 hv2 hb w hI
theorem K_X12_door2 {d : Nat} (hd : 2 ≤ d) (c d1 s v b : Int) (hv1 : -2147483648 ≤ v) (hv2 : v ≤ 2147483647) (hb : 0 ≤ b ∧ b ≤ 1) (w : qW) (hI : yInv zgf zga zra zSp w) : qG none d 217 0 [(2, 95), (0, c), (0, d1), (0, s), (0, v), (0, b)] [] w 142 (fun (r : qV) (w1 : qW) (_ : Nat) => dr2R c d1 s v b w r w1) := by
  generalize hQ9 : (fun (r : qV) (w1 : qW) (_ : Nat) => dr2R c d1 s v b w r w1) = Q9
  obtain ⟨d, rfl⟩ : ∃ d9, d = d9 + 1 := ⟨d - 1, by omega⟩
  refine qG.blk 1 (pc' := 1) (ls' := [(2, 95), (0, c), (0, d1), (0, s), (0, v), (0, b)]) (st' := [(0, c)]) (w' := w) (n' := 142) rfl ?_
  refine qG.call (t := 207) (na := 1) (sk := 0) (md := 0) (ls1 := [(0, c)]) (r1 := []) rfl rfl rfl rfl rfl (K_isChest (by omega) _ _) ?_
  rintro _ w7 _ ⟨rfl, hw7, rfl⟩
  rw [hw7]
  show qG none (d + 1) 217 4 [(2, 95), (0, c), (0, d1), (0, s), (0, v), (0, b)] [(0, isInV c 0 2)] w 142 Q9
  refine qG.br (P := isInV c 0 2 = 0) (pc1 := 52) (pc2 := 7) (st1 := []) rfl (fun hc0 => ?_) (fun hc0 => ?_)
  · skip
    refine qG.blk 1 (pc' := 53) (ls' := [(2, 95), (0, c), (0, d1), (0, s), (0, v), (0, b)]) (st' := [(0, 0)]) (w' := w) (n' := 142) rfl ?_
    refine qG.ret rfl (by first | rfl | exact decide_eq_true (by omega)) ?_
    subst hQ9
    first | exact .inl ⟨(by unfold doorV; first | (rw [if_pos hc0]; done) | (rw [if_neg hc0, pdV_r (by rw [isIn_b] at hd0; omega)]; done) | (rw [if_neg hc0, pdV_r (by rw [isIn_b] at hs0; omega)]; done) | (rw [if_neg hc0]; rw [isIn_b] at hv0; by_cases q : s = 0; exact (pdV_0n q (fun z => hv0 z.1)); exact (pdV_1n q (fun z => hv0 z.1))) | (rw [if_neg hc0]; rw [isIn_b] at hs0 hv0; first | exact (pdV_0n hz (fun z => hm z.2)) | exact (pdV_1n hz (fun z => hm z.2)))), rfl, rfl⟩ | exact .inr ⟨(by unfold doorV; rw [if_neg hc0]; rw [isIn_b] at hs0 hv0; first | exact (pdV_0 (by omega) hz ⟨by omega, hm⟩) | exact (pdV_1 (by omega) hz (by omega) ⟨by omega, hm⟩)), (by rw [isIn_b] at hs0 hv0; refine ⟨by omega, ?_⟩; first | exact .inl ⟨hz, hm⟩ | exact .inr ⟨by omega, hm⟩), rfl, c9, d9, rfl, rfl, by omega, by omega, (fun k => by simp (disch := decide) only [qup_ne, qup_if]), (fun k => by simp (disch := decide) only [qup_ne, qup_if]), (fun k => by simp (disch := decide) only [qup_ne, qup_if]), fun q k h2 h3 h4 => by simp only [qup_ne h2, qup_ne h3, qup_ne h4]⟩
  · skip
    obtain ⟨c9, rfl, hlc9, huc9⟩ := isIn_n (by decide) hc0
    refine qG.blk 3 (pc' := 11) (ls' := [(2, 95), (0, ((c9 : Nat) : Int)), (0, d1), (0, s), (0, v), (0, b)]) (st' := [(0, 9), (0, 0), (0, d1)]) (w' := w) (n' := 142) rfl ?_
    refine qG.call (t := 206) (na := 3) (sk := 0) (md := 0) (ls1 := [(0, d1), (0, 0), (0, 9)]) (r1 := []) rfl rfl rfl rfl rfl (K_isIn (Nat.zero_le _) _ _ _ _) ?_
    rintro _ w7 _ ⟨rfl, hw7, rfl⟩
    rw [hw7]
    show qG none (d + 1) 217 14 [(2, 95), (0, ((c9 : Nat) : Int)), (0, d1), (0, s), (0, v), (0, b)] [(0, isInV (d1) (0) (9))] w 142 Q9
    refine qG.br (P := isInV (d1) (0) (9) = 0) (pc1 := 52) (pc2 := 17) (st1 := []) rfl (fun hd0 => ?_) (fun hd0 => ?_)
    · skip
      refine qG.blk 1 (pc' := 53) (ls' := [(2, 95), (0, ((c9 : Nat) : Int)), (0, d1), (0, s), (0, v), (0, b)]) (st' := [(0, 0)]) (w' := w) (n' := 142) rfl ?_
      refine qG.ret rfl (by first | rfl | exact decide_eq_true (by omega)) ?_
      subst hQ9
      first | exact .inl ⟨(by unfold doorV; first | (rw [if_pos hc0]; done) | (rw [if_neg hc0, pdV_r (by rw [isIn_b] at hd0; omega)]; done) | (rw [if_neg hc0, pdV_r (by rw [isIn_b] at hs0; omega)]; done) | (rw [if_neg hc0]; rw [isIn_b] at hv0; by_cases q : s = 0; exact (pdV_0n q (fun z => hv0 z.1)); exact (pdV_1n q (fun z => hv0 z.1))) | (rw [if_neg hc0]; rw [isIn_b] at hs0 hv0; first | exact (pdV_0n hz (fun z => hm z.2)) | exact (pdV_1n hz (fun z => hm z.2)))), rfl, rfl⟩ | exact .inr ⟨(by unfold doorV; rw [if_neg hc0]; rw [isIn_b] at hs0 hv0; first | exact (pdV_0 (by omega) hz ⟨by omega, hm⟩) | exact (pdV_1 (by omega) hz (by omega) ⟨by omega, hm⟩)), (by rw [isIn_b] at hs0 hv0; refine ⟨by omega, ?_⟩; first | exact .inl ⟨hz, hm⟩ | exact .inr ⟨by omega, hm⟩), rfl, c9, d9, rfl, rfl, by omega, by omega, (fun k => by simp (disch := decide) only [qup_ne, qup_if]), (fun k => by simp (disch := decide) only [qup_ne, qup_if]), (fun k => by simp (disch := decide) only [qup_ne, qup_if]), fun q k h2 h3 h4 => by simp only [qup_ne h2, qup_ne h3, qup_ne h4]⟩
    · skip
      obtain ⟨d9, rfl, hld9, hud9⟩ := isIn_n (by decide) hd0
      refine qG.blk 3 (pc' := 20) (ls' := [(2, 95), (0, ((c9 : Nat) : Int)), (0, ((d9 : Nat) : Int)), (0, s), (0, v), (0, b)]) (st' := [(0, 1), (0, 0), (0, s)]) (w' := w) (n' := 142) rfl ?_
      refine qG.call (t := 206) (na := 3) (sk := 0) (md := 0) (ls1 := [(0, s), (0, 0), (0, 1)]) (r1 := []) rfl rfl rfl rfl rfl (K_isIn (Nat.zero_le _) _ _ _ _) ?_
      rintro _ w7 _ ⟨rfl, hw7, rfl⟩
      rw [hw7]
      show qG none (d + 1) 217 23 [(2, 95), (0, ((c9 : Nat) : Int)), (0, ((d9 : Nat) : Int)), (0, s), (0, v), (0, b)] [(0, isInV (s) (0) (1))] w 142 Q9
      refine qG.br (P := isInV (s) (0) (1) = 0) (pc1 := 52) (pc2 := 26) (st1 := []) rfl (fun hs0 => ?_) (fun hs0 => ?_)
      · skip
        refine qG.blk 1 (pc' := 53) (ls' := [(2, 95), (0, ((c9 : Nat) : Int)), (0, ((d9 : Nat) : Int)), (0, s), (0, v), (0, b)]) (st' := [(0, 0)]) (w' := w) (n' := 142) rfl ?_
        refine qG.ret rfl (by first | rfl | exact decide_eq_true (by omega)) ?_
        subst hQ9
        first | exact .inl ⟨(by unfold doorV; first | (rw [if_pos hc0]; done) | (rw [if_neg hc0, pdV_r (by rw [isIn_b] at hd0; omega)]; done) | (rw [if_neg hc0, pdV_r (by rw [isIn_b] at hs0; omega)]; done) | (rw [if_neg hc0]; rw [isIn_b] at hv0; by_cases q : s = 0; exact (pdV_0n q (fun z => hv0 z.1)); exact (pdV_1n q (fun z => hv0 z.1))) | (rw [if_neg hc0]; rw [isIn_b] at hs0 hv0; first | exact (pdV_0n hz (fun z => hm z.2)) | exact (pdV_1n hz (fun z => hm z.2)))), rfl, rfl⟩ | exact .inr ⟨(by unfold doorV; rw [if_neg hc0]; rw [isIn_b] at hs0 hv0; first | exact (pdV_0 (by omega) hz ⟨by omega, hm⟩) | exact (pdV_1 (by omega) hz (by omega) ⟨by omega, hm⟩)), (by rw [isIn_b] at hs0 hv0; refine ⟨by omega, ?_⟩; first | exact .inl ⟨hz, hm⟩ | exact .inr ⟨by omega, hm⟩), rfl, c9, d9, rfl, rfl, by omega, by omega, (fun k => by simp (disch := decide) only [qup_ne, qup_if]), (fun k => by simp (disch := decide) only [qup_ne, qup_if]), (fun k => by simp (disch := decide) only [qup_ne, qup_if]), fun q k h2 h3 h4 => by simp only [qup_ne h2, qup_ne h3, qup_ne h4]⟩
      · skip
        refine qG.blk 1 (pc' := 28) (ls' := [(2, 95), (0, ((c9 : Nat) : Int)), (0, ((d9 : Nat) : Int)), (0, s), (0, v), (0, b)]) (st' := [(0, v)]) (w' := w) (n' := 142) rfl ?_
        refine qG.call (t := 216) (na := 1) (sk := 0) (md := 0) (ls1 := [(0, v)]) (r1 := []) rfl rfl rfl rfl rfl (K_X12_isSet (by omega) _ _) ?_
        rintro _ w7 _ ⟨rfl, hw7, rfl⟩
        rw [hw7]
        show qG none (d + 1) 217 31 [(2, 95), (0, ((c9 : Nat) : Int)), (0, ((d9 : Nat) : Int)), (0, s), (0, v), (0, b)] [(0, isInV v 0 65535)] w 142 Q9
        refine qG.br (P := isInV v 0 65535 = 0) (pc1 := 52) (pc2 := 34) (st1 := []) rfl (fun hv0 => ?_) (fun hv0 => ?_)
        · skip
          refine qG.blk 1 (pc' := 53) (ls' := [(2, 95), (0, ((c9 : Nat) : Int)), (0, ((d9 : Nat) : Int)), (0, s), (0, v), (0, b)]) (st' := [(0, 0)]) (w' := w) (n' := 142) rfl ?_
          refine qG.ret rfl (by first | rfl | exact decide_eq_true (by omega)) ?_
          subst hQ9
          first | exact .inl ⟨(by unfold doorV; first | (rw [if_pos hc0]; done) | (rw [if_neg hc0, pdV_r (by rw [isIn_b] at hd0; omega)]; done) | (rw [if_neg hc0, pdV_r (by rw [isIn_b] at hs0; omega)]; done) | (rw [if_neg hc0]; rw [isIn_b] at hv0; by_cases q : s = 0; exact (pdV_0n q (fun z => hv0 z.1)); exact (pdV_1n q (fun z => hv0 z.1))) | (rw [if_neg hc0]; rw [isIn_b] at hs0 hv0; first | exact (pdV_0n hz (fun z => hm z.2)) | exact (pdV_1n hz (fun z => hm z.2)))), rfl, rfl⟩ | exact .inr ⟨(by unfold doorV; rw [if_neg hc0]; rw [isIn_b] at hs0 hv0; first | exact (pdV_0 (by omega) hz ⟨by omega, hm⟩) | exact (pdV_1 (by omega) hz (by omega) ⟨by omega, hm⟩)), (by rw [isIn_b] at hs0 hv0; refine ⟨by omega, ?_⟩; first | exact .inl ⟨hz, hm⟩ | exact .inr ⟨by omega, hm⟩), rfl, c9, d9, rfl, rfl, by omega, by omega, (fun k => by simp (disch := decide) only [qup_ne, qup_if]), (fun k => by simp (disch := decide) only [qup_ne, qup_if]), (fun k => by simp (disch := decide) only [qup_ne, qup_if]), fun q k h2 h3 h4 => by simp only [qup_ne h2, qup_ne h3, qup_ne h4]⟩
        · skip
          refine qG.blk 2 (pc' := 37) (ls' := [(2, 95), (0, ((c9 : Nat) : Int)), (0, ((d9 : Nat) : Int)), (0, s), (0, v), (0, b)]) (st' := [(0, s), (0, v)]) (w' := w) (n' := 142) rfl ?_
          refine qG.br (P := s = 0) (pc1 := 40) (pc2 := 45) (st1 := [(0, v)]) rfl (fun hz => ?_) (fun hz => ?_)
          · skip
            refine qG.blk 3 (pc' := 49) (ls' := [(2, 95), (0, ((c9 : Nat) : Int)), (0, ((d9 : Nat) : Int)), (0, s), (0, v), (0, b)]) (st' := [(0, qand v 65280)]) (w' := w) (n' := 142) rfl ?_
            refine qG.br (P := qand v 65280 = 0) (pc1 := 54) (pc2 := 52) (st1 := []) rfl (fun hm => ?_) (fun hm => ?_)
            · skip
              refine qG.blk 2 (pc' := 58) (ls' := [(2, 95), (0, ((c9 : Nat) : Int)), (0, ((d9 : Nat) : Int)), (0, s), (0, v), (0, b)]) (st' := [(2, w 95 1)]) (w' := w) (n' := 142) rfl ?_
              rw [show w 95 1 = 97 from zref hI rfl rfl]
              refine qG.blk 3 (pc' := 62) (ls' := [(2, 95), (0, ((c9 : Nat) : Int)), (0, ((d9 : Nat) : Int)), (0, s), (0, v), (0, b)]) (st' := [(0, wrp (10 * ((c9 : Nat) : Int))), (2, 97)]) (w' := w) (n' := 142) rfl ?_
              rw [show wrp (10 * ((c9 : Nat) : Int)) = ((10 * c9 : Nat) : Int) from by rw [wrp_id (by omega) (by omega)]; omega]
              refine qG.blk 2 (pc' := 64) (ls' := [(2, 95), (0, ((c9 : Nat) : Int)), (0, ((d9 : Nat) : Int)), (0, s), (0, v), (0, b)]) (st' := [(0, wrp (((10 * c9 : Nat) : Int) + ((d9 : Nat) : Int))), (2, 97)]) (w' := w) (n' := 142) rfl ?_
              rw [show wrp (((10 * c9 : Nat) : Int) + ((d9 : Nat) : Int)) = ((10 * c9 + d9 : Nat) : Int) from by rw [wrp_id (by omega) (by omega)]; omega]
              refine qG.blk 1 (pc' := 65) (ls' := [(2, 95), (0, ((c9 : Nat) : Int)), (0, ((d9 : Nat) : Int)), (0, s), (0, v), (0, b)]) (st' := [(0, s), (0, ((10 * c9 + d9 : Nat) : Int)), (2, 97)]) (w' := w) (n' := 142) rfl ?_
              refine qG.ar (P := 0 ≤ ((10 * c9 + d9 : Nat) : Int) ∧ ((10 * c9 + d9 : Nat) : Int) < ((30 : Nat) : Int)) (P2 := 0 < (97 : Int) ∧ (97 : Int) ≤ ((142 : Nat) : Int)) (pc' := 66) (ls' := [(2, 95), (0, ((c9 : Nat) : Int)), (0, ((d9 : Nat) : Int)), (0, s), (0, v), (0, b)]) (st' := []) (w' := (qup w 97 (10 * c9 + d9) s)) (n' := 142) rfl (by omega) (by decide) ?_
              refine qG.blk 2 (pc' := 70) (ls' := [(2, 95), (0, ((c9 : Nat) : Int)), (0, ((d9 : Nat) : Int)), (0, s), (0, v), (0, b)]) (st' := [(2, w 95 2)]) (w' := (qup w 97 (10 * c9 + d9) s)) (n' := 142) rfl ?_
              rw [show w 95 2 = 98 from zref hI rfl rfl]
              refine qG.blk 3 (pc' := 74) (ls' := [(2, 95), (0, ((c9 : Nat) : Int)), (0, ((d9 : Nat) : Int)), (0, s), (0, v), (0, b)]) (st' := [(0, wrp (10 * ((c9 : Nat) : Int))), (2, 98)]) (w' := (qup w 97 (10 * c9 + d9) s)) (n' := 142) rfl ?_
              rw [show wrp (10 * ((c9 : Nat) : Int)) = ((10 * c9 : Nat) : Int) from by rw [wrp_id (by omega) (by omega)]; omega]
              refine qG.blk 2 (pc' := 76) (ls' := [(2, 95), (0, ((c9 : Nat) : Int)), (0, ((d9 : Nat) : Int)), (0, s), (0, v), (0, b)]) (st' := [(0, wrp (((10 * c9 : Nat) : Int) + ((d9 : Nat) : Int))), (2, 98)]) (w' := (qup w 97 (10 * c9 + d9) s)) (n' := 142) rfl ?_
              rw [show wrp (((10 * c9 : Nat) : Int) + ((d9 : Nat) : Int)) = ((10 * c9 + d9 : Nat) : Int) from by rw [wrp_id (by omega) (by omega)]; omega]
              refine qG.blk 1 (pc' := 78) (ls' := [(2, 95), (0, ((c9 : Nat) : Int)), (0, ((d9 : Nat) : Int)), (0, s), (0, v), (0, b)]) (st' := [(0, v), (0, ((10 * c9 + d9 : Nat) : Int)), (2, 98)]) (w' := (qup w 97 (10 * c9 + d9) s)) (n' := 142) rfl ?_
              refine qG.ar (P := 0 ≤ ((10 * c9 + d9 : Nat) : Int) ∧ ((10 * c9 + d9 : Nat) : Int) < ((30 : Nat) : Int)) (P2 := 0 < (98 : Int) ∧ (98 : Int) ≤ ((142 : Nat) : Int)) (pc' := 79) (ls' := [(2, 95), (0, ((c9 : Nat) : Int)), (0, ((d9 : Nat) : Int)), (0, s), (0, v), (0, b)]) (st' := []) (w' := (qup (qup w 97 (10 * c9 + d9) s) 98 (10 * c9 + d9) v)) (n' := 142) rfl (by omega) (by decide) ?_
              refine qG.blk 2 (pc' := 83) (ls' := [(2, 95), (0, ((c9 : Nat) : Int)), (0, ((d9 : Nat) : Int)), (0, s), (0, v), (0, b)]) (st' := [(2, w 95 4)]) (w' := (qup (qup w 97 (10 * c9 + d9) s) 98 (10 * c9 + d9) v)) (n' := 142) rfl ?_
              rw [show w 95 4 = 100 from zref hI rfl rfl]
              refine qG.blk 3 (pc' := 87) (ls' := [(2, 95), (0, ((c9 : Nat) : Int)), (0, ((d9 : Nat) : Int)), (0, s), (0, v), (0, b)]) (st' := [(0, wrp (10 * ((c9 : Nat) : Int))), (2, 100)]) (w' := (qup (qup w 97 (10 * c9 + d9) s) 98 (10 * c9 + d9) v)) (n' := 142) rfl ?_
              rw [show wrp (10 * ((c9 : Nat) : Int)) = ((10 * c9 : Nat) : Int) from by rw [wrp_id (by omega) (by omega)]; omega]
              refine qG.blk 2 (pc' := 89) (ls' := [(2, 95), (0, ((c9 : Nat) : Int)), (0, ((d9 : Nat) : Int)), (0, s), (0, v), (0, b)]) (st' := [(0, wrp (((10 * c9 : Nat) : Int) + ((d9 : Nat) : Int))), (2, 100)]) (w' := (qup (qup w 97 (10 * c9 + d9) s) 98 (10 * c9 + d9) v)) (n' := 142) rfl ?_
              rw [show wrp (((10 * c9 : Nat) : Int) + ((d9 : Nat) : Int)) = ((10 * c9 + d9 : Nat) : Int) from by rw [wrp_id (by omega) (by omega)]; omega]
              refine qG.blk 1 (pc' := 91) (ls' := [(2, 95), (0, ((c9 : Nat) : Int)), (0, ((d9 : Nat) : Int)), (0, s), (0, v), (0, b)]) (st' := [(0, b), (0, ((10 * c9 + d9 : Nat) : Int)), (2, 100)]) (w' := (qup (qup w 97 (10 * c9 + d9) s) 98 (10 * c9 + d9) v)) (n' := 142) rfl ?_
              refine qG.ar (P := (0 ≤ ((10 * c9 + d9 : Nat) : Int) ∧ ((10 * c9 + d9 : Nat) : Int) < ((30 : Nat) : Int)) ∧ 0 ≤ b ∧ b ≤ 1) (P2 := 0 < (100 : Int) ∧ (100 : Int) ≤ ((142 : Nat) : Int)) (pc' := 92) (ls' := [(2, 95), (0, ((c9 : Nat) : Int)), (0, ((d9 : Nat) : Int)), (0, s), (0, v), (0, b)]) (st' := []) (w' := (qup (qup (qup w 97 (10 * c9 + d9) s) 98 (10 * c9 + d9) v) 100 (10 * c9 + d9) b)) (n' := 142) rfl (by exact ⟨⟨by omega, by omega⟩, hb⟩) (by decide) ?_
              refine qG.blk 1 (pc' := 93) (ls' := [(2, 95), (0, ((c9 : Nat) : Int)), (0, ((d9 : Nat) : Int)), (0, s), (0, v), (0, b)]) (st' := [(0, 1)]) (w' := (qup (qup (qup w 97 (10 * c9 + d9) s) 98 (10 * c9 + d9) v) 100 (10 * c9 + d9) b)) (n' := 142) rfl ?_
              refine qG.ret rfl (by first | rfl | exact decide_eq_true (by omega)) ?_
              subst hQ9
              first | exact .inl ⟨(by unfold doorV; first | (rw [if_pos hc0]; done) | (rw [if_neg hc0, pdV_r (by rw [isIn_b] at hd0; omega)]; done) | (rw [if_neg hc0, pdV_r (by rw [isIn_b] at hs0; omega)]; done) | (rw [if_neg hc0]; rw [isIn_b] at hv0; by_cases q : s = 0; exact (pdV_0n q (fun z => hv0 z.1)); exact (pdV_1n q (fun z => hv0 z.1))) | (rw [if_neg hc0]; rw [isIn_b] at hs0 hv0; first | exact (pdV_0n hz (fun z => hm z.2)) | exact (pdV_1n hz (fun z => hm z.2)))), rfl, rfl⟩ | exact .inr ⟨(by unfold doorV; rw [if_neg hc0]; rw [isIn_b] at hs0 hv0; first | exact (pdV_0 (by omega) hz ⟨by omega, hm⟩) | exact (pdV_1 (by omega) hz (by omega) ⟨by omega, hm⟩)), (by rw [isIn_b] at hs0 hv0; refine ⟨by omega, ?_⟩; first | exact .inl ⟨hz, hm⟩ | exact .inr ⟨by omega, hm⟩), rfl, c9, d9, rfl, rfl, by omega, by omega, (fun k => by simp (disch := decide) only [qup_ne, qup_if]), (fun k => by simp (disch := decide) only [qup_ne, qup_if]), (fun k => by simp (disch := decide) only [qup_ne, qup_if]), fun q k h2 h3 h4 => by simp only [qup_ne h2, qup_ne h3, qup_ne h4]⟩
            · skip
              refine qG.blk 1 (pc' := 53) (ls' := [(2, 95), (0, ((c9 : Nat) : Int)), (0, ((d9 : Nat) : Int)), (0, s), (0, v), (0, b)]) (st' := [(0, 0)]) (w' := w) (n' := 142) rfl ?_
              refine qG.ret rfl (by first | rfl | exact decide_eq_true (by omega)) ?_
              subst hQ9
              first | exact .inl ⟨(by unfold doorV; first | (rw [if_pos hc0]; done) | (rw [if_neg hc0, pdV_r (by rw [isIn_b] at hd0; omega)]; done) | (rw [if_neg hc0, pdV_r (by rw [isIn_b] at hs0; omega)]; done) | (rw [if_neg hc0]; rw [isIn_b] at hv0; by_cases q : s = 0; exact (pdV_0n q (fun z => hv0 z.1)); exact (pdV_1n q (fun z => hv0 z.1))) | (rw [if_neg hc0]; rw [isIn_b] at hs0 hv0; first | exact (pdV_0n hz (fun z => hm z.2)) | exact (pdV_1n hz (fun z => hm z.2)))), rfl, rfl⟩ | exact .inr ⟨(by unfold doorV; rw [if_neg hc0]; rw [isIn_b] at hs0 hv0; first | exact (pdV_0 (by omega) hz ⟨by omega, hm⟩) | exact (pdV_1 (by omega) hz (by omega) ⟨by omega, hm⟩)), (by rw [isIn_b] at hs0 hv0; refine ⟨by omega, ?_⟩; first | exact .inl ⟨hz, hm⟩ | exact .inr ⟨by omega, hm⟩), rfl, c9, d9, rfl, rfl, by omega, by omega, (fun k => by simp (disch := decide) only [qup_ne, qup_if]), (fun k => by simp (disch := decide) only [qup_ne, qup_if]), (fun k => by simp (disch := decide) only [qup_ne, qup_if]), fun q k h2 h3 h4 => by simp only [qup_ne h2, qup_ne h3, qup_ne h4]⟩
          · skip
            refine qG.blk 2 (pc' := 49) (ls' := [(2, 95), (0, ((c9 : Nat) : Int)), (0, ((d9 : Nat) : Int)), (0, s), (0, v), (0, b)]) (st' := [(0, qand v 255)]) (w' := w) (n' := 142) rfl ?_
            refine qG.br (P := qand v 255 = 0) (pc1 := 54) (pc2 := 52) (st1 := []) rfl (fun hm => ?_) (fun hm => ?_)
            · skip
              refine qG.blk 2 (pc' := 58) (ls' := [(2, 95), (0, ((c9 : Nat) : Int)), (0, ((d9 : Nat) : Int)), (0, s), (0, v), (0, b)]) (st' := [(2, w 95 1)]) (w' := w) (n' := 142) rfl ?_
              rw [show w 95 1 = 97 from zref hI rfl rfl]
              refine qG.blk 3 (pc' := 62) (ls' := [(2, 95), (0, ((c9 : Nat) : Int)), (0, ((d9 : Nat) : Int)), (0, s), (0, v), (0, b)]) (st' := [(0, wrp (10 * ((c9 : Nat) : Int))), (2, 97)]) (w' := w) (n' := 142) rfl ?_
              rw [show wrp (10 * ((c9 : Nat) : Int)) = ((10 * c9 : Nat) : Int) from by rw [wrp_id (by omega) (by omega)]; omega]
              refine qG.blk 2 (pc' := 64) (ls' := [(2, 95), (0, ((c9 : Nat) : Int)), (0, ((d9 : Nat) : Int)), (0, s), (0, v), (0, b)]) (st' := [(0, wrp (((10 * c9 : Nat) : Int) + ((d9 : Nat) : Int))), (2, 97)]) (w' := w) (n' := 142) rfl ?_
              rw [show wrp (((10 * c9 : Nat) : Int) + ((d9 : Nat) : Int)) = ((10 * c9 + d9 : Nat) : Int) from by rw [wrp_id (by omega) (by omega)]; omega]
              refine qG.blk 1 (pc' := 65) (ls' := [(2, 95), (0, ((c9 : Nat) : Int)), (0, ((d9 : Nat) : Int)), (0, s), (0, v), (0, b)]) (st' := [(0, s), (0, ((10 * c9 + d9 : Nat) : Int)), (2, 97)]) (w' := w) (n' := 142) rfl ?_
              refine qG.ar (P := 0 ≤ ((10 * c9 + d9 : Nat) : Int) ∧ ((10 * c9 + d9 : Nat) : Int) < ((30 : Nat) : Int)) (P2 := 0 < (97 : Int) ∧ (97 : Int) ≤ ((142 : Nat) : Int)) (pc' := 66) (ls' := [(2, 95), (0, ((c9 : Nat) : Int)), (0, ((d9 : Nat) : Int)), (0, s), (0, v), (0, b)]) (st' := []) (w' := (qup w 97 (10 * c9 + d9) s)) (n' := 142) rfl (by omega) (by decide) ?_
              refine qG.blk 2 (pc' := 70) (ls' := [(2, 95), (0, ((c9 : Nat) : Int)), (0, ((d9 : Nat) : Int)), (0, s), (0, v), (0, b)]) (st' := [(2, w 95 2)]) (w' := (qup w 97 (10 * c9 + d9) s)) (n' := 142) rfl ?_
              rw [show w 95 2 = 98 from zref hI rfl rfl]
              refine qG.blk 3 (pc' := 74) (ls' := [(2, 95), (0, ((c9 : Nat) : Int)), (0, ((d9 : Nat) : Int)), (0, s), (0, v), (0, b)]) (st' := [(0, wrp (10 * ((c9 : Nat) : Int))), (2, 98)]) (w' := (qup w 97 (10 * c9 + d9) s)) (n' := 142) rfl ?_
              rw [show wrp (10 * ((c9 : Nat) : Int)) = ((10 * c9 : Nat) : Int) from by rw [wrp_id (by omega) (by omega)]; omega]
              refine qG.blk 2 (pc' := 76) (ls' := [(2, 95), (0, ((c9 : Nat) : Int)), (0, ((d9 : Nat) : Int)), (0, s), (0, v), (0, b)]) (st' := [(0, wrp (((10 * c9 : Nat) : Int) + ((d9 : Nat) : Int))), (2, 98)]) (w' := (qup w 97 (10 * c9 + d9) s)) (n' := 142) rfl ?_
              rw [show wrp (((10 * c9 : Nat) : Int) + ((d9 : Nat) : Int)) = ((10 * c9 + d9 : Nat) : Int) from by rw [wrp_id (by omega) (by omega)]; omega]
              refine qG.blk 1 (pc' := 78) (ls' := [(2, 95), (0, ((c9 : Nat) : Int)), (0, ((d9 : Nat) : Int)), (0, s), (0, v), (0, b)]) (st' := [(0, v), (0, ((10 * c9 + d9 : Nat) : Int)), (2, 98)]) (w' := (qup w 97 (10 * c9 + d9) s)) (n' := 142) rfl ?_
              refine qG.ar (P := 0 ≤ ((10 * c9 + d9 : Nat) : Int) ∧ ((10 * c9 + d9 : Nat) : Int) < ((30 : Nat) : Int)) (P2 := 0 < (98 : Int) ∧ (98 : Int) ≤ ((142 : Nat) : Int)) (pc' := 79) (ls' := [(2, 95), (0, ((c9 : Nat) : Int)), (0, ((d9 : Nat) : Int)), (0, s), (0, v), (0, b)]) (st' := []) (w' := (qup (qup w 97 (10 * c9 + d9) s) 98 (10 * c9 + d9) v)) (n' := 142) rfl (by omega) (by decide) ?_
              refine qG.blk 2 (pc' := 83) (ls' := [(2, 95), (0, ((c9 : Nat) : Int)), (0, ((d9 : Nat) : Int)), (0, s), (0, v), (0, b)]) (st' := [(2, w 95 4)]) (w' := (qup (qup w 97 (10 * c9 + d9) s) 98 (10 * c9 + d9) v)) (n' := 142) rfl ?_
              rw [show w 95 4 = 100 from zref hI rfl rfl]
              refine qG.blk 3 (pc' := 87) (ls' := [(2, 95), (0, ((c9 : Nat) : Int)), (0, ((d9 : Nat) : Int)), (0, s), (0, v), (0, b)]) (st' := [(0, wrp (10 * ((c9 : Nat) : Int))), (2, 100)]) (w' := (qup (qup w 97 (10 * c9 + d9) s) 98 (10 * c9 + d9) v)) (n' := 142) rfl ?_
              rw [show wrp (10 * ((c9 : Nat) : Int)) = ((10 * c9 : Nat) : Int) from by rw [wrp_id (by omega) (by omega)]; omega]
              refine qG.blk 2 (pc' := 89) (ls' := [(2, 95), (0, ((c9 : Nat) : Int)), (0, ((d9 : Nat) : Int)), (0, s), (0, v), (0, b)]) (st' := [(0, wrp (((10 * c9 : Nat) : Int) + ((d9 : Nat) : Int))), (2, 100)]) (w' := (qup (qup w 97 (10 * c9 + d9) s) 98 (10 * c9 + d9) v)) (n' := 142) rfl ?_
              rw [show wrp (((10 * c9 : Nat) : Int) + ((d9 : Nat) : Int)) = ((10 * c9 + d9 : Nat) : Int) from by rw [wrp_id (by omega) (by omega)]; omega]
              refine qG.blk 1 (pc' := 91) (ls' := [(2, 95), (0, ((c9 : Nat) : Int)), (0, ((d9 : Nat) : Int)), (0, s), (0, v), (0, b)]) (st' := [(0, b), (0, ((10 * c9 + d9 : Nat) : Int)), (2, 100)]) (w' := (qup (qup w 97 (10 * c9 + d9) s) 98 (10 * c9 + d9) v)) (n' := 142) rfl ?_
              refine qG.ar (P := (0 ≤ ((10 * c9 + d9 : Nat) : Int) ∧ ((10 * c9 + d9 : Nat) : Int) < ((30 : Nat) : Int)) ∧ 0 ≤ b ∧ b ≤ 1) (P2 := 0 < (100 : Int) ∧ (100 : Int) ≤ ((142 : Nat) : Int)) (pc' := 92) (ls' := [(2, 95), (0, ((c9 : Nat) : Int)), (0, ((d9 : Nat) : Int)), (0, s), (0, v), (0, b)]) (st' := []) (w' := (qup (qup (qup w 97 (10 * c9 + d9) s) 98 (10 * c9 + d9) v) 100 (10 * c9 + d9) b)) (n' := 142) rfl (by exact ⟨⟨by omega, by omega⟩, hb⟩) (by decide) ?_
              refine qG.blk 1 (pc' := 93) (ls' := [(2, 95), (0, ((c9 : Nat) : Int)), (0, ((d9 : Nat) : Int)), (0, s), (0, v), (0, b)]) (st' := [(0, 1)]) (w' := (qup (qup (qup w 97 (10 * c9 + d9) s) 98 (10 * c9 + d9) v) 100 (10 * c9 + d9) b)) (n' := 142) rfl ?_
              refine qG.ret rfl (by first | rfl | exact decide_eq_true (by omega)) ?_
              subst hQ9
              first | exact .inl ⟨(by unfold doorV; first | (rw [if_pos hc0]; done) | (rw [if_neg hc0, pdV_r (by rw [isIn_b] at hd0; omega)]; done) | (rw [if_neg hc0, pdV_r (by rw [isIn_b] at hs0; omega)]; done) | (rw [if_neg hc0]; rw [isIn_b] at hv0; by_cases q : s = 0; exact (pdV_0n q (fun z => hv0 z.1)); exact (pdV_1n q (fun z => hv0 z.1))) | (rw [if_neg hc0]; rw [isIn_b] at hs0 hv0; first | exact (pdV_0n hz (fun z => hm z.2)) | exact (pdV_1n hz (fun z => hm z.2)))), rfl, rfl⟩ | exact .inr ⟨(by unfold doorV; rw [if_neg hc0]; rw [isIn_b] at hs0 hv0; first | exact (pdV_0 (by omega) hz ⟨by omega, hm⟩) | exact (pdV_1 (by omega) hz (by omega) ⟨by omega, hm⟩)), (by rw [isIn_b] at hs0 hv0; refine ⟨by omega, ?_⟩; first | exact .inl ⟨hz, hm⟩ | exact .inr ⟨by omega, hm⟩), rfl, c9, d9, rfl, rfl, by omega, by omega, (fun k => by simp (disch := decide) only [qup_ne, qup_if]), (fun k => by simp (disch := decide) only [qup_ne, qup_if]), (fun k => by simp (disch := decide) only [qup_ne, qup_if]), fun q k h2 h3 h4 => by simp only [qup_ne h2, qup_ne h3, qup_ne h4]⟩
            · skip
              refine qG.blk 1 (pc' := 53) (ls' := [(2, 95), (0, ((c9 : Nat) : Int)), (0, ((d9 : Nat) : Int)), (0, s), (0, v), (0, b)]) (st' := [(0, 0)]) (w' := w) (n' := 142) rfl ?_
              refine qG.ret rfl (by first | rfl | exact decide_eq_true (by omega)) ?_
              subst hQ9
              first | exact .inl ⟨(by unfold doorV; first | (rw [if_pos hc0]; done) | (rw [if_neg hc0, pdV_r (by rw [isIn_b] at hd0; omega)]; done) | (rw [if_neg hc0, pdV_r (by rw [isIn_b] at hs0; omega)]; done) | (rw [if_neg hc0]; rw [isIn_b] at hv0; by_cases q : s = 0; exact (pdV_0n q (fun z => hv0 z.1)); exact (pdV_1n q (fun z => hv0 z.1))) | (rw [if_neg hc0]; rw [isIn_b] at hs0 hv0; first | exact (pdV_0n hz (fun z => hm z.2)) | exact (pdV_1n hz (fun z => hm z.2)))), rfl, rfl⟩ | exact .inr ⟨(by unfold doorV; rw [if_neg hc0]; rw [isIn_b] at hs0 hv0; first | exact (pdV_0 (by omega) hz ⟨by omega, hm⟩) | exact (pdV_1 (by omega) hz (by omega) ⟨by omega, hm⟩)), (by rw [isIn_b] at hs0 hv0; refine ⟨by omega, ?_⟩; first | exact .inl ⟨hz, hm⟩ | exact .inr ⟨by omega, hm⟩), rfl, c9, d9, rfl, rfl, by omega, by omega, (fun k => by simp (disch := decide) only [qup_ne, qup_if]), (fun k => by simp (disch := decide) only [qup_ne, qup_if]), (fun k => by simp (disch := decide) only [qup_ne, qup_if]), fun q k h2 h3 h4 => by simp only [qup_ne h2, qup_ne h3, qup_ne h4]⟩
/-- doors are alike on both sides, their spaces are of their side -/
noncomputable def JE (w : qW) : Prop := ∀ c d : Nat, c < 3 → d < 10 → (w (66 + 5 * c) d = w 97 (10 * c + d) ∧ w (67 + 5 * c) d = w 98 (10 * c + d) ∧ w (68 + 5 * c) d = w 100 (10 * c + d)) ∧ drS (w 97 (10 * c + d)) (w 98 (10 * c + d))
noncomputable def jeM (m : List Nat) : Bool := [66, 67, 68, 71, 72, 73, 76, 77, 78, 97, 98, 100].all (fun p => m.all (fun e => !Nat.beq (e % 1000) p))
theorem jeM_p {m : List Nat} (h : jeM m = true) {p : Nat} (hp : p ∈ [66, 67, 68, 71, 72, 73, 76, 77, 78, 97, 98, 100]) : m.all (fun e => !Nat.beq (e % 1000) p) = true := List.all_eq_true.mp h p hp
theorem JE.aw {m : List Nat} {w w1 : qW} (h : JE w) (a : AW m w w1) (hm : jeM m = true) : JE w1 := fun c d hc hd => by
  have e : ∀ p, p ∈ [66, 67, 68, 71, 72, 73, 76, 77, 78, 97, 98, 100] → ∀ j, w1 p j = w p j := fun p hp j => a.a (by
    have q : ∀ p ∈ [66, 67, 68, 71, 72, 73, 76, 77, 78, 97, 98, 100], p < 1000 := by decide
    exact q p hp) (jeM_p hm hp) j
  have k : ∀ c : Nat, c < 3 → (66 + 5 * c ∈ [66, 67, 68, 71, 72, 73, 76, 77, 78, 97, 98, 100] ∧ 67 + 5 * c ∈ [66, 67, 68, 71, 72, 73, 76, 77, 78, 97, 98, 100]) ∧ 68 + 5 * c ∈ [66, 67, 68, 71, 72, 73, 76, 77, 78, 97, 98, 100] := by decide
  rw [e _ (k c hc).1.1, e _ (k c hc).1.2, e _ (k c hc).2, e 97 (by decide), e 98 (by decide), e 100 (by decide)]
  exact h c d hc hd
theorem JE.door {w w1 w2 : qW} {c d1 s v b : Int} {r r2 : qV} (h : JE w) (hX : dr2X c d1 s v b w r w1) (hR : dr2R c d1 s v b w1 r2 w2) : JE w2 ∧ r = r2 := by
  rcases hX with ⟨c1, rfl, rfl⟩ | ⟨c1, rfl, c9, d9, ec, ed, hc9, hd9, x0, x1, x2, x3⟩
  · rcases hR with ⟨c2, rfl, rfl⟩ | ⟨c2, -⟩
    · exact ⟨h, rfl⟩
    · omega
  · rcases hR with ⟨c2, -⟩ | ⟨-, hD, rfl, c8, d8, ec2, ed2, -, -, y0, y1, y2, y3⟩
    · omega
    · obtain rfl : c8 = c9 := by omega
      obtain rfl : d8 = d9 := by omega
      refine ⟨fun c' d hc' hd => ?_, rfl⟩
      have z := h c' d hc' hd
      have e97 : ∀ k, w1 97 k = w 97 k := fun k => x3 97 k (by omega) (by omega) (by omega)
      have e98 : ∀ k, w1 98 k = w 98 k := fun k => x3 98 k (by omega) (by omega) (by omega)
      have e100 : ∀ k, w1 100 k = w 100 k := fun k => x3 100 k (by omega) (by omega) (by omega)
      rw [y3 (66 + 5 * c') d (by omega) (by omega) (by omega), y3 (67 + 5 * c') d (by omega) (by omega) (by omega), y3 (68 + 5 * c') d (by omega) (by omega) (by omega), y0, y1, y2, e97, e98, e100]
      by_cases e : c' = c8
      · subst e
        rw [x0, x1, x2]
        by_cases e2 : d = d8
        · rw [if_pos e2, if_pos e2, if_pos e2, if_pos (by omega), if_pos (by omega), if_pos (by omega)]; exact ⟨⟨rfl, rfl, rfl⟩, hD⟩
        · rw [if_neg e2, if_neg e2, if_neg e2, if_neg (by omega), if_neg (by omega), if_neg (by omega)]; exact z
      · rw [x3 (66 + 5 * c') d (by omega) (by omega) (by omega), x3 (67 + 5 * c') d (by omega) (by omega) (by omega), x3 (68 + 5 * c') d (by omega) (by omega) (by omega), if_neg (by omega), if_neg (by omega), if_neg (by omega)]
        exact z
theorem qshl_8 {n : Nat} (hn : n ≤ 65535) : qshl (n : Int) 8 = ((n * 256 : Nat) : Int) := by
  unfold qshl
  rw [yofn (x := (n : Int)) (by omega) (by omega), yofn (x := 8) (by decide) (by decide), Int.toNat_natCast, show (8 : Int).toNat = 8 from rfl, yb_shl n (by decide), nI_toInt (by omega)]
theorem qshr_8 {n : Nat} (hn : n ≤ 65535) : qshr (n : Int) 8 = ((n / 256 : Nat) : Int) := by
  unfold qshr
  rw [yofn (x := (n : Int)) (by omega) (by omega), yofn (x := 8) (by decide) (by decide), Int.toNat_natCast, show (8 : Int).toNat = 8 from rfl, yb_shr (by omega) (by decide), nI_toInt (by omega)]
theorem or_16 {a b : Nat} (ha : a ≤ 65535) (hb : b ≤ 65535) : a ||| b ≤ 65535 := by
  have := Nat.or_lt_two_pow (n := 16) (show a < 2 ^ 16 by omega) (show b < 2 ^ 16 by omega)
  omega
/-- what the class shows of an open door with its candle: all sides at once, cut to sixteen -/
noncomputable def shX (v k : Int) : Int := qand (qor (qor v (qshl (qand v (qxor k (-1))) 8)) (qush (qand v (qxor k (-1))) 8)) 65535
theorem bare_n {v k : Nat} (hv : v ≤ 65535) (hk : k ≤ 65535) : ∃ b : Nat, qand (v : Int) (qxor (k : Int) (-1)) = (b : Int) ∧ b ≤ v ∧ (v % 256 = 0 → b % 256 = 0) := by
  have h := qand_hi (x := qxor (k : Int) (-1)) (y := (v : Int)) (d := (v : Int)) (by omega) (by omega) (by omega)
  rw [qand_c] at h
  have h0 : (0 : Int) ≤ qand (v : Int) (qxor (k : Int) (-1)) := h.1
  have h1 : qand (v : Int) (qxor (k : Int) (-1)) ≤ (v : Int) := h.2
  refine ⟨(qand (v : Int) (qxor (k : Int) (-1))).toNat, by omega, by omega, fun hz => ?_⟩
  obtain ⟨b, hb⟩ : ∃ b : Nat, qand (v : Int) (qxor (k : Int) (-1)) = (b : Int) := ⟨_, (Int.toNat_of_nonneg h0).symm⟩
  rw [hb, Int.toNat_natCast]
  have hbv : b ≤ v := by omega
  have key : ∀ s, s < 8 → b.testBit s = false := fun s hs => by
    have q : hbit (b : Int) s = (hbit (v : Int) s && hbit (qxor (k : Int) (-1)) s) := by rw [← hb, hbit_and (by omega)]
    rw [hb_t (by omega) (by omega), hb_t (by omega) (by omega)] at q
    rw [q]
    have : v.testBit s = false := by
      rw [Nat.testBit_eq_decide_div_mod_eq]
      refine decide_eq_false ?_
      obtain ⟨u, rfl⟩ : ∃ u, v = 256 * u := ⟨v / 256, by omega⟩
      rcases (show s = 0 ∨ s = 1 ∨ s = 2 ∨ s = 3 ∨ s = 4 ∨ s = 5 ∨ s = 6 ∨ s = 7 by omega) with rfl | rfl | rfl | rfl | rfl | rfl | rfl | rfl <;> omega
    rw [this, Bool.false_and]
  apply Nat.eq_of_testBit_eq
  intro s
  rw [Nat.zero_testBit, show 256 = 2 ^ 8 from rfl, Nat.testBit_mod_two_pow]
  by_cases hs : s < 8
  · rw [key s hs, Bool.and_false]
  · rw [decide_eq_false hs, Bool.false_and]
theorem z_hi {v : Nat} (hv : v ≤ 65535) (h : qand (v : Int) 65280 = 0) : v ≤ 255 := by
  have h : qand (v : Int) ((65280 : Nat) : Int) = 0 := h
  rw [qand_n (by omega) (by omega)] at h
  have h : v &&& 65280 = 0 := by omega
  have e := Nat.and_two_pow_sub_one_eq_mod v 8
  have : ∀ a : Nat, a < 256 → ∀ b : Nat, b < 256 → Nat.beq ((256 * a + b) &&& 65280) (256 * a) = true := by decide +kernel
  have q := Nat.eq_of_beq_eq_true (this (v / 256) (by omega) (v % 256) (by omega))
  rw [show 256 * (v / 256) + v % 256 = v by omega, h] at q
  omega
theorem z_lo {v : Nat} (hv : v ≤ 65535) (h : qand (v : Int) 255 = 0) : v % 256 = 0 := by
  have h : qand (v : Int) ((255 : Nat) : Int) = 0 := h
  rw [qand_n (by omega) (by omega)] at h
  have h : v &&& (2 ^ 8 - 1) = 0 := by show v &&& 255 = 0; omega
  rw [Nat.and_two_pow_sub_one_eq_mod] at h
  exact h
theorem shX_eq {s v k : Int} (h : drS s v) (hk : 0 ≤ k ∧ k ≤ 65535) : shX v k = qor v (if s = 0 then qshl (qand v (qxor k (-1))) 8 else qshr (qand v (qxor k (-1))) 8) := by
  obtain ⟨⟨h0, h1⟩, hs⟩ := h
  obtain ⟨v, rfl⟩ : ∃ n : Nat, v = n := ⟨v.toNat, by omega⟩
  obtain ⟨k, rfl⟩ : ∃ n : Nat, k = n := ⟨k.toNat, by omega⟩
  obtain ⟨b, hb, hbv, hbz⟩ := bare_n (v := v) (k := k) (by omega) (by omega)
  unfold shX
  rw [hb]
  have eu : qush (b : Int) 8 = ((b / 256 : Nat) : Int) := qush_n (n := b) (s := 8) (by omega) (by decide)
  have ol : v ||| b * 256 < 2 ^ 24 := Nat.or_lt_two_pow (by omega) (by omega)
  have oo : (v ||| b * 256) ||| b / 256 < 2 ^ 24 := Nat.or_lt_two_pow ol (by omega)
  rw [eu, qshl_8 (by omega), qshr_8 (by omega), qor_n (by omega) (by omega), qor_n (by omega) (by omega), show (65535 : Int) = ((65535 : Nat) : Int) from rfl, qand_n (by omega) (by omega), show (65535 : Nat) = 2 ^ 16 - 1 from rfl, Nat.and_two_pow_sub_one_eq_mod]
  rcases hs with ⟨rfl, hm⟩ | ⟨rfl, hm⟩
  · have hv8 := z_hi (by omega) hm
    rw [if_pos rfl, qor_n (by omega) (by omega), show b / 256 = 0 by omega, Nat.or_zero]
    have := or_16 (a := v) (b := b * 256) (by omega) (by omega)
    rw [show (v ||| b * 256) % 2 ^ 16 = v ||| b * 256 by omega]
  · have hv8 := z_lo (by omega) hm
    have hb8 := hbz hv8
    rw [if_neg (by decide), qor_n (by omega) (by omega), Nat.or_mod_two_pow, Nat.or_mod_two_pow]
    rw [show b * 256 % 2 ^ 16 = 0 by omega, Nat.or_zero, show v % 2 ^ 16 = v by omega, show b / 256 % 2 ^ 16 = b / 256 by omega]
/-- what door dd shows with its candle (class's side): nothing beyond the tenth -/
noncomputable def shD (w : qW) (c dd : Nat) (lit : Int) : Int := if dd < 10 then thrF w c dd lit else 0
theorem thrF_in {w : qW} {c dd : Nat} {lit : Int} (hI : yInv zgf zga zra zSp w) (hE : JE w) (hc : c < 3) (hd : dd < 10) : 0 ≤ thrF w c dd lit ∧ thrF w c dd lit ≤ 65535 := by
  have z := (hE c dd hc hd).2
  have k := w96_in hI c
  unfold thrF
  split
  · exact z.1
  · split
    · rw [← shX_eq z k]
      have := qand_hi (x := qor (qor (w 98 (10 * c + dd)) (qshl (qand (w 98 (10 * c + dd)) (qxor (w 96 c) (-1))) 8)) (qush (qand (w 98 (10 * c + dd)) (qxor (w 96 c) (-1))) 8)) (y := 65535) (d := 65535) (by decide) (by decide) (by decide)
      exact ⟨this.1, this.2⟩
    · exact z.1
theorem K_shown64 {d : Nat} (hd : 0 ≤ d) (dd : Nat) (lit : Int) (w : qW) (hI : yInv zgf zga zra zSp w) (hK : w 64 0 = w 96 0) (hE : JE w) : qG none d 27 0 [(2, 64), (0, ((dd : Nat) : Int)), (0, lit), (9, 0), (9, 0)] [] w 142 (fun (r : qV) (w1 : qW) (n1 : Nat) => r = (0, shD w 0 dd lit) ∧ w1 = w ∧ n1 = 142) := by
  generalize hQ9 : (fun (r : qV) (w1 : qW) (n1 : Nat) => r = (0, shD w 0 dd lit) ∧ w1 = w ∧ n1 = 142) = Q9
  refine qG.blk 1 (pc' := 1) (ls' := [(2, 64), (0, ((dd : Nat) : Int)), (0, lit), (9, 0), (9, 0)]) (st' := [(0, ((dd : Nat) : Int))]) (w' := w) (n' := 142) rfl ?_
  refine qG.br (P := ((dd : Nat) : Int) < 0) (pc1 := 10) (pc2 := 4) (st1 := []) rfl (fun h1 => ?_) (fun h1 => ?_)
  · skip
    refine qG.blk 1 (pc' := 11) (ls' := [(2, 64), (0, ((dd : Nat) : Int)), (0, lit), (9, 0), (9, 0)]) (st' := [(0, 0)]) (w' := w) (n' := 142) rfl ?_
    refine qG.ret rfl rfl ?_
    subst hQ9
    first | exact ⟨congrArg (Prod.mk 0) (show (0 : Int) = shD w 0 dd lit from (if_neg (by omega)).symm), rfl, rfl⟩ | exact ⟨congrArg (Prod.mk 0) (show _ = shD w 0 dd lit from by unfold shD; rw [if_pos (by omega)]; unfold thrF; first | (rw [if_pos hl]; done) | (rw [if_neg hl, if_neg hf]; done) | (rw [if_neg hl, if_pos hf]; exact shX_eq (hE 0 dd (by decide) (by omega)).2 (w96_in hI 0))), rfl, rfl⟩
  · skip
    refine qG.blk 2 (pc' := 7) (ls' := [(2, 64), (0, ((dd : Nat) : Int)), (0, lit), (9, 0), (9, 0)]) (st' := [(0, 10), (0, ((dd : Nat) : Int))]) (w' := w) (n' := 142) rfl ?_
    refine qG.br (P := ((dd : Nat) : Int) < 10) (pc1 := 12) (pc2 := 10) (st1 := []) rfl (fun h2 => ?_) (fun h2 => ?_)
    · skip
      refine qG.blk 2 (pc' := 16) (ls' := [(2, 64), (0, ((dd : Nat) : Int)), (0, lit), (9, 0), (9, 0)]) (st' := [(2, w 64 4)]) (w' := w) (n' := 142) rfl ?_
      rw [show w 64 4 = 67 from zref hI rfl rfl]
      refine qG.blk 1 (pc' := 17) (ls' := [(2, 64), (0, ((dd : Nat) : Int)), (0, lit), (9, 0), (9, 0)]) (st' := [(0, ((dd : Nat) : Int)), (2, 67)]) (w' := w) (n' := 142) rfl ?_
      refine qG.ar (P := 0 ≤ ((dd : Nat) : Int) ∧ ((dd : Nat) : Int) < ((10 : Nat) : Int)) (P2 := 0 < (67 : Int) ∧ (67 : Int) ≤ ((142 : Nat) : Int)) (pc' := 18) (ls' := [(2, 64), (0, ((dd : Nat) : Int)), (0, lit), (9, 0), (9, 0)]) (st' := [(0, w 67 dd)]) (w' := w) (n' := 142) rfl (by omega) (by decide) ?_
      rw [show w 67 dd = w 98 (10 * 0 + dd) from (hE 0 dd (by decide) (by omega)).1.2.1]
      refine qG.blk 2 (pc' := 20) (ls' := [(2, 64), (0, ((dd : Nat) : Int)), (0, lit), (0, w 98 (10 * 0 + dd)), (9, 0)]) (st' := [(0, lit)]) (w' := w) (n' := 142) rfl ?_
      refine qG.br (P := lit = 0) (pc1 := 32) (pc2 := 23) (st1 := []) rfl (fun hl => ?_) (fun hl => ?_)
      · skip
        refine qG.blk 1 (pc' := 33) (ls' := [(2, 64), (0, ((dd : Nat) : Int)), (0, lit), (0, w 98 (10 * 0 + dd)), (9, 0)]) (st' := [(0, w 98 (10 * 0 + dd))]) (w' := w) (n' := 142) rfl ?_
        refine qG.ret rfl rfl ?_
        subst hQ9
        first | exact ⟨congrArg (Prod.mk 0) (show (0 : Int) = shD w 0 dd lit from (if_neg (by omega)).symm), rfl, rfl⟩ | exact ⟨congrArg (Prod.mk 0) (show _ = shD w 0 dd lit from by unfold shD; rw [if_pos (by omega)]; unfold thrF; first | (rw [if_pos hl]; done) | (rw [if_neg hl, if_neg hf]; done) | (rw [if_neg hl, if_pos hf]; exact shX_eq (hE 0 dd (by decide) (by omega)).2 (w96_in hI 0))), rfl, rfl⟩
      · skip
        refine qG.blk 2 (pc' := 27) (ls' := [(2, 64), (0, ((dd : Nat) : Int)), (0, lit), (0, w 98 (10 * 0 + dd)), (9, 0)]) (st' := [(2, w 64 5)]) (w' := w) (n' := 142) rfl ?_
        rw [show w 64 5 = 68 from zref hI rfl rfl]
        refine qG.blk 1 (pc' := 28) (ls' := [(2, 64), (0, ((dd : Nat) : Int)), (0, lit), (0, w 98 (10 * 0 + dd)), (9, 0)]) (st' := [(0, ((dd : Nat) : Int)), (2, 68)]) (w' := w) (n' := 142) rfl ?_
        refine qG.ar (P := 0 ≤ ((dd : Nat) : Int) ∧ ((dd : Nat) : Int) < ((10 : Nat) : Int)) (P2 := 0 < (68 : Int) ∧ (68 : Int) ≤ ((142 : Nat) : Int)) (pc' := 29) (ls' := [(2, 64), (0, ((dd : Nat) : Int)), (0, lit), (0, w 98 (10 * 0 + dd)), (9, 0)]) (st' := [(0, w 68 dd)]) (w' := w) (n' := 142) rfl (by omega) (by decide) ?_
        rw [show w 68 dd = w 100 (10 * 0 + dd) from (hE 0 dd (by decide) (by omega)).1.2.2]
        refine qG.br (P := w 100 (10 * 0 + dd) = 0) (pc1 := 34) (pc2 := 32) (st1 := []) rfl (fun hf => ?_) (fun hf => ?_)
        · skip
          refine qG.blk 3 (pc' := 39) (ls' := [(2, 64), (0, ((dd : Nat) : Int)), (0, lit), (0, w 98 (10 * 0 + dd)), (9, 0)]) (st' := [(0, w 64 0), (0, w 98 (10 * 0 + dd))]) (w' := w) (n' := 142) rfl ?_
          rw [show w 64 0 = w 96 0 from hK]
          refine qG.blk 12 (pc' := 56) (ls' := [(2, 64), (0, ((dd : Nat) : Int)), (0, lit), (0, w 98 (10 * 0 + dd)), (0, qand (w 98 (10 * 0 + dd)) (qxor (w 96 0) (-1)))]) (st' := [(0, qush (qand (w 98 (10 * 0 + dd)) (qxor (w 96 0) (-1))) 8), (0, qor (w 98 (10 * 0 + dd)) (qshl (qand (w 98 (10 * 0 + dd)) (qxor (w 96 0) (-1))) 8))]) (w' := w) (n' := 142) rfl ?_
          refine qG.blk 3 (pc' := 60) (ls' := [(2, 64), (0, ((dd : Nat) : Int)), (0, lit), (0, w 98 (10 * 0 + dd)), (0, qand (w 98 (10 * 0 + dd)) (qxor (w 96 0) (-1)))]) (st' := [(0, qand (qor (qor (w 98 (10 * 0 + dd)) (qshl (qand (w 98 (10 * 0 + dd)) (qxor (w 96 0) (-1))) 8)) (qush (qand (w 98 (10 * 0 + dd)) (qxor (w 96 0) (-1))) 8)) 65535)]) (w' := w) (n' := 142) rfl ?_
          refine qG.ret rfl rfl ?_
          subst hQ9
          first | exact ⟨congrArg (Prod.mk 0) (show (0 : Int) = shD w 0 dd lit from (if_neg (by omega)).symm), rfl, rfl⟩ | exact ⟨congrArg (Prod.mk 0) (show _ = shD w 0 dd lit from by unfold shD; rw [if_pos (by omega)]; unfold thrF; first | (rw [if_pos hl]; done) | (rw [if_neg hl, if_neg hf]; done) | (rw [if_neg hl, if_pos hf]; exact shX_eq (hE 0 dd (by decide) (by omega)).2 (w96_in hI 0))), rfl, rfl⟩
        · skip
          refine qG.blk 1 (pc' := 33) (ls' := [(2, 64), (0, ((dd : Nat) : Int)), (0, lit), (0, w 98 (10 * 0 + dd)), (9, 0)]) (st' := [(0, w 98 (10 * 0 + dd))]) (w' := w) (n' := 142) rfl ?_
          refine qG.ret rfl rfl ?_
          subst hQ9
          first | exact ⟨congrArg (Prod.mk 0) (show (0 : Int) = shD w 0 dd lit from (if_neg (by omega)).symm), rfl, rfl⟩ | exact ⟨congrArg (Prod.mk 0) (show _ = shD w 0 dd lit from by unfold shD; rw [if_pos (by omega)]; unfold thrF; first | (rw [if_pos hl]; done) | (rw [if_neg hl, if_neg hf]; done) | (rw [if_neg hl, if_pos hf]; exact shX_eq (hE 0 dd (by decide) (by omega)).2 (w96_in hI 0))), rfl, rfl⟩
    · skip
      refine qG.blk 1 (pc' := 11) (ls' := [(2, 64), (0, ((dd : Nat) : Int)), (0, lit), (9, 0), (9, 0)]) (st' := [(0, 0)]) (w' := w) (n' := 142) rfl ?_
      refine qG.ret rfl rfl ?_
      subst hQ9
      first | exact ⟨congrArg (Prod.mk 0) (show (0 : Int) = shD w 0 dd lit from (if_neg (by omega)).symm), rfl, rfl⟩ | exact ⟨congrArg (Prod.mk 0) (show _ = shD w 0 dd lit from by unfold shD; rw [if_pos (by omega)]; unfold thrF; first | (rw [if_pos hl]; done) | (rw [if_neg hl, if_neg hf]; done) | (rw [if_neg hl, if_pos hf]; exact shX_eq (hE 0 dd (by decide) (by omega)).2 (w96_in hI 0))), rfl, rfl⟩
theorem K_shown69 {d : Nat} (hd : 0 ≤ d) (dd : Nat) (lit : Int) (w : qW) (hI : yInv zgf zga zra zSp w) (hK : w 69 0 = w 96 1) (hE : JE w) : qG none d 27 0 [(2, 69), (0, ((dd : Nat) : Int)), (0, lit), (9, 0), (9, 0)] [] w 142 (fun (r : qV) (w1 : qW) (n1 : Nat) => r = (0, shD w 1 dd lit) ∧ w1 = w ∧ n1 = 142) := by
  generalize hQ9 : (fun (r : qV) (w1 : qW) (n1 : Nat) => r = (0, shD w 1 dd lit) ∧ w1 = w ∧ n1 = 142) = Q9
  refine qG.blk 1 (pc' := 1) (ls' := [(2, 69), (0, ((dd : Nat) : Int)), (0, lit), (9, 0), (9, 0)]) (st' := [(0, ((dd : Nat) : Int))]) (w' := w) (n' := 142) rfl ?_
  refine qG.br (P := ((dd : Nat) : Int) < 0) (pc1 := 10) (pc2 := 4) (st1 := []) rfl (fun h1 => ?_) (fun h1 => ?_)
  · skip
    refine qG.blk 1 (pc' := 11) (ls' := [(2, 69), (0, ((dd : Nat) : Int)), (0, lit), (9, 0), (9, 0)]) (st' := [(0, 0)]) (w' := w) (n' := 142) rfl ?_
    refine qG.ret rfl rfl ?_
    subst hQ9
    first | exact ⟨congrArg (Prod.mk 0) (show (0 : Int) = shD w 1 dd lit from (if_neg (by omega)).symm), rfl, rfl⟩ | exact ⟨congrArg (Prod.mk 0) (show _ = shD w 1 dd lit from by unfold shD; rw [if_pos (by omega)]; unfold thrF; first | (rw [if_pos hl]; done) | (rw [if_neg hl, if_neg hf]; done) | (rw [if_neg hl, if_pos hf]; exact shX_eq (hE 1 dd (by decide) (by omega)).2 (w96_in hI 1))), rfl, rfl⟩
  · skip
    refine qG.blk 2 (pc' := 7) (ls' := [(2, 69), (0, ((dd : Nat) : Int)), (0, lit), (9, 0), (9, 0)]) (st' := [(0, 10), (0, ((dd : Nat) : Int))]) (w' := w) (n' := 142) rfl ?_
    refine qG.br (P := ((dd : Nat) : Int) < 10) (pc1 := 12) (pc2 := 10) (st1 := []) rfl (fun h2 => ?_) (fun h2 => ?_)
    · skip
      refine qG.blk 2 (pc' := 16) (ls' := [(2, 69), (0, ((dd : Nat) : Int)), (0, lit), (9, 0), (9, 0)]) (st' := [(2, w 69 4)]) (w' := w) (n' := 142) rfl ?_
      rw [show w 69 4 = 72 from zref hI rfl rfl]
      refine qG.blk 1 (pc' := 17) (ls' := [(2, 69), (0, ((dd : Nat) : Int)), (0, lit), (9, 0), (9, 0)]) (st' := [(0, ((dd : Nat) : Int)), (2, 72)]) (w' := w) (n' := 142) rfl ?_
      refine qG.ar (P := 0 ≤ ((dd : Nat) : Int) ∧ ((dd : Nat) : Int) < ((10 : Nat) : Int)) (P2 := 0 < (72 : Int) ∧ (72 : Int) ≤ ((142 : Nat) : Int)) (pc' := 18) (ls' := [(2, 69), (0, ((dd : Nat) : Int)), (0, lit), (9, 0), (9, 0)]) (st' := [(0, w 72 dd)]) (w' := w) (n' := 142) rfl (by omega) (by decide) ?_
      rw [show w 72 dd = w 98 (10 * 1 + dd) from (hE 1 dd (by decide) (by omega)).1.2.1]
      refine qG.blk 2 (pc' := 20) (ls' := [(2, 69), (0, ((dd : Nat) : Int)), (0, lit), (0, w 98 (10 * 1 + dd)), (9, 0)]) (st' := [(0, lit)]) (w' := w) (n' := 142) rfl ?_
      refine qG.br (P := lit = 0) (pc1 := 32) (pc2 := 23) (st1 := []) rfl (fun hl => ?_) (fun hl => ?_)
      · skip
        refine qG.blk 1 (pc' := 33) (ls' := [(2, 69), (0, ((dd : Nat) : Int)), (0, lit), (0, w 98 (10 * 1 + dd)), (9, 0)]) (st' := [(0, w 98 (10 * 1 + dd))]) (w' := w) (n' := 142) rfl ?_
        refine qG.ret rfl rfl ?_
        subst hQ9
        first | exact ⟨congrArg (Prod.mk 0) (show (0 : Int) = shD w 1 dd lit from (if_neg (by omega)).symm), rfl, rfl⟩ | exact ⟨congrArg (Prod.mk 0) (show _ = shD w 1 dd lit from by unfold shD; rw [if_pos (by omega)]; unfold thrF; first | (rw [if_pos hl]; done) | (rw [if_neg hl, if_neg hf]; done) | (rw [if_neg hl, if_pos hf]; exact shX_eq (hE 1 dd (by decide) (by omega)).2 (w96_in hI 1))), rfl, rfl⟩
      · skip
        refine qG.blk 2 (pc' := 27) (ls' := [(2, 69), (0, ((dd : Nat) : Int)), (0, lit), (0, w 98 (10 * 1 + dd)), (9, 0)]) (st' := [(2, w 69 5)]) (w' := w) (n' := 142) rfl ?_
        rw [show w 69 5 = 73 from zref hI rfl rfl]
        refine qG.blk 1 (pc' := 28) (ls' := [(2, 69), (0, ((dd : Nat) : Int)), (0, lit), (0, w 98 (10 * 1 + dd)), (9, 0)]) (st' := [(0, ((dd : Nat) : Int)), (2, 73)]) (w' := w) (n' := 142) rfl ?_
        refine qG.ar (P := 0 ≤ ((dd : Nat) : Int) ∧ ((dd : Nat) : Int) < ((10 : Nat) : Int)) (P2 := 0 < (73 : Int) ∧ (73 : Int) ≤ ((142 : Nat) : Int)) (pc' := 29) (ls' := [(2, 69), (0, ((dd : Nat) : Int)), (0, lit), (0, w 98 (10 * 1 + dd)), (9, 0)]) (st' := [(0, w 73 dd)]) (w' := w) (n' := 142) rfl (by omega) (by decide) ?_
        rw [show w 73 dd = w 100 (10 * 1 + dd) from (hE 1 dd (by decide) (by omega)).1.2.2]
        refine qG.br (P := w 100 (10 * 1 + dd) = 0) (pc1 := 34) (pc2 := 32) (st1 := []) rfl (fun hf => ?_) (fun hf => ?_)
        · skip
          refine qG.blk 3 (pc' := 39) (ls' := [(2, 69), (0, ((dd : Nat) : Int)), (0, lit), (0, w 98 (10 * 1 + dd)), (9, 0)]) (st' := [(0, w 69 0), (0, w 98 (10 * 1 + dd))]) (w' := w) (n' := 142) rfl ?_
          rw [show w 69 0 = w 96 1 from hK]
          refine qG.blk 12 (pc' := 56) (ls' := [(2, 69), (0, ((dd : Nat) : Int)), (0, lit), (0, w 98 (10 * 1 + dd)), (0, qand (w 98 (10 * 1 + dd)) (qxor (w 96 1) (-1)))]) (st' := [(0, qush (qand (w 98 (10 * 1 + dd)) (qxor (w 96 1) (-1))) 8), (0, qor (w 98 (10 * 1 + dd)) (qshl (qand (w 98 (10 * 1 + dd)) (qxor (w 96 1) (-1))) 8))]) (w' := w) (n' := 142) rfl ?_
          refine qG.blk 3 (pc' := 60) (ls' := [(2, 69), (0, ((dd : Nat) : Int)), (0, lit), (0, w 98 (10 * 1 + dd)), (0, qand (w 98 (10 * 1 + dd)) (qxor (w 96 1) (-1)))]) (st' := [(0, qand (qor (qor (w 98 (10 * 1 + dd)) (qshl (qand (w 98 (10 * 1 + dd)) (qxor (w 96 1) (-1))) 8)) (qush (qand (w 98 (10 * 1 + dd)) (qxor (w 96 1) (-1))) 8)) 65535)]) (w' := w) (n' := 142) rfl ?_
          refine qG.ret rfl rfl ?_
          subst hQ9
          first | exact ⟨congrArg (Prod.mk 0) (show (0 : Int) = shD w 1 dd lit from (if_neg (by omega)).symm), rfl, rfl⟩ | exact ⟨congrArg (Prod.mk 0) (show _ = shD w 1 dd lit from by unfold shD; rw [if_pos (by omega)]; unfold thrF; first | (rw [if_pos hl]; done) | (rw [if_neg hl, if_neg hf]; done) | (rw [if_neg hl, if_pos hf]; exact shX_eq (hE 1 dd (by decide) (by omega)).2 (w96_in hI 1))), rfl, rfl⟩
        · skip
          refine qG.blk 1 (pc' := 33) (ls' := [(2, 69), (0, ((dd : Nat) : Int)), (0, lit), (0, w 98 (10 * 1 + dd)), (9, 0)]) (st' := [(0, w 98 (10 * 1 + dd))]) (w' := w) (n' := 142) rfl ?_
          refine qG.ret rfl rfl ?_
          subst hQ9
          first | exact ⟨congrArg (Prod.mk 0) (show (0 : Int) = shD w 1 dd lit from (if_neg (by omega)).symm), rfl, rfl⟩ | exact ⟨congrArg (Prod.mk 0) (show _ = shD w 1 dd lit from by unfold shD; rw [if_pos (by omega)]; unfold thrF; first | (rw [if_pos hl]; done) | (rw [if_neg hl, if_neg hf]; done) | (rw [if_neg hl, if_pos hf]; exact shX_eq (hE 1 dd (by decide) (by omega)).2 (w96_in hI 1))), rfl, rfl⟩
    · skip
      refine qG.blk 1 (pc' := 11) (ls' := [(2, 69), (0, ((dd : Nat) : Int)), (0, lit), (9, 0), (9, 0)]) (st' := [(0, 0)]) (w' := w) (n' := 142) rfl ?_
      refine qG.ret rfl rfl ?_
      subst hQ9
      first | exact ⟨congrArg (Prod.mk 0) (show (0 : Int) = shD w 1 dd lit from (if_neg (by omega)).symm), rfl, rfl⟩ | exact ⟨congrArg (Prod.mk 0) (show _ = shD w 1 dd lit from by unfold shD; rw [if_pos (by omega)]; unfold thrF; first | (rw [if_pos hl]; done) | (rw [if_neg hl, if_neg hf]; done) | (rw [if_neg hl, if_pos hf]; exact shX_eq (hE 1 dd (by decide) (by omega)).2 (w96_in hI 1))), rfl, rfl⟩
theorem K_shown74 {d : Nat} (hd : 0 ≤ d) (dd : Nat) (lit : Int) (w : qW) (hI : yInv zgf zga zra zSp w) (hK : w 74 0 = w 96 2) (hE : JE w) : qG none d 27 0 [(2, 74), (0, ((dd : Nat) : Int)), (0, lit), (9, 0), (9, 0)] [] w 142 (fun (r : qV) (w1 : qW) (n1 : Nat) => r = (0, shD w 2 dd lit) ∧ w1 = w ∧ n1 = 142) := by
  generalize hQ9 : (fun (r : qV) (w1 : qW) (n1 : Nat) => r = (0, shD w 2 dd lit) ∧ w1 = w ∧ n1 = 142) = Q9
  refine qG.blk 1 (pc' := 1) (ls' := [(2, 74), (0, ((dd : Nat) : Int)), (0, lit), (9, 0), (9, 0)]) (st' := [(0, ((dd : Nat) : Int))]) (w' := w) (n' := 142) rfl ?_
  refine qG.br (P := ((dd : Nat) : Int) < 0) (pc1 := 10) (pc2 := 4) (st1 := []) rfl (fun h1 => ?_) (fun h1 => ?_)
  · skip
    refine qG.blk 1 (pc' := 11) (ls' := [(2, 74), (0, ((dd : Nat) : Int)), (0, lit), (9, 0), (9, 0)]) (st' := [(0, 0)]) (w' := w) (n' := 142) rfl ?_
    refine qG.ret rfl rfl ?_
    subst hQ9
    first | exact ⟨congrArg (Prod.mk 0) (show (0 : Int) = shD w 2 dd lit from (if_neg (by omega)).symm), rfl, rfl⟩ | exact ⟨congrArg (Prod.mk 0) (show _ = shD w 2 dd lit from by unfold shD; rw [if_pos (by omega)]; unfold thrF; first | (rw [if_pos hl]; done) | (rw [if_neg hl, if_neg hf]; done) | (rw [if_neg hl, if_pos hf]; exact shX_eq (hE 2 dd (by decide) (by omega)).2 (w96_in hI 2))), rfl, rfl⟩
  · skip
    refine qG.blk 2 (pc' := 7) (ls' := [(2, 74), (0, ((dd : Nat) : Int)), (0, lit), (9, 0), (9, 0)]) (st' := [(0, 10), (0, ((dd : Nat) : Int))]) (w' := w) (n' := 142) rfl ?_
    refine qG.br (P := ((dd : Nat) : Int) < 10) (pc1 := 12) (pc2 := 10) (st1 := []) rfl (fun h2 => ?_) (fun h2 => ?_)
    · skip
      refine qG.blk 2 (pc' := 16) (ls' := [(2, 74), (0, ((dd : Nat) : Int)), (0, lit), (9, 0), (9, 0)]) (st' := [(2, w 74 4)]) (w' := w) (n' := 142) rfl ?_
      rw [show w 74 4 = 77 from zref hI rfl rfl]
      refine qG.blk 1 (pc' := 17) (ls' := [(2, 74), (0, ((dd : Nat) : Int)), (0, lit), (9, 0), (9, 0)]) (st' := [(0, ((dd : Nat) : Int)), (2, 77)]) (w' := w) (n' := 142) rfl ?_
      refine qG.ar (P := 0 ≤ ((dd : Nat) : Int) ∧ ((dd : Nat) : Int) < ((10 : Nat) : Int)) (P2 := 0 < (77 : Int) ∧ (77 : Int) ≤ ((142 : Nat) : Int)) (pc' := 18) (ls' := [(2, 74), (0, ((dd : Nat) : Int)), (0, lit), (9, 0), (9, 0)]) (st' := [(0, w 77 dd)]) (w' := w) (n' := 142) rfl (by omega) (by decide) ?_
      rw [show w 77 dd = w 98 (10 * 2 + dd) from (hE 2 dd (by decide) (by omega)).1.2.1]
      refine qG.blk 2 (pc' := 20) (ls' := [(2, 74), (0, ((dd : Nat) : Int)), (0, lit), (0, w 98 (10 * 2 + dd)), (9, 0)]) (st' := [(0, lit)]) (w' := w) (n' := 142) rfl ?_
      refine qG.br (P := lit = 0) (pc1 := 32) (pc2 := 23) (st1 := []) rfl (fun hl => ?_) (fun hl => ?_)
      · skip
        refine qG.blk 1 (pc' := 33) (ls' := [(2, 74), (0, ((dd : Nat) : Int)), (0, lit), (0, w 98 (10 * 2 + dd)), (9, 0)]) (st' := [(0, w 98 (10 * 2 + dd))]) (w' := w) (n' := 142) rfl ?_
        refine qG.ret rfl rfl ?_
        subst hQ9
        first | exact ⟨congrArg (Prod.mk 0) (show (0 : Int) = shD w 2 dd lit from (if_neg (by omega)).symm), rfl, rfl⟩ | exact ⟨congrArg (Prod.mk 0) (show _ = shD w 2 dd lit from by unfold shD; rw [if_pos (by omega)]; unfold thrF; first | (rw [if_pos hl]; done) | (rw [if_neg hl, if_neg hf]; done) | (rw [if_neg hl, if_pos hf]; exact shX_eq (hE 2 dd (by decide) (by omega)).2 (w96_in hI 2))), rfl, rfl⟩
      · skip
        refine qG.blk 2 (pc' := 27) (ls' := [(2, 74), (0, ((dd : Nat) : Int)), (0, lit), (0, w 98 (10 * 2 + dd)), (9, 0)]) (st' := [(2, w 74 5)]) (w' := w) (n' := 142) rfl ?_
        rw [show w 74 5 = 78 from zref hI rfl rfl]
        refine qG.blk 1 (pc' := 28) (ls' := [(2, 74), (0, ((dd : Nat) : Int)), (0, lit), (0, w 98 (10 * 2 + dd)), (9, 0)]) (st' := [(0, ((dd : Nat) : Int)), (2, 78)]) (w' := w) (n' := 142) rfl ?_
        refine qG.ar (P := 0 ≤ ((dd : Nat) : Int) ∧ ((dd : Nat) : Int) < ((10 : Nat) : Int)) (P2 := 0 < (78 : Int) ∧ (78 : Int) ≤ ((142 : Nat) : Int)) (pc' := 29) (ls' := [(2, 74), (0, ((dd : Nat) : Int)), (0, lit), (0, w 98 (10 * 2 + dd)), (9, 0)]) (st' := [(0, w 78 dd)]) (w' := w) (n' := 142) rfl (by omega) (by decide) ?_
        rw [show w 78 dd = w 100 (10 * 2 + dd) from (hE 2 dd (by decide) (by omega)).1.2.2]
        refine qG.br (P := w 100 (10 * 2 + dd) = 0) (pc1 := 34) (pc2 := 32) (st1 := []) rfl (fun hf => ?_) (fun hf => ?_)
        · skip
          refine qG.blk 3 (pc' := 39) (ls' := [(2, 74), (0, ((dd : Nat) : Int)), (0, lit), (0, w 98 (10 * 2 + dd)), (9, 0)]) (st' := [(0, w 74 0), (0, w 98 (10 * 2 + dd))]) (w' := w) (n' := 142) rfl ?_
          rw [show w 74 0 = w 96 2 from hK]
          refine qG.blk 12 (pc' := 56) (ls' := [(2, 74), (0, ((dd : Nat) : Int)), (0, lit), (0, w 98 (10 * 2 + dd)), (0, qand (w 98 (10 * 2 + dd)) (qxor (w 96 2) (-1)))]) (st' := [(0, qush (qand (w 98 (10 * 2 + dd)) (qxor (w 96 2) (-1))) 8), (0, qor (w 98 (10 * 2 + dd)) (qshl (qand (w 98 (10 * 2 + dd)) (qxor (w 96 2) (-1))) 8))]) (w' := w) (n' := 142) rfl ?_
          refine qG.blk 3 (pc' := 60) (ls' := [(2, 74), (0, ((dd : Nat) : Int)), (0, lit), (0, w 98 (10 * 2 + dd)), (0, qand (w 98 (10 * 2 + dd)) (qxor (w 96 2) (-1)))]) (st' := [(0, qand (qor (qor (w 98 (10 * 2 + dd)) (qshl (qand (w 98 (10 * 2 + dd)) (qxor (w 96 2) (-1))) 8)) (qush (qand (w 98 (10 * 2 + dd)) (qxor (w 96 2) (-1))) 8)) 65535)]) (w' := w) (n' := 142) rfl ?_
          refine qG.ret rfl rfl ?_
          subst hQ9
          first | exact ⟨congrArg (Prod.mk 0) (show (0 : Int) = shD w 2 dd lit from (if_neg (by omega)).symm), rfl, rfl⟩ | exact ⟨congrArg (Prod.mk 0) (show _ = shD w 2 dd lit from by unfold shD; rw [if_pos (by omega)]; unfold thrF; first | (rw [if_pos hl]; done) | (rw [if_neg hl, if_neg hf]; done) | (rw [if_neg hl, if_pos hf]; exact shX_eq (hE 2 dd (by decide) (by omega)).2 (w96_in hI 2))), rfl, rfl⟩
        · skip
          refine qG.blk 1 (pc' := 33) (ls' := [(2, 74), (0, ((dd : Nat) : Int)), (0, lit), (0, w 98 (10 * 2 + dd)), (9, 0)]) (st' := [(0, w 98 (10 * 2 + dd))]) (w' := w) (n' := 142) rfl ?_
          refine qG.ret rfl rfl ?_
          subst hQ9
          first | exact ⟨congrArg (Prod.mk 0) (show (0 : Int) = shD w 2 dd lit from (if_neg (by omega)).symm), rfl, rfl⟩ | exact ⟨congrArg (Prod.mk 0) (show _ = shD w 2 dd lit from by unfold shD; rw [if_pos (by omega)]; unfold thrF; first | (rw [if_pos hl]; done) | (rw [if_neg hl, if_neg hf]; done) | (rw [if_neg hl, if_pos hf]; exact shX_eq (hE 2 dd (by decide) (by omega)).2 (w96_in hI 2))), rfl, rfl⟩
    · skip
      refine qG.blk 1 (pc' := 11) (ls' := [(2, 74), (0, ((dd : Nat) : Int)), (0, lit), (9, 0), (9, 0)]) (st' := [(0, 0)]) (w' := w) (n' := 142) rfl ?_
      refine qG.ret rfl rfl ?_
      subst hQ9
      first | exact ⟨congrArg (Prod.mk 0) (show (0 : Int) = shD w 2 dd lit from (if_neg (by omega)).symm), rfl, rfl⟩ | exact ⟨congrArg (Prod.mk 0) (show _ = shD w 2 dd lit from by unfold shD; rw [if_pos (by omega)]; unfold thrF; first | (rw [if_pos hl]; done) | (rw [if_neg hl, if_neg hf]; done) | (rw [if_neg hl, if_pos hf]; exact shX_eq (hE 2 dd (by decide) (by omega)).2 (w96_in hI 2))), rfl, rfl⟩
