/-! the reference's comesTo, weighs, isMan, reason, pamphlet: they end -/
noncomputable def PL : List Nat := [115]
noncomputable def RSM : List Nat := [115, 116, 38095, 39095, 40095, 41095, 42095, 43095, 44095, 101, 102, 103, 9095, 10095, 117, 118, 47095, 119]
theorem AW.mono {m m2 : List Nat} {w w1 : qW} (h : AW m w w1) (hm : ysubm m m2 = true) : AW m2 w w1 := ⟨h.1, fun p j hp => h.2 p j (fun k => ysubm_ok hm k (hp k))⟩
theorem AW.pile {w w1 : qW} {j : Nat} {v : Int} (h : AW PL w w1) (hv : yin (-2147483648, 2147483647) v) : AW PL w (qup w1 115 j v) := ⟨zup_a h.1 (b := (-2147483648, 2147483647)) rfl rfl hv, fun p q hp => by
  rw [qup_ne (fun z => by have := hp (by omega); rw [z] at this; cases this)]
  exact h.2 p q hp⟩
theorem AW.a {m : List Nat} {w w1 : qW} (h : AW m w w1) {p : Nat} (hp : p < 1000) (hf : m.all (fun e => !Nat.beq (e % 1000) p) = true) (j : Nat) : w1 p j = w p j := h.2 p j (fun _ => ymo_far hp hf j)
theorem S3.aw {m : List Nat} {w w1 : qW} (h : S3 w) (a : AW m w w1) (h8 : ymo 95 8 m = false) (h2 : m.all (fun e => !Nat.beq (e % 1000) 102) = true) (h3 : m.all (fun e => !Nat.beq (e % 1000) 103) = true) : S3 w1 := h.cong (a.2 95 8 (fun _ => h8)) (a.a (by decide) h2) (a.a (by decide) h3)
theorem Sp2.aw {m : List Nat} {w w1 : qW} (h : Sp2 w) (a : AW m w w1) (h8 : ymo 95 22 m = false) (h2 : m.all (fun e => !Nat.beq (e % 1000) 111) = true) (h3 : m.all (fun e => !Nat.beq (e % 1000) 112) = true) : Sp2 w1 := h.cong (a.2 95 22 (fun _ => h8)) (a.a (by decide) h2) (a.a (by decide) h3)
theorem Sp1.aw {m : List Nat} {w w1 : qW} (h : Sp1 w) (a : AW m w w1) (h2 : m.all (fun e => !Nat.beq (e % 1000) 104) = true) (h3 : m.all (fun e => !Nat.beq (e % 1000) 105) = true) : Sp1 w1 := h.cong (a.a (by decide) h2) (a.a (by decide) h3)
theorem run_st {f : Nat → Int} {b e i h k : Nat} (hb : b ≤ i) (hi : i < e) (h1 : runS f b (i - b) 0 = some h) (h2 : runS f b (e - b) 0 = some k) : ∃ g, stepH (f (2 * i)) (f (2 * i + 1)) h = some g ∧ runS f b (i + 1 - b) 0 = some g := by
  have h3 := runS_app (i - b) (m := e - i) h1
  rw [show i - b + (e - i) = e - b by omega, h2, show b + (i - b) = i by omega, show e - i = (e - i - 1) + 1 by omega] at h3
  have h3 : some k = (match stepH (f (2 * i)) (f (2 * i + 1)) h with
    | some h' => runS f (i + 1) (e - i - 1) h'
    | none => none) := h3
  have h4 := runS_app (i - b) (m := 1) h1
  rw [show i - b + 1 = i + 1 - b by omega, show b + (i - b) = i by omega] at h4
  have h4 : runS f b (i + 1 - b) 0 = (match stepH (f (2 * i)) (f (2 * i + 1)) h with
    | some h' => some h'
    | none => none) := h4
  cases hs : stepH (f (2 * i)) (f (2 * i + 1)) h with
  | none => rw [hs] at h3; cases h3
  | some g => rw [hs] at h4; exact ⟨g, rfl, h4⟩
theorem step_c {s v : Int} {h g : Nat} (e : stepH s v h = some g) : (s < 8 → g = h + 1) ∧ (¬ s < 8 → s = 11 → 1 ≤ h ∧ 1 ≤ v ∧ g = h) ∧ (¬ s < 8 → ¬ s = 11 → s = 15 → 1 ≤ h ∧ g = h) ∧ (¬ s < 8 → ¬ s = 11 → ¬ s = 15 → 2 ≤ h ∧ g + 1 = h) := by
  unfold stepH at e
  refine ⟨fun a => ?_, fun a b => ?_, fun a b c => ?_, fun a b c => ?_⟩
  · rw [if_pos a] at e; cases e; rfl
  · rw [if_neg a, if_pos b] at e
    split at e
    · cases e; rename_i z; exact ⟨z.1, z.2, rfl⟩
    · cases e
  · rw [if_neg a, if_neg b, if_pos c] at e
    split at e
    · cases e; rename_i z; exact ⟨z, rfl⟩
    · cases e
  · rw [if_neg a, if_neg b, if_neg c] at e
    split at e
    · cases e; rename_i z; exact ⟨z, by omega⟩
    · cases e
theorem K_comesTo {d : Nat} (hd : 3 ≤ d) (b e : Nat) (hbe : b ≤ e) (he : e ≤ 610) (w : qW) (hI : yInv zgf zga zra zSp w) (hrun : runS (w 112) b (e - b) 0 = some 1) : qG none d 267 0 [(2, 95), (0, ((b : Nat) : Int)), (0, ((e : Nat) : Int)), (9, 0), (9, 0), (9, 0), (9, 0)] [] w 142 (fun (r : qV) (w1 : qW) (n1 : Nat) => n1 = 142 ∧ (∃ x, r = (0, x) ∧ -2147483648 ≤ x ∧ x ≤ 2147483647) ∧ AW PL w w1) := by
  generalize hQ9 : (fun (r : qV) (w1 : qW) (n1 : Nat) => n1 = 142 ∧ (∃ x, r = (0, x) ∧ -2147483648 ≤ x ∧ x ≤ 2147483647) ∧ AW PL w w1) = Q9
  obtain ⟨d, rfl⟩ : ∃ d9, d = d9 + 1 := ⟨d - 1, by omega⟩
  refine qG.blk 4 (pc' := 5) (ls' := [(2, 95), (0, ((b : Nat) : Int)), (0, ((e : Nat) : Int)), (0, 0), (0, ((b : Nat) : Int)), (9, 0), (9, 0)]) (st' := []) (w' := w) (n' := 142) rfl ?_
  have L5 : ∀ (m9 : Nat) (i h : Nat) (w9 : qW) (x5 x6 : qV), e - i = m9 → (b ≤ i ∧ i ≤ e ∧ runS (w 112) b (i - b) 0 = some h ∧ h ≤ i - b ∧ AW PL w w9) → qG none (d + 1) 267 5 [(2, 95), (0, ((b : Nat) : Int)), (0, ((e : Nat) : Int)), (0, ((h : Nat) : Int)), (0, ((i : Nat) : Int)), x5, x6] [] w9 142 Q9 := by
    intro m9
    induction m9 using Nat.strongRecOn with
    | ind m9 ih5 =>
    intro i h w9 x5 x6 hm5 hI5
    refine qG.blk 2 (pc' := 8) (ls' := [(2, 95), (0, ((b : Nat) : Int)), (0, ((e : Nat) : Int)), (0, ((h : Nat) : Int)), (0, ((i : Nat) : Int)), x5, x6]) (st' := [(0, ((e : Nat) : Int)), (0, ((i : Nat) : Int))]) (w' := w9) (n' := 142) rfl ?_
    refine qG.br (P := ((i : Nat) : Int) < ((e : Nat) : Int)) (pc1 := 11) (pc2 := 149) (st1 := []) rfl (fun hie => ?_) (fun hie => ?_)
    · skip
      obtain ⟨g9, hst, hr2⟩ := run_st hI5.1 (by omega) hI5.2.2.1 hrun
      have hC := step_c hst
      have hq1 := hI.2.1 112 (2 * i) (-2147483648, 2147483647) rfl rfl
      have hq2 := hI.2.1 112 (2 * i + 1) (-2147483648, 2147483647) rfl rfl
      have q1 : (-2147483648 : Int) ≤ w 112 (2 * i) := hq1.1
      have q2 : w 112 (2 * i) ≤ (2147483647 : Int) := hq1.2
      have q3 : (-2147483648 : Int) ≤ w 112 (2 * i + 1) := hq2.1
      have q4 : w 112 (2 * i + 1) ≤ (2147483647 : Int) := hq2.2
      have hpr : ∀ j, (-2147483648 : Int) ≤ w9 115 j ∧ w9 115 j ≤ 2147483647 := fun j => hI5.2.2.2.2.1.2.1 115 j (-2147483648, 2147483647) rfl rfl
      have hp1 := hpr (h - 1)
      have hp2 := hpr (h - 2)
      refine qG.blk 2 (pc' := 15) (ls' := [(2, 95), (0, ((b : Nat) : Int)), (0, ((e : Nat) : Int)), (0, ((h : Nat) : Int)), (0, ((i : Nat) : Int)), x5, x6]) (st' := [(2, w9 95 18)]) (w' := w9) (n' := 142) rfl ?_
      rw [show w9 95 18 = 112 from zref hI5.2.2.2.2.1 rfl rfl]
      refine qG.blk 3 (pc' := 19) (ls' := [(2, 95), (0, ((b : Nat) : Int)), (0, ((e : Nat) : Int)), (0, ((h : Nat) : Int)), (0, ((i : Nat) : Int)), x5, x6]) (st' := [(0, wrp (2 * ((i : Nat) : Int))), (2, 112)]) (w' := w9) (n' := 142) rfl ?_
      rw [show wrp (2 * ((i : Nat) : Int)) = ((2 * i : Nat) : Int) from by rw [wrp_id (by omega) (by omega)]; omega]
      refine qG.ild (m := 1220) rfl rfl (by omega) (by decide) ?_
      show qG none (d + 1) 267 20 [(2, 95), (0, ((b : Nat) : Int)), (0, ((e : Nat) : Int)), (0, ((h : Nat) : Int)), (0, ((i : Nat) : Int)), x5, x6] [(0, w9 112 (2 * i))] w9 142 Q9
      rw [show w9 112 (2 * i) = w 112 (2 * i) from hI5.2.2.2.2.a (p := 112) (by decide) (by decide) ((2 * i))]
      refine qG.blk 3 (pc' := 26) (ls' := [(2, 95), (0, ((b : Nat) : Int)), (0, ((e : Nat) : Int)), (0, ((h : Nat) : Int)), (0, ((i : Nat) : Int)), (0, w 112 (2 * i)), x6]) (st' := [(2, w9 95 18)]) (w' := w9) (n' := 142) rfl ?_
      rw [show w9 95 18 = 112 from zref hI5.2.2.2.2.1 rfl rfl]
      refine qG.blk 3 (pc' := 30) (ls' := [(2, 95), (0, ((b : Nat) : Int)), (0, ((e : Nat) : Int)), (0, ((h : Nat) : Int)), (0, ((i : Nat) : Int)), (0, w 112 (2 * i)), x6]) (st' := [(0, wrp (2 * ((i : Nat) : Int))), (2, 112)]) (w' := w9) (n' := 142) rfl ?_
      rw [show wrp (2 * ((i : Nat) : Int)) = ((2 * i : Nat) : Int) from by rw [wrp_id (by omega) (by omega)]; omega]
      refine qG.blk 2 (pc' := 32) (ls' := [(2, 95), (0, ((b : Nat) : Int)), (0, ((e : Nat) : Int)), (0, ((h : Nat) : Int)), (0, ((i : Nat) : Int)), (0, w 112 (2 * i)), x6]) (st' := [(0, wrp (((2 * i : Nat) : Int) + 1)), (2, 112)]) (w' := w9) (n' := 142) rfl ?_
      rw [show wrp (((2 * i : Nat) : Int) + 1) = ((2 * i + 1 : Nat) : Int) from by rw [wrp_id (by omega) (by omega)]; omega]
      refine qG.ild (m := 1220) rfl rfl (by omega) (by decide) ?_
      show qG none (d + 1) 267 33 [(2, 95), (0, ((b : Nat) : Int)), (0, ((e : Nat) : Int)), (0, ((h : Nat) : Int)), (0, ((i : Nat) : Int)), (0, w 112 (2 * i)), x6] [(0, w9 112 (2 * i + 1))] w9 142 Q9
      rw [show w9 112 (2 * i + 1) = w 112 (2 * i + 1) from hI5.2.2.2.2.a (p := 112) (by decide) (by decide) ((2 * i + 1))]
      refine qG.blk 3 (pc' := 39) (ls' := [(2, 95), (0, ((b : Nat) : Int)), (0, ((e : Nat) : Int)), (0, ((h : Nat) : Int)), (0, ((i : Nat) : Int)), (0, w 112 (2 * i)), (0, w 112 (2 * i + 1))]) (st' := [(0, 8), (0, w 112 (2 * i))]) (w' := w9) (n' := 142) rfl ?_
      refine qG.br (P := w 112 (2 * i) < 8) (pc1 := 42) (pc2 := 62) (st1 := []) rfl (fun hs8 => ?_) (fun hs8 => ?_)
      · skip
        refine qG.blk 2 (pc' := 46) (ls' := [(2, 95), (0, ((b : Nat) : Int)), (0, ((e : Nat) : Int)), (0, ((h : Nat) : Int)), (0, ((i : Nat) : Int)), (0, w 112 (2 * i)), (0, w 112 (2 * i + 1))]) (st' := [(2, w9 95 21)]) (w' := w9) (n' := 142) rfl ?_
        rw [show w9 95 21 = 115 from zref hI5.2.2.2.2.1 rfl rfl]
        refine qG.blk 4 (pc' := 52) (ls' := [(2, 95), (0, ((b : Nat) : Int)), (0, ((e : Nat) : Int)), (0, ((h : Nat) : Int)), (0, ((i : Nat) : Int)), (0, w 112 (2 * i)), (0, w 112 (2 * i + 1))]) (st' := [(0, w 112 (2 * i + 1)), (0, w 112 (2 * i)), (2, 95), (0, ((h : Nat) : Int)), (2, 115)]) (w' := w9) (n' := 142) rfl ?_
        refine qG.call (t := 265) (na := 3) (sk := 1) (md := 1) (ls1 := [(2, 95), (0, w 112 (2 * i)), (0, w 112 (2 * i + 1))]) (r1 := [(0, ((h : Nat) : Int)), (2, 115)]) rfl rfl rfl rfl rfl (AW.use (c := C_R_fact.2) (as := [(2, 95), (0, w 112 (2 * i)), (0, w 112 (2 * i + 1))]) T_R_fact hI5.2.2.2.2 (show 2 ≤ d by omega) ⟨⟨rfl, by decide, by decide⟩, ⟨rfl, by omega, by omega⟩, ⟨rfl, by omega, by omega⟩, trivial⟩ rfl rfl (by decide +kernel)) ?_
        rintro _ w1 _ ⟨x1, rfl, hl1, hu1, hA1, rfl, hB1⟩
        have hl1 : ((-2147483648) : Int) ≤ x1 := hl1
        have hu1 : x1 ≤ (2147483647 : Int) := hu1
        show qG none (d + 1) 267 55 [(2, 95), (0, ((b : Nat) : Int)), (0, ((e : Nat) : Int)), (0, ((h : Nat) : Int)), (0, ((i : Nat) : Int)), (0, w 112 (2 * i)), (0, w 112 (2 * i + 1))] [(0, x1), (0, ((h : Nat) : Int)), (2, 115)] w1 142 Q9
        refine qG.ist (m := 620) rfl rfl (by omega) (by decide) ?_
        show qG none (d + 1) 267 56 [(2, 95), (0, ((b : Nat) : Int)), (0, ((e : Nat) : Int)), (0, ((h : Nat) : Int)), (0, ((i : Nat) : Int)), (0, w 112 (2 * i)), (0, w 112 (2 * i + 1))] [] (qup w1 115 h x1) 142 Q9
        refine qG.blk 1 (pc' := 59) (ls' := [(2, 95), (0, ((b : Nat) : Int)), (0, ((e : Nat) : Int)), (0, wrp (((h : Nat) : Int) + 1)), (0, ((i : Nat) : Int)), (0, w 112 (2 * i)), (0, w 112 (2 * i + 1))]) (st' := []) (w' := (qup w1 115 h x1)) (n' := 142) rfl ?_
        rw [show wrp (((h : Nat) : Int) + 1) = ((h + 1 : Nat) : Int) from wrp_id (by omega) (by omega)]
        refine qG.blk 2 (pc' := 146) (ls' := [(2, 95), (0, ((b : Nat) : Int)), (0, ((e : Nat) : Int)), (0, ((h + 1 : Nat) : Int)), (0, wrp (((i : Nat) : Int) + 1)), (0, w 112 (2 * i)), (0, w 112 (2 * i + 1))]) (st' := []) (w' := (qup w1 115 h x1)) (n' := 142) rfl ?_
        rw [show wrp (((i : Nat) : Int) + 1) = ((i + 1 : Nat) : Int) from wrp_id (by omega) (by omega)]
        refine qG.blk 1 (pc' := 5) (ls' := [(2, 95), (0, ((b : Nat) : Int)), (0, ((e : Nat) : Int)), (0, ((h + 1 : Nat) : Int)), (0, ((i + 1 : Nat) : Int)), (0, w 112 (2 * i)), (0, w 112 (2 * i + 1))]) (st' := []) (w' := (qup w1 115 h x1)) (n' := 142) rfl ?_
        exact ih5 _ (by omega) (i + 1) (h + 1) ((qup w1 115 h x1)) ((0, w 112 (2 * i))) ((0, w 112 (2 * i + 1))) rfl (⟨by omega, by omega, (show g9 = h + 1 from (by omega)) ▸ hr2, by omega, AW.pile hA1 ⟨hl1, hu1⟩⟩)
      · skip
        refine qG.blk 2 (pc' := 66) (ls' := [(2, 95), (0, ((b : Nat) : Int)), (0, ((e : Nat) : Int)), (0, ((h : Nat) : Int)), (0, ((i : Nat) : Int)), (0, w 112 (2 * i)), (0, w 112 (2 * i + 1))]) (st' := [(0, 11), (0, w 112 (2 * i))]) (w' := w9) (n' := 142) rfl ?_
        refine qG.br (P := w 112 (2 * i) = 11) (pc1 := 69) (pc2 := 85) (st1 := []) rfl (fun hs11 => ?_) (fun hs11 => ?_)
        · skip
          refine qG.blk 2 (pc' := 73) (ls' := [(2, 95), (0, ((b : Nat) : Int)), (0, ((e : Nat) : Int)), (0, ((h : Nat) : Int)), (0, ((i : Nat) : Int)), (0, w 112 (2 * i)), (0, w 112 (2 * i + 1))]) (st' := [(2, w9 95 21)]) (w' := w9) (n' := 142) rfl ?_
          rw [show w9 95 21 = 115 from zref hI5.2.2.2.2.1 rfl rfl]
          refine qG.blk 3 (pc' := 76) (ls' := [(2, 95), (0, ((b : Nat) : Int)), (0, ((e : Nat) : Int)), (0, ((h : Nat) : Int)), (0, ((i : Nat) : Int)), (0, w 112 (2 * i)), (0, w 112 (2 * i + 1))]) (st' := [(0, wrp (((h : Nat) : Int) - 1)), (2, 115)]) (w' := w9) (n' := 142) rfl ?_
          rw [show wrp (((h : Nat) : Int) - 1) = ((h - 1 : Nat) : Int) from by rw [wrp_id (by omega) (by omega)]; omega]
          refine qG.blk 1 (pc' := 77) (ls' := [(2, 95), (0, ((b : Nat) : Int)), (0, ((e : Nat) : Int)), (0, ((h : Nat) : Int)), (0, ((i : Nat) : Int)), (0, w 112 (2 * i)), (0, w 112 (2 * i + 1))]) (st' := [(0, ((h - 1 : Nat) : Int)), (2, 115), (0, ((h - 1 : Nat) : Int)), (2, 115)]) (w' := w9) (n' := 142) rfl ?_
          refine qG.ild (m := 620) rfl rfl (by omega) (by decide) ?_
          show qG none (d + 1) 267 78 [(2, 95), (0, ((b : Nat) : Int)), (0, ((e : Nat) : Int)), (0, ((h : Nat) : Int)), (0, ((i : Nat) : Int)), (0, w 112 (2 * i)), (0, w 112 (2 * i + 1))] [(0, w9 115 (h - 1)), (0, ((h - 1 : Nat) : Int)), (2, 115)] w9 142 Q9
          refine qG.blk 1 (pc' := 80) (ls' := [(2, 95), (0, ((b : Nat) : Int)), (0, ((e : Nat) : Int)), (0, ((h : Nat) : Int)), (0, ((i : Nat) : Int)), (0, w 112 (2 * i)), (0, w 112 (2 * i + 1))]) (st' := [(0, w 112 (2 * i + 1)), (0, w9 115 (h - 1)), (0, ((h - 1 : Nat) : Int)), (2, 115)]) (w' := w9) (n' := 142) rfl ?_
          refine qG.gn (P := w 112 (2 * i + 1) = 0) (pc' := 81) (ls' := [(2, 95), (0, ((b : Nat) : Int)), (0, ((e : Nat) : Int)), (0, ((h : Nat) : Int)), (0, ((i : Nat) : Int)), (0, w 112 (2 * i)), (0, w 112 (2 * i + 1))]) (st' := [(0, qdiv (w9 115 (h - 1)) (w 112 (2 * i + 1))), (0, ((h - 1 : Nat) : Int)), (2, 115)]) (w' := w9) (n' := 142) rfl (by omega) ?_
          refine qG.ist (m := 620) rfl rfl (by omega) (by decide) ?_
          show qG none (d + 1) 267 82 [(2, 95), (0, ((b : Nat) : Int)), (0, ((e : Nat) : Int)), (0, ((h : Nat) : Int)), (0, ((i : Nat) : Int)), (0, w 112 (2 * i)), (0, w 112 (2 * i + 1))] [] (qup w9 115 (h - 1) (qdiv (w9 115 (h - 1)) (w 112 (2 * i + 1)))) 142 Q9
          refine qG.blk 2 (pc' := 146) (ls' := [(2, 95), (0, ((b : Nat) : Int)), (0, ((e : Nat) : Int)), (0, ((h : Nat) : Int)), (0, wrp (((i : Nat) : Int) + 1)), (0, w 112 (2 * i)), (0, w 112 (2 * i + 1))]) (st' := []) (w' := (qup w9 115 (h - 1) (qdiv (w9 115 (h - 1)) (w 112 (2 * i + 1))))) (n' := 142) rfl ?_
          rw [show wrp (((i : Nat) : Int) + 1) = ((i + 1 : Nat) : Int) from wrp_id (by omega) (by omega)]
          refine qG.blk 1 (pc' := 5) (ls' := [(2, 95), (0, ((b : Nat) : Int)), (0, ((e : Nat) : Int)), (0, ((h : Nat) : Int)), (0, ((i + 1 : Nat) : Int)), (0, w 112 (2 * i)), (0, w 112 (2 * i + 1))]) (st' := []) (w' := (qup w9 115 (h - 1) (qdiv (w9 115 (h - 1)) (w 112 (2 * i + 1))))) (n' := 142) rfl ?_
          exact ih5 _ (by omega) (i + 1) (h) ((qup w9 115 (h - 1) (qdiv (w9 115 (h - 1)) (w 112 (2 * i + 1))))) ((0, w 112 (2 * i))) ((0, w 112 (2 * i + 1))) rfl (⟨by omega, by omega, (show g9 = h from (by omega)) ▸ hr2, by omega, AW.pile hI5.2.2.2.2 (wrp_32 _)⟩)
        · skip
          refine qG.blk 2 (pc' := 89) (ls' := [(2, 95), (0, ((b : Nat) : Int)), (0, ((e : Nat) : Int)), (0, ((h : Nat) : Int)), (0, ((i : Nat) : Int)), (0, w 112 (2 * i)), (0, w 112 (2 * i + 1))]) (st' := [(0, 15), (0, w 112 (2 * i))]) (w' := w9) (n' := 142) rfl ?_
          refine qG.br (P := w 112 (2 * i) = 15) (pc1 := 92) (pc2 := 113) (st1 := []) rfl (fun hs15 => ?_) (fun hs15 => ?_)
          · skip
            refine qG.blk 2 (pc' := 96) (ls' := [(2, 95), (0, ((b : Nat) : Int)), (0, ((e : Nat) : Int)), (0, ((h : Nat) : Int)), (0, ((i : Nat) : Int)), (0, w 112 (2 * i)), (0, w 112 (2 * i + 1))]) (st' := [(2, w9 95 21)]) (w' := w9) (n' := 142) rfl ?_
            rw [show w9 95 21 = 115 from zref hI5.2.2.2.2.1 rfl rfl]
            refine qG.blk 3 (pc' := 99) (ls' := [(2, 95), (0, ((b : Nat) : Int)), (0, ((e : Nat) : Int)), (0, ((h : Nat) : Int)), (0, ((i : Nat) : Int)), (0, w 112 (2 * i)), (0, w 112 (2 * i + 1))]) (st' := [(0, wrp (((h : Nat) : Int) - 1)), (2, 115)]) (w' := w9) (n' := 142) rfl ?_
            rw [show wrp (((h : Nat) : Int) - 1) = ((h - 1 : Nat) : Int) from by rw [wrp_id (by omega) (by omega)]; omega]
            refine qG.blk 3 (pc' := 104) (ls' := [(2, 95), (0, ((b : Nat) : Int)), (0, ((e : Nat) : Int)), (0, ((h : Nat) : Int)), (0, ((i : Nat) : Int)), (0, w 112 (2 * i)), (0, w 112 (2 * i + 1))]) (st' := [(2, w9 95 21), (0, 1), (0, ((h - 1 : Nat) : Int)), (2, 115)]) (w' := w9) (n' := 142) rfl ?_
            rw [show w9 95 21 = 115 from zref hI5.2.2.2.2.1 rfl rfl]
            refine qG.blk 3 (pc' := 107) (ls' := [(2, 95), (0, ((b : Nat) : Int)), (0, ((e : Nat) : Int)), (0, ((h : Nat) : Int)), (0, ((i : Nat) : Int)), (0, w 112 (2 * i)), (0, w 112 (2 * i + 1))]) (st' := [(0, wrp (((h : Nat) : Int) - 1)), (2, 115), (0, 1), (0, ((h - 1 : Nat) : Int)), (2, 115)]) (w' := w9) (n' := 142) rfl ?_
            rw [show wrp (((h : Nat) : Int) - 1) = ((h - 1 : Nat) : Int) from by rw [wrp_id (by omega) (by omega)]; omega]
            refine qG.ild (m := 620) rfl rfl (by omega) (by decide) ?_
            show qG none (d + 1) 267 108 [(2, 95), (0, ((b : Nat) : Int)), (0, ((e : Nat) : Int)), (0, ((h : Nat) : Int)), (0, ((i : Nat) : Int)), (0, w 112 (2 * i)), (0, w 112 (2 * i + 1))] [(0, w9 115 (h - 1)), (0, 1), (0, ((h - 1 : Nat) : Int)), (2, 115)] w9 142 Q9
            refine qG.blk 1 (pc' := 109) (ls' := [(2, 95), (0, ((b : Nat) : Int)), (0, ((e : Nat) : Int)), (0, ((h : Nat) : Int)), (0, ((i : Nat) : Int)), (0, w 112 (2 * i)), (0, w 112 (2 * i + 1))]) (st' := [(0, wrp (1 - (w9 115 (h - 1)))), (0, ((h - 1 : Nat) : Int)), (2, 115)]) (w' := w9) (n' := 142) rfl ?_
            refine qG.ist (m := 620) rfl rfl (by omega) (by decide) ?_
            show qG none (d + 1) 267 110 [(2, 95), (0, ((b : Nat) : Int)), (0, ((e : Nat) : Int)), (0, ((h : Nat) : Int)), (0, ((i : Nat) : Int)), (0, w 112 (2 * i)), (0, w 112 (2 * i + 1))] [] (qup w9 115 (h - 1) (wrp (1 - (w9 115 (h - 1))))) 142 Q9
            refine qG.blk 2 (pc' := 146) (ls' := [(2, 95), (0, ((b : Nat) : Int)), (0, ((e : Nat) : Int)), (0, ((h : Nat) : Int)), (0, wrp (((i : Nat) : Int) + 1)), (0, w 112 (2 * i)), (0, w 112 (2 * i + 1))]) (st' := []) (w' := (qup w9 115 (h - 1) (wrp (1 - (w9 115 (h - 1)))))) (n' := 142) rfl ?_
            rw [show wrp (((i : Nat) : Int) + 1) = ((i + 1 : Nat) : Int) from wrp_id (by omega) (by omega)]
            refine qG.blk 1 (pc' := 5) (ls' := [(2, 95), (0, ((b : Nat) : Int)), (0, ((e : Nat) : Int)), (0, ((h : Nat) : Int)), (0, ((i + 1 : Nat) : Int)), (0, w 112 (2 * i)), (0, w 112 (2 * i + 1))]) (st' := []) (w' := (qup w9 115 (h - 1) (wrp (1 - (w9 115 (h - 1)))))) (n' := 142) rfl ?_
            exact ih5 _ (by omega) (i + 1) (h) ((qup w9 115 (h - 1) (wrp (1 - (w9 115 (h - 1)))))) ((0, w 112 (2 * i))) ((0, w 112 (2 * i + 1))) rfl (⟨by omega, by omega, (show g9 = h from (by omega)) ▸ hr2, by omega, AW.pile hI5.2.2.2.2 (wrp_32 _)⟩)
          · skip
            refine qG.blk 1 (pc' := 116) (ls' := [(2, 95), (0, ((b : Nat) : Int)), (0, ((e : Nat) : Int)), (0, wrp (((h : Nat) : Int) + (-1))), (0, ((i : Nat) : Int)), (0, w 112 (2 * i)), (0, w 112 (2 * i + 1))]) (st' := []) (w' := w9) (n' := 142) rfl ?_
            rw [show wrp (((h : Nat) : Int) + (-1)) = ((h - 1 : Nat) : Int) from by rw [wrp_id (by omega) (by omega)]; omega]
            refine qG.blk 2 (pc' := 120) (ls' := [(2, 95), (0, ((b : Nat) : Int)), (0, ((e : Nat) : Int)), (0, ((h - 1 : Nat) : Int)), (0, ((i : Nat) : Int)), (0, w 112 (2 * i)), (0, w 112 (2 * i + 1))]) (st' := [(2, w9 95 21)]) (w' := w9) (n' := 142) rfl ?_
            rw [show w9 95 21 = 115 from zref hI5.2.2.2.2.1 rfl rfl]
            refine qG.blk 3 (pc' := 123) (ls' := [(2, 95), (0, ((b : Nat) : Int)), (0, ((e : Nat) : Int)), (0, ((h - 1 : Nat) : Int)), (0, ((i : Nat) : Int)), (0, w 112 (2 * i)), (0, w 112 (2 * i + 1))]) (st' := [(0, wrp (((h - 1 : Nat) : Int) - 1)), (2, 115)]) (w' := w9) (n' := 142) rfl ?_
            rw [show wrp (((h - 1 : Nat) : Int) - 1) = ((h - 2 : Nat) : Int) from by rw [wrp_id (by omega) (by omega)]; omega]
            refine qG.blk 3 (pc' := 129) (ls' := [(2, 95), (0, ((b : Nat) : Int)), (0, ((e : Nat) : Int)), (0, ((h - 1 : Nat) : Int)), (0, ((i : Nat) : Int)), (0, w 112 (2 * i)), (0, w 112 (2 * i + 1))]) (st' := [(2, w9 95 21), (0, w 112 (2 * i)), (0, ((h - 2 : Nat) : Int)), (2, 115)]) (w' := w9) (n' := 142) rfl ?_
            rw [show w9 95 21 = 115 from zref hI5.2.2.2.2.1 rfl rfl]
            refine qG.blk 3 (pc' := 132) (ls' := [(2, 95), (0, ((b : Nat) : Int)), (0, ((e : Nat) : Int)), (0, ((h - 1 : Nat) : Int)), (0, ((i : Nat) : Int)), (0, w 112 (2 * i)), (0, w 112 (2 * i + 1))]) (st' := [(0, wrp (((h - 1 : Nat) : Int) - 1)), (2, 115), (0, w 112 (2 * i)), (0, ((h - 2 : Nat) : Int)), (2, 115)]) (w' := w9) (n' := 142) rfl ?_
            rw [show wrp (((h - 1 : Nat) : Int) - 1) = ((h - 2 : Nat) : Int) from by rw [wrp_id (by omega) (by omega)]; omega]
            refine qG.ild (m := 620) rfl rfl (by omega) (by decide) ?_
            show qG none (d + 1) 267 133 [(2, 95), (0, ((b : Nat) : Int)), (0, ((e : Nat) : Int)), (0, ((h - 1 : Nat) : Int)), (0, ((i : Nat) : Int)), (0, w 112 (2 * i)), (0, w 112 (2 * i + 1))] [(0, w9 115 (h - 2)), (0, w 112 (2 * i)), (0, ((h - 2 : Nat) : Int)), (2, 115)] w9 142 Q9
            refine qG.blk 2 (pc' := 137) (ls' := [(2, 95), (0, ((b : Nat) : Int)), (0, ((e : Nat) : Int)), (0, ((h - 1 : Nat) : Int)), (0, ((i : Nat) : Int)), (0, w 112 (2 * i)), (0, w 112 (2 * i + 1))]) (st' := [(2, w9 95 21), (0, w9 115 (h - 2)), (0, w 112 (2 * i)), (0, ((h - 2 : Nat) : Int)), (2, 115)]) (w' := w9) (n' := 142) rfl ?_
            rw [show w9 95 21 = 115 from zref hI5.2.2.2.2.1 rfl rfl]
            refine qG.blk 1 (pc' := 138) (ls' := [(2, 95), (0, ((b : Nat) : Int)), (0, ((e : Nat) : Int)), (0, ((h - 1 : Nat) : Int)), (0, ((i : Nat) : Int)), (0, w 112 (2 * i)), (0, w 112 (2 * i + 1))]) (st' := [(0, ((h - 1 : Nat) : Int)), (2, 115), (0, w9 115 (h - 2)), (0, w 112 (2 * i)), (0, ((h - 2 : Nat) : Int)), (2, 115)]) (w' := w9) (n' := 142) rfl ?_
            refine qG.ild (m := 620) rfl rfl (by omega) (by decide) ?_
            show qG none (d + 1) 267 139 [(2, 95), (0, ((b : Nat) : Int)), (0, ((e : Nat) : Int)), (0, ((h - 1 : Nat) : Int)), (0, ((i : Nat) : Int)), (0, w 112 (2 * i)), (0, w 112 (2 * i + 1))] [(0, w9 115 (h - 1)), (0, w9 115 (h - 2)), (0, w 112 (2 * i)), (0, ((h - 2 : Nat) : Int)), (2, 115)] w9 142 Q9
            refine qG.call (t := 266) (na := 3) (sk := 0) (md := 0) (ls1 := [(0, w 112 (2 * i)), (0, w9 115 (h - 2)), (0, w9 115 (h - 1))]) (r1 := [(0, ((h - 2 : Nat) : Int)), (2, 115)]) rfl rfl rfl rfl rfl (AW.use (c := C_R_both.2) (as := [(0, w 112 (2 * i)), (0, w9 115 (h - 2)), (0, w9 115 (h - 1))]) T_R_both hI5.2.2.2.2 (show 0 ≤ d by omega) ⟨⟨rfl, q1, q2⟩, ⟨rfl, hp2.1, hp2.2⟩, ⟨rfl, hp1.1, hp1.2⟩, trivial⟩ rfl rfl (by decide +kernel)) ?_
            rintro _ w2 _ ⟨x2, rfl, hl2, hu2, hA2, rfl, hB2⟩
            have hl2 : ((-2147483648) : Int) ≤ x2 := hl2
            have hu2 : x2 ≤ (2147483647 : Int) := hu2
            show qG none (d + 1) 267 142 [(2, 95), (0, ((b : Nat) : Int)), (0, ((e : Nat) : Int)), (0, ((h - 1 : Nat) : Int)), (0, ((i : Nat) : Int)), (0, w 112 (2 * i)), (0, w 112 (2 * i + 1))] [(0, x2), (0, ((h - 2 : Nat) : Int)), (2, 115)] w2 142 Q9
            refine qG.ist (m := 620) rfl rfl (by omega) (by decide) ?_
            show qG none (d + 1) 267 143 [(2, 95), (0, ((b : Nat) : Int)), (0, ((e : Nat) : Int)), (0, ((h - 1 : Nat) : Int)), (0, ((i : Nat) : Int)), (0, w 112 (2 * i)), (0, w 112 (2 * i + 1))] [] (qup w2 115 (h - 2) x2) 142 Q9
            refine qG.blk 1 (pc' := 146) (ls' := [(2, 95), (0, ((b : Nat) : Int)), (0, ((e : Nat) : Int)), (0, ((h - 1 : Nat) : Int)), (0, wrp (((i : Nat) : Int) + 1)), (0, w 112 (2 * i)), (0, w 112 (2 * i + 1))]) (st' := []) (w' := (qup w2 115 (h - 2) x2)) (n' := 142) rfl ?_
            rw [show wrp (((i : Nat) : Int) + 1) = ((i + 1 : Nat) : Int) from wrp_id (by omega) (by omega)]
            refine qG.blk 1 (pc' := 5) (ls' := [(2, 95), (0, ((b : Nat) : Int)), (0, ((e : Nat) : Int)), (0, ((h - 1 : Nat) : Int)), (0, ((i + 1 : Nat) : Int)), (0, w 112 (2 * i)), (0, w 112 (2 * i + 1))]) (st' := []) (w' := (qup w2 115 (h - 2) x2)) (n' := 142) rfl ?_
            exact ih5 _ (by omega) (i + 1) (h - 1) ((qup w2 115 (h - 2) x2)) ((0, w 112 (2 * i))) ((0, w 112 (2 * i + 1))) rfl (⟨by omega, by omega, (show g9 = h - 1 from (by omega)) ▸ hr2, by omega, AW.pile hA2 ⟨hl2, hu2⟩⟩)
    · skip
      refine qG.blk 2 (pc' := 153) (ls' := [(2, 95), (0, ((b : Nat) : Int)), (0, ((e : Nat) : Int)), (0, ((h : Nat) : Int)), (0, ((i : Nat) : Int)), x5, x6]) (st' := [(2, w9 95 21)]) (w' := w9) (n' := 142) rfl ?_
      rw [show w9 95 21 = 115 from zref hI5.2.2.2.2.1 rfl rfl]
      refine qG.blk 1 (pc' := 154) (ls' := [(2, 95), (0, ((b : Nat) : Int)), (0, ((e : Nat) : Int)), (0, ((h : Nat) : Int)), (0, ((i : Nat) : Int)), x5, x6]) (st' := [(0, 0), (2, 115)]) (w' := w9) (n' := 142) rfl ?_
      refine qG.ild (m := 620) rfl rfl (by omega) (by decide) ?_
      show qG none (d + 1) 267 155 [(2, 95), (0, ((b : Nat) : Int)), (0, ((e : Nat) : Int)), (0, ((h : Nat) : Int)), (0, ((i : Nat) : Int)), x5, x6] [(0, w9 115 0)] w9 142 Q9
      refine qG.ret rfl rfl ?_
      subst hQ9
      exact ⟨rfl, ⟨_, rfl, (hI5.2.2.2.2.1.2.1 115 0 (-2147483648, 2147483647) rfl rfl).1, (hI5.2.2.2.2.1.2.1 115 0 (-2147483648, 2147483647) rfl rfl).2⟩, hI5.2.2.2.2⟩
  exact L5 _ (b) (0) (w) ((9, 0)) ((9, 0)) rfl (⟨Nat.le_refl _, by omega, by rw [Nat.sub_self]; rfl, by omega, AW.rf hI⟩)
theorem K_weighs {d : Nat} (hd : 4 ≤ d) (k : Nat) (m : Int) (w : qW) (hI : yInv zgf zga zra zSp w) (hS2 : Sp2 w) (hk : (k : Int) < w 95 22) : qG none d 269 0 [(2, 95), (0, ((k : Nat) : Int)), (0, m)] [] w 142 (fun (r : qV) (w1 : qW) (n1 : Nat) => n1 = 142 ∧ (∃ x, r = (0, x) ∧ 0 ≤ x ∧ x ≤ 2) ∧ AW PL w w1) := by
  generalize hQ9 : (fun (r : qV) (w1 : qW) (n1 : Nat) => n1 = 142 ∧ (∃ x, r = (0, x) ∧ 0 ≤ x ∧ x ≤ 2) ∧ AW PL w w1) = Q9
  have h22 := zfld hI (j := 22) (b := (0, 20)) rfl
  have b22 : w 95 22 ≤ (20 : Int) := h22.2
  obtain ⟨s1, s2, s3, s4⟩ := hS2 k hk
  obtain ⟨b, hb⟩ : ∃ b : Nat, w 111 k = (b : Int) := ⟨(w 111 k).toNat, by omega⟩
  obtain ⟨e, he⟩ : ∃ e : Nat, w 111 (k + 1) = (e : Int) := ⟨(w 111 (k + 1)).toNat, by omega⟩
  have hrun := s4 0
  rw [show (w 111 k).toNat = b by omega, show (w 111 (k + 1) - w 111 k).toNat = e - b by omega] at hrun
  obtain ⟨d, rfl⟩ : ∃ d9, d = d9 + 1 := ⟨d - 1, by omega⟩
  refine qG.blk 3 (pc' := 5) (ls' := [(2, 95), (0, ((k : Nat) : Int)), (0, m)]) (st' := [(2, w 95 17), (2, 95)]) (w' := w) (n' := 142) rfl ?_
  rw [show w 95 17 = 111 from zref hI rfl rfl]
  refine qG.blk 1 (pc' := 6) (ls' := [(2, 95), (0, ((k : Nat) : Int)), (0, m)]) (st' := [(0, ((k : Nat) : Int)), (2, 111), (2, 95)]) (w' := w) (n' := 142) rfl ?_
  refine qG.ar (P := 0 ≤ ((k : Nat) : Int) ∧ ((k : Nat) : Int) < ((21 : Nat) : Int)) (P2 := 0 < (111 : Int) ∧ (111 : Int) ≤ ((142 : Nat) : Int)) (pc' := 7) (ls' := [(2, 95), (0, ((k : Nat) : Int)), (0, m)]) (st' := [(0, w 111 k), (2, 95)]) (w' := w) (n' := 142) rfl (by omega) (by decide) ?_
  rw [show w 111 k = ((b : Nat) : Int) from hb]
  refine qG.blk 2 (pc' := 11) (ls' := [(2, 95), (0, ((k : Nat) : Int)), (0, m)]) (st' := [(2, w 95 17), (0, ((b : Nat) : Int)), (2, 95)]) (w' := w) (n' := 142) rfl ?_
  rw [show w 95 17 = 111 from zref hI rfl rfl]
  refine qG.blk 3 (pc' := 14) (ls' := [(2, 95), (0, ((k : Nat) : Int)), (0, m)]) (st' := [(0, wrp (((k : Nat) : Int) + 1)), (2, 111), (0, ((b : Nat) : Int)), (2, 95)]) (w' := w) (n' := 142) rfl ?_
  rw [show wrp (((k : Nat) : Int) + 1) = ((k + 1 : Nat) : Int) from by rw [wrp_id (by omega) (by omega)]; omega]
  refine qG.ar (P := 0 ≤ ((k + 1 : Nat) : Int) ∧ ((k + 1 : Nat) : Int) < ((21 : Nat) : Int)) (P2 := 0 < (111 : Int) ∧ (111 : Int) ≤ ((142 : Nat) : Int)) (pc' := 15) (ls' := [(2, 95), (0, ((k : Nat) : Int)), (0, m)]) (st' := [(0, w 111 (k + 1)), (0, ((b : Nat) : Int)), (2, 95)]) (w' := w) (n' := 142) rfl (by omega) (by decide) ?_
  rw [show w 111 (k + 1) = ((e : Nat) : Int) from he]
  refine qG.call (t := 267) (na := 3) (sk := 1) (md := 1) (ls1 := [(2, 95), (0, ((b : Nat) : Int)), (0, ((e : Nat) : Int)), (9, 0), (9, 0), (9, 0), (9, 0)]) (r1 := []) rfl rfl rfl rfl rfl (K_comesTo (by omega) b e (by omega) (by omega) w hI hrun) ?_
  rintro _ w1 _ ⟨rfl, ⟨x, rfl, hx1, hx2⟩, hA1⟩
  show qG none (d + 1) 269 18 [(2, 95), (0, ((k : Nat) : Int)), (0, m)] [(0, x)] w1 142 Q9
  refine qG.blk 1 (pc' := 19) (ls' := [(2, 95), (0, ((k : Nat) : Int)), (0, m)]) (st' := [(0, 1), (0, x)]) (w' := w1) (n' := 142) rfl ?_
  refine qG.br (P := x = 1) (pc1 := 24) (pc2 := 22) (st1 := []) rfl (fun h1 => ?_) (fun h1 => ?_)
  · skip
    refine qG.blk 2 (pc' := 28) (ls' := [(2, 95), (0, ((k : Nat) : Int)), (0, m)]) (st' := [(2, w1 95 16)]) (w' := w1) (n' := 142) rfl ?_
    rw [show w1 95 16 = 110 from zref hA1.1 rfl rfl]
    refine qG.blk 1 (pc' := 29) (ls' := [(2, 95), (0, ((k : Nat) : Int)), (0, m)]) (st' := [(0, ((k : Nat) : Int)), (2, 110)]) (w' := w1) (n' := 142) rfl ?_
    refine qG.ar (P := 0 ≤ ((k : Nat) : Int) ∧ ((k : Nat) : Int) < ((20 : Nat) : Int)) (P2 := 0 < (110 : Int) ∧ (110 : Int) ≤ ((142 : Nat) : Int)) (pc' := 30) (ls' := [(2, 95), (0, ((k : Nat) : Int)), (0, m)]) (st' := [(0, w1 110 k)]) (w' := w1) (n' := 142) rfl (by omega) (by decide) ?_
    refine qG.br (P := w1 110 k = 0) (pc1 := 33) (pc2 := 37) (st1 := []) rfl (fun h2 => ?_) (fun h2 => ?_)
    · skip
      refine qG.blk 3 (pc' := 39) (ls' := [(2, 95), (0, ((k : Nat) : Int)), (0, m)]) (st' := [(0, m), (0, 1)]) (w' := w1) (n' := 142) rfl ?_
      refine qG.br (P := 1 = m) (pc1 := 42) (pc2 := 46) (st1 := []) rfl (fun h3 => ?_) (fun h3 => ?_)
      · skip
        refine qG.blk 2 (pc' := 47) (ls' := [(2, 95), (0, ((k : Nat) : Int)), (0, m)]) (st' := [(0, 2)]) (w' := w1) (n' := 142) rfl ?_
        refine qG.ret rfl rfl ?_
        subst hQ9
        exact ⟨rfl, ⟨_, rfl, by decide, by decide⟩, hA1⟩
      · skip
        refine qG.blk 1 (pc' := 47) (ls' := [(2, 95), (0, ((k : Nat) : Int)), (0, m)]) (st' := [(0, 1)]) (w' := w1) (n' := 142) rfl ?_
        refine qG.ret rfl rfl ?_
        subst hQ9
        exact ⟨rfl, ⟨_, rfl, by decide, by decide⟩, hA1⟩
    · skip
      refine qG.blk 2 (pc' := 39) (ls' := [(2, 95), (0, ((k : Nat) : Int)), (0, m)]) (st' := [(0, m), (0, 0)]) (w' := w1) (n' := 142) rfl ?_
      refine qG.br (P := 0 = m) (pc1 := 42) (pc2 := 46) (st1 := []) rfl (fun h4 => ?_) (fun h4 => ?_)
      · skip
        refine qG.blk 2 (pc' := 47) (ls' := [(2, 95), (0, ((k : Nat) : Int)), (0, m)]) (st' := [(0, 2)]) (w' := w1) (n' := 142) rfl ?_
        refine qG.ret rfl rfl ?_
        subst hQ9
        exact ⟨rfl, ⟨_, rfl, by decide, by decide⟩, hA1⟩
      · skip
        refine qG.blk 1 (pc' := 47) (ls' := [(2, 95), (0, ((k : Nat) : Int)), (0, m)]) (st' := [(0, 1)]) (w' := w1) (n' := 142) rfl ?_
        refine qG.ret rfl rfl ?_
        subst hQ9
        exact ⟨rfl, ⟨_, rfl, by decide, by decide⟩, hA1⟩
  · skip
    refine qG.blk 1 (pc' := 23) (ls' := [(2, 95), (0, ((k : Nat) : Int)), (0, m)]) (st' := [(0, 0)]) (w' := w1) (n' := 142) rfl ?_
    refine qG.ret rfl rfl ?_
    subst hQ9
    exact ⟨rfl, ⟨_, rfl, by decide, by decide⟩, hA1⟩
theorem K_isMan {d : Nat} (hd : 7 ≤ d) (w : qW) (hI : yInv zgf zga zra zSp w) (hS1 : Sp1 w) (hS : S3 w) : qG none d 268 0 [(2, 95)] [] w 142 (fun (r : qV) (w1 : qW) (n1 : Nat) => SQ WYM w r w1 n1 ∧ 0 ≤ r.2 ∧ r.2 ≤ 1) := by
  generalize hQ9 : (fun (r : qV) (w1 : qW) (n1 : Nat) => SQ WYM w r w1 n1 ∧ 0 ≤ r.2 ∧ r.2 ≤ 1) = Q9
  obtain ⟨d, rfl⟩ : ∃ d9, d = d9 + 1 := ⟨d - 1, by omega⟩
  refine qG.blk 3 (pc' := 3) (ls' := [(2, 95)]) (st' := [(0, 0), (0, 0), (2, 95)]) (w' := w) (n' := 142) rfl ?_
  refine qG.call (t := 253) (na := 3) (sk := 1) (md := 1) (ls1 := [(2, 95), (0, 0), (0, 0), (9, 0)]) (r1 := []) rfl rfl rfl rfl rfl ((K_shows (by omega) 0 0 (by omega) (by omega) w hI hS1 : qG none _ 253 0 [(2, 95), (0, 0), (0, 0), (9, 0)] [] w 142 _)) ?_
  rintro _ ws _ ⟨rfl, rfl, rfl⟩
  have hAs := (sh_aw (c := 0) (k := 0) (by omega) hI hS1).1
  have hSs := sh_s3 (c := 0) (k := 0) (by omega) hI hS1 hS
  generalize shW w 0 0 (w 106 0).toNat = ws at hAs hSs ⊢
  show qG none (d + 1) 268 6 [(2, 95)] [] ws 142 Q9
  refine qG.blk 3 (pc' := 9) (ls' := [(2, 95)]) (st' := [(0, 2), (0, 0), (2, 95)]) (w' := ws) (n' := 142) rfl ?_
  refine qG.call (t := 257) (na := 3) (sk := 1) (md := 1) (ls1 := [(2, 95), (0, 0), (0, 2), (9, 0), (9, 0), (9, 0), (9, 0)]) (r1 := []) rfl rfl rfl rfl rfl ((K_hides (by omega) 0 2 (by omega) (by omega) (by omega) ws hAs.1 hSs : qG none _ 257 0 [(2, 95), (0, 0), (0, 2), (9, 0), (9, 0), (9, 0), (9, 0)] [] ws 142 _)) ?_
  rintro _ w1 _ ⟨rfl, w0, hfp, hA0, hS0, hH, N, S, t, hN, hSS, htS, rfl, htc⟩
  have hA1 := hAs.tr1 hA0 hH
  have hS3 := hd_s3 hS0 hH
  show qG none (d + 1) 268 12 [(2, 95)] [(0, ((cntF (cF w0 t) N : Nat) : Int))] w1 142 Q9
  refine qG.br (P := 0 < ((cntF (cF w0 t) N : Nat) : Int)) (pc1 := 15) (pc2 := 19) (st1 := []) rfl (fun h1 => ?_) (fun h1 => ?_)
  · skip
    refine qG.blk 2 (pc' := 20) (ls' := [(2, 95)]) (st' := [(0, 1)]) (w' := w1) (n' := 142) rfl ?_
    refine qG.ret rfl (by first | rfl | exact decide_eq_true (by omega)) ?_
    subst hQ9
    exact ⟨SQ.mk' hA1 (by decide +kernel) hS3, by decide, by decide⟩
  · skip
    refine qG.blk 1 (pc' := 20) (ls' := [(2, 95)]) (st' := [(0, 0)]) (w' := w1) (n' := 142) rfl ?_
    refine qG.ret rfl (by first | rfl | exact decide_eq_true (by omega)) ?_
    subst hQ9
    exact ⟨SQ.mk' hA1 (by decide +kernel) hS3, by decide, by decide⟩
theorem K_reason {d : Nat} (hd : 8 ≤ d) (k : Int) (w : qW) (hI : yInv zgf zga zra zSp w) (hS1 : Sp1 w) (hS2 : Sp2 w) (hS : S3 w) : qG none d 270 0 [(2, 95), (0, k)] [] w 142 (SQ RSM w) := by
  generalize hQ9 : (SQ RSM w) = Q9
  have h22 := zfld hI (j := 22) (b := (0, 20)) rfl
  have a22 : (0 : Int) ≤ w 95 22 := h22.1
  have b22 : w 95 22 ≤ (20 : Int) := h22.2
  obtain ⟨d, rfl⟩ : ∃ d9, d = d9 + 1 := ⟨d - 1, by omega⟩
  refine qG.blk 6 (pc' := 8) (ls' := [(2, 95), (0, k)]) (st' := [(0, wrp ((w 95 22) - 1)), (0, 0), (0, k)]) (w' := w) (n' := 142) rfl ?_
  rw [show wrp ((w 95 22) - 1) = (w 95 22) - 1 from wrp_id (by omega) (by omega)]
  refine qG.call (t := 206) (na := 3) (sk := 0) (md := 0) (ls1 := [(0, k), (0, 0), (0, (w 95 22) - 1)]) (r1 := []) rfl rfl rfl rfl rfl (K_isIn (Nat.zero_le _) _ _ _ _) ?_
  rintro _ w7 _ ⟨rfl, hw7, rfl⟩
  rw [hw7]
  show qG none (d + 1) 270 11 [(2, 95), (0, k)] [(0, isInV (k) (0) ((w 95 22) - 1))] w 142 Q9
  refine qG.br (P := isInV (k) (0) ((w 95 22) - 1) = 0) (pc1 := 26) (pc2 := 14) (st1 := []) rfl (fun hk0 => ?_) (fun hk0 => ?_)
  · skip
    refine qG.blk 1 (pc' := 27) (ls' := [(2, 95), (0, k)]) (st' := [(0, (-1))]) (w' := w) (n' := 142) rfl ?_
    refine qG.ret rfl rfl ?_
    subst hQ9
    first | exact SQ.rf hI hS | exact SQ.mk' hA3 (by decide +kernel) hS4
  · skip
    obtain ⟨k9, rfl, hlk9, huk9⟩ := isIn_n (by decide) hk0
    refine qG.blk 3 (pc' := 17) (ls' := [(2, 95), (0, ((k9 : Nat) : Int))]) (st' := [(2, 95), (0, ((k9 : Nat) : Int)), (2, 95)]) (w' := w) (n' := 142) rfl ?_
    refine qG.call (t := 268) (na := 1) (sk := 1) (md := 1) (ls1 := [(2, 95)]) (r1 := [(0, ((k9 : Nat) : Int)), (2, 95)]) rfl rfl rfl rfl rfl (K_isMan (by omega) w hI hS1 hS) ?_
    rintro ⟨_, m⟩ w1 _ ⟨⟨rfl, ⟨x9, hx9⟩, hA1, hS3⟩, hm1, hm2⟩
    obtain ⟨rfl, rfl⟩ := Prod.mk.inj hx9
    have hS2b := hS2.aw hA1 rfl (by decide) (by decide)
    have e22 : w1 95 22 = w 95 22 := hA1.2 95 22 (fun _ => rfl)
    have hm1 : 0 ≤ m := hm1
    have hm2 : m ≤ 1 := hm2
    show qG none (d + 1) 270 20 [(2, 95), (0, ((k9 : Nat) : Int))] [(0, m), (0, ((k9 : Nat) : Int)), (2, 95)] w1 142 Q9
    refine qG.call (t := 269) (na := 3) (sk := 1) (md := 1) (ls1 := [(2, 95), (0, ((k9 : Nat) : Int)), (0, m)]) (r1 := []) rfl rfl rfl rfl rfl (K_weighs (by omega) k9 m w1 hA1.1 hS2b (by omega)) ?_
    rintro _ w2 _ ⟨rfl, ⟨x, rfl, hx1, hx2⟩, hA2⟩
    have hA3 := (hA1.mono (m2 := RSM) (by decide +kernel)).tr hA2 (by decide +kernel)
    have hS4 := hS3.aw hA2 rfl (by decide) (by decide)
    show qG none (d + 1) 270 23 [(2, 95), (0, ((k9 : Nat) : Int))] [(0, x)] w2 142 Q9
    refine qG.blk 1 (pc' := 27) (ls' := [(2, 95), (0, ((k9 : Nat) : Int))]) (st' := [(0, x)]) (w' := w2) (n' := 142) rfl ?_
    refine qG.ret rfl rfl ?_
    subst hQ9
    first | exact SQ.rf hI hS | exact SQ.mk' hA3 (by decide +kernel) hS4
theorem K_pamphlet {d : Nat} (hd : 8 ≤ d) (k : Int) (w : qW) (hI : yInv zgf zga zra zSp w) (hS1 : Sp1 w) (hS2 : Sp2 w) (hS : S3 w) : qG none d 271 0 [(2, 95), (0, k), (9, 0), (9, 0), (9, 0)] [] w 142 (SQ RSM w) := by
  generalize hQ9 : (SQ RSM w) = Q9
  have h22 := zfld hI (j := 22) (b := (0, 20)) rfl
  have a22 : (0 : Int) ≤ w 95 22 := h22.1
  have b22 : w 95 22 ≤ (20 : Int) := h22.2
  obtain ⟨d, rfl⟩ : ∃ d9, d = d9 + 1 := ⟨d - 1, by omega⟩
  refine qG.blk 3 (pc' := 3) (ls' := [(2, 95), (0, k), (9, 0), (9, 0), (9, 0)]) (st' := [(0, 3), (0, 0), (0, k)]) (w' := w) (n' := 142) rfl ?_
  refine qG.call (t := 206) (na := 3) (sk := 0) (md := 0) (ls1 := [(0, k), (0, 0), (0, 3)]) (r1 := []) rfl rfl rfl rfl rfl (K_isIn (Nat.zero_le _) _ _ _ _) ?_
  rintro _ w7 _ ⟨rfl, hw7, rfl⟩
  rw [hw7]
  show qG none (d + 1) 271 6 [(2, 95), (0, k), (9, 0), (9, 0), (9, 0)] [(0, isInV (k) (0) (3))] w 142 Q9
  refine qG.br (P := isInV (k) (0) (3) = 0) (pc1 := 9) (pc2 := 11) (st1 := []) rfl (fun hk0 => ?_) (fun hk0 => ?_)
  · skip
    refine qG.blk 1 (pc' := 10) (ls' := [(2, 95), (0, k), (9, 0), (9, 0), (9, 0)]) (st' := [(0, (-1))]) (w' := w) (n' := 142) rfl ?_
    refine qG.ret rfl rfl ?_
    subst hQ9
    first | exact SQ.rf hI hS | exact SQ.mk' hA1 (by decide +kernel) hS3 | exact SQ.mk' hI36.2.2.1 (by decide +kernel) hI36.2.2.2.1
  · skip
    obtain ⟨q9, rfl, hlq9, huq9⟩ := isIn_n (by decide) hk0
    refine qG.blk 1 (pc' := 12) (ls' := [(2, 95), (0, ((q9 : Nat) : Int)), (9, 0), (9, 0), (9, 0)]) (st' := [(2, 95)]) (w' := w) (n' := 142) rfl ?_
    refine qG.call (t := 268) (na := 1) (sk := 1) (md := 1) (ls1 := [(2, 95)]) (r1 := []) rfl rfl rfl rfl rfl (K_isMan (by omega) w hI hS1 hS) ?_
    rintro ⟨_, m⟩ w1 _ ⟨⟨rfl, ⟨x9, hx9⟩, hA1, hS3⟩, hm1, hm2⟩
    obtain ⟨rfl, rfl⟩ := Prod.mk.inj hx9
    have hS2b := hS2.aw hA1 rfl (by decide) (by decide)
    have e22 : w1 95 22 = w 95 22 := hA1.2 95 22 (fun _ => rfl)
    have hm1 : 0 ≤ m := hm1
    have hm2 : m ≤ 1 := hm2
    show qG none (d + 1) 271 15 [(2, 95), (0, ((q9 : Nat) : Int)), (9, 0), (9, 0), (9, 0)] [(0, m)] w1 142 Q9
    refine qG.blk 3 (pc' := 18) (ls' := [(2, 95), (0, ((q9 : Nat) : Int)), (0, m), (9, 0), (9, 0)]) (st' := [(0, 3), (0, ((q9 : Nat) : Int))]) (w' := w1) (n' := 142) rfl ?_
    refine qG.br (P := ((q9 : Nat) : Int) = 3) (pc1 := 21) (pc2 := 31) (st1 := []) rfl (fun h1 => ?_) (fun h1 => ?_)
    · skip
      refine qG.blk 1 (pc' := 22) (ls' := [(2, 95), (0, ((q9 : Nat) : Int)), (0, m), (9, 0), (9, 0)]) (st' := [(0, m)]) (w' := w1) (n' := 142) rfl ?_
      refine qG.br (P := m = 0) (pc1 := 29) (pc2 := 25) (st1 := []) rfl (fun h2 => ?_) (fun h2 => ?_)
      · skip
        refine qG.blk 1 (pc' := 30) (ls' := [(2, 95), (0, ((q9 : Nat) : Int)), (0, m), (9, 0), (9, 0)]) (st' := [(0, 0)]) (w' := w1) (n' := 142) rfl ?_
        refine qG.ret rfl rfl ?_
        subst hQ9
        first | exact SQ.rf hI hS | exact SQ.mk' hA1 (by decide +kernel) hS3 | exact SQ.mk' hI36.2.2.1 (by decide +kernel) hI36.2.2.2.1
      · skip
        refine qG.blk 2 (pc' := 30) (ls' := [(2, 95), (0, ((q9 : Nat) : Int)), (0, m), (9, 0), (9, 0)]) (st' := [(0, 1)]) (w' := w1) (n' := 142) rfl ?_
        refine qG.ret rfl rfl ?_
        subst hQ9
        first | exact SQ.rf hI hS | exact SQ.mk' hA1 (by decide +kernel) hS3 | exact SQ.mk' hI36.2.2.1 (by decide +kernel) hI36.2.2.2.1
    · skip
      refine qG.blk 4 (pc' := 36) (ls' := [(2, 95), (0, ((q9 : Nat) : Int)), (0, m), (0, 0), (0, 0)]) (st' := []) (w' := w1) (n' := 142) rfl ?_
      have L36 : ∀ (m9 : Nat) (k9 n9 : Nat) (w5 : qW), 20 - k9 = m9 → ((k9 : Int) ≤ w 95 22 ∧ n9 ≤ k9 ∧ AW RSM w w5 ∧ S3 w5 ∧ Sp2 w5) → qG none (d + 1) 271 36 [(2, 95), (0, ((q9 : Nat) : Int)), (0, m), (0, ((n9 : Nat) : Int)), (0, ((k9 : Nat) : Int))] [] w5 142 Q9 := by
        intro m9
        induction m9 using Nat.strongRecOn with
        | ind m9 ih36 =>
        intro k9 n9 w5 hm36 hI36
        refine qG.blk 3 (pc' := 42) (ls' := [(2, 95), (0, ((q9 : Nat) : Int)), (0, m), (0, ((n9 : Nat) : Int)), (0, ((k9 : Nat) : Int))]) (st' := [(0, w5 95 22), (0, ((k9 : Nat) : Int))]) (w' := w5) (n' := 142) rfl ?_
        rw [show w5 95 22 = w 95 22 from hI36.2.2.1.2 95 22 (fun _ => rfl)]
        refine qG.br (P := ((k9 : Nat) : Int) < w 95 22) (pc1 := 45) (pc2 := 72) (st1 := []) rfl (fun h3 => ?_) (fun h3 => ?_)
        · skip
          refine qG.blk 4 (pc' := 50) (ls' := [(2, 95), (0, ((q9 : Nat) : Int)), (0, m), (0, ((n9 : Nat) : Int)), (0, ((k9 : Nat) : Int))]) (st' := [(0, m), (0, ((k9 : Nat) : Int)), (2, 95), (0, ((n9 : Nat) : Int))]) (w' := w5) (n' := 142) rfl ?_
          refine qG.call (t := 269) (na := 3) (sk := 1) (md := 1) (ls1 := [(2, 95), (0, ((k9 : Nat) : Int)), (0, m)]) (r1 := [(0, ((n9 : Nat) : Int))]) rfl rfl rfl rfl rfl (K_weighs (by omega) k9 m w5 hI36.2.2.1.1 hI36.2.2.2.2 (by have := hI36.2.2.1.2 95 22 (fun _ => rfl); omega)) ?_
          rintro _ w6 _ ⟨rfl, ⟨x, rfl, hx1, hx2⟩, hA2⟩
          have hA6 := hI36.2.2.1.tr hA2 (by decide +kernel)
          have hS6 := hI36.2.2.2.1.aw hA2 rfl (by decide) (by decide)
          show qG none (d + 1) 271 53 [(2, 95), (0, ((q9 : Nat) : Int)), (0, m), (0, ((n9 : Nat) : Int)), (0, ((k9 : Nat) : Int))] [(0, x), (0, ((n9 : Nat) : Int))] w6 142 Q9
          refine qG.blk 3 (pc' := 56) (ls' := [(2, 95), (0, ((q9 : Nat) : Int)), (0, m), (0, ((n9 : Nat) : Int)), (0, ((k9 : Nat) : Int))]) (st' := [(0, wrp (2 - ((q9 : Nat) : Int))), (0, x), (0, ((n9 : Nat) : Int))]) (w' := w6) (n' := 142) rfl ?_
          rw [show wrp (2 - ((q9 : Nat) : Int)) = 2 - ((q9 : Nat) : Int) from wrp_id (by omega) (by omega)]
          refine qG.br (P := x = 2 - ((q9 : Nat) : Int)) (pc1 := 59) (pc2 := 63) (st1 := [(0, ((n9 : Nat) : Int))]) rfl (fun h4 => ?_) (fun h4 => ?_)
          · skip
            refine qG.blk 3 (pc' := 65) (ls' := [(2, 95), (0, ((q9 : Nat) : Int)), (0, m), (0, ((n9 : Nat) : Int)), (0, ((k9 : Nat) : Int))]) (st' := [(0, wrp (((n9 : Nat) : Int) + 1))]) (w' := w6) (n' := 142) rfl ?_
            rw [show wrp (((n9 : Nat) : Int) + 1) = ((n9 + 1 : Nat) : Int) from by rw [wrp_id (by omega) (by omega)]; omega]
            refine qG.blk 2 (pc' := 69) (ls' := [(2, 95), (0, ((q9 : Nat) : Int)), (0, m), (0, ((n9 + 1 : Nat) : Int)), (0, wrp (((k9 : Nat) : Int) + 1))]) (st' := []) (w' := w6) (n' := 142) rfl ?_
            rw [show wrp (((k9 : Nat) : Int) + 1) = ((k9 + 1 : Nat) : Int) from wrp_id (by omega) (by omega)]
            refine qG.blk 1 (pc' := 36) (ls' := [(2, 95), (0, ((q9 : Nat) : Int)), (0, m), (0, ((n9 + 1 : Nat) : Int)), (0, ((k9 + 1 : Nat) : Int))]) (st' := []) (w' := w6) (n' := 142) rfl ?_
            exact ih36 _ (by omega) (k9 + 1) (n9 + 1) (w6) rfl (⟨by omega, by omega, hA6, hS6, hI36.2.2.2.2.aw hA2 rfl (by decide) (by decide)⟩)
          · skip
            refine qG.blk 2 (pc' := 65) (ls' := [(2, 95), (0, ((q9 : Nat) : Int)), (0, m), (0, ((n9 : Nat) : Int)), (0, ((k9 : Nat) : Int))]) (st' := [(0, wrp (((n9 : Nat) : Int) + 0))]) (w' := w6) (n' := 142) rfl ?_
            rw [show wrp (((n9 : Nat) : Int) + 0) = ((n9 + 0 : Nat) : Int) from by rw [wrp_id (by omega) (by omega)]; omega]
            refine qG.blk 2 (pc' := 69) (ls' := [(2, 95), (0, ((q9 : Nat) : Int)), (0, m), (0, ((n9 + 0 : Nat) : Int)), (0, wrp (((k9 : Nat) : Int) + 1))]) (st' := []) (w' := w6) (n' := 142) rfl ?_
            rw [show wrp (((k9 : Nat) : Int) + 1) = ((k9 + 1 : Nat) : Int) from wrp_id (by omega) (by omega)]
            refine qG.blk 1 (pc' := 36) (ls' := [(2, 95), (0, ((q9 : Nat) : Int)), (0, m), (0, ((n9 + 0 : Nat) : Int)), (0, ((k9 + 1 : Nat) : Int))]) (st' := []) (w' := w6) (n' := 142) rfl ?_
            exact ih36 _ (by omega) (k9 + 1) (n9 + 0) (w6) rfl (⟨by omega, by omega, hA6, hS6, hI36.2.2.2.2.aw hA2 rfl (by decide) (by decide)⟩)
        · skip
          refine qG.blk 1 (pc' := 73) (ls' := [(2, 95), (0, ((q9 : Nat) : Int)), (0, m), (0, ((n9 : Nat) : Int)), (0, ((k9 : Nat) : Int))]) (st' := [(0, ((n9 : Nat) : Int))]) (w' := w5) (n' := 142) rfl ?_
          refine qG.ret rfl rfl ?_
          subst hQ9
          first | exact SQ.rf hI hS | exact SQ.mk' hA1 (by decide +kernel) hS3 | exact SQ.mk' hI36.2.2.1 (by decide +kernel) hI36.2.2.2.1
      exact L36 _ (0) (0) (w1) rfl (⟨by omega, by omega, hA1.mono (by decide +kernel), hS3, hS2b⟩)
