/-! the class's moves of poses, and where they lead -/
/-- is j led to from one of the first m poses of the set p -/
noncomputable def spF (w : qW) (p j : Nat) : Nat → Bool
  | 0 => false
  | m + 1 => spF w p j m || (sb w p m && (decide (m < 180) && mb w m j))
theorem spF_s {w : qW} {p j m : Nat} : spF w p j (m + 1) = (spF w p j m || (sb w p m && (decide (m < 180) && mb w m j))) := rfl
theorem spF_z {w : qW} {p j m : Nat} : ∀ n, (∀ s, m ≤ s → s < m + n → sb w p s = false) → spF w p j (m + n) = spF w p j m
  | 0, _ => rfl
  | n + 1, h => by
    show spF w p j ((m + n) + 1) = _
    rw [spF_s, spF_z n (fun s a b => h s a (by omega)), h (m + n) (by omega) (by omega), Bool.false_and, Bool.or_false]
theorem spF_iff {w : qW} {p j : Nat} : ∀ m, spF w p j m = true ↔ ∃ i, i < m ∧ sb w p i = true ∧ i < 180 ∧ mb w i j = true
  | 0 => ⟨fun h => (by cases h), fun ⟨i, h, _⟩ => absurd h (Nat.not_lt_zero i)⟩
  | m + 1 => by
    rw [spF_s, Bool.or_eq_true, spF_iff m, Bool.and_eq_true, Bool.and_eq_true, decide_eq_true_eq]
    constructor
    · rintro (⟨i, a, b⟩ | ⟨a, b, c⟩)
      · exact ⟨i, by omega, b⟩
      · exact ⟨m, by omega, a, b, c⟩
    · rintro ⟨i, a, b⟩
      by_cases e : i = m
      · exact .inr (e ▸ ⟨b.1, b.2.1, b.2.2⟩)
      · exact .inl ⟨i, by omega, b⟩
/-- the longs a, b, c hold where the first m poses of p lead -/
noncomputable def ACC (w : qW) (p : Nat) (a b c : Int) (m : Nat) : Prop := (qi64 a ∧ qi64 b ∧ qi64 c) ∧ (∀ s, s < 64 → lb a s = spF w p s m) ∧ (∀ s, s < 64 → lb b s = spF w p (64 + s) m) ∧ ∀ s, s < 64 → lb c s = spF w p (128 + s) m
theorem ACC.z {w : qW} {p : Nat} : ACC w p 0 0 0 0 := ⟨⟨⟨by decide, by decide⟩, ⟨by decide, by decide⟩, ⟨by decide, by decide⟩⟩, fun s _ => lb_z s, fun s _ => lb_z s, fun s _ => lb_z s⟩
theorem ACC.eq {w : qW} {p m m2 : Nat} {a b c : Int} (h : ACC w p a b c m) (e : ∀ j, spF w p j m2 = spF w p j m) : ACC w p a b c m2 := ⟨h.1, fun s hs => (h.2.1 s hs).trans (e _).symm, fun s hs => (h.2.2.1 s hs).trans (e _).symm, fun s hs => (h.2.2.2 s hs).trans (e _).symm⟩
theorem mb_lo {w : qW} {i s : Nat} (h : s < 64) : mb w i s = lb (w 26 (3 * i)) s := by
  unfold mb; rw [show s / 64 = 0 by omega, Nat.mod_eq_of_lt h, Nat.add_zero]
theorem mb_mi {w : qW} {i s : Nat} (h : s < 64) : mb w i (64 + s) = lb (w 26 (3 * i + 1)) s := by
  unfold mb; rw [show (64 + s) / 64 = 1 by omega, show (64 + s) % 64 = s by omega]
theorem mb_hi {w : qW} {i s : Nat} (h : s < 64) : mb w i (128 + s) = lb (w 26 (3 * i + 2)) s := by
  unfold mb; rw [show (128 + s) / 64 = 2 by omega, show (128 + s) % 64 = s by omega]
theorem ACC.up {w : qW} {p m : Nat} {a b c : Int} (h : ACC w p a b c m) (hb : sb w p m = true) (hm : m < 180) : ACC w p (qlor a (w 26 (3 * m))) (qlor b (w 26 (3 * m + 1))) (qlor c (w 26 (3 * m + 2))) (m + 1) := by
  refine ⟨⟨qlor_64 _ _, qlor_64 _ _, qlor_64 _ _⟩, fun s hs => ?_, fun s hs => ?_, fun s hs => ?_⟩
  · rw [lb_or, h.2.1 s hs, spF_s, hb, decide_eq_true hm, mb_lo hs]; rfl
  · rw [lb_or, h.2.2.1 s hs, spF_s, hb, decide_eq_true hm, mb_mi hs]; rfl
  · rw [lb_or, h.2.2.2 s hs, spF_s, hb, decide_eq_true hm, mb_hi hs]; rfl
theorem ACC.no {w : qW} {p m : Nat} {a b c : Int} (h : ACC w p a b c m) (hm : ¬ m < 180) : ACC w p a b c (m + 1) := h.eq (fun j => by rw [spF_s, decide_eq_false hm, Bool.false_and, Bool.and_false, Bool.or_false])
/-- what is left of the part g behind the bit u -/
noncomputable def RST (w : qW) (p g u : Nat) (x : Int) : Prop := qi64 x ∧ ∀ s, s < 64 → lb x s = (decide (u ≤ s) && lb (w p g) s)
theorem RST.z {w : qW} {p g : Nat} (hp : LROW p) (hI : yInv zgf zga zra zSp w) : RST w p g 0 (w p g) := ⟨lrow hp hI g, fun s _ => by rw [decide_eq_true (Nat.zero_le s), Bool.true_and]⟩
theorem RST.end {w : qW} {p g u : Nat} {a b c : Int} (hu : u ≤ 64) (hA : ACC w p a b c (64 * g + u)) (h : ∀ s, u ≤ s → s < 64 → lb (w p g) s = false) : ACC w p a b c (64 * (g + 1)) := by
  rw [show 64 * (g + 1) = (64 * g + u) + (64 - u) by omega]
  refine hA.eq (fun j => spF_z (64 - u) (fun s h1 h2 => ?_))
  rw [show s = 64 * g + (s - 64 * g) by omega, sb_g (by omega)]
  exact h _ (by omega) (by omega)
theorem RST.e0 {w : qW} {p g u : Nat} (h : RST w p g u 0) : ∀ s, u ≤ s → s < 64 → lb (w p g) s = false := fun s a b => by
  have q := h.2 s b
  rw [lb_z, decide_eq_true a, Bool.true_and] at q
  exact q.symm
theorem RST.st {w : qW} {p g u s : Nat} {x : Int} (h : RST w p g u x) (hs : s < 64) (hb : lb x s = true) (hl : ∀ t, t < s → lb x t = false) : (u ≤ s ∧ lb (w p g) s = true) ∧ (∀ t, u ≤ t → t < s → lb (w p g) t = false) ∧ RST w p g (s + 1) (qland x (wrl (x - 1))) := by
  have q := h.2 s hs
  rw [hb] at q
  have q := q.symm
  rw [Bool.and_eq_true, decide_eq_true_eq] at q
  refine ⟨q, fun t a b => ?_, qland_64 _ _, fun t ht => ?_⟩
  · have z := h.2 t (by omega)
    rw [hl t b, decide_eq_true a, Bool.true_and] at z
    exact z.symm
  · rw [lb_clr hs hb hl, h.2 t ht]
    by_cases e : t = s
    · rw [e, decide_eq_false (show ¬ s ≠ s from fun z => z rfl), decide_eq_false (show ¬ s + 1 ≤ s by omega), Bool.and_false]; rfl
    · rw [decide_eq_true e, Bool.and_true]
      by_cases e2 : s < t
      · rw [show decide (u ≤ t) = decide (s + 1 ≤ t) from decide_eq_decide.mpr (by omega)]
      · have z := h.2 t ht
        rw [hl t (by omega)] at z
        rw [← z, decide_eq_false (show ¬ s + 1 ≤ t by omega)]; rfl
theorem RST.acc {w : qW} {p g u s : Nat} {a b c : Int} (hA : ACC w p a b c (64 * g + u)) (hu : u ≤ s) (hs : s < 64) (h : ∀ t, u ≤ t → t < s → lb (w p g) t = false) : ACC w p a b c (64 * g + s) := by
  rw [show 64 * g + s = (64 * g + u) + (s - u) by omega]
  refine hA.eq (fun j => spF_z (s - u) (fun t h1 h2 => ?_))
  rw [show t = 64 * g + (t - 64 * g) by omega, sb_g (by omega)]
  exact h _ (by omega) (by omega)
theorem K_spread27_28 {d : Nat} (hd : 2 ≤ d) (w : qW) (hI : yInv zgf zga zra zSp w) : qG none d 101 0 [(2, 24), (2, 27), (2, 28), (9, 0), (9, 0), (9, 0), (9, 0), (9, 0), (9, 0), (9, 0), (9, 0), (9, 0), (9, 0), (9, 0)] [] w 142 (fun (r : qV) (w1 : qW) (n1 : Nat) => r = (9, 0) ∧ n1 = 142 ∧ RW 28 (fun j => spF w 27 j 192) w w1) := by
  generalize hQ9 : (fun (r : qV) (w1 : qW) (n1 : Nat) => r = (9, 0) ∧ n1 = 142 ∧ RW 28 (fun j => spF w 27 j 192) w w1) = Q9
  obtain ⟨N5, hN5⟩ : ∃ N : Int, N = 540 := ⟨_, rfl⟩
  obtain ⟨d, rfl⟩ : ∃ d9, d = d9 + 1 := ⟨d - 1, by omega⟩
  refine qG.blk 8 (pc' := 11) (ls' := [(2, 24), (2, 27), (2, 28), (1, 0), (9, 0), (1, 0), (9, 0), (1, 0), (9, 0), (0, 0), (9, 0), (9, 0), (9, 0), (9, 0)]) (st' := []) (w' := w) (n' := 142) rfl ?_
  have L11 : ∀ (m9 : Nat) (g : Nat) (a b c : Int) (l10 l12 l13 : qV), 3 - g = m9 → (g ≤ 3 ∧ ACC w 27 a b c (64 * g)) → qG none (d + 1) 101 11 [(2, 24), (2, 27), (2, 28), (1, a), (9, 0), (1, b), (9, 0), (1, c), (9, 0), (0, ((g : Nat) : Int)), l10, (9, 0), l12, l13] [] w 142 Q9 := by
    intro m9
    induction m9 using Nat.strongRecOn with
    | ind m9 ih11 =>
    intro g a b c l10 l12 l13 hm11 hI11
    obtain ⟨hg3, hG⟩ := hI11
    refine qG.blk 2 (pc' := 14) (ls' := [(2, 24), (2, 27), (2, 28), (1, a), (9, 0), (1, b), (9, 0), (1, c), (9, 0), (0, ((g : Nat) : Int)), l10, (9, 0), l12, l13]) (st' := [(0, 3), (0, ((g : Nat) : Int))]) (w' := w) (n' := 142) rfl ?_
    refine qG.br (P := ((g : Nat) : Int) < 3) (pc1 := 17) (pc2 := 138) (st1 := []) rfl (fun hg => ?_) (fun hg => ?_)
    · skip
      refine qG.blk 3 (pc' := 21) (ls' := [(2, 24), (2, 27), (2, 28), (1, a), (9, 0), (1, b), (9, 0), (1, c), (9, 0), (0, ((g : Nat) : Int)), l10, (9, 0), l12, l13]) (st' := [(0, 3), (0, ((g : Nat) : Int))]) (w' := w) (n' := 142) rfl ?_
      refine qG.br (P := ((g : Nat) : Int) < 3) (pc1 := 24) (pc2 := 138) (st1 := []) rfl (fun hgl => ?_) (fun hgl => ?_)
      · skip
        refine qG.blk 2 (pc' := 27) (ls' := [(2, 24), (2, 27), (2, 28), (1, a), (9, 0), (1, b), (9, 0), (1, c), (9, 0), (0, ((g : Nat) : Int)), l10, (9, 0), l12, l13]) (st' := [(0, ((g : Nat) : Int)), (2, 27)]) (w' := w) (n' := 142) rfl ?_
        refine qG.ar (P := 0 ≤ ((g : Nat) : Int) ∧ ((g : Nat) : Int) < ((3 : Nat) : Int)) (P2 := 0 < (27 : Int) ∧ (27 : Int) ≤ ((142 : Nat) : Int)) (pc' := 28) (ls' := [(2, 24), (2, 27), (2, 28), (1, a), (9, 0), (1, b), (9, 0), (1, c), (9, 0), (0, ((g : Nat) : Int)), l10, (9, 0), l12, l13]) (st' := [(1, w 27 g)]) (w' := w) (n' := 142) rfl (by omega) (by decide) ?_
        refine qG.blk 3 (pc' := 33) (ls' := [(2, 24), (2, 27), (2, 28), (1, a), (9, 0), (1, b), (9, 0), (1, c), (9, 0), (0, ((g : Nat) : Int)), (1, w 27 g), (9, 0), (0, 0), l13]) (st' := []) (w' := w) (n' := 142) rfl ?_
        have L33 : ∀ (m9 : Nat) (i u : Nat) (a b c x : Int) (l13 : qV), 64 - i = m9 → (i ≤ u ∧ u ≤ 64 ∧ ACC w 27 a b c (64 * g + u) ∧ RST w 27 g u x) → qG none (d + 1) 101 33 [(2, 24), (2, 27), (2, 28), (1, a), (9, 0), (1, b), (9, 0), (1, c), (9, 0), (0, ((g : Nat) : Int)), (1, x), (9, 0), (0, ((i : Nat) : Int)), l13] [] w 142 Q9 := by
          intro m9
          induction m9 using Nat.strongRecOn with
          | ind m9 ih33 =>
          intro i u a b c x l13 hm33 hI33
          obtain ⟨hiu, hu64, hA, hR⟩ := hI33
          refine qG.blk 2 (pc' := 37) (ls' := [(2, 24), (2, 27), (2, 28), (1, a), (9, 0), (1, b), (9, 0), (1, c), (9, 0), (0, ((g : Nat) : Int)), (1, x), (9, 0), (0, ((i : Nat) : Int)), l13]) (st' := [(0, 64), (0, ((i : Nat) : Int))]) (w' := w) (n' := 142) rfl ?_
          refine qG.br (P := ((i : Nat) : Int) < 64) (pc1 := 40) (pc2 := 132) (st1 := []) rfl (fun hi64 => ?_) (fun hi64 => ?_)
          · skip
            refine qG.blk 3 (pc' := 44) (ls' := [(2, 24), (2, 27), (2, 28), (1, a), (9, 0), (1, b), (9, 0), (1, c), (9, 0), (0, ((g : Nat) : Int)), (1, x), (9, 0), (0, ((i : Nat) : Int)), l13]) (st' := [(0, qcmp x 0)]) (w' := w) (n' := 142) rfl ?_
            refine qG.br (P := qcmp x 0 = 0) (pc1 := 132) (pc2 := 47) (st1 := []) rfl (fun hx0 => ?_) (fun hx0 => ?_)
            · skip
              refine qG.blk 1 (pc' := 135) (ls' := [(2, 24), (2, 27), (2, 28), (1, a), (9, 0), (1, b), (9, 0), (1, c), (9, 0), (0, wrp (((g : Nat) : Int) + 1)), (1, x), (9, 0), (0, ((i : Nat) : Int)), l13]) (st' := []) (w' := w) (n' := 142) rfl ?_
              rw [show wrp (((g : Nat) : Int) + 1) = ((g + 1 : Nat) : Int) from wrp_id (by omega) (by omega)]
              refine qG.blk 1 (pc' := 11) (ls' := [(2, 24), (2, 27), (2, 28), (1, a), (9, 0), (1, b), (9, 0), (1, c), (9, 0), (0, ((g + 1 : Nat) : Int)), (1, x), (9, 0), (0, ((i : Nat) : Int)), l13]) (st' := []) (w' := w) (n' := 142) rfl ?_
              exact ih11 _ (by omega) (g + 1) (a) (b) (c) ((1, x)) ((0, ((i : Nat) : Int))) (l13) rfl (⟨by omega, by first | exact RST.end hu64 hA (by have z := qcmp_0.mp hx0; rw [z] at hR; exact hR.e0) | exact RST.end hu64 hA (fun s h1 h2 => absurd h1 (by omega))⟩)
            · skip
              refine qG.blk 4 (pc' := 53) (ls' := [(2, 24), (2, 27), (2, 28), (1, a), (9, 0), (1, b), (9, 0), (1, c), (9, 0), (0, ((g : Nat) : Int)), (1, x), (9, 0), (0, ((i : Nat) : Int)), l13]) (st' := [(0, wrp (64 * ((g : Nat) : Int))), (0, 3)]) (w' := w) (n' := 142) rfl ?_
              rw [show wrp (64 * ((g : Nat) : Int)) = ((64 * g : Nat) : Int) from by rw [wrp_id (by omega) (by omega)]; omega]
              refine qG.blk 1 (pc' := 55) (ls' := [(2, 24), (2, 27), (2, 28), (1, a), (9, 0), (1, b), (9, 0), (1, c), (9, 0), (0, ((g : Nat) : Int)), (1, x), (9, 0), (0, ((i : Nat) : Int)), l13]) (st' := [(1, x), (0, ((64 * g : Nat) : Int)), (0, 3)]) (w' := w) (n' := 142) rfl ?_
              refine qG.call (t := 303) (na := 1) (sk := 0) (md := 0) (ls1 := [(1, x), (9, 0), (9, 0)]) (r1 := [(0, ((64 * g : Nat) : Int)), (0, 3)]) rfl rfl rfl rfl rfl (K_lnt (by omega) x w) ?_
              rintro _ w7 _ ⟨rfl, hw7, rfl⟩
              rw [hw7]
              obtain ⟨s, hs, hb, hl⟩ := lb_ne hR.1 (fun z => hx0 (qcmp_0.mpr z))
              have hst := hR.st hs hb hl
              rw [lnt_low hs hb hl]
              show qG none (d + 1) 101 58 [(2, 24), (2, 27), (2, 28), (1, a), (9, 0), (1, b), (9, 0), (1, c), (9, 0), (0, ((g : Nat) : Int)), (1, x), (9, 0), (0, ((i : Nat) : Int)), l13] [(0, ((s : Nat) : Int)), (0, ((64 * g : Nat) : Int)), (0, 3)] w 142 Q9
              refine qG.blk 1 (pc' := 59) (ls' := [(2, 24), (2, 27), (2, 28), (1, a), (9, 0), (1, b), (9, 0), (1, c), (9, 0), (0, ((g : Nat) : Int)), (1, x), (9, 0), (0, ((i : Nat) : Int)), l13]) (st' := [(0, wrp (((64 * g : Nat) : Int) + ((s : Nat) : Int))), (0, 3)]) (w' := w) (n' := 142) rfl ?_
              rw [show wrp (((64 * g : Nat) : Int) + ((s : Nat) : Int)) = ((64 * g + s : Nat) : Int) from by rw [wrp_id (by omega) (by omega)]; omega]
              refine qG.blk 1 (pc' := 60) (ls' := [(2, 24), (2, 27), (2, 28), (1, a), (9, 0), (1, b), (9, 0), (1, c), (9, 0), (0, ((g : Nat) : Int)), (1, x), (9, 0), (0, ((i : Nat) : Int)), l13]) (st' := [(0, wrp (3 * ((64 * g + s : Nat) : Int)))]) (w' := w) (n' := 142) rfl ?_
              rw [show wrp (3 * ((64 * g + s : Nat) : Int)) = ((3 * (64 * g + s) : Nat) : Int) from by rw [wrp_id (by omega) (by omega)]; omega]
              refine qG.blk 5 (pc' := 68) (ls' := [(2, 24), (2, 27), (2, 28), (1, a), (9, 0), (1, b), (9, 0), (1, c), (9, 0), (0, ((g : Nat) : Int)), (1, x), (9, 0), (0, ((i : Nat) : Int)), (0, ((3 * (64 * g + s) : Nat) : Int))]) (st' := [(1, wrl (x - 1)), (1, x)]) (w' := w) (n' := 142) rfl ?_
              refine qG.blk 3 (pc' := 73) (ls' := [(2, 24), (2, 27), (2, 28), (1, a), (9, 0), (1, b), (9, 0), (1, c), (9, 0), (0, ((g : Nat) : Int)), (1, qland x (wrl (x - 1))), (9, 0), (0, ((i : Nat) : Int)), (0, ((3 * (64 * g + s) : Nat) : Int))]) (st' := [(0, ((3 * (64 * g + s) : Nat) : Int))]) (w' := w) (n' := 142) rfl ?_
              refine qG.br (P := ((3 * (64 * g + s) : Nat) : Int) < 0) (pc1 := 126) (pc2 := 76) (st1 := []) rfl (fun hr0 => ?_) (fun hr0 => ?_)
              · exfalso; omega
              · skip
                refine qG.blk 3 (pc' := 80) (ls' := [(2, 24), (2, 27), (2, 28), (1, a), (9, 0), (1, b), (9, 0), (1, c), (9, 0), (0, ((g : Nat) : Int)), (1, qland x (wrl (x - 1))), (9, 0), (0, ((i : Nat) : Int)), (0, ((3 * (64 * g + s) : Nat) : Int))]) (st' := [(0, wrp (((3 * (64 * g + s) : Nat) : Int) + 2))]) (w' := w) (n' := 142) rfl ?_
                rw [show wrp (((3 * (64 * g + s) : Nat) : Int) + 2) = ((3 * (64 * g + s) + 2 : Nat) : Int) from by rw [wrp_id (by omega) (by omega)]; omega]
                refine qG.blk 2 (pc' := 84) (ls' := [(2, 24), (2, 27), (2, 28), (1, a), (9, 0), (1, b), (9, 0), (1, c), (9, 0), (0, ((g : Nat) : Int)), (1, qland x (wrl (x - 1))), (9, 0), (0, ((i : Nat) : Int)), (0, ((3 * (64 * g + s) : Nat) : Int))]) (st' := [(2, w 24 5), (0, ((3 * (64 * g + s) + 2 : Nat) : Int))]) (w' := w) (n' := 142) rfl ?_
                rw [show w 24 5 = 26 from zref hI rfl rfl]
                refine qG.blk 1 (pc' := 85) (ls' := [(2, 24), (2, 27), (2, 28), (1, a), (9, 0), (1, b), (9, 0), (1, c), (9, 0), (0, ((g : Nat) : Int)), (1, qland x (wrl (x - 1))), (9, 0), (0, ((i : Nat) : Int)), (0, ((3 * (64 * g + s) : Nat) : Int))]) (st' := [(0, 540), (0, ((3 * (64 * g + s) + 2 : Nat) : Int))]) (w' := w) (n' := 142) rfl ?_
                rw [show (540 : Int) = N5 from hN5.symm]
                refine qG.br (P := ((3 * (64 * g + s) + 2 : Nat) : Int) < N5) (pc1 := 88) (pc2 := 126) (st1 := []) rfl (fun h540 => ?_) (fun h540 => ?_)
                · skip
                  refine qG.blk 3 (pc' := 93) (ls' := [(2, 24), (2, 27), (2, 28), (1, a), (9, 0), (1, b), (9, 0), (1, c), (9, 0), (0, ((g : Nat) : Int)), (1, qland x (wrl (x - 1))), (9, 0), (0, ((i : Nat) : Int)), (0, ((3 * (64 * g + s) : Nat) : Int))]) (st' := [(2, w 24 5), (1, a)]) (w' := w) (n' := 142) rfl ?_
                  rw [show w 24 5 = 26 from zref hI rfl rfl]
                  refine qG.blk 1 (pc' := 95) (ls' := [(2, 24), (2, 27), (2, 28), (1, a), (9, 0), (1, b), (9, 0), (1, c), (9, 0), (0, ((g : Nat) : Int)), (1, qland x (wrl (x - 1))), (9, 0), (0, ((i : Nat) : Int)), (0, ((3 * (64 * g + s) : Nat) : Int))]) (st' := [(0, ((3 * (64 * g + s) : Nat) : Int)), (2, 26), (1, a)]) (w' := w) (n' := 142) rfl ?_
                  refine qG.lld (m := 540) rfl rfl (by omega) (by decide) ?_
                  show qG none (d + 1) 101 96 [(2, 24), (2, 27), (2, 28), (1, a), (9, 0), (1, b), (9, 0), (1, c), (9, 0), (0, ((g : Nat) : Int)), (1, qland x (wrl (x - 1))), (9, 0), (0, ((i : Nat) : Int)), (0, ((3 * (64 * g + s) : Nat) : Int))] [(1, w 26 (3 * (64 * g + s))), (1, a)] w 142 Q9
                  refine qG.blk 5 (pc' := 104) (ls' := [(2, 24), (2, 27), (2, 28), (1, qlor a (w 26 (3 * (64 * g + s)))), (9, 0), (1, b), (9, 0), (1, c), (9, 0), (0, ((g : Nat) : Int)), (1, qland x (wrl (x - 1))), (9, 0), (0, ((i : Nat) : Int)), (0, ((3 * (64 * g + s) : Nat) : Int))]) (st' := [(2, w 24 5), (1, b)]) (w' := w) (n' := 142) rfl ?_
                  rw [show w 24 5 = 26 from zref hI rfl rfl]
                  refine qG.blk 3 (pc' := 108) (ls' := [(2, 24), (2, 27), (2, 28), (1, qlor a (w 26 (3 * (64 * g + s)))), (9, 0), (1, b), (9, 0), (1, c), (9, 0), (0, ((g : Nat) : Int)), (1, qland x (wrl (x - 1))), (9, 0), (0, ((i : Nat) : Int)), (0, ((3 * (64 * g + s) : Nat) : Int))]) (st' := [(0, wrp (((3 * (64 * g + s) : Nat) : Int) + 1)), (2, 26), (1, b)]) (w' := w) (n' := 142) rfl ?_
                  rw [show wrp (((3 * (64 * g + s) : Nat) : Int) + 1) = ((3 * (64 * g + s) + 1 : Nat) : Int) from by rw [wrp_id (by omega) (by omega)]; omega]
                  refine qG.lld (m := 540) rfl rfl (by omega) (by decide) ?_
                  show qG none (d + 1) 101 109 [(2, 24), (2, 27), (2, 28), (1, qlor a (w 26 (3 * (64 * g + s)))), (9, 0), (1, b), (9, 0), (1, c), (9, 0), (0, ((g : Nat) : Int)), (1, qland x (wrl (x - 1))), (9, 0), (0, ((i : Nat) : Int)), (0, ((3 * (64 * g + s) : Nat) : Int))] [(1, w 26 (3 * (64 * g + s) + 1)), (1, b)] w 142 Q9
                  refine qG.blk 5 (pc' := 118) (ls' := [(2, 24), (2, 27), (2, 28), (1, qlor a (w 26 (3 * (64 * g + s)))), (9, 0), (1, qlor b (w 26 (3 * (64 * g + s) + 1))), (9, 0), (1, c), (9, 0), (0, ((g : Nat) : Int)), (1, qland x (wrl (x - 1))), (9, 0), (0, ((i : Nat) : Int)), (0, ((3 * (64 * g + s) : Nat) : Int))]) (st' := [(2, w 24 5), (1, c)]) (w' := w) (n' := 142) rfl ?_
                  rw [show w 24 5 = 26 from zref hI rfl rfl]
                  refine qG.blk 3 (pc' := 122) (ls' := [(2, 24), (2, 27), (2, 28), (1, qlor a (w 26 (3 * (64 * g + s)))), (9, 0), (1, qlor b (w 26 (3 * (64 * g + s) + 1))), (9, 0), (1, c), (9, 0), (0, ((g : Nat) : Int)), (1, qland x (wrl (x - 1))), (9, 0), (0, ((i : Nat) : Int)), (0, ((3 * (64 * g + s) : Nat) : Int))]) (st' := [(0, wrp (((3 * (64 * g + s) : Nat) : Int) + 2)), (2, 26), (1, c)]) (w' := w) (n' := 142) rfl ?_
                  rw [show wrp (((3 * (64 * g + s) : Nat) : Int) + 2) = ((3 * (64 * g + s) + 2 : Nat) : Int) from by rw [wrp_id (by omega) (by omega)]; omega]
                  refine qG.lld (m := 540) rfl rfl (by omega) (by decide) ?_
                  show qG none (d + 1) 101 123 [(2, 24), (2, 27), (2, 28), (1, qlor a (w 26 (3 * (64 * g + s)))), (9, 0), (1, qlor b (w 26 (3 * (64 * g + s) + 1))), (9, 0), (1, c), (9, 0), (0, ((g : Nat) : Int)), (1, qland x (wrl (x - 1))), (9, 0), (0, ((i : Nat) : Int)), (0, ((3 * (64 * g + s) : Nat) : Int))] [(1, w 26 (3 * (64 * g + s) + 2)), (1, c)] w 142 Q9
                  refine qG.blk 3 (pc' := 129) (ls' := [(2, 24), (2, 27), (2, 28), (1, qlor a (w 26 (3 * (64 * g + s)))), (9, 0), (1, qlor b (w 26 (3 * (64 * g + s) + 1))), (9, 0), (1, qlor c (w 26 (3 * (64 * g + s) + 2))), (9, 0), (0, ((g : Nat) : Int)), (1, qland x (wrl (x - 1))), (9, 0), (0, wrp (((i : Nat) : Int) + 1)), (0, ((3 * (64 * g + s) : Nat) : Int))]) (st' := []) (w' := w) (n' := 142) rfl ?_
                  rw [show wrp (((i : Nat) : Int) + 1) = ((i + 1 : Nat) : Int) from wrp_id (by omega) (by omega)]
                  refine qG.blk 1 (pc' := 33) (ls' := [(2, 24), (2, 27), (2, 28), (1, qlor a (w 26 (3 * (64 * g + s)))), (9, 0), (1, qlor b (w 26 (3 * (64 * g + s) + 1))), (9, 0), (1, qlor c (w 26 (3 * (64 * g + s) + 2))), (9, 0), (0, ((g : Nat) : Int)), (1, qland x (wrl (x - 1))), (9, 0), (0, ((i + 1 : Nat) : Int)), (0, ((3 * (64 * g + s) : Nat) : Int))]) (st' := []) (w' := w) (n' := 142) rfl ?_
                  exact ih33 _ (by omega) (i + 1) (s + 1) (qlor a (w 26 (3 * (64 * g + s)))) (qlor b (w 26 (3 * (64 * g + s) + 1))) (qlor c (w 26 (3 * (64 * g + s) + 2))) (qland x (wrl (x - 1))) ((0, ((3 * (64 * g + s) : Nat) : Int))) rfl (⟨by omega, by omega, (RST.acc hA hst.1.1 hs hst.2.1).up (by rw [sb_g hs]; exact hst.1.2) (by omega), hst.2.2⟩)
                · skip
                  refine qG.blk 1 (pc' := 129) (ls' := [(2, 24), (2, 27), (2, 28), (1, a), (9, 0), (1, b), (9, 0), (1, c), (9, 0), (0, ((g : Nat) : Int)), (1, qland x (wrl (x - 1))), (9, 0), (0, wrp (((i : Nat) : Int) + 1)), (0, ((3 * (64 * g + s) : Nat) : Int))]) (st' := []) (w' := w) (n' := 142) rfl ?_
                  rw [show wrp (((i : Nat) : Int) + 1) = ((i + 1 : Nat) : Int) from wrp_id (by omega) (by omega)]
                  refine qG.blk 1 (pc' := 33) (ls' := [(2, 24), (2, 27), (2, 28), (1, a), (9, 0), (1, b), (9, 0), (1, c), (9, 0), (0, ((g : Nat) : Int)), (1, qland x (wrl (x - 1))), (9, 0), (0, ((i + 1 : Nat) : Int)), (0, ((3 * (64 * g + s) : Nat) : Int))]) (st' := []) (w' := w) (n' := 142) rfl ?_
                  exact ih33 _ (by omega) (i + 1) (s + 1) (a) (b) (c) (qland x (wrl (x - 1))) ((0, ((3 * (64 * g + s) : Nat) : Int))) rfl (⟨by omega, by omega, (RST.acc hA hst.1.1 hs hst.2.1).no (by omega), hst.2.2⟩)
          · skip
            refine qG.blk 1 (pc' := 135) (ls' := [(2, 24), (2, 27), (2, 28), (1, a), (9, 0), (1, b), (9, 0), (1, c), (9, 0), (0, wrp (((g : Nat) : Int) + 1)), (1, x), (9, 0), (0, ((i : Nat) : Int)), l13]) (st' := []) (w' := w) (n' := 142) rfl ?_
            rw [show wrp (((g : Nat) : Int) + 1) = ((g + 1 : Nat) : Int) from wrp_id (by omega) (by omega)]
            refine qG.blk 1 (pc' := 11) (ls' := [(2, 24), (2, 27), (2, 28), (1, a), (9, 0), (1, b), (9, 0), (1, c), (9, 0), (0, ((g + 1 : Nat) : Int)), (1, x), (9, 0), (0, ((i : Nat) : Int)), l13]) (st' := []) (w' := w) (n' := 142) rfl ?_
            exact ih11 _ (by omega) (g + 1) (a) (b) (c) ((1, x)) ((0, ((i : Nat) : Int))) (l13) rfl (⟨by omega, by first | exact RST.end hu64 hA (by have z := qcmp_0.mp hx0; rw [z] at hR; exact hR.e0) | exact RST.end hu64 hA (fun s h1 h2 => absurd h1 (by omega))⟩)
        exact L33 _ (0) (0) (a) (b) (c) (w 27 g) (l13) rfl (⟨Nat.le_refl _, Nat.zero_le _, hG, RST.z (by unfold LROW; omega) hI⟩)
      · exfalso; omega
    · skip
      refine qG.blk 4 (pc' := 144) (ls' := [(2, 24), (2, 27), (2, 28), (1, a), (9, 0), (1, b), (9, 0), (1, c), (9, 0), (0, ((g : Nat) : Int)), l10, (9, 0), l12, l13]) (st' := [(1, c), (1, b), (1, a), (2, 28)]) (w' := w) (n' := 142) rfl ?_
      refine qG.call (t := 105) (na := 4) (sk := 0) (md := 0) (ls1 := [(2, 28), (1, a), (9, 0), (1, b), (9, 0), (1, c), (9, 0)]) (r1 := []) rfl rfl rfl rfl rfl (K_putRow28 (Nat.zero_le _) a b c w) ?_
      rintro _ w0 _ ⟨rfl, hw0, rfl⟩
      have hG2 : ACC w 27 a b c 192 := by rw [show 192 = 64 * g by omega]; exact hG
      have hRW : RW 28 (fun j => spF w 27 j 192) w w0 := by rw [hw0]; exact RW.p (by unfold LROW; omega) hI hG2.1.1 hG2.1.2.1 hG2.1.2.2 hG2.2.1 hG2.2.2.1 hG2.2.2.2
      show qG none (d + 1) 101 147 [(2, 24), (2, 27), (2, 28), (1, a), (9, 0), (1, b), (9, 0), (1, c), (9, 0), (0, ((g : Nat) : Int)), l10, (9, 0), l12, l13] [] w0 142 Q9
      refine qG.retv rfl rfl ?_
      subst hQ9
      exact ⟨rfl, rfl, hRW⟩
  exact L11 _ (0) (0) (0) (0) ((9, 0)) ((9, 0)) ((9, 0)) rfl (⟨Nat.zero_le _, ACC.z⟩)
theorem K_spread34_27 {d : Nat} (hd : 2 ≤ d) (w : qW) (hI : yInv zgf zga zra zSp w) : qG none d 101 0 [(2, 24), (2, 34), (2, 27), (9, 0), (9, 0), (9, 0), (9, 0), (9, 0), (9, 0), (9, 0), (9, 0), (9, 0), (9, 0), (9, 0)] [] w 142 (fun (r : qV) (w1 : qW) (n1 : Nat) => r = (9, 0) ∧ n1 = 142 ∧ RW 27 (fun j => spF w 34 j 192) w w1) := by
  generalize hQ9 : (fun (r : qV) (w1 : qW) (n1 : Nat) => r = (9, 0) ∧ n1 = 142 ∧ RW 27 (fun j => spF w 34 j 192) w w1) = Q9
  obtain ⟨N5, hN5⟩ : ∃ N : Int, N = 540 := ⟨_, rfl⟩
  obtain ⟨d, rfl⟩ : ∃ d9, d = d9 + 1 := ⟨d - 1, by omega⟩
  refine qG.blk 8 (pc' := 11) (ls' := [(2, 24), (2, 34), (2, 27), (1, 0), (9, 0), (1, 0), (9, 0), (1, 0), (9, 0), (0, 0), (9, 0), (9, 0), (9, 0), (9, 0)]) (st' := []) (w' := w) (n' := 142) rfl ?_
  have L11 : ∀ (m9 : Nat) (g : Nat) (a b c : Int) (l10 l12 l13 : qV), 3 - g = m9 → (g ≤ 3 ∧ ACC w 34 a b c (64 * g)) → qG none (d + 1) 101 11 [(2, 24), (2, 34), (2, 27), (1, a), (9, 0), (1, b), (9, 0), (1, c), (9, 0), (0, ((g : Nat) : Int)), l10, (9, 0), l12, l13] [] w 142 Q9 := by
    intro m9
    induction m9 using Nat.strongRecOn with
    | ind m9 ih11 =>
    intro g a b c l10 l12 l13 hm11 hI11
    obtain ⟨hg3, hG⟩ := hI11
    refine qG.blk 2 (pc' := 14) (ls' := [(2, 24), (2, 34), (2, 27), (1, a), (9, 0), (1, b), (9, 0), (1, c), (9, 0), (0, ((g : Nat) : Int)), l10, (9, 0), l12, l13]) (st' := [(0, 3), (0, ((g : Nat) : Int))]) (w' := w) (n' := 142) rfl ?_
    refine qG.br (P := ((g : Nat) : Int) < 3) (pc1 := 17) (pc2 := 138) (st1 := []) rfl (fun hg => ?_) (fun hg => ?_)
    · skip
      refine qG.blk 3 (pc' := 21) (ls' := [(2, 24), (2, 34), (2, 27), (1, a), (9, 0), (1, b), (9, 0), (1, c), (9, 0), (0, ((g : Nat) : Int)), l10, (9, 0), l12, l13]) (st' := [(0, 3), (0, ((g : Nat) : Int))]) (w' := w) (n' := 142) rfl ?_
      refine qG.br (P := ((g : Nat) : Int) < 3) (pc1 := 24) (pc2 := 138) (st1 := []) rfl (fun hgl => ?_) (fun hgl => ?_)
      · skip
        refine qG.blk 2 (pc' := 27) (ls' := [(2, 24), (2, 34), (2, 27), (1, a), (9, 0), (1, b), (9, 0), (1, c), (9, 0), (0, ((g : Nat) : Int)), l10, (9, 0), l12, l13]) (st' := [(0, ((g : Nat) : Int)), (2, 34)]) (w' := w) (n' := 142) rfl ?_
        refine qG.ar (P := 0 ≤ ((g : Nat) : Int) ∧ ((g : Nat) : Int) < ((3 : Nat) : Int)) (P2 := 0 < (34 : Int) ∧ (34 : Int) ≤ ((142 : Nat) : Int)) (pc' := 28) (ls' := [(2, 24), (2, 34), (2, 27), (1, a), (9, 0), (1, b), (9, 0), (1, c), (9, 0), (0, ((g : Nat) : Int)), l10, (9, 0), l12, l13]) (st' := [(1, w 34 g)]) (w' := w) (n' := 142) rfl (by omega) (by decide) ?_
        refine qG.blk 3 (pc' := 33) (ls' := [(2, 24), (2, 34), (2, 27), (1, a), (9, 0), (1, b), (9, 0), (1, c), (9, 0), (0, ((g : Nat) : Int)), (1, w 34 g), (9, 0), (0, 0), l13]) (st' := []) (w' := w) (n' := 142) rfl ?_
        have L33 : ∀ (m9 : Nat) (i u : Nat) (a b c x : Int) (l13 : qV), 64 - i = m9 → (i ≤ u ∧ u ≤ 64 ∧ ACC w 34 a b c (64 * g + u) ∧ RST w 34 g u x) → qG none (d + 1) 101 33 [(2, 24), (2, 34), (2, 27), (1, a), (9, 0), (1, b), (9, 0), (1, c), (9, 0), (0, ((g : Nat) : Int)), (1, x), (9, 0), (0, ((i : Nat) : Int)), l13] [] w 142 Q9 := by
          intro m9
          induction m9 using Nat.strongRecOn with
          | ind m9 ih33 =>
          intro i u a b c x l13 hm33 hI33
          obtain ⟨hiu, hu64, hA, hR⟩ := hI33
          refine qG.blk 2 (pc' := 37) (ls' := [(2, 24), (2, 34), (2, 27), (1, a), (9, 0), (1, b), (9, 0), (1, c), (9, 0), (0, ((g : Nat) : Int)), (1, x), (9, 0), (0, ((i : Nat) : Int)), l13]) (st' := [(0, 64), (0, ((i : Nat) : Int))]) (w' := w) (n' := 142) rfl ?_
          refine qG.br (P := ((i : Nat) : Int) < 64) (pc1 := 40) (pc2 := 132) (st1 := []) rfl (fun hi64 => ?_) (fun hi64 => ?_)
          · skip
            refine qG.blk 3 (pc' := 44) (ls' := [(2, 24), (2, 34), (2, 27), (1, a), (9, 0), (1, b), (9, 0), (1, c), (9, 0), (0, ((g : Nat) : Int)), (1, x), (9, 0), (0, ((i : Nat) : Int)), l13]) (st' := [(0, qcmp x 0)]) (w' := w) (n' := 142) rfl ?_
            refine qG.br (P := qcmp x 0 = 0) (pc1 := 132) (pc2 := 47) (st1 := []) rfl (fun hx0 => ?_) (fun hx0 => ?_)
            · skip
              refine qG.blk 1 (pc' := 135) (ls' := [(2, 24), (2, 34), (2, 27), (1, a), (9, 0), (1, b), (9, 0), (1, c), (9, 0), (0, wrp (((g : Nat) : Int) + 1)), (1, x), (9, 0), (0, ((i : Nat) : Int)), l13]) (st' := []) (w' := w) (n' := 142) rfl ?_
              rw [show wrp (((g : Nat) : Int) + 1) = ((g + 1 : Nat) : Int) from wrp_id (by omega) (by omega)]
              refine qG.blk 1 (pc' := 11) (ls' := [(2, 24), (2, 34), (2, 27), (1, a), (9, 0), (1, b), (9, 0), (1, c), (9, 0), (0, ((g + 1 : Nat) : Int)), (1, x), (9, 0), (0, ((i : Nat) : Int)), l13]) (st' := []) (w' := w) (n' := 142) rfl ?_
              exact ih11 _ (by omega) (g + 1) (a) (b) (c) ((1, x)) ((0, ((i : Nat) : Int))) (l13) rfl (⟨by omega, by first | exact RST.end hu64 hA (by have z := qcmp_0.mp hx0; rw [z] at hR; exact hR.e0) | exact RST.end hu64 hA (fun s h1 h2 => absurd h1 (by omega))⟩)
            · skip
              refine qG.blk 4 (pc' := 53) (ls' := [(2, 24), (2, 34), (2, 27), (1, a), (9, 0), (1, b), (9, 0), (1, c), (9, 0), (0, ((g : Nat) : Int)), (1, x), (9, 0), (0, ((i : Nat) : Int)), l13]) (st' := [(0, wrp (64 * ((g : Nat) : Int))), (0, 3)]) (w' := w) (n' := 142) rfl ?_
              rw [show wrp (64 * ((g : Nat) : Int)) = ((64 * g : Nat) : Int) from by rw [wrp_id (by omega) (by omega)]; omega]
              refine qG.blk 1 (pc' := 55) (ls' := [(2, 24), (2, 34), (2, 27), (1, a), (9, 0), (1, b), (9, 0), (1, c), (9, 0), (0, ((g : Nat) : Int)), (1, x), (9, 0), (0, ((i : Nat) : Int)), l13]) (st' := [(1, x), (0, ((64 * g : Nat) : Int)), (0, 3)]) (w' := w) (n' := 142) rfl ?_
              refine qG.call (t := 303) (na := 1) (sk := 0) (md := 0) (ls1 := [(1, x), (9, 0), (9, 0)]) (r1 := [(0, ((64 * g : Nat) : Int)), (0, 3)]) rfl rfl rfl rfl rfl (K_lnt (by omega) x w) ?_
              rintro _ w7 _ ⟨rfl, hw7, rfl⟩
              rw [hw7]
              obtain ⟨s, hs, hb, hl⟩ := lb_ne hR.1 (fun z => hx0 (qcmp_0.mpr z))
              have hst := hR.st hs hb hl
              rw [lnt_low hs hb hl]
              show qG none (d + 1) 101 58 [(2, 24), (2, 34), (2, 27), (1, a), (9, 0), (1, b), (9, 0), (1, c), (9, 0), (0, ((g : Nat) : Int)), (1, x), (9, 0), (0, ((i : Nat) : Int)), l13] [(0, ((s : Nat) : Int)), (0, ((64 * g : Nat) : Int)), (0, 3)] w 142 Q9
              refine qG.blk 1 (pc' := 59) (ls' := [(2, 24), (2, 34), (2, 27), (1, a), (9, 0), (1, b), (9, 0), (1, c), (9, 0), (0, ((g : Nat) : Int)), (1, x), (9, 0), (0, ((i : Nat) : Int)), l13]) (st' := [(0, wrp (((64 * g : Nat) : Int) + ((s : Nat) : Int))), (0, 3)]) (w' := w) (n' := 142) rfl ?_
              rw [show wrp (((64 * g : Nat) : Int) + ((s : Nat) : Int)) = ((64 * g + s : Nat) : Int) from by rw [wrp_id (by omega) (by omega)]; omega]
              refine qG.blk 1 (pc' := 60) (ls' := [(2, 24), (2, 34), (2, 27), (1, a), (9, 0), (1, b), (9, 0), (1, c), (9, 0), (0, ((g : Nat) : Int)), (1, x), (9, 0), (0, ((i : Nat) : Int)), l13]) (st' := [(0, wrp (3 * ((64 * g + s : Nat) : Int)))]) (w' := w) (n' := 142) rfl ?_
              rw [show wrp (3 * ((64 * g + s : Nat) : Int)) = ((3 * (64 * g + s) : Nat) : Int) from by rw [wrp_id (by omega) (by omega)]; omega]
              refine qG.blk 5 (pc' := 68) (ls' := [(2, 24), (2, 34), (2, 27), (1, a), (9, 0), (1, b), (9, 0), (1, c), (9, 0), (0, ((g : Nat) : Int)), (1, x), (9, 0), (0, ((i : Nat) : Int)), (0, ((3 * (64 * g + s) : Nat) : Int))]) (st' := [(1, wrl (x - 1)), (1, x)]) (w' := w) (n' := 142) rfl ?_
              refine qG.blk 3 (pc' := 73) (ls' := [(2, 24), (2, 34), (2, 27), (1, a), (9, 0), (1, b), (9, 0), (1, c), (9, 0), (0, ((g : Nat) : Int)), (1, qland x (wrl (x - 1))), (9, 0), (0, ((i : Nat) : Int)), (0, ((3 * (64 * g + s) : Nat) : Int))]) (st' := [(0, ((3 * (64 * g + s) : Nat) : Int))]) (w' := w) (n' := 142) rfl ?_
              refine qG.br (P := ((3 * (64 * g + s) : Nat) : Int) < 0) (pc1 := 126) (pc2 := 76) (st1 := []) rfl (fun hr0 => ?_) (fun hr0 => ?_)
              · exfalso; omega
              · skip
                refine qG.blk 3 (pc' := 80) (ls' := [(2, 24), (2, 34), (2, 27), (1, a), (9, 0), (1, b), (9, 0), (1, c), (9, 0), (0, ((g : Nat) : Int)), (1, qland x (wrl (x - 1))), (9, 0), (0, ((i : Nat) : Int)), (0, ((3 * (64 * g + s) : Nat) : Int))]) (st' := [(0, wrp (((3 * (64 * g + s) : Nat) : Int) + 2))]) (w' := w) (n' := 142) rfl ?_
                rw [show wrp (((3 * (64 * g + s) : Nat) : Int) + 2) = ((3 * (64 * g + s) + 2 : Nat) : Int) from by rw [wrp_id (by omega) (by omega)]; omega]
                refine qG.blk 2 (pc' := 84) (ls' := [(2, 24), (2, 34), (2, 27), (1, a), (9, 0), (1, b), (9, 0), (1, c), (9, 0), (0, ((g : Nat) : Int)), (1, qland x (wrl (x - 1))), (9, 0), (0, ((i : Nat) : Int)), (0, ((3 * (64 * g + s) : Nat) : Int))]) (st' := [(2, w 24 5), (0, ((3 * (64 * g + s) + 2 : Nat) : Int))]) (w' := w) (n' := 142) rfl ?_
                rw [show w 24 5 = 26 from zref hI rfl rfl]
                refine qG.blk 1 (pc' := 85) (ls' := [(2, 24), (2, 34), (2, 27), (1, a), (9, 0), (1, b), (9, 0), (1, c), (9, 0), (0, ((g : Nat) : Int)), (1, qland x (wrl (x - 1))), (9, 0), (0, ((i : Nat) : Int)), (0, ((3 * (64 * g + s) : Nat) : Int))]) (st' := [(0, 540), (0, ((3 * (64 * g + s) + 2 : Nat) : Int))]) (w' := w) (n' := 142) rfl ?_
                rw [show (540 : Int) = N5 from hN5.symm]
                refine qG.br (P := ((3 * (64 * g + s) + 2 : Nat) : Int) < N5) (pc1 := 88) (pc2 := 126) (st1 := []) rfl (fun h540 => ?_) (fun h540 => ?_)
                · skip
                  refine qG.blk 3 (pc' := 93) (ls' := [(2, 24), (2, 34), (2, 27), (1, a), (9, 0), (1, b), (9, 0), (1, c), (9, 0), (0, ((g : Nat) : Int)), (1, qland x (wrl (x - 1))), (9, 0), (0, ((i : Nat) : Int)), (0, ((3 * (64 * g + s) : Nat) : Int))]) (st' := [(2, w 24 5), (1, a)]) (w' := w) (n' := 142) rfl ?_
                  rw [show w 24 5 = 26 from zref hI rfl rfl]
                  refine qG.blk 1 (pc' := 95) (ls' := [(2, 24), (2, 34), (2, 27), (1, a), (9, 0), (1, b), (9, 0), (1, c), (9, 0), (0, ((g : Nat) : Int)), (1, qland x (wrl (x - 1))), (9, 0), (0, ((i : Nat) : Int)), (0, ((3 * (64 * g + s) : Nat) : Int))]) (st' := [(0, ((3 * (64 * g + s) : Nat) : Int)), (2, 26), (1, a)]) (w' := w) (n' := 142) rfl ?_
                  refine qG.lld (m := 540) rfl rfl (by omega) (by decide) ?_
                  show qG none (d + 1) 101 96 [(2, 24), (2, 34), (2, 27), (1, a), (9, 0), (1, b), (9, 0), (1, c), (9, 0), (0, ((g : Nat) : Int)), (1, qland x (wrl (x - 1))), (9, 0), (0, ((i : Nat) : Int)), (0, ((3 * (64 * g + s) : Nat) : Int))] [(1, w 26 (3 * (64 * g + s))), (1, a)] w 142 Q9
                  refine qG.blk 5 (pc' := 104) (ls' := [(2, 24), (2, 34), (2, 27), (1, qlor a (w 26 (3 * (64 * g + s)))), (9, 0), (1, b), (9, 0), (1, c), (9, 0), (0, ((g : Nat) : Int)), (1, qland x (wrl (x - 1))), (9, 0), (0, ((i : Nat) : Int)), (0, ((3 * (64 * g + s) : Nat) : Int))]) (st' := [(2, w 24 5), (1, b)]) (w' := w) (n' := 142) rfl ?_
                  rw [show w 24 5 = 26 from zref hI rfl rfl]
                  refine qG.blk 3 (pc' := 108) (ls' := [(2, 24), (2, 34), (2, 27), (1, qlor a (w 26 (3 * (64 * g + s)))), (9, 0), (1, b), (9, 0), (1, c), (9, 0), (0, ((g : Nat) : Int)), (1, qland x (wrl (x - 1))), (9, 0), (0, ((i : Nat) : Int)), (0, ((3 * (64 * g + s) : Nat) : Int))]) (st' := [(0, wrp (((3 * (64 * g + s) : Nat) : Int) + 1)), (2, 26), (1, b)]) (w' := w) (n' := 142) rfl ?_
                  rw [show wrp (((3 * (64 * g + s) : Nat) : Int) + 1) = ((3 * (64 * g + s) + 1 : Nat) : Int) from by rw [wrp_id (by omega) (by omega)]; omega]
                  refine qG.lld (m := 540) rfl rfl (by omega) (by decide) ?_
                  show qG none (d + 1) 101 109 [(2, 24), (2, 34), (2, 27), (1, qlor a (w 26 (3 * (64 * g + s)))), (9, 0), (1, b), (9, 0), (1, c), (9, 0), (0, ((g : Nat) : Int)), (1, qland x (wrl (x - 1))), (9, 0), (0, ((i : Nat) : Int)), (0, ((3 * (64 * g + s) : Nat) : Int))] [(1, w 26 (3 * (64 * g + s) + 1)), (1, b)] w 142 Q9
                  refine qG.blk 5 (pc' := 118) (ls' := [(2, 24), (2, 34), (2, 27), (1, qlor a (w 26 (3 * (64 * g + s)))), (9, 0), (1, qlor b (w 26 (3 * (64 * g + s) + 1))), (9, 0), (1, c), (9, 0), (0, ((g : Nat) : Int)), (1, qland x (wrl (x - 1))), (9, 0), (0, ((i : Nat) : Int)), (0, ((3 * (64 * g + s) : Nat) : Int))]) (st' := [(2, w 24 5), (1, c)]) (w' := w) (n' := 142) rfl ?_
                  rw [show w 24 5 = 26 from zref hI rfl rfl]
                  refine qG.blk 3 (pc' := 122) (ls' := [(2, 24), (2, 34), (2, 27), (1, qlor a (w 26 (3 * (64 * g + s)))), (9, 0), (1, qlor b (w 26 (3 * (64 * g + s) + 1))), (9, 0), (1, c), (9, 0), (0, ((g : Nat) : Int)), (1, qland x (wrl (x - 1))), (9, 0), (0, ((i : Nat) : Int)), (0, ((3 * (64 * g + s) : Nat) : Int))]) (st' := [(0, wrp (((3 * (64 * g + s) : Nat) : Int) + 2)), (2, 26), (1, c)]) (w' := w) (n' := 142) rfl ?_
                  rw [show wrp (((3 * (64 * g + s) : Nat) : Int) + 2) = ((3 * (64 * g + s) + 2 : Nat) : Int) from by rw [wrp_id (by omega) (by omega)]; omega]
                  refine qG.lld (m := 540) rfl rfl (by omega) (by decide) ?_
                  show qG none (d + 1) 101 123 [(2, 24), (2, 34), (2, 27), (1, qlor a (w 26 (3 * (64 * g + s)))), (9, 0), (1, qlor b (w 26 (3 * (64 * g + s) + 1))), (9, 0), (1, c), (9, 0), (0, ((g : Nat) : Int)), (1, qland x (wrl (x - 1))), (9, 0), (0, ((i : Nat) : Int)), (0, ((3 * (64 * g + s) : Nat) : Int))] [(1, w 26 (3 * (64 * g + s) + 2)), (1, c)] w 142 Q9
                  refine qG.blk 3 (pc' := 129) (ls' := [(2, 24), (2, 34), (2, 27), (1, qlor a (w 26 (3 * (64 * g + s)))), (9, 0), (1, qlor b (w 26 (3 * (64 * g + s) + 1))), (9, 0), (1, qlor c (w 26 (3 * (64 * g + s) + 2))), (9, 0), (0, ((g : Nat) : Int)), (1, qland x (wrl (x - 1))), (9, 0), (0, wrp (((i : Nat) : Int) + 1)), (0, ((3 * (64 * g + s) : Nat) : Int))]) (st' := []) (w' := w) (n' := 142) rfl ?_
                  rw [show wrp (((i : Nat) : Int) + 1) = ((i + 1 : Nat) : Int) from wrp_id (by omega) (by omega)]
                  refine qG.blk 1 (pc' := 33) (ls' := [(2, 24), (2, 34), (2, 27), (1, qlor a (w 26 (3 * (64 * g + s)))), (9, 0), (1, qlor b (w 26 (3 * (64 * g + s) + 1))), (9, 0), (1, qlor c (w 26 (3 * (64 * g + s) + 2))), (9, 0), (0, ((g : Nat) : Int)), (1, qland x (wrl (x - 1))), (9, 0), (0, ((i + 1 : Nat) : Int)), (0, ((3 * (64 * g + s) : Nat) : Int))]) (st' := []) (w' := w) (n' := 142) rfl ?_
                  exact ih33 _ (by omega) (i + 1) (s + 1) (qlor a (w 26 (3 * (64 * g + s)))) (qlor b (w 26 (3 * (64 * g + s) + 1))) (qlor c (w 26 (3 * (64 * g + s) + 2))) (qland x (wrl (x - 1))) ((0, ((3 * (64 * g + s) : Nat) : Int))) rfl (⟨by omega, by omega, (RST.acc hA hst.1.1 hs hst.2.1).up (by rw [sb_g hs]; exact hst.1.2) (by omega), hst.2.2⟩)
                · skip
                  refine qG.blk 1 (pc' := 129) (ls' := [(2, 24), (2, 34), (2, 27), (1, a), (9, 0), (1, b), (9, 0), (1, c), (9, 0), (0, ((g : Nat) : Int)), (1, qland x (wrl (x - 1))), (9, 0), (0, wrp (((i : Nat) : Int) + 1)), (0, ((3 * (64 * g + s) : Nat) : Int))]) (st' := []) (w' := w) (n' := 142) rfl ?_
                  rw [show wrp (((i : Nat) : Int) + 1) = ((i + 1 : Nat) : Int) from wrp_id (by omega) (by omega)]
                  refine qG.blk 1 (pc' := 33) (ls' := [(2, 24), (2, 34), (2, 27), (1, a), (9, 0), (1, b), (9, 0), (1, c), (9, 0), (0, ((g : Nat) : Int)), (1, qland x (wrl (x - 1))), (9, 0), (0, ((i + 1 : Nat) : Int)), (0, ((3 * (64 * g + s) : Nat) : Int))]) (st' := []) (w' := w) (n' := 142) rfl ?_
                  exact ih33 _ (by omega) (i + 1) (s + 1) (a) (b) (c) (qland x (wrl (x - 1))) ((0, ((3 * (64 * g + s) : Nat) : Int))) rfl (⟨by omega, by omega, (RST.acc hA hst.1.1 hs hst.2.1).no (by omega), hst.2.2⟩)
          · skip
            refine qG.blk 1 (pc' := 135) (ls' := [(2, 24), (2, 34), (2, 27), (1, a), (9, 0), (1, b), (9, 0), (1, c), (9, 0), (0, wrp (((g : Nat) : Int) + 1)), (1, x), (9, 0), (0, ((i : Nat) : Int)), l13]) (st' := []) (w' := w) (n' := 142) rfl ?_
            rw [show wrp (((g : Nat) : Int) + 1) = ((g + 1 : Nat) : Int) from wrp_id (by omega) (by omega)]
            refine qG.blk 1 (pc' := 11) (ls' := [(2, 24), (2, 34), (2, 27), (1, a), (9, 0), (1, b), (9, 0), (1, c), (9, 0), (0, ((g + 1 : Nat) : Int)), (1, x), (9, 0), (0, ((i : Nat) : Int)), l13]) (st' := []) (w' := w) (n' := 142) rfl ?_
            exact ih11 _ (by omega) (g + 1) (a) (b) (c) ((1, x)) ((0, ((i : Nat) : Int))) (l13) rfl (⟨by omega, by first | exact RST.end hu64 hA (by have z := qcmp_0.mp hx0; rw [z] at hR; exact hR.e0) | exact RST.end hu64 hA (fun s h1 h2 => absurd h1 (by omega))⟩)
        exact L33 _ (0) (0) (a) (b) (c) (w 34 g) (l13) rfl (⟨Nat.le_refl _, Nat.zero_le _, hG, RST.z (by unfold LROW; omega) hI⟩)
      · exfalso; omega
    · skip
      refine qG.blk 4 (pc' := 144) (ls' := [(2, 24), (2, 34), (2, 27), (1, a), (9, 0), (1, b), (9, 0), (1, c), (9, 0), (0, ((g : Nat) : Int)), l10, (9, 0), l12, l13]) (st' := [(1, c), (1, b), (1, a), (2, 27)]) (w' := w) (n' := 142) rfl ?_
      refine qG.call (t := 105) (na := 4) (sk := 0) (md := 0) (ls1 := [(2, 27), (1, a), (9, 0), (1, b), (9, 0), (1, c), (9, 0)]) (r1 := []) rfl rfl rfl rfl rfl (K_putRow27 (Nat.zero_le _) a b c w) ?_
      rintro _ w0 _ ⟨rfl, hw0, rfl⟩
      have hG2 : ACC w 34 a b c 192 := by rw [show 192 = 64 * g by omega]; exact hG
      have hRW : RW 27 (fun j => spF w 34 j 192) w w0 := by rw [hw0]; exact RW.p (by unfold LROW; omega) hI hG2.1.1 hG2.1.2.1 hG2.1.2.2 hG2.2.1 hG2.2.2.1 hG2.2.2.2
      show qG none (d + 1) 101 147 [(2, 24), (2, 34), (2, 27), (1, a), (9, 0), (1, b), (9, 0), (1, c), (9, 0), (0, ((g : Nat) : Int)), l10, (9, 0), l12, l13] [] w0 142 Q9
      refine qG.retv rfl rfl ?_
      subst hQ9
      exact ⟨rfl, rfl, hRW⟩
  exact L11 _ (0) (0) (0) (0) ((9, 0)) ((9, 0)) ((9, 0)) rfl (⟨Nat.zero_le _, ACC.z⟩)
theorem K_spread35_27 {d : Nat} (hd : 2 ≤ d) (w : qW) (hI : yInv zgf zga zra zSp w) : qG none d 101 0 [(2, 24), (2, 35), (2, 27), (9, 0), (9, 0), (9, 0), (9, 0), (9, 0), (9, 0), (9, 0), (9, 0), (9, 0), (9, 0), (9, 0)] [] w 142 (fun (r : qV) (w1 : qW) (n1 : Nat) => r = (9, 0) ∧ n1 = 142 ∧ RW 27 (fun j => spF w 35 j 192) w w1) := by
  generalize hQ9 : (fun (r : qV) (w1 : qW) (n1 : Nat) => r = (9, 0) ∧ n1 = 142 ∧ RW 27 (fun j => spF w 35 j 192) w w1) = Q9
  obtain ⟨N5, hN5⟩ : ∃ N : Int, N = 540 := ⟨_, rfl⟩
  obtain ⟨d, rfl⟩ : ∃ d9, d = d9 + 1 := ⟨d - 1, by omega⟩
  refine qG.blk 8 (pc' := 11) (ls' := [(2, 24), (2, 35), (2, 27), (1, 0), (9, 0), (1, 0), (9, 0), (1, 0), (9, 0), (0, 0), (9, 0), (9, 0), (9, 0), (9, 0)]) (st' := []) (w' := w) (n' := 142) rfl ?_
  have L11 : ∀ (m9 : Nat) (g : Nat) (a b c : Int) (l10 l12 l13 : qV), 3 - g = m9 → (g ≤ 3 ∧ ACC w 35 a b c (64 * g)) → qG none (d + 1) 101 11 [(2, 24), (2, 35), (2, 27), (1, a), (9, 0), (1, b), (9, 0), (1, c), (9, 0), (0, ((g : Nat) : Int)), l10, (9, 0), l12, l13] [] w 142 Q9 := by
    intro m9
    induction m9 using Nat.strongRecOn with
    | ind m9 ih11 =>
    intro g a b c l10 l12 l13 hm11 hI11
    obtain ⟨hg3, hG⟩ := hI11
    refine qG.blk 2 (pc' := 14) (ls' := [(2, 24), (2, 35), (2, 27), (1, a), (9, 0), (1, b), (9, 0), (1, c), (9, 0), (0, ((g : Nat) : Int)), l10, (9, 0), l12, l13]) (st' := [(0, 3), (0, ((g : Nat) : Int))]) (w' := w) (n' := 142) rfl ?_
    refine qG.br (P := ((g : Nat) : Int) < 3) (pc1 := 17) (pc2 := 138) (st1 := []) rfl (fun hg => ?_) (fun hg => ?_)
    · skip
      refine qG.blk 3 (pc' := 21) (ls' := [(2, 24), (2, 35), (2, 27), (1, a), (9, 0), (1, b), (9, 0), (1, c), (9, 0), (0, ((g : Nat) : Int)), l10, (9, 0), l12, l13]) (st' := [(0, 3), (0, ((g : Nat) : Int))]) (w' := w) (n' := 142) rfl ?_
      refine qG.br (P := ((g : Nat) : Int) < 3) (pc1 := 24) (pc2 := 138) (st1 := []) rfl (fun hgl => ?_) (fun hgl => ?_)
      · skip
        refine qG.blk 2 (pc' := 27) (ls' := [(2, 24), (2, 35), (2, 27), (1, a), (9, 0), (1, b), (9, 0), (1, c), (9, 0), (0, ((g : Nat) : Int)), l10, (9, 0), l12, l13]) (st' := [(0, ((g : Nat) : Int)), (2, 35)]) (w' := w) (n' := 142) rfl ?_
        refine qG.ar (P := 0 ≤ ((g : Nat) : Int) ∧ ((g : Nat) : Int) < ((3 : Nat) : Int)) (P2 := 0 < (35 : Int) ∧ (35 : Int) ≤ ((142 : Nat) : Int)) (pc' := 28) (ls' := [(2, 24), (2, 35), (2, 27), (1, a), (9, 0), (1, b), (9, 0), (1, c), (9, 0), (0, ((g : Nat) : Int)), l10, (9, 0), l12, l13]) (st' := [(1, w 35 g)]) (w' := w) (n' := 142) rfl (by omega) (by decide) ?_
        refine qG.blk 3 (pc' := 33) (ls' := [(2, 24), (2, 35), (2, 27), (1, a), (9, 0), (1, b), (9, 0), (1, c), (9, 0), (0, ((g : Nat) : Int)), (1, w 35 g), (9, 0), (0, 0), l13]) (st' := []) (w' := w) (n' := 142) rfl ?_
        have L33 : ∀ (m9 : Nat) (i u : Nat) (a b c x : Int) (l13 : qV), 64 - i = m9 → (i ≤ u ∧ u ≤ 64 ∧ ACC w 35 a b c (64 * g + u) ∧ RST w 35 g u x) → qG none (d + 1) 101 33 [(2, 24), (2, 35), (2, 27), (1, a), (9, 0), (1, b), (9, 0), (1, c), (9, 0), (0, ((g : Nat) : Int)), (1, x), (9, 0), (0, ((i : Nat) : Int)), l13] [] w 142 Q9 := by
          intro m9
          induction m9 using Nat.strongRecOn with
          | ind m9 ih33 =>
          intro i u a b c x l13 hm33 hI33
          obtain ⟨hiu, hu64, hA, hR⟩ := hI33
          refine qG.blk 2 (pc' := 37) (ls' := [(2, 24), (2, 35), (2, 27), (1, a), (9, 0), (1, b), (9, 0), (1, c), (9, 0), (0, ((g : Nat) : Int)), (1, x), (9, 0), (0, ((i : Nat) : Int)), l13]) (st' := [(0, 64), (0, ((i : Nat) : Int))]) (w' := w) (n' := 142) rfl ?_
          refine qG.br (P := ((i : Nat) : Int) < 64) (pc1 := 40) (pc2 := 132) (st1 := []) rfl (fun hi64 => ?_) (fun hi64 => ?_)
          · skip
            refine qG.blk 3 (pc' := 44) (ls' := [(2, 24), (2, 35), (2, 27), (1, a), (9, 0), (1, b), (9, 0), (1, c), (9, 0), (0, ((g : Nat) : Int)), (1, x), (9, 0), (0, ((i : Nat) : Int)), l13]) (st' := [(0, qcmp x 0)]) (w' := w) (n' := 142) rfl ?_
            refine qG.br (P := qcmp x 0 = 0) (pc1 := 132) (pc2 := 47) (st1 := []) rfl (fun hx0 => ?_) (fun hx0 => ?_)
            · skip
              refine qG.blk 1 (pc' := 135) (ls' := [(2, 24), (2, 35), (2, 27), (1, a), (9, 0), (1, b), (9, 0), (1, c), (9, 0), (0, wrp (((g : Nat) : Int) + 1)), (1, x), (9, 0), (0, ((i : Nat) : Int)), l13]) (st' := []) (w' := w) (n' := 142) rfl ?_
              rw [show wrp (((g : Nat) : Int) + 1) = ((g + 1 : Nat) : Int) from wrp_id (by omega) (by omega)]
              refine qG.blk 1 (pc' := 11) (ls' := [(2, 24), (2, 35), (2, 27), (1, a), (9, 0), (1, b), (9, 0), (1, c), (9, 0), (0, ((g + 1 : Nat) : Int)), (1, x), (9, 0), (0, ((i : Nat) : Int)), l13]) (st' := []) (w' := w) (n' := 142) rfl ?_
              exact ih11 _ (by omega) (g + 1) (a) (b) (c) ((1, x)) ((0, ((i : Nat) : Int))) (l13) rfl (⟨by omega, by first | exact RST.end hu64 hA (by have z := qcmp_0.mp hx0; rw [z] at hR; exact hR.e0) | exact RST.end hu64 hA (fun s h1 h2 => absurd h1 (by omega))⟩)
            · skip
              refine qG.blk 4 (pc' := 53) (ls' := [(2, 24), (2, 35), (2, 27), (1, a), (9, 0), (1, b), (9, 0), (1, c), (9, 0), (0, ((g : Nat) : Int)), (1, x), (9, 0), (0, ((i : Nat) : Int)), l13]) (st' := [(0, wrp (64 * ((g : Nat) : Int))), (0, 3)]) (w' := w) (n' := 142) rfl ?_
              rw [show wrp (64 * ((g : Nat) : Int)) = ((64 * g : Nat) : Int) from by rw [wrp_id (by omega) (by omega)]; omega]
              refine qG.blk 1 (pc' := 55) (ls' := [(2, 24), (2, 35), (2, 27), (1, a), (9, 0), (1, b), (9, 0), (1, c), (9, 0), (0, ((g : Nat) : Int)), (1, x), (9, 0), (0, ((i : Nat) : Int)), l13]) (st' := [(1, x), (0, ((64 * g : Nat) : Int)), (0, 3)]) (w' := w) (n' := 142) rfl ?_
              refine qG.call (t := 303) (na := 1) (sk := 0) (md := 0) (ls1 := [(1, x), (9, 0), (9, 0)]) (r1 := [(0, ((64 * g : Nat) : Int)), (0, 3)]) rfl rfl rfl rfl rfl (K_lnt (by omega) x w) ?_
              rintro _ w7 _ ⟨rfl, hw7, rfl⟩
              rw [hw7]
              obtain ⟨s, hs, hb, hl⟩ := lb_ne hR.1 (fun z => hx0 (qcmp_0.mpr z))
              have hst := hR.st hs hb hl
              rw [lnt_low hs hb hl]
              show qG none (d + 1) 101 58 [(2, 24), (2, 35), (2, 27), (1, a), (9, 0), (1, b), (9, 0), (1, c), (9, 0), (0, ((g : Nat) : Int)), (1, x), (9, 0), (0, ((i : Nat) : Int)), l13] [(0, ((s : Nat) : Int)), (0, ((64 * g : Nat) : Int)), (0, 3)] w 142 Q9
              refine qG.blk 1 (pc' := 59) (ls' := [(2, 24), (2, 35), (2, 27), (1, a), (9, 0), (1, b), (9, 0), (1, c), (9, 0), (0, ((g : Nat) : Int)), (1, x), (9, 0), (0, ((i : Nat) : Int)), l13]) (st' := [(0, wrp (((64 * g : Nat) : Int) + ((s : Nat) : Int))), (0, 3)]) (w' := w) (n' := 142) rfl ?_
              rw [show wrp (((64 * g : Nat) : Int) + ((s : Nat) : Int)) = ((64 * g + s : Nat) : Int) from by rw [wrp_id (by omega) (by omega)]; omega]
              refine qG.blk 1 (pc' := 60) (ls' := [(2, 24), (2, 35), (2, 27), (1, a), (9, 0), (1, b), (9, 0), (1, c), (9, 0), (0, ((g : Nat) : Int)), (1, x), (9, 0), (0, ((i : Nat) : Int)), l13]) (st' := [(0, wrp (3 * ((64 * g + s : Nat) : Int)))]) (w' := w) (n' := 142) rfl ?_
              rw [show wrp (3 * ((64 * g + s : Nat) : Int)) = ((3 * (64 * g + s) : Nat) : Int) from by rw [wrp_id (by omega) (by omega)]; omega]
              refine qG.blk 5 (pc' := 68) (ls' := [(2, 24), (2, 35), (2, 27), (1, a), (9, 0), (1, b), (9, 0), (1, c), (9, 0), (0, ((g : Nat) : Int)), (1, x), (9, 0), (0, ((i : Nat) : Int)), (0, ((3 * (64 * g + s) : Nat) : Int))]) (st' := [(1, wrl (x - 1)), (1, x)]) (w' := w) (n' := 142) rfl ?_
              refine qG.blk 3 (pc' := 73) (ls' := [(2, 24), (2, 35), (2, 27), (1, a), (9, 0), (1, b), (9, 0), (1, c), (9, 0), (0, ((g : Nat) : Int)), (1, qland x (wrl (x - 1))), (9, 0), (0, ((i : Nat) : Int)), (0, ((3 * (64 * g + s) : Nat) : Int))]) (st' := [(0, ((3 * (64 * g + s) : Nat) : Int))]) (w' := w) (n' := 142) rfl ?_
              refine qG.br (P := ((3 * (64 * g + s) : Nat) : Int) < 0) (pc1 := 126) (pc2 := 76) (st1 := []) rfl (fun hr0 => ?_) (fun hr0 => ?_)
              · exfalso; omega
              · skip
                refine qG.blk 3 (pc' := 80) (ls' := [(2, 24), (2, 35), (2, 27), (1, a), (9, 0), (1, b), (9, 0), (1, c), (9, 0), (0, ((g : Nat) : Int)), (1, qland x (wrl (x - 1))), (9, 0), (0, ((i : Nat) : Int)), (0, ((3 * (64 * g + s) : Nat) : Int))]) (st' := [(0, wrp (((3 * (64 * g + s) : Nat) : Int) + 2))]) (w' := w) (n' := 142) rfl ?_
                rw [show wrp (((3 * (64 * g + s) : Nat) : Int) + 2) = ((3 * (64 * g + s) + 2 : Nat) : Int) from by rw [wrp_id (by omega) (by omega)]; omega]
                refine qG.blk 2 (pc' := 84) (ls' := [(2, 24), (2, 35), (2, 27), (1, a), (9, 0), (1, b), (9, 0), (1, c), (9, 0), (0, ((g : Nat) : Int)), (1, qland x (wrl (x - 1))), (9, 0), (0, ((i : Nat) : Int)), (0, ((3 * (64 * g + s) : Nat) : Int))]) (st' := [(2, w 24 5), (0, ((3 * (64 * g + s) + 2 : Nat) : Int))]) (w' := w) (n' := 142) rfl ?_
                rw [show w 24 5 = 26 from zref hI rfl rfl]
                refine qG.blk 1 (pc' := 85) (ls' := [(2, 24), (2, 35), (2, 27), (1, a), (9, 0), (1, b), (9, 0), (1, c), (9, 0), (0, ((g : Nat) : Int)), (1, qland x (wrl (x - 1))), (9, 0), (0, ((i : Nat) : Int)), (0, ((3 * (64 * g + s) : Nat) : Int))]) (st' := [(0, 540), (0, ((3 * (64 * g + s) + 2 : Nat) : Int))]) (w' := w) (n' := 142) rfl ?_
                rw [show (540 : Int) = N5 from hN5.symm]
                refine qG.br (P := ((3 * (64 * g + s) + 2 : Nat) : Int) < N5) (pc1 := 88) (pc2 := 126) (st1 := []) rfl (fun h540 => ?_) (fun h540 => ?_)
                · skip
                  refine qG.blk 3 (pc' := 93) (ls' := [(2, 24), (2, 35), (2, 27), (1, a), (9, 0), (1, b), (9, 0), (1, c), (9, 0), (0, ((g : Nat) : Int)), (1, qland x (wrl (x - 1))), (9, 0), (0, ((i : Nat) : Int)), (0, ((3 * (64 * g + s) : Nat) : Int))]) (st' := [(2, w 24 5), (1, a)]) (w' := w) (n' := 142) rfl ?_
                  rw [show w 24 5 = 26 from zref hI rfl rfl]
                  refine qG.blk 1 (pc' := 95) (ls' := [(2, 24), (2, 35), (2, 27), (1, a), (9, 0), (1, b), (9, 0), (1, c), (9, 0), (0, ((g : Nat) : Int)), (1, qland x (wrl (x - 1))), (9, 0), (0, ((i : Nat) : Int)), (0, ((3 * (64 * g + s) : Nat) : Int))]) (st' := [(0, ((3 * (64 * g + s) : Nat) : Int)), (2, 26), (1, a)]) (w' := w) (n' := 142) rfl ?_
                  refine qG.lld (m := 540) rfl rfl (by omega) (by decide) ?_
                  show qG none (d + 1) 101 96 [(2, 24), (2, 35), (2, 27), (1, a), (9, 0), (1, b), (9, 0), (1, c), (9, 0), (0, ((g : Nat) : Int)), (1, qland x (wrl (x - 1))), (9, 0), (0, ((i : Nat) : Int)), (0, ((3 * (64 * g + s) : Nat) : Int))] [(1, w 26 (3 * (64 * g + s))), (1, a)] w 142 Q9
                  refine qG.blk 5 (pc' := 104) (ls' := [(2, 24), (2, 35), (2, 27), (1, qlor a (w 26 (3 * (64 * g + s)))), (9, 0), (1, b), (9, 0), (1, c), (9, 0), (0, ((g : Nat) : Int)), (1, qland x (wrl (x - 1))), (9, 0), (0, ((i : Nat) : Int)), (0, ((3 * (64 * g + s) : Nat) : Int))]) (st' := [(2, w 24 5), (1, b)]) (w' := w) (n' := 142) rfl ?_
                  rw [show w 24 5 = 26 from zref hI rfl rfl]
                  refine qG.blk 3 (pc' := 108) (ls' := [(2, 24), (2, 35), (2, 27), (1, qlor a (w 26 (3 * (64 * g + s)))), (9, 0), (1, b), (9, 0), (1, c), (9, 0), (0, ((g : Nat) : Int)), (1, qland x (wrl (x - 1))), (9, 0), (0, ((i : Nat) : Int)), (0, ((3 * (64 * g + s) : Nat) : Int))]) (st' := [(0, wrp (((3 * (64 * g + s) : Nat) : Int) + 1)), (2, 26), (1, b)]) (w' := w) (n' := 142) rfl ?_
                  rw [show wrp (((3 * (64 * g + s) : Nat) : Int) + 1) = ((3 * (64 * g + s) + 1 : Nat) : Int) from by rw [wrp_id (by omega) (by omega)]; omega]
                  refine qG.lld (m := 540) rfl rfl (by omega) (by decide) ?_
                  show qG none (d + 1) 101 109 [(2, 24), (2, 35), (2, 27), (1, qlor a (w 26 (3 * (64 * g + s)))), (9, 0), (1, b), (9, 0), (1, c), (9, 0), (0, ((g : Nat) : Int)), (1, qland x (wrl (x - 1))), (9, 0), (0, ((i : Nat) : Int)), (0, ((3 * (64 * g + s) : Nat) : Int))] [(1, w 26 (3 * (64 * g + s) + 1)), (1, b)] w 142 Q9
                  refine qG.blk 5 (pc' := 118) (ls' := [(2, 24), (2, 35), (2, 27), (1, qlor a (w 26 (3 * (64 * g + s)))), (9, 0), (1, qlor b (w 26 (3 * (64 * g + s) + 1))), (9, 0), (1, c), (9, 0), (0, ((g : Nat) : Int)), (1, qland x (wrl (x - 1))), (9, 0), (0, ((i : Nat) : Int)), (0, ((3 * (64 * g + s) : Nat) : Int))]) (st' := [(2, w 24 5), (1, c)]) (w' := w) (n' := 142) rfl ?_
                  rw [show w 24 5 = 26 from zref hI rfl rfl]
                  refine qG.blk 3 (pc' := 122) (ls' := [(2, 24), (2, 35), (2, 27), (1, qlor a (w 26 (3 * (64 * g + s)))), (9, 0), (1, qlor b (w 26 (3 * (64 * g + s) + 1))), (9, 0), (1, c), (9, 0), (0, ((g : Nat) : Int)), (1, qland x (wrl (x - 1))), (9, 0), (0, ((i : Nat) : Int)), (0, ((3 * (64 * g + s) : Nat) : Int))]) (st' := [(0, wrp (((3 * (64 * g + s) : Nat) : Int) + 2)), (2, 26), (1, c)]) (w' := w) (n' := 142) rfl ?_
                  rw [show wrp (((3 * (64 * g + s) : Nat) : Int) + 2) = ((3 * (64 * g + s) + 2 : Nat) : Int) from by rw [wrp_id (by omega) (by omega)]; omega]
                  refine qG.lld (m := 540) rfl rfl (by omega) (by decide) ?_
                  show qG none (d + 1) 101 123 [(2, 24), (2, 35), (2, 27), (1, qlor a (w 26 (3 * (64 * g + s)))), (9, 0), (1, qlor b (w 26 (3 * (64 * g + s) + 1))), (9, 0), (1, c), (9, 0), (0, ((g : Nat) : Int)), (1, qland x (wrl (x - 1))), (9, 0), (0, ((i : Nat) : Int)), (0, ((3 * (64 * g + s) : Nat) : Int))] [(1, w 26 (3 * (64 * g + s) + 2)), (1, c)] w 142 Q9
                  refine qG.blk 3 (pc' := 129) (ls' := [(2, 24), (2, 35), (2, 27), (1, qlor a (w 26 (3 * (64 * g + s)))), (9, 0), (1, qlor b (w 26 (3 * (64 * g + s) + 1))), (9, 0), (1, qlor c (w 26 (3 * (64 * g + s) + 2))), (9, 0), (0, ((g : Nat) : Int)), (1, qland x (wrl (x - 1))), (9, 0), (0, wrp (((i : Nat) : Int) + 1)), (0, ((3 * (64 * g + s) : Nat) : Int))]) (st' := []) (w' := w) (n' := 142) rfl ?_
                  rw [show wrp (((i : Nat) : Int) + 1) = ((i + 1 : Nat) : Int) from wrp_id (by omega) (by omega)]
                  refine qG.blk 1 (pc' := 33) (ls' := [(2, 24), (2, 35), (2, 27), (1, qlor a (w 26 (3 * (64 * g + s)))), (9, 0), (1, qlor b (w 26 (3 * (64 * g + s) + 1))), (9, 0), (1, qlor c (w 26 (3 * (64 * g + s) + 2))), (9, 0), (0, ((g : Nat) : Int)), (1, qland x (wrl (x - 1))), (9, 0), (0, ((i + 1 : Nat) : Int)), (0, ((3 * (64 * g + s) : Nat) : Int))]) (st' := []) (w' := w) (n' := 142) rfl ?_
                  exact ih33 _ (by omega) (i + 1) (s + 1) (qlor a (w 26 (3 * (64 * g + s)))) (qlor b (w 26 (3 * (64 * g + s) + 1))) (qlor c (w 26 (3 * (64 * g + s) + 2))) (qland x (wrl (x - 1))) ((0, ((3 * (64 * g + s) : Nat) : Int))) rfl (⟨by omega, by omega, (RST.acc hA hst.1.1 hs hst.2.1).up (by rw [sb_g hs]; exact hst.1.2) (by omega), hst.2.2⟩)
                · skip
                  refine qG.blk 1 (pc' := 129) (ls' := [(2, 24), (2, 35), (2, 27), (1, a), (9, 0), (1, b), (9, 0), (1, c), (9, 0), (0, ((g : Nat) : Int)), (1, qland x (wrl (x - 1))), (9, 0), (0, wrp (((i : Nat) : Int) + 1)), (0, ((3 * (64 * g + s) : Nat) : Int))]) (st' := []) (w' := w) (n' := 142) rfl ?_
                  rw [show wrp (((i : Nat) : Int) + 1) = ((i + 1 : Nat) : Int) from wrp_id (by omega) (by omega)]
                  refine qG.blk 1 (pc' := 33) (ls' := [(2, 24), (2, 35), (2, 27), (1, a), (9, 0), (1, b), (9, 0), (1, c), (9, 0), (0, ((g : Nat) : Int)), (1, qland x (wrl (x - 1))), (9, 0), (0, ((i + 1 : Nat) : Int)), (0, ((3 * (64 * g + s) : Nat) : Int))]) (st' := []) (w' := w) (n' := 142) rfl ?_
                  exact ih33 _ (by omega) (i + 1) (s + 1) (a) (b) (c) (qland x (wrl (x - 1))) ((0, ((3 * (64 * g + s) : Nat) : Int))) rfl (⟨by omega, by omega, (RST.acc hA hst.1.1 hs hst.2.1).no (by omega), hst.2.2⟩)
          · skip
            refine qG.blk 1 (pc' := 135) (ls' := [(2, 24), (2, 35), (2, 27), (1, a), (9, 0), (1, b), (9, 0), (1, c), (9, 0), (0, wrp (((g : Nat) : Int) + 1)), (1, x), (9, 0), (0, ((i : Nat) : Int)), l13]) (st' := []) (w' := w) (n' := 142) rfl ?_
            rw [show wrp (((g : Nat) : Int) + 1) = ((g + 1 : Nat) : Int) from wrp_id (by omega) (by omega)]
            refine qG.blk 1 (pc' := 11) (ls' := [(2, 24), (2, 35), (2, 27), (1, a), (9, 0), (1, b), (9, 0), (1, c), (9, 0), (0, ((g + 1 : Nat) : Int)), (1, x), (9, 0), (0, ((i : Nat) : Int)), l13]) (st' := []) (w' := w) (n' := 142) rfl ?_
            exact ih11 _ (by omega) (g + 1) (a) (b) (c) ((1, x)) ((0, ((i : Nat) : Int))) (l13) rfl (⟨by omega, by first | exact RST.end hu64 hA (by have z := qcmp_0.mp hx0; rw [z] at hR; exact hR.e0) | exact RST.end hu64 hA (fun s h1 h2 => absurd h1 (by omega))⟩)
        exact L33 _ (0) (0) (a) (b) (c) (w 35 g) (l13) rfl (⟨Nat.le_refl _, Nat.zero_le _, hG, RST.z (by unfold LROW; omega) hI⟩)
      · exfalso; omega
    · skip
      refine qG.blk 4 (pc' := 144) (ls' := [(2, 24), (2, 35), (2, 27), (1, a), (9, 0), (1, b), (9, 0), (1, c), (9, 0), (0, ((g : Nat) : Int)), l10, (9, 0), l12, l13]) (st' := [(1, c), (1, b), (1, a), (2, 27)]) (w' := w) (n' := 142) rfl ?_
      refine qG.call (t := 105) (na := 4) (sk := 0) (md := 0) (ls1 := [(2, 27), (1, a), (9, 0), (1, b), (9, 0), (1, c), (9, 0)]) (r1 := []) rfl rfl rfl rfl rfl (K_putRow27 (Nat.zero_le _) a b c w) ?_
      rintro _ w0 _ ⟨rfl, hw0, rfl⟩
      have hG2 : ACC w 35 a b c 192 := by rw [show 192 = 64 * g by omega]; exact hG
      have hRW : RW 27 (fun j => spF w 35 j 192) w w0 := by rw [hw0]; exact RW.p (by unfold LROW; omega) hI hG2.1.1 hG2.1.2.1 hG2.1.2.2 hG2.2.1 hG2.2.2.1 hG2.2.2.2
      show qG none (d + 1) 101 147 [(2, 24), (2, 35), (2, 27), (1, a), (9, 0), (1, b), (9, 0), (1, c), (9, 0), (0, ((g : Nat) : Int)), l10, (9, 0), l12, l13] [] w0 142 Q9
      refine qG.retv rfl rfl ?_
      subst hQ9
      exact ⟨rfl, rfl, hRW⟩
  exact L11 _ (0) (0) (0) (0) ((9, 0)) ((9, 0)) ((9, 0)) rfl (⟨Nat.zero_le _, ACC.z⟩)
theorem K_spread36_27 {d : Nat} (hd : 2 ≤ d) (w : qW) (hI : yInv zgf zga zra zSp w) : qG none d 101 0 [(2, 24), (2, 36), (2, 27), (9, 0), (9, 0), (9, 0), (9, 0), (9, 0), (9, 0), (9, 0), (9, 0), (9, 0), (9, 0), (9, 0)] [] w 142 (fun (r : qV) (w1 : qW) (n1 : Nat) => r = (9, 0) ∧ n1 = 142 ∧ RW 27 (fun j => spF w 36 j 192) w w1) := by
  generalize hQ9 : (fun (r : qV) (w1 : qW) (n1 : Nat) => r = (9, 0) ∧ n1 = 142 ∧ RW 27 (fun j => spF w 36 j 192) w w1) = Q9
  obtain ⟨N5, hN5⟩ : ∃ N : Int, N = 540 := ⟨_, rfl⟩
  obtain ⟨d, rfl⟩ : ∃ d9, d = d9 + 1 := ⟨d - 1, by omega⟩
  refine qG.blk 8 (pc' := 11) (ls' := [(2, 24), (2, 36), (2, 27), (1, 0), (9, 0), (1, 0), (9, 0), (1, 0), (9, 0), (0, 0), (9, 0), (9, 0), (9, 0), (9, 0)]) (st' := []) (w' := w) (n' := 142) rfl ?_
  have L11 : ∀ (m9 : Nat) (g : Nat) (a b c : Int) (l10 l12 l13 : qV), 3 - g = m9 → (g ≤ 3 ∧ ACC w 36 a b c (64 * g)) → qG none (d + 1) 101 11 [(2, 24), (2, 36), (2, 27), (1, a), (9, 0), (1, b), (9, 0), (1, c), (9, 0), (0, ((g : Nat) : Int)), l10, (9, 0), l12, l13] [] w 142 Q9 := by
    intro m9
    induction m9 using Nat.strongRecOn with
    | ind m9 ih11 =>
    intro g a b c l10 l12 l13 hm11 hI11
    obtain ⟨hg3, hG⟩ := hI11
    refine qG.blk 2 (pc' := 14) (ls' := [(2, 24), (2, 36), (2, 27), (1, a), (9, 0), (1, b), (9, 0), (1, c), (9, 0), (0, ((g : Nat) : Int)), l10, (9, 0), l12, l13]) (st' := [(0, 3), (0, ((g : Nat) : Int))]) (w' := w) (n' := 142) rfl ?_
    refine qG.br (P := ((g : Nat) : Int) < 3) (pc1 := 17) (pc2 := 138) (st1 := []) rfl (fun hg => ?_) (fun hg => ?_)
    · skip
      refine qG.blk 3 (pc' := 21) (ls' := [(2, 24), (2, 36), (2, 27), (1, a), (9, 0), (1, b), (9, 0), (1, c), (9, 0), (0, ((g : Nat) : Int)), l10, (9, 0), l12, l13]) (st' := [(0, 3), (0, ((g : Nat) : Int))]) (w' := w) (n' := 142) rfl ?_
      refine qG.br (P := ((g : Nat) : Int) < 3) (pc1 := 24) (pc2 := 138) (st1 := []) rfl (fun hgl => ?_) (fun hgl => ?_)
      · skip
        refine qG.blk 2 (pc' := 27) (ls' := [(2, 24), (2, 36), (2, 27), (1, a), (9, 0), (1, b), (9, 0), (1, c), (9, 0), (0, ((g : Nat) : Int)), l10, (9, 0), l12, l13]) (st' := [(0, ((g : Nat) : Int)), (2, 36)]) (w' := w) (n' := 142) rfl ?_
        refine qG.ar (P := 0 ≤ ((g : Nat) : Int) ∧ ((g : Nat) : Int) < ((3 : Nat) : Int)) (P2 := 0 < (36 : Int) ∧ (36 : Int) ≤ ((142 : Nat) : Int)) (pc' := 28) (ls' := [(2, 24), (2, 36), (2, 27), (1, a), (9, 0), (1, b), (9, 0), (1, c), (9, 0), (0, ((g : Nat) : Int)), l10, (9, 0), l12, l13]) (st' := [(1, w 36 g)]) (w' := w) (n' := 142) rfl (by omega) (by decide) ?_
        refine qG.blk 3 (pc' := 33) (ls' := [(2, 24), (2, 36), (2, 27), (1, a), (9, 0), (1, b), (9, 0), (1, c), (9, 0), (0, ((g : Nat) : Int)), (1, w 36 g), (9, 0), (0, 0), l13]) (st' := []) (w' := w) (n' := 142) rfl ?_
        have L33 : ∀ (m9 : Nat) (i u : Nat) (a b c x : Int) (l13 : qV), 64 - i = m9 → (i ≤ u ∧ u ≤ 64 ∧ ACC w 36 a b c (64 * g + u) ∧ RST w 36 g u x) → qG none (d + 1) 101 33 [(2, 24), (2, 36), (2, 27), (1, a), (9, 0), (1, b), (9, 0), (1, c), (9, 0), (0, ((g : Nat) : Int)), (1, x), (9, 0), (0, ((i : Nat) : Int)), l13] [] w 142 Q9 := by
          intro m9
          induction m9 using Nat.strongRecOn with
          | ind m9 ih33 =>
          intro i u a b c x l13 hm33 hI33
          obtain ⟨hiu, hu64, hA, hR⟩ := hI33
          refine qG.blk 2 (pc' := 37) (ls' := [(2, 24), (2, 36), (2, 27), (1, a), (9, 0), (1, b), (9, 0), (1, c), (9, 0), (0, ((g : Nat) : Int)), (1, x), (9, 0), (0, ((i : Nat) : Int)), l13]) (st' := [(0, 64), (0, ((i : Nat) : Int))]) (w' := w) (n' := 142) rfl ?_
          refine qG.br (P := ((i : Nat) : Int) < 64) (pc1 := 40) (pc2 := 132) (st1 := []) rfl (fun hi64 => ?_) (fun hi64 => ?_)
          · skip
            refine qG.blk 3 (pc' := 44) (ls' := [(2, 24), (2, 36), (2, 27), (1, a), (9, 0), (1, b), (9, 0), (1, c), (9, 0), (0, ((g : Nat) : Int)), (1, x), (9, 0), (0, ((i : Nat) : Int)), l13]) (st' := [(0, qcmp x 0)]) (w' := w) (n' := 142) rfl ?_
            refine qG.br (P := qcmp x 0 = 0) (pc1 := 132) (pc2 := 47) (st1 := []) rfl (fun hx0 => ?_) (fun hx0 => ?_)
            · skip
              refine qG.blk 1 (pc' := 135) (ls' := [(2, 24), (2, 36), (2, 27), (1, a), (9, 0), (1, b), (9, 0), (1, c), (9, 0), (0, wrp (((g : Nat) : Int) + 1)), (1, x), (9, 0), (0, ((i : Nat) : Int)), l13]) (st' := []) (w' := w) (n' := 142) rfl ?_
              rw [show wrp (((g : Nat) : Int) + 1) = ((g + 1 : Nat) : Int) from wrp_id (by omega) (by omega)]
              refine qG.blk 1 (pc' := 11) (ls' := [(2, 24), (2, 36), (2, 27), (1, a), (9, 0), (1, b), (9, 0), (1, c), (9, 0), (0, ((g + 1 : Nat) : Int)), (1, x), (9, 0), (0, ((i : Nat) : Int)), l13]) (st' := []) (w' := w) (n' := 142) rfl ?_
              exact ih11 _ (by omega) (g + 1) (a) (b) (c) ((1, x)) ((0, ((i : Nat) : Int))) (l13) rfl (⟨by omega, by first | exact RST.end hu64 hA (by have z := qcmp_0.mp hx0; rw [z] at hR; exact hR.e0) | exact RST.end hu64 hA (fun s h1 h2 => absurd h1 (by omega))⟩)
            · skip
              refine qG.blk 4 (pc' := 53) (ls' := [(2, 24), (2, 36), (2, 27), (1, a), (9, 0), (1, b), (9, 0), (1, c), (9, 0), (0, ((g : Nat) : Int)), (1, x), (9, 0), (0, ((i : Nat) : Int)), l13]) (st' := [(0, wrp (64 * ((g : Nat) : Int))), (0, 3)]) (w' := w) (n' := 142) rfl ?_
              rw [show wrp (64 * ((g : Nat) : Int)) = ((64 * g : Nat) : Int) from by rw [wrp_id (by omega) (by omega)]; omega]
              refine qG.blk 1 (pc' := 55) (ls' := [(2, 24), (2, 36), (2, 27), (1, a), (9, 0), (1, b), (9, 0), (1, c), (9, 0), (0, ((g : Nat) : Int)), (1, x), (9, 0), (0, ((i : Nat) : Int)), l13]) (st' := [(1, x), (0, ((64 * g : Nat) : Int)), (0, 3)]) (w' := w) (n' := 142) rfl ?_
              refine qG.call (t := 303) (na := 1) (sk := 0) (md := 0) (ls1 := [(1, x), (9, 0), (9, 0)]) (r1 := [(0, ((64 * g : Nat) : Int)), (0, 3)]) rfl rfl rfl rfl rfl (K_lnt (by omega) x w) ?_
              rintro _ w7 _ ⟨rfl, hw7, rfl⟩
              rw [hw7]
              obtain ⟨s, hs, hb, hl⟩ := lb_ne hR.1 (fun z => hx0 (qcmp_0.mpr z))
              have hst := hR.st hs hb hl
              rw [lnt_low hs hb hl]
              show qG none (d + 1) 101 58 [(2, 24), (2, 36), (2, 27), (1, a), (9, 0), (1, b), (9, 0), (1, c), (9, 0), (0, ((g : Nat) : Int)), (1, x), (9, 0), (0, ((i : Nat) : Int)), l13] [(0, ((s : Nat) : Int)), (0, ((64 * g : Nat) : Int)), (0, 3)] w 142 Q9
              refine qG.blk 1 (pc' := 59) (ls' := [(2, 24), (2, 36), (2, 27), (1, a), (9, 0), (1, b), (9, 0), (1, c), (9, 0), (0, ((g : Nat) : Int)), (1, x), (9, 0), (0, ((i : Nat) : Int)), l13]) (st' := [(0, wrp (((64 * g : Nat) : Int) + ((s : Nat) : Int))), (0, 3)]) (w' := w) (n' := 142) rfl ?_
              rw [show wrp (((64 * g : Nat) : Int) + ((s : Nat) : Int)) = ((64 * g + s : Nat) : Int) from by rw [wrp_id (by omega) (by omega)]; omega]
              refine qG.blk 1 (pc' := 60) (ls' := [(2, 24), (2, 36), (2, 27), (1, a), (9, 0), (1, b), (9, 0), (1, c), (9, 0), (0, ((g : Nat) : Int)), (1, x), (9, 0), (0, ((i : Nat) : Int)), l13]) (st' := [(0, wrp (3 * ((64 * g + s : Nat) : Int)))]) (w' := w) (n' := 142) rfl ?_
              rw [show wrp (3 * ((64 * g + s : Nat) : Int)) = ((3 * (64 * g + s) : Nat) : Int) from by rw [wrp_id (by omega) (by omega)]; omega]
              refine qG.blk 5 (pc' := 68) (ls' := [(2, 24), (2, 36), (2, 27), (1, a), (9, 0), (1, b), (9, 0), (1, c), (9, 0), (0, ((g : Nat) : Int)), (1, x), (9, 0), (0, ((i : Nat) : Int)), (0, ((3 * (64 * g + s) : Nat) : Int))]) (st' := [(1, wrl (x - 1)), (1, x)]) (w' := w) (n' := 142) rfl ?_
              refine qG.blk 3 (pc' := 73) (ls' := [(2, 24), (2, 36), (2, 27), (1, a), (9, 0), (1, b), (9, 0), (1, c), (9, 0), (0, ((g : Nat) : Int)), (1, qland x (wrl (x - 1))), (9, 0), (0, ((i : Nat) : Int)), (0, ((3 * (64 * g + s) : Nat) : Int))]) (st' := [(0, ((3 * (64 * g + s) : Nat) : Int))]) (w' := w) (n' := 142) rfl ?_
              refine qG.br (P := ((3 * (64 * g + s) : Nat) : Int) < 0) (pc1 := 126) (pc2 := 76) (st1 := []) rfl (fun hr0 => ?_) (fun hr0 => ?_)
              · exfalso; omega
              · skip
                refine qG.blk 3 (pc' := 80) (ls' := [(2, 24), (2, 36), (2, 27), (1, a), (9, 0), (1, b), (9, 0), (1, c), (9, 0), (0, ((g : Nat) : Int)), (1, qland x (wrl (x - 1))), (9, 0), (0, ((i : Nat) : Int)), (0, ((3 * (64 * g + s) : Nat) : Int))]) (st' := [(0, wrp (((3 * (64 * g + s) : Nat) : Int) + 2))]) (w' := w) (n' := 142) rfl ?_
                rw [show wrp (((3 * (64 * g + s) : Nat) : Int) + 2) = ((3 * (64 * g + s) + 2 : Nat) : Int) from by rw [wrp_id (by omega) (by omega)]; omega]
                refine qG.blk 2 (pc' := 84) (ls' := [(2, 24), (2, 36), (2, 27), (1, a), (9, 0), (1, b), (9, 0), (1, c), (9, 0), (0, ((g : Nat) : Int)), (1, qland x (wrl (x - 1))), (9, 0), (0, ((i : Nat) : Int)), (0, ((3 * (64 * g + s) : Nat) : Int))]) (st' := [(2, w 24 5), (0, ((3 * (64 * g + s) + 2 : Nat) : Int))]) (w' := w) (n' := 142) rfl ?_
                rw [show w 24 5 = 26 from zref hI rfl rfl]
                refine qG.blk 1 (pc' := 85) (ls' := [(2, 24), (2, 36), (2, 27), (1, a), (9, 0), (1, b), (9, 0), (1, c), (9, 0), (0, ((g : Nat) : Int)), (1, qland x (wrl (x - 1))), (9, 0), (0, ((i : Nat) : Int)), (0, ((3 * (64 * g + s) : Nat) : Int))]) (st' := [(0, 540), (0, ((3 * (64 * g + s) + 2 : Nat) : Int))]) (w' := w) (n' := 142) rfl ?_
                rw [show (540 : Int) = N5 from hN5.symm]
                refine qG.br (P := ((3 * (64 * g + s) + 2 : Nat) : Int) < N5) (pc1 := 88) (pc2 := 126) (st1 := []) rfl (fun h540 => ?_) (fun h540 => ?_)
                · skip
                  refine qG.blk 3 (pc' := 93) (ls' := [(2, 24), (2, 36), (2, 27), (1, a), (9, 0), (1, b), (9, 0), (1, c), (9, 0), (0, ((g : Nat) : Int)), (1, qland x (wrl (x - 1))), (9, 0), (0, ((i : Nat) : Int)), (0, ((3 * (64 * g + s) : Nat) : Int))]) (st' := [(2, w 24 5), (1, a)]) (w' := w) (n' := 142) rfl ?_
                  rw [show w 24 5 = 26 from zref hI rfl rfl]
                  refine qG.blk 1 (pc' := 95) (ls' := [(2, 24), (2, 36), (2, 27), (1, a), (9, 0), (1, b), (9, 0), (1, c), (9, 0), (0, ((g : Nat) : Int)), (1, qland x (wrl (x - 1))), (9, 0), (0, ((i : Nat) : Int)), (0, ((3 * (64 * g + s) : Nat) : Int))]) (st' := [(0, ((3 * (64 * g + s) : Nat) : Int)), (2, 26), (1, a)]) (w' := w) (n' := 142) rfl ?_
                  refine qG.lld (m := 540) rfl rfl (by omega) (by decide) ?_
                  show qG none (d + 1) 101 96 [(2, 24), (2, 36), (2, 27), (1, a), (9, 0), (1, b), (9, 0), (1, c), (9, 0), (0, ((g : Nat) : Int)), (1, qland x (wrl (x - 1))), (9, 0), (0, ((i : Nat) : Int)), (0, ((3 * (64 * g + s) : Nat) : Int))] [(1, w 26 (3 * (64 * g + s))), (1, a)] w 142 Q9
                  refine qG.blk 5 (pc' := 104) (ls' := [(2, 24), (2, 36), (2, 27), (1, qlor a (w 26 (3 * (64 * g + s)))), (9, 0), (1, b), (9, 0), (1, c), (9, 0), (0, ((g : Nat) : Int)), (1, qland x (wrl (x - 1))), (9, 0), (0, ((i : Nat) : Int)), (0, ((3 * (64 * g + s) : Nat) : Int))]) (st' := [(2, w 24 5), (1, b)]) (w' := w) (n' := 142) rfl ?_
                  rw [show w 24 5 = 26 from zref hI rfl rfl]
                  refine qG.blk 3 (pc' := 108) (ls' := [(2, 24), (2, 36), (2, 27), (1, qlor a (w 26 (3 * (64 * g + s)))), (9, 0), (1, b), (9, 0), (1, c), (9, 0), (0, ((g : Nat) : Int)), (1, qland x (wrl (x - 1))), (9, 0), (0, ((i : Nat) : Int)), (0, ((3 * (64 * g + s) : Nat) : Int))]) (st' := [(0, wrp (((3 * (64 * g + s) : Nat) : Int) + 1)), (2, 26), (1, b)]) (w' := w) (n' := 142) rfl ?_
                  rw [show wrp (((3 * (64 * g + s) : Nat) : Int) + 1) = ((3 * (64 * g + s) + 1 : Nat) : Int) from by rw [wrp_id (by omega) (by omega)]; omega]
                  refine qG.lld (m := 540) rfl rfl (by omega) (by decide) ?_
                  show qG none (d + 1) 101 109 [(2, 24), (2, 36), (2, 27), (1, qlor a (w 26 (3 * (64 * g + s)))), (9, 0), (1, b), (9, 0), (1, c), (9, 0), (0, ((g : Nat) : Int)), (1, qland x (wrl (x - 1))), (9, 0), (0, ((i : Nat) : Int)), (0, ((3 * (64 * g + s) : Nat) : Int))] [(1, w 26 (3 * (64 * g + s) + 1)), (1, b)] w 142 Q9
                  refine qG.blk 5 (pc' := 118) (ls' := [(2, 24), (2, 36), (2, 27), (1, qlor a (w 26 (3 * (64 * g + s)))), (9, 0), (1, qlor b (w 26 (3 * (64 * g + s) + 1))), (9, 0), (1, c), (9, 0), (0, ((g : Nat) : Int)), (1, qland x (wrl (x - 1))), (9, 0), (0, ((i : Nat) : Int)), (0, ((3 * (64 * g + s) : Nat) : Int))]) (st' := [(2, w 24 5), (1, c)]) (w' := w) (n' := 142) rfl ?_
                  rw [show w 24 5 = 26 from zref hI rfl rfl]
                  refine qG.blk 3 (pc' := 122) (ls' := [(2, 24), (2, 36), (2, 27), (1, qlor a (w 26 (3 * (64 * g + s)))), (9, 0), (1, qlor b (w 26 (3 * (64 * g + s) + 1))), (9, 0), (1, c), (9, 0), (0, ((g : Nat) : Int)), (1, qland x (wrl (x - 1))), (9, 0), (0, ((i : Nat) : Int)), (0, ((3 * (64 * g + s) : Nat) : Int))]) (st' := [(0, wrp (((3 * (64 * g + s) : Nat) : Int) + 2)), (2, 26), (1, c)]) (w' := w) (n' := 142) rfl ?_
                  rw [show wrp (((3 * (64 * g + s) : Nat) : Int) + 2) = ((3 * (64 * g + s) + 2 : Nat) : Int) from by rw [wrp_id (by omega) (by omega)]; omega]
                  refine qG.lld (m := 540) rfl rfl (by omega) (by decide) ?_
                  show qG none (d + 1) 101 123 [(2, 24), (2, 36), (2, 27), (1, qlor a (w 26 (3 * (64 * g + s)))), (9, 0), (1, qlor b (w 26 (3 * (64 * g + s) + 1))), (9, 0), (1, c), (9, 0), (0, ((g : Nat) : Int)), (1, qland x (wrl (x - 1))), (9, 0), (0, ((i : Nat) : Int)), (0, ((3 * (64 * g + s) : Nat) : Int))] [(1, w 26 (3 * (64 * g + s) + 2)), (1, c)] w 142 Q9
                  refine qG.blk 3 (pc' := 129) (ls' := [(2, 24), (2, 36), (2, 27), (1, qlor a (w 26 (3 * (64 * g + s)))), (9, 0), (1, qlor b (w 26 (3 * (64 * g + s) + 1))), (9, 0), (1, qlor c (w 26 (3 * (64 * g + s) + 2))), (9, 0), (0, ((g : Nat) : Int)), (1, qland x (wrl (x - 1))), (9, 0), (0, wrp (((i : Nat) : Int) + 1)), (0, ((3 * (64 * g + s) : Nat) : Int))]) (st' := []) (w' := w) (n' := 142) rfl ?_
                  rw [show wrp (((i : Nat) : Int) + 1) = ((i + 1 : Nat) : Int) from wrp_id (by omega) (by omega)]
                  refine qG.blk 1 (pc' := 33) (ls' := [(2, 24), (2, 36), (2, 27), (1, qlor a (w 26 (3 * (64 * g + s)))), (9, 0), (1, qlor b (w 26 (3 * (64 * g + s) + 1))), (9, 0), (1, qlor c (w 26 (3 * (64 * g + s) + 2))), (9, 0), (0, ((g : Nat) : Int)), (1, qland x (wrl (x - 1))), (9, 0), (0, ((i + 1 : Nat) : Int)), (0, ((3 * (64 * g + s) : Nat) : Int))]) (st' := []) (w' := w) (n' := 142) rfl ?_
                  exact ih33 _ (by omega) (i + 1) (s + 1) (qlor a (w 26 (3 * (64 * g + s)))) (qlor b (w 26 (3 * (64 * g + s) + 1))) (qlor c (w 26 (3 * (64 * g + s) + 2))) (qland x (wrl (x - 1))) ((0, ((3 * (64 * g + s) : Nat) : Int))) rfl (⟨by omega, by omega, (RST.acc hA hst.1.1 hs hst.2.1).up (by rw [sb_g hs]; exact hst.1.2) (by omega), hst.2.2⟩)
                · skip
                  refine qG.blk 1 (pc' := 129) (ls' := [(2, 24), (2, 36), (2, 27), (1, a), (9, 0), (1, b), (9, 0), (1, c), (9, 0), (0, ((g : Nat) : Int)), (1, qland x (wrl (x - 1))), (9, 0), (0, wrp (((i : Nat) : Int) + 1)), (0, ((3 * (64 * g + s) : Nat) : Int))]) (st' := []) (w' := w) (n' := 142) rfl ?_
                  rw [show wrp (((i : Nat) : Int) + 1) = ((i + 1 : Nat) : Int) from wrp_id (by omega) (by omega)]
                  refine qG.blk 1 (pc' := 33) (ls' := [(2, 24), (2, 36), (2, 27), (1, a), (9, 0), (1, b), (9, 0), (1, c), (9, 0), (0, ((g : Nat) : Int)), (1, qland x (wrl (x - 1))), (9, 0), (0, ((i + 1 : Nat) : Int)), (0, ((3 * (64 * g + s) : Nat) : Int))]) (st' := []) (w' := w) (n' := 142) rfl ?_
                  exact ih33 _ (by omega) (i + 1) (s + 1) (a) (b) (c) (qland x (wrl (x - 1))) ((0, ((3 * (64 * g + s) : Nat) : Int))) rfl (⟨by omega, by omega, (RST.acc hA hst.1.1 hs hst.2.1).no (by omega), hst.2.2⟩)
          · skip
            refine qG.blk 1 (pc' := 135) (ls' := [(2, 24), (2, 36), (2, 27), (1, a), (9, 0), (1, b), (9, 0), (1, c), (9, 0), (0, wrp (((g : Nat) : Int) + 1)), (1, x), (9, 0), (0, ((i : Nat) : Int)), l13]) (st' := []) (w' := w) (n' := 142) rfl ?_
            rw [show wrp (((g : Nat) : Int) + 1) = ((g + 1 : Nat) : Int) from wrp_id (by omega) (by omega)]
            refine qG.blk 1 (pc' := 11) (ls' := [(2, 24), (2, 36), (2, 27), (1, a), (9, 0), (1, b), (9, 0), (1, c), (9, 0), (0, ((g + 1 : Nat) : Int)), (1, x), (9, 0), (0, ((i : Nat) : Int)), l13]) (st' := []) (w' := w) (n' := 142) rfl ?_
            exact ih11 _ (by omega) (g + 1) (a) (b) (c) ((1, x)) ((0, ((i : Nat) : Int))) (l13) rfl (⟨by omega, by first | exact RST.end hu64 hA (by have z := qcmp_0.mp hx0; rw [z] at hR; exact hR.e0) | exact RST.end hu64 hA (fun s h1 h2 => absurd h1 (by omega))⟩)
        exact L33 _ (0) (0) (a) (b) (c) (w 36 g) (l13) rfl (⟨Nat.le_refl _, Nat.zero_le _, hG, RST.z (by unfold LROW; omega) hI⟩)
      · exfalso; omega
    · skip
      refine qG.blk 4 (pc' := 144) (ls' := [(2, 24), (2, 36), (2, 27), (1, a), (9, 0), (1, b), (9, 0), (1, c), (9, 0), (0, ((g : Nat) : Int)), l10, (9, 0), l12, l13]) (st' := [(1, c), (1, b), (1, a), (2, 27)]) (w' := w) (n' := 142) rfl ?_
      refine qG.call (t := 105) (na := 4) (sk := 0) (md := 0) (ls1 := [(2, 27), (1, a), (9, 0), (1, b), (9, 0), (1, c), (9, 0)]) (r1 := []) rfl rfl rfl rfl rfl (K_putRow27 (Nat.zero_le _) a b c w) ?_
      rintro _ w0 _ ⟨rfl, hw0, rfl⟩
      have hG2 : ACC w 36 a b c 192 := by rw [show 192 = 64 * g by omega]; exact hG
      have hRW : RW 27 (fun j => spF w 36 j 192) w w0 := by rw [hw0]; exact RW.p (by unfold LROW; omega) hI hG2.1.1 hG2.1.2.1 hG2.1.2.2 hG2.2.1 hG2.2.2.1 hG2.2.2.2
      show qG none (d + 1) 101 147 [(2, 24), (2, 36), (2, 27), (1, a), (9, 0), (1, b), (9, 0), (1, c), (9, 0), (0, ((g : Nat) : Int)), l10, (9, 0), l12, l13] [] w0 142 Q9
      refine qG.retv rfl rfl ?_
      subst hQ9
      exact ⟨rfl, rfl, hRW⟩
  exact L11 _ (0) (0) (0) (0) ((9, 0)) ((9, 0)) ((9, 0)) rfl (⟨Nat.zero_le _, ACC.z⟩)
theorem K_spread37_27 {d : Nat} (hd : 2 ≤ d) (w : qW) (hI : yInv zgf zga zra zSp w) : qG none d 101 0 [(2, 24), (2, 37), (2, 27), (9, 0), (9, 0), (9, 0), (9, 0), (9, 0), (9, 0), (9, 0), (9, 0), (9, 0), (9, 0), (9, 0)] [] w 142 (fun (r : qV) (w1 : qW) (n1 : Nat) => r = (9, 0) ∧ n1 = 142 ∧ RW 27 (fun j => spF w 37 j 192) w w1) := by
  generalize hQ9 : (fun (r : qV) (w1 : qW) (n1 : Nat) => r = (9, 0) ∧ n1 = 142 ∧ RW 27 (fun j => spF w 37 j 192) w w1) = Q9
  obtain ⟨N5, hN5⟩ : ∃ N : Int, N = 540 := ⟨_, rfl⟩
  obtain ⟨d, rfl⟩ : ∃ d9, d = d9 + 1 := ⟨d - 1, by omega⟩
  refine qG.blk 8 (pc' := 11) (ls' := [(2, 24), (2, 37), (2, 27), (1, 0), (9, 0), (1, 0), (9, 0), (1, 0), (9, 0), (0, 0), (9, 0), (9, 0), (9, 0), (9, 0)]) (st' := []) (w' := w) (n' := 142) rfl ?_
  have L11 : ∀ (m9 : Nat) (g : Nat) (a b c : Int) (l10 l12 l13 : qV), 3 - g = m9 → (g ≤ 3 ∧ ACC w 37 a b c (64 * g)) → qG none (d + 1) 101 11 [(2, 24), (2, 37), (2, 27), (1, a), (9, 0), (1, b), (9, 0), (1, c), (9, 0), (0, ((g : Nat) : Int)), l10, (9, 0), l12, l13] [] w 142 Q9 := by
    intro m9
    induction m9 using Nat.strongRecOn with
    | ind m9 ih11 =>
    intro g a b c l10 l12 l13 hm11 hI11
    obtain ⟨hg3, hG⟩ := hI11
    refine qG.blk 2 (pc' := 14) (ls' := [(2, 24), (2, 37), (2, 27), (1, a), (9, 0), (1, b), (9, 0), (1, c), (9, 0), (0, ((g : Nat) : Int)), l10, (9, 0), l12, l13]) (st' := [(0, 3), (0, ((g : Nat) : Int))]) (w' := w) (n' := 142) rfl ?_
    refine qG.br (P := ((g : Nat) : Int) < 3) (pc1 := 17) (pc2 := 138) (st1 := []) rfl (fun hg => ?_) (fun hg => ?_)
    · skip
      refine qG.blk 3 (pc' := 21) (ls' := [(2, 24), (2, 37), (2, 27), (1, a), (9, 0), (1, b), (9, 0), (1, c), (9, 0), (0, ((g : Nat) : Int)), l10, (9, 0), l12, l13]) (st' := [(0, 3), (0, ((g : Nat) : Int))]) (w' := w) (n' := 142) rfl ?_
      refine qG.br (P := ((g : Nat) : Int) < 3) (pc1 := 24) (pc2 := 138) (st1 := []) rfl (fun hgl => ?_) (fun hgl => ?_)
      · skip
        refine qG.blk 2 (pc' := 27) (ls' := [(2, 24), (2, 37), (2, 27), (1, a), (9, 0), (1, b), (9, 0), (1, c), (9, 0), (0, ((g : Nat) : Int)), l10, (9, 0), l12, l13]) (st' := [(0, ((g : Nat) : Int)), (2, 37)]) (w' := w) (n' := 142) rfl ?_
        refine qG.ar (P := 0 ≤ ((g : Nat) : Int) ∧ ((g : Nat) : Int) < ((3 : Nat) : Int)) (P2 := 0 < (37 : Int) ∧ (37 : Int) ≤ ((142 : Nat) : Int)) (pc' := 28) (ls' := [(2, 24), (2, 37), (2, 27), (1, a), (9, 0), (1, b), (9, 0), (1, c), (9, 0), (0, ((g : Nat) : Int)), l10, (9, 0), l12, l13]) (st' := [(1, w 37 g)]) (w' := w) (n' := 142) rfl (by omega) (by decide) ?_
        refine qG.blk 3 (pc' := 33) (ls' := [(2, 24), (2, 37), (2, 27), (1, a), (9, 0), (1, b), (9, 0), (1, c), (9, 0), (0, ((g : Nat) : Int)), (1, w 37 g), (9, 0), (0, 0), l13]) (st' := []) (w' := w) (n' := 142) rfl ?_
        have L33 : ∀ (m9 : Nat) (i u : Nat) (a b c x : Int) (l13 : qV), 64 - i = m9 → (i ≤ u ∧ u ≤ 64 ∧ ACC w 37 a b c (64 * g + u) ∧ RST w 37 g u x) → qG none (d + 1) 101 33 [(2, 24), (2, 37), (2, 27), (1, a), (9, 0), (1, b), (9, 0), (1, c), (9, 0), (0, ((g : Nat) : Int)), (1, x), (9, 0), (0, ((i : Nat) : Int)), l13] [] w 142 Q9 := by
          intro m9
          induction m9 using Nat.strongRecOn with
          | ind m9 ih33 =>
          intro i u a b c x l13 hm33 hI33
          obtain ⟨hiu, hu64, hA, hR⟩ := hI33
          refine qG.blk 2 (pc' := 37) (ls' := [(2, 24), (2, 37), (2, 27), (1, a), (9, 0), (1, b), (9, 0), (1, c), (9, 0), (0, ((g : Nat) : Int)), (1, x), (9, 0), (0, ((i : Nat) : Int)), l13]) (st' := [(0, 64), (0, ((i : Nat) : Int))]) (w' := w) (n' := 142) rfl ?_
          refine qG.br (P := ((i : Nat) : Int) < 64) (pc1 := 40) (pc2 := 132) (st1 := []) rfl (fun hi64 => ?_) (fun hi64 => ?_)
          · skip
            refine qG.blk 3 (pc' := 44) (ls' := [(2, 24), (2, 37), (2, 27), (1, a), (9, 0), (1, b), (9, 0), (1, c), (9, 0), (0, ((g : Nat) : Int)), (1, x), (9, 0), (0, ((i : Nat) : Int)), l13]) (st' := [(0, qcmp x 0)]) (w' := w) (n' := 142) rfl ?_
            refine qG.br (P := qcmp x 0 = 0) (pc1 := 132) (pc2 := 47) (st1 := []) rfl (fun hx0 => ?_) (fun hx0 => ?_)
            · skip
              refine qG.blk 1 (pc' := 135) (ls' := [(2, 24), (2, 37), (2, 27), (1, a), (9, 0), (1, b), (9, 0), (1, c), (9, 0), (0, wrp (((g : Nat) : Int) + 1)), (1, x), (9, 0), (0, ((i : Nat) : Int)), l13]) (st' := []) (w' := w) (n' := 142) rfl ?_
              rw [show wrp (((g : Nat) : Int) + 1) = ((g + 1 : Nat) : Int) from wrp_id (by omega) (by omega)]
              refine qG.blk 1 (pc' := 11) (ls' := [(2, 24), (2, 37), (2, 27), (1, a), (9, 0), (1, b), (9, 0), (1, c), (9, 0), (0, ((g + 1 : Nat) : Int)), (1, x), (9, 0), (0, ((i : Nat) : Int)), l13]) (st' := []) (w' := w) (n' := 142) rfl ?_
              exact ih11 _ (by omega) (g + 1) (a) (b) (c) ((1, x)) ((0, ((i : Nat) : Int))) (l13) rfl (⟨by omega, by first | exact RST.end hu64 hA (by have z := qcmp_0.mp hx0; rw [z] at hR; exact hR.e0) | exact RST.end hu64 hA (fun s h1 h2 => absurd h1 (by omega))⟩)
            · skip
              refine qG.blk 4 (pc' := 53) (ls' := [(2, 24), (2, 37), (2, 27), (1, a), (9, 0), (1, b), (9, 0), (1, c), (9, 0), (0, ((g : Nat) : Int)), (1, x), (9, 0), (0, ((i : Nat) : Int)), l13]) (st' := [(0, wrp (64 * ((g : Nat) : Int))), (0, 3)]) (w' := w) (n' := 142) rfl ?_
              rw [show wrp (64 * ((g : Nat) : Int)) = ((64 * g : Nat) : Int) from by rw [wrp_id (by omega) (by omega)]; omega]
              refine qG.blk 1 (pc' := 55) (ls' := [(2, 24), (2, 37), (2, 27), (1, a), (9, 0), (1, b), (9, 0), (1, c), (9, 0), (0, ((g : Nat) : Int)), (1, x), (9, 0), (0, ((i : Nat) : Int)), l13]) (st' := [(1, x), (0, ((64 * g : Nat) : Int)), (0, 3)]) (w' := w) (n' := 142) rfl ?_
              refine qG.call (t := 303) (na := 1) (sk := 0) (md := 0) (ls1 := [(1, x), (9, 0), (9, 0)]) (r1 := [(0, ((64 * g : Nat) : Int)), (0, 3)]) rfl rfl rfl rfl rfl (K_lnt (by omega) x w) ?_
              rintro _ w7 _ ⟨rfl, hw7, rfl⟩
              rw [hw7]
              obtain ⟨s, hs, hb, hl⟩ := lb_ne hR.1 (fun z => hx0 (qcmp_0.mpr z))
              have hst := hR.st hs hb hl
              rw [lnt_low hs hb hl]
              show qG none (d + 1) 101 58 [(2, 24), (2, 37), (2, 27), (1, a), (9, 0), (1, b), (9, 0), (1, c), (9, 0), (0, ((g : Nat) : Int)), (1, x), (9, 0), (0, ((i : Nat) : Int)), l13] [(0, ((s : Nat) : Int)), (0, ((64 * g : Nat) : Int)), (0, 3)] w 142 Q9
              refine qG.blk 1 (pc' := 59) (ls' := [(2, 24), (2, 37), (2, 27), (1, a), (9, 0), (1, b), (9, 0), (1, c), (9, 0), (0, ((g : Nat) : Int)), (1, x), (9, 0), (0, ((i : Nat) : Int)), l13]) (st' := [(0, wrp (((64 * g : Nat) : Int) + ((s : Nat) : Int))), (0, 3)]) (w' := w) (n' := 142) rfl ?_
              rw [show wrp (((64 * g : Nat) : Int) + ((s : Nat) : Int)) = ((64 * g + s : Nat) : Int) from by rw [wrp_id (by omega) (by omega)]; omega]
              refine qG.blk 1 (pc' := 60) (ls' := [(2, 24), (2, 37), (2, 27), (1, a), (9, 0), (1, b), (9, 0), (1, c), (9, 0), (0, ((g : Nat) : Int)), (1, x), (9, 0), (0, ((i : Nat) : Int)), l13]) (st' := [(0, wrp (3 * ((64 * g + s : Nat) : Int)))]) (w' := w) (n' := 142) rfl ?_
              rw [show wrp (3 * ((64 * g + s : Nat) : Int)) = ((3 * (64 * g + s) : Nat) : Int) from by rw [wrp_id (by omega) (by omega)]; omega]
              refine qG.blk 5 (pc' := 68) (ls' := [(2, 24), (2, 37), (2, 27), (1, a), (9, 0), (1, b), (9, 0), (1, c), (9, 0), (0, ((g : Nat) : Int)), (1, x), (9, 0), (0, ((i : Nat) : Int)), (0, ((3 * (64 * g + s) : Nat) : Int))]) (st' := [(1, wrl (x - 1)), (1, x)]) (w' := w) (n' := 142) rfl ?_
              refine qG.blk 3 (pc' := 73) (ls' := [(2, 24), (2, 37), (2, 27), (1, a), (9, 0), (1, b), (9, 0), (1, c), (9, 0), (0, ((g : Nat) : Int)), (1, qland x (wrl (x - 1))), (9, 0), (0, ((i : Nat) : Int)), (0, ((3 * (64 * g + s) : Nat) : Int))]) (st' := [(0, ((3 * (64 * g + s) : Nat) : Int))]) (w' := w) (n' := 142) rfl ?_
              refine qG.br (P := ((3 * (64 * g + s) : Nat) : Int) < 0) (pc1 := 126) (pc2 := 76) (st1 := []) rfl (fun hr0 => ?_) (fun hr0 => ?_)
              · exfalso; omega
              · skip
                refine qG.blk 3 (pc' := 80) (ls' := [(2, 24), (2, 37), (2, 27), (1, a), (9, 0), (1, b), (9, 0), (1, c), (9, 0), (0, ((g : Nat) : Int)), (1, qland x (wrl (x - 1))), (9, 0), (0, ((i : Nat) : Int)), (0, ((3 * (64 * g + s) : Nat) : Int))]) (st' := [(0, wrp (((3 * (64 * g + s) : Nat) : Int) + 2))]) (w' := w) (n' := 142) rfl ?_
                rw [show wrp (((3 * (64 * g + s) : Nat) : Int) + 2) = ((3 * (64 * g + s) + 2 : Nat) : Int) from by rw [wrp_id (by omega) (by omega)]; omega]
                refine qG.blk 2 (pc' := 84) (ls' := [(2, 24), (2, 37), (2, 27), (1, a), (9, 0), (1, b), (9, 0), (1, c), (9, 0), (0, ((g : Nat) : Int)), (1, qland x (wrl (x - 1))), (9, 0), (0, ((i : Nat) : Int)), (0, ((3 * (64 * g + s) : Nat) : Int))]) (st' := [(2, w 24 5), (0, ((3 * (64 * g + s) + 2 : Nat) : Int))]) (w' := w) (n' := 142) rfl ?_
                rw [show w 24 5 = 26 from zref hI rfl rfl]
                refine qG.blk 1 (pc' := 85) (ls' := [(2, 24), (2, 37), (2, 27), (1, a), (9, 0), (1, b), (9, 0), (1, c), (9, 0), (0, ((g : Nat) : Int)), (1, qland x (wrl (x - 1))), (9, 0), (0, ((i : Nat) : Int)), (0, ((3 * (64 * g + s) : Nat) : Int))]) (st' := [(0, 540), (0, ((3 * (64 * g + s) + 2 : Nat) : Int))]) (w' := w) (n' := 142) rfl ?_
                rw [show (540 : Int) = N5 from hN5.symm]
                refine qG.br (P := ((3 * (64 * g + s) + 2 : Nat) : Int) < N5) (pc1 := 88) (pc2 := 126) (st1 := []) rfl (fun h540 => ?_) (fun h540 => ?_)
                · skip
                  refine qG.blk 3 (pc' := 93) (ls' := [(2, 24), (2, 37), (2, 27), (1, a), (9, 0), (1, b), (9, 0), (1, c), (9, 0), (0, ((g : Nat) : Int)), (1, qland x (wrl (x - 1))), (9, 0), (0, ((i : Nat) : Int)), (0, ((3 * (64 * g + s) : Nat) : Int))]) (st' := [(2, w 24 5), (1, a)]) (w' := w) (n' := 142) rfl ?_
                  rw [show w 24 5 = 26 from zref hI rfl rfl]
                  refine qG.blk 1 (pc' := 95) (ls' := [(2, 24), (2, 37), (2, 27), (1, a), (9, 0), (1, b), (9, 0), (1, c), (9, 0), (0, ((g : Nat) : Int)), (1, qland x (wrl (x - 1))), (9, 0), (0, ((i : Nat) : Int)), (0, ((3 * (64 * g + s) : Nat) : Int))]) (st' := [(0, ((3 * (64 * g + s) : Nat) : Int)), (2, 26), (1, a)]) (w' := w) (n' := 142) rfl ?_
                  refine qG.lld (m := 540) rfl rfl (by omega) (by decide) ?_
                  show qG none (d + 1) 101 96 [(2, 24), (2, 37), (2, 27), (1, a), (9, 0), (1, b), (9, 0), (1, c), (9, 0), (0, ((g : Nat) : Int)), (1, qland x (wrl (x - 1))), (9, 0), (0, ((i : Nat) : Int)), (0, ((3 * (64 * g + s) : Nat) : Int))] [(1, w 26 (3 * (64 * g + s))), (1, a)] w 142 Q9
                  refine qG.blk 5 (pc' := 104) (ls' := [(2, 24), (2, 37), (2, 27), (1, qlor a (w 26 (3 * (64 * g + s)))), (9, 0), (1, b), (9, 0), (1, c), (9, 0), (0, ((g : Nat) : Int)), (1, qland x (wrl (x - 1))), (9, 0), (0, ((i : Nat) : Int)), (0, ((3 * (64 * g + s) : Nat) : Int))]) (st' := [(2, w 24 5), (1, b)]) (w' := w) (n' := 142) rfl ?_
                  rw [show w 24 5 = 26 from zref hI rfl rfl]
                  refine qG.blk 3 (pc' := 108) (ls' := [(2, 24), (2, 37), (2, 27), (1, qlor a (w 26 (3 * (64 * g + s)))), (9, 0), (1, b), (9, 0), (1, c), (9, 0), (0, ((g : Nat) : Int)), (1, qland x (wrl (x - 1))), (9, 0), (0, ((i : Nat) : Int)), (0, ((3 * (64 * g + s) : Nat) : Int))]) (st' := [(0, wrp (((3 * (64 * g + s) : Nat) : Int) + 1)), (2, 26), (1, b)]) (w' := w) (n' := 142) rfl ?_
                  rw [show wrp (((3 * (64 * g + s) : Nat) : Int) + 1) = ((3 * (64 * g + s) + 1 : Nat) : Int) from by rw [wrp_id (by omega) (by omega)]; omega]
                  refine qG.lld (m := 540) rfl rfl (by omega) (by decide) ?_
                  show qG none (d + 1) 101 109 [(2, 24), (2, 37), (2, 27), (1, qlor a (w 26 (3 * (64 * g + s)))), (9, 0), (1, b), (9, 0), (1, c), (9, 0), (0, ((g : Nat) : Int)), (1, qland x (wrl (x - 1))), (9, 0), (0, ((i : Nat) : Int)), (0, ((3 * (64 * g + s) : Nat) : Int))] [(1, w 26 (3 * (64 * g + s) + 1)), (1, b)] w 142 Q9
                  refine qG.blk 5 (pc' := 118) (ls' := [(2, 24), (2, 37), (2, 27), (1, qlor a (w 26 (3 * (64 * g + s)))), (9, 0), (1, qlor b (w 26 (3 * (64 * g + s) + 1))), (9, 0), (1, c), (9, 0), (0, ((g : Nat) : Int)), (1, qland x (wrl (x - 1))), (9, 0), (0, ((i : Nat) : Int)), (0, ((3 * (64 * g + s) : Nat) : Int))]) (st' := [(2, w 24 5), (1, c)]) (w' := w) (n' := 142) rfl ?_
                  rw [show w 24 5 = 26 from zref hI rfl rfl]
                  refine qG.blk 3 (pc' := 122) (ls' := [(2, 24), (2, 37), (2, 27), (1, qlor a (w 26 (3 * (64 * g + s)))), (9, 0), (1, qlor b (w 26 (3 * (64 * g + s) + 1))), (9, 0), (1, c), (9, 0), (0, ((g : Nat) : Int)), (1, qland x (wrl (x - 1))), (9, 0), (0, ((i : Nat) : Int)), (0, ((3 * (64 * g + s) : Nat) : Int))]) (st' := [(0, wrp (((3 * (64 * g + s) : Nat) : Int) + 2)), (2, 26), (1, c)]) (w' := w) (n' := 142) rfl ?_
                  rw [show wrp (((3 * (64 * g + s) : Nat) : Int) + 2) = ((3 * (64 * g + s) + 2 : Nat) : Int) from by rw [wrp_id (by omega) (by omega)]; omega]
                  refine qG.lld (m := 540) rfl rfl (by omega) (by decide) ?_
                  show qG none (d + 1) 101 123 [(2, 24), (2, 37), (2, 27), (1, qlor a (w 26 (3 * (64 * g + s)))), (9, 0), (1, qlor b (w 26 (3 * (64 * g + s) + 1))), (9, 0), (1, c), (9, 0), (0, ((g : Nat) : Int)), (1, qland x (wrl (x - 1))), (9, 0), (0, ((i : Nat) : Int)), (0, ((3 * (64 * g + s) : Nat) : Int))] [(1, w 26 (3 * (64 * g + s) + 2)), (1, c)] w 142 Q9
                  refine qG.blk 3 (pc' := 129) (ls' := [(2, 24), (2, 37), (2, 27), (1, qlor a (w 26 (3 * (64 * g + s)))), (9, 0), (1, qlor b (w 26 (3 * (64 * g + s) + 1))), (9, 0), (1, qlor c (w 26 (3 * (64 * g + s) + 2))), (9, 0), (0, ((g : Nat) : Int)), (1, qland x (wrl (x - 1))), (9, 0), (0, wrp (((i : Nat) : Int) + 1)), (0, ((3 * (64 * g + s) : Nat) : Int))]) (st' := []) (w' := w) (n' := 142) rfl ?_
                  rw [show wrp (((i : Nat) : Int) + 1) = ((i + 1 : Nat) : Int) from wrp_id (by omega) (by omega)]
                  refine qG.blk 1 (pc' := 33) (ls' := [(2, 24), (2, 37), (2, 27), (1, qlor a (w 26 (3 * (64 * g + s)))), (9, 0), (1, qlor b (w 26 (3 * (64 * g + s) + 1))), (9, 0), (1, qlor c (w 26 (3 * (64 * g + s) + 2))), (9, 0), (0, ((g : Nat) : Int)), (1, qland x (wrl (x - 1))), (9, 0), (0, ((i + 1 : Nat) : Int)), (0, ((3 * (64 * g + s) : Nat) : Int))]) (st' := []) (w' := w) (n' := 142) rfl ?_
                  exact ih33 _ (by omega) (i + 1) (s + 1) (qlor a (w 26 (3 * (64 * g + s)))) (qlor b (w 26 (3 * (64 * g + s) + 1))) (qlor c (w 26 (3 * (64 * g + s) + 2))) (qland x (wrl (x - 1))) ((0, ((3 * (64 * g + s) : Nat) : Int))) rfl (⟨by omega, by omega, (RST.acc hA hst.1.1 hs hst.2.1).up (by rw [sb_g hs]; exact hst.1.2) (by omega), hst.2.2⟩)
                · skip
                  refine qG.blk 1 (pc' := 129) (ls' := [(2, 24), (2, 37), (2, 27), (1, a), (9, 0), (1, b), (9, 0), (1, c), (9, 0), (0, ((g : Nat) : Int)), (1, qland x (wrl (x - 1))), (9, 0), (0, wrp (((i : Nat) : Int) + 1)), (0, ((3 * (64 * g + s) : Nat) : Int))]) (st' := []) (w' := w) (n' := 142) rfl ?_
                  rw [show wrp (((i : Nat) : Int) + 1) = ((i + 1 : Nat) : Int) from wrp_id (by omega) (by omega)]
                  refine qG.blk 1 (pc' := 33) (ls' := [(2, 24), (2, 37), (2, 27), (1, a), (9, 0), (1, b), (9, 0), (1, c), (9, 0), (0, ((g : Nat) : Int)), (1, qland x (wrl (x - 1))), (9, 0), (0, ((i + 1 : Nat) : Int)), (0, ((3 * (64 * g + s) : Nat) : Int))]) (st' := []) (w' := w) (n' := 142) rfl ?_
                  exact ih33 _ (by omega) (i + 1) (s + 1) (a) (b) (c) (qland x (wrl (x - 1))) ((0, ((3 * (64 * g + s) : Nat) : Int))) rfl (⟨by omega, by omega, (RST.acc hA hst.1.1 hs hst.2.1).no (by omega), hst.2.2⟩)
          · skip
            refine qG.blk 1 (pc' := 135) (ls' := [(2, 24), (2, 37), (2, 27), (1, a), (9, 0), (1, b), (9, 0), (1, c), (9, 0), (0, wrp (((g : Nat) : Int) + 1)), (1, x), (9, 0), (0, ((i : Nat) : Int)), l13]) (st' := []) (w' := w) (n' := 142) rfl ?_
            rw [show wrp (((g : Nat) : Int) + 1) = ((g + 1 : Nat) : Int) from wrp_id (by omega) (by omega)]
            refine qG.blk 1 (pc' := 11) (ls' := [(2, 24), (2, 37), (2, 27), (1, a), (9, 0), (1, b), (9, 0), (1, c), (9, 0), (0, ((g + 1 : Nat) : Int)), (1, x), (9, 0), (0, ((i : Nat) : Int)), l13]) (st' := []) (w' := w) (n' := 142) rfl ?_
            exact ih11 _ (by omega) (g + 1) (a) (b) (c) ((1, x)) ((0, ((i : Nat) : Int))) (l13) rfl (⟨by omega, by first | exact RST.end hu64 hA (by have z := qcmp_0.mp hx0; rw [z] at hR; exact hR.e0) | exact RST.end hu64 hA (fun s h1 h2 => absurd h1 (by omega))⟩)
        exact L33 _ (0) (0) (a) (b) (c) (w 37 g) (l13) rfl (⟨Nat.le_refl _, Nat.zero_le _, hG, RST.z (by unfold LROW; omega) hI⟩)
      · exfalso; omega
    · skip
      refine qG.blk 4 (pc' := 144) (ls' := [(2, 24), (2, 37), (2, 27), (1, a), (9, 0), (1, b), (9, 0), (1, c), (9, 0), (0, ((g : Nat) : Int)), l10, (9, 0), l12, l13]) (st' := [(1, c), (1, b), (1, a), (2, 27)]) (w' := w) (n' := 142) rfl ?_
      refine qG.call (t := 105) (na := 4) (sk := 0) (md := 0) (ls1 := [(2, 27), (1, a), (9, 0), (1, b), (9, 0), (1, c), (9, 0)]) (r1 := []) rfl rfl rfl rfl rfl (K_putRow27 (Nat.zero_le _) a b c w) ?_
      rintro _ w0 _ ⟨rfl, hw0, rfl⟩
      have hG2 : ACC w 37 a b c 192 := by rw [show 192 = 64 * g by omega]; exact hG
      have hRW : RW 27 (fun j => spF w 37 j 192) w w0 := by rw [hw0]; exact RW.p (by unfold LROW; omega) hI hG2.1.1 hG2.1.2.1 hG2.1.2.2 hG2.2.1 hG2.2.2.1 hG2.2.2.2
      show qG none (d + 1) 101 147 [(2, 24), (2, 37), (2, 27), (1, a), (9, 0), (1, b), (9, 0), (1, c), (9, 0), (0, ((g : Nat) : Int)), l10, (9, 0), l12, l13] [] w0 142 Q9
      refine qG.retv rfl rfl ?_
      subst hQ9
      exact ⟨rfl, rfl, hRW⟩
  exact L11 _ (0) (0) (0) (0) ((9, 0)) ((9, 0)) ((9, 0)) rfl (⟨Nat.zero_le _, ACC.z⟩)
theorem K_spread27_35 {d : Nat} (hd : 2 ≤ d) (w : qW) (hI : yInv zgf zga zra zSp w) : qG none d 101 0 [(2, 24), (2, 27), (2, 35), (9, 0), (9, 0), (9, 0), (9, 0), (9, 0), (9, 0), (9, 0), (9, 0), (9, 0), (9, 0), (9, 0)] [] w 142 (fun (r : qV) (w1 : qW) (n1 : Nat) => r = (9, 0) ∧ n1 = 142 ∧ RW 35 (fun j => spF w 27 j 192) w w1) := by
  generalize hQ9 : (fun (r : qV) (w1 : qW) (n1 : Nat) => r = (9, 0) ∧ n1 = 142 ∧ RW 35 (fun j => spF w 27 j 192) w w1) = Q9
  obtain ⟨N5, hN5⟩ : ∃ N : Int, N = 540 := ⟨_, rfl⟩
  obtain ⟨d, rfl⟩ : ∃ d9, d = d9 + 1 := ⟨d - 1, by omega⟩
  refine qG.blk 8 (pc' := 11) (ls' := [(2, 24), (2, 27), (2, 35), (1, 0), (9, 0), (1, 0), (9, 0), (1, 0), (9, 0), (0, 0), (9, 0), (9, 0), (9, 0), (9, 0)]) (st' := []) (w' := w) (n' := 142) rfl ?_
  have L11 : ∀ (m9 : Nat) (g : Nat) (a b c : Int) (l10 l12 l13 : qV), 3 - g = m9 → (g ≤ 3 ∧ ACC w 27 a b c (64 * g)) → qG none (d + 1) 101 11 [(2, 24), (2, 27), (2, 35), (1, a), (9, 0), (1, b), (9, 0), (1, c), (9, 0), (0, ((g : Nat) : Int)), l10, (9, 0), l12, l13] [] w 142 Q9 := by
    intro m9
    induction m9 using Nat.strongRecOn with
    | ind m9 ih11 =>
    intro g a b c l10 l12 l13 hm11 hI11
    obtain ⟨hg3, hG⟩ := hI11
    refine qG.blk 2 (pc' := 14) (ls' := [(2, 24), (2, 27), (2, 35), (1, a), (9, 0), (1, b), (9, 0), (1, c), (9, 0), (0, ((g : Nat) : Int)), l10, (9, 0), l12, l13]) (st' := [(0, 3), (0, ((g : Nat) : Int))]) (w' := w) (n' := 142) rfl ?_
    refine qG.br (P := ((g : Nat) : Int) < 3) (pc1 := 17) (pc2 := 138) (st1 := []) rfl (fun hg => ?_) (fun hg => ?_)
    · skip
      refine qG.blk 3 (pc' := 21) (ls' := [(2, 24), (2, 27), (2, 35), (1, a), (9, 0), (1, b), (9, 0), (1, c), (9, 0), (0, ((g : Nat) : Int)), l10, (9, 0), l12, l13]) (st' := [(0, 3), (0, ((g : Nat) : Int))]) (w' := w) (n' := 142) rfl ?_
      refine qG.br (P := ((g : Nat) : Int) < 3) (pc1 := 24) (pc2 := 138) (st1 := []) rfl (fun hgl => ?_) (fun hgl => ?_)
      · skip
        refine qG.blk 2 (pc' := 27) (ls' := [(2, 24), (2, 27), (2, 35), (1, a), (9, 0), (1, b), (9, 0), (1, c), (9, 0), (0, ((g : Nat) : Int)), l10, (9, 0), l12, l13]) (st' := [(0, ((g : Nat) : Int)), (2, 27)]) (w' := w) (n' := 142) rfl ?_
        refine qG.ar (P := 0 ≤ ((g : Nat) : Int) ∧ ((g : Nat) : Int) < ((3 : Nat) : Int)) (P2 := 0 < (27 : Int) ∧ (27 : Int) ≤ ((142 : Nat) : Int)) (pc' := 28) (ls' := [(2, 24), (2, 27), (2, 35), (1, a), (9, 0), (1, b), (9, 0), (1, c), (9, 0), (0, ((g : Nat) : Int)), l10, (9, 0), l12, l13]) (st' := [(1, w 27 g)]) (w' := w) (n' := 142) rfl (by omega) (by decide) ?_
        refine qG.blk 3 (pc' := 33) (ls' := [(2, 24), (2, 27), (2, 35), (1, a), (9, 0), (1, b), (9, 0), (1, c), (9, 0), (0, ((g : Nat) : Int)), (1, w 27 g), (9, 0), (0, 0), l13]) (st' := []) (w' := w) (n' := 142) rfl ?_
        have L33 : ∀ (m9 : Nat) (i u : Nat) (a b c x : Int) (l13 : qV), 64 - i = m9 → (i ≤ u ∧ u ≤ 64 ∧ ACC w 27 a b c (64 * g + u) ∧ RST w 27 g u x) → qG none (d + 1) 101 33 [(2, 24), (2, 27), (2, 35), (1, a), (9, 0), (1, b), (9, 0), (1, c), (9, 0), (0, ((g : Nat) : Int)), (1, x), (9, 0), (0, ((i : Nat) : Int)), l13] [] w 142 Q9 := by
          intro m9
          induction m9 using Nat.strongRecOn with
          | ind m9 ih33 =>
          intro i u a b c x l13 hm33 hI33
          obtain ⟨hiu, hu64, hA, hR⟩ := hI33
          refine qG.blk 2 (pc' := 37) (ls' := [(2, 24), (2, 27), (2, 35), (1, a), (9, 0), (1, b), (9, 0), (1, c), (9, 0), (0, ((g : Nat) : Int)), (1, x), (9, 0), (0, ((i : Nat) : Int)), l13]) (st' := [(0, 64), (0, ((i : Nat) : Int))]) (w' := w) (n' := 142) rfl ?_
          refine qG.br (P := ((i : Nat) : Int) < 64) (pc1 := 40) (pc2 := 132) (st1 := []) rfl (fun hi64 => ?_) (fun hi64 => ?_)
          · skip
            refine qG.blk 3 (pc' := 44) (ls' := [(2, 24), (2, 27), (2, 35), (1, a), (9, 0), (1, b), (9, 0), (1, c), (9, 0), (0, ((g : Nat) : Int)), (1, x), (9, 0), (0, ((i : Nat) : Int)), l13]) (st' := [(0, qcmp x 0)]) (w' := w) (n' := 142) rfl ?_
            refine qG.br (P := qcmp x 0 = 0) (pc1 := 132) (pc2 := 47) (st1 := []) rfl (fun hx0 => ?_) (fun hx0 => ?_)
            · skip
              refine qG.blk 1 (pc' := 135) (ls' := [(2, 24), (2, 27), (2, 35), (1, a), (9, 0), (1, b), (9, 0), (1, c), (9, 0), (0, wrp (((g : Nat) : Int) + 1)), (1, x), (9, 0), (0, ((i : Nat) : Int)), l13]) (st' := []) (w' := w) (n' := 142) rfl ?_
              rw [show wrp (((g : Nat) : Int) + 1) = ((g + 1 : Nat) : Int) from wrp_id (by omega) (by omega)]
              refine qG.blk 1 (pc' := 11) (ls' := [(2, 24), (2, 27), (2, 35), (1, a), (9, 0), (1, b), (9, 0), (1, c), (9, 0), (0, ((g + 1 : Nat) : Int)), (1, x), (9, 0), (0, ((i : Nat) : Int)), l13]) (st' := []) (w' := w) (n' := 142) rfl ?_
              exact ih11 _ (by omega) (g + 1) (a) (b) (c) ((1, x)) ((0, ((i : Nat) : Int))) (l13) rfl (⟨by omega, by first | exact RST.end hu64 hA (by have z := qcmp_0.mp hx0; rw [z] at hR; exact hR.e0) | exact RST.end hu64 hA (fun s h1 h2 => absurd h1 (by omega))⟩)
            · skip
              refine qG.blk 4 (pc' := 53) (ls' := [(2, 24), (2, 27), (2, 35), (1, a), (9, 0), (1, b), (9, 0), (1, c), (9, 0), (0, ((g : Nat) : Int)), (1, x), (9, 0), (0, ((i : Nat) : Int)), l13]) (st' := [(0, wrp (64 * ((g : Nat) : Int))), (0, 3)]) (w' := w) (n' := 142) rfl ?_
              rw [show wrp (64 * ((g : Nat) : Int)) = ((64 * g : Nat) : Int) from by rw [wrp_id (by omega) (by omega)]; omega]
              refine qG.blk 1 (pc' := 55) (ls' := [(2, 24), (2, 27), (2, 35), (1, a), (9, 0), (1, b), (9, 0), (1, c), (9, 0), (0, ((g : Nat) : Int)), (1, x), (9, 0), (0, ((i : Nat) : Int)), l13]) (st' := [(1, x), (0, ((64 * g : Nat) : Int)), (0, 3)]) (w' := w) (n' := 142) rfl ?_
              refine qG.call (t := 303) (na := 1) (sk := 0) (md := 0) (ls1 := [(1, x), (9, 0), (9, 0)]) (r1 := [(0, ((64 * g : Nat) : Int)), (0, 3)]) rfl rfl rfl rfl rfl (K_lnt (by omega) x w) ?_
              rintro _ w7 _ ⟨rfl, hw7, rfl⟩
              rw [hw7]
              obtain ⟨s, hs, hb, hl⟩ := lb_ne hR.1 (fun z => hx0 (qcmp_0.mpr z))
              have hst := hR.st hs hb hl
              rw [lnt_low hs hb hl]
              show qG none (d + 1) 101 58 [(2, 24), (2, 27), (2, 35), (1, a), (9, 0), (1, b), (9, 0), (1, c), (9, 0), (0, ((g : Nat) : Int)), (1, x), (9, 0), (0, ((i : Nat) : Int)), l13] [(0, ((s : Nat) : Int)), (0, ((64 * g : Nat) : Int)), (0, 3)] w 142 Q9
              refine qG.blk 1 (pc' := 59) (ls' := [(2, 24), (2, 27), (2, 35), (1, a), (9, 0), (1, b), (9, 0), (1, c), (9, 0), (0, ((g : Nat) : Int)), (1, x), (9, 0), (0, ((i : Nat) : Int)), l13]) (st' := [(0, wrp (((64 * g : Nat) : Int) + ((s : Nat) : Int))), (0, 3)]) (w' := w) (n' := 142) rfl ?_
              rw [show wrp (((64 * g : Nat) : Int) + ((s : Nat) : Int)) = ((64 * g + s : Nat) : Int) from by rw [wrp_id (by omega) (by omega)]; omega]
              refine qG.blk 1 (pc' := 60) (ls' := [(2, 24), (2, 27), (2, 35), (1, a), (9, 0), (1, b), (9, 0), (1, c), (9, 0), (0, ((g : Nat) : Int)), (1, x), (9, 0), (0, ((i : Nat) : Int)), l13]) (st' := [(0, wrp (3 * ((64 * g + s : Nat) : Int)))]) (w' := w) (n' := 142) rfl ?_
              rw [show wrp (3 * ((64 * g + s : Nat) : Int)) = ((3 * (64 * g + s) : Nat) : Int) from by rw [wrp_id (by omega) (by omega)]; omega]
              refine qG.blk 5 (pc' := 68) (ls' := [(2, 24), (2, 27), (2, 35), (1, a), (9, 0), (1, b), (9, 0), (1, c), (9, 0), (0, ((g : Nat) : Int)), (1, x), (9, 0), (0, ((i : Nat) : Int)), (0, ((3 * (64 * g + s) : Nat) : Int))]) (st' := [(1, wrl (x - 1)), (1, x)]) (w' := w) (n' := 142) rfl ?_
              refine qG.blk 3 (pc' := 73) (ls' := [(2, 24), (2, 27), (2, 35), (1, a), (9, 0), (1, b), (9, 0), (1, c), (9, 0), (0, ((g : Nat) : Int)), (1, qland x (wrl (x - 1))), (9, 0), (0, ((i : Nat) : Int)), (0, ((3 * (64 * g + s) : Nat) : Int))]) (st' := [(0, ((3 * (64 * g + s) : Nat) : Int))]) (w' := w) (n' := 142) rfl ?_
              refine qG.br (P := ((3 * (64 * g + s) : Nat) : Int) < 0) (pc1 := 126) (pc2 := 76) (st1 := []) rfl (fun hr0 => ?_) (fun hr0 => ?_)
              · exfalso; omega
              · skip
                refine qG.blk 3 (pc' := 80) (ls' := [(2, 24), (2, 27), (2, 35), (1, a), (9, 0), (1, b), (9, 0), (1, c), (9, 0), (0, ((g : Nat) : Int)), (1, qland x (wrl (x - 1))), (9, 0), (0, ((i : Nat) : Int)), (0, ((3 * (64 * g + s) : Nat) : Int))]) (st' := [(0, wrp (((3 * (64 * g + s) : Nat) : Int) + 2))]) (w' := w) (n' := 142) rfl ?_
                rw [show wrp (((3 * (64 * g + s) : Nat) : Int) + 2) = ((3 * (64 * g + s) + 2 : Nat) : Int) from by rw [wrp_id (by omega) (by omega)]; omega]
                refine qG.blk 2 (pc' := 84) (ls' := [(2, 24), (2, 27), (2, 35), (1, a), (9, 0), (1, b), (9, 0), (1, c), (9, 0), (0, ((g : Nat) : Int)), (1, qland x (wrl (x - 1))), (9, 0), (0, ((i : Nat) : Int)), (0, ((3 * (64 * g + s) : Nat) : Int))]) (st' := [(2, w 24 5), (0, ((3 * (64 * g + s) + 2 : Nat) : Int))]) (w' := w) (n' := 142) rfl ?_
                rw [show w 24 5 = 26 from zref hI rfl rfl]
                refine qG.blk 1 (pc' := 85) (ls' := [(2, 24), (2, 27), (2, 35), (1, a), (9, 0), (1, b), (9, 0), (1, c), (9, 0), (0, ((g : Nat) : Int)), (1, qland x (wrl (x - 1))), (9, 0), (0, ((i : Nat) : Int)), (0, ((3 * (64 * g + s) : Nat) : Int))]) (st' := [(0, 540), (0, ((3 * (64 * g + s) + 2 : Nat) : Int))]) (w' := w) (n' := 142) rfl ?_
                rw [show (540 : Int) = N5 from hN5.symm]
                refine qG.br (P := ((3 * (64 * g + s) + 2 : Nat) : Int) < N5) (pc1 := 88) (pc2 := 126) (st1 := []) rfl (fun h540 => ?_) (fun h540 => ?_)
                · skip
                  refine qG.blk 3 (pc' := 93) (ls' := [(2, 24), (2, 27), (2, 35), (1, a), (9, 0), (1, b), (9, 0), (1, c), (9, 0), (0, ((g : Nat) : Int)), (1, qland x (wrl (x - 1))), (9, 0), (0, ((i : Nat) : Int)), (0, ((3 * (64 * g + s) : Nat) : Int))]) (st' := [(2, w 24 5), (1, a)]) (w' := w) (n' := 142) rfl ?_
                  rw [show w 24 5 = 26 from zref hI rfl rfl]
                  refine qG.blk 1 (pc' := 95) (ls' := [(2, 24), (2, 27), (2, 35), (1, a), (9, 0), (1, b), (9, 0), (1, c), (9, 0), (0, ((g : Nat) : Int)), (1, qland x (wrl (x - 1))), (9, 0), (0, ((i : Nat) : Int)), (0, ((3 * (64 * g + s) : Nat) : Int))]) (st' := [(0, ((3 * (64 * g + s) : Nat) : Int)), (2, 26), (1, a)]) (w' := w) (n' := 142) rfl ?_
                  refine qG.lld (m := 540) rfl rfl (by omega) (by decide) ?_
                  show qG none (d + 1) 101 96 [(2, 24), (2, 27), (2, 35), (1, a), (9, 0), (1, b), (9, 0), (1, c), (9, 0), (0, ((g : Nat) : Int)), (1, qland x (wrl (x - 1))), (9, 0), (0, ((i : Nat) : Int)), (0, ((3 * (64 * g + s) : Nat) : Int))] [(1, w 26 (3 * (64 * g + s))), (1, a)] w 142 Q9
                  refine qG.blk 5 (pc' := 104) (ls' := [(2, 24), (2, 27), (2, 35), (1, qlor a (w 26 (3 * (64 * g + s)))), (9, 0), (1, b), (9, 0), (1, c), (9, 0), (0, ((g : Nat) : Int)), (1, qland x (wrl (x - 1))), (9, 0), (0, ((i : Nat) : Int)), (0, ((3 * (64 * g + s) : Nat) : Int))]) (st' := [(2, w 24 5), (1, b)]) (w' := w) (n' := 142) rfl ?_
                  rw [show w 24 5 = 26 from zref hI rfl rfl]
                  refine qG.blk 3 (pc' := 108) (ls' := [(2, 24), (2, 27), (2, 35), (1, qlor a (w 26 (3 * (64 * g + s)))), (9, 0), (1, b), (9, 0), (1, c), (9, 0), (0, ((g : Nat) : Int)), (1, qland x (wrl (x - 1))), (9, 0), (0, ((i : Nat) : Int)), (0, ((3 * (64 * g + s) : Nat) : Int))]) (st' := [(0, wrp (((3 * (64 * g + s) : Nat) : Int) + 1)), (2, 26), (1, b)]) (w' := w) (n' := 142) rfl ?_
                  rw [show wrp (((3 * (64 * g + s) : Nat) : Int) + 1) = ((3 * (64 * g + s) + 1 : Nat) : Int) from by rw [wrp_id (by omega) (by omega)]; omega]
                  refine qG.lld (m := 540) rfl rfl (by omega) (by decide) ?_
                  show qG none (d + 1) 101 109 [(2, 24), (2, 27), (2, 35), (1, qlor a (w 26 (3 * (64 * g + s)))), (9, 0), (1, b), (9, 0), (1, c), (9, 0), (0, ((g : Nat) : Int)), (1, qland x (wrl (x - 1))), (9, 0), (0, ((i : Nat) : Int)), (0, ((3 * (64 * g + s) : Nat) : Int))] [(1, w 26 (3 * (64 * g + s) + 1)), (1, b)] w 142 Q9
                  refine qG.blk 5 (pc' := 118) (ls' := [(2, 24), (2, 27), (2, 35), (1, qlor a (w 26 (3 * (64 * g + s)))), (9, 0), (1, qlor b (w 26 (3 * (64 * g + s) + 1))), (9, 0), (1, c), (9, 0), (0, ((g : Nat) : Int)), (1, qland x (wrl (x - 1))), (9, 0), (0, ((i : Nat) : Int)), (0, ((3 * (64 * g + s) : Nat) : Int))]) (st' := [(2, w 24 5), (1, c)]) (w' := w) (n' := 142) rfl ?_
                  rw [show w 24 5 = 26 from zref hI rfl rfl]
                  refine qG.blk 3 (pc' := 122) (ls' := [(2, 24), (2, 27), (2, 35), (1, qlor a (w 26 (3 * (64 * g + s)))), (9, 0), (1, qlor b (w 26 (3 * (64 * g + s) + 1))), (9, 0), (1, c), (9, 0), (0, ((g : Nat) : Int)), (1, qland x (wrl (x - 1))), (9, 0), (0, ((i : Nat) : Int)), (0, ((3 * (64 * g + s) : Nat) : Int))]) (st' := [(0, wrp (((3 * (64 * g + s) : Nat) : Int) + 2)), (2, 26), (1, c)]) (w' := w) (n' := 142) rfl ?_
                  rw [show wrp (((3 * (64 * g + s) : Nat) : Int) + 2) = ((3 * (64 * g + s) + 2 : Nat) : Int) from by rw [wrp_id (by omega) (by omega)]; omega]
                  refine qG.lld (m := 540) rfl rfl (by omega) (by decide) ?_
                  show qG none (d + 1) 101 123 [(2, 24), (2, 27), (2, 35), (1, qlor a (w 26 (3 * (64 * g + s)))), (9, 0), (1, qlor b (w 26 (3 * (64 * g + s) + 1))), (9, 0), (1, c), (9, 0), (0, ((g : Nat) : Int)), (1, qland x (wrl (x - 1))), (9, 0), (0, ((i : Nat) : Int)), (0, ((3 * (64 * g + s) : Nat) : Int))] [(1, w 26 (3 * (64 * g + s) + 2)), (1, c)] w 142 Q9
                  refine qG.blk 3 (pc' := 129) (ls' := [(2, 24), (2, 27), (2, 35), (1, qlor a (w 26 (3 * (64 * g + s)))), (9, 0), (1, qlor b (w 26 (3 * (64 * g + s) + 1))), (9, 0), (1, qlor c (w 26 (3 * (64 * g + s) + 2))), (9, 0), (0, ((g : Nat) : Int)), (1, qland x (wrl (x - 1))), (9, 0), (0, wrp (((i : Nat) : Int) + 1)), (0, ((3 * (64 * g + s) : Nat) : Int))]) (st' := []) (w' := w) (n' := 142) rfl ?_
                  rw [show wrp (((i : Nat) : Int) + 1) = ((i + 1 : Nat) : Int) from wrp_id (by omega) (by omega)]
                  refine qG.blk 1 (pc' := 33) (ls' := [(2, 24), (2, 27), (2, 35), (1, qlor a (w 26 (3 * (64 * g + s)))), (9, 0), (1, qlor b (w 26 (3 * (64 * g + s) + 1))), (9, 0), (1, qlor c (w 26 (3 * (64 * g + s) + 2))), (9, 0), (0, ((g : Nat) : Int)), (1, qland x (wrl (x - 1))), (9, 0), (0, ((i + 1 : Nat) : Int)), (0, ((3 * (64 * g + s) : Nat) : Int))]) (st' := []) (w' := w) (n' := 142) rfl ?_
                  exact ih33 _ (by omega) (i + 1) (s + 1) (qlor a (w 26 (3 * (64 * g + s)))) (qlor b (w 26 (3 * (64 * g + s) + 1))) (qlor c (w 26 (3 * (64 * g + s) + 2))) (qland x (wrl (x - 1))) ((0, ((3 * (64 * g + s) : Nat) : Int))) rfl (⟨by omega, by omega, (RST.acc hA hst.1.1 hs hst.2.1).up (by rw [sb_g hs]; exact hst.1.2) (by omega), hst.2.2⟩)
                · skip
                  refine qG.blk 1 (pc' := 129) (ls' := [(2, 24), (2, 27), (2, 35), (1, a), (9, 0), (1, b), (9, 0), (1, c), (9, 0), (0, ((g : Nat) : Int)), (1, qland x (wrl (x - 1))), (9, 0), (0, wrp (((i : Nat) : Int) + 1)), (0, ((3 * (64 * g + s) : Nat) : Int))]) (st' := []) (w' := w) (n' := 142) rfl ?_
                  rw [show wrp (((i : Nat) : Int) + 1) = ((i + 1 : Nat) : Int) from wrp_id (by omega) (by omega)]
                  refine qG.blk 1 (pc' := 33) (ls' := [(2, 24), (2, 27), (2, 35), (1, a), (9, 0), (1, b), (9, 0), (1, c), (9, 0), (0, ((g : Nat) : Int)), (1, qland x (wrl (x - 1))), (9, 0), (0, ((i + 1 : Nat) : Int)), (0, ((3 * (64 * g + s) : Nat) : Int))]) (st' := []) (w' := w) (n' := 142) rfl ?_
                  exact ih33 _ (by omega) (i + 1) (s + 1) (a) (b) (c) (qland x (wrl (x - 1))) ((0, ((3 * (64 * g + s) : Nat) : Int))) rfl (⟨by omega, by omega, (RST.acc hA hst.1.1 hs hst.2.1).no (by omega), hst.2.2⟩)
          · skip
            refine qG.blk 1 (pc' := 135) (ls' := [(2, 24), (2, 27), (2, 35), (1, a), (9, 0), (1, b), (9, 0), (1, c), (9, 0), (0, wrp (((g : Nat) : Int) + 1)), (1, x), (9, 0), (0, ((i : Nat) : Int)), l13]) (st' := []) (w' := w) (n' := 142) rfl ?_
            rw [show wrp (((g : Nat) : Int) + 1) = ((g + 1 : Nat) : Int) from wrp_id (by omega) (by omega)]
            refine qG.blk 1 (pc' := 11) (ls' := [(2, 24), (2, 27), (2, 35), (1, a), (9, 0), (1, b), (9, 0), (1, c), (9, 0), (0, ((g + 1 : Nat) : Int)), (1, x), (9, 0), (0, ((i : Nat) : Int)), l13]) (st' := []) (w' := w) (n' := 142) rfl ?_
            exact ih11 _ (by omega) (g + 1) (a) (b) (c) ((1, x)) ((0, ((i : Nat) : Int))) (l13) rfl (⟨by omega, by first | exact RST.end hu64 hA (by have z := qcmp_0.mp hx0; rw [z] at hR; exact hR.e0) | exact RST.end hu64 hA (fun s h1 h2 => absurd h1 (by omega))⟩)
        exact L33 _ (0) (0) (a) (b) (c) (w 27 g) (l13) rfl (⟨Nat.le_refl _, Nat.zero_le _, hG, RST.z (by unfold LROW; omega) hI⟩)
      · exfalso; omega
    · skip
      refine qG.blk 4 (pc' := 144) (ls' := [(2, 24), (2, 27), (2, 35), (1, a), (9, 0), (1, b), (9, 0), (1, c), (9, 0), (0, ((g : Nat) : Int)), l10, (9, 0), l12, l13]) (st' := [(1, c), (1, b), (1, a), (2, 35)]) (w' := w) (n' := 142) rfl ?_
      refine qG.call (t := 105) (na := 4) (sk := 0) (md := 0) (ls1 := [(2, 35), (1, a), (9, 0), (1, b), (9, 0), (1, c), (9, 0)]) (r1 := []) rfl rfl rfl rfl rfl (K_putRow35 (Nat.zero_le _) a b c w) ?_
      rintro _ w0 _ ⟨rfl, hw0, rfl⟩
      have hG2 : ACC w 27 a b c 192 := by rw [show 192 = 64 * g by omega]; exact hG
      have hRW : RW 35 (fun j => spF w 27 j 192) w w0 := by rw [hw0]; exact RW.p (by unfold LROW; omega) hI hG2.1.1 hG2.1.2.1 hG2.1.2.2 hG2.2.1 hG2.2.2.1 hG2.2.2.2
      show qG none (d + 1) 101 147 [(2, 24), (2, 27), (2, 35), (1, a), (9, 0), (1, b), (9, 0), (1, c), (9, 0), (0, ((g : Nat) : Int)), l10, (9, 0), l12, l13] [] w0 142 Q9
      refine qG.retv rfl rfl ?_
      subst hQ9
      exact ⟨rfl, rfl, hRW⟩
  exact L11 _ (0) (0) (0) (0) ((9, 0)) ((9, 0)) ((9, 0)) rfl (⟨Nat.zero_le _, ACC.z⟩)
theorem K_spread27_36 {d : Nat} (hd : 2 ≤ d) (w : qW) (hI : yInv zgf zga zra zSp w) : qG none d 101 0 [(2, 24), (2, 27), (2, 36), (9, 0), (9, 0), (9, 0), (9, 0), (9, 0), (9, 0), (9, 0), (9, 0), (9, 0), (9, 0), (9, 0)] [] w 142 (fun (r : qV) (w1 : qW) (n1 : Nat) => r = (9, 0) ∧ n1 = 142 ∧ RW 36 (fun j => spF w 27 j 192) w w1) := by
  generalize hQ9 : (fun (r : qV) (w1 : qW) (n1 : Nat) => r = (9, 0) ∧ n1 = 142 ∧ RW 36 (fun j => spF w 27 j 192) w w1) = Q9
  obtain ⟨N5, hN5⟩ : ∃ N : Int, N = 540 := ⟨_, rfl⟩
  obtain ⟨d, rfl⟩ : ∃ d9, d = d9 + 1 := ⟨d - 1, by omega⟩
  refine qG.blk 8 (pc' := 11) (ls' := [(2, 24), (2, 27), (2, 36), (1, 0), (9, 0), (1, 0), (9, 0), (1, 0), (9, 0), (0, 0), (9, 0), (9, 0), (9, 0), (9, 0)]) (st' := []) (w' := w) (n' := 142) rfl ?_
  have L11 : ∀ (m9 : Nat) (g : Nat) (a b c : Int) (l10 l12 l13 : qV), 3 - g = m9 → (g ≤ 3 ∧ ACC w 27 a b c (64 * g)) → qG none (d + 1) 101 11 [(2, 24), (2, 27), (2, 36), (1, a), (9, 0), (1, b), (9, 0), (1, c), (9, 0), (0, ((g : Nat) : Int)), l10, (9, 0), l12, l13] [] w 142 Q9 := by
    intro m9
    induction m9 using Nat.strongRecOn with
    | ind m9 ih11 =>
    intro g a b c l10 l12 l13 hm11 hI11
    obtain ⟨hg3, hG⟩ := hI11
    refine qG.blk 2 (pc' := 14) (ls' := [(2, 24), (2, 27), (2, 36), (1, a), (9, 0), (1, b), (9, 0), (1, c), (9, 0), (0, ((g : Nat) : Int)), l10, (9, 0), l12, l13]) (st' := [(0, 3), (0, ((g : Nat) : Int))]) (w' := w) (n' := 142) rfl ?_
    refine qG.br (P := ((g : Nat) : Int) < 3) (pc1 := 17) (pc2 := 138) (st1 := []) rfl (fun hg => ?_) (fun hg => ?_)
    · skip
      refine qG.blk 3 (pc' := 21) (ls' := [(2, 24), (2, 27), (2, 36), (1, a), (9, 0), (1, b), (9, 0), (1, c), (9, 0), (0, ((g : Nat) : Int)), l10, (9, 0), l12, l13]) (st' := [(0, 3), (0, ((g : Nat) : Int))]) (w' := w) (n' := 142) rfl ?_
      refine qG.br (P := ((g : Nat) : Int) < 3) (pc1 := 24) (pc2 := 138) (st1 := []) rfl (fun hgl => ?_) (fun hgl => ?_)
      · skip
        refine qG.blk 2 (pc' := 27) (ls' := [(2, 24), (2, 27), (2, 36), (1, a), (9, 0), (1, b), (9, 0), (1, c), (9, 0), (0, ((g : Nat) : Int)), l10, (9, 0), l12, l13]) (st' := [(0, ((g : Nat) : Int)), (2, 27)]) (w' := w) (n' := 142) rfl ?_
        refine qG.ar (P := 0 ≤ ((g : Nat) : Int) ∧ ((g : Nat) : Int) < ((3 : Nat) : Int)) (P2 := 0 < (27 : Int) ∧ (27 : Int) ≤ ((142 : Nat) : Int)) (pc' := 28) (ls' := [(2, 24), (2, 27), (2, 36), (1, a), (9, 0), (1, b), (9, 0), (1, c), (9, 0), (0, ((g : Nat) : Int)), l10, (9, 0), l12, l13]) (st' := [(1, w 27 g)]) (w' := w) (n' := 142) rfl (by omega) (by decide) ?_
        refine qG.blk 3 (pc' := 33) (ls' := [(2, 24), (2, 27), (2, 36), (1, a), (9, 0), (1, b), (9, 0), (1, c), (9, 0), (0, ((g : Nat) : Int)), (1, w 27 g), (9, 0), (0, 0), l13]) (st' := []) (w' := w) (n' := 142) rfl ?_
        have L33 : ∀ (m9 : Nat) (i u : Nat) (a b c x : Int) (l13 : qV), 64 - i = m9 → (i ≤ u ∧ u ≤ 64 ∧ ACC w 27 a b c (64 * g + u) ∧ RST w 27 g u x) → qG none (d + 1) 101 33 [(2, 24), (2, 27), (2, 36), (1, a), (9, 0), (1, b), (9, 0), (1, c), (9, 0), (0, ((g : Nat) : Int)), (1, x), (9, 0), (0, ((i : Nat) : Int)), l13] [] w 142 Q9 := by
          intro m9
          induction m9 using Nat.strongRecOn with
          | ind m9 ih33 =>
          intro i u a b c x l13 hm33 hI33
          obtain ⟨hiu, hu64, hA, hR⟩ := hI33
          refine qG.blk 2 (pc' := 37) (ls' := [(2, 24), (2, 27), (2, 36), (1, a), (9, 0), (1, b), (9, 0), (1, c), (9, 0), (0, ((g : Nat) : Int)), (1, x), (9, 0), (0, ((i : Nat) : Int)), l13]) (st' := [(0, 64), (0, ((i : Nat) : Int))]) (w' := w) (n' := 142) rfl ?_
          refine qG.br (P := ((i : Nat) : Int) < 64) (pc1 := 40) (pc2 := 132) (st1 := []) rfl (fun hi64 => ?_) (fun hi64 => ?_)
          · skip
            refine qG.blk 3 (pc' := 44) (ls' := [(2, 24), (2, 27), (2, 36), (1, a), (9, 0), (1, b), (9, 0), (1, c), (9, 0), (0, ((g : Nat) : Int)), (1, x), (9, 0), (0, ((i : Nat) : Int)), l13]) (st' := [(0, qcmp x 0)]) (w' := w) (n' := 142) rfl ?_
            refine qG.br (P := qcmp x 0 = 0) (pc1 := 132) (pc2 := 47) (st1 := []) rfl (fun hx0 => ?_) (fun hx0 => ?_)
            · skip
              refine qG.blk 1 (pc' := 135) (ls' := [(2, 24), (2, 27), (2, 36), (1, a), (9, 0), (1, b), (9, 0), (1, c), (9, 0), (0, wrp (((g : Nat) : Int) + 1)), (1, x), (9, 0), (0, ((i : Nat) : Int)), l13]) (st' := []) (w' := w) (n' := 142) rfl ?_
              rw [show wrp (((g : Nat) : Int) + 1) = ((g + 1 : Nat) : Int) from wrp_id (by omega) (by omega)]
              refine qG.blk 1 (pc' := 11) (ls' := [(2, 24), (2, 27), (2, 36), (1, a), (9, 0), (1, b), (9, 0), (1, c), (9, 0), (0, ((g + 1 : Nat) : Int)), (1, x), (9, 0), (0, ((i : Nat) : Int)), l13]) (st' := []) (w' := w) (n' := 142) rfl ?_
              exact ih11 _ (by omega) (g + 1) (a) (b) (c) ((1, x)) ((0, ((i : Nat) : Int))) (l13) rfl (⟨by omega, by first | exact RST.end hu64 hA (by have z := qcmp_0.mp hx0; rw [z] at hR; exact hR.e0) | exact RST.end hu64 hA (fun s h1 h2 => absurd h1 (by omega))⟩)
            · skip
              refine qG.blk 4 (pc' := 53) (ls' := [(2, 24), (2, 27), (2, 36), (1, a), (9, 0), (1, b), (9, 0), (1, c), (9, 0), (0, ((g : Nat) : Int)), (1, x), (9, 0), (0, ((i : Nat) : Int)), l13]) (st' := [(0, wrp (64 * ((g : Nat) : Int))), (0, 3)]) (w' := w) (n' := 142) rfl ?_
              rw [show wrp (64 * ((g : Nat) : Int)) = ((64 * g : Nat) : Int) from by rw [wrp_id (by omega) (by omega)]; omega]
              refine qG.blk 1 (pc' := 55) (ls' := [(2, 24), (2, 27), (2, 36), (1, a), (9, 0), (1, b), (9, 0), (1, c), (9, 0), (0, ((g : Nat) : Int)), (1, x), (9, 0), (0, ((i : Nat) : Int)), l13]) (st' := [(1, x), (0, ((64 * g : Nat) : Int)), (0, 3)]) (w' := w) (n' := 142) rfl ?_
              refine qG.call (t := 303) (na := 1) (sk := 0) (md := 0) (ls1 := [(1, x), (9, 0), (9, 0)]) (r1 := [(0, ((64 * g : Nat) : Int)), (0, 3)]) rfl rfl rfl rfl rfl (K_lnt (by omega) x w) ?_
              rintro _ w7 _ ⟨rfl, hw7, rfl⟩
              rw [hw7]
              obtain ⟨s, hs, hb, hl⟩ := lb_ne hR.1 (fun z => hx0 (qcmp_0.mpr z))
              have hst := hR.st hs hb hl
              rw [lnt_low hs hb hl]
              show qG none (d + 1) 101 58 [(2, 24), (2, 27), (2, 36), (1, a), (9, 0), (1, b), (9, 0), (1, c), (9, 0), (0, ((g : Nat) : Int)), (1, x), (9, 0), (0, ((i : Nat) : Int)), l13] [(0, ((s : Nat) : Int)), (0, ((64 * g : Nat) : Int)), (0, 3)] w 142 Q9
              refine qG.blk 1 (pc' := 59) (ls' := [(2, 24), (2, 27), (2, 36), (1, a), (9, 0), (1, b), (9, 0), (1, c), (9, 0), (0, ((g : Nat) : Int)), (1, x), (9, 0), (0, ((i : Nat) : Int)), l13]) (st' := [(0, wrp (((64 * g : Nat) : Int) + ((s : Nat) : Int))), (0, 3)]) (w' := w) (n' := 142) rfl ?_
              rw [show wrp (((64 * g : Nat) : Int) + ((s : Nat) : Int)) = ((64 * g + s : Nat) : Int) from by rw [wrp_id (by omega) (by omega)]; omega]
              refine qG.blk 1 (pc' := 60) (ls' := [(2, 24), (2, 27), (2, 36), (1, a), (9, 0), (1, b), (9, 0), (1, c), (9, 0), (0, ((g : Nat) : Int)), (1, x), (9, 0), (0, ((i : Nat) : Int)), l13]) (st' := [(0, wrp (3 * ((64 * g + s : Nat) : Int)))]) (w' := w) (n' := 142) rfl ?_
              rw [show wrp (3 * ((64 * g + s : Nat) : Int)) = ((3 * (64 * g + s) : Nat) : Int) from by rw [wrp_id (by omega) (by omega)]; omega]
              refine qG.blk 5 (pc' := 68) (ls' := [(2, 24), (2, 27), (2, 36), (1, a), (9, 0), (1, b), (9, 0), (1, c), (9, 0), (0, ((g : Nat) : Int)), (1, x), (9, 0), (0, ((i : Nat) : Int)), (0, ((3 * (64 * g + s) : Nat) : Int))]) (st' := [(1, wrl (x - 1)), (1, x)]) (w' := w) (n' := 142) rfl ?_
              refine qG.blk 3 (pc' := 73) (ls' := [(2, 24), (2, 27), (2, 36), (1, a), (9, 0), (1, b), (9, 0), (1, c), (9, 0), (0, ((g : Nat) : Int)), (1, qland x (wrl (x - 1))), (9, 0), (0, ((i : Nat) : Int)), (0, ((3 * (64 * g + s) : Nat) : Int))]) (st' := [(0, ((3 * (64 * g + s) : Nat) : Int))]) (w' := w) (n' := 142) rfl ?_
              refine qG.br (P := ((3 * (64 * g + s) : Nat) : Int) < 0) (pc1 := 126) (pc2 := 76) (st1 := []) rfl (fun hr0 => ?_) (fun hr0 => ?_)
              · exfalso; omega
              · skip
                refine qG.blk 3 (pc' := 80) (ls' := [(2, 24), (2, 27), (2, 36), (1, a), (9, 0), (1, b), (9, 0), (1, c), (9, 0), (0, ((g : Nat) : Int)), (1, qland x (wrl (x - 1))), (9, 0), (0, ((i : Nat) : Int)), (0, ((3 * (64 * g + s) : Nat) : Int))]) (st' := [(0, wrp (((3 * (64 * g + s) : Nat) : Int) + 2))]) (w' := w) (n' := 142) rfl ?_
                rw [show wrp (((3 * (64 * g + s) : Nat) : Int) + 2) = ((3 * (64 * g + s) + 2 : Nat) : Int) from by rw [wrp_id (by omega) (by omega)]; omega]
                refine qG.blk 2 (pc' := 84) (ls' := [(2, 24), (2, 27), (2, 36), (1, a), (9, 0), (1, b), (9, 0), (1, c), (9, 0), (0, ((g : Nat) : Int)), (1, qland x (wrl (x - 1))), (9, 0), (0, ((i : Nat) : Int)), (0, ((3 * (64 * g + s) : Nat) : Int))]) (st' := [(2, w 24 5), (0, ((3 * (64 * g + s) + 2 : Nat) : Int))]) (w' := w) (n' := 142) rfl ?_
                rw [show w 24 5 = 26 from zref hI rfl rfl]
                refine qG.blk 1 (pc' := 85) (ls' := [(2, 24), (2, 27), (2, 36), (1, a), (9, 0), (1, b), (9, 0), (1, c), (9, 0), (0, ((g : Nat) : Int)), (1, qland x (wrl (x - 1))), (9, 0), (0, ((i : Nat) : Int)), (0, ((3 * (64 * g + s) : Nat) : Int))]) (st' := [(0, 540), (0, ((3 * (64 * g + s) + 2 : Nat) : Int))]) (w' := w) (n' := 142) rfl ?_
                rw [show (540 : Int) = N5 from hN5.symm]
                refine qG.br (P := ((3 * (64 * g + s) + 2 : Nat) : Int) < N5) (pc1 := 88) (pc2 := 126) (st1 := []) rfl (fun h540 => ?_) (fun h540 => ?_)
                · skip
                  refine qG.blk 3 (pc' := 93) (ls' := [(2, 24), (2, 27), (2, 36), (1, a), (9, 0), (1, b), (9, 0), (1, c), (9, 0), (0, ((g : Nat) : Int)), (1, qland x (wrl (x - 1))), (9, 0), (0, ((i : Nat) : Int)), (0, ((3 * (64 * g + s) : Nat) : Int))]) (st' := [(2, w 24 5), (1, a)]) (w' := w) (n' := 142) rfl ?_
                  rw [show w 24 5 = 26 from zref hI rfl rfl]
                  refine qG.blk 1 (pc' := 95) (ls' := [(2, 24), (2, 27), (2, 36), (1, a), (9, 0), (1, b), (9, 0), (1, c), (9, 0), (0, ((g : Nat) : Int)), (1, qland x (wrl (x - 1))), (9, 0), (0, ((i : Nat) : Int)), (0, ((3 * (64 * g + s) : Nat) : Int))]) (st' := [(0, ((3 * (64 * g + s) : Nat) : Int)), (2, 26), (1, a)]) (w' := w) (n' := 142) rfl ?_
                  refine qG.lld (m := 540) rfl rfl (by omega) (by decide) ?_
                  show qG none (d + 1) 101 96 [(2, 24), (2, 27), (2, 36), (1, a), (9, 0), (1, b), (9, 0), (1, c), (9, 0), (0, ((g : Nat) : Int)), (1, qland x (wrl (x - 1))), (9, 0), (0, ((i : Nat) : Int)), (0, ((3 * (64 * g + s) : Nat) : Int))] [(1, w 26 (3 * (64 * g + s))), (1, a)] w 142 Q9
                  refine qG.blk 5 (pc' := 104) (ls' := [(2, 24), (2, 27), (2, 36), (1, qlor a (w 26 (3 * (64 * g + s)))), (9, 0), (1, b), (9, 0), (1, c), (9, 0), (0, ((g : Nat) : Int)), (1, qland x (wrl (x - 1))), (9, 0), (0, ((i : Nat) : Int)), (0, ((3 * (64 * g + s) : Nat) : Int))]) (st' := [(2, w 24 5), (1, b)]) (w' := w) (n' := 142) rfl ?_
                  rw [show w 24 5 = 26 from zref hI rfl rfl]
                  refine qG.blk 3 (pc' := 108) (ls' := [(2, 24), (2, 27), (2, 36), (1, qlor a (w 26 (3 * (64 * g + s)))), (9, 0), (1, b), (9, 0), (1, c), (9, 0), (0, ((g : Nat) : Int)), (1, qland x (wrl (x - 1))), (9, 0), (0, ((i : Nat) : Int)), (0, ((3 * (64 * g + s) : Nat) : Int))]) (st' := [(0, wrp (((3 * (64 * g + s) : Nat) : Int) + 1)), (2, 26), (1, b)]) (w' := w) (n' := 142) rfl ?_
                  rw [show wrp (((3 * (64 * g + s) : Nat) : Int) + 1) = ((3 * (64 * g + s) + 1 : Nat) : Int) from by rw [wrp_id (by omega) (by omega)]; omega]
                  refine qG.lld (m := 540) rfl rfl (by omega) (by decide) ?_
                  show qG none (d + 1) 101 109 [(2, 24), (2, 27), (2, 36), (1, qlor a (w 26 (3 * (64 * g + s)))), (9, 0), (1, b), (9, 0), (1, c), (9, 0), (0, ((g : Nat) : Int)), (1, qland x (wrl (x - 1))), (9, 0), (0, ((i : Nat) : Int)), (0, ((3 * (64 * g + s) : Nat) : Int))] [(1, w 26 (3 * (64 * g + s) + 1)), (1, b)] w 142 Q9
                  refine qG.blk 5 (pc' := 118) (ls' := [(2, 24), (2, 27), (2, 36), (1, qlor a (w 26 (3 * (64 * g + s)))), (9, 0), (1, qlor b (w 26 (3 * (64 * g + s) + 1))), (9, 0), (1, c), (9, 0), (0, ((g : Nat) : Int)), (1, qland x (wrl (x - 1))), (9, 0), (0, ((i : Nat) : Int)), (0, ((3 * (64 * g + s) : Nat) : Int))]) (st' := [(2, w 24 5), (1, c)]) (w' := w) (n' := 142) rfl ?_
                  rw [show w 24 5 = 26 from zref hI rfl rfl]
                  refine qG.blk 3 (pc' := 122) (ls' := [(2, 24), (2, 27), (2, 36), (1, qlor a (w 26 (3 * (64 * g + s)))), (9, 0), (1, qlor b (w 26 (3 * (64 * g + s) + 1))), (9, 0), (1, c), (9, 0), (0, ((g : Nat) : Int)), (1, qland x (wrl (x - 1))), (9, 0), (0, ((i : Nat) : Int)), (0, ((3 * (64 * g + s) : Nat) : Int))]) (st' := [(0, wrp (((3 * (64 * g + s) : Nat) : Int) + 2)), (2, 26), (1, c)]) (w' := w) (n' := 142) rfl ?_
                  rw [show wrp (((3 * (64 * g + s) : Nat) : Int) + 2) = ((3 * (64 * g + s) + 2 : Nat) : Int) from by rw [wrp_id (by omega) (by omega)]; omega]
                  refine qG.lld (m := 540) rfl rfl (by omega) (by decide) ?_
                  show qG none (d + 1) 101 123 [(2, 24), (2, 27), (2, 36), (1, qlor a (w 26 (3 * (64 * g + s)))), (9, 0), (1, qlor b (w 26 (3 * (64 * g + s) + 1))), (9, 0), (1, c), (9, 0), (0, ((g : Nat) : Int)), (1, qland x (wrl (x - 1))), (9, 0), (0, ((i : Nat) : Int)), (0, ((3 * (64 * g + s) : Nat) : Int))] [(1, w 26 (3 * (64 * g + s) + 2)), (1, c)] w 142 Q9
                  refine qG.blk 3 (pc' := 129) (ls' := [(2, 24), (2, 27), (2, 36), (1, qlor a (w 26 (3 * (64 * g + s)))), (9, 0), (1, qlor b (w 26 (3 * (64 * g + s) + 1))), (9, 0), (1, qlor c (w 26 (3 * (64 * g + s) + 2))), (9, 0), (0, ((g : Nat) : Int)), (1, qland x (wrl (x - 1))), (9, 0), (0, wrp (((i : Nat) : Int) + 1)), (0, ((3 * (64 * g + s) : Nat) : Int))]) (st' := []) (w' := w) (n' := 142) rfl ?_
                  rw [show wrp (((i : Nat) : Int) + 1) = ((i + 1 : Nat) : Int) from wrp_id (by omega) (by omega)]
                  refine qG.blk 1 (pc' := 33) (ls' := [(2, 24), (2, 27), (2, 36), (1, qlor a (w 26 (3 * (64 * g + s)))), (9, 0), (1, qlor b (w 26 (3 * (64 * g + s) + 1))), (9, 0), (1, qlor c (w 26 (3 * (64 * g + s) + 2))), (9, 0), (0, ((g : Nat) : Int)), (1, qland x (wrl (x - 1))), (9, 0), (0, ((i + 1 : Nat) : Int)), (0, ((3 * (64 * g + s) : Nat) : Int))]) (st' := []) (w' := w) (n' := 142) rfl ?_
                  exact ih33 _ (by omega) (i + 1) (s + 1) (qlor a (w 26 (3 * (64 * g + s)))) (qlor b (w 26 (3 * (64 * g + s) + 1))) (qlor c (w 26 (3 * (64 * g + s) + 2))) (qland x (wrl (x - 1))) ((0, ((3 * (64 * g + s) : Nat) : Int))) rfl (⟨by omega, by omega, (RST.acc hA hst.1.1 hs hst.2.1).up (by rw [sb_g hs]; exact hst.1.2) (by omega), hst.2.2⟩)
                · skip
                  refine qG.blk 1 (pc' := 129) (ls' := [(2, 24), (2, 27), (2, 36), (1, a), (9, 0), (1, b), (9, 0), (1, c), (9, 0), (0, ((g : Nat) : Int)), (1, qland x (wrl (x - 1))), (9, 0), (0, wrp (((i : Nat) : Int) + 1)), (0, ((3 * (64 * g + s) : Nat) : Int))]) (st' := []) (w' := w) (n' := 142) rfl ?_
                  rw [show wrp (((i : Nat) : Int) + 1) = ((i + 1 : Nat) : Int) from wrp_id (by omega) (by omega)]
                  refine qG.blk 1 (pc' := 33) (ls' := [(2, 24), (2, 27), (2, 36), (1, a), (9, 0), (1, b), (9, 0), (1, c), (9, 0), (0, ((g : Nat) : Int)), (1, qland x (wrl (x - 1))), (9, 0), (0, ((i + 1 : Nat) : Int)), (0, ((3 * (64 * g + s) : Nat) : Int))]) (st' := []) (w' := w) (n' := 142) rfl ?_
                  exact ih33 _ (by omega) (i + 1) (s + 1) (a) (b) (c) (qland x (wrl (x - 1))) ((0, ((3 * (64 * g + s) : Nat) : Int))) rfl (⟨by omega, by omega, (RST.acc hA hst.1.1 hs hst.2.1).no (by omega), hst.2.2⟩)
          · skip
            refine qG.blk 1 (pc' := 135) (ls' := [(2, 24), (2, 27), (2, 36), (1, a), (9, 0), (1, b), (9, 0), (1, c), (9, 0), (0, wrp (((g : Nat) : Int) + 1)), (1, x), (9, 0), (0, ((i : Nat) : Int)), l13]) (st' := []) (w' := w) (n' := 142) rfl ?_
            rw [show wrp (((g : Nat) : Int) + 1) = ((g + 1 : Nat) : Int) from wrp_id (by omega) (by omega)]
            refine qG.blk 1 (pc' := 11) (ls' := [(2, 24), (2, 27), (2, 36), (1, a), (9, 0), (1, b), (9, 0), (1, c), (9, 0), (0, ((g + 1 : Nat) : Int)), (1, x), (9, 0), (0, ((i : Nat) : Int)), l13]) (st' := []) (w' := w) (n' := 142) rfl ?_
            exact ih11 _ (by omega) (g + 1) (a) (b) (c) ((1, x)) ((0, ((i : Nat) : Int))) (l13) rfl (⟨by omega, by first | exact RST.end hu64 hA (by have z := qcmp_0.mp hx0; rw [z] at hR; exact hR.e0) | exact RST.end hu64 hA (fun s h1 h2 => absurd h1 (by omega))⟩)
        exact L33 _ (0) (0) (a) (b) (c) (w 27 g) (l13) rfl (⟨Nat.le_refl _, Nat.zero_le _, hG, RST.z (by unfold LROW; omega) hI⟩)
      · exfalso; omega
    · skip
      refine qG.blk 4 (pc' := 144) (ls' := [(2, 24), (2, 27), (2, 36), (1, a), (9, 0), (1, b), (9, 0), (1, c), (9, 0), (0, ((g : Nat) : Int)), l10, (9, 0), l12, l13]) (st' := [(1, c), (1, b), (1, a), (2, 36)]) (w' := w) (n' := 142) rfl ?_
      refine qG.call (t := 105) (na := 4) (sk := 0) (md := 0) (ls1 := [(2, 36), (1, a), (9, 0), (1, b), (9, 0), (1, c), (9, 0)]) (r1 := []) rfl rfl rfl rfl rfl (K_putRow36 (Nat.zero_le _) a b c w) ?_
      rintro _ w0 _ ⟨rfl, hw0, rfl⟩
      have hG2 : ACC w 27 a b c 192 := by rw [show 192 = 64 * g by omega]; exact hG
      have hRW : RW 36 (fun j => spF w 27 j 192) w w0 := by rw [hw0]; exact RW.p (by unfold LROW; omega) hI hG2.1.1 hG2.1.2.1 hG2.1.2.2 hG2.2.1 hG2.2.2.1 hG2.2.2.2
      show qG none (d + 1) 101 147 [(2, 24), (2, 27), (2, 36), (1, a), (9, 0), (1, b), (9, 0), (1, c), (9, 0), (0, ((g : Nat) : Int)), l10, (9, 0), l12, l13] [] w0 142 Q9
      refine qG.retv rfl rfl ?_
      subst hQ9
      exact ⟨rfl, rfl, hRW⟩
  exact L11 _ (0) (0) (0) (0) ((9, 0)) ((9, 0)) ((9, 0)) rfl (⟨Nat.zero_le _, ACC.z⟩)
theorem K_spread27_37 {d : Nat} (hd : 2 ≤ d) (w : qW) (hI : yInv zgf zga zra zSp w) : qG none d 101 0 [(2, 24), (2, 27), (2, 37), (9, 0), (9, 0), (9, 0), (9, 0), (9, 0), (9, 0), (9, 0), (9, 0), (9, 0), (9, 0), (9, 0)] [] w 142 (fun (r : qV) (w1 : qW) (n1 : Nat) => r = (9, 0) ∧ n1 = 142 ∧ RW 37 (fun j => spF w 27 j 192) w w1) := by
  generalize hQ9 : (fun (r : qV) (w1 : qW) (n1 : Nat) => r = (9, 0) ∧ n1 = 142 ∧ RW 37 (fun j => spF w 27 j 192) w w1) = Q9
  obtain ⟨N5, hN5⟩ : ∃ N : Int, N = 540 := ⟨_, rfl⟩
  obtain ⟨d, rfl⟩ : ∃ d9, d = d9 + 1 := ⟨d - 1, by omega⟩
  refine qG.blk 8 (pc' := 11) (ls' := [(2, 24), (2, 27), (2, 37), (1, 0), (9, 0), (1, 0), (9, 0), (1, 0), (9, 0), (0, 0), (9, 0), (9, 0), (9, 0), (9, 0)]) (st' := []) (w' := w) (n' := 142) rfl ?_
  have L11 : ∀ (m9 : Nat) (g : Nat) (a b c : Int) (l10 l12 l13 : qV), 3 - g = m9 → (g ≤ 3 ∧ ACC w 27 a b c (64 * g)) → qG none (d + 1) 101 11 [(2, 24), (2, 27), (2, 37), (1, a), (9, 0), (1, b), (9, 0), (1, c), (9, 0), (0, ((g : Nat) : Int)), l10, (9, 0), l12, l13] [] w 142 Q9 := by
    intro m9
    induction m9 using Nat.strongRecOn with
    | ind m9 ih11 =>
    intro g a b c l10 l12 l13 hm11 hI11
    obtain ⟨hg3, hG⟩ := hI11
    refine qG.blk 2 (pc' := 14) (ls' := [(2, 24), (2, 27), (2, 37), (1, a), (9, 0), (1, b), (9, 0), (1, c), (9, 0), (0, ((g : Nat) : Int)), l10, (9, 0), l12, l13]) (st' := [(0, 3), (0, ((g : Nat) : Int))]) (w' := w) (n' := 142) rfl ?_
    refine qG.br (P := ((g : Nat) : Int) < 3) (pc1 := 17) (pc2 := 138) (st1 := []) rfl (fun hg => ?_) (fun hg => ?_)
    · skip
      refine qG.blk 3 (pc' := 21) (ls' := [(2, 24), (2, 27), (2, 37), (1, a), (9, 0), (1, b), (9, 0), (1, c), (9, 0), (0, ((g : Nat) : Int)), l10, (9, 0), l12, l13]) (st' := [(0, 3), (0, ((g : Nat) : Int))]) (w' := w) (n' := 142) rfl ?_
      refine qG.br (P := ((g : Nat) : Int) < 3) (pc1 := 24) (pc2 := 138) (st1 := []) rfl (fun hgl => ?_) (fun hgl => ?_)
      · skip
        refine qG.blk 2 (pc' := 27) (ls' := [(2, 24), (2, 27), (2, 37), (1, a), (9, 0), (1, b), (9, 0), (1, c), (9, 0), (0, ((g : Nat) : Int)), l10, (9, 0), l12, l13]) (st' := [(0, ((g : Nat) : Int)), (2, 27)]) (w' := w) (n' := 142) rfl ?_
        refine qG.ar (P := 0 ≤ ((g : Nat) : Int) ∧ ((g : Nat) : Int) < ((3 : Nat) : Int)) (P2 := 0 < (27 : Int) ∧ (27 : Int) ≤ ((142 : Nat) : Int)) (pc' := 28) (ls' := [(2, 24), (2, 27), (2, 37), (1, a), (9, 0), (1, b), (9, 0), (1, c), (9, 0), (0, ((g : Nat) : Int)), l10, (9, 0), l12, l13]) (st' := [(1, w 27 g)]) (w' := w) (n' := 142) rfl (by omega) (by decide) ?_
        refine qG.blk 3 (pc' := 33) (ls' := [(2, 24), (2, 27), (2, 37), (1, a), (9, 0), (1, b), (9, 0), (1, c), (9, 0), (0, ((g : Nat) : Int)), (1, w 27 g), (9, 0), (0, 0), l13]) (st' := []) (w' := w) (n' := 142) rfl ?_
        have L33 : ∀ (m9 : Nat) (i u : Nat) (a b c x : Int) (l13 : qV), 64 - i = m9 → (i ≤ u ∧ u ≤ 64 ∧ ACC w 27 a b c (64 * g + u) ∧ RST w 27 g u x) → qG none (d + 1) 101 33 [(2, 24), (2, 27), (2, 37), (1, a), (9, 0), (1, b), (9, 0), (1, c), (9, 0), (0, ((g : Nat) : Int)), (1, x), (9, 0), (0, ((i : Nat) : Int)), l13] [] w 142 Q9 := by
          intro m9
          induction m9 using Nat.strongRecOn with
          | ind m9 ih33 =>
          intro i u a b c x l13 hm33 hI33
          obtain ⟨hiu, hu64, hA, hR⟩ := hI33
          refine qG.blk 2 (pc' := 37) (ls' := [(2, 24), (2, 27), (2, 37), (1, a), (9, 0), (1, b), (9, 0), (1, c), (9, 0), (0, ((g : Nat) : Int)), (1, x), (9, 0), (0, ((i : Nat) : Int)), l13]) (st' := [(0, 64), (0, ((i : Nat) : Int))]) (w' := w) (n' := 142) rfl ?_
          refine qG.br (P := ((i : Nat) : Int) < 64) (pc1 := 40) (pc2 := 132) (st1 := []) rfl (fun hi64 => ?_) (fun hi64 => ?_)
          · skip
            refine qG.blk 3 (pc' := 44) (ls' := [(2, 24), (2, 27), (2, 37), (1, a), (9, 0), (1, b), (9, 0), (1, c), (9, 0), (0, ((g : Nat) : Int)), (1, x), (9, 0), (0, ((i : Nat) : Int)), l13]) (st' := [(0, qcmp x 0)]) (w' := w) (n' := 142) rfl ?_
            refine qG.br (P := qcmp x 0 = 0) (pc1 := 132) (pc2 := 47) (st1 := []) rfl (fun hx0 => ?_) (fun hx0 => ?_)
            · skip
              refine qG.blk 1 (pc' := 135) (ls' := [(2, 24), (2, 27), (2, 37), (1, a), (9, 0), (1, b), (9, 0), (1, c), (9, 0), (0, wrp (((g : Nat) : Int) + 1)), (1, x), (9, 0), (0, ((i : Nat) : Int)), l13]) (st' := []) (w' := w) (n' := 142) rfl ?_
              rw [show wrp (((g : Nat) : Int) + 1) = ((g + 1 : Nat) : Int) from wrp_id (by omega) (by omega)]
              refine qG.blk 1 (pc' := 11) (ls' := [(2, 24), (2, 27), (2, 37), (1, a), (9, 0), (1, b), (9, 0), (1, c), (9, 0), (0, ((g + 1 : Nat) : Int)), (1, x), (9, 0), (0, ((i : Nat) : Int)), l13]) (st' := []) (w' := w) (n' := 142) rfl ?_
              exact ih11 _ (by omega) (g + 1) (a) (b) (c) ((1, x)) ((0, ((i : Nat) : Int))) (l13) rfl (⟨by omega, by first | exact RST.end hu64 hA (by have z := qcmp_0.mp hx0; rw [z] at hR; exact hR.e0) | exact RST.end hu64 hA (fun s h1 h2 => absurd h1 (by omega))⟩)
            · skip
              refine qG.blk 4 (pc' := 53) (ls' := [(2, 24), (2, 27), (2, 37), (1, a), (9, 0), (1, b), (9, 0), (1, c), (9, 0), (0, ((g : Nat) : Int)), (1, x), (9, 0), (0, ((i : Nat) : Int)), l13]) (st' := [(0, wrp (64 * ((g : Nat) : Int))), (0, 3)]) (w' := w) (n' := 142) rfl ?_
              rw [show wrp (64 * ((g : Nat) : Int)) = ((64 * g : Nat) : Int) from by rw [wrp_id (by omega) (by omega)]; omega]
              refine qG.blk 1 (pc' := 55) (ls' := [(2, 24), (2, 27), (2, 37), (1, a), (9, 0), (1, b), (9, 0), (1, c), (9, 0), (0, ((g : Nat) : Int)), (1, x), (9, 0), (0, ((i : Nat) : Int)), l13]) (st' := [(1, x), (0, ((64 * g : Nat) : Int)), (0, 3)]) (w' := w) (n' := 142) rfl ?_
              refine qG.call (t := 303) (na := 1) (sk := 0) (md := 0) (ls1 := [(1, x), (9, 0), (9, 0)]) (r1 := [(0, ((64 * g : Nat) : Int)), (0, 3)]) rfl rfl rfl rfl rfl (K_lnt (by omega) x w) ?_
              rintro _ w7 _ ⟨rfl, hw7, rfl⟩
              rw [hw7]
              obtain ⟨s, hs, hb, hl⟩ := lb_ne hR.1 (fun z => hx0 (qcmp_0.mpr z))
              have hst := hR.st hs hb hl
              rw [lnt_low hs hb hl]
              show qG none (d + 1) 101 58 [(2, 24), (2, 27), (2, 37), (1, a), (9, 0), (1, b), (9, 0), (1, c), (9, 0), (0, ((g : Nat) : Int)), (1, x), (9, 0), (0, ((i : Nat) : Int)), l13] [(0, ((s : Nat) : Int)), (0, ((64 * g : Nat) : Int)), (0, 3)] w 142 Q9
              refine qG.blk 1 (pc' := 59) (ls' := [(2, 24), (2, 27), (2, 37), (1, a), (9, 0), (1, b), (9, 0), (1, c), (9, 0), (0, ((g : Nat) : Int)), (1, x), (9, 0), (0, ((i : Nat) : Int)), l13]) (st' := [(0, wrp (((64 * g : Nat) : Int) + ((s : Nat) : Int))), (0, 3)]) (w' := w) (n' := 142) rfl ?_
              rw [show wrp (((64 * g : Nat) : Int) + ((s : Nat) : Int)) = ((64 * g + s : Nat) : Int) from by rw [wrp_id (by omega) (by omega)]; omega]
              refine qG.blk 1 (pc' := 60) (ls' := [(2, 24), (2, 27), (2, 37), (1, a), (9, 0), (1, b), (9, 0), (1, c), (9, 0), (0, ((g : Nat) : Int)), (1, x), (9, 0), (0, ((i : Nat) : Int)), l13]) (st' := [(0, wrp (3 * ((64 * g + s : Nat) : Int)))]) (w' := w) (n' := 142) rfl ?_
              rw [show wrp (3 * ((64 * g + s : Nat) : Int)) = ((3 * (64 * g + s) : Nat) : Int) from by rw [wrp_id (by omega) (by omega)]; omega]
              refine qG.blk 5 (pc' := 68) (ls' := [(2, 24), (2, 27), (2, 37), (1, a), (9, 0), (1, b), (9, 0), (1, c), (9, 0), (0, ((g : Nat) : Int)), (1, x), (9, 0), (0, ((i : Nat) : Int)), (0, ((3 * (64 * g + s) : Nat) : Int))]) (st' := [(1, wrl (x - 1)), (1, x)]) (w' := w) (n' := 142) rfl ?_
              refine qG.blk 3 (pc' := 73) (ls' := [(2, 24), (2, 27), (2, 37), (1, a), (9, 0), (1, b), (9, 0), (1, c), (9, 0), (0, ((g : Nat) : Int)), (1, qland x (wrl (x - 1))), (9, 0), (0, ((i : Nat) : Int)), (0, ((3 * (64 * g + s) : Nat) : Int))]) (st' := [(0, ((3 * (64 * g + s) : Nat) : Int))]) (w' := w) (n' := 142) rfl ?_
              refine qG.br (P := ((3 * (64 * g + s) : Nat) : Int) < 0) (pc1 := 126) (pc2 := 76) (st1 := []) rfl (fun hr0 => ?_) (fun hr0 => ?_)
              · exfalso; omega
              · skip
                refine qG.blk 3 (pc' := 80) (ls' := [(2, 24), (2, 27), (2, 37), (1, a), (9, 0), (1, b), (9, 0), (1, c), (9, 0), (0, ((g : Nat) : Int)), (1, qland x (wrl (x - 1))), (9, 0), (0, ((i : Nat) : Int)), (0, ((3 * (64 * g + s) : Nat) : Int))]) (st' := [(0, wrp (((3 * (64 * g + s) : Nat) : Int) + 2))]) (w' := w) (n' := 142) rfl ?_
                rw [show wrp (((3 * (64 * g + s) : Nat) : Int) + 2) = ((3 * (64 * g + s) + 2 : Nat) : Int) from by rw [wrp_id (by omega) (by omega)]; omega]
                refine qG.blk 2 (pc' := 84) (ls' := [(2, 24), (2, 27), (2, 37), (1, a), (9, 0), (1, b), (9, 0), (1, c), (9, 0), (0, ((g : Nat) : Int)), (1, qland x (wrl (x - 1))), (9, 0), (0, ((i : Nat) : Int)), (0, ((3 * (64 * g + s) : Nat) : Int))]) (st' := [(2, w 24 5), (0, ((3 * (64 * g + s) + 2 : Nat) : Int))]) (w' := w) (n' := 142) rfl ?_
                rw [show w 24 5 = 26 from zref hI rfl rfl]
                refine qG.blk 1 (pc' := 85) (ls' := [(2, 24), (2, 27), (2, 37), (1, a), (9, 0), (1, b), (9, 0), (1, c), (9, 0), (0, ((g : Nat) : Int)), (1, qland x (wrl (x - 1))), (9, 0), (0, ((i : Nat) : Int)), (0, ((3 * (64 * g + s) : Nat) : Int))]) (st' := [(0, 540), (0, ((3 * (64 * g + s) + 2 : Nat) : Int))]) (w' := w) (n' := 142) rfl ?_
                rw [show (540 : Int) = N5 from hN5.symm]
                refine qG.br (P := ((3 * (64 * g + s) + 2 : Nat) : Int) < N5) (pc1 := 88) (pc2 := 126) (st1 := []) rfl (fun h540 => ?_) (fun h540 => ?_)
                · skip
                  refine qG.blk 3 (pc' := 93) (ls' := [(2, 24), (2, 27), (2, 37), (1, a), (9, 0), (1, b), (9, 0), (1, c), (9, 0), (0, ((g : Nat) : Int)), (1, qland x (wrl (x - 1))), (9, 0), (0, ((i : Nat) : Int)), (0, ((3 * (64 * g + s) : Nat) : Int))]) (st' := [(2, w 24 5), (1, a)]) (w' := w) (n' := 142) rfl ?_
                  rw [show w 24 5 = 26 from zref hI rfl rfl]
                  refine qG.blk 1 (pc' := 95) (ls' := [(2, 24), (2, 27), (2, 37), (1, a), (9, 0), (1, b), (9, 0), (1, c), (9, 0), (0, ((g : Nat) : Int)), (1, qland x (wrl (x - 1))), (9, 0), (0, ((i : Nat) : Int)), (0, ((3 * (64 * g + s) : Nat) : Int))]) (st' := [(0, ((3 * (64 * g + s) : Nat) : Int)), (2, 26), (1, a)]) (w' := w) (n' := 142) rfl ?_
                  refine qG.lld (m := 540) rfl rfl (by omega) (by decide) ?_
                  show qG none (d + 1) 101 96 [(2, 24), (2, 27), (2, 37), (1, a), (9, 0), (1, b), (9, 0), (1, c), (9, 0), (0, ((g : Nat) : Int)), (1, qland x (wrl (x - 1))), (9, 0), (0, ((i : Nat) : Int)), (0, ((3 * (64 * g + s) : Nat) : Int))] [(1, w 26 (3 * (64 * g + s))), (1, a)] w 142 Q9
                  refine qG.blk 5 (pc' := 104) (ls' := [(2, 24), (2, 27), (2, 37), (1, qlor a (w 26 (3 * (64 * g + s)))), (9, 0), (1, b), (9, 0), (1, c), (9, 0), (0, ((g : Nat) : Int)), (1, qland x (wrl (x - 1))), (9, 0), (0, ((i : Nat) : Int)), (0, ((3 * (64 * g + s) : Nat) : Int))]) (st' := [(2, w 24 5), (1, b)]) (w' := w) (n' := 142) rfl ?_
                  rw [show w 24 5 = 26 from zref hI rfl rfl]
                  refine qG.blk 3 (pc' := 108) (ls' := [(2, 24), (2, 27), (2, 37), (1, qlor a (w 26 (3 * (64 * g + s)))), (9, 0), (1, b), (9, 0), (1, c), (9, 0), (0, ((g : Nat) : Int)), (1, qland x (wrl (x - 1))), (9, 0), (0, ((i : Nat) : Int)), (0, ((3 * (64 * g + s) : Nat) : Int))]) (st' := [(0, wrp (((3 * (64 * g + s) : Nat) : Int) + 1)), (2, 26), (1, b)]) (w' := w) (n' := 142) rfl ?_
                  rw [show wrp (((3 * (64 * g + s) : Nat) : Int) + 1) = ((3 * (64 * g + s) + 1 : Nat) : Int) from by rw [wrp_id (by omega) (by omega)]; omega]
                  refine qG.lld (m := 540) rfl rfl (by omega) (by decide) ?_
                  show qG none (d + 1) 101 109 [(2, 24), (2, 27), (2, 37), (1, qlor a (w 26 (3 * (64 * g + s)))), (9, 0), (1, b), (9, 0), (1, c), (9, 0), (0, ((g : Nat) : Int)), (1, qland x (wrl (x - 1))), (9, 0), (0, ((i : Nat) : Int)), (0, ((3 * (64 * g + s) : Nat) : Int))] [(1, w 26 (3 * (64 * g + s) + 1)), (1, b)] w 142 Q9
                  refine qG.blk 5 (pc' := 118) (ls' := [(2, 24), (2, 27), (2, 37), (1, qlor a (w 26 (3 * (64 * g + s)))), (9, 0), (1, qlor b (w 26 (3 * (64 * g + s) + 1))), (9, 0), (1, c), (9, 0), (0, ((g : Nat) : Int)), (1, qland x (wrl (x - 1))), (9, 0), (0, ((i : Nat) : Int)), (0, ((3 * (64 * g + s) : Nat) : Int))]) (st' := [(2, w 24 5), (1, c)]) (w' := w) (n' := 142) rfl ?_
                  rw [show w 24 5 = 26 from zref hI rfl rfl]
                  refine qG.blk 3 (pc' := 122) (ls' := [(2, 24), (2, 27), (2, 37), (1, qlor a (w 26 (3 * (64 * g + s)))), (9, 0), (1, qlor b (w 26 (3 * (64 * g + s) + 1))), (9, 0), (1, c), (9, 0), (0, ((g : Nat) : Int)), (1, qland x (wrl (x - 1))), (9, 0), (0, ((i : Nat) : Int)), (0, ((3 * (64 * g + s) : Nat) : Int))]) (st' := [(0, wrp (((3 * (64 * g + s) : Nat) : Int) + 2)), (2, 26), (1, c)]) (w' := w) (n' := 142) rfl ?_
                  rw [show wrp (((3 * (64 * g + s) : Nat) : Int) + 2) = ((3 * (64 * g + s) + 2 : Nat) : Int) from by rw [wrp_id (by omega) (by omega)]; omega]
                  refine qG.lld (m := 540) rfl rfl (by omega) (by decide) ?_
                  show qG none (d + 1) 101 123 [(2, 24), (2, 27), (2, 37), (1, qlor a (w 26 (3 * (64 * g + s)))), (9, 0), (1, qlor b (w 26 (3 * (64 * g + s) + 1))), (9, 0), (1, c), (9, 0), (0, ((g : Nat) : Int)), (1, qland x (wrl (x - 1))), (9, 0), (0, ((i : Nat) : Int)), (0, ((3 * (64 * g + s) : Nat) : Int))] [(1, w 26 (3 * (64 * g + s) + 2)), (1, c)] w 142 Q9
                  refine qG.blk 3 (pc' := 129) (ls' := [(2, 24), (2, 27), (2, 37), (1, qlor a (w 26 (3 * (64 * g + s)))), (9, 0), (1, qlor b (w 26 (3 * (64 * g + s) + 1))), (9, 0), (1, qlor c (w 26 (3 * (64 * g + s) + 2))), (9, 0), (0, ((g : Nat) : Int)), (1, qland x (wrl (x - 1))), (9, 0), (0, wrp (((i : Nat) : Int) + 1)), (0, ((3 * (64 * g + s) : Nat) : Int))]) (st' := []) (w' := w) (n' := 142) rfl ?_
                  rw [show wrp (((i : Nat) : Int) + 1) = ((i + 1 : Nat) : Int) from wrp_id (by omega) (by omega)]
                  refine qG.blk 1 (pc' := 33) (ls' := [(2, 24), (2, 27), (2, 37), (1, qlor a (w 26 (3 * (64 * g + s)))), (9, 0), (1, qlor b (w 26 (3 * (64 * g + s) + 1))), (9, 0), (1, qlor c (w 26 (3 * (64 * g + s) + 2))), (9, 0), (0, ((g : Nat) : Int)), (1, qland x (wrl (x - 1))), (9, 0), (0, ((i + 1 : Nat) : Int)), (0, ((3 * (64 * g + s) : Nat) : Int))]) (st' := []) (w' := w) (n' := 142) rfl ?_
                  exact ih33 _ (by omega) (i + 1) (s + 1) (qlor a (w 26 (3 * (64 * g + s)))) (qlor b (w 26 (3 * (64 * g + s) + 1))) (qlor c (w 26 (3 * (64 * g + s) + 2))) (qland x (wrl (x - 1))) ((0, ((3 * (64 * g + s) : Nat) : Int))) rfl (⟨by omega, by omega, (RST.acc hA hst.1.1 hs hst.2.1).up (by rw [sb_g hs]; exact hst.1.2) (by omega), hst.2.2⟩)
                · skip
                  refine qG.blk 1 (pc' := 129) (ls' := [(2, 24), (2, 27), (2, 37), (1, a), (9, 0), (1, b), (9, 0), (1, c), (9, 0), (0, ((g : Nat) : Int)), (1, qland x (wrl (x - 1))), (9, 0), (0, wrp (((i : Nat) : Int) + 1)), (0, ((3 * (64 * g + s) : Nat) : Int))]) (st' := []) (w' := w) (n' := 142) rfl ?_
                  rw [show wrp (((i : Nat) : Int) + 1) = ((i + 1 : Nat) : Int) from wrp_id (by omega) (by omega)]
                  refine qG.blk 1 (pc' := 33) (ls' := [(2, 24), (2, 27), (2, 37), (1, a), (9, 0), (1, b), (9, 0), (1, c), (9, 0), (0, ((g : Nat) : Int)), (1, qland x (wrl (x - 1))), (9, 0), (0, ((i + 1 : Nat) : Int)), (0, ((3 * (64 * g + s) : Nat) : Int))]) (st' := []) (w' := w) (n' := 142) rfl ?_
                  exact ih33 _ (by omega) (i + 1) (s + 1) (a) (b) (c) (qland x (wrl (x - 1))) ((0, ((3 * (64 * g + s) : Nat) : Int))) rfl (⟨by omega, by omega, (RST.acc hA hst.1.1 hs hst.2.1).no (by omega), hst.2.2⟩)
          · skip
            refine qG.blk 1 (pc' := 135) (ls' := [(2, 24), (2, 27), (2, 37), (1, a), (9, 0), (1, b), (9, 0), (1, c), (9, 0), (0, wrp (((g : Nat) : Int) + 1)), (1, x), (9, 0), (0, ((i : Nat) : Int)), l13]) (st' := []) (w' := w) (n' := 142) rfl ?_
            rw [show wrp (((g : Nat) : Int) + 1) = ((g + 1 : Nat) : Int) from wrp_id (by omega) (by omega)]
            refine qG.blk 1 (pc' := 11) (ls' := [(2, 24), (2, 27), (2, 37), (1, a), (9, 0), (1, b), (9, 0), (1, c), (9, 0), (0, ((g + 1 : Nat) : Int)), (1, x), (9, 0), (0, ((i : Nat) : Int)), l13]) (st' := []) (w' := w) (n' := 142) rfl ?_
            exact ih11 _ (by omega) (g + 1) (a) (b) (c) ((1, x)) ((0, ((i : Nat) : Int))) (l13) rfl (⟨by omega, by first | exact RST.end hu64 hA (by have z := qcmp_0.mp hx0; rw [z] at hR; exact hR.e0) | exact RST.end hu64 hA (fun s h1 h2 => absurd h1 (by omega))⟩)
        exact L33 _ (0) (0) (a) (b) (c) (w 27 g) (l13) rfl (⟨Nat.le_refl _, Nat.zero_le _, hG, RST.z (by unfold LROW; omega) hI⟩)
      · exfalso; omega
    · skip
      refine qG.blk 4 (pc' := 144) (ls' := [(2, 24), (2, 27), (2, 37), (1, a), (9, 0), (1, b), (9, 0), (1, c), (9, 0), (0, ((g : Nat) : Int)), l10, (9, 0), l12, l13]) (st' := [(1, c), (1, b), (1, a), (2, 37)]) (w' := w) (n' := 142) rfl ?_
      refine qG.call (t := 105) (na := 4) (sk := 0) (md := 0) (ls1 := [(2, 37), (1, a), (9, 0), (1, b), (9, 0), (1, c), (9, 0)]) (r1 := []) rfl rfl rfl rfl rfl (K_putRow37 (Nat.zero_le _) a b c w) ?_
      rintro _ w0 _ ⟨rfl, hw0, rfl⟩
      have hG2 : ACC w 27 a b c 192 := by rw [show 192 = 64 * g by omega]; exact hG
      have hRW : RW 37 (fun j => spF w 27 j 192) w w0 := by rw [hw0]; exact RW.p (by unfold LROW; omega) hI hG2.1.1 hG2.1.2.1 hG2.1.2.2 hG2.2.1 hG2.2.2.1 hG2.2.2.2
      show qG none (d + 1) 101 147 [(2, 24), (2, 27), (2, 37), (1, a), (9, 0), (1, b), (9, 0), (1, c), (9, 0), (0, ((g : Nat) : Int)), l10, (9, 0), l12, l13] [] w0 142 Q9
      refine qG.retv rfl rfl ?_
      subst hQ9
      exact ⟨rfl, rfl, hRW⟩
  exact L11 _ (0) (0) (0) (0) ((9, 0)) ((9, 0)) ((9, 0)) rfl (⟨Nat.zero_le _, ACC.z⟩)
theorem K_spread27_38 {d : Nat} (hd : 2 ≤ d) (w : qW) (hI : yInv zgf zga zra zSp w) : qG none d 101 0 [(2, 24), (2, 27), (2, 38), (9, 0), (9, 0), (9, 0), (9, 0), (9, 0), (9, 0), (9, 0), (9, 0), (9, 0), (9, 0), (9, 0)] [] w 142 (fun (r : qV) (w1 : qW) (n1 : Nat) => r = (9, 0) ∧ n1 = 142 ∧ RW 38 (fun j => spF w 27 j 192) w w1) := by
  generalize hQ9 : (fun (r : qV) (w1 : qW) (n1 : Nat) => r = (9, 0) ∧ n1 = 142 ∧ RW 38 (fun j => spF w 27 j 192) w w1) = Q9
  obtain ⟨N5, hN5⟩ : ∃ N : Int, N = 540 := ⟨_, rfl⟩
  obtain ⟨d, rfl⟩ : ∃ d9, d = d9 + 1 := ⟨d - 1, by omega⟩
  refine qG.blk 8 (pc' := 11) (ls' := [(2, 24), (2, 27), (2, 38), (1, 0), (9, 0), (1, 0), (9, 0), (1, 0), (9, 0), (0, 0), (9, 0), (9, 0), (9, 0), (9, 0)]) (st' := []) (w' := w) (n' := 142) rfl ?_
  have L11 : ∀ (m9 : Nat) (g : Nat) (a b c : Int) (l10 l12 l13 : qV), 3 - g = m9 → (g ≤ 3 ∧ ACC w 27 a b c (64 * g)) → qG none (d + 1) 101 11 [(2, 24), (2, 27), (2, 38), (1, a), (9, 0), (1, b), (9, 0), (1, c), (9, 0), (0, ((g : Nat) : Int)), l10, (9, 0), l12, l13] [] w 142 Q9 := by
    intro m9
    induction m9 using Nat.strongRecOn with
    | ind m9 ih11 =>
    intro g a b c l10 l12 l13 hm11 hI11
    obtain ⟨hg3, hG⟩ := hI11
    refine qG.blk 2 (pc' := 14) (ls' := [(2, 24), (2, 27), (2, 38), (1, a), (9, 0), (1, b), (9, 0), (1, c), (9, 0), (0, ((g : Nat) : Int)), l10, (9, 0), l12, l13]) (st' := [(0, 3), (0, ((g : Nat) : Int))]) (w' := w) (n' := 142) rfl ?_
    refine qG.br (P := ((g : Nat) : Int) < 3) (pc1 := 17) (pc2 := 138) (st1 := []) rfl (fun hg => ?_) (fun hg => ?_)
    · skip
      refine qG.blk 3 (pc' := 21) (ls' := [(2, 24), (2, 27), (2, 38), (1, a), (9, 0), (1, b), (9, 0), (1, c), (9, 0), (0, ((g : Nat) : Int)), l10, (9, 0), l12, l13]) (st' := [(0, 3), (0, ((g : Nat) : Int))]) (w' := w) (n' := 142) rfl ?_
      refine qG.br (P := ((g : Nat) : Int) < 3) (pc1 := 24) (pc2 := 138) (st1 := []) rfl (fun hgl => ?_) (fun hgl => ?_)
      · skip
        refine qG.blk 2 (pc' := 27) (ls' := [(2, 24), (2, 27), (2, 38), (1, a), (9, 0), (1, b), (9, 0), (1, c), (9, 0), (0, ((g : Nat) : Int)), l10, (9, 0), l12, l13]) (st' := [(0, ((g : Nat) : Int)), (2, 27)]) (w' := w) (n' := 142) rfl ?_
        refine qG.ar (P := 0 ≤ ((g : Nat) : Int) ∧ ((g : Nat) : Int) < ((3 : Nat) : Int)) (P2 := 0 < (27 : Int) ∧ (27 : Int) ≤ ((142 : Nat) : Int)) (pc' := 28) (ls' := [(2, 24), (2, 27), (2, 38), (1, a), (9, 0), (1, b), (9, 0), (1, c), (9, 0), (0, ((g : Nat) : Int)), l10, (9, 0), l12, l13]) (st' := [(1, w 27 g)]) (w' := w) (n' := 142) rfl (by omega) (by decide) ?_
        refine qG.blk 3 (pc' := 33) (ls' := [(2, 24), (2, 27), (2, 38), (1, a), (9, 0), (1, b), (9, 0), (1, c), (9, 0), (0, ((g : Nat) : Int)), (1, w 27 g), (9, 0), (0, 0), l13]) (st' := []) (w' := w) (n' := 142) rfl ?_
        have L33 : ∀ (m9 : Nat) (i u : Nat) (a b c x : Int) (l13 : qV), 64 - i = m9 → (i ≤ u ∧ u ≤ 64 ∧ ACC w 27 a b c (64 * g + u) ∧ RST w 27 g u x) → qG none (d + 1) 101 33 [(2, 24), (2, 27), (2, 38), (1, a), (9, 0), (1, b), (9, 0), (1, c), (9, 0), (0, ((g : Nat) : Int)), (1, x), (9, 0), (0, ((i : Nat) : Int)), l13] [] w 142 Q9 := by
          intro m9
          induction m9 using Nat.strongRecOn with
          | ind m9 ih33 =>
          intro i u a b c x l13 hm33 hI33
          obtain ⟨hiu, hu64, hA, hR⟩ := hI33
          refine qG.blk 2 (pc' := 37) (ls' := [(2, 24), (2, 27), (2, 38), (1, a), (9, 0), (1, b), (9, 0), (1, c), (9, 0), (0, ((g : Nat) : Int)), (1, x), (9, 0), (0, ((i : Nat) : Int)), l13]) (st' := [(0, 64), (0, ((i : Nat) : Int))]) (w' := w) (n' := 142) rfl ?_
          refine qG.br (P := ((i : Nat) : Int) < 64) (pc1 := 40) (pc2 := 132) (st1 := []) rfl (fun hi64 => ?_) (fun hi64 => ?_)
          · skip
            refine qG.blk 3 (pc' := 44) (ls' := [(2, 24), (2, 27), (2, 38), (1, a), (9, 0), (1, b), (9, 0), (1, c), (9, 0), (0, ((g : Nat) : Int)), (1, x), (9, 0), (0, ((i : Nat) : Int)), l13]) (st' := [(0, qcmp x 0)]) (w' := w) (n' := 142) rfl ?_
            refine qG.br (P := qcmp x 0 = 0) (pc1 := 132) (pc2 := 47) (st1 := []) rfl (fun hx0 => ?_) (fun hx0 => ?_)
            · skip
              refine qG.blk 1 (pc' := 135) (ls' := [(2, 24), (2, 27), (2, 38), (1, a), (9, 0), (1, b), (9, 0), (1, c), (9, 0), (0, wrp (((g : Nat) : Int) + 1)), (1, x), (9, 0), (0, ((i : Nat) : Int)), l13]) (st' := []) (w' := w) (n' := 142) rfl ?_
              rw [show wrp (((g : Nat) : Int) + 1) = ((g + 1 : Nat) : Int) from wrp_id (by omega) (by omega)]
              refine qG.blk 1 (pc' := 11) (ls' := [(2, 24), (2, 27), (2, 38), (1, a), (9, 0), (1, b), (9, 0), (1, c), (9, 0), (0, ((g + 1 : Nat) : Int)), (1, x), (9, 0), (0, ((i : Nat) : Int)), l13]) (st' := []) (w' := w) (n' := 142) rfl ?_
              exact ih11 _ (by omega) (g + 1) (a) (b) (c) ((1, x)) ((0, ((i : Nat) : Int))) (l13) rfl (⟨by omega, by first | exact RST.end hu64 hA (by have z := qcmp_0.mp hx0; rw [z] at hR; exact hR.e0) | exact RST.end hu64 hA (fun s h1 h2 => absurd h1 (by omega))⟩)
            · skip
              refine qG.blk 4 (pc' := 53) (ls' := [(2, 24), (2, 27), (2, 38), (1, a), (9, 0), (1, b), (9, 0), (1, c), (9, 0), (0, ((g : Nat) : Int)), (1, x), (9, 0), (0, ((i : Nat) : Int)), l13]) (st' := [(0, wrp (64 * ((g : Nat) : Int))), (0, 3)]) (w' := w) (n' := 142) rfl ?_
              rw [show wrp (64 * ((g : Nat) : Int)) = ((64 * g : Nat) : Int) from by rw [wrp_id (by omega) (by omega)]; omega]
              refine qG.blk 1 (pc' := 55) (ls' := [(2, 24), (2, 27), (2, 38), (1, a), (9, 0), (1, b), (9, 0), (1, c), (9, 0), (0, ((g : Nat) : Int)), (1, x), (9, 0), (0, ((i : Nat) : Int)), l13]) (st' := [(1, x), (0, ((64 * g : Nat) : Int)), (0, 3)]) (w' := w) (n' := 142) rfl ?_
              refine qG.call (t := 303) (na := 1) (sk := 0) (md := 0) (ls1 := [(1, x), (9, 0), (9, 0)]) (r1 := [(0, ((64 * g : Nat) : Int)), (0, 3)]) rfl rfl rfl rfl rfl (K_lnt (by omega) x w) ?_
              rintro _ w7 _ ⟨rfl, hw7, rfl⟩
              rw [hw7]
              obtain ⟨s, hs, hb, hl⟩ := lb_ne hR.1 (fun z => hx0 (qcmp_0.mpr z))
              have hst := hR.st hs hb hl
              rw [lnt_low hs hb hl]
              show qG none (d + 1) 101 58 [(2, 24), (2, 27), (2, 38), (1, a), (9, 0), (1, b), (9, 0), (1, c), (9, 0), (0, ((g : Nat) : Int)), (1, x), (9, 0), (0, ((i : Nat) : Int)), l13] [(0, ((s : Nat) : Int)), (0, ((64 * g : Nat) : Int)), (0, 3)] w 142 Q9
              refine qG.blk 1 (pc' := 59) (ls' := [(2, 24), (2, 27), (2, 38), (1, a), (9, 0), (1, b), (9, 0), (1, c), (9, 0), (0, ((g : Nat) : Int)), (1, x), (9, 0), (0, ((i : Nat) : Int)), l13]) (st' := [(0, wrp (((64 * g : Nat) : Int) + ((s : Nat) : Int))), (0, 3)]) (w' := w) (n' := 142) rfl ?_
              rw [show wrp (((64 * g : Nat) : Int) + ((s : Nat) : Int)) = ((64 * g + s : Nat) : Int) from by rw [wrp_id (by omega) (by omega)]; omega]
              refine qG.blk 1 (pc' := 60) (ls' := [(2, 24), (2, 27), (2, 38), (1, a), (9, 0), (1, b), (9, 0), (1, c), (9, 0), (0, ((g : Nat) : Int)), (1, x), (9, 0), (0, ((i : Nat) : Int)), l13]) (st' := [(0, wrp (3 * ((64 * g + s : Nat) : Int)))]) (w' := w) (n' := 142) rfl ?_
              rw [show wrp (3 * ((64 * g + s : Nat) : Int)) = ((3 * (64 * g + s) : Nat) : Int) from by rw [wrp_id (by omega) (by omega)]; omega]
              refine qG.blk 5 (pc' := 68) (ls' := [(2, 24), (2, 27), (2, 38), (1, a), (9, 0), (1, b), (9, 0), (1, c), (9, 0), (0, ((g : Nat) : Int)), (1, x), (9, 0), (0, ((i : Nat) : Int)), (0, ((3 * (64 * g + s) : Nat) : Int))]) (st' := [(1, wrl (x - 1)), (1, x)]) (w' := w) (n' := 142) rfl ?_
              refine qG.blk 3 (pc' := 73) (ls' := [(2, 24), (2, 27), (2, 38), (1, a), (9, 0), (1, b), (9, 0), (1, c), (9, 0), (0, ((g : Nat) : Int)), (1, qland x (wrl (x - 1))), (9, 0), (0, ((i : Nat) : Int)), (0, ((3 * (64 * g + s) : Nat) : Int))]) (st' := [(0, ((3 * (64 * g + s) : Nat) : Int))]) (w' := w) (n' := 142) rfl ?_
              refine qG.br (P := ((3 * (64 * g + s) : Nat) : Int) < 0) (pc1 := 126) (pc2 := 76) (st1 := []) rfl (fun hr0 => ?_) (fun hr0 => ?_)
              · exfalso; omega
              · skip
                refine qG.blk 3 (pc' := 80) (ls' := [(2, 24), (2, 27), (2, 38), (1, a), (9, 0), (1, b), (9, 0), (1, c), (9, 0), (0, ((g : Nat) : Int)), (1, qland x (wrl (x - 1))), (9, 0), (0, ((i : Nat) : Int)), (0, ((3 * (64 * g + s) : Nat) : Int))]) (st' := [(0, wrp (((3 * (64 * g + s) : Nat) : Int) + 2))]) (w' := w) (n' := 142) rfl ?_
                rw [show wrp (((3 * (64 * g + s) : Nat) : Int) + 2) = ((3 * (64 * g + s) + 2 : Nat) : Int) from by rw [wrp_id (by omega) (by omega)]; omega]
                refine qG.blk 2 (pc' := 84) (ls' := [(2, 24), (2, 27), (2, 38), (1, a), (9, 0), (1, b), (9, 0), (1, c), (9, 0), (0, ((g : Nat) : Int)), (1, qland x (wrl (x - 1))), (9, 0), (0, ((i : Nat) : Int)), (0, ((3 * (64 * g + s) : Nat) : Int))]) (st' := [(2, w 24 5), (0, ((3 * (64 * g + s) + 2 : Nat) : Int))]) (w' := w) (n' := 142) rfl ?_
                rw [show w 24 5 = 26 from zref hI rfl rfl]
                refine qG.blk 1 (pc' := 85) (ls' := [(2, 24), (2, 27), (2, 38), (1, a), (9, 0), (1, b), (9, 0), (1, c), (9, 0), (0, ((g : Nat) : Int)), (1, qland x (wrl (x - 1))), (9, 0), (0, ((i : Nat) : Int)), (0, ((3 * (64 * g + s) : Nat) : Int))]) (st' := [(0, 540), (0, ((3 * (64 * g + s) + 2 : Nat) : Int))]) (w' := w) (n' := 142) rfl ?_
                rw [show (540 : Int) = N5 from hN5.symm]
                refine qG.br (P := ((3 * (64 * g + s) + 2 : Nat) : Int) < N5) (pc1 := 88) (pc2 := 126) (st1 := []) rfl (fun h540 => ?_) (fun h540 => ?_)
                · skip
                  refine qG.blk 3 (pc' := 93) (ls' := [(2, 24), (2, 27), (2, 38), (1, a), (9, 0), (1, b), (9, 0), (1, c), (9, 0), (0, ((g : Nat) : Int)), (1, qland x (wrl (x - 1))), (9, 0), (0, ((i : Nat) : Int)), (0, ((3 * (64 * g + s) : Nat) : Int))]) (st' := [(2, w 24 5), (1, a)]) (w' := w) (n' := 142) rfl ?_
                  rw [show w 24 5 = 26 from zref hI rfl rfl]
                  refine qG.blk 1 (pc' := 95) (ls' := [(2, 24), (2, 27), (2, 38), (1, a), (9, 0), (1, b), (9, 0), (1, c), (9, 0), (0, ((g : Nat) : Int)), (1, qland x (wrl (x - 1))), (9, 0), (0, ((i : Nat) : Int)), (0, ((3 * (64 * g + s) : Nat) : Int))]) (st' := [(0, ((3 * (64 * g + s) : Nat) : Int)), (2, 26), (1, a)]) (w' := w) (n' := 142) rfl ?_
                  refine qG.lld (m := 540) rfl rfl (by omega) (by decide) ?_
                  show qG none (d + 1) 101 96 [(2, 24), (2, 27), (2, 38), (1, a), (9, 0), (1, b), (9, 0), (1, c), (9, 0), (0, ((g : Nat) : Int)), (1, qland x (wrl (x - 1))), (9, 0), (0, ((i : Nat) : Int)), (0, ((3 * (64 * g + s) : Nat) : Int))] [(1, w 26 (3 * (64 * g + s))), (1, a)] w 142 Q9
                  refine qG.blk 5 (pc' := 104) (ls' := [(2, 24), (2, 27), (2, 38), (1, qlor a (w 26 (3 * (64 * g + s)))), (9, 0), (1, b), (9, 0), (1, c), (9, 0), (0, ((g : Nat) : Int)), (1, qland x (wrl (x - 1))), (9, 0), (0, ((i : Nat) : Int)), (0, ((3 * (64 * g + s) : Nat) : Int))]) (st' := [(2, w 24 5), (1, b)]) (w' := w) (n' := 142) rfl ?_
                  rw [show w 24 5 = 26 from zref hI rfl rfl]
                  refine qG.blk 3 (pc' := 108) (ls' := [(2, 24), (2, 27), (2, 38), (1, qlor a (w 26 (3 * (64 * g + s)))), (9, 0), (1, b), (9, 0), (1, c), (9, 0), (0, ((g : Nat) : Int)), (1, qland x (wrl (x - 1))), (9, 0), (0, ((i : Nat) : Int)), (0, ((3 * (64 * g + s) : Nat) : Int))]) (st' := [(0, wrp (((3 * (64 * g + s) : Nat) : Int) + 1)), (2, 26), (1, b)]) (w' := w) (n' := 142) rfl ?_
                  rw [show wrp (((3 * (64 * g + s) : Nat) : Int) + 1) = ((3 * (64 * g + s) + 1 : Nat) : Int) from by rw [wrp_id (by omega) (by omega)]; omega]
                  refine qG.lld (m := 540) rfl rfl (by omega) (by decide) ?_
                  show qG none (d + 1) 101 109 [(2, 24), (2, 27), (2, 38), (1, qlor a (w 26 (3 * (64 * g + s)))), (9, 0), (1, b), (9, 0), (1, c), (9, 0), (0, ((g : Nat) : Int)), (1, qland x (wrl (x - 1))), (9, 0), (0, ((i : Nat) : Int)), (0, ((3 * (64 * g + s) : Nat) : Int))] [(1, w 26 (3 * (64 * g + s) + 1)), (1, b)] w 142 Q9
                  refine qG.blk 5 (pc' := 118) (ls' := [(2, 24), (2, 27), (2, 38), (1, qlor a (w 26 (3 * (64 * g + s)))), (9, 0), (1, qlor b (w 26 (3 * (64 * g + s) + 1))), (9, 0), (1, c), (9, 0), (0, ((g : Nat) : Int)), (1, qland x (wrl (x - 1))), (9, 0), (0, ((i : Nat) : Int)), (0, ((3 * (64 * g + s) : Nat) : Int))]) (st' := [(2, w 24 5), (1, c)]) (w' := w) (n' := 142) rfl ?_
                  rw [show w 24 5 = 26 from zref hI rfl rfl]
                  refine qG.blk 3 (pc' := 122) (ls' := [(2, 24), (2, 27), (2, 38), (1, qlor a (w 26 (3 * (64 * g + s)))), (9, 0), (1, qlor b (w 26 (3 * (64 * g + s) + 1))), (9, 0), (1, c), (9, 0), (0, ((g : Nat) : Int)), (1, qland x (wrl (x - 1))), (9, 0), (0, ((i : Nat) : Int)), (0, ((3 * (64 * g + s) : Nat) : Int))]) (st' := [(0, wrp (((3 * (64 * g + s) : Nat) : Int) + 2)), (2, 26), (1, c)]) (w' := w) (n' := 142) rfl ?_
                  rw [show wrp (((3 * (64 * g + s) : Nat) : Int) + 2) = ((3 * (64 * g + s) + 2 : Nat) : Int) from by rw [wrp_id (by omega) (by omega)]; omega]
                  refine qG.lld (m := 540) rfl rfl (by omega) (by decide) ?_
                  show qG none (d + 1) 101 123 [(2, 24), (2, 27), (2, 38), (1, qlor a (w 26 (3 * (64 * g + s)))), (9, 0), (1, qlor b (w 26 (3 * (64 * g + s) + 1))), (9, 0), (1, c), (9, 0), (0, ((g : Nat) : Int)), (1, qland x (wrl (x - 1))), (9, 0), (0, ((i : Nat) : Int)), (0, ((3 * (64 * g + s) : Nat) : Int))] [(1, w 26 (3 * (64 * g + s) + 2)), (1, c)] w 142 Q9
                  refine qG.blk 3 (pc' := 129) (ls' := [(2, 24), (2, 27), (2, 38), (1, qlor a (w 26 (3 * (64 * g + s)))), (9, 0), (1, qlor b (w 26 (3 * (64 * g + s) + 1))), (9, 0), (1, qlor c (w 26 (3 * (64 * g + s) + 2))), (9, 0), (0, ((g : Nat) : Int)), (1, qland x (wrl (x - 1))), (9, 0), (0, wrp (((i : Nat) : Int) + 1)), (0, ((3 * (64 * g + s) : Nat) : Int))]) (st' := []) (w' := w) (n' := 142) rfl ?_
                  rw [show wrp (((i : Nat) : Int) + 1) = ((i + 1 : Nat) : Int) from wrp_id (by omega) (by omega)]
                  refine qG.blk 1 (pc' := 33) (ls' := [(2, 24), (2, 27), (2, 38), (1, qlor a (w 26 (3 * (64 * g + s)))), (9, 0), (1, qlor b (w 26 (3 * (64 * g + s) + 1))), (9, 0), (1, qlor c (w 26 (3 * (64 * g + s) + 2))), (9, 0), (0, ((g : Nat) : Int)), (1, qland x (wrl (x - 1))), (9, 0), (0, ((i + 1 : Nat) : Int)), (0, ((3 * (64 * g + s) : Nat) : Int))]) (st' := []) (w' := w) (n' := 142) rfl ?_
                  exact ih33 _ (by omega) (i + 1) (s + 1) (qlor a (w 26 (3 * (64 * g + s)))) (qlor b (w 26 (3 * (64 * g + s) + 1))) (qlor c (w 26 (3 * (64 * g + s) + 2))) (qland x (wrl (x - 1))) ((0, ((3 * (64 * g + s) : Nat) : Int))) rfl (⟨by omega, by omega, (RST.acc hA hst.1.1 hs hst.2.1).up (by rw [sb_g hs]; exact hst.1.2) (by omega), hst.2.2⟩)
                · skip
                  refine qG.blk 1 (pc' := 129) (ls' := [(2, 24), (2, 27), (2, 38), (1, a), (9, 0), (1, b), (9, 0), (1, c), (9, 0), (0, ((g : Nat) : Int)), (1, qland x (wrl (x - 1))), (9, 0), (0, wrp (((i : Nat) : Int) + 1)), (0, ((3 * (64 * g + s) : Nat) : Int))]) (st' := []) (w' := w) (n' := 142) rfl ?_
                  rw [show wrp (((i : Nat) : Int) + 1) = ((i + 1 : Nat) : Int) from wrp_id (by omega) (by omega)]
                  refine qG.blk 1 (pc' := 33) (ls' := [(2, 24), (2, 27), (2, 38), (1, a), (9, 0), (1, b), (9, 0), (1, c), (9, 0), (0, ((g : Nat) : Int)), (1, qland x (wrl (x - 1))), (9, 0), (0, ((i + 1 : Nat) : Int)), (0, ((3 * (64 * g + s) : Nat) : Int))]) (st' := []) (w' := w) (n' := 142) rfl ?_
                  exact ih33 _ (by omega) (i + 1) (s + 1) (a) (b) (c) (qland x (wrl (x - 1))) ((0, ((3 * (64 * g + s) : Nat) : Int))) rfl (⟨by omega, by omega, (RST.acc hA hst.1.1 hs hst.2.1).no (by omega), hst.2.2⟩)
          · skip
            refine qG.blk 1 (pc' := 135) (ls' := [(2, 24), (2, 27), (2, 38), (1, a), (9, 0), (1, b), (9, 0), (1, c), (9, 0), (0, wrp (((g : Nat) : Int) + 1)), (1, x), (9, 0), (0, ((i : Nat) : Int)), l13]) (st' := []) (w' := w) (n' := 142) rfl ?_
            rw [show wrp (((g : Nat) : Int) + 1) = ((g + 1 : Nat) : Int) from wrp_id (by omega) (by omega)]
            refine qG.blk 1 (pc' := 11) (ls' := [(2, 24), (2, 27), (2, 38), (1, a), (9, 0), (1, b), (9, 0), (1, c), (9, 0), (0, ((g + 1 : Nat) : Int)), (1, x), (9, 0), (0, ((i : Nat) : Int)), l13]) (st' := []) (w' := w) (n' := 142) rfl ?_
            exact ih11 _ (by omega) (g + 1) (a) (b) (c) ((1, x)) ((0, ((i : Nat) : Int))) (l13) rfl (⟨by omega, by first | exact RST.end hu64 hA (by have z := qcmp_0.mp hx0; rw [z] at hR; exact hR.e0) | exact RST.end hu64 hA (fun s h1 h2 => absurd h1 (by omega))⟩)
        exact L33 _ (0) (0) (a) (b) (c) (w 27 g) (l13) rfl (⟨Nat.le_refl _, Nat.zero_le _, hG, RST.z (by unfold LROW; omega) hI⟩)
      · exfalso; omega
    · skip
      refine qG.blk 4 (pc' := 144) (ls' := [(2, 24), (2, 27), (2, 38), (1, a), (9, 0), (1, b), (9, 0), (1, c), (9, 0), (0, ((g : Nat) : Int)), l10, (9, 0), l12, l13]) (st' := [(1, c), (1, b), (1, a), (2, 38)]) (w' := w) (n' := 142) rfl ?_
      refine qG.call (t := 105) (na := 4) (sk := 0) (md := 0) (ls1 := [(2, 38), (1, a), (9, 0), (1, b), (9, 0), (1, c), (9, 0)]) (r1 := []) rfl rfl rfl rfl rfl (K_putRow38 (Nat.zero_le _) a b c w) ?_
      rintro _ w0 _ ⟨rfl, hw0, rfl⟩
      have hG2 : ACC w 27 a b c 192 := by rw [show 192 = 64 * g by omega]; exact hG
      have hRW : RW 38 (fun j => spF w 27 j 192) w w0 := by rw [hw0]; exact RW.p (by unfold LROW; omega) hI hG2.1.1 hG2.1.2.1 hG2.1.2.2 hG2.2.1 hG2.2.2.1 hG2.2.2.2
      show qG none (d + 1) 101 147 [(2, 24), (2, 27), (2, 38), (1, a), (9, 0), (1, b), (9, 0), (1, c), (9, 0), (0, ((g : Nat) : Int)), l10, (9, 0), l12, l13] [] w0 142 Q9
      refine qG.retv rfl rfl ?_
      subst hQ9
      exact ⟨rfl, rfl, hRW⟩
  exact L11 _ (0) (0) (0) (0) ((9, 0)) ((9, 0)) ((9, 0)) rfl (⟨Nat.zero_le _, ACC.z⟩)
/-- the class's move, r: what lies next to a -/
noncomputable def imB (a b r : Int) : Bool := decide (bitsF (qand b (qxor a (-1))) 30 = 1) && !decide (qand (qand b (qxor a (-1))) r = 0)
theorem qand_16 {a b : Int} (hb : 0 ≤ b ∧ b ≤ 65535) : 0 ≤ qand b a ∧ qand b a ≤ 65535 := by
  rw [qand_c]
  have := qand_hi (x := a) (y := b) (d := 65535) hb.1 hb.2 (by decide)
  exact ⟨this.1, this.2⟩
theorem K_isMoveX {d : Nat} (hd : 1 ≤ d) (a b c : Int) (hb : 0 ≤ b ∧ b ≤ 65535) (w : qW) : qG none d 98 0 [(0, a), (0, b), (0, c), (9, 0)] [] w 142 (fun (r : qV) (w1 : qW) (n1 : Nat) => r = (0, b01 (imB a b c)) ∧ w1 = w ∧ n1 = 142) := by
  generalize hQ9 : (fun (r : qV) (w1 : qW) (n1 : Nat) => r = (0, b01 (imB a b c)) ∧ w1 = w ∧ n1 = 142) = Q9
  obtain ⟨d, rfl⟩ : ∃ d9, d = d9 + 1 := ⟨d - 1, by omega⟩
  refine qG.blk 7 (pc' := 7) (ls' := [(0, a), (0, b), (0, c), (0, qand b (qxor a (-1)))]) (st' := [(0, qand b (qxor a (-1)))]) (w' := w) (n' := 142) rfl ?_
  refine qG.call (t := 302) (na := 1) (sk := 0) (md := 0) (ls1 := [(0, qand b (qxor a (-1)))]) (r1 := []) rfl rfl rfl rfl rfl (K_bcJ (Nat.zero_le _) (qand b (qxor a (-1))) (qand_16 hb).1 (Int.le_trans (qand_16 hb).2 (by decide)) w) ?_
  rintro _ w7 _ ⟨rfl, hw7, rfl⟩
  rw [hw7]
  show qG none (d + 1) 98 10 [(0, a), (0, b), (0, c), (0, qand b (qxor a (-1)))] [(0, bitsF (qand b (qxor a (-1))) 30)] w 142 Q9
  refine qG.blk 1 (pc' := 11) (ls' := [(0, a), (0, b), (0, c), (0, qand b (qxor a (-1)))]) (st' := [(0, 1), (0, bitsF (qand b (qxor a (-1))) 30)]) (w' := w) (n' := 142) rfl ?_
  refine qG.br (P := bitsF (qand b (qxor a (-1))) 30 = 1) (pc1 := 14) (pc2 := 24) (st1 := []) rfl (fun h1 => ?_) (fun h1 => ?_)
  · skip
    refine qG.blk 3 (pc' := 17) (ls' := [(0, a), (0, b), (0, c), (0, qand b (qxor a (-1)))]) (st' := [(0, qand (qand b (qxor a (-1))) c)]) (w' := w) (n' := 142) rfl ?_
    refine qG.br (P := qand (qand b (qxor a (-1))) c = 0) (pc1 := 24) (pc2 := 20) (st1 := []) rfl (fun h2 => ?_) (fun h2 => ?_)
    · skip
      refine qG.blk 1 (pc' := 25) (ls' := [(0, a), (0, b), (0, c), (0, qand b (qxor a (-1)))]) (st' := [(0, 0)]) (w' := w) (n' := 142) rfl ?_
      refine qG.ret rfl (by first | rfl | exact decide_eq_true (by omega)) ?_
      subst hQ9
      exact ⟨congrArg (Prod.mk 0) (by unfold imB; first | (rw [decide_eq_true h1, decide_eq_false h2]; rfl) | (rw [decide_eq_true h1, decide_eq_true h2]; rfl) | (rw [decide_eq_false h1]; rfl)), rfl, rfl⟩
    · skip
      refine qG.blk 2 (pc' := 25) (ls' := [(0, a), (0, b), (0, c), (0, qand b (qxor a (-1)))]) (st' := [(0, 1)]) (w' := w) (n' := 142) rfl ?_
      refine qG.ret rfl (by first | rfl | exact decide_eq_true (by omega)) ?_
      subst hQ9
      exact ⟨congrArg (Prod.mk 0) (by unfold imB; first | (rw [decide_eq_true h1, decide_eq_false h2]; rfl) | (rw [decide_eq_true h1, decide_eq_true h2]; rfl) | (rw [decide_eq_false h1]; rfl)), rfl, rfl⟩
  · skip
    refine qG.blk 1 (pc' := 25) (ls' := [(0, a), (0, b), (0, c), (0, qand b (qxor a (-1)))]) (st' := [(0, 0)]) (w' := w) (n' := 142) rfl ?_
    refine qG.ret rfl (by first | rfl | exact decide_eq_true (by omega)) ?_
    subst hQ9
    exact ⟨congrArg (Prod.mk 0) (by unfold imB; first | (rw [decide_eq_true h1, decide_eq_false h2]; rfl) | (rw [decide_eq_true h1, decide_eq_true h2]; rfl) | (rw [decide_eq_false h1]; rfl)), rfl, rfl⟩
/-- the class's table of moves, rows below i and of the row i the places below j -/
noncomputable def mvX (w : qW) (R : Nat → Int) (i j : Nat) : Bool := decide (i = j) || imB (w 25 i) (w 25 j) (ntF R (w 25 i) 16)
noncomputable def MVT (R : Nat → Int) (N : Nat) (w : qW) (i m : Nat) (w1 : qW) : Prop := (∀ r j, r < 180 → j < 192 → mb w1 r j = ((decide (r < i) || (decide (r = i) && decide (j < m))) && (decide (r < N) && (decide (j < N) && mvX w R r j)))) ∧ (∀ q k, q ≠ 26 → w1 q k = w q k) ∧ yInv zgf zga zra zSp w1
theorem mput {w : qW} {j : Nat} {v : Int} (hI : yInv zgf zga zra zSp w) (hv : qi64 v) : yInv zgf zga zra zSp (qup w 26 j v) := zup_a hI (b := (-9223372036854775808, 9223372036854775807)) rfl rfl (y64i hv)
theorem mb_set {w : qW} {i j r k : Nat} (hj : j < 192) (hk : k < 192) : mb (qup w 26 (3 * i + j / 64) (qlor (w 26 (3 * i + j / 64)) (qlshl 1 ((j % 64 : Nat) : Int)))) r k = (mb w r k || (decide (i = r) && decide (j = k))) := by
  unfold mb
  have hm : j % 64 < 64 := Nat.mod_lt _ (by decide)
  by_cases e : 3 * r + k / 64 = 3 * i + j / 64
  · have e3 : i = r ∧ j / 64 = k / 64 := by omega
    rw [e, qup_k, lb_or, lb_sh1 hm, decide_eq_true e3.1, Bool.true_and]
    congr 1
    by_cases e2 : j = k
    · rw [decide_eq_true e2, decide_eq_true (by rw [e2])]
    · rw [decide_eq_false e2, decide_eq_false (by omega)]
  · rw [qup_j e]
    by_cases e3 : i = r
    · rw [decide_eq_false (show ¬ j = k from fun z => e (by rw [e3, z])), Bool.and_false, Bool.or_false]
    · rw [decide_eq_false e3, Bool.false_and, Bool.or_false]
theorem MVT.z {R : Nat → Int} {N : Nat} {w w1 : qW} (hz : ∀ q, q < 540 → w1 26 q = 0) (ho : ∀ q k, q ≠ 26 → w1 q k = w q k) (hI : yInv zgf zga zra zSp w1) : MVT R N w 0 0 w1 := by
  refine ⟨fun r j hr hj => ?_, ho, hI⟩
  unfold mb
  rw [hz _ (by omega), lb_z, decide_eq_false (Nat.not_lt_zero r), decide_eq_false (Nat.not_lt_zero j), Bool.and_false]; rfl
theorem MVT.no {R : Nat → Int} {N i m : Nat} {w w1 : qW} (h : MVT R N w i m w1) (hm : mvX w R i m = false) : MVT R N w i (m + 1) w1 := by
  refine ⟨fun r j hr hj => ?_, h.2⟩
  rw [h.1 r j hr hj]
  by_cases e : r = i
  · rw [e]
    by_cases e2 : j = m
    · rw [e2, hm]; simp only [Bool.and_false]
    · rw [show decide (j < m) = decide (j < m + 1) from decide_eq_decide.mpr (by omega)]
  · rw [decide_eq_false e]; rfl
theorem MVT.yes {R : Nat → Int} {N i m : Nat} {w w1 : qW} (h : MVT R N w i m w1) (hi : i < N) (hmN : m < N) (hN : N ≤ 180) (hm : mvX w R i m = true) : MVT R N w i (m + 1) (qup w1 26 (3 * i + m / 64) (qlor (w1 26 (3 * i + m / 64)) (qlshl 1 ((m % 64 : Nat) : Int)))) := by
  refine ⟨fun r j hr hj => ?_, fun q k hq => (qup_nq hq).trans (h.2.1 q k hq), mput h.2.2 (qlor_64 _ _)⟩
  rw [mb_set (by omega) hj, h.1 r j hr hj]
  by_cases e : r = i
  · rw [e, decide_eq_true rfl, Bool.true_and, decide_eq_false (Nat.lt_irrefl i), Bool.false_or, Bool.true_and]
    by_cases e2 : j = m
    · rw [e2, decide_eq_true rfl, Bool.or_true, decide_eq_true (show m < m + 1 by omega), decide_eq_true hi, decide_eq_true hmN, hm]; rfl
    · rw [decide_eq_false (show ¬ m = j from fun z => e2 z.symm), Bool.or_false, show decide (j < m) = decide (j < m + 1) from decide_eq_decide.mpr (by omega), Bool.true_and, Bool.false_or]
  · rw [decide_eq_false (show ¬ i = r from fun z => e z.symm), Bool.false_and, Bool.or_false, decide_eq_false e]; rfl
theorem MVT.row {R : Nat → Int} {N i m : Nat} {w w1 : qW} (h : MVT R N w i m w1) (hm : N ≤ m) : MVT R N w (i + 1) 0 w1 := by
  refine ⟨fun r j hr hj => ?_, h.2⟩
  rw [h.1 r j hr hj, decide_eq_false (Nat.not_lt_zero j), Bool.and_false, Bool.or_false]
  by_cases e : r = i
  · rw [e, decide_eq_true rfl, Bool.true_and, decide_eq_false (Nat.lt_irrefl i), Bool.false_or, decide_eq_true (show i < i + 1 by omega)]
    by_cases e2 : j < N
    · rw [decide_eq_true (show j < m by omega)]
    · rw [decide_eq_false e2]; simp only [Bool.false_and, Bool.and_false]
  · rw [decide_eq_false e, Bool.false_and, Bool.or_false, show decide (r < i) = decide (r < i + 1) from decide_eq_decide.mpr (by omega)]
theorem MVT.all {R : Nat → Int} {N i : Nat} {w w1 : qW} (h : MVT R N w i 0 w1) (hi : N ≤ i) {r j : Nat} (hr : r < 180) (hj : j < 192) : mb w1 r j = (decide (r < N) && (decide (j < N) && mvX w R r j)) := by
  rw [h.1 r j hr hj, decide_eq_false (Nat.not_lt_zero j), Bool.and_false, Bool.or_false]
  by_cases e : r < N
  · rw [decide_eq_true (show r < i by omega), Bool.true_and]
  · rw [decide_eq_false e, Bool.false_and, Bool.and_false]
theorem K_findMv64 {d : Nat} (hd : 2 ≤ d) (N : Nat) (hN18 : N ≤ 180) (w : qW) (hI : yInv zgf zga zra zSp w) (hN : w 24 3 = (N : Int)) (h25 : ∀ j, 0 ≤ w 25 j ∧ w 25 j ≤ 65535) : qG none d 97 0 [(2, 24), (2, 64), (9, 0), (9, 0), (9, 0)] [] w 142 (fun (r : qV) (w1 : qW) (n1 : Nat) => r = (9, 0) ∧ n1 = 142 ∧ MVT (w 65) N w N 0 w1) := by
  generalize hQ9 : (fun (r : qV) (w1 : qW) (n1 : Nat) => r = (9, 0) ∧ n1 = 142 ∧ MVT (w 65) N w N 0 w1) = Q9
  obtain ⟨N5, hN5⟩ : ∃ N : Int, N = 540 := ⟨_, rfl⟩
  obtain ⟨N1, hN1⟩ : ∃ N : Int, N = 180 := ⟨_, rfl⟩
  obtain ⟨d, rfl⟩ : ∃ d9, d = d9 + 1 := ⟨d - 1, by omega⟩
  refine qG.blk 2 (pc' := 2) (ls' := [(2, 24), (2, 64), (0, 0), (9, 0), (9, 0)]) (st' := []) (w' := w) (n' := 142) rfl ?_
  have L2 : ∀ (m9 : Nat) (i : Nat) (wZ : qW), 540 - i = m9 → (i ≤ 540 ∧ (∀ q, q < i → wZ 26 q = 0) ∧ (∀ q k, q ≠ 26 → wZ q k = w q k) ∧ yInv zgf zga zra zSp wZ) → qG none (d + 1) 97 2 [(2, 24), (2, 64), (0, ((i : Nat) : Int)), (9, 0), (9, 0)] [] wZ 142 Q9 := by
    intro m9
    induction m9 using Nat.strongRecOn with
    | ind m9 ih2 =>
    intro i wZ hm2 hI2
    obtain ⟨hi540, hZ, hZo, hZI⟩ := hI2
    refine qG.blk 3 (pc' := 7) (ls' := [(2, 24), (2, 64), (0, ((i : Nat) : Int)), (9, 0), (9, 0)]) (st' := [(2, wZ 24 5), (0, ((i : Nat) : Int))]) (w' := wZ) (n' := 142) rfl ?_
    rw [show wZ 24 5 = 26 from (hZo 24 5 (by decide)).trans (zref hI rfl rfl)]
    refine qG.blk 1 (pc' := 8) (ls' := [(2, 24), (2, 64), (0, ((i : Nat) : Int)), (9, 0), (9, 0)]) (st' := [(0, 540), (0, ((i : Nat) : Int))]) (w' := wZ) (n' := 142) rfl ?_
    rw [show (540 : Int) = N5 from hN5.symm]
    refine qG.br (P := ((i : Nat) : Int) < N5) (pc1 := 11) (pc2 := 24) (st1 := []) rfl (fun h8 => ?_) (fun h8 => ?_)
    · skip
      refine qG.blk 2 (pc' := 15) (ls' := [(2, 24), (2, 64), (0, ((i : Nat) : Int)), (9, 0), (9, 0)]) (st' := [(2, wZ 24 5)]) (w' := wZ) (n' := 142) rfl ?_
      rw [show wZ 24 5 = 26 from (hZo 24 5 (by decide)).trans (zref hI rfl rfl)]
      refine qG.blk 2 (pc' := 17) (ls' := [(2, 24), (2, 64), (0, ((i : Nat) : Int)), (9, 0), (9, 0)]) (st' := [(1, 0), (0, ((i : Nat) : Int)), (2, 26)]) (w' := wZ) (n' := 142) rfl ?_
      refine qG.lst (m := 540) rfl rfl (by omega) (by decide) ?_
      show qG none (d + 1) 97 18 [(2, 24), (2, 64), (0, ((i : Nat) : Int)), (9, 0), (9, 0)] [] (qup wZ 26 i 0) 142 Q9
      refine qG.blk 1 (pc' := 21) (ls' := [(2, 24), (2, 64), (0, wrp (((i : Nat) : Int) + 1)), (9, 0), (9, 0)]) (st' := []) (w' := (qup wZ 26 i 0)) (n' := 142) rfl ?_
      rw [show wrp (((i : Nat) : Int) + 1) = ((i + 1 : Nat) : Int) from wrp_id (by omega) (by omega)]
      refine qG.blk 1 (pc' := 2) (ls' := [(2, 24), (2, 64), (0, ((i + 1 : Nat) : Int)), (9, 0), (9, 0)]) (st' := []) (w' := (qup wZ 26 i 0)) (n' := 142) rfl ?_
      exact ih2 _ (by omega) (i + 1) ((qup wZ 26 i 0)) rfl (⟨by omega, rows.nx (f := fun _ => 0) hZ rfl, fun q k hq => (qup_nq hq).trans (hZo q k hq), mput hZI ⟨by decide, by decide⟩⟩)
    · skip
      refine qG.blk 2 (pc' := 26) (ls' := [(2, 24), (2, 64), (0, 0), (9, 0), (9, 0)]) (st' := []) (w' := wZ) (n' := 142) rfl ?_
      have L26 : ∀ (m9 : Nat) (i : Nat) (wM : qW) (l3 l4 : qV), 180 - i = m9 → (i ≤ N ∧ MVT (w 65) N w i 0 wM) → qG none (d + 1) 97 26 [(2, 24), (2, 64), (0, ((i : Nat) : Int)), l3, l4] [] wM 142 Q9 := by
        intro m9
        induction m9 using Nat.strongRecOn with
        | ind m9 ih26 =>
        intro i wM l3 l4 hm26 hI26
        obtain ⟨hiN, hM⟩ := hI26
        have hMo := hM.2.1
        refine qG.blk 3 (pc' := 31) (ls' := [(2, 24), (2, 64), (0, ((i : Nat) : Int)), l3, l4]) (st' := [(0, wM 24 3), (0, ((i : Nat) : Int))]) (w' := wM) (n' := 142) rfl ?_
        rw [show wM 24 3 = ((N : Nat) : Int) from (hMo 24 3 (by decide)).trans hN]
        refine qG.br (P := ((i : Nat) : Int) < ((N : Nat) : Int)) (pc1 := 34) (pc2 := 134) (st1 := []) rfl (fun hi31 => ?_) (fun hi31 => ?_)
        · skip
          refine qG.blk 2 (pc' := 38) (ls' := [(2, 24), (2, 64), (0, ((i : Nat) : Int)), l3, l4]) (st' := [(0, 180), (0, ((i : Nat) : Int))]) (w' := wM) (n' := 142) rfl ?_
          rw [show (180 : Int) = N1 from hN1.symm]
          refine qG.br (P := ((i : Nat) : Int) < N1) (pc1 := 41) (pc2 := 134) (st1 := []) rfl (fun hi38 => ?_) (fun hi38 => ?_)
          · skip
            refine qG.blk 3 (pc' := 46) (ls' := [(2, 24), (2, 64), (0, ((i : Nat) : Int)), l3, l4]) (st' := [(2, wM 24 4), (2, 64)]) (w' := wM) (n' := 142) rfl ?_
            rw [show wM 24 4 = 25 from (hMo 24 4 (by decide)).trans (zref hI rfl rfl)]
            refine qG.blk 1 (pc' := 47) (ls' := [(2, 24), (2, 64), (0, ((i : Nat) : Int)), l3, l4]) (st' := [(0, ((i : Nat) : Int)), (2, 25), (2, 64)]) (w' := wM) (n' := 142) rfl ?_
            refine qG.ild (m := 180) rfl rfl (by omega) (by decide) ?_
            show qG none (d + 1) 97 48 [(2, 24), (2, 64), (0, ((i : Nat) : Int)), l3, l4] [(0, wM 25 i), (2, 64)] wM 142 Q9
            rw [show wM 25 i = w 25 i from hMo 25 i (by decide)]
            refine qG.call (t := 28) (na := 2) (sk := 1) (md := 1) (ls1 := [(2, 64), (0, w 25 i), (9, 0), (9, 0)]) (r1 := []) rfl rfl rfl rfl rfl (K_nextTo64 (Nat.zero_le _) (w 25 i) wM ((hMo 64 2 (by decide)).trans (zref hI rfl rfl))) ?_
            rintro _ w7 _ ⟨rfl, hw7, rfl⟩
            rw [hw7, show ntF (wM 65) (w 25 i) 16 = ntF (w 65) (w 25 i) 16 from by rw [show wM 65 = w 65 from funext fun k => hMo 65 k (by decide)]]
            show qG none (d + 1) 97 51 [(2, 24), (2, 64), (0, ((i : Nat) : Int)), l3, l4] [(0, ntF (w 65) (w 25 i) 16)] wM 142 Q9
            refine qG.blk 3 (pc' := 55) (ls' := [(2, 24), (2, 64), (0, ((i : Nat) : Int)), (0, ntF (w 65) (w 25 i) 16), (0, 0)]) (st' := []) (w' := wM) (n' := 142) rfl ?_
            have L55 : ∀ (m9 : Nat) (j : Nat) (wQ : qW), 180 - j = m9 → (j ≤ N ∧ MVT (w 65) N w i j wQ) → qG none (d + 1) 97 55 [(2, 24), (2, 64), (0, ((i : Nat) : Int)), (0, ntF (w 65) (w 25 i) 16), (0, ((j : Nat) : Int))] [] wQ 142 Q9 := by
              intro m9
              induction m9 using Nat.strongRecOn with
              | ind m9 ih55 =>
              intro j wQ hm55 hI55
              obtain ⟨hjN, hQ⟩ := hI55
              have hQo := hQ.2.1
              refine qG.blk 3 (pc' := 61) (ls' := [(2, 24), (2, 64), (0, ((i : Nat) : Int)), (0, ntF (w 65) (w 25 i) 16), (0, ((j : Nat) : Int))]) (st' := [(0, wQ 24 3), (0, ((j : Nat) : Int))]) (w' := wQ) (n' := 142) rfl ?_
              rw [show wQ 24 3 = ((N : Nat) : Int) from (hQo 24 3 (by decide)).trans hN]
              refine qG.br (P := ((j : Nat) : Int) < ((N : Nat) : Int)) (pc1 := 64) (pc2 := 128) (st1 := []) rfl (fun hj61 => ?_) (fun hj61 => ?_)
              · skip
                refine qG.blk 2 (pc' := 69) (ls' := [(2, 24), (2, 64), (0, ((i : Nat) : Int)), (0, ntF (w 65) (w 25 i) 16), (0, ((j : Nat) : Int))]) (st' := [(0, 180), (0, ((j : Nat) : Int))]) (w' := wQ) (n' := 142) rfl ?_
                rw [show (180 : Int) = N1 from hN1.symm]
                refine qG.br (P := ((j : Nat) : Int) < N1) (pc1 := 72) (pc2 := 128) (st1 := []) rfl (fun hj69 => ?_) (fun hj69 => ?_)
                · skip
                  refine qG.blk 2 (pc' := 75) (ls' := [(2, 24), (2, 64), (0, ((i : Nat) : Int)), (0, ntF (w 65) (w 25 i) 16), (0, ((j : Nat) : Int))]) (st' := [(0, ((j : Nat) : Int)), (0, ((i : Nat) : Int))]) (w' := wQ) (n' := 142) rfl ?_
                  refine qG.br (P := ((i : Nat) : Int) = ((j : Nat) : Int)) (pc1 := 98) (pc2 := 78) (st1 := []) rfl (fun hij => ?_) (fun hij => ?_)
                  · skip
                    refine qG.blk 2 (pc' := 102) (ls' := [(2, 24), (2, 64), (0, ((i : Nat) : Int)), (0, ntF (w 65) (w 25 i) 16), (0, ((j : Nat) : Int))]) (st' := [(2, wQ 24 5)]) (w' := wQ) (n' := 142) rfl ?_
                    rw [show wQ 24 5 = 26 from (hQo 24 5 (by decide)).trans (zref hI rfl rfl)]
                    refine qG.blk 3 (pc' := 105) (ls' := [(2, 24), (2, 64), (0, ((i : Nat) : Int)), (0, ntF (w 65) (w 25 i) 16), (0, ((j : Nat) : Int))]) (st' := [(0, wrp (((i : Nat) : Int) * 3)), (2, 26)]) (w' := wQ) (n' := 142) rfl ?_
                    rw [show wrp (((i : Nat) : Int) * 3) = ((3 * i : Nat) : Int) from by rw [wrp_id (by omega) (by omega)]; omega]
                    refine qG.blk 2 (pc' := 109) (ls' := [(2, 24), (2, 64), (0, ((i : Nat) : Int)), (0, ntF (w 65) (w 25 i) 16), (0, ((j : Nat) : Int))]) (st' := [(0, 64), (0, ((j : Nat) : Int)), (0, ((3 * i : Nat) : Int)), (2, 26)]) (w' := wQ) (n' := 142) rfl ?_
                    refine qG.gn (P := 64 = 0) (pc' := 110) (ls' := [(2, 24), (2, 64), (0, ((i : Nat) : Int)), (0, ntF (w 65) (w 25 i) 16), (0, ((j : Nat) : Int))]) (st' := [(0, qdiv ((j : Nat) : Int) 64), (0, ((3 * i : Nat) : Int)), (2, 26)]) (w' := wQ) (n' := 142) rfl (by decide) ?_
                    rw [show qdiv ((j : Nat) : Int) 64 = ((j / 64 : Nat) : Int) from (q64 j (by omega)).1]
                    refine qG.blk 1 (pc' := 111) (ls' := [(2, 24), (2, 64), (0, ((i : Nat) : Int)), (0, ntF (w 65) (w 25 i) 16), (0, ((j : Nat) : Int))]) (st' := [(0, wrp (((3 * i : Nat) : Int) + ((j / 64 : Nat) : Int))), (2, 26)]) (w' := wQ) (n' := 142) rfl ?_
                    rw [show wrp (((3 * i : Nat) : Int) + ((j / 64 : Nat) : Int)) = ((3 * i + j / 64 : Nat) : Int) from by rw [wrp_id (by omega) (by omega)]; omega]
                    refine qG.blk 1 (pc' := 112) (ls' := [(2, 24), (2, 64), (0, ((i : Nat) : Int)), (0, ntF (w 65) (w 25 i) 16), (0, ((j : Nat) : Int))]) (st' := [(0, ((3 * i + j / 64 : Nat) : Int)), (2, 26), (0, ((3 * i + j / 64 : Nat) : Int)), (2, 26)]) (w' := wQ) (n' := 142) rfl ?_
                    refine qG.lld (m := 540) rfl rfl (by omega) (by decide) ?_
                    show qG none (d + 1) 97 113 [(2, 24), (2, 64), (0, ((i : Nat) : Int)), (0, ntF (w 65) (w 25 i) 16), (0, ((j : Nat) : Int))] [(1, wQ 26 (3 * i + j / 64)), (0, ((3 * i + j / 64 : Nat) : Int)), (2, 26)] wQ 142 Q9
                    refine qG.blk 3 (pc' := 118) (ls' := [(2, 24), (2, 64), (0, ((i : Nat) : Int)), (0, ntF (w 65) (w 25 i) 16), (0, ((j : Nat) : Int))]) (st' := [(0, 64), (0, ((j : Nat) : Int)), (1, 1), (1, wQ 26 (3 * i + j / 64)), (0, ((3 * i + j / 64 : Nat) : Int)), (2, 26)]) (w' := wQ) (n' := 142) rfl ?_
                    refine qG.gn (P := 64 = 0) (pc' := 119) (ls' := [(2, 24), (2, 64), (0, ((i : Nat) : Int)), (0, ntF (w 65) (w 25 i) 16), (0, ((j : Nat) : Int))]) (st' := [(0, qrem ((j : Nat) : Int) 64), (1, 1), (1, wQ 26 (3 * i + j / 64)), (0, ((3 * i + j / 64 : Nat) : Int)), (2, 26)]) (w' := wQ) (n' := 142) rfl (by decide) ?_
                    rw [show qrem ((j : Nat) : Int) 64 = ((j % 64 : Nat) : Int) from (q64 j (by omega)).2]
                    refine qG.blk 2 (pc' := 121) (ls' := [(2, 24), (2, 64), (0, ((i : Nat) : Int)), (0, ntF (w 65) (w 25 i) 16), (0, ((j : Nat) : Int))]) (st' := [(1, qlor (wQ 26 (3 * i + j / 64)) (qlshl 1 ((j % 64 : Nat) : Int))), (0, ((3 * i + j / 64 : Nat) : Int)), (2, 26)]) (w' := wQ) (n' := 142) rfl ?_
                    refine qG.lst (m := 540) rfl rfl (by omega) (by decide) ?_
                    show qG none (d + 1) 97 122 [(2, 24), (2, 64), (0, ((i : Nat) : Int)), (0, ntF (w 65) (w 25 i) 16), (0, ((j : Nat) : Int))] [] (qup wQ 26 (3 * i + j / 64) (qlor (wQ 26 (3 * i + j / 64)) (qlshl 1 ((j % 64 : Nat) : Int)))) 142 Q9
                    refine qG.blk 1 (pc' := 125) (ls' := [(2, 24), (2, 64), (0, ((i : Nat) : Int)), (0, ntF (w 65) (w 25 i) 16), (0, wrp (((j : Nat) : Int) + 1))]) (st' := []) (w' := (qup wQ 26 (3 * i + j / 64) (qlor (wQ 26 (3 * i + j / 64)) (qlshl 1 ((j % 64 : Nat) : Int))))) (n' := 142) rfl ?_
                    rw [show wrp (((j : Nat) : Int) + 1) = ((j + 1 : Nat) : Int) from wrp_id (by omega) (by omega)]
                    refine qG.blk 1 (pc' := 55) (ls' := [(2, 24), (2, 64), (0, ((i : Nat) : Int)), (0, ntF (w 65) (w 25 i) 16), (0, ((j + 1 : Nat) : Int))]) (st' := []) (w' := (qup wQ 26 (3 * i + j / 64) (qlor (wQ 26 (3 * i + j / 64)) (qlshl 1 ((j % 64 : Nat) : Int))))) (n' := 142) rfl ?_
                    exact ih55 _ (by omega) (j + 1) ((qup wQ 26 (3 * i + j / 64) (qlor (wQ 26 (3 * i + j / 64)) (qlshl 1 ((j % 64 : Nat) : Int))))) rfl (⟨by omega, hQ.yes (by omega) (by omega) hN18 (by unfold mvX; first | (rw [decide_eq_true (by omega), Bool.true_or]; done) | (rw [b01_1 hmv, Bool.or_true]; done))⟩)
                  · skip
                    refine qG.blk 2 (pc' := 82) (ls' := [(2, 24), (2, 64), (0, ((i : Nat) : Int)), (0, ntF (w 65) (w 25 i) 16), (0, ((j : Nat) : Int))]) (st' := [(2, wQ 24 4)]) (w' := wQ) (n' := 142) rfl ?_
                    rw [show wQ 24 4 = 25 from (hQo 24 4 (by decide)).trans (zref hI rfl rfl)]
                    refine qG.blk 1 (pc' := 83) (ls' := [(2, 24), (2, 64), (0, ((i : Nat) : Int)), (0, ntF (w 65) (w 25 i) 16), (0, ((j : Nat) : Int))]) (st' := [(0, ((i : Nat) : Int)), (2, 25)]) (w' := wQ) (n' := 142) rfl ?_
                    refine qG.ild (m := 180) rfl rfl (by omega) (by decide) ?_
                    show qG none (d + 1) 97 84 [(2, 24), (2, 64), (0, ((i : Nat) : Int)), (0, ntF (w 65) (w 25 i) 16), (0, ((j : Nat) : Int))] [(0, wQ 25 i)] wQ 142 Q9
                    rw [show wQ 25 i = w 25 i from hQo 25 i (by decide)]
                    refine qG.blk 2 (pc' := 88) (ls' := [(2, 24), (2, 64), (0, ((i : Nat) : Int)), (0, ntF (w 65) (w 25 i) 16), (0, ((j : Nat) : Int))]) (st' := [(2, wQ 24 4), (0, w 25 i)]) (w' := wQ) (n' := 142) rfl ?_
                    rw [show wQ 24 4 = 25 from (hQo 24 4 (by decide)).trans (zref hI rfl rfl)]
                    refine qG.blk 1 (pc' := 90) (ls' := [(2, 24), (2, 64), (0, ((i : Nat) : Int)), (0, ntF (w 65) (w 25 i) 16), (0, ((j : Nat) : Int))]) (st' := [(0, ((j : Nat) : Int)), (2, 25), (0, w 25 i)]) (w' := wQ) (n' := 142) rfl ?_
                    refine qG.ild (m := 180) rfl rfl (by omega) (by decide) ?_
                    show qG none (d + 1) 97 91 [(2, 24), (2, 64), (0, ((i : Nat) : Int)), (0, ntF (w 65) (w 25 i) 16), (0, ((j : Nat) : Int))] [(0, wQ 25 j), (0, w 25 i)] wQ 142 Q9
                    rw [show wQ 25 j = w 25 j from hQo 25 j (by decide)]
                    refine qG.blk 1 (pc' := 92) (ls' := [(2, 24), (2, 64), (0, ((i : Nat) : Int)), (0, ntF (w 65) (w 25 i) 16), (0, ((j : Nat) : Int))]) (st' := [(0, ntF (w 65) (w 25 i) 16), (0, w 25 j), (0, w 25 i)]) (w' := wQ) (n' := 142) rfl ?_
                    refine qG.call (t := 98) (na := 3) (sk := 0) (md := 0) (ls1 := [(0, w 25 i), (0, w 25 j), (0, ntF (w 65) (w 25 i) 16), (9, 0)]) (r1 := []) rfl rfl rfl rfl rfl (K_isMoveX (by omega) (w 25 i) (w 25 j) (ntF (w 65) (w 25 i) 16) (h25 j) wQ) ?_
                    rintro _ w7 _ ⟨rfl, hw7, rfl⟩
                    rw [hw7]
                    show qG none (d + 1) 97 95 [(2, 24), (2, 64), (0, ((i : Nat) : Int)), (0, ntF (w 65) (w 25 i) 16), (0, ((j : Nat) : Int))] [(0, b01 (imB (w 25 i) (w 25 j) (ntF (w 65) (w 25 i) 16)))] wQ 142 Q9
                    refine qG.br (P := b01 (imB (w 25 i) (w 25 j) (ntF (w 65) (w 25 i) 16)) = 0) (pc1 := 122) (pc2 := 98) (st1 := []) rfl (fun hmv => ?_) (fun hmv => ?_)
                    · skip
                      refine qG.blk 1 (pc' := 125) (ls' := [(2, 24), (2, 64), (0, ((i : Nat) : Int)), (0, ntF (w 65) (w 25 i) 16), (0, wrp (((j : Nat) : Int) + 1))]) (st' := []) (w' := wQ) (n' := 142) rfl ?_
                      rw [show wrp (((j : Nat) : Int) + 1) = ((j + 1 : Nat) : Int) from wrp_id (by omega) (by omega)]
                      refine qG.blk 1 (pc' := 55) (ls' := [(2, 24), (2, 64), (0, ((i : Nat) : Int)), (0, ntF (w 65) (w 25 i) 16), (0, ((j + 1 : Nat) : Int))]) (st' := []) (w' := wQ) (n' := 142) rfl ?_
                      exact ih55 _ (by omega) (j + 1) (wQ) rfl (⟨by omega, hQ.no (by unfold mvX; rw [decide_eq_false (by omega), b01_0 hmv]; rfl)⟩)
                    · skip
                      refine qG.blk 2 (pc' := 102) (ls' := [(2, 24), (2, 64), (0, ((i : Nat) : Int)), (0, ntF (w 65) (w 25 i) 16), (0, ((j : Nat) : Int))]) (st' := [(2, wQ 24 5)]) (w' := wQ) (n' := 142) rfl ?_
                      rw [show wQ 24 5 = 26 from (hQo 24 5 (by decide)).trans (zref hI rfl rfl)]
                      refine qG.blk 3 (pc' := 105) (ls' := [(2, 24), (2, 64), (0, ((i : Nat) : Int)), (0, ntF (w 65) (w 25 i) 16), (0, ((j : Nat) : Int))]) (st' := [(0, wrp (((i : Nat) : Int) * 3)), (2, 26)]) (w' := wQ) (n' := 142) rfl ?_
                      rw [show wrp (((i : Nat) : Int) * 3) = ((3 * i : Nat) : Int) from by rw [wrp_id (by omega) (by omega)]; omega]
                      refine qG.blk 2 (pc' := 109) (ls' := [(2, 24), (2, 64), (0, ((i : Nat) : Int)), (0, ntF (w 65) (w 25 i) 16), (0, ((j : Nat) : Int))]) (st' := [(0, 64), (0, ((j : Nat) : Int)), (0, ((3 * i : Nat) : Int)), (2, 26)]) (w' := wQ) (n' := 142) rfl ?_
                      refine qG.gn (P := 64 = 0) (pc' := 110) (ls' := [(2, 24), (2, 64), (0, ((i : Nat) : Int)), (0, ntF (w 65) (w 25 i) 16), (0, ((j : Nat) : Int))]) (st' := [(0, qdiv ((j : Nat) : Int) 64), (0, ((3 * i : Nat) : Int)), (2, 26)]) (w' := wQ) (n' := 142) rfl (by decide) ?_
                      rw [show qdiv ((j : Nat) : Int) 64 = ((j / 64 : Nat) : Int) from (q64 j (by omega)).1]
                      refine qG.blk 1 (pc' := 111) (ls' := [(2, 24), (2, 64), (0, ((i : Nat) : Int)), (0, ntF (w 65) (w 25 i) 16), (0, ((j : Nat) : Int))]) (st' := [(0, wrp (((3 * i : Nat) : Int) + ((j / 64 : Nat) : Int))), (2, 26)]) (w' := wQ) (n' := 142) rfl ?_
                      rw [show wrp (((3 * i : Nat) : Int) + ((j / 64 : Nat) : Int)) = ((3 * i + j / 64 : Nat) : Int) from by rw [wrp_id (by omega) (by omega)]; omega]
                      refine qG.blk 1 (pc' := 112) (ls' := [(2, 24), (2, 64), (0, ((i : Nat) : Int)), (0, ntF (w 65) (w 25 i) 16), (0, ((j : Nat) : Int))]) (st' := [(0, ((3 * i + j / 64 : Nat) : Int)), (2, 26), (0, ((3 * i + j / 64 : Nat) : Int)), (2, 26)]) (w' := wQ) (n' := 142) rfl ?_
                      refine qG.lld (m := 540) rfl rfl (by omega) (by decide) ?_
                      show qG none (d + 1) 97 113 [(2, 24), (2, 64), (0, ((i : Nat) : Int)), (0, ntF (w 65) (w 25 i) 16), (0, ((j : Nat) : Int))] [(1, wQ 26 (3 * i + j / 64)), (0, ((3 * i + j / 64 : Nat) : Int)), (2, 26)] wQ 142 Q9
                      refine qG.blk 3 (pc' := 118) (ls' := [(2, 24), (2, 64), (0, ((i : Nat) : Int)), (0, ntF (w 65) (w 25 i) 16), (0, ((j : Nat) : Int))]) (st' := [(0, 64), (0, ((j : Nat) : Int)), (1, 1), (1, wQ 26 (3 * i + j / 64)), (0, ((3 * i + j / 64 : Nat) : Int)), (2, 26)]) (w' := wQ) (n' := 142) rfl ?_
                      refine qG.gn (P := 64 = 0) (pc' := 119) (ls' := [(2, 24), (2, 64), (0, ((i : Nat) : Int)), (0, ntF (w 65) (w 25 i) 16), (0, ((j : Nat) : Int))]) (st' := [(0, qrem ((j : Nat) : Int) 64), (1, 1), (1, wQ 26 (3 * i + j / 64)), (0, ((3 * i + j / 64 : Nat) : Int)), (2, 26)]) (w' := wQ) (n' := 142) rfl (by decide) ?_
                      rw [show qrem ((j : Nat) : Int) 64 = ((j % 64 : Nat) : Int) from (q64 j (by omega)).2]
                      refine qG.blk 2 (pc' := 121) (ls' := [(2, 24), (2, 64), (0, ((i : Nat) : Int)), (0, ntF (w 65) (w 25 i) 16), (0, ((j : Nat) : Int))]) (st' := [(1, qlor (wQ 26 (3 * i + j / 64)) (qlshl 1 ((j % 64 : Nat) : Int))), (0, ((3 * i + j / 64 : Nat) : Int)), (2, 26)]) (w' := wQ) (n' := 142) rfl ?_
                      refine qG.lst (m := 540) rfl rfl (by omega) (by decide) ?_
                      show qG none (d + 1) 97 122 [(2, 24), (2, 64), (0, ((i : Nat) : Int)), (0, ntF (w 65) (w 25 i) 16), (0, ((j : Nat) : Int))] [] (qup wQ 26 (3 * i + j / 64) (qlor (wQ 26 (3 * i + j / 64)) (qlshl 1 ((j % 64 : Nat) : Int)))) 142 Q9
                      refine qG.blk 1 (pc' := 125) (ls' := [(2, 24), (2, 64), (0, ((i : Nat) : Int)), (0, ntF (w 65) (w 25 i) 16), (0, wrp (((j : Nat) : Int) + 1))]) (st' := []) (w' := (qup wQ 26 (3 * i + j / 64) (qlor (wQ 26 (3 * i + j / 64)) (qlshl 1 ((j % 64 : Nat) : Int))))) (n' := 142) rfl ?_
                      rw [show wrp (((j : Nat) : Int) + 1) = ((j + 1 : Nat) : Int) from wrp_id (by omega) (by omega)]
                      refine qG.blk 1 (pc' := 55) (ls' := [(2, 24), (2, 64), (0, ((i : Nat) : Int)), (0, ntF (w 65) (w 25 i) 16), (0, ((j + 1 : Nat) : Int))]) (st' := []) (w' := (qup wQ 26 (3 * i + j / 64) (qlor (wQ 26 (3 * i + j / 64)) (qlshl 1 ((j % 64 : Nat) : Int))))) (n' := 142) rfl ?_
                      exact ih55 _ (by omega) (j + 1) ((qup wQ 26 (3 * i + j / 64) (qlor (wQ 26 (3 * i + j / 64)) (qlshl 1 ((j % 64 : Nat) : Int))))) rfl (⟨by omega, hQ.yes (by omega) (by omega) hN18 (by unfold mvX; first | (rw [decide_eq_true (by omega), Bool.true_or]; done) | (rw [b01_1 hmv, Bool.or_true]; done))⟩)
                · exfalso; omega
              · skip
                refine qG.blk 1 (pc' := 131) (ls' := [(2, 24), (2, 64), (0, wrp (((i : Nat) : Int) + 1)), (0, ntF (w 65) (w 25 i) 16), (0, ((j : Nat) : Int))]) (st' := []) (w' := wQ) (n' := 142) rfl ?_
                rw [show wrp (((i : Nat) : Int) + 1) = ((i + 1 : Nat) : Int) from wrp_id (by omega) (by omega)]
                refine qG.blk 1 (pc' := 26) (ls' := [(2, 24), (2, 64), (0, ((i + 1 : Nat) : Int)), (0, ntF (w 65) (w 25 i) 16), (0, ((j : Nat) : Int))]) (st' := []) (w' := wQ) (n' := 142) rfl ?_
                exact ih26 _ (by omega) (i + 1) (wQ) ((0, ntF (w 65) (w 25 i) 16)) ((0, ((j : Nat) : Int))) rfl (⟨by omega, hQ.row (by omega)⟩)
            exact L55 _ (0) (wM) rfl (⟨Nat.zero_le _, hM⟩)
          · exfalso; omega
        · skip
          refine qG.retv rfl rfl ?_
          subst hQ9
          exact ⟨rfl, rfl, by rw [show N = i by omega] at hM ⊢; exact hM⟩
      exact L26 _ (0) (wZ) ((9, 0)) ((9, 0)) rfl (⟨Nat.zero_le _, MVT.z (fun q hq => hZ q (by omega)) hZo hZI⟩)
  exact L2 _ (0) (w) rfl (⟨Nat.zero_le _, fun q hq => absurd hq (Nat.not_lt_zero q), fun _ _ _ => rfl, hI⟩)
theorem K_findMv69 {d : Nat} (hd : 2 ≤ d) (N : Nat) (hN18 : N ≤ 180) (w : qW) (hI : yInv zgf zga zra zSp w) (hN : w 24 3 = (N : Int)) (h25 : ∀ j, 0 ≤ w 25 j ∧ w 25 j ≤ 65535) : qG none d 97 0 [(2, 24), (2, 69), (9, 0), (9, 0), (9, 0)] [] w 142 (fun (r : qV) (w1 : qW) (n1 : Nat) => r = (9, 0) ∧ n1 = 142 ∧ MVT (w 70) N w N 0 w1) := by
  generalize hQ9 : (fun (r : qV) (w1 : qW) (n1 : Nat) => r = (9, 0) ∧ n1 = 142 ∧ MVT (w 70) N w N 0 w1) = Q9
  obtain ⟨N5, hN5⟩ : ∃ N : Int, N = 540 := ⟨_, rfl⟩
  obtain ⟨N1, hN1⟩ : ∃ N : Int, N = 180 := ⟨_, rfl⟩
  obtain ⟨d, rfl⟩ : ∃ d9, d = d9 + 1 := ⟨d - 1, by omega⟩
  refine qG.blk 2 (pc' := 2) (ls' := [(2, 24), (2, 69), (0, 0), (9, 0), (9, 0)]) (st' := []) (w' := w) (n' := 142) rfl ?_
  have L2 : ∀ (m9 : Nat) (i : Nat) (wZ : qW), 540 - i = m9 → (i ≤ 540 ∧ (∀ q, q < i → wZ 26 q = 0) ∧ (∀ q k, q ≠ 26 → wZ q k = w q k) ∧ yInv zgf zga zra zSp wZ) → qG none (d + 1) 97 2 [(2, 24), (2, 69), (0, ((i : Nat) : Int)), (9, 0), (9, 0)] [] wZ 142 Q9 := by
    intro m9
    induction m9 using Nat.strongRecOn with
    | ind m9 ih2 =>
    intro i wZ hm2 hI2
    obtain ⟨hi540, hZ, hZo, hZI⟩ := hI2
    refine qG.blk 3 (pc' := 7) (ls' := [(2, 24), (2, 69), (0, ((i : Nat) : Int)), (9, 0), (9, 0)]) (st' := [(2, wZ 24 5), (0, ((i : Nat) : Int))]) (w' := wZ) (n' := 142) rfl ?_
    rw [show wZ 24 5 = 26 from (hZo 24 5 (by decide)).trans (zref hI rfl rfl)]
    refine qG.blk 1 (pc' := 8) (ls' := [(2, 24), (2, 69), (0, ((i : Nat) : Int)), (9, 0), (9, 0)]) (st' := [(0, 540), (0, ((i : Nat) : Int))]) (w' := wZ) (n' := 142) rfl ?_
    rw [show (540 : Int) = N5 from hN5.symm]
    refine qG.br (P := ((i : Nat) : Int) < N5) (pc1 := 11) (pc2 := 24) (st1 := []) rfl (fun h8 => ?_) (fun h8 => ?_)
    · skip
      refine qG.blk 2 (pc' := 15) (ls' := [(2, 24), (2, 69), (0, ((i : Nat) : Int)), (9, 0), (9, 0)]) (st' := [(2, wZ 24 5)]) (w' := wZ) (n' := 142) rfl ?_
      rw [show wZ 24 5 = 26 from (hZo 24 5 (by decide)).trans (zref hI rfl rfl)]
      refine qG.blk 2 (pc' := 17) (ls' := [(2, 24), (2, 69), (0, ((i : Nat) : Int)), (9, 0), (9, 0)]) (st' := [(1, 0), (0, ((i : Nat) : Int)), (2, 26)]) (w' := wZ) (n' := 142) rfl ?_
      refine qG.lst (m := 540) rfl rfl (by omega) (by decide) ?_
      show qG none (d + 1) 97 18 [(2, 24), (2, 69), (0, ((i : Nat) : Int)), (9, 0), (9, 0)] [] (qup wZ 26 i 0) 142 Q9
      refine qG.blk 1 (pc' := 21) (ls' := [(2, 24), (2, 69), (0, wrp (((i : Nat) : Int) + 1)), (9, 0), (9, 0)]) (st' := []) (w' := (qup wZ 26 i 0)) (n' := 142) rfl ?_
      rw [show wrp (((i : Nat) : Int) + 1) = ((i + 1 : Nat) : Int) from wrp_id (by omega) (by omega)]
      refine qG.blk 1 (pc' := 2) (ls' := [(2, 24), (2, 69), (0, ((i + 1 : Nat) : Int)), (9, 0), (9, 0)]) (st' := []) (w' := (qup wZ 26 i 0)) (n' := 142) rfl ?_
      exact ih2 _ (by omega) (i + 1) ((qup wZ 26 i 0)) rfl (⟨by omega, rows.nx (f := fun _ => 0) hZ rfl, fun q k hq => (qup_nq hq).trans (hZo q k hq), mput hZI ⟨by decide, by decide⟩⟩)
    · skip
      refine qG.blk 2 (pc' := 26) (ls' := [(2, 24), (2, 69), (0, 0), (9, 0), (9, 0)]) (st' := []) (w' := wZ) (n' := 142) rfl ?_
      have L26 : ∀ (m9 : Nat) (i : Nat) (wM : qW) (l3 l4 : qV), 180 - i = m9 → (i ≤ N ∧ MVT (w 70) N w i 0 wM) → qG none (d + 1) 97 26 [(2, 24), (2, 69), (0, ((i : Nat) : Int)), l3, l4] [] wM 142 Q9 := by
        intro m9
        induction m9 using Nat.strongRecOn with
        | ind m9 ih26 =>
        intro i wM l3 l4 hm26 hI26
        obtain ⟨hiN, hM⟩ := hI26
        have hMo := hM.2.1
        refine qG.blk 3 (pc' := 31) (ls' := [(2, 24), (2, 69), (0, ((i : Nat) : Int)), l3, l4]) (st' := [(0, wM 24 3), (0, ((i : Nat) : Int))]) (w' := wM) (n' := 142) rfl ?_
        rw [show wM 24 3 = ((N : Nat) : Int) from (hMo 24 3 (by decide)).trans hN]
        refine qG.br (P := ((i : Nat) : Int) < ((N : Nat) : Int)) (pc1 := 34) (pc2 := 134) (st1 := []) rfl (fun hi31 => ?_) (fun hi31 => ?_)
        · skip
          refine qG.blk 2 (pc' := 38) (ls' := [(2, 24), (2, 69), (0, ((i : Nat) : Int)), l3, l4]) (st' := [(0, 180), (0, ((i : Nat) : Int))]) (w' := wM) (n' := 142) rfl ?_
          rw [show (180 : Int) = N1 from hN1.symm]
          refine qG.br (P := ((i : Nat) : Int) < N1) (pc1 := 41) (pc2 := 134) (st1 := []) rfl (fun hi38 => ?_) (fun hi38 => ?_)
          · skip
            refine qG.blk 3 (pc' := 46) (ls' := [(2, 24), (2, 69), (0, ((i : Nat) : Int)), l3, l4]) (st' := [(2, wM 24 4), (2, 69)]) (w' := wM) (n' := 142) rfl ?_
            rw [show wM 24 4 = 25 from (hMo 24 4 (by decide)).trans (zref hI rfl rfl)]
            refine qG.blk 1 (pc' := 47) (ls' := [(2, 24), (2, 69), (0, ((i : Nat) : Int)), l3, l4]) (st' := [(0, ((i : Nat) : Int)), (2, 25), (2, 69)]) (w' := wM) (n' := 142) rfl ?_
            refine qG.ild (m := 180) rfl rfl (by omega) (by decide) ?_
            show qG none (d + 1) 97 48 [(2, 24), (2, 69), (0, ((i : Nat) : Int)), l3, l4] [(0, wM 25 i), (2, 69)] wM 142 Q9
            rw [show wM 25 i = w 25 i from hMo 25 i (by decide)]
            refine qG.call (t := 28) (na := 2) (sk := 1) (md := 1) (ls1 := [(2, 69), (0, w 25 i), (9, 0), (9, 0)]) (r1 := []) rfl rfl rfl rfl rfl (K_nextTo69 (Nat.zero_le _) (w 25 i) wM ((hMo 69 2 (by decide)).trans (zref hI rfl rfl))) ?_
            rintro _ w7 _ ⟨rfl, hw7, rfl⟩
            rw [hw7, show ntF (wM 70) (w 25 i) 16 = ntF (w 70) (w 25 i) 16 from by rw [show wM 70 = w 70 from funext fun k => hMo 70 k (by decide)]]
            show qG none (d + 1) 97 51 [(2, 24), (2, 69), (0, ((i : Nat) : Int)), l3, l4] [(0, ntF (w 70) (w 25 i) 16)] wM 142 Q9
            refine qG.blk 3 (pc' := 55) (ls' := [(2, 24), (2, 69), (0, ((i : Nat) : Int)), (0, ntF (w 70) (w 25 i) 16), (0, 0)]) (st' := []) (w' := wM) (n' := 142) rfl ?_
            have L55 : ∀ (m9 : Nat) (j : Nat) (wQ : qW), 180 - j = m9 → (j ≤ N ∧ MVT (w 70) N w i j wQ) → qG none (d + 1) 97 55 [(2, 24), (2, 69), (0, ((i : Nat) : Int)), (0, ntF (w 70) (w 25 i) 16), (0, ((j : Nat) : Int))] [] wQ 142 Q9 := by
              intro m9
              induction m9 using Nat.strongRecOn with
              | ind m9 ih55 =>
              intro j wQ hm55 hI55
              obtain ⟨hjN, hQ⟩ := hI55
              have hQo := hQ.2.1
              refine qG.blk 3 (pc' := 61) (ls' := [(2, 24), (2, 69), (0, ((i : Nat) : Int)), (0, ntF (w 70) (w 25 i) 16), (0, ((j : Nat) : Int))]) (st' := [(0, wQ 24 3), (0, ((j : Nat) : Int))]) (w' := wQ) (n' := 142) rfl ?_
              rw [show wQ 24 3 = ((N : Nat) : Int) from (hQo 24 3 (by decide)).trans hN]
              refine qG.br (P := ((j : Nat) : Int) < ((N : Nat) : Int)) (pc1 := 64) (pc2 := 128) (st1 := []) rfl (fun hj61 => ?_) (fun hj61 => ?_)
              · skip
                refine qG.blk 2 (pc' := 69) (ls' := [(2, 24), (2, 69), (0, ((i : Nat) : Int)), (0, ntF (w 70) (w 25 i) 16), (0, ((j : Nat) : Int))]) (st' := [(0, 180), (0, ((j : Nat) : Int))]) (w' := wQ) (n' := 142) rfl ?_
                rw [show (180 : Int) = N1 from hN1.symm]
                refine qG.br (P := ((j : Nat) : Int) < N1) (pc1 := 72) (pc2 := 128) (st1 := []) rfl (fun hj69 => ?_) (fun hj69 => ?_)
                · skip
                  refine qG.blk 2 (pc' := 75) (ls' := [(2, 24), (2, 69), (0, ((i : Nat) : Int)), (0, ntF (w 70) (w 25 i) 16), (0, ((j : Nat) : Int))]) (st' := [(0, ((j : Nat) : Int)), (0, ((i : Nat) : Int))]) (w' := wQ) (n' := 142) rfl ?_
                  refine qG.br (P := ((i : Nat) : Int) = ((j : Nat) : Int)) (pc1 := 98) (pc2 := 78) (st1 := []) rfl (fun hij => ?_) (fun hij => ?_)
                  · skip
                    refine qG.blk 2 (pc' := 102) (ls' := [(2, 24), (2, 69), (0, ((i : Nat) : Int)), (0, ntF (w 70) (w 25 i) 16), (0, ((j : Nat) : Int))]) (st' := [(2, wQ 24 5)]) (w' := wQ) (n' := 142) rfl ?_
                    rw [show wQ 24 5 = 26 from (hQo 24 5 (by decide)).trans (zref hI rfl rfl)]
                    refine qG.blk 3 (pc' := 105) (ls' := [(2, 24), (2, 69), (0, ((i : Nat) : Int)), (0, ntF (w 70) (w 25 i) 16), (0, ((j : Nat) : Int))]) (st' := [(0, wrp (((i : Nat) : Int) * 3)), (2, 26)]) (w' := wQ) (n' := 142) rfl ?_
                    rw [show wrp (((i : Nat) : Int) * 3) = ((3 * i : Nat) : Int) from by rw [wrp_id (by omega) (by omega)]; omega]
                    refine qG.blk 2 (pc' := 109) (ls' := [(2, 24), (2, 69), (0, ((i : Nat) : Int)), (0, ntF (w 70) (w 25 i) 16), (0, ((j : Nat) : Int))]) (st' := [(0, 64), (0, ((j : Nat) : Int)), (0, ((3 * i : Nat) : Int)), (2, 26)]) (w' := wQ) (n' := 142) rfl ?_
                    refine qG.gn (P := 64 = 0) (pc' := 110) (ls' := [(2, 24), (2, 69), (0, ((i : Nat) : Int)), (0, ntF (w 70) (w 25 i) 16), (0, ((j : Nat) : Int))]) (st' := [(0, qdiv ((j : Nat) : Int) 64), (0, ((3 * i : Nat) : Int)), (2, 26)]) (w' := wQ) (n' := 142) rfl (by decide) ?_
                    rw [show qdiv ((j : Nat) : Int) 64 = ((j / 64 : Nat) : Int) from (q64 j (by omega)).1]
                    refine qG.blk 1 (pc' := 111) (ls' := [(2, 24), (2, 69), (0, ((i : Nat) : Int)), (0, ntF (w 70) (w 25 i) 16), (0, ((j : Nat) : Int))]) (st' := [(0, wrp (((3 * i : Nat) : Int) + ((j / 64 : Nat) : Int))), (2, 26)]) (w' := wQ) (n' := 142) rfl ?_
                    rw [show wrp (((3 * i : Nat) : Int) + ((j / 64 : Nat) : Int)) = ((3 * i + j / 64 : Nat) : Int) from by rw [wrp_id (by omega) (by omega)]; omega]
                    refine qG.blk 1 (pc' := 112) (ls' := [(2, 24), (2, 69), (0, ((i : Nat) : Int)), (0, ntF (w 70) (w 25 i) 16), (0, ((j : Nat) : Int))]) (st' := [(0, ((3 * i + j / 64 : Nat) : Int)), (2, 26), (0, ((3 * i + j / 64 : Nat) : Int)), (2, 26)]) (w' := wQ) (n' := 142) rfl ?_
                    refine qG.lld (m := 540) rfl rfl (by omega) (by decide) ?_
                    show qG none (d + 1) 97 113 [(2, 24), (2, 69), (0, ((i : Nat) : Int)), (0, ntF (w 70) (w 25 i) 16), (0, ((j : Nat) : Int))] [(1, wQ 26 (3 * i + j / 64)), (0, ((3 * i + j / 64 : Nat) : Int)), (2, 26)] wQ 142 Q9
                    refine qG.blk 3 (pc' := 118) (ls' := [(2, 24), (2, 69), (0, ((i : Nat) : Int)), (0, ntF (w 70) (w 25 i) 16), (0, ((j : Nat) : Int))]) (st' := [(0, 64), (0, ((j : Nat) : Int)), (1, 1), (1, wQ 26 (3 * i + j / 64)), (0, ((3 * i + j / 64 : Nat) : Int)), (2, 26)]) (w' := wQ) (n' := 142) rfl ?_
                    refine qG.gn (P := 64 = 0) (pc' := 119) (ls' := [(2, 24), (2, 69), (0, ((i : Nat) : Int)), (0, ntF (w 70) (w 25 i) 16), (0, ((j : Nat) : Int))]) (st' := [(0, qrem ((j : Nat) : Int) 64), (1, 1), (1, wQ 26 (3 * i + j / 64)), (0, ((3 * i + j / 64 : Nat) : Int)), (2, 26)]) (w' := wQ) (n' := 142) rfl (by decide) ?_
                    rw [show qrem ((j : Nat) : Int) 64 = ((j % 64 : Nat) : Int) from (q64 j (by omega)).2]
                    refine qG.blk 2 (pc' := 121) (ls' := [(2, 24), (2, 69), (0, ((i : Nat) : Int)), (0, ntF (w 70) (w 25 i) 16), (0, ((j : Nat) : Int))]) (st' := [(1, qlor (wQ 26 (3 * i + j / 64)) (qlshl 1 ((j % 64 : Nat) : Int))), (0, ((3 * i + j / 64 : Nat) : Int)), (2, 26)]) (w' := wQ) (n' := 142) rfl ?_
                    refine qG.lst (m := 540) rfl rfl (by omega) (by decide) ?_
                    show qG none (d + 1) 97 122 [(2, 24), (2, 69), (0, ((i : Nat) : Int)), (0, ntF (w 70) (w 25 i) 16), (0, ((j : Nat) : Int))] [] (qup wQ 26 (3 * i + j / 64) (qlor (wQ 26 (3 * i + j / 64)) (qlshl 1 ((j % 64 : Nat) : Int)))) 142 Q9
                    refine qG.blk 1 (pc' := 125) (ls' := [(2, 24), (2, 69), (0, ((i : Nat) : Int)), (0, ntF (w 70) (w 25 i) 16), (0, wrp (((j : Nat) : Int) + 1))]) (st' := []) (w' := (qup wQ 26 (3 * i + j / 64) (qlor (wQ 26 (3 * i + j / 64)) (qlshl 1 ((j % 64 : Nat) : Int))))) (n' := 142) rfl ?_
                    rw [show wrp (((j : Nat) : Int) + 1) = ((j + 1 : Nat) : Int) from wrp_id (by omega) (by omega)]
                    refine qG.blk 1 (pc' := 55) (ls' := [(2, 24), (2, 69), (0, ((i : Nat) : Int)), (0, ntF (w 70) (w 25 i) 16), (0, ((j + 1 : Nat) : Int))]) (st' := []) (w' := (qup wQ 26 (3 * i + j / 64) (qlor (wQ 26 (3 * i + j / 64)) (qlshl 1 ((j % 64 : Nat) : Int))))) (n' := 142) rfl ?_
                    exact ih55 _ (by omega) (j + 1) ((qup wQ 26 (3 * i + j / 64) (qlor (wQ 26 (3 * i + j / 64)) (qlshl 1 ((j % 64 : Nat) : Int))))) rfl (⟨by omega, hQ.yes (by omega) (by omega) hN18 (by unfold mvX; first | (rw [decide_eq_true (by omega), Bool.true_or]; done) | (rw [b01_1 hmv, Bool.or_true]; done))⟩)
                  · skip
                    refine qG.blk 2 (pc' := 82) (ls' := [(2, 24), (2, 69), (0, ((i : Nat) : Int)), (0, ntF (w 70) (w 25 i) 16), (0, ((j : Nat) : Int))]) (st' := [(2, wQ 24 4)]) (w' := wQ) (n' := 142) rfl ?_
                    rw [show wQ 24 4 = 25 from (hQo 24 4 (by decide)).trans (zref hI rfl rfl)]
                    refine qG.blk 1 (pc' := 83) (ls' := [(2, 24), (2, 69), (0, ((i : Nat) : Int)), (0, ntF (w 70) (w 25 i) 16), (0, ((j : Nat) : Int))]) (st' := [(0, ((i : Nat) : Int)), (2, 25)]) (w' := wQ) (n' := 142) rfl ?_
                    refine qG.ild (m := 180) rfl rfl (by omega) (by decide) ?_
                    show qG none (d + 1) 97 84 [(2, 24), (2, 69), (0, ((i : Nat) : Int)), (0, ntF (w 70) (w 25 i) 16), (0, ((j : Nat) : Int))] [(0, wQ 25 i)] wQ 142 Q9
                    rw [show wQ 25 i = w 25 i from hQo 25 i (by decide)]
                    refine qG.blk 2 (pc' := 88) (ls' := [(2, 24), (2, 69), (0, ((i : Nat) : Int)), (0, ntF (w 70) (w 25 i) 16), (0, ((j : Nat) : Int))]) (st' := [(2, wQ 24 4), (0, w 25 i)]) (w' := wQ) (n' := 142) rfl ?_
                    rw [show wQ 24 4 = 25 from (hQo 24 4 (by decide)).trans (zref hI rfl rfl)]
                    refine qG.blk 1 (pc' := 90) (ls' := [(2, 24), (2, 69), (0, ((i : Nat) : Int)), (0, ntF (w 70) (w 25 i) 16), (0, ((j : Nat) : Int))]) (st' := [(0, ((j : Nat) : Int)), (2, 25), (0, w 25 i)]) (w' := wQ) (n' := 142) rfl ?_
                    refine qG.ild (m := 180) rfl rfl (by omega) (by decide) ?_
                    show qG none (d + 1) 97 91 [(2, 24), (2, 69), (0, ((i : Nat) : Int)), (0, ntF (w 70) (w 25 i) 16), (0, ((j : Nat) : Int))] [(0, wQ 25 j), (0, w 25 i)] wQ 142 Q9
                    rw [show wQ 25 j = w 25 j from hQo 25 j (by decide)]
                    refine qG.blk 1 (pc' := 92) (ls' := [(2, 24), (2, 69), (0, ((i : Nat) : Int)), (0, ntF (w 70) (w 25 i) 16), (0, ((j : Nat) : Int))]) (st' := [(0, ntF (w 70) (w 25 i) 16), (0, w 25 j), (0, w 25 i)]) (w' := wQ) (n' := 142) rfl ?_
                    refine qG.call (t := 98) (na := 3) (sk := 0) (md := 0) (ls1 := [(0, w 25 i), (0, w 25 j), (0, ntF (w 70) (w 25 i) 16), (9, 0)]) (r1 := []) rfl rfl rfl rfl rfl (K_isMoveX (by omega) (w 25 i) (w 25 j) (ntF (w 70) (w 25 i) 16) (h25 j) wQ) ?_
                    rintro _ w7 _ ⟨rfl, hw7, rfl⟩
                    rw [hw7]
                    show qG none (d + 1) 97 95 [(2, 24), (2, 69), (0, ((i : Nat) : Int)), (0, ntF (w 70) (w 25 i) 16), (0, ((j : Nat) : Int))] [(0, b01 (imB (w 25 i) (w 25 j) (ntF (w 70) (w 25 i) 16)))] wQ 142 Q9
                    refine qG.br (P := b01 (imB (w 25 i) (w 25 j) (ntF (w 70) (w 25 i) 16)) = 0) (pc1 := 122) (pc2 := 98) (st1 := []) rfl (fun hmv => ?_) (fun hmv => ?_)
                    · skip
                      refine qG.blk 1 (pc' := 125) (ls' := [(2, 24), (2, 69), (0, ((i : Nat) : Int)), (0, ntF (w 70) (w 25 i) 16), (0, wrp (((j : Nat) : Int) + 1))]) (st' := []) (w' := wQ) (n' := 142) rfl ?_
                      rw [show wrp (((j : Nat) : Int) + 1) = ((j + 1 : Nat) : Int) from wrp_id (by omega) (by omega)]
                      refine qG.blk 1 (pc' := 55) (ls' := [(2, 24), (2, 69), (0, ((i : Nat) : Int)), (0, ntF (w 70) (w 25 i) 16), (0, ((j + 1 : Nat) : Int))]) (st' := []) (w' := wQ) (n' := 142) rfl ?_
                      exact ih55 _ (by omega) (j + 1) (wQ) rfl (⟨by omega, hQ.no (by unfold mvX; rw [decide_eq_false (by omega), b01_0 hmv]; rfl)⟩)
                    · skip
                      refine qG.blk 2 (pc' := 102) (ls' := [(2, 24), (2, 69), (0, ((i : Nat) : Int)), (0, ntF (w 70) (w 25 i) 16), (0, ((j : Nat) : Int))]) (st' := [(2, wQ 24 5)]) (w' := wQ) (n' := 142) rfl ?_
                      rw [show wQ 24 5 = 26 from (hQo 24 5 (by decide)).trans (zref hI rfl rfl)]
                      refine qG.blk 3 (pc' := 105) (ls' := [(2, 24), (2, 69), (0, ((i : Nat) : Int)), (0, ntF (w 70) (w 25 i) 16), (0, ((j : Nat) : Int))]) (st' := [(0, wrp (((i : Nat) : Int) * 3)), (2, 26)]) (w' := wQ) (n' := 142) rfl ?_
                      rw [show wrp (((i : Nat) : Int) * 3) = ((3 * i : Nat) : Int) from by rw [wrp_id (by omega) (by omega)]; omega]
                      refine qG.blk 2 (pc' := 109) (ls' := [(2, 24), (2, 69), (0, ((i : Nat) : Int)), (0, ntF (w 70) (w 25 i) 16), (0, ((j : Nat) : Int))]) (st' := [(0, 64), (0, ((j : Nat) : Int)), (0, ((3 * i : Nat) : Int)), (2, 26)]) (w' := wQ) (n' := 142) rfl ?_
                      refine qG.gn (P := 64 = 0) (pc' := 110) (ls' := [(2, 24), (2, 69), (0, ((i : Nat) : Int)), (0, ntF (w 70) (w 25 i) 16), (0, ((j : Nat) : Int))]) (st' := [(0, qdiv ((j : Nat) : Int) 64), (0, ((3 * i : Nat) : Int)), (2, 26)]) (w' := wQ) (n' := 142) rfl (by decide) ?_
                      rw [show qdiv ((j : Nat) : Int) 64 = ((j / 64 : Nat) : Int) from (q64 j (by omega)).1]
                      refine qG.blk 1 (pc' := 111) (ls' := [(2, 24), (2, 69), (0, ((i : Nat) : Int)), (0, ntF (w 70) (w 25 i) 16), (0, ((j : Nat) : Int))]) (st' := [(0, wrp (((3 * i : Nat) : Int) + ((j / 64 : Nat) : Int))), (2, 26)]) (w' := wQ) (n' := 142) rfl ?_
                      rw [show wrp (((3 * i : Nat) : Int) + ((j / 64 : Nat) : Int)) = ((3 * i + j / 64 : Nat) : Int) from by rw [wrp_id (by omega) (by omega)]; omega]
                      refine qG.blk 1 (pc' := 112) (ls' := [(2, 24), (2, 69), (0, ((i : Nat) : Int)), (0, ntF (w 70) (w 25 i) 16), (0, ((j : Nat) : Int))]) (st' := [(0, ((3 * i + j / 64 : Nat) : Int)), (2, 26), (0, ((3 * i + j / 64 : Nat) : Int)), (2, 26)]) (w' := wQ) (n' := 142) rfl ?_
                      refine qG.lld (m := 540) rfl rfl (by omega) (by decide) ?_
                      show qG none (d + 1) 97 113 [(2, 24), (2, 69), (0, ((i : Nat) : Int)), (0, ntF (w 70) (w 25 i) 16), (0, ((j : Nat) : Int))] [(1, wQ 26 (3 * i + j / 64)), (0, ((3 * i + j / 64 : Nat) : Int)), (2, 26)] wQ 142 Q9
                      refine qG.blk 3 (pc' := 118) (ls' := [(2, 24), (2, 69), (0, ((i : Nat) : Int)), (0, ntF (w 70) (w 25 i) 16), (0, ((j : Nat) : Int))]) (st' := [(0, 64), (0, ((j : Nat) : Int)), (1, 1), (1, wQ 26 (3 * i + j / 64)), (0, ((3 * i + j / 64 : Nat) : Int)), (2, 26)]) (w' := wQ) (n' := 142) rfl ?_
                      refine qG.gn (P := 64 = 0) (pc' := 119) (ls' := [(2, 24), (2, 69), (0, ((i : Nat) : Int)), (0, ntF (w 70) (w 25 i) 16), (0, ((j : Nat) : Int))]) (st' := [(0, qrem ((j : Nat) : Int) 64), (1, 1), (1, wQ 26 (3 * i + j / 64)), (0, ((3 * i + j / 64 : Nat) : Int)), (2, 26)]) (w' := wQ) (n' := 142) rfl (by decide) ?_
                      rw [show qrem ((j : Nat) : Int) 64 = ((j % 64 : Nat) : Int) from (q64 j (by omega)).2]
                      refine qG.blk 2 (pc' := 121) (ls' := [(2, 24), (2, 69), (0, ((i : Nat) : Int)), (0, ntF (w 70) (w 25 i) 16), (0, ((j : Nat) : Int))]) (st' := [(1, qlor (wQ 26 (3 * i + j / 64)) (qlshl 1 ((j % 64 : Nat) : Int))), (0, ((3 * i + j / 64 : Nat) : Int)), (2, 26)]) (w' := wQ) (n' := 142) rfl ?_
                      refine qG.lst (m := 540) rfl rfl (by omega) (by decide) ?_
                      show qG none (d + 1) 97 122 [(2, 24), (2, 69), (0, ((i : Nat) : Int)), (0, ntF (w 70) (w 25 i) 16), (0, ((j : Nat) : Int))] [] (qup wQ 26 (3 * i + j / 64) (qlor (wQ 26 (3 * i + j / 64)) (qlshl 1 ((j % 64 : Nat) : Int)))) 142 Q9
                      refine qG.blk 1 (pc' := 125) (ls' := [(2, 24), (2, 69), (0, ((i : Nat) : Int)), (0, ntF (w 70) (w 25 i) 16), (0, wrp (((j : Nat) : Int) + 1))]) (st' := []) (w' := (qup wQ 26 (3 * i + j / 64) (qlor (wQ 26 (3 * i + j / 64)) (qlshl 1 ((j % 64 : Nat) : Int))))) (n' := 142) rfl ?_
                      rw [show wrp (((j : Nat) : Int) + 1) = ((j + 1 : Nat) : Int) from wrp_id (by omega) (by omega)]
                      refine qG.blk 1 (pc' := 55) (ls' := [(2, 24), (2, 69), (0, ((i : Nat) : Int)), (0, ntF (w 70) (w 25 i) 16), (0, ((j + 1 : Nat) : Int))]) (st' := []) (w' := (qup wQ 26 (3 * i + j / 64) (qlor (wQ 26 (3 * i + j / 64)) (qlshl 1 ((j % 64 : Nat) : Int))))) (n' := 142) rfl ?_
                      exact ih55 _ (by omega) (j + 1) ((qup wQ 26 (3 * i + j / 64) (qlor (wQ 26 (3 * i + j / 64)) (qlshl 1 ((j % 64 : Nat) : Int))))) rfl (⟨by omega, hQ.yes (by omega) (by omega) hN18 (by unfold mvX; first | (rw [decide_eq_true (by omega), Bool.true_or]; done) | (rw [b01_1 hmv, Bool.or_true]; done))⟩)
                · exfalso; omega
              · skip
                refine qG.blk 1 (pc' := 131) (ls' := [(2, 24), (2, 69), (0, wrp (((i : Nat) : Int) + 1)), (0, ntF (w 70) (w 25 i) 16), (0, ((j : Nat) : Int))]) (st' := []) (w' := wQ) (n' := 142) rfl ?_
                rw [show wrp (((i : Nat) : Int) + 1) = ((i + 1 : Nat) : Int) from wrp_id (by omega) (by omega)]
                refine qG.blk 1 (pc' := 26) (ls' := [(2, 24), (2, 69), (0, ((i + 1 : Nat) : Int)), (0, ntF (w 70) (w 25 i) 16), (0, ((j : Nat) : Int))]) (st' := []) (w' := wQ) (n' := 142) rfl ?_
                exact ih26 _ (by omega) (i + 1) (wQ) ((0, ntF (w 70) (w 25 i) 16)) ((0, ((j : Nat) : Int))) rfl (⟨by omega, hQ.row (by omega)⟩)
            exact L55 _ (0) (wM) rfl (⟨Nat.zero_le _, hM⟩)
          · exfalso; omega
        · skip
          refine qG.retv rfl rfl ?_
          subst hQ9
          exact ⟨rfl, rfl, by rw [show N = i by omega] at hM ⊢; exact hM⟩
      exact L26 _ (0) (wZ) ((9, 0)) ((9, 0)) rfl (⟨Nat.zero_le _, MVT.z (fun q hq => hZ q (by omega)) hZo hZI⟩)
  exact L2 _ (0) (w) rfl (⟨Nat.zero_le _, fun q hq => absurd hq (Nat.not_lt_zero q), fun _ _ _ => rfl, hI⟩)
theorem K_findMv74 {d : Nat} (hd : 2 ≤ d) (N : Nat) (hN18 : N ≤ 180) (w : qW) (hI : yInv zgf zga zra zSp w) (hN : w 24 3 = (N : Int)) (h25 : ∀ j, 0 ≤ w 25 j ∧ w 25 j ≤ 65535) : qG none d 97 0 [(2, 24), (2, 74), (9, 0), (9, 0), (9, 0)] [] w 142 (fun (r : qV) (w1 : qW) (n1 : Nat) => r = (9, 0) ∧ n1 = 142 ∧ MVT (w 75) N w N 0 w1) := by
  generalize hQ9 : (fun (r : qV) (w1 : qW) (n1 : Nat) => r = (9, 0) ∧ n1 = 142 ∧ MVT (w 75) N w N 0 w1) = Q9
  obtain ⟨N5, hN5⟩ : ∃ N : Int, N = 540 := ⟨_, rfl⟩
  obtain ⟨N1, hN1⟩ : ∃ N : Int, N = 180 := ⟨_, rfl⟩
  obtain ⟨d, rfl⟩ : ∃ d9, d = d9 + 1 := ⟨d - 1, by omega⟩
  refine qG.blk 2 (pc' := 2) (ls' := [(2, 24), (2, 74), (0, 0), (9, 0), (9, 0)]) (st' := []) (w' := w) (n' := 142) rfl ?_
  have L2 : ∀ (m9 : Nat) (i : Nat) (wZ : qW), 540 - i = m9 → (i ≤ 540 ∧ (∀ q, q < i → wZ 26 q = 0) ∧ (∀ q k, q ≠ 26 → wZ q k = w q k) ∧ yInv zgf zga zra zSp wZ) → qG none (d + 1) 97 2 [(2, 24), (2, 74), (0, ((i : Nat) : Int)), (9, 0), (9, 0)] [] wZ 142 Q9 := by
    intro m9
    induction m9 using Nat.strongRecOn with
    | ind m9 ih2 =>
    intro i wZ hm2 hI2
    obtain ⟨hi540, hZ, hZo, hZI⟩ := hI2
    refine qG.blk 3 (pc' := 7) (ls' := [(2, 24), (2, 74), (0, ((i : Nat) : Int)), (9, 0), (9, 0)]) (st' := [(2, wZ 24 5), (0, ((i : Nat) : Int))]) (w' := wZ) (n' := 142) rfl ?_
    rw [show wZ 24 5 = 26 from (hZo 24 5 (by decide)).trans (zref hI rfl rfl)]
    refine qG.blk 1 (pc' := 8) (ls' := [(2, 24), (2, 74), (0, ((i : Nat) : Int)), (9, 0), (9, 0)]) (st' := [(0, 540), (0, ((i : Nat) : Int))]) (w' := wZ) (n' := 142) rfl ?_
    rw [show (540 : Int) = N5 from hN5.symm]
    refine qG.br (P := ((i : Nat) : Int) < N5) (pc1 := 11) (pc2 := 24) (st1 := []) rfl (fun h8 => ?_) (fun h8 => ?_)
    · skip
      refine qG.blk 2 (pc' := 15) (ls' := [(2, 24), (2, 74), (0, ((i : Nat) : Int)), (9, 0), (9, 0)]) (st' := [(2, wZ 24 5)]) (w' := wZ) (n' := 142) rfl ?_
      rw [show wZ 24 5 = 26 from (hZo 24 5 (by decide)).trans (zref hI rfl rfl)]
      refine qG.blk 2 (pc' := 17) (ls' := [(2, 24), (2, 74), (0, ((i : Nat) : Int)), (9, 0), (9, 0)]) (st' := [(1, 0), (0, ((i : Nat) : Int)), (2, 26)]) (w' := wZ) (n' := 142) rfl ?_
      refine qG.lst (m := 540) rfl rfl (by omega) (by decide) ?_
      show qG none (d + 1) 97 18 [(2, 24), (2, 74), (0, ((i : Nat) : Int)), (9, 0), (9, 0)] [] (qup wZ 26 i 0) 142 Q9
      refine qG.blk 1 (pc' := 21) (ls' := [(2, 24), (2, 74), (0, wrp (((i : Nat) : Int) + 1)), (9, 0), (9, 0)]) (st' := []) (w' := (qup wZ 26 i 0)) (n' := 142) rfl ?_
      rw [show wrp (((i : Nat) : Int) + 1) = ((i + 1 : Nat) : Int) from wrp_id (by omega) (by omega)]
      refine qG.blk 1 (pc' := 2) (ls' := [(2, 24), (2, 74), (0, ((i + 1 : Nat) : Int)), (9, 0), (9, 0)]) (st' := []) (w' := (qup wZ 26 i 0)) (n' := 142) rfl ?_
      exact ih2 _ (by omega) (i + 1) ((qup wZ 26 i 0)) rfl (⟨by omega, rows.nx (f := fun _ => 0) hZ rfl, fun q k hq => (qup_nq hq).trans (hZo q k hq), mput hZI ⟨by decide, by decide⟩⟩)
    · skip
      refine qG.blk 2 (pc' := 26) (ls' := [(2, 24), (2, 74), (0, 0), (9, 0), (9, 0)]) (st' := []) (w' := wZ) (n' := 142) rfl ?_
      have L26 : ∀ (m9 : Nat) (i : Nat) (wM : qW) (l3 l4 : qV), 180 - i = m9 → (i ≤ N ∧ MVT (w 75) N w i 0 wM) → qG none (d + 1) 97 26 [(2, 24), (2, 74), (0, ((i : Nat) : Int)), l3, l4] [] wM 142 Q9 := by
        intro m9
        induction m9 using Nat.strongRecOn with
        | ind m9 ih26 =>
        intro i wM l3 l4 hm26 hI26
        obtain ⟨hiN, hM⟩ := hI26
        have hMo := hM.2.1
        refine qG.blk 3 (pc' := 31) (ls' := [(2, 24), (2, 74), (0, ((i : Nat) : Int)), l3, l4]) (st' := [(0, wM 24 3), (0, ((i : Nat) : Int))]) (w' := wM) (n' := 142) rfl ?_
        rw [show wM 24 3 = ((N : Nat) : Int) from (hMo 24 3 (by decide)).trans hN]
        refine qG.br (P := ((i : Nat) : Int) < ((N : Nat) : Int)) (pc1 := 34) (pc2 := 134) (st1 := []) rfl (fun hi31 => ?_) (fun hi31 => ?_)
        · skip
          refine qG.blk 2 (pc' := 38) (ls' := [(2, 24), (2, 74), (0, ((i : Nat) : Int)), l3, l4]) (st' := [(0, 180), (0, ((i : Nat) : Int))]) (w' := wM) (n' := 142) rfl ?_
          rw [show (180 : Int) = N1 from hN1.symm]
          refine qG.br (P := ((i : Nat) : Int) < N1) (pc1 := 41) (pc2 := 134) (st1 := []) rfl (fun hi38 => ?_) (fun hi38 => ?_)
          · skip
            refine qG.blk 3 (pc' := 46) (ls' := [(2, 24), (2, 74), (0, ((i : Nat) : Int)), l3, l4]) (st' := [(2, wM 24 4), (2, 74)]) (w' := wM) (n' := 142) rfl ?_
            rw [show wM 24 4 = 25 from (hMo 24 4 (by decide)).trans (zref hI rfl rfl)]
            refine qG.blk 1 (pc' := 47) (ls' := [(2, 24), (2, 74), (0, ((i : Nat) : Int)), l3, l4]) (st' := [(0, ((i : Nat) : Int)), (2, 25), (2, 74)]) (w' := wM) (n' := 142) rfl ?_
            refine qG.ild (m := 180) rfl rfl (by omega) (by decide) ?_
            show qG none (d + 1) 97 48 [(2, 24), (2, 74), (0, ((i : Nat) : Int)), l3, l4] [(0, wM 25 i), (2, 74)] wM 142 Q9
            rw [show wM 25 i = w 25 i from hMo 25 i (by decide)]
            refine qG.call (t := 28) (na := 2) (sk := 1) (md := 1) (ls1 := [(2, 74), (0, w 25 i), (9, 0), (9, 0)]) (r1 := []) rfl rfl rfl rfl rfl (K_nextTo74 (Nat.zero_le _) (w 25 i) wM ((hMo 74 2 (by decide)).trans (zref hI rfl rfl))) ?_
            rintro _ w7 _ ⟨rfl, hw7, rfl⟩
            rw [hw7, show ntF (wM 75) (w 25 i) 16 = ntF (w 75) (w 25 i) 16 from by rw [show wM 75 = w 75 from funext fun k => hMo 75 k (by decide)]]
            show qG none (d + 1) 97 51 [(2, 24), (2, 74), (0, ((i : Nat) : Int)), l3, l4] [(0, ntF (w 75) (w 25 i) 16)] wM 142 Q9
            refine qG.blk 3 (pc' := 55) (ls' := [(2, 24), (2, 74), (0, ((i : Nat) : Int)), (0, ntF (w 75) (w 25 i) 16), (0, 0)]) (st' := []) (w' := wM) (n' := 142) rfl ?_
            have L55 : ∀ (m9 : Nat) (j : Nat) (wQ : qW), 180 - j = m9 → (j ≤ N ∧ MVT (w 75) N w i j wQ) → qG none (d + 1) 97 55 [(2, 24), (2, 74), (0, ((i : Nat) : Int)), (0, ntF (w 75) (w 25 i) 16), (0, ((j : Nat) : Int))] [] wQ 142 Q9 := by
              intro m9
              induction m9 using Nat.strongRecOn with
              | ind m9 ih55 =>
              intro j wQ hm55 hI55
              obtain ⟨hjN, hQ⟩ := hI55
              have hQo := hQ.2.1
              refine qG.blk 3 (pc' := 61) (ls' := [(2, 24), (2, 74), (0, ((i : Nat) : Int)), (0, ntF (w 75) (w 25 i) 16), (0, ((j : Nat) : Int))]) (st' := [(0, wQ 24 3), (0, ((j : Nat) : Int))]) (w' := wQ) (n' := 142) rfl ?_
              rw [show wQ 24 3 = ((N : Nat) : Int) from (hQo 24 3 (by decide)).trans hN]
              refine qG.br (P := ((j : Nat) : Int) < ((N : Nat) : Int)) (pc1 := 64) (pc2 := 128) (st1 := []) rfl (fun hj61 => ?_) (fun hj61 => ?_)
              · skip
                refine qG.blk 2 (pc' := 69) (ls' := [(2, 24), (2, 74), (0, ((i : Nat) : Int)), (0, ntF (w 75) (w 25 i) 16), (0, ((j : Nat) : Int))]) (st' := [(0, 180), (0, ((j : Nat) : Int))]) (w' := wQ) (n' := 142) rfl ?_
                rw [show (180 : Int) = N1 from hN1.symm]
                refine qG.br (P := ((j : Nat) : Int) < N1) (pc1 := 72) (pc2 := 128) (st1 := []) rfl (fun hj69 => ?_) (fun hj69 => ?_)
                · skip
                  refine qG.blk 2 (pc' := 75) (ls' := [(2, 24), (2, 74), (0, ((i : Nat) : Int)), (0, ntF (w 75) (w 25 i) 16), (0, ((j : Nat) : Int))]) (st' := [(0, ((j : Nat) : Int)), (0, ((i : Nat) : Int))]) (w' := wQ) (n' := 142) rfl ?_
                  refine qG.br (P := ((i : Nat) : Int) = ((j : Nat) : Int)) (pc1 := 98) (pc2 := 78) (st1 := []) rfl (fun hij => ?_) (fun hij => ?_)
                  · skip
                    refine qG.blk 2 (pc' := 102) (ls' := [(2, 24), (2, 74), (0, ((i : Nat) : Int)), (0, ntF (w 75) (w 25 i) 16), (0, ((j : Nat) : Int))]) (st' := [(2, wQ 24 5)]) (w' := wQ) (n' := 142) rfl ?_
                    rw [show wQ 24 5 = 26 from (hQo 24 5 (by decide)).trans (zref hI rfl rfl)]
                    refine qG.blk 3 (pc' := 105) (ls' := [(2, 24), (2, 74), (0, ((i : Nat) : Int)), (0, ntF (w 75) (w 25 i) 16), (0, ((j : Nat) : Int))]) (st' := [(0, wrp (((i : Nat) : Int) * 3)), (2, 26)]) (w' := wQ) (n' := 142) rfl ?_
                    rw [show wrp (((i : Nat) : Int) * 3) = ((3 * i : Nat) : Int) from by rw [wrp_id (by omega) (by omega)]; omega]
                    refine qG.blk 2 (pc' := 109) (ls' := [(2, 24), (2, 74), (0, ((i : Nat) : Int)), (0, ntF (w 75) (w 25 i) 16), (0, ((j : Nat) : Int))]) (st' := [(0, 64), (0, ((j : Nat) : Int)), (0, ((3 * i : Nat) : Int)), (2, 26)]) (w' := wQ) (n' := 142) rfl ?_
                    refine qG.gn (P := 64 = 0) (pc' := 110) (ls' := [(2, 24), (2, 74), (0, ((i : Nat) : Int)), (0, ntF (w 75) (w 25 i) 16), (0, ((j : Nat) : Int))]) (st' := [(0, qdiv ((j : Nat) : Int) 64), (0, ((3 * i : Nat) : Int)), (2, 26)]) (w' := wQ) (n' := 142) rfl (by decide) ?_
                    rw [show qdiv ((j : Nat) : Int) 64 = ((j / 64 : Nat) : Int) from (q64 j (by omega)).1]
                    refine qG.blk 1 (pc' := 111) (ls' := [(2, 24), (2, 74), (0, ((i : Nat) : Int)), (0, ntF (w 75) (w 25 i) 16), (0, ((j : Nat) : Int))]) (st' := [(0, wrp (((3 * i : Nat) : Int) + ((j / 64 : Nat) : Int))), (2, 26)]) (w' := wQ) (n' := 142) rfl ?_
                    rw [show wrp (((3 * i : Nat) : Int) + ((j / 64 : Nat) : Int)) = ((3 * i + j / 64 : Nat) : Int) from by rw [wrp_id (by omega) (by omega)]; omega]
                    refine qG.blk 1 (pc' := 112) (ls' := [(2, 24), (2, 74), (0, ((i : Nat) : Int)), (0, ntF (w 75) (w 25 i) 16), (0, ((j : Nat) : Int))]) (st' := [(0, ((3 * i + j / 64 : Nat) : Int)), (2, 26), (0, ((3 * i + j / 64 : Nat) : Int)), (2, 26)]) (w' := wQ) (n' := 142) rfl ?_
                    refine qG.lld (m := 540) rfl rfl (by omega) (by decide) ?_
                    show qG none (d + 1) 97 113 [(2, 24), (2, 74), (0, ((i : Nat) : Int)), (0, ntF (w 75) (w 25 i) 16), (0, ((j : Nat) : Int))] [(1, wQ 26 (3 * i + j / 64)), (0, ((3 * i + j / 64 : Nat) : Int)), (2, 26)] wQ 142 Q9
                    refine qG.blk 3 (pc' := 118) (ls' := [(2, 24), (2, 74), (0, ((i : Nat) : Int)), (0, ntF (w 75) (w 25 i) 16), (0, ((j : Nat) : Int))]) (st' := [(0, 64), (0, ((j : Nat) : Int)), (1, 1), (1, wQ 26 (3 * i + j / 64)), (0, ((3 * i + j / 64 : Nat) : Int)), (2, 26)]) (w' := wQ) (n' := 142) rfl ?_
                    refine qG.gn (P := 64 = 0) (pc' := 119) (ls' := [(2, 24), (2, 74), (0, ((i : Nat) : Int)), (0, ntF (w 75) (w 25 i) 16), (0, ((j : Nat) : Int))]) (st' := [(0, qrem ((j : Nat) : Int) 64), (1, 1), (1, wQ 26 (3 * i + j / 64)), (0, ((3 * i + j / 64 : Nat) : Int)), (2, 26)]) (w' := wQ) (n' := 142) rfl (by decide) ?_
                    rw [show qrem ((j : Nat) : Int) 64 = ((j % 64 : Nat) : Int) from (q64 j (by omega)).2]
                    refine qG.blk 2 (pc' := 121) (ls' := [(2, 24), (2, 74), (0, ((i : Nat) : Int)), (0, ntF (w 75) (w 25 i) 16), (0, ((j : Nat) : Int))]) (st' := [(1, qlor (wQ 26 (3 * i + j / 64)) (qlshl 1 ((j % 64 : Nat) : Int))), (0, ((3 * i + j / 64 : Nat) : Int)), (2, 26)]) (w' := wQ) (n' := 142) rfl ?_
                    refine qG.lst (m := 540) rfl rfl (by omega) (by decide) ?_
                    show qG none (d + 1) 97 122 [(2, 24), (2, 74), (0, ((i : Nat) : Int)), (0, ntF (w 75) (w 25 i) 16), (0, ((j : Nat) : Int))] [] (qup wQ 26 (3 * i + j / 64) (qlor (wQ 26 (3 * i + j / 64)) (qlshl 1 ((j % 64 : Nat) : Int)))) 142 Q9
                    refine qG.blk 1 (pc' := 125) (ls' := [(2, 24), (2, 74), (0, ((i : Nat) : Int)), (0, ntF (w 75) (w 25 i) 16), (0, wrp (((j : Nat) : Int) + 1))]) (st' := []) (w' := (qup wQ 26 (3 * i + j / 64) (qlor (wQ 26 (3 * i + j / 64)) (qlshl 1 ((j % 64 : Nat) : Int))))) (n' := 142) rfl ?_
                    rw [show wrp (((j : Nat) : Int) + 1) = ((j + 1 : Nat) : Int) from wrp_id (by omega) (by omega)]
                    refine qG.blk 1 (pc' := 55) (ls' := [(2, 24), (2, 74), (0, ((i : Nat) : Int)), (0, ntF (w 75) (w 25 i) 16), (0, ((j + 1 : Nat) : Int))]) (st' := []) (w' := (qup wQ 26 (3 * i + j / 64) (qlor (wQ 26 (3 * i + j / 64)) (qlshl 1 ((j % 64 : Nat) : Int))))) (n' := 142) rfl ?_
                    exact ih55 _ (by omega) (j + 1) ((qup wQ 26 (3 * i + j / 64) (qlor (wQ 26 (3 * i + j / 64)) (qlshl 1 ((j % 64 : Nat) : Int))))) rfl (⟨by omega, hQ.yes (by omega) (by omega) hN18 (by unfold mvX; first | (rw [decide_eq_true (by omega), Bool.true_or]; done) | (rw [b01_1 hmv, Bool.or_true]; done))⟩)
                  · skip
                    refine qG.blk 2 (pc' := 82) (ls' := [(2, 24), (2, 74), (0, ((i : Nat) : Int)), (0, ntF (w 75) (w 25 i) 16), (0, ((j : Nat) : Int))]) (st' := [(2, wQ 24 4)]) (w' := wQ) (n' := 142) rfl ?_
                    rw [show wQ 24 4 = 25 from (hQo 24 4 (by decide)).trans (zref hI rfl rfl)]
                    refine qG.blk 1 (pc' := 83) (ls' := [(2, 24), (2, 74), (0, ((i : Nat) : Int)), (0, ntF (w 75) (w 25 i) 16), (0, ((j : Nat) : Int))]) (st' := [(0, ((i : Nat) : Int)), (2, 25)]) (w' := wQ) (n' := 142) rfl ?_
                    refine qG.ild (m := 180) rfl rfl (by omega) (by decide) ?_
                    show qG none (d + 1) 97 84 [(2, 24), (2, 74), (0, ((i : Nat) : Int)), (0, ntF (w 75) (w 25 i) 16), (0, ((j : Nat) : Int))] [(0, wQ 25 i)] wQ 142 Q9
                    rw [show wQ 25 i = w 25 i from hQo 25 i (by decide)]
                    refine qG.blk 2 (pc' := 88) (ls' := [(2, 24), (2, 74), (0, ((i : Nat) : Int)), (0, ntF (w 75) (w 25 i) 16), (0, ((j : Nat) : Int))]) (st' := [(2, wQ 24 4), (0, w 25 i)]) (w' := wQ) (n' := 142) rfl ?_
                    rw [show wQ 24 4 = 25 from (hQo 24 4 (by decide)).trans (zref hI rfl rfl)]
                    refine qG.blk 1 (pc' := 90) (ls' := [(2, 24), (2, 74), (0, ((i : Nat) : Int)), (0, ntF (w 75) (w 25 i) 16), (0, ((j : Nat) : Int))]) (st' := [(0, ((j : Nat) : Int)), (2, 25), (0, w 25 i)]) (w' := wQ) (n' := 142) rfl ?_
                    refine qG.ild (m := 180) rfl rfl (by omega) (by decide) ?_
                    show qG none (d + 1) 97 91 [(2, 24), (2, 74), (0, ((i : Nat) : Int)), (0, ntF (w 75) (w 25 i) 16), (0, ((j : Nat) : Int))] [(0, wQ 25 j), (0, w 25 i)] wQ 142 Q9
                    rw [show wQ 25 j = w 25 j from hQo 25 j (by decide)]
                    refine qG.blk 1 (pc' := 92) (ls' := [(2, 24), (2, 74), (0, ((i : Nat) : Int)), (0, ntF (w 75) (w 25 i) 16), (0, ((j : Nat) : Int))]) (st' := [(0, ntF (w 75) (w 25 i) 16), (0, w 25 j), (0, w 25 i)]) (w' := wQ) (n' := 142) rfl ?_
                    refine qG.call (t := 98) (na := 3) (sk := 0) (md := 0) (ls1 := [(0, w 25 i), (0, w 25 j), (0, ntF (w 75) (w 25 i) 16), (9, 0)]) (r1 := []) rfl rfl rfl rfl rfl (K_isMoveX (by omega) (w 25 i) (w 25 j) (ntF (w 75) (w 25 i) 16) (h25 j) wQ) ?_
                    rintro _ w7 _ ⟨rfl, hw7, rfl⟩
                    rw [hw7]
                    show qG none (d + 1) 97 95 [(2, 24), (2, 74), (0, ((i : Nat) : Int)), (0, ntF (w 75) (w 25 i) 16), (0, ((j : Nat) : Int))] [(0, b01 (imB (w 25 i) (w 25 j) (ntF (w 75) (w 25 i) 16)))] wQ 142 Q9
                    refine qG.br (P := b01 (imB (w 25 i) (w 25 j) (ntF (w 75) (w 25 i) 16)) = 0) (pc1 := 122) (pc2 := 98) (st1 := []) rfl (fun hmv => ?_) (fun hmv => ?_)
                    · skip
                      refine qG.blk 1 (pc' := 125) (ls' := [(2, 24), (2, 74), (0, ((i : Nat) : Int)), (0, ntF (w 75) (w 25 i) 16), (0, wrp (((j : Nat) : Int) + 1))]) (st' := []) (w' := wQ) (n' := 142) rfl ?_
                      rw [show wrp (((j : Nat) : Int) + 1) = ((j + 1 : Nat) : Int) from wrp_id (by omega) (by omega)]
                      refine qG.blk 1 (pc' := 55) (ls' := [(2, 24), (2, 74), (0, ((i : Nat) : Int)), (0, ntF (w 75) (w 25 i) 16), (0, ((j + 1 : Nat) : Int))]) (st' := []) (w' := wQ) (n' := 142) rfl ?_
                      exact ih55 _ (by omega) (j + 1) (wQ) rfl (⟨by omega, hQ.no (by unfold mvX; rw [decide_eq_false (by omega), b01_0 hmv]; rfl)⟩)
                    · skip
                      refine qG.blk 2 (pc' := 102) (ls' := [(2, 24), (2, 74), (0, ((i : Nat) : Int)), (0, ntF (w 75) (w 25 i) 16), (0, ((j : Nat) : Int))]) (st' := [(2, wQ 24 5)]) (w' := wQ) (n' := 142) rfl ?_
                      rw [show wQ 24 5 = 26 from (hQo 24 5 (by decide)).trans (zref hI rfl rfl)]
                      refine qG.blk 3 (pc' := 105) (ls' := [(2, 24), (2, 74), (0, ((i : Nat) : Int)), (0, ntF (w 75) (w 25 i) 16), (0, ((j : Nat) : Int))]) (st' := [(0, wrp (((i : Nat) : Int) * 3)), (2, 26)]) (w' := wQ) (n' := 142) rfl ?_
                      rw [show wrp (((i : Nat) : Int) * 3) = ((3 * i : Nat) : Int) from by rw [wrp_id (by omega) (by omega)]; omega]
                      refine qG.blk 2 (pc' := 109) (ls' := [(2, 24), (2, 74), (0, ((i : Nat) : Int)), (0, ntF (w 75) (w 25 i) 16), (0, ((j : Nat) : Int))]) (st' := [(0, 64), (0, ((j : Nat) : Int)), (0, ((3 * i : Nat) : Int)), (2, 26)]) (w' := wQ) (n' := 142) rfl ?_
                      refine qG.gn (P := 64 = 0) (pc' := 110) (ls' := [(2, 24), (2, 74), (0, ((i : Nat) : Int)), (0, ntF (w 75) (w 25 i) 16), (0, ((j : Nat) : Int))]) (st' := [(0, qdiv ((j : Nat) : Int) 64), (0, ((3 * i : Nat) : Int)), (2, 26)]) (w' := wQ) (n' := 142) rfl (by decide) ?_
                      rw [show qdiv ((j : Nat) : Int) 64 = ((j / 64 : Nat) : Int) from (q64 j (by omega)).1]
                      refine qG.blk 1 (pc' := 111) (ls' := [(2, 24), (2, 74), (0, ((i : Nat) : Int)), (0, ntF (w 75) (w 25 i) 16), (0, ((j : Nat) : Int))]) (st' := [(0, wrp (((3 * i : Nat) : Int) + ((j / 64 : Nat) : Int))), (2, 26)]) (w' := wQ) (n' := 142) rfl ?_
                      rw [show wrp (((3 * i : Nat) : Int) + ((j / 64 : Nat) : Int)) = ((3 * i + j / 64 : Nat) : Int) from by rw [wrp_id (by omega) (by omega)]; omega]
                      refine qG.blk 1 (pc' := 112) (ls' := [(2, 24), (2, 74), (0, ((i : Nat) : Int)), (0, ntF (w 75) (w 25 i) 16), (0, ((j : Nat) : Int))]) (st' := [(0, ((3 * i + j / 64 : Nat) : Int)), (2, 26), (0, ((3 * i + j / 64 : Nat) : Int)), (2, 26)]) (w' := wQ) (n' := 142) rfl ?_
                      refine qG.lld (m := 540) rfl rfl (by omega) (by decide) ?_
                      show qG none (d + 1) 97 113 [(2, 24), (2, 74), (0, ((i : Nat) : Int)), (0, ntF (w 75) (w 25 i) 16), (0, ((j : Nat) : Int))] [(1, wQ 26 (3 * i + j / 64)), (0, ((3 * i + j / 64 : Nat) : Int)), (2, 26)] wQ 142 Q9
                      refine qG.blk 3 (pc' := 118) (ls' := [(2, 24), (2, 74), (0, ((i : Nat) : Int)), (0, ntF (w 75) (w 25 i) 16), (0, ((j : Nat) : Int))]) (st' := [(0, 64), (0, ((j : Nat) : Int)), (1, 1), (1, wQ 26 (3 * i + j / 64)), (0, ((3 * i + j / 64 : Nat) : Int)), (2, 26)]) (w' := wQ) (n' := 142) rfl ?_
                      refine qG.gn (P := 64 = 0) (pc' := 119) (ls' := [(2, 24), (2, 74), (0, ((i : Nat) : Int)), (0, ntF (w 75) (w 25 i) 16), (0, ((j : Nat) : Int))]) (st' := [(0, qrem ((j : Nat) : Int) 64), (1, 1), (1, wQ 26 (3 * i + j / 64)), (0, ((3 * i + j / 64 : Nat) : Int)), (2, 26)]) (w' := wQ) (n' := 142) rfl (by decide) ?_
                      rw [show qrem ((j : Nat) : Int) 64 = ((j % 64 : Nat) : Int) from (q64 j (by omega)).2]
                      refine qG.blk 2 (pc' := 121) (ls' := [(2, 24), (2, 74), (0, ((i : Nat) : Int)), (0, ntF (w 75) (w 25 i) 16), (0, ((j : Nat) : Int))]) (st' := [(1, qlor (wQ 26 (3 * i + j / 64)) (qlshl 1 ((j % 64 : Nat) : Int))), (0, ((3 * i + j / 64 : Nat) : Int)), (2, 26)]) (w' := wQ) (n' := 142) rfl ?_
                      refine qG.lst (m := 540) rfl rfl (by omega) (by decide) ?_
                      show qG none (d + 1) 97 122 [(2, 24), (2, 74), (0, ((i : Nat) : Int)), (0, ntF (w 75) (w 25 i) 16), (0, ((j : Nat) : Int))] [] (qup wQ 26 (3 * i + j / 64) (qlor (wQ 26 (3 * i + j / 64)) (qlshl 1 ((j % 64 : Nat) : Int)))) 142 Q9
                      refine qG.blk 1 (pc' := 125) (ls' := [(2, 24), (2, 74), (0, ((i : Nat) : Int)), (0, ntF (w 75) (w 25 i) 16), (0, wrp (((j : Nat) : Int) + 1))]) (st' := []) (w' := (qup wQ 26 (3 * i + j / 64) (qlor (wQ 26 (3 * i + j / 64)) (qlshl 1 ((j % 64 : Nat) : Int))))) (n' := 142) rfl ?_
                      rw [show wrp (((j : Nat) : Int) + 1) = ((j + 1 : Nat) : Int) from wrp_id (by omega) (by omega)]
                      refine qG.blk 1 (pc' := 55) (ls' := [(2, 24), (2, 74), (0, ((i : Nat) : Int)), (0, ntF (w 75) (w 25 i) 16), (0, ((j + 1 : Nat) : Int))]) (st' := []) (w' := (qup wQ 26 (3 * i + j / 64) (qlor (wQ 26 (3 * i + j / 64)) (qlshl 1 ((j % 64 : Nat) : Int))))) (n' := 142) rfl ?_
                      exact ih55 _ (by omega) (j + 1) ((qup wQ 26 (3 * i + j / 64) (qlor (wQ 26 (3 * i + j / 64)) (qlshl 1 ((j % 64 : Nat) : Int))))) rfl (⟨by omega, hQ.yes (by omega) (by omega) hN18 (by unfold mvX; first | (rw [decide_eq_true (by omega), Bool.true_or]; done) | (rw [b01_1 hmv, Bool.or_true]; done))⟩)
                · exfalso; omega
              · skip
                refine qG.blk 1 (pc' := 131) (ls' := [(2, 24), (2, 74), (0, wrp (((i : Nat) : Int) + 1)), (0, ntF (w 75) (w 25 i) 16), (0, ((j : Nat) : Int))]) (st' := []) (w' := wQ) (n' := 142) rfl ?_
                rw [show wrp (((i : Nat) : Int) + 1) = ((i + 1 : Nat) : Int) from wrp_id (by omega) (by omega)]
                refine qG.blk 1 (pc' := 26) (ls' := [(2, 24), (2, 74), (0, ((i + 1 : Nat) : Int)), (0, ntF (w 75) (w 25 i) 16), (0, ((j : Nat) : Int))]) (st' := []) (w' := wQ) (n' := 142) rfl ?_
                exact ih26 _ (by omega) (i + 1) (wQ) ((0, ntF (w 75) (w 25 i) 16)) ((0, ((j : Nat) : Int))) rfl (⟨by omega, hQ.row (by omega)⟩)
            exact L55 _ (0) (wM) rfl (⟨Nat.zero_le _, hM⟩)
          · exfalso; omega
        · skip
          refine qG.retv rfl rfl ?_
          subst hQ9
          exact ⟨rfl, rfl, by rw [show N = i by omega] at hM ⊢; exact hM⟩
      exact L26 _ (0) (wZ) ((9, 0)) ((9, 0)) rfl (⟨Nat.zero_le _, MVT.z (fun q hq => hZ q (by omega)) hZo hZI⟩)
  exact L2 _ (0) (w) rfl (⟨Nat.zero_le _, fun q hq => absurd hq (Nat.not_lt_zero q), fun _ _ _ => rfl, hI⟩)
