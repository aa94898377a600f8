/-! the law's run -/
theorem zfresh {w1 w2 : qW} {w : qW} (h1 : qFr w w1 1 94) (h2 : qFr (qclr w1 95) w2 95 142) : zF w2 := fun p j k1 k2 => by
  rw [h2 p j]
  by_cases c : p < 95
  · rw [if_pos c, qclr_lo (by omega), h1 p j, if_neg (by omega), if_pos (by omega)]
  · rw [if_neg c, if_pos k2]
theorem law_pre {L : Nat} {xs : Nat → Int} {Q : qV → qW → Nat → Prop} (H : ∀ w, zF w → qG (some (L, xs)) 200 305 18 [(3, 0), (2, 1), (2, 95), (0, 0)] [] w 142 Q) : qG (some (L, xs)) 200 305 0 [(3, 0), (9, 0), (9, 0), (9, 0)] [] (fun _ _ => 0) 0 Q := by
  refine qG.blk 2 (pc' := 4) (ls' := [(3, 0), (9, 0), (9, 0), (9, 0)]) (st' := [(2, 1), (2, 1)]) (w' := qclr (fun _ _ => 0) 1) (n' := 1) rfl ?_
  refine qG.call (t := 163) (na := 1) (sk := 1) (md := 2) (ls1 := [(2, 1), (9, 0)]) (r1 := [(2, 1)]) rfl rfl rfl rfl rfl (K_X11_init_1 (d := 199) (by decide) _ (fun j => by rw [qclr_at (Nat.le_refl 1)])) ?_
  rintro _ w1 _ ⟨rfl, h1, rfl⟩
  show qG (some (L, xs)) 200 305 7 [(3, 0), (9, 0), (9, 0), (9, 0)] [(2, 1)] w1 94 Q
  refine qG.blk 3 (pc' := 12) (ls' := [(3, 0), (2, 1), (9, 0), (9, 0)]) (st' := [(2, 95), (2, 95)]) (w' := qclr w1 95) (n' := 95) rfl ?_
  refine qG.call (t := 205) (na := 1) (sk := 1) (md := 2) (ls1 := [(2, 95)]) (r1 := [(2, 95)]) rfl rfl rfl rfl rfl (K_X12_init_95 (d := 199) (by decide) _ (fun j => by rw [qclr_at (Nat.le_refl 95)])) ?_
  rintro _ w2 _ ⟨rfl, h2, rfl⟩
  show qG (some (L, xs)) 200 305 15 [(3, 0), (2, 1), (9, 0), (9, 0)] [(2, 95)] w2 142 Q
  refine qG.blk 3 (pc' := 18) (ls' := [(3, 0), (2, 1), (2, 95), (0, 0)]) (st' := []) (w' := w2) (n' := 142) rfl ?_
  exact H w2 (zfresh h1 h2)
theorem law_body {L : Nat} {xs : Nat → Int} (hL : L ≤ 6) (w : qW) (H : L = 6 → ∀ x : Int, 0 ≤ x → x ≤ 63 → qG (some (6, xs)) 200 305 33 [(3, 0), (2, 1), (2, 95), (0, 0)] [(0, x)] w 142 (fun v _ n' => v = (0, 1) ∧ n' ≤ 142)) : qG (some (L, xs)) 200 305 18 [(3, 0), (2, 1), (2, 95), (0, 0)] [] w 142 (fun v _ n' => v = (0, 1) ∧ n' ≤ 142) := by
  refine qG.blk 5 (pc' := 24) (ls' := [(3, 0), (2, 1), (2, 95), (0, 0)]) (st' := [(0, wrp ((L : Int) - 6)), (0, 0)]) (w' := w) (n' := 142) rfl ?_
  rw [wrp_id (by omega) (by omega)]
  refine qG.br (P := (L : Int) - 6 < 0) (pc1 := 1616) (pc2 := 27) (st1 := []) rfl (fun h => ?_) (fun h => ?_)
  · refine qG.blk 1 (pc' := 1617) (ls' := [(3, 0), (2, 1), (2, 95), (0, 0)]) (st' := [(0, 1)]) (w' := w) (n' := 142) rfl ?_
    exact qG.ret rfl rfl ⟨rfl, Nat.le_refl _⟩
  · have h6 : L = 6 := by omega
    subst h6
    refine qG.blk 2 (pc' := 29) (ls' := [(3, 0), (2, 1), (2, 95), (0, 0)]) (st' := [(0, 0), (3, 0)]) (w' := w) (n' := 142) rfl ?_
    refine qG.gd (P := (0 : Int) ≤ 0 ∧ (0 : Int) < ((6 : Nat) : Int)) (pc' := 30) (ls' := [(3, 0), (2, 1), (2, 95), (0, 0)]) (st' := [(0, xs 0)]) (w' := w) (n' := 142) rfl (by decide) ?_
    refine qG.blk 2 (pc' := 33) (ls' := [(3, 0), (2, 1), (2, 95), (0, 0)]) (st' := [(0, qand (xs 0) 63)]) (w' := w) (n' := 142) rfl ?_
    have hx := qand_hi (x := xs 0) (y := 63) (d := 63) (by decide) (by decide) (by decide)
    exact H rfl _ hx.1 hx.2
theorem law_ok : qLawOK := by
  intro L xs hL hxs
  obtain ⟨f, v, w', n', h1, h2, h3⟩ := law_pre (L := L) (xs := xs) (Q := fun v _ n' => v = (0, 1) ∧ n' ≤ 142) (fun w hF => law_body hL w (fun h6 x hx0 hx1 => zops hxs hF hx0 hx1))
  subst h2
  exact ⟨f, w', n', h3, h1⟩
