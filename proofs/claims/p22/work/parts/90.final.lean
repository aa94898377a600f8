/-! the law's run -/
theorem zfresh {w1 w2 : qW} {w : qW} (h1 : qFr w w1 1 94) (h2 : qFr (qclr w1 95) w2 95 142) : zF w2 := fun p j k1 k2 => by
  rw [h2 p j]
  by_cases c : p < 95
  · rw [if_pos c, qclr_lo (by omega), h1 p j, if_neg (by omega), if_pos (by omega)]
  · rw [if_neg c, if_pos k2]
theorem law_pre {L : Nat} {xs : Nat → Int} {Q : qV → qW → Nat → Prop} (H : ∀ w, zF w → qG (some (L, xs)) 200 305 18 [(3, 0), (2, 1), (2, 95), (0, 0)] [] w 142 Q) : qG (some (L, xs)) 200 305 0 [(3, 0), (9, 0), (9, 0), (9, 0)] [] (fun _ _ => 0) 0 Q := by
  refine qG.blk 2 (pc' := 4) (ls' := [(3, 0), (9, 0), (9, 0), (9, 0)]) (st' := [(2, 1), (2, 1)]) (w' := qclr (fun _ _ => 0) 1) (n' := 1) rfl ?_
  refine qG.call (t := 163) (na := 1) (sk := 1) (md := 2) (ls1 := [(2, 1), (9, 0)]) (r1 := [(2, 1)]) rfl rfl rfl rfl rfl (K_X11_init_1 (d := 199) (by decide) _ (fun j => by rw [qclr_at (Nat.le_refl 1)])) ?_
  rintro _ w1 _ ⟨rfl, h1, rfl⟩
  show qG (some (L, xs)) 200 305 7 [(3, 0), (9, 0), (9, 0), (9, 0)] [(2, 1)] w1 94 Q
  refine qG.blk 3 (pc' := 12) (ls' := [(3, 0), (2, 1), (9, 0), (9, 0)]) (st' := [(2, 95), (2, 95)]) (w' := qclr w1 95) (n' := 95) rfl ?_
  refine qG.call (t := 205) (na := 1) (sk := 1) (md := 2) (ls1 := [(2, 95)]) (r1 := [(2, 95)]) rfl rfl rfl rfl rfl (K_X12_init_95 (d := 199) (by decide) _ (fun j => by rw [qclr_at (Nat.le_refl 95)])) ?_
  rintro _ w2 _ ⟨rfl, h2, rfl⟩
  show qG (some (L, xs)) 200 305 15 [(3, 0), (2, 1), (9, 0), (9, 0)] [(2, 95)] w2 142 Q
  refine qG.blk 3 (pc' := 18) (ls' := [(3, 0), (2, 1), (2, 95), (0, 0)]) (st' := []) (w' := w2) (n' := 142) rfl ?_
  exact H w2 (zfresh h1 h2)
theorem zops {L : Nat} {xs : Nat → Int} (hx : ∀ j, -2147483648 ≤ xs j ∧ xs j ≤ 2147483647) (i : Nat) (hi : i + 6 ≤ L) (hL : L ≤ 3072) (w : qW) (hP : SP w) (hJ : JB w) {Q9 : qV → qW → Nat → Prop} (H : ∀ w1, SP w1 → JB w1 → qG (some (L, xs)) 200 305 1610 [(3, 0), (2, 1), (2, 95), (0, ((i : Nat) : Int))] [] w1 142 Q9) {x : Int} (h0 : 0 ≤ x) (h1 : x ≤ 63) : qG (some (L, xs)) 200 305 33 [(3, 0), (2, 1), (2, 95), (0, ((i : Nat) : Int))] [(0, x)] w 142 Q9 := by
  obtain ⟨n, rfl⟩ : ∃ n : Nat, x = n := ⟨x.toNat, by omega⟩
  have hn : n < 64 := by omega
  match n, hn with
  | 0, _ => exact O_0 hx i hi (by omega) (by decide) w hP hJ H
  | 1, _ => exact O_1 hx i hi (by omega) (by decide) w hP hJ H
  | 2, _ => exact O_2 hx i hi (by omega) (by decide) w hP hJ H
  | 3, _ => exact O_3 hx i hi (by omega) (by decide) w hP hJ H
  | 4, _ => exact O_4 hx i hi (by omega) (by decide) w hP hJ H
  | 5, _ => exact O_5 hx i hi (by omega) (by decide) w hP hJ H
  | 6, _ => exact O_6 hx i hi (by omega) (by decide) w hP hJ H
  | 7, _ => exact O_7 hx i hi (by omega) (by decide) w hP hJ H
  | 8, _ => exact O_8 hx i hi (by omega) (by decide) w hP hJ H
  | 9, _ => exact O_9 hx i hi (by omega) (by decide) w hP hJ H
  | 10, _ => exact O_10 hx i hi (by omega) (by decide) w hP hJ H
  | 11, _ => exact O_11 hx i hi (by omega) (by decide) w hP hJ H
  | 12, _ => exact O_12 hx i hi (by omega) (by decide) w hP hJ H
  | 13, _ => exact O_13 hx i hi (by omega) (by decide) w hP hJ H
  | 14, _ => exact O_14 hx i hi (by omega) (by decide) w hP hJ H
  | 15, _ => exact O_15 hx i hi (by omega) (by decide) w hP hJ H
  | 16, _ => exact O_16 hx i hi (by omega) (by decide) w hP hJ H
  | 17, _ => exact O_17 hx i hi (by omega) (by decide) w hP hJ H
  | 18, _ => exact O_18 hx i hi (by omega) (by decide) w hP hJ H
  | 19, _ => exact O_19 hx i hi (by omega) (by decide) w hP hJ H
  | 20, _ => exact O_20 hx i hi (by omega) (by decide) w hP hJ H
  | 21, _ => exact O_21 hx i hi (by omega) (by decide) w hP hJ H
  | 22, _ => exact O_22 hx i hi (by omega) (by decide) w hP hJ H
  | 23, _ => exact O_23 hx i hi (by omega) (by decide) w hP hJ H
  | 24, _ => exact O_24 hx i hi (by omega) (by decide) w hP hJ H
  | 25, _ => exact O_25 hx i hi (by omega) (by decide) w hP hJ H
  | 26, _ => exact O_26 hx i hi (by omega) (by decide) w hP hJ H
  | 27, _ => exact O_27 hx i hi (by omega) (by decide) w hP hJ H
  | 28, _ => exact O_28 hx i hi (by omega) (by decide) w hP hJ H
  | 29, _ => exact O_29 hx i hi (by omega) (by decide) w hP hJ H
  | 30, _ => exact O_30 hx i hi (by omega) (by decide) w hP hJ H
  | 31, _ => exact O_31 hx i hi (by omega) (by decide) w hP hJ H
  | 32, _ => exact O_32 hx i hi (by omega) (by decide) w hP hJ H
  | 33, _ => exact O_33 hx i hi (by omega) (by decide) w hP hJ H
  | 34, _ => exact qG.blk 1 (pc' := 1610) (ls' := [(3, 0), (2, 1), (2, 95), (0, ((i : Nat) : Int))]) (st' := []) (w' := w) (n' := 142) rfl (H w hP hJ)
  | 35, _ => exact qG.blk 1 (pc' := 1610) (ls' := [(3, 0), (2, 1), (2, 95), (0, ((i : Nat) : Int))]) (st' := []) (w' := w) (n' := 142) rfl (H w hP hJ)
  | 36, _ => exact qG.blk 1 (pc' := 1610) (ls' := [(3, 0), (2, 1), (2, 95), (0, ((i : Nat) : Int))]) (st' := []) (w' := w) (n' := 142) rfl (H w hP hJ)
  | 37, _ => exact qG.blk 1 (pc' := 1610) (ls' := [(3, 0), (2, 1), (2, 95), (0, ((i : Nat) : Int))]) (st' := []) (w' := w) (n' := 142) rfl (H w hP hJ)
  | 38, _ => exact qG.blk 1 (pc' := 1610) (ls' := [(3, 0), (2, 1), (2, 95), (0, ((i : Nat) : Int))]) (st' := []) (w' := w) (n' := 142) rfl (H w hP hJ)
  | 39, _ => exact qG.blk 1 (pc' := 1610) (ls' := [(3, 0), (2, 1), (2, 95), (0, ((i : Nat) : Int))]) (st' := []) (w' := w) (n' := 142) rfl (H w hP hJ)
  | 40, _ => exact qG.blk 1 (pc' := 1610) (ls' := [(3, 0), (2, 1), (2, 95), (0, ((i : Nat) : Int))]) (st' := []) (w' := w) (n' := 142) rfl (H w hP hJ)
  | 41, _ => exact qG.blk 1 (pc' := 1610) (ls' := [(3, 0), (2, 1), (2, 95), (0, ((i : Nat) : Int))]) (st' := []) (w' := w) (n' := 142) rfl (H w hP hJ)
  | 42, _ => exact qG.blk 1 (pc' := 1610) (ls' := [(3, 0), (2, 1), (2, 95), (0, ((i : Nat) : Int))]) (st' := []) (w' := w) (n' := 142) rfl (H w hP hJ)
  | 43, _ => exact qG.blk 1 (pc' := 1610) (ls' := [(3, 0), (2, 1), (2, 95), (0, ((i : Nat) : Int))]) (st' := []) (w' := w) (n' := 142) rfl (H w hP hJ)
  | 44, _ => exact qG.blk 1 (pc' := 1610) (ls' := [(3, 0), (2, 1), (2, 95), (0, ((i : Nat) : Int))]) (st' := []) (w' := w) (n' := 142) rfl (H w hP hJ)
  | 45, _ => exact qG.blk 1 (pc' := 1610) (ls' := [(3, 0), (2, 1), (2, 95), (0, ((i : Nat) : Int))]) (st' := []) (w' := w) (n' := 142) rfl (H w hP hJ)
  | 46, _ => exact qG.blk 1 (pc' := 1610) (ls' := [(3, 0), (2, 1), (2, 95), (0, ((i : Nat) : Int))]) (st' := []) (w' := w) (n' := 142) rfl (H w hP hJ)
  | 47, _ => exact qG.blk 1 (pc' := 1610) (ls' := [(3, 0), (2, 1), (2, 95), (0, ((i : Nat) : Int))]) (st' := []) (w' := w) (n' := 142) rfl (H w hP hJ)
  | 48, _ => exact qG.blk 1 (pc' := 1610) (ls' := [(3, 0), (2, 1), (2, 95), (0, ((i : Nat) : Int))]) (st' := []) (w' := w) (n' := 142) rfl (H w hP hJ)
  | 49, _ => exact qG.blk 1 (pc' := 1610) (ls' := [(3, 0), (2, 1), (2, 95), (0, ((i : Nat) : Int))]) (st' := []) (w' := w) (n' := 142) rfl (H w hP hJ)
  | 50, _ => exact qG.blk 1 (pc' := 1610) (ls' := [(3, 0), (2, 1), (2, 95), (0, ((i : Nat) : Int))]) (st' := []) (w' := w) (n' := 142) rfl (H w hP hJ)
  | 51, _ => exact qG.blk 1 (pc' := 1610) (ls' := [(3, 0), (2, 1), (2, 95), (0, ((i : Nat) : Int))]) (st' := []) (w' := w) (n' := 142) rfl (H w hP hJ)
  | 52, _ => exact qG.blk 1 (pc' := 1610) (ls' := [(3, 0), (2, 1), (2, 95), (0, ((i : Nat) : Int))]) (st' := []) (w' := w) (n' := 142) rfl (H w hP hJ)
  | 53, _ => exact qG.blk 1 (pc' := 1610) (ls' := [(3, 0), (2, 1), (2, 95), (0, ((i : Nat) : Int))]) (st' := []) (w' := w) (n' := 142) rfl (H w hP hJ)
  | 54, _ => exact qG.blk 1 (pc' := 1610) (ls' := [(3, 0), (2, 1), (2, 95), (0, ((i : Nat) : Int))]) (st' := []) (w' := w) (n' := 142) rfl (H w hP hJ)
  | 55, _ => exact qG.blk 1 (pc' := 1610) (ls' := [(3, 0), (2, 1), (2, 95), (0, ((i : Nat) : Int))]) (st' := []) (w' := w) (n' := 142) rfl (H w hP hJ)
  | 56, _ => exact qG.blk 1 (pc' := 1610) (ls' := [(3, 0), (2, 1), (2, 95), (0, ((i : Nat) : Int))]) (st' := []) (w' := w) (n' := 142) rfl (H w hP hJ)
  | 57, _ => exact qG.blk 1 (pc' := 1610) (ls' := [(3, 0), (2, 1), (2, 95), (0, ((i : Nat) : Int))]) (st' := []) (w' := w) (n' := 142) rfl (H w hP hJ)
  | 58, _ => exact qG.blk 1 (pc' := 1610) (ls' := [(3, 0), (2, 1), (2, 95), (0, ((i : Nat) : Int))]) (st' := []) (w' := w) (n' := 142) rfl (H w hP hJ)
  | 59, _ => exact qG.blk 1 (pc' := 1610) (ls' := [(3, 0), (2, 1), (2, 95), (0, ((i : Nat) : Int))]) (st' := []) (w' := w) (n' := 142) rfl (H w hP hJ)
  | 60, _ => exact qG.blk 1 (pc' := 1610) (ls' := [(3, 0), (2, 1), (2, 95), (0, ((i : Nat) : Int))]) (st' := []) (w' := w) (n' := 142) rfl (H w hP hJ)
  | 61, _ => exact qG.blk 1 (pc' := 1610) (ls' := [(3, 0), (2, 1), (2, 95), (0, ((i : Nat) : Int))]) (st' := []) (w' := w) (n' := 142) rfl (H w hP hJ)
  | 62, _ => exact qG.blk 1 (pc' := 1610) (ls' := [(3, 0), (2, 1), (2, 95), (0, ((i : Nat) : Int))]) (st' := []) (w' := w) (n' := 142) rfl (H w hP hJ)
  | 63, _ => exact qG.blk 1 (pc' := 1610) (ls' := [(3, 0), (2, 1), (2, 95), (0, ((i : Nat) : Int))]) (st' := []) (w' := w) (n' := 142) rfl (H w hP hJ)
theorem law_loop {L : Nat} {xs : Nat → Int} (hx : ∀ j, -2147483648 ≤ xs j ∧ xs j ≤ 2147483647) (hL : L ≤ 3072) : ∀ (m i : Nat) (w : qW), L + 6 - i = m → i ≤ L + 5 → SP w → JB w → qG (some (L, xs)) 200 305 18 [(3, 0), (2, 1), (2, 95), (0, ((i : Nat) : Int))] [] w 142 (fun v _ n' => v = (0, 1) ∧ n' ≤ 142) := by
  intro m
  induction m using Nat.strongRecOn with
  | ind m ih =>
  intro i w hm hiL hP hJ
  refine qG.blk 5 (pc' := 24) (ls' := [(3, 0), (2, 1), (2, 95), (0, ((i : Nat) : Int))]) (st' := [(0, wrp ((L : Int) - 6)), (0, ((i : Nat) : Int))]) (w' := w) (n' := 142) rfl ?_
  rw [wrp_id (by omega) (by omega)]
  refine qG.br (P := (L : Int) - 6 < ((i : Nat) : Int)) (pc1 := 1616) (pc2 := 27) (st1 := []) rfl (fun h => ?_) (fun h => ?_)
  · refine qG.blk 1 (pc' := 1617) (ls' := [(3, 0), (2, 1), (2, 95), (0, ((i : Nat) : Int))]) (st' := [(0, 1)]) (w' := w) (n' := 142) rfl ?_
    exact qG.ret rfl rfl ⟨rfl, Nat.le_refl _⟩
  · have hi6 : i + 6 ≤ L := by omega
    refine qG.blk 2 (pc' := 29) (ls' := [(3, 0), (2, 1), (2, 95), (0, ((i : Nat) : Int))]) (st' := [(0, ((i : Nat) : Int)), (3, 0)]) (w' := w) (n' := 142) rfl ?_
    refine qG.gd (P := (0 : Int) ≤ ((i : Nat) : Int) ∧ ((i : Nat) : Int) < ((L : Nat) : Int)) (pc' := 30) (ls' := [(3, 0), (2, 1), (2, 95), (0, ((i : Nat) : Int))]) (st' := [(0, xs i)]) (w' := w) (n' := 142) rfl (by omega) ?_
    refine qG.blk 2 (pc' := 33) (ls' := [(3, 0), (2, 1), (2, 95), (0, ((i : Nat) : Int))]) (st' := [(0, qand (xs i) 63)]) (w' := w) (n' := 142) rfl ?_
    have hx9 := qand_hi (x := xs i) (y := 63) (d := 63) (by decide) (by decide) (by decide)
    refine zops hx i hi6 hL w hP hJ (fun w1 hP1 hJ1 => ?_) hx9.1 hx9.2
    refine qG.blk 2 (pc' := 18) (ls' := [(3, 0), (2, 1), (2, 95), (0, wrp (((i : Nat) : Int) + 6))]) (st' := []) (w' := w1) (n' := 142) rfl ?_
    rw [show wrp (((i : Nat) : Int) + 6) = ((i + 6 : Nat) : Int) from by rw [wrp_id (by omega) (by omega)]; omega]
    exact ih _ (by omega) (i + 6) w1 rfl (by omega) hP1 hJ1
theorem sp_0 {w : qW} (hF : zF w) : SP w := by
  have z : ∀ p j, zbv p j = some 0 → w p j = 0 := fun p j h => zbv_ok hF p j 0 h
  refine ⟨zinv1 hF, fun j hj hk => ?_, fun i hi => ?_, fun i j hi => ?_⟩
  · have q := (zbb_ok1 hF 104 (0, 0) (by decide +kernel) j).2
    have q : w 104 j ≤ 0 := q
    omega
  · rw [z 95 22 (by decide +kernel)] at hi; omega
  · rw [z 95 8 (by decide +kernel)] at hi; omega
theorem j_0 {w : qW} (hF : zF w) : JB w := by
  have z : ∀ p j, zbv p j = some 0 → w p j = 0 := fun p j h => zbv_ok hF p j 0 h
  have y9 : ∀ p, zbb p = some (0, 0) → ∀ j, w p j = 0 := fun p h j => Int.le_antisymm (zbb_ok1 hF p (0, 0) h j).2 (zbb_ok1 hF p (0, 0) h j).1
  exact ⟨fun j => (y9 42 (by decide +kernel) j).trans (y9 122 (by decide +kernel) j).symm, fun j => (y9 43 (by decide +kernel) j).trans (y9 123 (by decide +kernel) j).symm, fun j => (y9 44 (by decide +kernel) j).trans (y9 124 (by decide +kernel) j).symm⟩
theorem law_ok : qLawOK := by
  intro L xs hL hxs
  obtain ⟨f, v, w', n', h1, h2, h3⟩ := law_pre (L := L) (xs := xs) (Q := fun v _ n' => v = (0, 1) ∧ n' ≤ 142) (fun w hF => law_loop (fun j => ⟨(hxs j).1, by have := (hxs j).2; omega⟩) hL _ 0 w rfl (by omega) (sp_0 hF) (j_0 hF))
  subst h2
  exact ⟨f, w', n', h3, h1⟩
