/-! who and all, on both sides -/
def smF (f : Nat → Int) : Nat → Int
  | 0 => 0
  | k + 1 => smF f k + f k
theorem smF_in {f : Nat → Int} {t : Int} : ∀ k : Nat, (∀ j, j < k → 0 ≤ f j ∧ f j ≤ t) → 0 ≤ smF f k ∧ smF f k ≤ t * (k : Int)
  | 0, _ => by
    show (0 : Int) ≤ 0 ∧ (0 : Int) ≤ t * 0
    rw [Int.mul_zero]; exact ⟨Int.le_refl _, Int.le_refl _⟩
  | k + 1, h => by
    have ih := smF_in k (fun j hj => h j (by omega))
    have hk := h k (by omega)
    show 0 ≤ smF f k + f k ∧ smF f k + f k ≤ t * ((k + 1 : Nat) : Int)
    rw [show ((k + 1 : Nat) : Int) = (k : Int) + 1 from by omega, Int.mul_add, Int.mul_one]
    omega
theorem smF_m {f : Nat → Int} {m : Nat} : ∀ k : Nat, (∀ j, j < k → 0 ≤ f j) → m < k → f m ≤ smF f k
  | 0, _, hm => absurd hm (Nat.not_lt_zero _)
  | k + 1, h, hm => by
    show f m ≤ smF f k + f k
    have hk := h k (by omega)
    have h0 : 0 ≤ smF f k := by
      have : ∀ q : Nat, q ≤ k → 0 ≤ smF f q := by
        intro q
        induction q with
        | zero => intro _; exact Int.le_refl _
        | succ q ih => intro hq; have a := ih (by omega); have b := h q (by omega); show 0 ≤ smF f q + f q; omega
      exact this k (Nat.le_refl k)
    by_cases e : m = k
    · rw [e]; omega
    · have := smF_m k (fun j hj => h j (by omega)) (by omega : m < k); omega
/-- of 1000 the m-th's share -/
def odV (f : Nat → Int) (M m : Nat) : Int := if smF f M = 0 then -1 else (1000 * f m).tdiv (smF f M)
theorem odV_in {f : Nat → Int} {M m : Nat} (hm : m < M) (h : ∀ j, j < M → 0 ≤ f j) (h0 : ¬ smF f M = 0) : 0 ≤ (1000 * f m).tdiv (smF f M) ∧ (1000 * f m).tdiv (smF f M) ≤ 1000 := by
  have hp := smF_m M h hm
  have h1 := h m hm
  rw [Int.tdiv_eq_ediv_of_nonneg (by omega)]
  refine ⟨Int.ediv_nonneg (by omega) (by omega), ?_⟩
  have := Int.ediv_le_ediv (c := smF f M) (by omega) (show 1000 * f m ≤ 1000 * smF f M by omega)
  rw [Int.mul_ediv_cancel _ h0] at this
  exact this
theorem wg_aw {w w9 : qW} {p : Nat} (hp : p = 56 ∨ p = 137) (h : AW [p] w w9) (n m : Nat) : wgV w9 n m = wgV w n m := by
  have r : ∀ q, q < 1000 → q ≠ p → ∀ j, w9 q j = w q j := fun q hq hn j => h.2 q j (fun _ => by
    show (ymem q [p] || ymem (1000 * (j + 1) + q) [p]) = false
    show ((Nat.beq p q || false) || (Nat.beq p (1000 * (j + 1) + q) || false)) = false
    rw [Bool.or_false, Bool.or_false, Bool.or_eq_false_iff]
    refine ⟨?_, ?_⟩
    · cases e : Nat.beq p q
      · rfl
      · exact absurd (Nat.eq_of_beq_eq_true e).symm hn
    · cases e : Nat.beq p (1000 * (j + 1) + q)
      · rfl
      · have := Nat.eq_of_beq_eq_true e; omega)
  have em : mbP w9 n m = mbP w n m := by
    unfold mbP
    rw [r 126 (by decide) (by omega), r 132 (by decide) (by omega), r 127 (by decide) (by omega), r 133 (by decide) (by omega), r 95 (by decide) (by omega) 56]
    have a : ∀ k, w9 129 k = w 129 k := r 129 (by decide) (by omega)
    have b : ∀ k, w9 130 k = w 130 k := r 130 (by decide) (by omega)
    have c : ∀ k, w9 131 k = w 131 k := r 131 (by decide) (by omega)
    simp only [a, b, c]
  have eh : haV w9 n m = haV w n m := by
    unfold haV
    rw [r 136 (by decide) (by omega), r 128 (by decide) (by omega)]
  unfold wgV
  rw [em, eh, r 125 (by decide) (by omega), r 134 (by decide) (by omega), r 135 (by decide) (by omega)]
noncomputable def whoV (w : qW) (n m v : Int) : Int := if (0 ≤ n ∧ n < w 95 57) ∧ (0 ≤ m ∧ m < w 95 55) ∧ 0 ≤ v ∧ v ≤ 1 then (if v = 1 then wgV w n.toNat m.toNat else odV (fun j => wgV w n.toNat j) (w 95 55).toNat m.toNat) else -1
theorem whoV_n {w : qW} {n m v : Int} (h : ¬ ((0 ≤ n ∧ n < w 95 57) ∧ (0 ≤ m ∧ m < w 95 55) ∧ 0 ≤ v ∧ v ≤ 1)) : whoV w n m v = -1 := if_neg h
/-- numbers in array p: the first k are f's, the rest g's -/
def PV (p : Nat) (w w9 : qW) (k : Nat) (f g : Nat → Int) : Prop := AW [p] w w9 ∧ (∀ j, j < k → w9 p j = f j) ∧ ∀ j, k ≤ j → w9 p j = g j
theorem PV.up {p : Nat} {w w9 : qW} {k : Nat} {f g : Nat → Int} {v : Int} (hp : p = 56 ∨ p = 137) (h : PV p w w9 k f g) (hv : v = f k) (h0 : -9223372036854775808 ≤ v) (h1 : v ≤ 9223372036854775807) : PV p w (qup w9 p k v) (k + 1) f g := by
  refine ⟨⟨?_, fun q j hq => ?_⟩, fun j hj => ?_, fun j hj => ?_⟩
  · rcases hp with rfl | rfl
    · exact zup_a h.1.1 (b := (-9223372036854775808, 9223372036854775807)) rfl rfl ⟨h0, h1⟩
    · exact zup_a h.1.1 (b := (-9223372036854775808, 9223372036854775807)) rfl rfl ⟨h0, h1⟩
  · rw [qup_ne (fun z => by have hq := hq (by omega); rw [z] at hq; rcases hp with rfl | rfl <;> cases hq)]
    exact h.1.2 q j hq
  · by_cases e : j = k
    · rw [e, qup_k]; exact hv
    · rw [qup_j e]; exact h.2.1 j (by omega)
  · rw [qup_j (by omega)]; exact h.2.2 j (by omega)
theorem K_startW {d : Nat} (hd : 0 ≤ d) (w : qW) (hI : yInv zgf zga zra zSp w) : qG none d 67 0 [(2, 45), (9, 0)] [] w 142 (fun (r : qV) (w1 : qW) (n1 : Nat) => r = (9, 0) ∧ n1 = 142 ∧ AW [56] w w1 ∧ ∀ j, j < 12 → w1 56 j = 1) := by
  generalize hQ9 : (fun (r : qV) (w1 : qW) (n1 : Nat) => r = (9, 0) ∧ n1 = 142 ∧ AW [56] w w1 ∧ ∀ j, j < 12 → w1 56 j = 1) = Q9
  refine qG.blk 2 (pc' := 2) (ls' := [(2, 45), (0, 0)]) (st' := []) (w' := w) (n' := 142) rfl ?_
  have L2 : ∀ (m9 : Nat) (k : Nat) (w9 : qW), 12 - k = m9 → (k ≤ 12 ∧ AW [56] w w9 ∧ (∀ j, j < k → w9 56 j = 1)) → qG none d 67 2 [(2, 45), (0, ((k : Nat) : Int))] [] w9 142 Q9 := by
    intro m9
    induction m9 using Nat.strongRecOn with
    | ind m9 ih2 =>
    intro k w9 hm2 hI2
    refine qG.blk 2 (pc' := 5) (ls' := [(2, 45), (0, ((k : Nat) : Int))]) (st' := [(0, 12), (0, ((k : Nat) : Int))]) (w' := w9) (n' := 142) rfl ?_
    refine qG.br (P := ((k : Nat) : Int) < 12) (pc1 := 8) (pc2 := 21) (st1 := []) rfl (fun h1 => ?_) (fun h1 => ?_)
    · skip
      refine qG.blk 2 (pc' := 12) (ls' := [(2, 45), (0, ((k : Nat) : Int))]) (st' := [(2, w9 45 13)]) (w' := w9) (n' := 142) rfl ?_
      rw [show w9 45 13 = 56 from zref hI2.2.1.1 rfl rfl]
      refine qG.blk 2 (pc' := 14) (ls' := [(2, 45), (0, ((k : Nat) : Int))]) (st' := [(1, 1), (0, ((k : Nat) : Int)), (2, 56)]) (w' := w9) (n' := 142) rfl ?_
      refine qG.ar (P := 0 ≤ ((k : Nat) : Int) ∧ ((k : Nat) : Int) < ((12 : Nat) : Int)) (P2 := 0 < (56 : Int) ∧ (56 : Int) ≤ ((142 : Nat) : Int)) (pc' := 15) (ls' := [(2, 45), (0, ((k : Nat) : Int))]) (st' := []) (w' := (qup w9 56 k 1)) (n' := 142) rfl (by omega) (by decide) ?_
      refine qG.blk 1 (pc' := 18) (ls' := [(2, 45), (0, wrp (((k : Nat) : Int) + 1))]) (st' := []) (w' := (qup w9 56 k 1)) (n' := 142) rfl ?_
      rw [show wrp (((k : Nat) : Int) + 1) = ((k + 1 : Nat) : Int) from wrp_id (by omega) (by omega)]
      refine qG.blk 1 (pc' := 2) (ls' := [(2, 45), (0, ((k + 1 : Nat) : Int))]) (st' := []) (w' := (qup w9 56 k 1)) (n' := 142) rfl ?_
      exact ih2 _ (by omega) (k + 1) ((qup w9 56 k 1)) rfl ((by have q := PV.up (f := fun _ => 1) (g := w9 56) (k := k) (v := 1) (.inl rfl) ⟨hI2.2.1, hI2.2.2, fun _ _ => rfl⟩ rfl (by decide) (by decide); exact ⟨by omega, q.1, q.2.1⟩))
    · skip
      refine qG.retv rfl rfl ?_
      subst hQ9
      exact ⟨rfl, rfl, hI2.2.1, fun j hj => hI2.2.2 j (by omega)⟩
  exact L2 _ (0) (w) rfl (⟨by omega, AW.rf hI, fun j hj => absurd hj (Nat.not_lt_zero j)⟩)
theorem K_mulW {d : Nat} (hd : 3 ≤ d) (n M N : Nat) (w : qW) (hI : yInv zgf zga zra zSp w) (hJ : JQ w) (hM : w 95 55 = (M : Int)) (hN : w 95 57 = (N : Int)) (hn : n < N) (u : Nat → Int) (hu : ∀ j, j < M → 0 ≤ u j ∧ u j ≤ 1000000000) (hw : ∀ j, w 56 j = u j) : qG none d 68 0 [(2, 45), (0, ((n : Nat) : Int)), (9, 0)] [] w 142 (fun (r : qV) (w1 : qW) (n1 : Nat) => r = (9, 0) ∧ n1 = 142 ∧ AW [56] w w1 ∧ ∀ j, j < M → w1 56 j = u j * wgV w n j) := by
  generalize hQ9 : (fun (r : qV) (w1 : qW) (n1 : Nat) => r = (9, 0) ∧ n1 = 142 ∧ AW [56] w w1 ∧ ∀ j, j < M → w1 56 j = u j * wgV w n j) = Q9
  have h55 := zfld hI (j := 55) (b := (0, 12)) rfl
  have b55 : w 95 55 ≤ (12 : Int) := h55.2
  have hM4 : w 45 0 = (M : Int) := hJ.1.1.1.trans hM
  obtain ⟨d, rfl⟩ : ∃ d9, d = d9 + 1 := ⟨d - 1, by omega⟩
  refine qG.blk 2 (pc' := 2) (ls' := [(2, 45), (0, ((n : Nat) : Int)), (0, 0)]) (st' := []) (w' := w) (n' := 142) rfl ?_
  have L2 : ∀ (m9 : Nat) (k : Nat) (w9 : qW), M - k = m9 → (k ≤ M ∧ PV 56 w w9 k (fun j => u j * wgV w n j) u) → qG none (d + 1) 68 2 [(2, 45), (0, ((n : Nat) : Int)), (0, ((k : Nat) : Int))] [] w9 142 Q9 := by
    intro m9
    induction m9 using Nat.strongRecOn with
    | ind m9 ih2 =>
    intro k w9 hm2 hI2
    refine qG.blk 3 (pc' := 7) (ls' := [(2, 45), (0, ((n : Nat) : Int)), (0, ((k : Nat) : Int))]) (st' := [(0, w9 45 0), (0, ((k : Nat) : Int))]) (w' := w9) (n' := 142) rfl ?_
    rw [show w9 45 0 = ((M : Nat) : Int) from (hI2.2.1.2 45 0 (fun _ => rfl)).trans hM4]
    refine qG.br (P := ((k : Nat) : Int) < ((M : Nat) : Int)) (pc1 := 10) (pc2 := 38) (st1 := []) rfl (fun h1 => ?_) (fun h1 => ?_)
    · skip
      refine qG.blk 2 (pc' := 13) (ls' := [(2, 45), (0, ((n : Nat) : Int)), (0, ((k : Nat) : Int))]) (st' := [(0, 12), (0, ((k : Nat) : Int))]) (w' := w9) (n' := 142) rfl ?_
      refine qG.br (P := ((k : Nat) : Int) < 12) (pc1 := 16) (pc2 := 38) (st1 := []) rfl (fun h2 => ?_) (fun h2 => ?_)
      · skip
        refine qG.blk 2 (pc' := 20) (ls' := [(2, 45), (0, ((n : Nat) : Int)), (0, ((k : Nat) : Int))]) (st' := [(2, w9 45 13)]) (w' := w9) (n' := 142) rfl ?_
        rw [show w9 45 13 = 56 from zref hI2.2.1.1 rfl rfl]
        refine qG.blk 2 (pc' := 22) (ls' := [(2, 45), (0, ((n : Nat) : Int)), (0, ((k : Nat) : Int))]) (st' := [(0, ((k : Nat) : Int)), (2, 56), (0, ((k : Nat) : Int)), (2, 56)]) (w' := w9) (n' := 142) rfl ?_
        refine qG.ar (P := 0 ≤ ((k : Nat) : Int) ∧ ((k : Nat) : Int) < ((12 : Nat) : Int)) (P2 := 0 < (56 : Int) ∧ (56 : Int) ≤ ((142 : Nat) : Int)) (pc' := 23) (ls' := [(2, 45), (0, ((n : Nat) : Int)), (0, ((k : Nat) : Int))]) (st' := [(1, w9 56 k), (0, ((k : Nat) : Int)), (2, 56)]) (w' := w9) (n' := 142) rfl (by omega) (by decide) ?_
        rw [show w9 56 k = u k from hI2.2.2.2 k (Nat.le_refl k)]
        refine qG.blk 3 (pc' := 26) (ls' := [(2, 45), (0, ((n : Nat) : Int)), (0, ((k : Nat) : Int))]) (st' := [(0, ((n : Nat) : Int)), (0, ((k : Nat) : Int)), (2, 45), (1, u k), (0, ((k : Nat) : Int)), (2, 56)]) (w' := w9) (n' := 142) rfl ?_
        have hJ9 := hJ.aw hI2.2.1 (by decide +kernel)
        have hwg := wg_aw (.inl rfl) hI2.2.1 n k
        have hR9 := rgN_of hI2.2.1.1
        have hwi := wgV_in hR9 n k
        refine qG.call (t := 71) (na := 3) (sk := 1) (md := 1) (ls1 := [(2, 45), (0, ((k : Nat) : Int)), (0, ((n : Nat) : Int)), (9, 0), (9, 0)]) (r1 := [(1, u k), (0, ((k : Nat) : Int)), (2, 56)]) rfl rfl rfl rfl rfl (K_weightOf (by omega) k n M N w9 hI2.2.1.1 hJ9 ((hI2.2.1.2 95 55 (fun _ => rfl)).trans hM) ((hI2.2.1.2 95 57 (fun _ => rfl)).trans hN) (by omega) hn) ?_
        rintro _ w7 _ ⟨rfl, hw7, rfl⟩
        rw [hw7, hwg]
        rw [hwg] at hwi
        have hmb := mul_b (hu k (by omega)).1 (hu k (by omega)).2 hwi.1 hwi.2
        show qG none (d + 1) 68 29 [(2, 45), (0, ((n : Nat) : Int)), (0, ((k : Nat) : Int))] [(0, wgV w n k), (1, u k), (0, ((k : Nat) : Int)), (2, 56)] w9 142 Q9
        refine qG.blk 2 (pc' := 31) (ls' := [(2, 45), (0, ((n : Nat) : Int)), (0, ((k : Nat) : Int))]) (st' := [(1, wrl ((u k) * (wgV w n k))), (0, ((k : Nat) : Int)), (2, 56)]) (w' := w9) (n' := 142) rfl ?_
        rw [show wrl ((u k) * (wgV w n k)) = u k * wgV w n k from wrl_id (by omega) (by omega)]
        refine qG.ar (P := 0 ≤ ((k : Nat) : Int) ∧ ((k : Nat) : Int) < ((12 : Nat) : Int)) (P2 := 0 < (56 : Int) ∧ (56 : Int) ≤ ((142 : Nat) : Int)) (pc' := 32) (ls' := [(2, 45), (0, ((n : Nat) : Int)), (0, ((k : Nat) : Int))]) (st' := []) (w' := (qup w9 56 k (u k * wgV w n k))) (n' := 142) rfl (by omega) (by decide) ?_
        refine qG.blk 1 (pc' := 35) (ls' := [(2, 45), (0, ((n : Nat) : Int)), (0, wrp (((k : Nat) : Int) + 1))]) (st' := []) (w' := (qup w9 56 k (u k * wgV w n k))) (n' := 142) rfl ?_
        rw [show wrp (((k : Nat) : Int) + 1) = ((k + 1 : Nat) : Int) from wrp_id (by omega) (by omega)]
        refine qG.blk 1 (pc' := 2) (ls' := [(2, 45), (0, ((n : Nat) : Int)), (0, ((k + 1 : Nat) : Int))]) (st' := []) (w' := (qup w9 56 k (u k * wgV w n k))) (n' := 142) rfl ?_
        exact ih2 _ (by omega) (k + 1) ((qup w9 56 k (u k * wgV w n k))) rfl (⟨by omega, PV.up (.inl rfl) hI2.2 rfl (by omega) (by omega)⟩)
      · skip
        refine qG.retv rfl rfl ?_
        subst hQ9
        exact ⟨rfl, rfl, hI2.2.1, fun j hj => hI2.2.2.1 j (by omega)⟩
    · skip
      refine qG.retv rfl rfl ?_
      subst hQ9
      exact ⟨rfl, rfl, hI2.2.1, fun j hj => hI2.2.2.1 j (by omega)⟩
  exact L2 _ (0) (w) rfl (⟨by omega, AW.rf hI, fun j hj => absurd hj (Nat.not_lt_zero j), fun j _ => hw j⟩)
theorem K_oddsOf {d : Nat} (hd : 1 ≤ d) (m M : Nat) (hM9 : M ≤ 12) (hm : m < M) (w : qW) (hI : yInv zgf zga zra zSp w) (hM4 : w 45 0 = (M : Int)) (u : Nat → Int) (hu : ∀ j, j < M → 0 ≤ u j ∧ u j ≤ 1000000000) (hw : ∀ j, j < M → w 56 j = u j) : qG none d 70 0 [(2, 45), (0, ((m : Nat) : Int)), (9, 0), (9, 0), (9, 0)] [] w 142 (fun (r : qV) (w1 : qW) (n1 : Nat) => r = (0, odV u M m) ∧ w1 = w ∧ n1 = 142) := by
  generalize hQ9 : (fun (r : qV) (w1 : qW) (n1 : Nat) => r = (0, odV u M m) ∧ w1 = w ∧ n1 = 142) = Q9
  have hsM := smF_in M hu
  have hbM : (1000000000 : Int) * (M : Int) ≤ 12000000000 := by omega
  obtain ⟨d, rfl⟩ : ∃ d9, d = d9 + 1 := ⟨d - 1, by omega⟩
  refine qG.blk 4 (pc' := 5) (ls' := [(2, 45), (0, ((m : Nat) : Int)), (1, 0), (9, 0), (0, 0)]) (st' := []) (w' := w) (n' := 142) rfl ?_
  have L5 : ∀ (m9 : Nat) (k : Nat), M - k = m9 → (k ≤ M) → qG none (d + 1) 70 5 [(2, 45), (0, ((m : Nat) : Int)), (1, smF u k), (9, 0), (0, ((k : Nat) : Int))] [] w 142 Q9 := by
    intro m9
    induction m9 using Nat.strongRecOn with
    | ind m9 ih5 =>
    intro k hm5 hI5
    have hsk := smF_in k (fun j hj => hu j (by omega))
    have hbk : (1000000000 : Int) * (k : Int) ≤ 12000000000 := by omega
    refine qG.blk 3 (pc' := 11) (ls' := [(2, 45), (0, ((m : Nat) : Int)), (1, smF u k), (9, 0), (0, ((k : Nat) : Int))]) (st' := [(0, w 45 0), (0, ((k : Nat) : Int))]) (w' := w) (n' := 142) rfl ?_
    rw [show w 45 0 = ((M : Nat) : Int) from hM4]
    refine qG.br (P := ((k : Nat) : Int) < ((M : Nat) : Int)) (pc1 := 14) (pc2 := 37) (st1 := []) rfl (fun hkM => ?_) (fun hkM => ?_)
    · skip
      refine qG.blk 2 (pc' := 18) (ls' := [(2, 45), (0, ((m : Nat) : Int)), (1, smF u k), (9, 0), (0, ((k : Nat) : Int))]) (st' := [(0, 12), (0, ((k : Nat) : Int))]) (w' := w) (n' := 142) rfl ?_
      refine qG.br (P := ((k : Nat) : Int) < 12) (pc1 := 21) (pc2 := 37) (st1 := []) rfl (fun hk12 => ?_) (fun hk12 => ?_)
      · skip
        refine qG.blk 3 (pc' := 26) (ls' := [(2, 45), (0, ((m : Nat) : Int)), (1, smF u k), (9, 0), (0, ((k : Nat) : Int))]) (st' := [(2, w 45 13), (1, smF u k)]) (w' := w) (n' := 142) rfl ?_
        rw [show w 45 13 = 56 from zref hI rfl rfl]
        refine qG.blk 1 (pc' := 28) (ls' := [(2, 45), (0, ((m : Nat) : Int)), (1, smF u k), (9, 0), (0, ((k : Nat) : Int))]) (st' := [(0, ((k : Nat) : Int)), (2, 56), (1, smF u k)]) (w' := w) (n' := 142) rfl ?_
        refine qG.ar (P := 0 ≤ ((k : Nat) : Int) ∧ ((k : Nat) : Int) < ((12 : Nat) : Int)) (P2 := 0 < (56 : Int) ∧ (56 : Int) ≤ ((142 : Nat) : Int)) (pc' := 29) (ls' := [(2, 45), (0, ((m : Nat) : Int)), (1, smF u k), (9, 0), (0, ((k : Nat) : Int))]) (st' := [(1, w 56 k), (1, smF u k)]) (w' := w) (n' := 142) rfl (by omega) (by decide) ?_
        rw [show w 56 k = u k from hw k (by omega)]
        refine qG.blk 1 (pc' := 30) (ls' := [(2, 45), (0, ((m : Nat) : Int)), (1, smF u k), (9, 0), (0, ((k : Nat) : Int))]) (st' := [(1, wrl ((smF u k) + (u k)))]) (w' := w) (n' := 142) rfl ?_
        rw [show wrl ((smF u k) + (u k)) = smF u (k + 1) from wrl_id (by have := hu k (by omega); omega) (by have := hu k (by omega); omega)]
        refine qG.blk 2 (pc' := 34) (ls' := [(2, 45), (0, ((m : Nat) : Int)), (1, smF u (k + 1)), (9, 0), (0, wrp (((k : Nat) : Int) + 1))]) (st' := []) (w' := w) (n' := 142) rfl ?_
        rw [show wrp (((k : Nat) : Int) + 1) = ((k + 1 : Nat) : Int) from wrp_id (by omega) (by omega)]
        refine qG.blk 1 (pc' := 5) (ls' := [(2, 45), (0, ((m : Nat) : Int)), (1, smF u (k + 1)), (9, 0), (0, ((k + 1 : Nat) : Int))]) (st' := []) (w' := w) (n' := 142) rfl ?_
        exact ih5 _ (by omega) (k + 1) rfl (by omega)
      · exfalso; omega
    · skip
      have hek : k = M := by omega
      rw [hek]
      refine qG.blk 3 (pc' := 40) (ls' := [(2, 45), (0, ((m : Nat) : Int)), (1, smF u M), (9, 0), (0, ((M : Nat) : Int))]) (st' := [(0, qcmp (smF u M) 0)]) (w' := w) (n' := 142) rfl ?_
      refine qG.br (P := 0 < qcmp (smF u M) 0) (pc1 := 43) (pc2 := 51) (st1 := []) rfl (fun hs0 => ?_) (fun hs0 => ?_)
      · skip
        rw [qcmp_p] at hs0
        have hum := hu m hm
        have hoi := odV_in hm (fun j hj => (hu j hj).1) (show ¬ smF u M = 0 by omega)
        refine qG.blk 2 (pc' := 45) (ls' := [(2, 45), (0, ((m : Nat) : Int)), (1, smF u M), (9, 0), (0, ((M : Nat) : Int))]) (st' := [(0, ((m : Nat) : Int)), (2, 45)]) (w' := w) (n' := 142) rfl ?_
        refine qG.call (t := 59) (na := 2) (sk := 1) (md := 1) (ls1 := [(2, 45), (0, ((m : Nat) : Int))]) (r1 := []) rfl rfl rfl rfl rfl (K_X4_isMaster (Nat.zero_le _) ((m : Nat) : Int) w hI) ?_
        rintro _ w7 _ ⟨rfl, hw7, rfl⟩
        rw [hw7]
        show qG none (d + 1) 70 48 [(2, 45), (0, ((m : Nat) : Int)), (1, smF u M), (9, 0), (0, ((M : Nat) : Int))] [(0, isInV ((m : Nat) : Int) 0 (w 45 0 - 1))] w 142 Q9
        refine qG.br (P := isInV ((m : Nat) : Int) 0 (w 45 0 - 1) = 0) (pc1 := 51) (pc2 := 53) (st1 := []) rfl (fun hmm => ?_) (fun hmm => ?_)
        · exfalso; rw [isIn_b] at hmm; omega
        · skip
          refine qG.blk 3 (pc' := 60) (ls' := [(2, 45), (0, ((m : Nat) : Int)), (1, smF u M), (9, 0), (0, ((M : Nat) : Int))]) (st' := [(2, w 45 13), (1, 1000)]) (w' := w) (n' := 142) rfl ?_
          rw [show w 45 13 = 56 from zref hI rfl rfl]
          refine qG.blk 1 (pc' := 61) (ls' := [(2, 45), (0, ((m : Nat) : Int)), (1, smF u M), (9, 0), (0, ((M : Nat) : Int))]) (st' := [(0, ((m : Nat) : Int)), (2, 56), (1, 1000)]) (w' := w) (n' := 142) rfl ?_
          refine qG.ar (P := 0 ≤ ((m : Nat) : Int) ∧ ((m : Nat) : Int) < ((12 : Nat) : Int)) (P2 := 0 < (56 : Int) ∧ (56 : Int) ≤ ((142 : Nat) : Int)) (pc' := 62) (ls' := [(2, 45), (0, ((m : Nat) : Int)), (1, smF u M), (9, 0), (0, ((M : Nat) : Int))]) (st' := [(1, w 56 m), (1, 1000)]) (w' := w) (n' := 142) rfl (by omega) (by decide) ?_
          rw [show w 56 m = u m from hw m (by omega)]
          refine qG.blk 1 (pc' := 63) (ls' := [(2, 45), (0, ((m : Nat) : Int)), (1, smF u M), (9, 0), (0, ((M : Nat) : Int))]) (st' := [(1, wrl (1000 * (u m)))]) (w' := w) (n' := 142) rfl ?_
          rw [show wrl (1000 * (u m)) = 1000 * u m from wrl_id (by omega) (by omega)]
          refine qG.blk 1 (pc' := 64) (ls' := [(2, 45), (0, ((m : Nat) : Int)), (1, smF u M), (9, 0), (0, ((M : Nat) : Int))]) (st' := [(1, smF u M), (1, 1000 * u m)]) (w' := w) (n' := 142) rfl ?_
          refine qG.gn (P := smF u M = 0) (pc' := 65) (ls' := [(2, 45), (0, ((m : Nat) : Int)), (1, smF u M), (9, 0), (0, ((M : Nat) : Int))]) (st' := [(1, qldiv (1000 * u m) (smF u M))]) (w' := w) (n' := 142) rfl (by omega) ?_
          rw [show qldiv (1000 * u m) (smF u M) = (1000 * u m).tdiv (smF u M) from by unfold qldiv; exact wrl_id (by omega) (by omega)]
          refine qG.blk 1 (pc' := 66) (ls' := [(2, 45), (0, ((m : Nat) : Int)), (1, smF u M), (9, 0), (0, ((M : Nat) : Int))]) (st' := [(0, wrp ((1000 * u m).tdiv (smF u M)))]) (w' := w) (n' := 142) rfl ?_
          rw [show wrp ((1000 * u m).tdiv (smF u M)) = (1000 * u m).tdiv (smF u M) from wrp_id (by omega) (by omega)]
          refine qG.ret rfl rfl ?_
          subst hQ9
          exact ⟨congrArg (Prod.mk (0 : Nat)) (by unfold odV; first | (rw [if_pos (by omega)]; done) | (rw [if_neg (by omega)]; done)), rfl, rfl⟩
      · skip
        rw [qcmp_p] at hs0
        refine qG.blk 1 (pc' := 52) (ls' := [(2, 45), (0, ((m : Nat) : Int)), (1, smF u M), (9, 0), (0, ((M : Nat) : Int))]) (st' := [(0, (-1))]) (w' := w) (n' := 142) rfl ?_
        refine qG.ret rfl rfl ?_
        subst hQ9
        exact ⟨congrArg (Prod.mk (0 : Nat)) (by unfold odV; first | (rw [if_pos (by omega)]; done) | (rw [if_neg (by omega)]; done)), rfl, rfl⟩
  exact L5 _ (0) rfl (by omega)
theorem K_guessOne {d : Nat} (hd : 4 ≤ d) (n m v : Int) (M N : Nat) (w : qW) (hI : yInv zgf zga zra zSp w) (hJ : JQ w) (hM : w 95 55 = (M : Int)) (hN : w 95 57 = (N : Int))  : qG none d 65 0 [(2, 45), (0, n), (0, m), (0, v)] [] w 142 (fun (r : qV) (_ : qW) (n1 : Nat) => r = (0, whoV w n m v) ∧ n1 = 142) := by
  generalize hQ9 : (fun (r : qV) (_ : qW) (n1 : Nat) => r = (0, whoV w n m v) ∧ n1 = 142) = Q9
  have h55 := zfld hI (j := 55) (b := (0, 12)) rfl
  have a55 : (0 : Int) ≤ w 95 55 := h55.1
  have b55 : w 95 55 ≤ (12 : Int) := h55.2
  have h57 := zfld hI (j := 57) (b := (0, 60)) rfl
  have b57 : w 95 57 ≤ (60 : Int) := h57.2
  have j45 := hJ.1.1.1
  have j457 := hJ.1.1.2.1
  have hR := rgN_of hI
  obtain ⟨d, rfl⟩ : ∃ d9, d = d9 + 1 := ⟨d - 1, by omega⟩
  refine qG.blk 2 (pc' := 2) (ls' := [(2, 45), (0, n), (0, m), (0, v)]) (st' := [(0, n), (2, 45)]) (w' := w) (n' := 142) rfl ?_
  refine qG.call (t := 60) (na := 2) (sk := 1) (md := 1) (ls1 := [(2, 45), (0, n)]) (r1 := []) rfl rfl rfl rfl rfl (K_X4_isNight (Nat.zero_le _) n w hI) ?_
  rintro _ w7 _ ⟨rfl, hw7, rfl⟩
  rw [hw7]
  show qG none (d + 1) 65 5 [(2, 45), (0, n), (0, m), (0, v)] [(0, isInV n 0 (w 45 7 - 1))] w 142 Q9
  refine qG.br (P := isInV n 0 (w 45 7 - 1) = 0) (pc1 := 25) (pc2 := 8) (st1 := []) rfl (fun h1 => ?_) (fun h1 => ?_)
  · skip
    rw [isIn_b] at h1
    refine qG.blk 1 (pc' := 26) (ls' := [(2, 45), (0, n), (0, m), (0, v)]) (st' := [(0, (-1))]) (w' := w) (n' := 142) rfl ?_
    refine qG.ret rfl rfl ?_
    subst hQ9
    exact ⟨congrArg (Prod.mk (0 : Nat)) (by first | exact (whoV_n (by omega)).symm | (unfold whoV; rw [if_pos (by omega), hM, Int.toNat_natCast, Int.toNat_natCast, Int.toNat_natCast]; first | (rw [if_pos (by omega)]; done) | (rw [if_neg (by omega)]; done)) | (unfold whoV; rw [if_pos (by omega), if_pos (by omega), Int.toNat_natCast, Int.toNat_natCast]; done)), rfl⟩
  · skip
    rw [isIn_p] at h1
    obtain ⟨n9, rfl⟩ : ∃ q : Nat, n = (q : Int) := ⟨n.toNat, by omega⟩
    refine qG.blk 2 (pc' := 10) (ls' := [(2, 45), (0, ((n9 : Nat) : Int)), (0, m), (0, v)]) (st' := [(0, m), (2, 45)]) (w' := w) (n' := 142) rfl ?_
    refine qG.call (t := 59) (na := 2) (sk := 1) (md := 1) (ls1 := [(2, 45), (0, m)]) (r1 := []) rfl rfl rfl rfl rfl (K_X4_isMaster (Nat.zero_le _) m w hI) ?_
    rintro _ w7 _ ⟨rfl, hw7, rfl⟩
    rw [hw7]
    show qG none (d + 1) 65 13 [(2, 45), (0, ((n9 : Nat) : Int)), (0, m), (0, v)] [(0, isInV m 0 (w 45 0 - 1))] w 142 Q9
    refine qG.br (P := isInV m 0 (w 45 0 - 1) = 0) (pc1 := 25) (pc2 := 16) (st1 := []) rfl (fun h2 => ?_) (fun h2 => ?_)
    · skip
      rw [isIn_b] at h2
      refine qG.blk 1 (pc' := 26) (ls' := [(2, 45), (0, ((n9 : Nat) : Int)), (0, m), (0, v)]) (st' := [(0, (-1))]) (w' := w) (n' := 142) rfl ?_
      refine qG.ret rfl rfl ?_
      subst hQ9
      exact ⟨congrArg (Prod.mk (0 : Nat)) (by first | exact (whoV_n (by omega)).symm | (unfold whoV; rw [if_pos (by omega), hM, Int.toNat_natCast, Int.toNat_natCast, Int.toNat_natCast]; first | (rw [if_pos (by omega)]; done) | (rw [if_neg (by omega)]; done)) | (unfold whoV; rw [if_pos (by omega), if_pos (by omega), Int.toNat_natCast, Int.toNat_natCast]; done)), rfl⟩
    · skip
      rw [isIn_p] at h2
      obtain ⟨g9, rfl⟩ : ∃ q : Nat, m = (q : Int) := ⟨m.toNat, by omega⟩
      refine qG.blk 1 (pc' := 17) (ls' := [(2, 45), (0, ((n9 : Nat) : Int)), (0, ((g9 : Nat) : Int)), (0, v)]) (st' := [(0, v)]) (w' := w) (n' := 142) rfl ?_
      refine qG.br (P := v < 0) (pc1 := 25) (pc2 := 20) (st1 := []) rfl (fun h3 => ?_) (fun h3 => ?_)
      · skip
        refine qG.blk 1 (pc' := 26) (ls' := [(2, 45), (0, ((n9 : Nat) : Int)), (0, ((g9 : Nat) : Int)), (0, v)]) (st' := [(0, (-1))]) (w' := w) (n' := 142) rfl ?_
        refine qG.ret rfl rfl ?_
        subst hQ9
        exact ⟨congrArg (Prod.mk (0 : Nat)) (by first | exact (whoV_n (by omega)).symm | (unfold whoV; rw [if_pos (by omega), hM, Int.toNat_natCast, Int.toNat_natCast, Int.toNat_natCast]; first | (rw [if_pos (by omega)]; done) | (rw [if_neg (by omega)]; done)) | (unfold whoV; rw [if_pos (by omega), if_pos (by omega), Int.toNat_natCast, Int.toNat_natCast]; done)), rfl⟩
      · skip
        refine qG.blk 2 (pc' := 22) (ls' := [(2, 45), (0, ((n9 : Nat) : Int)), (0, ((g9 : Nat) : Int)), (0, v)]) (st' := [(0, 1), (0, v)]) (w' := w) (n' := 142) rfl ?_
        refine qG.br (P := 1 < v) (pc1 := 25) (pc2 := 27) (st1 := []) rfl (fun h4 => ?_) (fun h4 => ?_)
        · skip
          refine qG.blk 1 (pc' := 26) (ls' := [(2, 45), (0, ((n9 : Nat) : Int)), (0, ((g9 : Nat) : Int)), (0, v)]) (st' := [(0, (-1))]) (w' := w) (n' := 142) rfl ?_
          refine qG.ret rfl rfl ?_
          subst hQ9
          exact ⟨congrArg (Prod.mk (0 : Nat)) (by first | exact (whoV_n (by omega)).symm | (unfold whoV; rw [if_pos (by omega), hM, Int.toNat_natCast, Int.toNat_natCast, Int.toNat_natCast]; first | (rw [if_pos (by omega)]; done) | (rw [if_neg (by omega)]; done)) | (unfold whoV; rw [if_pos (by omega), if_pos (by omega), Int.toNat_natCast, Int.toNat_natCast]; done)), rfl⟩
        · skip
          refine qG.blk 2 (pc' := 29) (ls' := [(2, 45), (0, ((n9 : Nat) : Int)), (0, ((g9 : Nat) : Int)), (0, v)]) (st' := [(0, 1), (0, v)]) (w' := w) (n' := 142) rfl ?_
          refine qG.br (P := v = 1) (pc1 := 32) (pc2 := 39) (st1 := []) rfl (fun h5 => ?_) (fun h5 => ?_)
          · skip
            refine qG.blk 3 (pc' := 35) (ls' := [(2, 45), (0, ((n9 : Nat) : Int)), (0, ((g9 : Nat) : Int)), (0, v)]) (st' := [(0, ((n9 : Nat) : Int)), (0, ((g9 : Nat) : Int)), (2, 45)]) (w' := w) (n' := 142) rfl ?_
            refine qG.call (t := 71) (na := 3) (sk := 1) (md := 1) (ls1 := [(2, 45), (0, ((g9 : Nat) : Int)), (0, ((n9 : Nat) : Int)), (9, 0), (9, 0)]) (r1 := []) rfl rfl rfl rfl rfl (K_weightOf (by omega) g9 n9 M N w hI hJ hM hN (by omega) (by omega)) ?_
            rintro _ w7 _ ⟨rfl, hw7, rfl⟩
            rw [hw7]
            show qG none (d + 1) 65 38 [(2, 45), (0, ((n9 : Nat) : Int)), (0, ((g9 : Nat) : Int)), (0, v)] [(0, wgV w n9 g9)] w 142 Q9
            refine qG.ret rfl rfl ?_
            subst hQ9
            exact ⟨congrArg (Prod.mk (0 : Nat)) (by first | exact (whoV_n (by omega)).symm | (unfold whoV; rw [if_pos (by omega), hM, Int.toNat_natCast, Int.toNat_natCast, Int.toNat_natCast]; first | (rw [if_pos (by omega)]; done) | (rw [if_neg (by omega)]; done)) | (unfold whoV; rw [if_pos (by omega), if_pos (by omega), Int.toNat_natCast, Int.toNat_natCast]; done)), rfl⟩
          · skip
            refine qG.blk 1 (pc' := 40) (ls' := [(2, 45), (0, ((n9 : Nat) : Int)), (0, ((g9 : Nat) : Int)), (0, v)]) (st' := [(2, 45)]) (w' := w) (n' := 142) rfl ?_
            refine qG.call (t := 67) (na := 1) (sk := 1) (md := 1) (ls1 := [(2, 45), (9, 0)]) (r1 := []) rfl rfl rfl rfl rfl (K_startW (by omega) w hI) ?_
            rintro _ w1 _ ⟨rfl, rfl, hA1, hS1⟩
            have hJ1 := hJ.aw hA1 (by decide +kernel)
            have hM1 := (hA1.2 95 55 (fun _ => rfl)).trans hM
            have hN1 := (hA1.2 95 57 (fun _ => rfl)).trans hN
            show qG none (d + 1) 65 43 [(2, 45), (0, ((n9 : Nat) : Int)), (0, ((g9 : Nat) : Int)), (0, v)] [] w1 142 Q9
            refine qG.blk 2 (pc' := 45) (ls' := [(2, 45), (0, ((n9 : Nat) : Int)), (0, ((g9 : Nat) : Int)), (0, v)]) (st' := [(0, ((n9 : Nat) : Int)), (2, 45)]) (w' := w1) (n' := 142) rfl ?_
            refine qG.call (t := 68) (na := 2) (sk := 1) (md := 1) (ls1 := [(2, 45), (0, ((n9 : Nat) : Int)), (9, 0)]) (r1 := []) rfl rfl rfl rfl rfl (K_mulW (by omega) n9 M N w1 hA1.1 hJ1 hM1 hN1 (by omega) (w1 56) (fun j hj => by rw [hS1 j (by omega)]; exact ⟨by decide, by decide⟩) (fun _ => rfl)) ?_
            rintro _ w2 _ ⟨rfl, rfl, hA2, hS2⟩
            have hu : ∀ j, j < M → w2 56 j = wgV w n9 j := fun j hj => by rw [hS2 j hj, hS1 j (by omega), Int.one_mul]; exact wg_aw (.inl rfl) hA1 n9 j
            have hM2 : w2 45 0 = (M : Int) := (hA2.2 45 0 (fun _ => rfl)).trans ((hA1.2 45 0 (fun _ => rfl)).trans (hJ.1.1.1.trans hM))
            show qG none (d + 1) 65 48 [(2, 45), (0, ((n9 : Nat) : Int)), (0, ((g9 : Nat) : Int)), (0, v)] [] w2 142 Q9
            refine qG.blk 2 (pc' := 50) (ls' := [(2, 45), (0, ((n9 : Nat) : Int)), (0, ((g9 : Nat) : Int)), (0, v)]) (st' := [(0, ((g9 : Nat) : Int)), (2, 45)]) (w' := w2) (n' := 142) rfl ?_
            refine qG.call (t := 70) (na := 2) (sk := 1) (md := 1) (ls1 := [(2, 45), (0, ((g9 : Nat) : Int)), (9, 0), (9, 0), (9, 0)]) (r1 := []) rfl rfl rfl rfl rfl (K_oddsOf (by omega) g9 M (by omega) (by omega) w2 hA2.1 hM2 (fun j => wgV w n9 j) (fun j hj => by have q := wgV_in hR n9 j; exact ⟨q.1, by omega⟩) hu) ?_
            rintro _ w7 _ ⟨rfl, hw7, rfl⟩
            rw [hw7]
            show qG none (d + 1) 65 53 [(2, 45), (0, ((n9 : Nat) : Int)), (0, ((g9 : Nat) : Int)), (0, v)] [(0, odV (fun j => wgV w n9 j) M g9)] w2 142 Q9
            refine qG.ret rfl rfl ?_
            subst hQ9
            exact ⟨congrArg (Prod.mk (0 : Nat)) (by first | exact (whoV_n (by omega)).symm | (unfold whoV; rw [if_pos (by omega), hM, Int.toNat_natCast, Int.toNat_natCast, Int.toNat_natCast]; first | (rw [if_pos (by omega)]; done) | (rw [if_neg (by omega)]; done)) | (unfold whoV; rw [if_pos (by omega), if_pos (by omega), Int.toNat_natCast, Int.toNat_natCast]; done)), rfl⟩
theorem K_X11_who {d : Nat} (hd : 5 ≤ d) (n m v : Int) (M N : Nat) (w : qW) (hI : yInv zgf zga zra zSp w) (hJ : JQ w) (hM : w 95 55 = (M : Int)) (hN : w 95 57 = (N : Int))  : qG none d 189 0 [(2, 1), (0, n), (0, m), (0, v)] [] w 142 (fun (r : qV) (_ : qW) (_ : Nat) => r = (0, whoV w n m v)) := by
  generalize hQ9 : (fun (r : qV) (_ : qW) (_ : Nat) => r = (0, whoV w n m v)) = Q9
  obtain ⟨d, rfl⟩ : ∃ d9, d = d9 + 1 := ⟨d - 1, by omega⟩
  refine qG.blk 2 (pc' := 4) (ls' := [(2, 1), (0, n), (0, m), (0, v)]) (st' := [(2, w 1 7)]) (w' := w) (n' := 142) rfl ?_
  rw [show w 1 7 = 45 from zref hI rfl rfl]
  refine qG.blk 3 (pc' := 7) (ls' := [(2, 1), (0, n), (0, m), (0, v)]) (st' := [(0, v), (0, m), (0, n), (2, 45)]) (w' := w) (n' := 142) rfl ?_
  refine qG.call (t := 65) (na := 4) (sk := 1) (md := 1) (ls1 := [(2, 45), (0, n), (0, m), (0, v)]) (r1 := []) rfl rfl rfl rfl rfl (K_guessOne (by omega) n m v M N w hI hJ hM hN) ?_
  rintro _ w8 _ ⟨rfl, rfl⟩
  show qG none (d + 1) 189 10 [(2, 1), (0, n), (0, m), (0, v)] [(0, whoV w n m v)] w8 142 Q9
  refine qG.ret rfl rfl ?_
  subst hQ9
  exact rfl
theorem K_X12_who {d : Nat} (hd : 3 ≤ d) (n m v : Int) (M N : Nat) (w : qW) (hI : yInv zgf zga zra zSp w) (hM : w 95 55 = (M : Int)) (hN : w 95 57 = (N : Int))  : qG none d 286 0 [(2, 95), (0, n), (0, m), (0, v), (9, 0), (9, 0)] [] w 142 (fun (r : qV) (_ : qW) (_ : Nat) => r = (0, whoV w n m v)) := by
  generalize hQ9 : (fun (r : qV) (_ : qW) (_ : Nat) => r = (0, whoV w n m v)) = Q9
  have h55 := zfld hI (j := 55) (b := (0, 12)) rfl
  have a55 : (0 : Int) ≤ w 95 55 := h55.1
  have b55 : w 95 55 ≤ (12 : Int) := h55.2
  have h57 := zfld hI (j := 57) (b := (0, 60)) rfl
  have b57 : w 95 57 ≤ (60 : Int) := h57.2
  have hR := rgN_of hI
  have a57 : (0 : Int) ≤ w 95 57 := h57.1
  obtain ⟨d, rfl⟩ : ∃ d9, d = d9 + 1 := ⟨d - 1, by omega⟩
  refine qG.blk 6 (pc' := 8) (ls' := [(2, 95), (0, n), (0, m), (0, v), (9, 0), (9, 0)]) (st' := [(0, wrp ((w 95 57) - 1)), (0, 0), (0, n)]) (w' := w) (n' := 142) rfl ?_
  rw [show wrp ((w 95 57) - 1) = w 95 57 - 1 from wrp_id (by omega) (by omega)]
  refine qG.call (t := 206) (na := 3) (sk := 0) (md := 0) (ls1 := [(0, n), (0, 0), (0, w 95 57 - 1)]) (r1 := []) rfl rfl rfl rfl rfl (K_isIn (Nat.zero_le _) _ _ _ _) ?_
  rintro _ w7 _ ⟨rfl, hw7, rfl⟩
  rw [hw7]
  show qG none (d + 1) 286 11 [(2, 95), (0, n), (0, m), (0, v), (9, 0), (9, 0)] [(0, isInV n 0 (w 95 57 - 1))] w 142 Q9
  refine qG.br (P := isInV n 0 (w 95 57 - 1) = 0) (pc1 := 31) (pc2 := 14) (st1 := []) rfl (fun h1 => ?_) (fun h1 => ?_)
  · skip
    rw [isIn_b] at h1
    refine qG.blk 1 (pc' := 32) (ls' := [(2, 95), (0, n), (0, m), (0, v), (9, 0), (9, 0)]) (st' := [(0, (-1))]) (w' := w) (n' := 142) rfl ?_
    refine qG.ret rfl rfl ?_
    subst hQ9
    exact congrArg (Prod.mk (0 : Nat)) (by first | exact (whoV_n (by omega)).symm | (unfold whoV; rw [if_pos (by omega), if_pos (by omega), Int.toNat_natCast, Int.toNat_natCast]; done) | (unfold whoV odV; rw [if_pos (by omega), if_neg (by omega), hM, Int.toNat_natCast, Int.toNat_natCast, Int.toNat_natCast]; first | (rw [if_pos hs0]; done) | (rw [if_neg hs0]; done) | (rw [if_pos hs0]; rfl) | (rw [if_neg hs0]; rfl)))
  · skip
    rw [isIn_p] at h1
    obtain ⟨n9, rfl⟩ : ∃ q : Nat, n = (q : Int) := ⟨n.toNat, by omega⟩
    refine qG.blk 2 (pc' := 16) (ls' := [(2, 95), (0, ((n9 : Nat) : Int)), (0, m), (0, v), (9, 0), (9, 0)]) (st' := [(0, m), (2, 95)]) (w' := w) (n' := 142) rfl ?_
    refine qG.call (t := 279) (na := 2) (sk := 1) (md := 1) (ls1 := [(2, 95), (0, m)]) (r1 := []) rfl rfl rfl rfl rfl (K_isMaster (by omega) m w hI) ?_
    rintro _ w7 _ ⟨rfl, hw7, rfl⟩
    rw [hw7]
    show qG none (d + 1) 286 19 [(2, 95), (0, ((n9 : Nat) : Int)), (0, m), (0, v), (9, 0), (9, 0)] [(0, isInV m 0 (w 95 55 - 1))] w 142 Q9
    refine qG.br (P := isInV m 0 (w 95 55 - 1) = 0) (pc1 := 31) (pc2 := 22) (st1 := []) rfl (fun h2 => ?_) (fun h2 => ?_)
    · skip
      rw [isIn_b] at h2
      refine qG.blk 1 (pc' := 32) (ls' := [(2, 95), (0, ((n9 : Nat) : Int)), (0, m), (0, v), (9, 0), (9, 0)]) (st' := [(0, (-1))]) (w' := w) (n' := 142) rfl ?_
      refine qG.ret rfl rfl ?_
      subst hQ9
      exact congrArg (Prod.mk (0 : Nat)) (by first | exact (whoV_n (by omega)).symm | (unfold whoV; rw [if_pos (by omega), if_pos (by omega), Int.toNat_natCast, Int.toNat_natCast]; done) | (unfold whoV odV; rw [if_pos (by omega), if_neg (by omega), hM, Int.toNat_natCast, Int.toNat_natCast, Int.toNat_natCast]; first | (rw [if_pos hs0]; done) | (rw [if_neg hs0]; done) | (rw [if_pos hs0]; rfl) | (rw [if_neg hs0]; rfl)))
    · skip
      rw [isIn_p] at h2
      obtain ⟨g9, rfl⟩ : ∃ q : Nat, m = (q : Int) := ⟨m.toNat, by omega⟩
      refine qG.blk 3 (pc' := 25) (ls' := [(2, 95), (0, ((n9 : Nat) : Int)), (0, ((g9 : Nat) : Int)), (0, v), (9, 0), (9, 0)]) (st' := [(0, 1), (0, 0), (0, v)]) (w' := w) (n' := 142) rfl ?_
      refine qG.call (t := 206) (na := 3) (sk := 0) (md := 0) (ls1 := [(0, v), (0, 0), (0, 1)]) (r1 := []) rfl rfl rfl rfl rfl (K_isIn (Nat.zero_le _) _ _ _ _) ?_
      rintro _ w7 _ ⟨rfl, hw7, rfl⟩
      rw [hw7]
      show qG none (d + 1) 286 28 [(2, 95), (0, ((n9 : Nat) : Int)), (0, ((g9 : Nat) : Int)), (0, v), (9, 0), (9, 0)] [(0, isInV v 0 1)] w 142 Q9
      refine qG.br (P := isInV v 0 1 = 0) (pc1 := 31) (pc2 := 33) (st1 := []) rfl (fun h3 => ?_) (fun h3 => ?_)
      · skip
        rw [isIn_b] at h3
        refine qG.blk 1 (pc' := 32) (ls' := [(2, 95), (0, ((n9 : Nat) : Int)), (0, ((g9 : Nat) : Int)), (0, v), (9, 0), (9, 0)]) (st' := [(0, (-1))]) (w' := w) (n' := 142) rfl ?_
        refine qG.ret rfl rfl ?_
        subst hQ9
        exact congrArg (Prod.mk (0 : Nat)) (by first | exact (whoV_n (by omega)).symm | (unfold whoV; rw [if_pos (by omega), if_pos (by omega), Int.toNat_natCast, Int.toNat_natCast]; done) | (unfold whoV odV; rw [if_pos (by omega), if_neg (by omega), hM, Int.toNat_natCast, Int.toNat_natCast, Int.toNat_natCast]; first | (rw [if_pos hs0]; done) | (rw [if_neg hs0]; done) | (rw [if_pos hs0]; rfl) | (rw [if_neg hs0]; rfl)))
      · skip
        rw [isIn_p] at h3
        refine qG.blk 2 (pc' := 35) (ls' := [(2, 95), (0, ((n9 : Nat) : Int)), (0, ((g9 : Nat) : Int)), (0, v), (9, 0), (9, 0)]) (st' := [(0, 1), (0, v)]) (w' := w) (n' := 142) rfl ?_
        refine qG.br (P := v = 1) (pc1 := 38) (pc2 := 45) (st1 := []) rfl (fun h5 => ?_) (fun h5 => ?_)
        · skip
          refine qG.blk 3 (pc' := 41) (ls' := [(2, 95), (0, ((n9 : Nat) : Int)), (0, ((g9 : Nat) : Int)), (0, v), (9, 0), (9, 0)]) (st' := [(0, ((g9 : Nat) : Int)), (0, ((n9 : Nat) : Int)), (2, 95)]) (w' := w) (n' := 142) rfl ?_
          refine qG.call (t := 285) (na := 3) (sk := 1) (md := 1) (ls1 := [(2, 95), (0, ((n9 : Nat) : Int)), (0, ((g9 : Nat) : Int)), (9, 0), (9, 0)]) (r1 := []) rfl rfl rfl rfl rfl (K_weight (by omega) n9 g9 M N w hI hM hN (by omega) (by omega)) ?_
          rintro _ w7 _ ⟨rfl, hw7, rfl⟩
          rw [hw7]
          show qG none (d + 1) 286 44 [(2, 95), (0, ((n9 : Nat) : Int)), (0, ((g9 : Nat) : Int)), (0, v), (9, 0), (9, 0)] [(0, wgV w n9 g9)] w 142 Q9
          refine qG.ret rfl rfl ?_
          subst hQ9
          exact congrArg (Prod.mk (0 : Nat)) (by first | exact (whoV_n (by omega)).symm | (unfold whoV; rw [if_pos (by omega), if_pos (by omega), Int.toNat_natCast, Int.toNat_natCast]; done) | (unfold whoV odV; rw [if_pos (by omega), if_neg (by omega), hM, Int.toNat_natCast, Int.toNat_natCast, Int.toNat_natCast]; first | (rw [if_pos hs0]; done) | (rw [if_neg hs0]; done) | (rw [if_pos hs0]; rfl) | (rw [if_neg hs0]; rfl)))
        · skip
          refine qG.blk 4 (pc' := 51) (ls' := [(2, 95), (0, ((n9 : Nat) : Int)), (0, ((g9 : Nat) : Int)), (0, v), (0, 0), (0, 0)]) (st' := []) (w' := w) (n' := 142) rfl ?_
          have L51 : ∀ (m9 : Nat) (k : Nat), M - k = m9 → (k ≤ M) → qG none (d + 1) 286 51 [(2, 95), (0, ((n9 : Nat) : Int)), (0, ((g9 : Nat) : Int)), (0, v), (0, smF (fun j => wgV w n9 j) k), (0, ((k : Nat) : Int))] [] w 142 Q9 := by
            intro m9
            induction m9 using Nat.strongRecOn with
            | ind m9 ih51 =>
            intro k hm51 hI51
            have hsk := smF_in (f := fun j => wgV w n9 j) (t := 891) k (fun j _ => wgV_in hR n9 j)
            have hbk : (891 : Int) * (k : Int) ≤ 10692 := by omega
            have hwk := wgV_in hR n9 k
            refine qG.blk 3 (pc' := 57) (ls' := [(2, 95), (0, ((n9 : Nat) : Int)), (0, ((g9 : Nat) : Int)), (0, v), (0, smF (fun j => wgV w n9 j) k), (0, ((k : Nat) : Int))]) (st' := [(0, w 95 55), (0, ((k : Nat) : Int))]) (w' := w) (n' := 142) rfl ?_
            rw [show w 95 55 = ((M : Nat) : Int) from hM]
            refine qG.br (P := ((k : Nat) : Int) < ((M : Nat) : Int)) (pc1 := 60) (pc2 := 78) (st1 := []) rfl (fun hkM => ?_) (fun hkM => ?_)
            · skip
              refine qG.blk 4 (pc' := 66) (ls' := [(2, 95), (0, ((n9 : Nat) : Int)), (0, ((g9 : Nat) : Int)), (0, v), (0, smF (fun j => wgV w n9 j) k), (0, ((k : Nat) : Int))]) (st' := [(0, ((k : Nat) : Int)), (0, ((n9 : Nat) : Int)), (2, 95), (0, smF (fun j => wgV w n9 j) k)]) (w' := w) (n' := 142) rfl ?_
              refine qG.call (t := 285) (na := 3) (sk := 1) (md := 1) (ls1 := [(2, 95), (0, ((n9 : Nat) : Int)), (0, ((k : Nat) : Int)), (9, 0), (9, 0)]) (r1 := [(0, smF (fun j => wgV w n9 j) k)]) rfl rfl rfl rfl rfl (K_weight (by omega) n9 k M N w hI hM hN (by omega) (by omega)) ?_
              rintro _ w7 _ ⟨rfl, hw7, rfl⟩
              rw [hw7]
              show qG none (d + 1) 286 69 [(2, 95), (0, ((n9 : Nat) : Int)), (0, ((g9 : Nat) : Int)), (0, v), (0, smF (fun j => wgV w n9 j) k), (0, ((k : Nat) : Int))] [(0, wgV w n9 k), (0, smF (fun j => wgV w n9 j) k)] w 142 Q9
              refine qG.blk 1 (pc' := 70) (ls' := [(2, 95), (0, ((n9 : Nat) : Int)), (0, ((g9 : Nat) : Int)), (0, v), (0, smF (fun j => wgV w n9 j) k), (0, ((k : Nat) : Int))]) (st' := [(0, wrp ((smF (fun j => wgV w n9 j) k) + (wgV w n9 k)))]) (w' := w) (n' := 142) rfl ?_
              rw [show wrp ((smF (fun j => wgV w n9 j) k) + (wgV w n9 k)) = smF (fun j => wgV w n9 j) (k + 1) from wrp_id (by omega) (by omega)]
              refine qG.blk 2 (pc' := 75) (ls' := [(2, 95), (0, ((n9 : Nat) : Int)), (0, ((g9 : Nat) : Int)), (0, v), (0, smF (fun j => wgV w n9 j) (k + 1)), (0, wrp (((k : Nat) : Int) + 1))]) (st' := []) (w' := w) (n' := 142) rfl ?_
              rw [show wrp (((k : Nat) : Int) + 1) = ((k + 1 : Nat) : Int) from wrp_id (by omega) (by omega)]
              refine qG.blk 1 (pc' := 51) (ls' := [(2, 95), (0, ((n9 : Nat) : Int)), (0, ((g9 : Nat) : Int)), (0, v), (0, smF (fun j => wgV w n9 j) (k + 1)), (0, ((k + 1 : Nat) : Int))]) (st' := []) (w' := w) (n' := 142) rfl ?_
              exact ih51 _ (by omega) (k + 1) rfl (by omega)
            · skip
              have hek : k = M := by omega
              rw [hek]
              have hsM := smF_in (f := fun j => wgV w n9 j) (t := 891) M (fun j _ => wgV_in hR n9 j)
              have hbM : (891 : Int) * (M : Int) ≤ 10692 := by omega
              refine qG.blk 1 (pc' := 80) (ls' := [(2, 95), (0, ((n9 : Nat) : Int)), (0, ((g9 : Nat) : Int)), (0, v), (0, smF (fun j => wgV w n9 j) M), (0, ((M : Nat) : Int))]) (st' := [(0, smF (fun j => wgV w n9 j) M)]) (w' := w) (n' := 142) rfl ?_
              refine qG.br (P := smF (fun j => wgV w n9 j) M = 0) (pc1 := 83) (pc2 := 87) (st1 := []) rfl (fun hs0 => ?_) (fun hs0 => ?_)
              · skip
                refine qG.blk 2 (pc' := 100) (ls' := [(2, 95), (0, ((n9 : Nat) : Int)), (0, ((g9 : Nat) : Int)), (0, v), (0, smF (fun j => wgV w n9 j) M), (0, ((M : Nat) : Int))]) (st' := [(0, (-1))]) (w' := w) (n' := 142) rfl ?_
                refine qG.ret rfl rfl ?_
                subst hQ9
                exact congrArg (Prod.mk (0 : Nat)) (by first | exact (whoV_n (by omega)).symm | (unfold whoV; rw [if_pos (by omega), if_pos (by omega), Int.toNat_natCast, Int.toNat_natCast]; done) | (unfold whoV odV; rw [if_pos (by omega), if_neg (by omega), hM, Int.toNat_natCast, Int.toNat_natCast, Int.toNat_natCast]; first | (rw [if_pos hs0]; done) | (rw [if_neg hs0]; done) | (rw [if_pos hs0]; rfl) | (rw [if_neg hs0]; rfl)))
              · skip
                have hwm := wgV_in hR n9 g9
                have hoi := odV_in (f := fun j => wgV w n9 j) (M := M) (m := g9) (by omega) (fun j _ => (wgV_in hR n9 j).1) hs0
                refine qG.blk 4 (pc' := 93) (ls' := [(2, 95), (0, ((n9 : Nat) : Int)), (0, ((g9 : Nat) : Int)), (0, v), (0, smF (fun j => wgV w n9 j) M), (0, ((M : Nat) : Int))]) (st' := [(0, ((g9 : Nat) : Int)), (0, ((n9 : Nat) : Int)), (2, 95), (0, 1000)]) (w' := w) (n' := 142) rfl ?_
                refine qG.call (t := 285) (na := 3) (sk := 1) (md := 1) (ls1 := [(2, 95), (0, ((n9 : Nat) : Int)), (0, ((g9 : Nat) : Int)), (9, 0), (9, 0)]) (r1 := [(0, 1000)]) rfl rfl rfl rfl rfl (K_weight (by omega) n9 g9 M N w hI hM hN (by omega) (by omega)) ?_
                rintro _ w7 _ ⟨rfl, hw7, rfl⟩
                rw [hw7]
                show qG none (d + 1) 286 96 [(2, 95), (0, ((n9 : Nat) : Int)), (0, ((g9 : Nat) : Int)), (0, v), (0, smF (fun j => wgV w n9 j) M), (0, ((M : Nat) : Int))] [(0, wgV w n9 g9), (0, 1000)] w 142 Q9
                refine qG.blk 1 (pc' := 97) (ls' := [(2, 95), (0, ((n9 : Nat) : Int)), (0, ((g9 : Nat) : Int)), (0, v), (0, smF (fun j => wgV w n9 j) M), (0, ((M : Nat) : Int))]) (st' := [(0, wrp (1000 * (wgV w n9 g9)))]) (w' := w) (n' := 142) rfl ?_
                rw [show wrp (1000 * (wgV w n9 g9)) = 1000 * wgV w n9 g9 from wrp_id (by omega) (by omega)]
                refine qG.blk 1 (pc' := 99) (ls' := [(2, 95), (0, ((n9 : Nat) : Int)), (0, ((g9 : Nat) : Int)), (0, v), (0, smF (fun j => wgV w n9 j) M), (0, ((M : Nat) : Int))]) (st' := [(0, smF (fun j => wgV w n9 j) M), (0, 1000 * wgV w n9 g9)]) (w' := w) (n' := 142) rfl ?_
                refine qG.gn (P := smF (fun j => wgV w n9 j) M = 0) (pc' := 100) (ls' := [(2, 95), (0, ((n9 : Nat) : Int)), (0, ((g9 : Nat) : Int)), (0, v), (0, smF (fun j => wgV w n9 j) M), (0, ((M : Nat) : Int))]) (st' := [(0, qdiv (1000 * wgV w n9 g9) (smF (fun j => wgV w n9 j) M))]) (w' := w) (n' := 142) rfl (by exact hs0) ?_
                rw [show qdiv (1000 * wgV w n9 g9) (smF (fun j => wgV w n9 j) M) = (1000 * wgV w n9 g9).tdiv (smF (fun j => wgV w n9 j) M) from by unfold qdiv; exact wrp_id (by omega) (by omega)]
                refine qG.ret rfl rfl ?_
                subst hQ9
                exact congrArg (Prod.mk (0 : Nat)) (by first | exact (whoV_n (by omega)).symm | (unfold whoV; rw [if_pos (by omega), if_pos (by omega), Int.toNat_natCast, Int.toNat_natCast]; done) | (unfold whoV odV; rw [if_pos (by omega), if_neg (by omega), hM, Int.toNat_natCast, Int.toNat_natCast, Int.toNat_natCast]; first | (rw [if_pos hs0]; done) | (rw [if_neg hs0]; done) | (rw [if_pos hs0]; rfl) | (rw [if_neg hs0]; rfl)))
          exact L51 _ (0) rfl (by omega)
def masH (s g a b : Int) (n : Nat) (w w1 : qW) : Prop := (¬ masC s g a b n ∧ w1 = w) ∨ (masC s g a b n ∧ ∀ k, w1 128 k = if k = 3 * n + 2 then 1 else if k = 3 * n + 1 then 1 else if k = 3 * n + 0 then 1 else w 128 k)
theorem K_X12_masterH {d : Nat} (hd : 2 ≤ d) (s g a b : Int) (n : Nat) (hn9 : n ≤ 60) (w : qW) (hI : yInv zgf zga zra zSp w) (hn : w 95 55 = (n : Int)) : qG none d 280 0 [(2, 95), (0, s), (0, g), (0, a), (0, b), (9, 0)] [] w 142 (fun (_ : qV) (w1 : qW) (_ : Nat) => masH s g a b n w w1) := by
  generalize hQ9 : (fun (_ : qV) (w1 : qW) (_ : Nat) => masH s g a b n w w1) = Q9
  have h55 := zfld hI (j := 55) (b := (0, 12)) rfl
  have b55 : w 95 55 ≤ (12 : Int) := h55.2
  rw [hn] at b55
  obtain ⟨d, rfl⟩ : ∃ d9, d = d9 + 1 := ⟨d - 1, by omega⟩
  refine qG.blk 1 (pc' := 1) (ls' := [(2, 95), (0, s), (0, g), (0, a), (0, b), (9, 0)]) (st' := [(0, s)]) (w' := w) (n' := 142) rfl ?_
  refine qG.call (t := 210) (na := 1) (sk := 0) (md := 0) (ls1 := [(0, s)]) (r1 := []) rfl rfl rfl rfl rfl (K_isSize (by omega) _ _) ?_
  rintro _ w7 _ ⟨rfl, hw7, rfl⟩
  rw [hw7]
  show qG none (d + 1) 280 4 [(2, 95), (0, s), (0, g), (0, a), (0, b), (9, 0)] [(0, isInV s 1 4)] w 142 Q9
  refine qG.br (P := isInV s 1 4 = 0) (pc1 := 47) (pc2 := 7) (st1 := []) rfl (fun h1 => ?_) (fun h1 => ?_)
  · skip
    rw [isIn_b] at h1
    refine qG.blk 1 (pc' := 48) (ls' := [(2, 95), (0, s), (0, g), (0, a), (0, b), (9, 0)]) (st' := [(0, (-1))]) (w' := w) (n' := 142) rfl ?_
    refine qG.ret rfl rfl ?_
    subst hQ9
    first | exact .inl ⟨by unfold masC; omega, rfl⟩ | exact .inr ⟨by unfold masC; omega, fun k => by simp (disch := decide) only [qup_ne, qup_if]⟩
  · skip
    rw [isIn_p] at h1
    refine qG.blk 3 (pc' := 11) (ls' := [(2, 95), (0, s), (0, g), (0, a), (0, b), (9, 0)]) (st' := [(0, 99), (0, 0), (0, g)]) (w' := w) (n' := 142) rfl ?_
    refine qG.call (t := 206) (na := 3) (sk := 0) (md := 0) (ls1 := [(0, g), (0, 0), (0, 99)]) (r1 := []) rfl rfl rfl rfl rfl (K_isIn (Nat.zero_le _) _ _ _ _) ?_
    rintro _ w7 _ ⟨rfl, hw7, rfl⟩
    rw [hw7]
    show qG none (d + 1) 280 14 [(2, 95), (0, s), (0, g), (0, a), (0, b), (9, 0)] [(0, isInV (g) (0) (99))] w 142 Q9
    refine qG.br (P := isInV (g) (0) (99) = 0) (pc1 := 47) (pc2 := 17) (st1 := []) rfl (fun h2 => ?_) (fun h2 => ?_)
    · skip
      rw [isIn_b] at h2
      refine qG.blk 1 (pc' := 48) (ls' := [(2, 95), (0, s), (0, g), (0, a), (0, b), (9, 0)]) (st' := [(0, (-1))]) (w' := w) (n' := 142) rfl ?_
      refine qG.ret rfl rfl ?_
      subst hQ9
      first | exact .inl ⟨by unfold masC; omega, rfl⟩ | exact .inr ⟨by unfold masC; omega, fun k => by simp (disch := decide) only [qup_ne, qup_if]⟩
    · skip
      rw [isIn_p] at h2
      refine qG.blk 3 (pc' := 21) (ls' := [(2, 95), (0, s), (0, g), (0, a), (0, b), (9, 0)]) (st' := [(0, 99), (0, 0), (0, a)]) (w' := w) (n' := 142) rfl ?_
      refine qG.call (t := 206) (na := 3) (sk := 0) (md := 0) (ls1 := [(0, a), (0, 0), (0, 99)]) (r1 := []) rfl rfl rfl rfl rfl (K_isIn (Nat.zero_le _) _ _ _ _) ?_
      rintro _ w7 _ ⟨rfl, hw7, rfl⟩
      rw [hw7]
      show qG none (d + 1) 280 24 [(2, 95), (0, s), (0, g), (0, a), (0, b), (9, 0)] [(0, isInV (a) (0) (99))] w 142 Q9
      refine qG.br (P := isInV (a) (0) (99) = 0) (pc1 := 47) (pc2 := 27) (st1 := []) rfl (fun h3 => ?_) (fun h3 => ?_)
      · skip
        rw [isIn_b] at h3
        refine qG.blk 1 (pc' := 48) (ls' := [(2, 95), (0, s), (0, g), (0, a), (0, b), (9, 0)]) (st' := [(0, (-1))]) (w' := w) (n' := 142) rfl ?_
        refine qG.ret rfl rfl ?_
        subst hQ9
        first | exact .inl ⟨by unfold masC; omega, rfl⟩ | exact .inr ⟨by unfold masC; omega, fun k => by simp (disch := decide) only [qup_ne, qup_if]⟩
      · skip
        rw [isIn_p] at h3
        refine qG.blk 3 (pc' := 32) (ls' := [(2, 95), (0, s), (0, g), (0, a), (0, b), (9, 0)]) (st' := [(0, 99), (0, a), (0, b)]) (w' := w) (n' := 142) rfl ?_
        refine qG.call (t := 206) (na := 3) (sk := 0) (md := 0) (ls1 := [(0, b), (0, a), (0, 99)]) (r1 := []) rfl rfl rfl rfl rfl (K_isIn (Nat.zero_le _) _ _ _ _) ?_
        rintro _ w7 _ ⟨rfl, hw7, rfl⟩
        rw [hw7]
        show qG none (d + 1) 280 35 [(2, 95), (0, s), (0, g), (0, a), (0, b), (9, 0)] [(0, isInV (b) (a) (99))] w 142 Q9
        refine qG.br (P := isInV (b) (a) (99) = 0) (pc1 := 47) (pc2 := 38) (st1 := []) rfl (fun h4 => ?_) (fun h4 => ?_)
        · skip
          rw [isIn_b] at h4
          refine qG.blk 1 (pc' := 48) (ls' := [(2, 95), (0, s), (0, g), (0, a), (0, b), (9, 0)]) (st' := [(0, (-1))]) (w' := w) (n' := 142) rfl ?_
          refine qG.ret rfl rfl ?_
          subst hQ9
          first | exact .inl ⟨by unfold masC; omega, rfl⟩ | exact .inr ⟨by unfold masC; omega, fun k => by simp (disch := decide) only [qup_ne, qup_if]⟩
        · skip
          rw [isIn_p] at h4
          refine qG.blk 2 (pc' := 42) (ls' := [(2, 95), (0, s), (0, g), (0, a), (0, b), (9, 0)]) (st' := [(0, w 95 55)]) (w' := w) (n' := 142) rfl ?_
          rw [show w 95 55 = ((n : Nat) : Int) from hn]
          refine qG.blk 1 (pc' := 44) (ls' := [(2, 95), (0, s), (0, g), (0, a), (0, b), (9, 0)]) (st' := [(0, 12), (0, ((n : Nat) : Int))]) (w' := w) (n' := 142) rfl ?_
          refine qG.br (P := ((n : Nat) : Int) = 12) (pc1 := 47) (pc2 := 49) (st1 := []) rfl (fun h5 => ?_) (fun h5 => ?_)
          · skip
            refine qG.blk 1 (pc' := 48) (ls' := [(2, 95), (0, s), (0, g), (0, a), (0, b), (9, 0)]) (st' := [(0, (-1))]) (w' := w) (n' := 142) rfl ?_
            refine qG.ret rfl rfl ?_
            subst hQ9
            first | exact .inl ⟨by unfold masC; omega, rfl⟩ | exact .inr ⟨by unfold masC; omega, fun k => by simp (disch := decide) only [qup_ne, qup_if]⟩
          · skip
            refine qG.blk 2 (pc' := 53) (ls' := [(2, 95), (0, s), (0, g), (0, a), (0, b), (9, 0)]) (st' := [(2, w 95 58)]) (w' := w) (n' := 142) rfl ?_
            rw [show w 95 58 = 125 from zref hI rfl rfl]
            refine qG.blk 2 (pc' := 57) (ls' := [(2, 95), (0, s), (0, g), (0, a), (0, b), (9, 0)]) (st' := [(0, w 95 55), (2, 125)]) (w' := w) (n' := 142) rfl ?_
            rw [show w 95 55 = ((n : Nat) : Int) from hn]
            refine qG.blk 1 (pc' := 58) (ls' := [(2, 95), (0, s), (0, g), (0, a), (0, b), (9, 0)]) (st' := [(0, g), (0, ((n : Nat) : Int)), (2, 125)]) (w' := w) (n' := 142) rfl ?_
            refine qG.ar (P := 0 ≤ ((n : Nat) : Int) ∧ ((n : Nat) : Int) < ((12 : Nat) : Int)) (P2 := 0 < (125 : Int) ∧ (125 : Int) ≤ ((142 : Nat) : Int)) (pc' := 59) (ls' := [(2, 95), (0, s), (0, g), (0, a), (0, b), (9, 0)]) (st' := []) (w' := (qup w 125 n g)) (n' := 142) rfl (by omega) (by decide) ?_
            refine qG.blk 2 (pc' := 63) (ls' := [(2, 95), (0, s), (0, g), (0, a), (0, b), (9, 0)]) (st' := [(2, w 95 59)]) (w' := (qup w 125 n g)) (n' := 142) rfl ?_
            rw [show w 95 59 = 126 from zref hI rfl rfl]
            refine qG.blk 2 (pc' := 67) (ls' := [(2, 95), (0, s), (0, g), (0, a), (0, b), (9, 0)]) (st' := [(0, w 95 55), (2, 126)]) (w' := (qup w 125 n g)) (n' := 142) rfl ?_
            rw [show w 95 55 = ((n : Nat) : Int) from hn]
            refine qG.blk 1 (pc' := 68) (ls' := [(2, 95), (0, s), (0, g), (0, a), (0, b), (9, 0)]) (st' := [(0, a), (0, ((n : Nat) : Int)), (2, 126)]) (w' := (qup w 125 n g)) (n' := 142) rfl ?_
            refine qG.ar (P := 0 ≤ ((n : Nat) : Int) ∧ ((n : Nat) : Int) < ((12 : Nat) : Int)) (P2 := 0 < (126 : Int) ∧ (126 : Int) ≤ ((142 : Nat) : Int)) (pc' := 69) (ls' := [(2, 95), (0, s), (0, g), (0, a), (0, b), (9, 0)]) (st' := []) (w' := (qup (qup w 125 n g) 126 n a)) (n' := 142) rfl (by omega) (by decide) ?_
            refine qG.blk 2 (pc' := 73) (ls' := [(2, 95), (0, s), (0, g), (0, a), (0, b), (9, 0)]) (st' := [(2, w 95 60)]) (w' := (qup (qup w 125 n g) 126 n a)) (n' := 142) rfl ?_
            rw [show w 95 60 = 127 from zref hI rfl rfl]
            refine qG.blk 2 (pc' := 77) (ls' := [(2, 95), (0, s), (0, g), (0, a), (0, b), (9, 0)]) (st' := [(0, w 95 55), (2, 127)]) (w' := (qup (qup w 125 n g) 126 n a)) (n' := 142) rfl ?_
            rw [show w 95 55 = ((n : Nat) : Int) from hn]
            refine qG.blk 1 (pc' := 79) (ls' := [(2, 95), (0, s), (0, g), (0, a), (0, b), (9, 0)]) (st' := [(0, b), (0, ((n : Nat) : Int)), (2, 127)]) (w' := (qup (qup w 125 n g) 126 n a)) (n' := 142) rfl ?_
            refine qG.ar (P := 0 ≤ ((n : Nat) : Int) ∧ ((n : Nat) : Int) < ((12 : Nat) : Int)) (P2 := 0 < (127 : Int) ∧ (127 : Int) ≤ ((142 : Nat) : Int)) (pc' := 80) (ls' := [(2, 95), (0, s), (0, g), (0, a), (0, b), (9, 0)]) (st' := []) (w' := (qup (qup (qup w 125 n g) 126 n a) 127 n b)) (n' := 142) rfl (by omega) (by decide) ?_
            refine qG.blk 4 (pc' := 86) (ls' := [(2, 95), (0, s), (0, g), (0, a), (0, b), (0, 0)]) (st' := [(0, 3), (0, 0)]) (w' := (qup (qup (qup w 125 n g) 126 n a) 127 n b)) (n' := 142) rfl ?_
            refine qG.br (P := (0 : Int) < 3) (pc1 := 89) (pc2 := 110) (st1 := []) rfl (fun h1 => ?_) (fun h1 => ?_)
            · skip
              refine qG.blk 2 (pc' := 93) (ls' := [(2, 95), (0, s), (0, g), (0, a), (0, b), (0, 0)]) (st' := [(2, w 95 61)]) (w' := (qup (qup (qup w 125 n g) 126 n a) 127 n b)) (n' := 142) rfl ?_
              rw [show w 95 61 = 128 from zref hI rfl rfl]
              refine qG.blk 3 (pc' := 98) (ls' := [(2, 95), (0, s), (0, g), (0, a), (0, b), (0, 0)]) (st' := [(0, w 95 55), (0, 3), (2, 128)]) (w' := (qup (qup (qup w 125 n g) 126 n a) 127 n b)) (n' := 142) rfl ?_
              rw [show w 95 55 = ((n : Nat) : Int) from hn]
              refine qG.blk 1 (pc' := 99) (ls' := [(2, 95), (0, s), (0, g), (0, a), (0, b), (0, 0)]) (st' := [(0, wrp (3 * ((n : Nat) : Int))), (2, 128)]) (w' := (qup (qup (qup w 125 n g) 126 n a) 127 n b)) (n' := 142) rfl ?_
              rw [show wrp (3 * ((n : Nat) : Int)) = ((3 * n : Nat) : Int) from by rw [wrp_id (by omega) (by omega)]; omega]
              refine qG.blk 2 (pc' := 102) (ls' := [(2, 95), (0, s), (0, g), (0, a), (0, b), (0, 0)]) (st' := [(0, wrp (((3 * n : Nat) : Int) + 0)), (2, 128)]) (w' := (qup (qup (qup w 125 n g) 126 n a) 127 n b)) (n' := 142) rfl ?_
              rw [show wrp (((3 * n : Nat) : Int) + 0) = ((3 * n + 0 : Nat) : Int) from by rw [wrp_id (by omega) (by omega)]; omega]
              refine qG.blk 1 (pc' := 103) (ls' := [(2, 95), (0, s), (0, g), (0, a), (0, b), (0, 0)]) (st' := [(0, 1), (0, ((3 * n + 0 : Nat) : Int)), (2, 128)]) (w' := (qup (qup (qup w 125 n g) 126 n a) 127 n b)) (n' := 142) rfl ?_
              refine qG.ar (P := 0 ≤ ((3 * n + 0 : Nat) : Int) ∧ ((3 * n + 0 : Nat) : Int) < ((36 : Nat) : Int)) (P2 := 0 < (128 : Int) ∧ (128 : Int) ≤ ((142 : Nat) : Int)) (pc' := 104) (ls' := [(2, 95), (0, s), (0, g), (0, a), (0, b), (0, 0)]) (st' := []) (w' := (qup (qup (qup (qup w 125 n g) 126 n a) 127 n b) 128 (3 * n + 0) 1)) (n' := 142) rfl (by omega) (by decide) ?_
              refine qG.blk 1 (pc' := 107) (ls' := [(2, 95), (0, s), (0, g), (0, a), (0, b), (0, wrp (0 + 1))]) (st' := []) (w' := (qup (qup (qup (qup w 125 n g) 126 n a) 127 n b) 128 (3 * n + 0) 1)) (n' := 142) rfl ?_
              rw [show wrp (0 + 1) = 1 from wrp_id (by omega) (by omega)]
              refine qG.blk 3 (pc' := 86) (ls' := [(2, 95), (0, s), (0, g), (0, a), (0, b), (0, 1)]) (st' := [(0, 3), (0, 1)]) (w' := (qup (qup (qup (qup w 125 n g) 126 n a) 127 n b) 128 (3 * n + 0) 1)) (n' := 142) rfl ?_
              refine qG.br (P := (1 : Int) < 3) (pc1 := 89) (pc2 := 110) (st1 := []) rfl (fun h2 => ?_) (fun h2 => ?_)
              · skip
                refine qG.blk 2 (pc' := 93) (ls' := [(2, 95), (0, s), (0, g), (0, a), (0, b), (0, 1)]) (st' := [(2, w 95 61)]) (w' := (qup (qup (qup (qup w 125 n g) 126 n a) 127 n b) 128 (3 * n + 0) 1)) (n' := 142) rfl ?_
                rw [show w 95 61 = 128 from zref hI rfl rfl]
                refine qG.blk 3 (pc' := 98) (ls' := [(2, 95), (0, s), (0, g), (0, a), (0, b), (0, 1)]) (st' := [(0, w 95 55), (0, 3), (2, 128)]) (w' := (qup (qup (qup (qup w 125 n g) 126 n a) 127 n b) 128 (3 * n + 0) 1)) (n' := 142) rfl ?_
                rw [show w 95 55 = ((n : Nat) : Int) from hn]
                refine qG.blk 1 (pc' := 99) (ls' := [(2, 95), (0, s), (0, g), (0, a), (0, b), (0, 1)]) (st' := [(0, wrp (3 * ((n : Nat) : Int))), (2, 128)]) (w' := (qup (qup (qup (qup w 125 n g) 126 n a) 127 n b) 128 (3 * n + 0) 1)) (n' := 142) rfl ?_
                rw [show wrp (3 * ((n : Nat) : Int)) = ((3 * n : Nat) : Int) from by rw [wrp_id (by omega) (by omega)]; omega]
                refine qG.blk 2 (pc' := 102) (ls' := [(2, 95), (0, s), (0, g), (0, a), (0, b), (0, 1)]) (st' := [(0, wrp (((3 * n : Nat) : Int) + 1)), (2, 128)]) (w' := (qup (qup (qup (qup w 125 n g) 126 n a) 127 n b) 128 (3 * n + 0) 1)) (n' := 142) rfl ?_
                rw [show wrp (((3 * n : Nat) : Int) + 1) = ((3 * n + 1 : Nat) : Int) from by rw [wrp_id (by omega) (by omega)]; omega]
                refine qG.blk 1 (pc' := 103) (ls' := [(2, 95), (0, s), (0, g), (0, a), (0, b), (0, 1)]) (st' := [(0, 1), (0, ((3 * n + 1 : Nat) : Int)), (2, 128)]) (w' := (qup (qup (qup (qup w 125 n g) 126 n a) 127 n b) 128 (3 * n + 0) 1)) (n' := 142) rfl ?_
                refine qG.ar (P := 0 ≤ ((3 * n + 1 : Nat) : Int) ∧ ((3 * n + 1 : Nat) : Int) < ((36 : Nat) : Int)) (P2 := 0 < (128 : Int) ∧ (128 : Int) ≤ ((142 : Nat) : Int)) (pc' := 104) (ls' := [(2, 95), (0, s), (0, g), (0, a), (0, b), (0, 1)]) (st' := []) (w' := (qup (qup (qup (qup (qup w 125 n g) 126 n a) 127 n b) 128 (3 * n + 0) 1) 128 (3 * n + 1) 1)) (n' := 142) rfl (by omega) (by decide) ?_
                refine qG.blk 1 (pc' := 107) (ls' := [(2, 95), (0, s), (0, g), (0, a), (0, b), (0, wrp (1 + 1))]) (st' := []) (w' := (qup (qup (qup (qup (qup w 125 n g) 126 n a) 127 n b) 128 (3 * n + 0) 1) 128 (3 * n + 1) 1)) (n' := 142) rfl ?_
                rw [show wrp (1 + 1) = 2 from wrp_id (by omega) (by omega)]
                refine qG.blk 3 (pc' := 86) (ls' := [(2, 95), (0, s), (0, g), (0, a), (0, b), (0, 2)]) (st' := [(0, 3), (0, 2)]) (w' := (qup (qup (qup (qup (qup w 125 n g) 126 n a) 127 n b) 128 (3 * n + 0) 1) 128 (3 * n + 1) 1)) (n' := 142) rfl ?_
                refine qG.br (P := (2 : Int) < 3) (pc1 := 89) (pc2 := 110) (st1 := []) rfl (fun h3 => ?_) (fun h3 => ?_)
                · skip
                  refine qG.blk 2 (pc' := 93) (ls' := [(2, 95), (0, s), (0, g), (0, a), (0, b), (0, 2)]) (st' := [(2, w 95 61)]) (w' := (qup (qup (qup (qup (qup w 125 n g) 126 n a) 127 n b) 128 (3 * n + 0) 1) 128 (3 * n + 1) 1)) (n' := 142) rfl ?_
                  rw [show w 95 61 = 128 from zref hI rfl rfl]
                  refine qG.blk 3 (pc' := 98) (ls' := [(2, 95), (0, s), (0, g), (0, a), (0, b), (0, 2)]) (st' := [(0, w 95 55), (0, 3), (2, 128)]) (w' := (qup (qup (qup (qup (qup w 125 n g) 126 n a) 127 n b) 128 (3 * n + 0) 1) 128 (3 * n + 1) 1)) (n' := 142) rfl ?_
                  rw [show w 95 55 = ((n : Nat) : Int) from hn]
                  refine qG.blk 1 (pc' := 99) (ls' := [(2, 95), (0, s), (0, g), (0, a), (0, b), (0, 2)]) (st' := [(0, wrp (3 * ((n : Nat) : Int))), (2, 128)]) (w' := (qup (qup (qup (qup (qup w 125 n g) 126 n a) 127 n b) 128 (3 * n + 0) 1) 128 (3 * n + 1) 1)) (n' := 142) rfl ?_
                  rw [show wrp (3 * ((n : Nat) : Int)) = ((3 * n : Nat) : Int) from by rw [wrp_id (by omega) (by omega)]; omega]
                  refine qG.blk 2 (pc' := 102) (ls' := [(2, 95), (0, s), (0, g), (0, a), (0, b), (0, 2)]) (st' := [(0, wrp (((3 * n : Nat) : Int) + 2)), (2, 128)]) (w' := (qup (qup (qup (qup (qup w 125 n g) 126 n a) 127 n b) 128 (3 * n + 0) 1) 128 (3 * n + 1) 1)) (n' := 142) rfl ?_
                  rw [show wrp (((3 * n : Nat) : Int) + 2) = ((3 * n + 2 : Nat) : Int) from by rw [wrp_id (by omega) (by omega)]; omega]
                  refine qG.blk 1 (pc' := 103) (ls' := [(2, 95), (0, s), (0, g), (0, a), (0, b), (0, 2)]) (st' := [(0, 1), (0, ((3 * n + 2 : Nat) : Int)), (2, 128)]) (w' := (qup (qup (qup (qup (qup w 125 n g) 126 n a) 127 n b) 128 (3 * n + 0) 1) 128 (3 * n + 1) 1)) (n' := 142) rfl ?_
                  refine qG.ar (P := 0 ≤ ((3 * n + 2 : Nat) : Int) ∧ ((3 * n + 2 : Nat) : Int) < ((36 : Nat) : Int)) (P2 := 0 < (128 : Int) ∧ (128 : Int) ≤ ((142 : Nat) : Int)) (pc' := 104) (ls' := [(2, 95), (0, s), (0, g), (0, a), (0, b), (0, 2)]) (st' := []) (w' := (qup (qup (qup (qup (qup (qup w 125 n g) 126 n a) 127 n b) 128 (3 * n + 0) 1) 128 (3 * n + 1) 1) 128 (3 * n + 2) 1)) (n' := 142) rfl (by omega) (by decide) ?_
                  refine qG.blk 1 (pc' := 107) (ls' := [(2, 95), (0, s), (0, g), (0, a), (0, b), (0, wrp (2 + 1))]) (st' := []) (w' := (qup (qup (qup (qup (qup (qup w 125 n g) 126 n a) 127 n b) 128 (3 * n + 0) 1) 128 (3 * n + 1) 1) 128 (3 * n + 2) 1)) (n' := 142) rfl ?_
                  rw [show wrp (2 + 1) = 3 from wrp_id (by omega) (by omega)]
                  refine qG.blk 3 (pc' := 86) (ls' := [(2, 95), (0, s), (0, g), (0, a), (0, b), (0, 3)]) (st' := [(0, 3), (0, 3)]) (w' := (qup (qup (qup (qup (qup (qup w 125 n g) 126 n a) 127 n b) 128 (3 * n + 0) 1) 128 (3 * n + 1) 1) 128 (3 * n + 2) 1)) (n' := 142) rfl ?_
                  refine qG.br (P := (3 : Int) < 3) (pc1 := 89) (pc2 := 110) (st1 := []) rfl (fun h4 => ?_) (fun h4 => ?_)
                  · exact absurd h4 (by decide)
                  · skip
                    refine qG.blk 3 (pc' := 115) (ls' := [(2, 95), (0, s), (0, g), (0, a), (0, b), (0, 3)]) (st' := [(0, w 95 55), (2, 95)]) (w' := (qup (qup (qup (qup (qup (qup w 125 n g) 126 n a) 127 n b) 128 (3 * n + 0) 1) 128 (3 * n + 1) 1) 128 (3 * n + 2) 1)) (n' := 142) rfl ?_
                    rw [show w 95 55 = ((n : Nat) : Int) from hn]
                    refine qG.blk 2 (pc' := 117) (ls' := [(2, 95), (0, s), (0, g), (0, a), (0, b), (0, 3)]) (st' := [(0, wrp (((n : Nat) : Int) + 1)), (2, 95)]) (w' := (qup (qup (qup (qup (qup (qup w 125 n g) 126 n a) 127 n b) 128 (3 * n + 0) 1) 128 (3 * n + 1) 1) 128 (3 * n + 2) 1)) (n' := 142) rfl ?_
                    rw [show wrp (((n : Nat) : Int) + 1) = ((n + 1 : Nat) : Int) from by rw [wrp_id (by omega) (by omega)]; omega]
                    refine qG.blk 5 (pc' := 126) (ls' := [(2, 95), (0, s), (0, g), (0, a), (0, b), (0, 3)]) (st' := [(0, wrp (((n + 1 : Nat) : Int) - 1))]) (w' := (qup (qup (qup (qup (qup (qup (qup w 125 n g) 126 n a) 127 n b) 128 (3 * n + 0) 1) 128 (3 * n + 1) 1) 128 (3 * n + 2) 1) 95 55 ((n + 1 : Nat) : Int))) (n' := 142) rfl ?_
                    rw [show wrp (((n + 1 : Nat) : Int) - 1) = ((n : Nat) : Int) from by rw [wrp_id (by omega) (by omega)]; omega]
                    refine qG.ret rfl rfl ?_
                    subst hQ9
                    first | exact .inl ⟨by unfold masC; omega, rfl⟩ | exact .inr ⟨by unfold masC; omega, fun k => by simp (disch := decide) only [qup_ne, qup_if]⟩
                · exact absurd h3 (by decide)
              · exact absurd h2 (by decide)
            · exact absurd h1 (by decide)
def habC (m a v n : Int) : Prop := (0 ≤ m ∧ m < n) ∧ (0 ≤ a ∧ a ≤ 2) ∧ 0 ≤ v ∧ v ≤ 9
def habE (p : Nat) (m a v n : Int) (w : qW) (r : qV) (w1 : qW) : Prop := (¬ habC m a v n ∧ r = (0, 0) ∧ w1 = w) ∨ (habC m a v n ∧ ∃ m9 a9 : Nat, m = (m9 : Int) ∧ a = (a9 : Int) ∧ r = (0, 1) ∧ w1 = qup w p (3 * m9 + a9) v)
theorem K_putHabitE {d : Nat} (hd : 1 ≤ d) (m a v : Int) (w : qW) (hI : yInv zgf zga zra zSp w) : qG none d 63 0 [(2, 45), (0, m), (0, a), (0, v)] [] w 142 (fun (r : qV) (w1 : qW) (n1 : Nat) => n1 = 142 ∧ habE 49 m a v (w 45 0) w r w1) := by
  generalize hQ9 : (fun (r : qV) (w1 : qW) (n1 : Nat) => n1 = 142 ∧ habE 49 m a v (w 45 0) w r w1) = Q9
  have q12 := hI.1 45 0 (0, 12) rfl rfl
  have b12 : w 45 0 ≤ (12 : Int) := q12.2
  obtain ⟨d, rfl⟩ : ∃ d9, d = d9 + 1 := ⟨d - 1, by omega⟩
  refine qG.blk 2 (pc' := 2) (ls' := [(2, 45), (0, m), (0, a), (0, v)]) (st' := [(0, m), (2, 45)]) (w' := w) (n' := 142) rfl ?_
  refine qG.call (t := 59) (na := 2) (sk := 1) (md := 1) (ls1 := [(2, 45), (0, m)]) (r1 := []) rfl rfl rfl rfl rfl (K_X4_isMaster (Nat.zero_le _) m w hI) ?_
  rintro _ w7 _ ⟨rfl, hw7, rfl⟩
  rw [hw7]
  show qG none (d + 1) 63 5 [(2, 45), (0, m), (0, a), (0, v)] [(0, isInV m 0 (w 45 0 - 1))] w 142 Q9
  refine qG.br (P := isInV m 0 (w 45 0 - 1) = 0) (pc1 := 25) (pc2 := 8) (st1 := []) rfl (fun h1 => ?_) (fun h1 => ?_)
  · skip
    rw [isIn_b] at h1
    refine qG.blk 1 (pc' := 26) (ls' := [(2, 45), (0, m), (0, a), (0, v)]) (st' := [(0, 0)]) (w' := w) (n' := 142) rfl ?_
    refine qG.ret rfl (by first | rfl | exact decide_eq_true (by omega)) ?_
    subst hQ9
    refine ⟨rfl, ?_⟩; first | exact .inl ⟨by unfold habC; omega, rfl, rfl⟩ | exact .inr ⟨by unfold habC; omega, m9, a9, rfl, rfl, rfl, rfl⟩
  · skip
    rw [isIn_p] at h1
    obtain ⟨m9, rfl⟩ : ∃ q : Nat, m = (q : Int) := ⟨m.toNat, by omega⟩
    refine qG.blk 1 (pc' := 9) (ls' := [(2, 45), (0, ((m9 : Nat) : Int)), (0, a), (0, v)]) (st' := [(0, a)]) (w' := w) (n' := 142) rfl ?_
    refine qG.call (t := 58) (na := 1) (sk := 0) (md := 0) (ls1 := [(0, a)]) (r1 := []) rfl rfl rfl rfl rfl (K_X4_isAnswer (Nat.zero_le _) _ _) ?_
    rintro _ w7 _ ⟨rfl, hw7, rfl⟩
    rw [hw7]
    show qG none (d + 1) 63 12 [(2, 45), (0, ((m9 : Nat) : Int)), (0, a), (0, v)] [(0, isInV a 0 2)] w 142 Q9
    refine qG.br (P := isInV a 0 2 = 0) (pc1 := 25) (pc2 := 15) (st1 := []) rfl (fun h2 => ?_) (fun h2 => ?_)
    · skip
      rw [isIn_b] at h2
      refine qG.blk 1 (pc' := 26) (ls' := [(2, 45), (0, ((m9 : Nat) : Int)), (0, a), (0, v)]) (st' := [(0, 0)]) (w' := w) (n' := 142) rfl ?_
      refine qG.ret rfl (by first | rfl | exact decide_eq_true (by omega)) ?_
      subst hQ9
      refine ⟨rfl, ?_⟩; first | exact .inl ⟨by unfold habC; omega, rfl, rfl⟩ | exact .inr ⟨by unfold habC; omega, m9, a9, rfl, rfl, rfl, rfl⟩
    · skip
      rw [isIn_p] at h2
      obtain ⟨a9, rfl⟩ : ∃ q : Nat, a = (q : Int) := ⟨a.toNat, by omega⟩
      refine qG.blk 1 (pc' := 16) (ls' := [(2, 45), (0, ((m9 : Nat) : Int)), (0, ((a9 : Nat) : Int)), (0, v)]) (st' := [(0, v)]) (w' := w) (n' := 142) rfl ?_
      refine qG.br (P := v < 0) (pc1 := 25) (pc2 := 19) (st1 := []) rfl (fun h1 => ?_) (fun h1 => ?_)
      · skip
        refine qG.blk 1 (pc' := 26) (ls' := [(2, 45), (0, ((m9 : Nat) : Int)), (0, ((a9 : Nat) : Int)), (0, v)]) (st' := [(0, 0)]) (w' := w) (n' := 142) rfl ?_
        refine qG.ret rfl (by first | rfl | exact decide_eq_true (by omega)) ?_
        subst hQ9
        refine ⟨rfl, ?_⟩; first | exact .inl ⟨by unfold habC; omega, rfl, rfl⟩ | exact .inr ⟨by unfold habC; omega, m9, a9, rfl, rfl, rfl, rfl⟩
      · skip
        refine qG.blk 2 (pc' := 22) (ls' := [(2, 45), (0, ((m9 : Nat) : Int)), (0, ((a9 : Nat) : Int)), (0, v)]) (st' := [(0, 9), (0, v)]) (w' := w) (n' := 142) rfl ?_
        refine qG.br (P := 9 < v) (pc1 := 25) (pc2 := 27) (st1 := []) rfl (fun h2 => ?_) (fun h2 => ?_)
        · skip
          refine qG.blk 1 (pc' := 26) (ls' := [(2, 45), (0, ((m9 : Nat) : Int)), (0, ((a9 : Nat) : Int)), (0, v)]) (st' := [(0, 0)]) (w' := w) (n' := 142) rfl ?_
          refine qG.ret rfl (by first | rfl | exact decide_eq_true (by omega)) ?_
          subst hQ9
          refine ⟨rfl, ?_⟩; first | exact .inl ⟨by unfold habC; omega, rfl, rfl⟩ | exact .inr ⟨by unfold habC; omega, m9, a9, rfl, rfl, rfl, rfl⟩
        · skip
          refine qG.blk 2 (pc' := 31) (ls' := [(2, 45), (0, ((m9 : Nat) : Int)), (0, ((a9 : Nat) : Int)), (0, v)]) (st' := [(2, w 45 4)]) (w' := w) (n' := 142) rfl ?_
          rw [show w 45 4 = 49 from zref hI rfl rfl]
          refine qG.blk 3 (pc' := 34) (ls' := [(2, 45), (0, ((m9 : Nat) : Int)), (0, ((a9 : Nat) : Int)), (0, v)]) (st' := [(0, wrp (((m9 : Nat) : Int) * 3)), (2, 49)]) (w' := w) (n' := 142) rfl ?_
          rw [show wrp (((m9 : Nat) : Int) * 3) = ((3 * m9 : Nat) : Int) from by rw [wrp_id (by omega) (by omega)]; omega]
          refine qG.blk 2 (pc' := 36) (ls' := [(2, 45), (0, ((m9 : Nat) : Int)), (0, ((a9 : Nat) : Int)), (0, v)]) (st' := [(0, wrp (((3 * m9 : Nat) : Int) + ((a9 : Nat) : Int))), (2, 49)]) (w' := w) (n' := 142) rfl ?_
          rw [show wrp (((3 * m9 : Nat) : Int) + ((a9 : Nat) : Int)) = ((3 * m9 + a9 : Nat) : Int) from by rw [wrp_id (by omega) (by omega)]; omega]
          refine qG.blk 1 (pc' := 37) (ls' := [(2, 45), (0, ((m9 : Nat) : Int)), (0, ((a9 : Nat) : Int)), (0, v)]) (st' := [(0, v), (0, ((3 * m9 + a9 : Nat) : Int)), (2, 49)]) (w' := w) (n' := 142) rfl ?_
          refine qG.ar (P := 0 ≤ ((3 * m9 + a9 : Nat) : Int) ∧ ((3 * m9 + a9 : Nat) : Int) < ((36 : Nat) : Int)) (P2 := 0 < (49 : Int) ∧ (49 : Int) ≤ ((142 : Nat) : Int)) (pc' := 38) (ls' := [(2, 45), (0, ((m9 : Nat) : Int)), (0, ((a9 : Nat) : Int)), (0, v)]) (st' := []) (w' := (qup w 49 (3 * m9 + a9) v)) (n' := 142) rfl (by omega) (by decide) ?_
          refine qG.blk 1 (pc' := 39) (ls' := [(2, 45), (0, ((m9 : Nat) : Int)), (0, ((a9 : Nat) : Int)), (0, v)]) (st' := [(0, 1)]) (w' := (qup w 49 (3 * m9 + a9) v)) (n' := 142) rfl ?_
          refine qG.ret rfl (by first | rfl | exact decide_eq_true (by omega)) ?_
          subst hQ9
          refine ⟨rfl, ?_⟩; first | exact .inl ⟨by unfold habC; omega, rfl, rfl⟩ | exact .inr ⟨by unfold habC; omega, m9, a9, rfl, rfl, rfl, rfl⟩
theorem K_X11_habitE {d : Nat} (hd : 2 ≤ d) (m a v : Int) (w : qW) (hI : yInv zgf zga zra zSp w) : qG none d 187 0 [(2, 1), (0, m), (0, a), (0, v)] [] w 142 (fun (r : qV) (w1 : qW) (n1 : Nat) => n1 = 142 ∧ habE 49 m a v (w 45 0) w r w1) := by
  generalize hQ9 : (fun (r : qV) (w1 : qW) (n1 : Nat) => n1 = 142 ∧ habE 49 m a v (w 45 0) w r w1) = Q9
  obtain ⟨d, rfl⟩ : ∃ d9, d = d9 + 1 := ⟨d - 1, by omega⟩
  refine qG.blk 2 (pc' := 4) (ls' := [(2, 1), (0, m), (0, a), (0, v)]) (st' := [(2, w 1 7)]) (w' := w) (n' := 142) rfl ?_
  rw [show w 1 7 = 45 from zref hI rfl rfl]
  refine qG.blk 3 (pc' := 7) (ls' := [(2, 1), (0, m), (0, a), (0, v)]) (st' := [(0, v), (0, a), (0, m), (2, 45)]) (w' := w) (n' := 142) rfl ?_
  refine qG.call (t := 63) (na := 4) (sk := 1) (md := 1) (ls1 := [(2, 45), (0, m), (0, a), (0, v)]) (r1 := []) rfl rfl rfl rfl rfl (K_putHabitE (by omega) m a v w hI) ?_
  rintro ⟨_, x9⟩ w1 _ ⟨rfl, hE⟩
  have hk9 : ∃ y, ((_ : Nat), x9) = ((0 : Nat), y) ∧ (y = 0 ∨ y = 1) := (by rcases hE with ⟨-, h, -⟩ | ⟨-, -, -, -, -, h, -⟩ <;> first | exact ⟨_, h, .inl rfl⟩ | exact ⟨_, h, .inr rfl⟩)
  obtain ⟨y9, hy9, hz9⟩ := hk9
  obtain ⟨rfl, rfl⟩ := Prod.mk.inj hy9
  show qG none (d + 1) 187 10 [(2, 1), (0, m), (0, a), (0, v)] [(0, x9)] w1 142 Q9
  refine qG.ret rfl (by exact decide_eq_true (by omega)) ?_
  subst hQ9
  exact ⟨rfl, hE⟩
theorem K_X12_habitE {d : Nat} (hd : 2 ≤ d) (m a v : Int) (w : qW) (hI : yInv zgf zga zra zSp w) : qG none d 282 0 [(2, 95), (0, m), (0, a), (0, v)] [] w 142 (fun (r : qV) (w1 : qW) (n1 : Nat) => n1 = 142 ∧ habE 128 m a v (w 95 55) w r w1) := by
  generalize hQ9 : (fun (r : qV) (w1 : qW) (n1 : Nat) => n1 = 142 ∧ habE 128 m a v (w 95 55) w r w1) = Q9
  have h55 := zfld hI (j := 55) (b := (0, 12)) rfl
  have b55 : w 95 55 ≤ (12 : Int) := h55.2
  obtain ⟨d, rfl⟩ : ∃ d9, d = d9 + 1 := ⟨d - 1, by omega⟩
  refine qG.blk 2 (pc' := 2) (ls' := [(2, 95), (0, m), (0, a), (0, v)]) (st' := [(0, m), (2, 95)]) (w' := w) (n' := 142) rfl ?_
  refine qG.call (t := 279) (na := 2) (sk := 1) (md := 1) (ls1 := [(2, 95), (0, m)]) (r1 := []) rfl rfl rfl rfl rfl (K_isMaster (by omega) m w hI) ?_
  rintro _ w7 _ ⟨rfl, hw7, rfl⟩
  rw [hw7]
  show qG none (d + 1) 282 5 [(2, 95), (0, m), (0, a), (0, v)] [(0, isInV m 0 (w 95 55 - 1))] w 142 Q9
  refine qG.br (P := isInV m 0 (w 95 55 - 1) = 0) (pc1 := 27) (pc2 := 8) (st1 := []) rfl (fun h1 => ?_) (fun h1 => ?_)
  · skip
    rw [isIn_b] at h1
    refine qG.blk 1 (pc' := 28) (ls' := [(2, 95), (0, m), (0, a), (0, v)]) (st' := [(0, 0)]) (w' := w) (n' := 142) rfl ?_
    refine qG.ret rfl (by first | rfl | exact decide_eq_true (by omega)) ?_
    subst hQ9
    refine ⟨rfl, ?_⟩; first | exact .inl ⟨by unfold habC; omega, rfl, rfl⟩ | exact .inr ⟨by unfold habC; omega, m9, a9, rfl, rfl, rfl, rfl⟩
  · skip
    rw [isIn_p] at h1
    obtain ⟨m9, rfl⟩ : ∃ q : Nat, m = (q : Int) := ⟨m.toNat, by omega⟩
    refine qG.blk 3 (pc' := 11) (ls' := [(2, 95), (0, ((m9 : Nat) : Int)), (0, a), (0, v)]) (st' := [(0, 2), (0, 0), (0, a)]) (w' := w) (n' := 142) rfl ?_
    refine qG.call (t := 206) (na := 3) (sk := 0) (md := 0) (ls1 := [(0, a), (0, 0), (0, 2)]) (r1 := []) rfl rfl rfl rfl rfl (K_isIn (Nat.zero_le _) _ _ _ _) ?_
    rintro _ w7 _ ⟨rfl, hw7, rfl⟩
    rw [hw7]
    show qG none (d + 1) 282 14 [(2, 95), (0, ((m9 : Nat) : Int)), (0, a), (0, v)] [(0, isInV (a) (0) (2))] w 142 Q9
    refine qG.br (P := isInV (a) (0) (2) = 0) (pc1 := 27) (pc2 := 17) (st1 := []) rfl (fun h2 => ?_) (fun h2 => ?_)
    · skip
      rw [isIn_b] at h2
      refine qG.blk 1 (pc' := 28) (ls' := [(2, 95), (0, ((m9 : Nat) : Int)), (0, a), (0, v)]) (st' := [(0, 0)]) (w' := w) (n' := 142) rfl ?_
      refine qG.ret rfl (by first | rfl | exact decide_eq_true (by omega)) ?_
      subst hQ9
      refine ⟨rfl, ?_⟩; first | exact .inl ⟨by unfold habC; omega, rfl, rfl⟩ | exact .inr ⟨by unfold habC; omega, m9, a9, rfl, rfl, rfl, rfl⟩
    · skip
      rw [isIn_p] at h2
      obtain ⟨a9, rfl⟩ : ∃ q : Nat, a = (q : Int) := ⟨a.toNat, by omega⟩
      refine qG.blk 3 (pc' := 21) (ls' := [(2, 95), (0, ((m9 : Nat) : Int)), (0, ((a9 : Nat) : Int)), (0, v)]) (st' := [(0, 9), (0, 0), (0, v)]) (w' := w) (n' := 142) rfl ?_
      refine qG.call (t := 206) (na := 3) (sk := 0) (md := 0) (ls1 := [(0, v), (0, 0), (0, 9)]) (r1 := []) rfl rfl rfl rfl rfl (K_isIn (Nat.zero_le _) _ _ _ _) ?_
      rintro _ w7 _ ⟨rfl, hw7, rfl⟩
      rw [hw7]
      show qG none (d + 1) 282 24 [(2, 95), (0, ((m9 : Nat) : Int)), (0, ((a9 : Nat) : Int)), (0, v)] [(0, isInV (v) (0) (9))] w 142 Q9
      refine qG.br (P := isInV (v) (0) (9) = 0) (pc1 := 27) (pc2 := 29) (st1 := []) rfl (fun h3 => ?_) (fun h3 => ?_)
      · skip
        rw [isIn_b] at h3
        refine qG.blk 1 (pc' := 28) (ls' := [(2, 95), (0, ((m9 : Nat) : Int)), (0, ((a9 : Nat) : Int)), (0, v)]) (st' := [(0, 0)]) (w' := w) (n' := 142) rfl ?_
        refine qG.ret rfl (by first | rfl | exact decide_eq_true (by omega)) ?_
        subst hQ9
        refine ⟨rfl, ?_⟩; first | exact .inl ⟨by unfold habC; omega, rfl, rfl⟩ | exact .inr ⟨by unfold habC; omega, m9, a9, rfl, rfl, rfl, rfl⟩
      · skip
        rw [isIn_p] at h3
        refine qG.blk 2 (pc' := 33) (ls' := [(2, 95), (0, ((m9 : Nat) : Int)), (0, ((a9 : Nat) : Int)), (0, v)]) (st' := [(2, w 95 61)]) (w' := w) (n' := 142) rfl ?_
        rw [show w 95 61 = 128 from zref hI rfl rfl]
        refine qG.blk 3 (pc' := 36) (ls' := [(2, 95), (0, ((m9 : Nat) : Int)), (0, ((a9 : Nat) : Int)), (0, v)]) (st' := [(0, wrp (3 * ((m9 : Nat) : Int))), (2, 128)]) (w' := w) (n' := 142) rfl ?_
        rw [show wrp (3 * ((m9 : Nat) : Int)) = ((3 * m9 : Nat) : Int) from by rw [wrp_id (by omega) (by omega)]; omega]
        refine qG.blk 2 (pc' := 38) (ls' := [(2, 95), (0, ((m9 : Nat) : Int)), (0, ((a9 : Nat) : Int)), (0, v)]) (st' := [(0, wrp (((3 * m9 : Nat) : Int) + ((a9 : Nat) : Int))), (2, 128)]) (w' := w) (n' := 142) rfl ?_
        rw [show wrp (((3 * m9 : Nat) : Int) + ((a9 : Nat) : Int)) = ((3 * m9 + a9 : Nat) : Int) from by rw [wrp_id (by omega) (by omega)]; omega]
        refine qG.blk 1 (pc' := 39) (ls' := [(2, 95), (0, ((m9 : Nat) : Int)), (0, ((a9 : Nat) : Int)), (0, v)]) (st' := [(0, v), (0, ((3 * m9 + a9 : Nat) : Int)), (2, 128)]) (w' := w) (n' := 142) rfl ?_
        refine qG.ar (P := 0 ≤ ((3 * m9 + a9 : Nat) : Int) ∧ ((3 * m9 + a9 : Nat) : Int) < ((36 : Nat) : Int)) (P2 := 0 < (128 : Int) ∧ (128 : Int) ≤ ((142 : Nat) : Int)) (pc' := 40) (ls' := [(2, 95), (0, ((m9 : Nat) : Int)), (0, ((a9 : Nat) : Int)), (0, v)]) (st' := []) (w' := (qup w 128 (3 * m9 + a9) v)) (n' := 142) rfl (by omega) (by decide) ?_
        refine qG.blk 1 (pc' := 41) (ls' := [(2, 95), (0, ((m9 : Nat) : Int)), (0, ((a9 : Nat) : Int)), (0, v)]) (st' := [(0, 1)]) (w' := (qup w 128 (3 * m9 + a9) v)) (n' := 142) rfl ?_
        refine qG.ret rfl (by first | rfl | exact decide_eq_true (by omega)) ?_
        subst hQ9
        refine ⟨rfl, ?_⟩; first | exact .inl ⟨by unfold habC; omega, rfl, rfl⟩ | exact .inr ⟨by unfold habC; omega, m9, a9, rfl, rfl, rfl, rfl⟩
theorem JH.master {w w1 w2 : qW} {s g a b : Int} {n : Nat} {r r2 : qV} (h : JH w) (hM : w 95 55 = (n : Int)) (hX : masE 45 0 46 47 48 [46, 47, 48] s g a b n w r w1) (hR : masE 95 55 125 126 127 [125, 126, 127, 128] s g a b n w1 r2 w2) (hH : masH s g a b n w1 w2) : JH w2 := by
  rcases hX with ⟨c1, -, rfl⟩ | ⟨c1, -, -, -, -, -, s1⟩ <;> rcases hR with ⟨c2, -, rfl⟩ | ⟨c2, -, t2, -, -, -, s2⟩
  · exact h
  · exact absurd c2 c1
  · exact absurd c1 c2
  · rcases hH with ⟨c3, -⟩ | ⟨-, h3⟩
    · exact absurd c1 c3
    · have n12 : n < 12 := c1.2
      have e49 : ∀ k, w2 49 k = w 49 k := fun k => (s2 49 k (by decide) (fun z => by cases z.1)).trans (s1 49 k (by decide) (fun z => by cases z.1))
      have e128 : ∀ k, w1 128 k = w 128 k := fun k => s1 128 k (by decide) (fun z => by cases z.1)
      refine ⟨fun k hk => ?_, fun k hk h36 => ?_⟩
      · rw [t2] at hk
        rw [e49, h3, e128]
        by_cases q : (k : Int) < 3 * (n : Int)
        · rw [if_neg (by omega), if_neg (by omega), if_neg (by omega)]
          exact h.1 k (by omega)
        · rw [h.2 k (by omega) (by omega)]
          split
          · rfl
          · split
            · rfl
            · rw [if_pos (by omega)]
      · rw [t2] at hk
        rw [e49]
        exact h.2 k (by omega) h36
theorem JH.habit {w w1 w2 : qW} {m a v : Int} {r r2 : qV} (h : JH w) (hj : w 45 0 = w 95 55) (hX : habE 49 m a v (w 45 0) w r w1) (hR : habE 128 m a v (w1 95 55) w1 r2 w2) : JH w2 ∧ r = r2 := by
  rcases hX with ⟨c1, rfl, rfl⟩ | ⟨c1, m9, a9, em, ea, rfl, rfl⟩
  · rcases hR with ⟨c2, rfl, rfl⟩ | ⟨c2, -⟩
    · exact ⟨h, rfl⟩
    · rw [← hj] at c2; exact absurd c2 c1
  · have h55 : qup w 49 (3 * m9 + a9) v 95 55 = w 95 55 := by simp (disch := decide) only [qup_ne]
    rcases hR with ⟨c2, rfl, rfl⟩ | ⟨c2, m8, a8, em2, ea2, rfl, ew⟩
    · rw [h55, ← hj] at c2; exact absurd c1 c2
    · obtain rfl : m8 = m9 := by omega
      obtain rfl : a8 = a9 := by omega
      have g49 : ∀ k, w2 49 k = if k = 3 * m8 + a8 then v else w 49 k := fun k => by rw [ew]; simp (disch := decide) only [qup_ne, qup_if]
      have g128 : ∀ k, w2 128 k = if k = 3 * m8 + a8 then v else w 128 k := fun k => by rw [ew]; simp (disch := decide) only [qup_ne, qup_if]
      have g55 : w2 95 55 = w 95 55 := by rw [ew]; simp (disch := decide) only [qup_ne]
      unfold habC at c1
      refine ⟨⟨fun k hk => ?_, fun k hk h36 => ?_⟩, rfl⟩
      · rw [g55] at hk
        rw [g49, g128]
        split
        · rfl
        · exact h.1 k hk
      · rw [g55] at hk
        rw [g49, if_neg (by omega)]
        exact h.2 k hk h36
theorem JQ.habit {w w1 w2 : qW} {m a v : Int} {r r2 : qV} {m1 m2 : List Nat} (h : JQ w) (hX : habE 49 m a v (w 45 0) w r w1) (a1 : AW m1 w w1) (hm1 : jsM m1 = true) (hR : habE 128 m a v (w1 95 55) w1 r2 w2) (a2 : AW m2 w1 w2) (hm2 : jsM m2 = true) : JQ w2 ∧ r = r2 := by
  have q := JH.habit h.2 h.1.1.1 hX hR
  exact ⟨⟨(h.1.aw a1 hm1).aw a2 hm2, q.1⟩, q.2⟩
theorem whoV_aw {w w9 : qW} (h : AW [56] w w9) (n m v : Int) : whoV w9 n m v = whoV w n m v := by
  have e : ∀ n m, wgV w9 n m = wgV w n m := fun n m => wg_aw (.inl rfl) h n m
  unfold whoV
  rw [h.2 95 55 (fun _ => rfl), h.2 95 57 (fun _ => rfl)]
  simp only [e]
theorem K_X11_whoQ {d : Nat} (hd : 5 ≤ d) (n m v : Int) (w : qW) (hI : yInv zgf zga zra zSp w) (hJ : JQ w) : qG none d 189 0 (qini 189 [(2, 1), (0, n), (0, m), (0, v)]) [] w 142 (fun (r : qV) (_ : qW) (_ : Nat) => r = (0, whoV w n m v)) := by
  have h55 := zfld hI (j := 55) (b := (0, 12)) rfl
  have a55 : (0 : Int) ≤ w 95 55 := h55.1
  have h57 := zfld hI (j := 57) (b := (0, 60)) rfl
  have a57 : (0 : Int) ≤ w 95 57 := h57.1
  obtain ⟨M, hM⟩ : ∃ M : Nat, w 95 55 = (M : Int) := ⟨(w 95 55).toNat, by omega⟩
  obtain ⟨N, hN⟩ : ∃ N : Nat, w 95 57 = (N : Int) := ⟨(w 95 57).toNat, by omega⟩
  exact K_X11_who hd n m v M N w hI hJ hM hN
theorem K_X12_whoQ {d : Nat} (hd : 3 ≤ d) (n m v : Int) (w : qW) (hI : yInv zgf zga zra zSp w) : qG none d 286 0 (qini 286 [(2, 95), (0, n), (0, m), (0, v)]) [] w 142 (fun (r : qV) (_ : qW) (_ : Nat) => r = (0, whoV w n m v)) := by
  have h55 := zfld hI (j := 55) (b := (0, 12)) rfl
  have a55 : (0 : Int) ≤ w 95 55 := h55.1
  have h57 := zfld hI (j := 57) (b := (0, 60)) rfl
  have a57 : (0 : Int) ≤ w 95 57 := h57.1
  obtain ⟨M, hM⟩ : ∃ M : Nat, w 95 55 = (M : Int) := ⟨(w 95 55).toNat, by omega⟩
  obtain ⟨N, hN⟩ : ∃ N : Nat, w 95 57 = (N : Int) := ⟨(w 95 57).toNat, by omega⟩
  exact K_X12_who hd n m v M N w hI hM hN
