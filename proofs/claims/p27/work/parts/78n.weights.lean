/-! weights of masters for nights -/
def adV (d : Int) : Int := if 0 ≤ d then d else -d
theorem adV_c (d : Int) : (0 ≤ d ∧ adV d = d) ∨ (d < 0 ∧ adV d = -d) := by
  unfold adV
  split <;> omega
def gwV (d e : Int) : Int := if e = 1 then (if 50 - adV d / 2 < 1 then 1 else 50 - adV d / 2) else if e = 2 then (if 50 + d < 1 then 1 else if 99 < 50 + d then 99 else 50 + d) else (if 50 - d < 1 then 1 else if 99 < 50 - d then 99 else 50 - d)
theorem gwV_in {d : Int} (h : -99 ≤ d ∧ d ≤ 99) (e : Int) : 1 ≤ gwV d e ∧ gwV d e ≤ 99 := by
  have := adV_c d
  unfold gwV
  (repeat' split) <;> omega
theorem qdiv_z {x : Int} (h0 : 0 ≤ x) (h1 : x ≤ 2147483647) : qdiv x 2 = x / 2 := by
  unfold qdiv
  rw [Int.tdiv_eq_ediv_of_nonneg h0, wrp_id (by omega) (by omega)]
/-- he may have been there -/
def mbP (w : qW) (n m : Nat) : Prop := (w 126 m ≤ w 132 n ∧ w 132 n ≤ w 127 m) ∧ ((∀ k : Nat, (k : Int) < w 95 56 → w 129 k = (m : Int) → ¬ w 131 k = w 132 n) ∨ ∃ k : Nat, (k : Int) < w 95 56 ∧ w 129 k = (m : Int) ∧ w 131 k = w 132 n ∧ w 130 k = w 133 n)
def stE (w : qW) (n m k : Nat) : Prop := ∃ i : Nat, i < k ∧ w 129 i = (m : Int) ∧ w 131 i = w 132 n
def haV (w : qW) (n m : Nat) : Int := if w 136 n = -1 then 1 else w 128 (m * 3 + (w 136 n).toNat)
noncomputable def wgV (w : qW) (n m : Nat) : Int := @ite _ (mbP w n m) (Classical.propDecidable _) (gwV (w 125 m - w 134 n) (w 135 n) * haV w n m) 0
theorem wg_y {w : qW} {n m : Nat} (h : mbP w n m) : wgV w n m = gwV (w 125 m - w 134 n) (w 135 n) * haV w n m := @if_pos _ (Classical.propDecidable _) h _ _ _
theorem wg_n {w : qW} {n m : Nat} (h : ¬ mbP w n m) : wgV w n m = 0 := @if_neg _ (Classical.propDecidable _) h _ _ _
theorem mul_9 {x y : Int} (h0 : 1 ≤ x) (h1 : x ≤ 99) (k0 : 0 ≤ y) (k1 : y ≤ 9) : 0 ≤ x * y ∧ x * y ≤ 891 := by
  refine ⟨Int.mul_nonneg (by omega) k0, ?_⟩
  have := Int.mul_le_mul h1 k1 k0 (show (0 : Int) ≤ 99 by decide)
  exact this
def rgN (w : qW) : Prop := (∀ k, 0 ≤ w 125 k ∧ w 125 k ≤ 99) ∧ (∀ k, 0 ≤ w 126 k ∧ w 126 k ≤ 99) ∧ (∀ k, 0 ≤ w 127 k ∧ w 127 k ≤ 99) ∧ (∀ k, 0 ≤ w 128 k ∧ w 128 k ≤ 9) ∧ (∀ k, 0 ≤ w 132 k ∧ w 132 k ≤ 99) ∧ (∀ k, 0 ≤ w 133 k ∧ w 133 k ≤ 9) ∧ (∀ k, 0 ≤ w 134 k ∧ w 134 k ≤ 99) ∧ (∀ k, 0 ≤ w 135 k ∧ w 135 k ≤ 2) ∧ (∀ k, -1 ≤ w 136 k ∧ w 136 k ≤ 2) ∧ (∀ k, 0 ≤ w 129 k ∧ w 129 k ≤ 11) ∧ (∀ k, 0 ≤ w 130 k ∧ w 130 k ≤ 9) ∧ (∀ k, 0 ≤ w 131 k ∧ w 131 k ≤ 99) ∧ ∀ k, 0 ≤ w 50 k ∧ w 50 k ≤ 1023
theorem rgN_of {w : qW} (hI : yInv zgf zga zra zSp w) : rgN w := by
  refine ⟨fun k => ?_, fun k => ?_, fun k => ?_, fun k => ?_, fun k => ?_, fun k => ?_, fun k => ?_, fun k => ?_, fun k => ?_, fun k => ?_, fun k => ?_, fun k => ?_, fun k => ?_⟩
  · have h := hI.2.1 125 k (0, 99) rfl rfl; exact ⟨h.1, h.2⟩
  · have h := hI.2.1 126 k (0, 99) rfl rfl; exact ⟨h.1, h.2⟩
  · have h := hI.2.1 127 k (0, 99) rfl rfl; exact ⟨h.1, h.2⟩
  · have h := hI.2.1 128 k (0, 9) rfl rfl; exact ⟨h.1, h.2⟩
  · have h := hI.2.1 132 k (0, 99) rfl rfl; exact ⟨h.1, h.2⟩
  · have h := hI.2.1 133 k (0, 9) rfl rfl; exact ⟨h.1, h.2⟩
  · have h := hI.2.1 134 k (0, 99) rfl rfl; exact ⟨h.1, h.2⟩
  · have h := hI.2.1 135 k (0, 2) rfl rfl; exact ⟨h.1, h.2⟩
  · have h := hI.2.1 136 k (-1, 2) rfl rfl; exact ⟨h.1, h.2⟩
  · have h := hI.2.1 129 k (0, 11) rfl rfl; exact ⟨h.1, h.2⟩
  · have h := hI.2.1 130 k (0, 9) rfl rfl; exact ⟨h.1, h.2⟩
  · have h := hI.2.1 131 k (0, 99) rfl rfl; exact ⟨h.1, h.2⟩
  · have h := hI.2.1 50 k (0, 1023) rfl rfl; exact ⟨h.1, h.2⟩
theorem haV_in {w : qW} (h : rgN w) (n m : Nat) : 0 ≤ haV w n m ∧ haV w n m ≤ 9 := by
  unfold haV
  split
  · omega
  · exact h.2.2.2.1 _
theorem gw_in {w : qW} (h : rgN w) (n m : Nat) : 1 ≤ gwV (w 125 m - w 134 n) (w 135 n) ∧ gwV (w 125 m - w 134 n) (w 135 n) ≤ 99 := by
  have h1 := h.1 m
  have h2 := h.2.2.2.2.2.2.1 n
  exact gwV_in (by omega) _
theorem wgV_in {w : qW} (h : rgN w) (n m : Nat) : 0 ≤ wgV w n m ∧ wgV w n m ≤ 891 := by
  by_cases c : mbP w n m
  · rw [wg_y c]
    have h1 := gw_in h n m
    have h2 := haV_in h n m
    exact mul_9 h1.1 h1.2 h2.1 h2.2
  · rw [wg_n c]; omega
theorem hbit_n {n j : Nat} (hn : n < 2147483648) (hj : j < 32) : hbit (n : Int) j = decide (n / 2 ^ j % 2 = 1) := by
  unfold hbit
  rw [hb_n hn hj]
  by_cases c : n / 2 ^ j % 2 = 1
  · rw [c]; rfl
  · rw [decide_eq_false c, decide_eq_false (by omega)]
theorem hbit_all {v : Int} (h0 : 0 ≤ v) (h1 : v ≤ 1023) (h : ∀ t : Nat, t < 10 → ¬ hbit v t = true) : v = 0 := by
  obtain ⟨n, rfl⟩ : ∃ n : Nat, v = n := ⟨v.toNat, by omega⟩
  have g : ∀ t : Nat, t < 10 → ¬ n / 2 ^ t % 2 = 1 := fun t ht z => h t ht (by rw [hbit_n (by omega) (by omega)]; exact decide_eq_true z)
  have g0 : ¬ n / 1 % 2 = 1 := g 0 (by omega)
  have g1 : ¬ n / 2 % 2 = 1 := g 1 (by omega)
  have g2 : ¬ n / 4 % 2 = 1 := g 2 (by omega)
  have g3 : ¬ n / 8 % 2 = 1 := g 3 (by omega)
  have g4 : ¬ n / 16 % 2 = 1 := g 4 (by omega)
  have g5 : ¬ n / 32 % 2 = 1 := g 5 (by omega)
  have g6 : ¬ n / 64 % 2 = 1 := g 6 (by omega)
  have g7 : ¬ n / 128 % 2 = 1 := g 7 (by omega)
  have g8 : ¬ n / 256 % 2 = 1 := g 8 (by omega)
  have g9 : ¬ n / 512 % 2 = 1 := g 9 (by omega)
  omega
/-- the class's set of towns tells it -/
theorem mb_iff {w : qW} (h : rgN w) (hT : JT w) {n m y t : Nat} (hm : m < 12) (hy : w 132 n = (y : Int)) (ht : w 133 n = (t : Int)) : mbP w n m ↔ (w 126 m ≤ (y : Int) ∧ (y : Int) ≤ w 127 m) ∧ (w 50 (m * 100 + y) = 0 ∨ hbit (w 50 (m * 100 + y)) t = true) := by
  have hy9 := h.2.2.2.2.1 n
  have ht9 := h.2.2.2.2.2.1 n
  have h50 := h.2.2.2.2.2.2.2.2.2.2.2.2 (m * 100 + y)
  unfold mbP
  rw [hy, ht]
  refine and_congr Iff.rfl ?_
  constructor
  · rintro (z | ⟨k, z1, z2, z3, z4⟩)
    · refine .inl (hbit_all h50.1 h50.2 (fun t' ht' q => ?_))
      obtain ⟨k, q1, q2, q3, q4⟩ := (hT.2 m t' y hm ht' (by omega)).mp q
      exact z k q1 q2 q4
    · exact .inr ((hT.2 m t y hm (by omega) (by omega)).mpr ⟨k, z1, z2, z4, z3⟩)
  · rintro (z | z)
    · refine .inl (fun k q1 q2 q3 => ?_)
      have h13 := h.2.2.2.2.2.2.2.2.2.2.1 k
      have := (hT.2 m (w 130 k).toNat y hm (by omega) (by omega)).mpr ⟨k, q1, q2, by omega, q3⟩
      rw [z, hbit_z _ (by omega)] at this
      cases this
    · obtain ⟨k, q1, q2, q3, q4⟩ := (hT.2 m t y hm (by omega) (by omega)).mp z
      exact .inr ⟨k, q1, q2, q4, q3⟩
/-- the habits on both sides -/
def JH (w : qW) : Prop := (∀ k : Nat, (k : Int) < 3 * w 95 55 → w 49 k = w 128 k) ∧ ∀ k : Nat, 3 * w 95 55 ≤ (k : Int) → k < 36 → w 49 k = 1
def JQ (w : qW) : Prop := JS w ∧ JH w
def jhM (m : List Nat) : Bool := spo m 49 && (spo m 128 && !ymo 95 55 m)
theorem JH.aw {m : List Nat} {w w1 : qW} (h : JH w) (a : AW m w w1) (hm : jhM m = true) : JH w1 := by
  unfold jhM at hm
  simp only [Bool.and_eq_true, Bool.not_eq_true'] at hm
  obtain ⟨m1, m2, m3⟩ := hm
  refine ⟨fun k hk => ?_, fun k hk h36 => ?_⟩
  · rw [a.2 95 55 (fun _ => m3)] at hk
    rw [a.a (by decide) m1, a.a (by decide) m2]; exact h.1 k hk
  · rw [a.2 95 55 (fun _ => m3)] at hk
    rw [a.a (by decide) m1]; exact h.2 k hk h36
def jqM (m : List Nat) : Bool := jsM m && jhM m
theorem JQ.aw {m : List Nat} {w w1 : qW} (h : JQ w) (a : AW m w w1) (hm : jqM m = true) : JQ w1 := by
  unfold jqM at hm
  rw [Bool.and_eq_true] at hm
  exact ⟨h.1.aw a hm.1, h.2.aw a hm.2⟩
theorem K_gameWeight {d : Nat} (hd : 1 ≤ d) (u e : Int) (hd9 : -99 ≤ u ∧ u ≤ 99) (w : qW) : qG none d 73 0 [(0, u), (0, e), (9, 0)] [] w 142 (fun (r : qV) (w1 : qW) (n1 : Nat) => r = (0, gwV u e) ∧ w1 = w ∧ n1 = 142) := by
  generalize hQ9 : (fun (r : qV) (w1 : qW) (n1 : Nat) => r = (0, gwV u e) ∧ w1 = w ∧ n1 = 142) = Q9
  have hc := adV_c u
  obtain ⟨q9, hq9⟩ : ∃ q : Nat, adV u = (q : Int) := ⟨(adV u).toNat, by omega⟩
  obtain ⟨d, rfl⟩ : ∃ d9, d = d9 + 1 := ⟨d - 1, by omega⟩
  refine qG.blk 2 (pc' := 2) (ls' := [(0, u), (0, e), (9, 0)]) (st' := [(0, 1), (0, e)]) (w' := w) (n' := 142) rfl ?_
  refine qG.br (P := e = 1) (pc1 := 5) (pc2 := 19) (st1 := []) rfl (fun h1 => ?_) (fun h1 => ?_)
  · skip
    refine qG.blk 3 (pc' := 9) (ls' := [(0, u), (0, e), (9, 0)]) (st' := [(0, u), (0, 50), (0, 1)]) (w' := w) (n' := 142) rfl ?_
    refine qG.mth rfl rfl rfl rfl (pc' := 12) (ls' := [(0, u), (0, e), (9, 0)]) (st' := [(0, (if 0 ≤ u then u else wrp (0 - u))), (0, 50), (0, 1)]) (w' := w) (n' := 142) rfl ?_
    rw [show (if 0 ≤ u then u else wrp (0 - u)) = ((q9 : Nat) : Int) from by split <;> (try rw [wrp_id (by omega) (by omega)]) <;> omega]
    refine qG.blk 1 (pc' := 13) (ls' := [(0, u), (0, e), (9, 0)]) (st' := [(0, 2), (0, ((q9 : Nat) : Int)), (0, 50), (0, 1)]) (w' := w) (n' := 142) rfl ?_
    refine qG.gn (P := 2 = 0) (pc' := 14) (ls' := [(0, u), (0, e), (9, 0)]) (st' := [(0, qdiv ((q9 : Nat) : Int) 2), (0, 50), (0, 1)]) (w' := w) (n' := 142) rfl (by decide) ?_
    rw [show qdiv ((q9 : Nat) : Int) 2 = ((q9 / 2 : Nat) : Int) from qdiv_n (m := 2) (by omega)]
    refine qG.blk 1 (pc' := 15) (ls' := [(0, u), (0, e), (9, 0)]) (st' := [(0, wrp (50 - ((q9 / 2 : Nat) : Int))), (0, 1)]) (w' := w) (n' := 142) rfl ?_
    rw [show wrp (50 - ((q9 / 2 : Nat) : Int)) = 50 - ((q9 / 2 : Nat) : Int) from wrp_id (by omega) (by omega)]
    refine qG.mth rfl rfl rfl rfl (pc' := 18) (ls' := [(0, u), (0, e), (9, 0)]) (st' := [(0, (if 1 < 50 - ((q9 / 2 : Nat) : Int) then 50 - ((q9 / 2 : Nat) : Int) else 1))]) (w' := w) (n' := 142) rfl ?_
    refine qG.ret rfl rfl ?_
    subst hQ9
    exact ⟨congrArg (Prod.mk (0 : Nat)) (by unfold gwV; (repeat' split) <;> omega), rfl, rfl⟩
  · skip
    refine qG.blk 2 (pc' := 21) (ls' := [(0, u), (0, e), (9, 0)]) (st' := [(0, 2), (0, e)]) (w' := w) (n' := 142) rfl ?_
    refine qG.br (P := e = 2) (pc1 := 24) (pc2 := 31) (st1 := []) rfl (fun h2 => ?_) (fun h2 => ?_)
    · skip
      refine qG.blk 3 (pc' := 28) (ls' := [(0, u), (0, e), (9, 0)]) (st' := [(0, wrp (50 + u))]) (w' := w) (n' := 142) rfl ?_
      rw [show wrp (50 + u) = 50 + u from wrp_id (by omega) (by omega)]
      refine qG.blk 5 (pc' := 40) (ls' := [(0, u), (0, e), (0, 50 + u)]) (st' := [(0, 50 + u), (0, 99), (0, 1)]) (w' := w) (n' := 142) rfl ?_
      refine qG.mth rfl rfl rfl rfl (pc' := 43) (ls' := [(0, u), (0, e), (0, 50 + u)]) (st' := [(0, (if 50 + u < 99 then 50 + u else 99)), (0, 1)]) (w' := w) (n' := 142) rfl ?_
      refine qG.mth rfl rfl rfl rfl (pc' := 46) (ls' := [(0, u), (0, e), (0, 50 + u)]) (st' := [(0, (if 1 < (if 50 + u < 99 then 50 + u else 99) then (if 50 + u < 99 then 50 + u else 99) else 1))]) (w' := w) (n' := 142) rfl ?_
      refine qG.ret rfl rfl ?_
      subst hQ9
      exact ⟨congrArg (Prod.mk (0 : Nat)) (by unfold gwV; (repeat' split) <;> omega), rfl, rfl⟩
    · skip
      refine qG.blk 3 (pc' := 35) (ls' := [(0, u), (0, e), (9, 0)]) (st' := [(0, wrp (50 - u))]) (w' := w) (n' := 142) rfl ?_
      rw [show wrp (50 - u) = 50 - u from wrp_id (by omega) (by omega)]
      refine qG.blk 4 (pc' := 40) (ls' := [(0, u), (0, e), (0, 50 - u)]) (st' := [(0, 50 - u), (0, 99), (0, 1)]) (w' := w) (n' := 142) rfl ?_
      refine qG.mth rfl rfl rfl rfl (pc' := 43) (ls' := [(0, u), (0, e), (0, 50 - u)]) (st' := [(0, (if 50 - u < 99 then 50 - u else 99)), (0, 1)]) (w' := w) (n' := 142) rfl ?_
      refine qG.mth rfl rfl rfl rfl (pc' := 46) (ls' := [(0, u), (0, e), (0, 50 - u)]) (st' := [(0, (if 1 < (if 50 - u < 99 then 50 - u else 99) then (if 50 - u < 99 then 50 - u else 99) else 1))]) (w' := w) (n' := 142) rfl ?_
      refine qG.ret rfl rfl ?_
      subst hQ9
      exact ⟨congrArg (Prod.mk (0 : Nat)) (by unfold gwV; (repeat' split) <;> omega), rfl, rfl⟩
theorem K_canHave {d : Nat} (hd : 1 ≤ d) (m n M N : Nat) (w : qW) (hI : yInv zgf zga zra zSp w) (hJ : JQ w) (hM : w 95 55 = (M : Int)) (hN : w 95 57 = (N : Int)) (hm : m < M) (hn : n < N)  : qG none d 72 0 [(2, 45), (0, ((m : Nat) : Int)), (0, ((n : Nat) : Int)), (9, 0), (9, 0)] [] w 142 (fun (r : qV) (w1 : qW) (n1 : Nat) => ((mbP w n m ∧ r = (0, 1)) ∨ (¬ mbP w n m ∧ r = (0, 0))) ∧ w1 = w ∧ n1 = 142) := by
  generalize hQ9 : (fun (r : qV) (w1 : qW) (n1 : Nat) => ((mbP w n m ∧ r = (0, 1)) ∨ (¬ mbP w n m ∧ r = (0, 0))) ∧ w1 = w ∧ n1 = 142) = Q9
  have hR := rgN_of hI
  have h55 := zfld hI (j := 55) (b := (0, 12)) rfl
  have b55 : w 95 55 ≤ (12 : Int) := h55.2
  have h57 := zfld hI (j := 57) (b := (0, 60)) rfl
  have b57 : w 95 57 ≤ (60 : Int) := h57.2
  obtain ⟨y9, hy9⟩ : ∃ q : Nat, w 132 n = (q : Int) := ⟨(w 132 n).toNat, by have q := hR.2.2.2.2.1 n; omega⟩
  obtain ⟨t9, ht9⟩ : ∃ q : Nat, w 133 n = (q : Int) := ⟨(w 133 n).toNat, by have q := hR.2.2.2.2.2.1 n; omega⟩
  have hy99 := hR.2.2.2.2.1 n
  have ht99 := hR.2.2.2.2.2.1 n
  rw [hy9] at hy99
  rw [ht9] at ht99
  have hmb := mb_iff hR hJ.1.2 (n := n) (m := m) (by omega) hy9 ht9
  obtain ⟨d, rfl⟩ : ∃ d9, d = d9 + 1 := ⟨d - 1, by omega⟩
  refine qG.blk 2 (pc' := 4) (ls' := [(2, 45), (0, ((m : Nat) : Int)), (0, ((n : Nat) : Int)), (9, 0), (9, 0)]) (st' := [(2, w 45 8)]) (w' := w) (n' := 142) rfl ?_
  rw [show w 45 8 = 51 from zref hI rfl rfl]
  refine qG.blk 1 (pc' := 5) (ls' := [(2, 45), (0, ((m : Nat) : Int)), (0, ((n : Nat) : Int)), (9, 0), (9, 0)]) (st' := [(0, ((n : Nat) : Int)), (2, 51)]) (w' := w) (n' := 142) rfl ?_
  refine qG.ar (P := 0 ≤ ((n : Nat) : Int) ∧ ((n : Nat) : Int) < ((60 : Nat) : Int)) (P2 := 0 < (51 : Int) ∧ (51 : Int) ≤ ((142 : Nat) : Int)) (pc' := 6) (ls' := [(2, 45), (0, ((m : Nat) : Int)), (0, ((n : Nat) : Int)), (9, 0), (9, 0)]) (st' := [(0, w 51 n)]) (w' := w) (n' := 142) rfl (by omega) (by decide) ?_
  rw [show w 51 n = ((y9 : Nat) : Int) from (hJ.1.1.2.2.2.2.2.1 _).trans hy9]
  refine qG.blk 2 (pc' := 8) (ls' := [(2, 45), (0, ((m : Nat) : Int)), (0, ((n : Nat) : Int)), (0, ((y9 : Nat) : Int)), (9, 0)]) (st' := [(0, ((y9 : Nat) : Int))]) (w' := w) (n' := 142) rfl ?_
  refine qG.call (t := 55) (na := 1) (sk := 0) (md := 0) (ls1 := [(0, ((y9 : Nat) : Int))]) (r1 := []) rfl rfl rfl rfl rfl (K_X4_isYear (Nat.zero_le _) _ _) ?_
  rintro _ w7 _ ⟨rfl, hw7, rfl⟩
  rw [hw7]
  show qG none (d + 1) 72 11 [(2, 45), (0, ((m : Nat) : Int)), (0, ((n : Nat) : Int)), (0, ((y9 : Nat) : Int)), (9, 0)] [(0, isInV ((y9 : Nat) : Int) 0 99)] w 142 Q9
  refine qG.br (P := isInV ((y9 : Nat) : Int) 0 99 = 0) (pc1 := 34) (pc2 := 14) (st1 := []) rfl (fun hy0 => ?_) (fun hy0 => ?_)
  · exfalso; rw [isIn_b] at hy0; omega
  · skip
    refine qG.blk 3 (pc' := 19) (ls' := [(2, 45), (0, ((m : Nat) : Int)), (0, ((n : Nat) : Int)), (0, ((y9 : Nat) : Int)), (9, 0)]) (st' := [(2, w 45 2), (0, ((y9 : Nat) : Int))]) (w' := w) (n' := 142) rfl ?_
    rw [show w 45 2 = 47 from zref hI rfl rfl]
    refine qG.blk 1 (pc' := 20) (ls' := [(2, 45), (0, ((m : Nat) : Int)), (0, ((n : Nat) : Int)), (0, ((y9 : Nat) : Int)), (9, 0)]) (st' := [(0, ((m : Nat) : Int)), (2, 47), (0, ((y9 : Nat) : Int))]) (w' := w) (n' := 142) rfl ?_
    refine qG.ar (P := 0 ≤ ((m : Nat) : Int) ∧ ((m : Nat) : Int) < ((12 : Nat) : Int)) (P2 := 0 < (47 : Int) ∧ (47 : Int) ≤ ((142 : Nat) : Int)) (pc' := 21) (ls' := [(2, 45), (0, ((m : Nat) : Int)), (0, ((n : Nat) : Int)), (0, ((y9 : Nat) : Int)), (9, 0)]) (st' := [(0, w 47 m), (0, ((y9 : Nat) : Int))]) (w' := w) (n' := 142) rfl (by omega) (by decide) ?_
    rw [show w 47 m = w 126 m from hJ.1.1.2.2.2.1 _]
    refine qG.br (P := ((y9 : Nat) : Int) < w 126 m) (pc1 := 34) (pc2 := 24) (st1 := []) rfl (fun h1 => ?_) (fun h1 => ?_)
    · skip
      refine qG.blk 1 (pc' := 35) (ls' := [(2, 45), (0, ((m : Nat) : Int)), (0, ((n : Nat) : Int)), (0, ((y9 : Nat) : Int)), (9, 0)]) (st' := [(0, 0)]) (w' := w) (n' := 142) rfl ?_
      refine qG.ret rfl (by first | rfl | exact decide_eq_true (by omega)) ?_
      subst hQ9
      exact ⟨by first | exact .inl ⟨hmb.mpr ⟨⟨by omega, by omega⟩, by first | exact .inl h0 | exact .inr hb⟩, rfl⟩ | exact .inr ⟨fun z => by have z := hmb.mp z; first | omega | (rcases z.2 with z | z; exact h0 z; exact hb z), rfl⟩, rfl, rfl⟩
    · skip
      refine qG.blk 3 (pc' := 29) (ls' := [(2, 45), (0, ((m : Nat) : Int)), (0, ((n : Nat) : Int)), (0, ((y9 : Nat) : Int)), (9, 0)]) (st' := [(2, w 45 3), (0, ((y9 : Nat) : Int))]) (w' := w) (n' := 142) rfl ?_
      rw [show w 45 3 = 48 from zref hI rfl rfl]
      refine qG.blk 1 (pc' := 30) (ls' := [(2, 45), (0, ((m : Nat) : Int)), (0, ((n : Nat) : Int)), (0, ((y9 : Nat) : Int)), (9, 0)]) (st' := [(0, ((m : Nat) : Int)), (2, 48), (0, ((y9 : Nat) : Int))]) (w' := w) (n' := 142) rfl ?_
      refine qG.ar (P := 0 ≤ ((m : Nat) : Int) ∧ ((m : Nat) : Int) < ((12 : Nat) : Int)) (P2 := 0 < (48 : Int) ∧ (48 : Int) ≤ ((142 : Nat) : Int)) (pc' := 31) (ls' := [(2, 45), (0, ((m : Nat) : Int)), (0, ((n : Nat) : Int)), (0, ((y9 : Nat) : Int)), (9, 0)]) (st' := [(0, w 48 m), (0, ((y9 : Nat) : Int))]) (w' := w) (n' := 142) rfl (by omega) (by decide) ?_
      rw [show w 48 m = w 127 m from hJ.1.1.2.2.2.2.1 _]
      refine qG.br (P := w 127 m < ((y9 : Nat) : Int)) (pc1 := 34) (pc2 := 36) (st1 := []) rfl (fun h2 => ?_) (fun h2 => ?_)
      · skip
        refine qG.blk 1 (pc' := 35) (ls' := [(2, 45), (0, ((m : Nat) : Int)), (0, ((n : Nat) : Int)), (0, ((y9 : Nat) : Int)), (9, 0)]) (st' := [(0, 0)]) (w' := w) (n' := 142) rfl ?_
        refine qG.ret rfl (by first | rfl | exact decide_eq_true (by omega)) ?_
        subst hQ9
        exact ⟨by first | exact .inl ⟨hmb.mpr ⟨⟨by omega, by omega⟩, by first | exact .inl h0 | exact .inr hb⟩, rfl⟩ | exact .inr ⟨fun z => by have z := hmb.mp z; first | omega | (rcases z.2 with z | z; exact h0 z; exact hb z), rfl⟩, rfl, rfl⟩
      · skip
        refine qG.blk 2 (pc' := 40) (ls' := [(2, 45), (0, ((m : Nat) : Int)), (0, ((n : Nat) : Int)), (0, ((y9 : Nat) : Int)), (9, 0)]) (st' := [(2, w 45 5)]) (w' := w) (n' := 142) rfl ?_
        rw [show w 45 5 = 50 from zref hI rfl rfl]
        refine qG.blk 3 (pc' := 44) (ls' := [(2, 45), (0, ((m : Nat) : Int)), (0, ((n : Nat) : Int)), (0, ((y9 : Nat) : Int)), (9, 0)]) (st' := [(0, wrp (((m : Nat) : Int) * 100)), (2, 50)]) (w' := w) (n' := 142) rfl ?_
        rw [show wrp (((m : Nat) : Int) * 100) = ((m * 100 : Nat) : Int) from by rw [wrp_id (by omega) (by omega)]; omega]
        refine qG.blk 2 (pc' := 46) (ls' := [(2, 45), (0, ((m : Nat) : Int)), (0, ((n : Nat) : Int)), (0, ((y9 : Nat) : Int)), (9, 0)]) (st' := [(0, wrp (((m * 100 : Nat) : Int) + ((y9 : Nat) : Int))), (2, 50)]) (w' := w) (n' := 142) rfl ?_
        rw [show wrp (((m * 100 : Nat) : Int) + ((y9 : Nat) : Int)) = ((m * 100 + y9 : Nat) : Int) from by rw [wrp_id (by omega) (by omega)]; omega]
        refine qG.ild (m := 1200) rfl rfl (by omega) (by decide) ?_
        show qG none (d + 1) 72 47 [(2, 45), (0, ((m : Nat) : Int)), (0, ((n : Nat) : Int)), (0, ((y9 : Nat) : Int)), (9, 0)] [(0, w 50 (m * 100 + y9))] w 142 Q9
        refine qG.blk 2 (pc' := 51) (ls' := [(2, 45), (0, ((m : Nat) : Int)), (0, ((n : Nat) : Int)), (0, ((y9 : Nat) : Int)), (0, w 50 (m * 100 + y9))]) (st' := [(0, w 50 (m * 100 + y9))]) (w' := w) (n' := 142) rfl ?_
        refine qG.br (P := w 50 (m * 100 + y9) = 0) (pc1 := 68) (pc2 := 54) (st1 := []) rfl (fun h0 => ?_) (fun h0 => ?_)
        · skip
          refine qG.blk 2 (pc' := 73) (ls' := [(2, 45), (0, ((m : Nat) : Int)), (0, ((n : Nat) : Int)), (0, ((y9 : Nat) : Int)), (0, w 50 (m * 100 + y9))]) (st' := [(0, 1)]) (w' := w) (n' := 142) rfl ?_
          refine qG.ret rfl (by first | rfl | exact decide_eq_true (by omega)) ?_
          subst hQ9
          exact ⟨by first | exact .inl ⟨hmb.mpr ⟨⟨by omega, by omega⟩, by first | exact .inl h0 | exact .inr hb⟩, rfl⟩ | exact .inr ⟨fun z => by have z := hmb.mp z; first | omega | (rcases z.2 with z | z; exact h0 z; exact hb z), rfl⟩, rfl, rfl⟩
        · skip
          refine qG.blk 3 (pc' := 60) (ls' := [(2, 45), (0, ((m : Nat) : Int)), (0, ((n : Nat) : Int)), (0, ((y9 : Nat) : Int)), (0, w 50 (m * 100 + y9))]) (st' := [(2, w 45 9), (0, w 50 (m * 100 + y9))]) (w' := w) (n' := 142) rfl ?_
          rw [show w 45 9 = 52 from zref hI rfl rfl]
          refine qG.blk 1 (pc' := 61) (ls' := [(2, 45), (0, ((m : Nat) : Int)), (0, ((n : Nat) : Int)), (0, ((y9 : Nat) : Int)), (0, w 50 (m * 100 + y9))]) (st' := [(0, ((n : Nat) : Int)), (2, 52), (0, w 50 (m * 100 + y9))]) (w' := w) (n' := 142) rfl ?_
          refine qG.ar (P := 0 ≤ ((n : Nat) : Int) ∧ ((n : Nat) : Int) < ((60 : Nat) : Int)) (P2 := 0 < (52 : Int) ∧ (52 : Int) ≤ ((142 : Nat) : Int)) (pc' := 62) (ls' := [(2, 45), (0, ((m : Nat) : Int)), (0, ((n : Nat) : Int)), (0, ((y9 : Nat) : Int)), (0, w 50 (m * 100 + y9))]) (st' := [(0, w 52 n), (0, w 50 (m * 100 + y9))]) (w' := w) (n' := 142) rfl (by omega) (by decide) ?_
          rw [show w 52 n = ((t9 : Nat) : Int) from (hJ.1.1.2.2.2.2.2.2.1 _).trans ht9]
          refine qG.blk 3 (pc' := 65) (ls' := [(2, 45), (0, ((m : Nat) : Int)), (0, ((n : Nat) : Int)), (0, ((y9 : Nat) : Int)), (0, w 50 (m * 100 + y9))]) (st' := [(0, qand (qush (w 50 (m * 100 + y9)) ((t9 : Nat) : Int)) 1)]) (w' := w) (n' := 142) rfl ?_
          rw [show qand (qush (w 50 (m * 100 + y9)) ((t9 : Nat) : Int)) 1 = (if hbit (w 50 (m * 100 + y9)) t9 = true then 1 else 0) from ush_b (by omega)]
          refine qG.br (P := (if hbit (w 50 (m * 100 + y9)) t9 = true then 1 else 0) = 0) (pc1 := 72) (pc2 := 68) (st1 := []) rfl (fun hb9 => ?_) (fun hb9 => ?_)
          · skip
            have hb : ¬ hbit (w 50 (m * 100 + y9)) t9 = true := ite01.mp hb9
            refine qG.blk 1 (pc' := 73) (ls' := [(2, 45), (0, ((m : Nat) : Int)), (0, ((n : Nat) : Int)), (0, ((y9 : Nat) : Int)), (0, w 50 (m * 100 + y9))]) (st' := [(0, 0)]) (w' := w) (n' := 142) rfl ?_
            refine qG.ret rfl (by first | rfl | exact decide_eq_true (by omega)) ?_
            subst hQ9
            exact ⟨by first | exact .inl ⟨hmb.mpr ⟨⟨by omega, by omega⟩, by first | exact .inl h0 | exact .inr hb⟩, rfl⟩ | exact .inr ⟨fun z => by have z := hmb.mp z; first | omega | (rcases z.2 with z | z; exact h0 z; exact hb z), rfl⟩, rfl, rfl⟩
          · skip
            have hb : hbit (w 50 (m * 100 + y9)) t9 = true := Decidable.of_not_not (fun z => hb9 (ite01.mpr z))
            refine qG.blk 2 (pc' := 73) (ls' := [(2, 45), (0, ((m : Nat) : Int)), (0, ((n : Nat) : Int)), (0, ((y9 : Nat) : Int)), (0, w 50 (m * 100 + y9))]) (st' := [(0, 1)]) (w' := w) (n' := 142) rfl ?_
            refine qG.ret rfl (by first | rfl | exact decide_eq_true (by omega)) ?_
            subst hQ9
            exact ⟨by first | exact .inl ⟨hmb.mpr ⟨⟨by omega, by omega⟩, by first | exact .inl h0 | exact .inr hb⟩, rfl⟩ | exact .inr ⟨fun z => by have z := hmb.mp z; first | omega | (rcases z.2 with z | z; exact h0 z; exact hb z), rfl⟩, rfl, rfl⟩
theorem K_X4_isNight {d : Nat} (hd : 0 ≤ d) (m : Int) (w : qW) (hI : yInv zgf zga zra zSp w) : qG none d 60 0 [(2, 45), (0, m)] [] w 142 (fun (r : qV) (w1 : qW) (n1 : Nat) => r = (0, isInV m 0 (w 45 7 - 1)) ∧ w1 = w ∧ n1 = 142) := by
  generalize hQ9 : (fun (r : qV) (w1 : qW) (n1 : Nat) => r = (0, isInV m 0 (w 45 7 - 1)) ∧ w1 = w ∧ n1 = 142) = Q9
  have q12 := hI.1 45 7 (0, 60) rfl rfl
  have b12 : w 45 7 ≤ (60 : Int) := q12.2
  refine qG.blk 1 (pc' := 1) (ls' := [(2, 45), (0, m)]) (st' := [(0, m)]) (w' := w) (n' := 142) rfl ?_
  refine qG.br (P := m < 0) (pc1 := 22) (pc2 := 4) (st1 := []) rfl (fun h1 => ?_) (fun h1 => ?_)
  · skip
    refine qG.blk 1 (pc' := 23) (ls' := [(2, 45), (0, m)]) (st' := [(0, 0)]) (w' := w) (n' := 142) rfl ?_
    refine qG.ret rfl (by first | rfl | exact decide_eq_true (by omega)) ?_
    subst hQ9
    exact ⟨by unfold isInV; split <;> (try split) <;> first | rfl | (exfalso; omega), rfl, rfl⟩
  · skip
    refine qG.blk 3 (pc' := 9) (ls' := [(2, 45), (0, m)]) (st' := [(0, w 45 7), (0, m)]) (w' := w) (n' := 142) rfl ?_
    refine qG.br (P := m < w 45 7) (pc1 := 12) (pc2 := 22) (st1 := []) rfl (fun h2 => ?_) (fun h2 => ?_)
    · skip
      refine qG.blk 2 (pc' := 15) (ls' := [(2, 45), (0, m)]) (st' := [(0, 60), (0, m)]) (w' := w) (n' := 142) rfl ?_
      refine qG.br (P := m < 60) (pc1 := 18) (pc2 := 22) (st1 := []) rfl (fun h3 => ?_) (fun h3 => ?_)
      · skip
        refine qG.blk 2 (pc' := 23) (ls' := [(2, 45), (0, m)]) (st' := [(0, 1)]) (w' := w) (n' := 142) rfl ?_
        refine qG.ret rfl (by first | rfl | exact decide_eq_true (by omega)) ?_
        subst hQ9
        exact ⟨by unfold isInV; split <;> (try split) <;> first | rfl | (exfalso; omega), rfl, rfl⟩
      · skip
        refine qG.blk 1 (pc' := 23) (ls' := [(2, 45), (0, m)]) (st' := [(0, 0)]) (w' := w) (n' := 142) rfl ?_
        refine qG.ret rfl (by first | rfl | exact decide_eq_true (by omega)) ?_
        subst hQ9
        exact ⟨by unfold isInV; split <;> (try split) <;> first | rfl | (exfalso; omega), rfl, rfl⟩
    · skip
      refine qG.blk 1 (pc' := 23) (ls' := [(2, 45), (0, m)]) (st' := [(0, 0)]) (w' := w) (n' := 142) rfl ?_
      refine qG.ret rfl (by first | rfl | exact decide_eq_true (by omega)) ?_
      subst hQ9
      exact ⟨by unfold isInV; split <;> (try split) <;> first | rfl | (exfalso; omega), rfl, rfl⟩
theorem K_weightOf {d : Nat} (hd : 2 ≤ d) (m n M N : Nat) (w : qW) (hI : yInv zgf zga zra zSp w) (hJ : JQ w) (hM : w 95 55 = (M : Int)) (hN : w 95 57 = (N : Int)) (hm : m < M) (hn : n < N)  : qG none d 71 0 [(2, 45), (0, ((m : Nat) : Int)), (0, ((n : Nat) : Int)), (9, 0), (9, 0)] [] w 142 (fun (r : qV) (w1 : qW) (n1 : Nat) => r = (0, wgV w n m) ∧ w1 = w ∧ n1 = 142) := by
  generalize hQ9 : (fun (r : qV) (w1 : qW) (n1 : Nat) => r = (0, wgV w n m) ∧ w1 = w ∧ n1 = 142) = Q9
  have hR := rgN_of hI
  have h55 := zfld hI (j := 55) (b := (0, 12)) rfl
  have b55 : w 95 55 ≤ (12 : Int) := h55.2
  have h57 := zfld hI (j := 57) (b := (0, 60)) rfl
  have b57 : w 95 57 ≤ (60 : Int) := h57.2
  have hgw := gw_in hR n m
  have hha := haV_in hR n m
  have hp9 := mul_9 hgw.1 hgw.2 hha.1 hha.2
  have q125 := hR.1 m
  have q134 := hR.2.2.2.2.2.2.1 n
  have q136 := hR.2.2.2.2.2.2.2.2.1 n
  have j45 := hJ.1.1.1
  have j457 := hJ.1.1.2.1
  obtain ⟨d, rfl⟩ : ∃ d9, d = d9 + 1 := ⟨d - 1, by omega⟩
  refine qG.blk 2 (pc' := 2) (ls' := [(2, 45), (0, ((m : Nat) : Int)), (0, ((n : Nat) : Int)), (9, 0), (9, 0)]) (st' := [(0, ((m : Nat) : Int)), (2, 45)]) (w' := w) (n' := 142) rfl ?_
  refine qG.call (t := 59) (na := 2) (sk := 1) (md := 1) (ls1 := [(2, 45), (0, ((m : Nat) : Int))]) (r1 := []) rfl rfl rfl rfl rfl (K_X4_isMaster (Nat.zero_le _) ((m : Nat) : Int) w hI) ?_
  rintro _ w7 _ ⟨rfl, hw7, rfl⟩
  rw [hw7]
  show qG none (d + 1) 71 5 [(2, 45), (0, ((m : Nat) : Int)), (0, ((n : Nat) : Int)), (9, 0), (9, 0)] [(0, isInV ((m : Nat) : Int) 0 (w 45 0 - 1))] w 142 Q9
  refine qG.br (P := isInV ((m : Nat) : Int) 0 (w 45 0 - 1) = 0) (pc1 := 25) (pc2 := 8) (st1 := []) rfl (fun hM0 => ?_) (fun hM0 => ?_)
  · exfalso; rw [isIn_b] at hM0; omega
  · skip
    refine qG.blk 2 (pc' := 10) (ls' := [(2, 45), (0, ((m : Nat) : Int)), (0, ((n : Nat) : Int)), (9, 0), (9, 0)]) (st' := [(0, ((n : Nat) : Int)), (2, 45)]) (w' := w) (n' := 142) rfl ?_
    refine qG.call (t := 60) (na := 2) (sk := 1) (md := 1) (ls1 := [(2, 45), (0, ((n : Nat) : Int))]) (r1 := []) rfl rfl rfl rfl rfl (K_X4_isNight (Nat.zero_le _) ((n : Nat) : Int) w hI) ?_
    rintro _ w7 _ ⟨rfl, hw7, rfl⟩
    rw [hw7]
    show qG none (d + 1) 71 13 [(2, 45), (0, ((m : Nat) : Int)), (0, ((n : Nat) : Int)), (9, 0), (9, 0)] [(0, isInV ((n : Nat) : Int) 0 (w 45 7 - 1))] w 142 Q9
    refine qG.br (P := isInV ((n : Nat) : Int) 0 (w 45 7 - 1) = 0) (pc1 := 25) (pc2 := 16) (st1 := []) rfl (fun hN0 => ?_) (fun hN0 => ?_)
    · exfalso; rw [isIn_b] at hN0; omega
    · skip
      refine qG.blk 3 (pc' := 19) (ls' := [(2, 45), (0, ((m : Nat) : Int)), (0, ((n : Nat) : Int)), (9, 0), (9, 0)]) (st' := [(0, ((n : Nat) : Int)), (0, ((m : Nat) : Int)), (2, 45)]) (w' := w) (n' := 142) rfl ?_
      refine qG.call (t := 72) (na := 3) (sk := 1) (md := 1) (ls1 := [(2, 45), (0, ((m : Nat) : Int)), (0, ((n : Nat) : Int)), (9, 0), (9, 0)]) (r1 := []) rfl rfl rfl rfl rfl (K_canHave (by omega) m n M N w hI hJ hM hN hm hn) ?_
      rintro ⟨_, x9⟩ w7 _ ⟨⟨hmy, hx9⟩ | ⟨hmn, hx9⟩, hw7, rfl⟩ <;> obtain ⟨rfl, rfl⟩ := Prod.mk.inj hx9 <;> rw [hw7]
      · skip
        show qG none (d + 1) 71 22 [(2, 45), (0, ((m : Nat) : Int)), (0, ((n : Nat) : Int)), (9, 0), (9, 0)] [(0, 1)] w 142 Q9
        refine qG.br (P := (1 : Int) = 0) (pc1 := 25) (pc2 := 27) (st1 := []) rfl (fun h1 => ?_) (fun h1 => ?_)
        · exact absurd h1 (by decide)
        · skip
          refine qG.blk 2 (pc' := 31) (ls' := [(2, 45), (0, ((m : Nat) : Int)), (0, ((n : Nat) : Int)), (9, 0), (9, 0)]) (st' := [(2, w 45 1)]) (w' := w) (n' := 142) rfl ?_
          rw [show w 45 1 = 46 from zref hI rfl rfl]
          refine qG.blk 1 (pc' := 32) (ls' := [(2, 45), (0, ((m : Nat) : Int)), (0, ((n : Nat) : Int)), (9, 0), (9, 0)]) (st' := [(0, ((m : Nat) : Int)), (2, 46)]) (w' := w) (n' := 142) rfl ?_
          refine qG.ar (P := 0 ≤ ((m : Nat) : Int) ∧ ((m : Nat) : Int) < ((12 : Nat) : Int)) (P2 := 0 < (46 : Int) ∧ (46 : Int) ≤ ((142 : Nat) : Int)) (pc' := 33) (ls' := [(2, 45), (0, ((m : Nat) : Int)), (0, ((n : Nat) : Int)), (9, 0), (9, 0)]) (st' := [(0, w 46 m)]) (w' := w) (n' := 142) rfl (by omega) (by decide) ?_
          rw [show w 46 m = w 125 m from hJ.1.1.2.2.1 _]
          refine qG.blk 2 (pc' := 37) (ls' := [(2, 45), (0, ((m : Nat) : Int)), (0, ((n : Nat) : Int)), (9, 0), (9, 0)]) (st' := [(2, w 45 10), (0, w 125 m)]) (w' := w) (n' := 142) rfl ?_
          rw [show w 45 10 = 53 from zref hI rfl rfl]
          refine qG.blk 1 (pc' := 38) (ls' := [(2, 45), (0, ((m : Nat) : Int)), (0, ((n : Nat) : Int)), (9, 0), (9, 0)]) (st' := [(0, ((n : Nat) : Int)), (2, 53), (0, w 125 m)]) (w' := w) (n' := 142) rfl ?_
          refine qG.ar (P := 0 ≤ ((n : Nat) : Int) ∧ ((n : Nat) : Int) < ((60 : Nat) : Int)) (P2 := 0 < (53 : Int) ∧ (53 : Int) ≤ ((142 : Nat) : Int)) (pc' := 39) (ls' := [(2, 45), (0, ((m : Nat) : Int)), (0, ((n : Nat) : Int)), (9, 0), (9, 0)]) (st' := [(0, w 53 n), (0, w 125 m)]) (w' := w) (n' := 142) rfl (by omega) (by decide) ?_
          rw [show w 53 n = w 134 n from hJ.1.1.2.2.2.2.2.2.2.1 _]
          refine qG.blk 1 (pc' := 40) (ls' := [(2, 45), (0, ((m : Nat) : Int)), (0, ((n : Nat) : Int)), (9, 0), (9, 0)]) (st' := [(0, wrp ((w 125 m) - (w 134 n)))]) (w' := w) (n' := 142) rfl ?_
          rw [show wrp ((w 125 m) - (w 134 n)) = (w 125 m) - (w 134 n) from wrp_id (by omega) (by omega)]
          refine qG.blk 2 (pc' := 44) (ls' := [(2, 45), (0, ((m : Nat) : Int)), (0, ((n : Nat) : Int)), (9, 0), (9, 0)]) (st' := [(2, w 45 11), (0, (w 125 m) - (w 134 n))]) (w' := w) (n' := 142) rfl ?_
          rw [show w 45 11 = 54 from zref hI rfl rfl]
          refine qG.blk 1 (pc' := 45) (ls' := [(2, 45), (0, ((m : Nat) : Int)), (0, ((n : Nat) : Int)), (9, 0), (9, 0)]) (st' := [(0, ((n : Nat) : Int)), (2, 54), (0, (w 125 m) - (w 134 n))]) (w' := w) (n' := 142) rfl ?_
          refine qG.ar (P := 0 ≤ ((n : Nat) : Int) ∧ ((n : Nat) : Int) < ((60 : Nat) : Int)) (P2 := 0 < (54 : Int) ∧ (54 : Int) ≤ ((142 : Nat) : Int)) (pc' := 46) (ls' := [(2, 45), (0, ((m : Nat) : Int)), (0, ((n : Nat) : Int)), (9, 0), (9, 0)]) (st' := [(0, w 54 n), (0, (w 125 m) - (w 134 n))]) (w' := w) (n' := 142) rfl (by omega) (by decide) ?_
          rw [show w 54 n = w 135 n from hJ.1.1.2.2.2.2.2.2.2.2.1 _]
          refine qG.call (t := 73) (na := 2) (sk := 0) (md := 0) (ls1 := [(0, (w 125 m) - (w 134 n)), (0, w 135 n), (9, 0)]) (r1 := []) rfl rfl rfl rfl rfl (K_gameWeight (by omega) (w 125 m - w 134 n) (w 135 n) (by have q1 := hR.1 m; have q2 := hR.2.2.2.2.2.2.1 n; omega) w) ?_
          rintro _ w7 _ ⟨rfl, hw7, rfl⟩
          rw [hw7]
          show qG none (d + 1) 71 49 [(2, 45), (0, ((m : Nat) : Int)), (0, ((n : Nat) : Int)), (9, 0), (9, 0)] [(0, gwV (w 125 m - w 134 n) (w 135 n))] w 142 Q9
          refine qG.blk 3 (pc' := 54) (ls' := [(2, 45), (0, ((m : Nat) : Int)), (0, ((n : Nat) : Int)), (0, gwV (w 125 m - w 134 n) (w 135 n)), (9, 0)]) (st' := [(2, w 45 12)]) (w' := w) (n' := 142) rfl ?_
          rw [show w 45 12 = 55 from zref hI rfl rfl]
          refine qG.blk 1 (pc' := 55) (ls' := [(2, 45), (0, ((m : Nat) : Int)), (0, ((n : Nat) : Int)), (0, gwV (w 125 m - w 134 n) (w 135 n)), (9, 0)]) (st' := [(0, ((n : Nat) : Int)), (2, 55)]) (w' := w) (n' := 142) rfl ?_
          refine qG.ar (P := 0 ≤ ((n : Nat) : Int) ∧ ((n : Nat) : Int) < ((60 : Nat) : Int)) (P2 := 0 < (55 : Int) ∧ (55 : Int) ≤ ((142 : Nat) : Int)) (pc' := 56) (ls' := [(2, 45), (0, ((m : Nat) : Int)), (0, ((n : Nat) : Int)), (0, gwV (w 125 m - w 134 n) (w 135 n)), (9, 0)]) (st' := [(0, w 55 n)]) (w' := w) (n' := 142) rfl (by omega) (by decide) ?_
          rw [show w 55 n = w 136 n from hJ.1.1.2.2.2.2.2.2.2.2.2 _]
          refine qG.blk 2 (pc' := 60) (ls' := [(2, 45), (0, ((m : Nat) : Int)), (0, ((n : Nat) : Int)), (0, gwV (w 125 m - w 134 n) (w 135 n)), (0, w 136 n)]) (st' := [(0, w 136 n)]) (w' := w) (n' := 142) rfl ?_
          refine qG.call (t := 58) (na := 1) (sk := 0) (md := 0) (ls1 := [(0, w 136 n)]) (r1 := []) rfl rfl rfl rfl rfl (K_X4_isAnswer (Nat.zero_le _) _ _) ?_
          rintro _ w7 _ ⟨rfl, hw7, rfl⟩
          rw [hw7]
          show qG none (d + 1) 71 63 [(2, 45), (0, ((m : Nat) : Int)), (0, ((n : Nat) : Int)), (0, gwV (w 125 m - w 134 n) (w 135 n)), (0, w 136 n)] [(0, isInV (w 136 n) 0 2)] w 142 Q9
          refine qG.br (P := isInV (w 136 n) 0 2 = 0) (pc1 := 82) (pc2 := 66) (st1 := []) rfl (fun ha0 => ?_) (fun ha0 => ?_)
          · skip
            rw [isIn_b] at ha0
            refine qG.blk 1 (pc' := 83) (ls' := [(2, 45), (0, ((m : Nat) : Int)), (0, ((n : Nat) : Int)), (0, gwV (w 125 m - w 134 n) (w 135 n)), (0, w 136 n)]) (st' := [(0, gwV (w 125 m - w 134 n) (w 135 n))]) (w' := w) (n' := 142) rfl ?_
            refine qG.ret rfl rfl ?_
            subst hQ9
            exact ⟨congrArg (Prod.mk (0 : Nat)) (by first | exact (wg_n hmn).symm | (rw [wg_y hmy, hha2]; done) | (rw [wg_y hmy, show haV w n m = 1 from if_pos (by omega), Int.mul_one]; done)), rfl, rfl⟩
          · skip
            rw [isIn_p] at ha0
            obtain ⟨a9, ha9⟩ : ∃ q : Nat, w 136 n = (q : Int) := ⟨(w 136 n).toNat, by omega⟩
            rw [ha9]
            have hha2 : haV w n m = w 128 (m * 3 + a9) := (by unfold haV; rw [if_neg (by omega), ha9, Int.toNat_natCast])
            rw [hha2] at hp9
            refine qG.blk 3 (pc' := 71) (ls' := [(2, 45), (0, ((m : Nat) : Int)), (0, ((n : Nat) : Int)), (0, gwV (w 125 m - w 134 n) (w 135 n)), (0, ((a9 : Nat) : Int))]) (st' := [(2, w 45 4), (0, gwV (w 125 m - w 134 n) (w 135 n))]) (w' := w) (n' := 142) rfl ?_
            rw [show w 45 4 = 49 from zref hI rfl rfl]
            refine qG.blk 3 (pc' := 74) (ls' := [(2, 45), (0, ((m : Nat) : Int)), (0, ((n : Nat) : Int)), (0, gwV (w 125 m - w 134 n) (w 135 n)), (0, ((a9 : Nat) : Int))]) (st' := [(0, wrp (((m : Nat) : Int) * 3)), (2, 49), (0, gwV (w 125 m - w 134 n) (w 135 n))]) (w' := w) (n' := 142) rfl ?_
            rw [show wrp (((m : Nat) : Int) * 3) = ((m * 3 : Nat) : Int) from by rw [wrp_id (by omega) (by omega)]; omega]
            refine qG.blk 2 (pc' := 77) (ls' := [(2, 45), (0, ((m : Nat) : Int)), (0, ((n : Nat) : Int)), (0, gwV (w 125 m - w 134 n) (w 135 n)), (0, ((a9 : Nat) : Int))]) (st' := [(0, wrp (((m * 3 : Nat) : Int) + ((a9 : Nat) : Int))), (2, 49), (0, gwV (w 125 m - w 134 n) (w 135 n))]) (w' := w) (n' := 142) rfl ?_
            rw [show wrp (((m * 3 : Nat) : Int) + ((a9 : Nat) : Int)) = ((m * 3 + a9 : Nat) : Int) from by rw [wrp_id (by omega) (by omega)]; omega]
            refine qG.ar (P := 0 ≤ ((m * 3 + a9 : Nat) : Int) ∧ ((m * 3 + a9 : Nat) : Int) < ((36 : Nat) : Int)) (P2 := 0 < (49 : Int) ∧ (49 : Int) ≤ ((142 : Nat) : Int)) (pc' := 78) (ls' := [(2, 45), (0, ((m : Nat) : Int)), (0, ((n : Nat) : Int)), (0, gwV (w 125 m - w 134 n) (w 135 n)), (0, ((a9 : Nat) : Int))]) (st' := [(0, w 49 (m * 3 + a9)), (0, gwV (w 125 m - w 134 n) (w 135 n))]) (w' := w) (n' := 142) rfl (by omega) (by decide) ?_
            rw [show w 49 (m * 3 + a9) = w 128 (m * 3 + a9) from hJ.2.1 _ (by omega)]
            refine qG.blk 1 (pc' := 79) (ls' := [(2, 45), (0, ((m : Nat) : Int)), (0, ((n : Nat) : Int)), (0, gwV (w 125 m - w 134 n) (w 135 n)), (0, ((a9 : Nat) : Int))]) (st' := [(0, wrp ((gwV (w 125 m - w 134 n) (w 135 n)) * (w 128 (m * 3 + a9))))]) (w' := w) (n' := 142) rfl ?_
            rw [show wrp ((gwV (w 125 m - w 134 n) (w 135 n)) * (w 128 (m * 3 + a9))) = gwV (w 125 m - w 134 n) (w 135 n) * w 128 (m * 3 + a9) from wrp_id (by omega) (by omega)]
            refine qG.blk 1 (pc' := 83) (ls' := [(2, 45), (0, ((m : Nat) : Int)), (0, ((n : Nat) : Int)), (0, gwV (w 125 m - w 134 n) (w 135 n)), (0, ((a9 : Nat) : Int))]) (st' := [(0, gwV (w 125 m - w 134 n) (w 135 n) * w 128 (m * 3 + a9))]) (w' := w) (n' := 142) rfl ?_
            refine qG.ret rfl rfl ?_
            subst hQ9
            exact ⟨congrArg (Prod.mk (0 : Nat)) (by first | exact (wg_n hmn).symm | (rw [wg_y hmy, hha2]; done) | (rw [wg_y hmy, show haV w n m = 1 from if_pos (by omega), Int.mul_one]; done)), rfl, rfl⟩
      · skip
        show qG none (d + 1) 71 22 [(2, 45), (0, ((m : Nat) : Int)), (0, ((n : Nat) : Int)), (9, 0), (9, 0)] [(0, 0)] w 142 Q9
        refine qG.br (P := (0 : Int) = 0) (pc1 := 25) (pc2 := 27) (st1 := []) rfl (fun h2 => ?_) (fun h2 => ?_)
        · skip
          refine qG.blk 1 (pc' := 26) (ls' := [(2, 45), (0, ((m : Nat) : Int)), (0, ((n : Nat) : Int)), (9, 0), (9, 0)]) (st' := [(0, 0)]) (w' := w) (n' := 142) rfl ?_
          refine qG.ret rfl rfl ?_
          subst hQ9
          exact ⟨congrArg (Prod.mk (0 : Nat)) (by first | exact (wg_n hmn).symm | (rw [wg_y hmy, hha2]; done) | (rw [wg_y hmy, show haV w n m = 1 from if_pos (by omega), Int.mul_one]; done)), rfl, rfl⟩
        · exact absurd h2 (by decide)
theorem K_mayBe {d : Nat} (hd : 1 ≤ d) (n m M N : Nat) (w : qW) (hI : yInv zgf zga zra zSp w) (hM : w 95 55 = (M : Int)) (hN : w 95 57 = (N : Int)) (hm : m < M) (hn : n < N)  : qG none d 284 0 [(2, 95), (0, ((n : Nat) : Int)), (0, ((m : Nat) : Int)), (9, 0), (9, 0)] [] w 142 (fun (r : qV) (w1 : qW) (n1 : Nat) => ((mbP w n m ∧ r = (0, 1)) ∨ (¬ mbP w n m ∧ r = (0, 0))) ∧ w1 = w ∧ n1 = 142) := by
  generalize hQ9 : (fun (r : qV) (w1 : qW) (n1 : Nat) => ((mbP w n m ∧ r = (0, 1)) ∨ (¬ mbP w n m ∧ r = (0, 0))) ∧ w1 = w ∧ n1 = 142) = Q9
  have hR := rgN_of hI
  have h55 := zfld hI (j := 55) (b := (0, 12)) rfl
  have b55 : w 95 55 ≤ (12 : Int) := h55.2
  have h57 := zfld hI (j := 57) (b := (0, 60)) rfl
  have b57 : w 95 57 ≤ (60 : Int) := h57.2
  have h56 := zfld hI (j := 56) (b := (0, 200)) rfl
  have a56 : (0 : Int) ≤ w 95 56 := h56.1
  have b56 : w 95 56 ≤ (200 : Int) := h56.2
  obtain ⟨Q, hQ⟩ : ∃ q : Nat, w 95 56 = (q : Int) := ⟨(w 95 56).toNat, by omega⟩
  obtain ⟨d, rfl⟩ : ∃ d9, d = d9 + 1 := ⟨d - 1, by omega⟩
  refine qG.blk 2 (pc' := 4) (ls' := [(2, 95), (0, ((n : Nat) : Int)), (0, ((m : Nat) : Int)), (9, 0), (9, 0)]) (st' := [(2, w 95 65)]) (w' := w) (n' := 142) rfl ?_
  rw [show w 95 65 = 132 from zref hI rfl rfl]
  refine qG.blk 1 (pc' := 5) (ls' := [(2, 95), (0, ((n : Nat) : Int)), (0, ((m : Nat) : Int)), (9, 0), (9, 0)]) (st' := [(0, ((n : Nat) : Int)), (2, 132)]) (w' := w) (n' := 142) rfl ?_
  refine qG.ar (P := 0 ≤ ((n : Nat) : Int) ∧ ((n : Nat) : Int) < ((60 : Nat) : Int)) (P2 := 0 < (132 : Int) ∧ (132 : Int) ≤ ((142 : Nat) : Int)) (pc' := 6) (ls' := [(2, 95), (0, ((n : Nat) : Int)), (0, ((m : Nat) : Int)), (9, 0), (9, 0)]) (st' := [(0, w 132 n)]) (w' := w) (n' := 142) rfl (by omega) (by decide) ?_
  refine qG.blk 2 (pc' := 10) (ls' := [(2, 95), (0, ((n : Nat) : Int)), (0, ((m : Nat) : Int)), (9, 0), (9, 0)]) (st' := [(2, w 95 59), (0, w 132 n)]) (w' := w) (n' := 142) rfl ?_
  rw [show w 95 59 = 126 from zref hI rfl rfl]
  refine qG.blk 1 (pc' := 11) (ls' := [(2, 95), (0, ((n : Nat) : Int)), (0, ((m : Nat) : Int)), (9, 0), (9, 0)]) (st' := [(0, ((m : Nat) : Int)), (2, 126), (0, w 132 n)]) (w' := w) (n' := 142) rfl ?_
  refine qG.ar (P := 0 ≤ ((m : Nat) : Int) ∧ ((m : Nat) : Int) < ((12 : Nat) : Int)) (P2 := 0 < (126 : Int) ∧ (126 : Int) ≤ ((142 : Nat) : Int)) (pc' := 12) (ls' := [(2, 95), (0, ((n : Nat) : Int)), (0, ((m : Nat) : Int)), (9, 0), (9, 0)]) (st' := [(0, w 126 m), (0, w 132 n)]) (w' := w) (n' := 142) rfl (by omega) (by decide) ?_
  refine qG.blk 2 (pc' := 16) (ls' := [(2, 95), (0, ((n : Nat) : Int)), (0, ((m : Nat) : Int)), (9, 0), (9, 0)]) (st' := [(2, w 95 60), (0, w 126 m), (0, w 132 n)]) (w' := w) (n' := 142) rfl ?_
  rw [show w 95 60 = 127 from zref hI rfl rfl]
  refine qG.blk 1 (pc' := 17) (ls' := [(2, 95), (0, ((n : Nat) : Int)), (0, ((m : Nat) : Int)), (9, 0), (9, 0)]) (st' := [(0, ((m : Nat) : Int)), (2, 127), (0, w 126 m), (0, w 132 n)]) (w' := w) (n' := 142) rfl ?_
  refine qG.ar (P := 0 ≤ ((m : Nat) : Int) ∧ ((m : Nat) : Int) < ((12 : Nat) : Int)) (P2 := 0 < (127 : Int) ∧ (127 : Int) ≤ ((142 : Nat) : Int)) (pc' := 18) (ls' := [(2, 95), (0, ((n : Nat) : Int)), (0, ((m : Nat) : Int)), (9, 0), (9, 0)]) (st' := [(0, w 127 m), (0, w 126 m), (0, w 132 n)]) (w' := w) (n' := 142) rfl (by omega) (by decide) ?_
  refine qG.call (t := 206) (na := 3) (sk := 0) (md := 0) (ls1 := [(0, w 132 n), (0, w 126 m), (0, w 127 m)]) (r1 := []) rfl rfl rfl rfl rfl (K_isIn (Nat.zero_le _) _ _ _ _) ?_
  rintro _ w7 _ ⟨rfl, hw7, rfl⟩
  rw [hw7]
  show qG none (d + 1) 284 21 [(2, 95), (0, ((n : Nat) : Int)), (0, ((m : Nat) : Int)), (9, 0), (9, 0)] [(0, isInV (w 132 n) (w 126 m) (w 127 m))] w 142 Q9
  refine qG.br (P := isInV (w 132 n) (w 126 m) (w 127 m) = 0) (pc1 := 24) (pc2 := 26) (st1 := []) rfl (fun hy0 => ?_) (fun hy0 => ?_)
  · skip
    rw [isIn_b] at hy0
    refine qG.blk 1 (pc' := 25) (ls' := [(2, 95), (0, ((n : Nat) : Int)), (0, ((m : Nat) : Int)), (9, 0), (9, 0)]) (st' := [(0, 0)]) (w' := w) (n' := 142) rfl ?_
    refine qG.ret rfl (by first | rfl | exact decide_eq_true (by omega)) ?_
    subst hQ9
    refine ⟨?_, rfl, rfl⟩; first | exact .inr ⟨fun z => hy0 z.1, rfl⟩ | exact .inl ⟨⟨hy0, .inr ⟨k, by omega, hq1, hq2, hq3⟩⟩, rfl⟩ | exact .inl ⟨⟨hy0, .inl (fun i hi z1 => hI31.2.2.2.2 (by omega) i (by omega) z1)⟩, rfl⟩ | exact .inr ⟨fun z => (by obtain ⟨i, hi, i1, i2⟩ := hI31.2.2.2.1 (by omega); rcases z.2 with z | ⟨j, j1, j2, j3, j4⟩; exact z i (by omega) i1 i2; exact hI31.2.2.1 j (by omega) j2 j3 j4), rfl⟩
  · skip
    rw [isIn_p] at hy0
    refine qG.blk 4 (pc' := 31) (ls' := [(2, 95), (0, ((n : Nat) : Int)), (0, ((m : Nat) : Int)), (0, 0), (0, 0)]) (st' := []) (w' := w) (n' := 142) rfl ?_
    have L31 : ∀ (m9 : Nat) (k : Nat) (x3 : Int), Q - k = m9 → (k ≤ Q ∧ (x3 = 0 ∨ x3 = 1) ∧ (∀ i : Nat, i < k → w 129 i = (m : Int) → w 131 i = w 132 n → ¬ w 130 i = w 133 n) ∧ (x3 = 1 → stE w n m k) ∧ (x3 = 0 → ∀ i : Nat, i < k → w 129 i = (m : Int) → ¬ w 131 i = w 132 n)) → qG none (d + 1) 284 31 [(2, 95), (0, ((n : Nat) : Int)), (0, ((m : Nat) : Int)), (0, x3), (0, ((k : Nat) : Int))] [] w 142 Q9 := by
      intro m9
      induction m9 using Nat.strongRecOn with
      | ind m9 ih31 =>
      intro k x3 hm31 hI31
      refine qG.blk 3 (pc' := 37) (ls' := [(2, 95), (0, ((n : Nat) : Int)), (0, ((m : Nat) : Int)), (0, x3), (0, ((k : Nat) : Int))]) (st' := [(0, w 95 56), (0, ((k : Nat) : Int))]) (w' := w) (n' := 142) rfl ?_
      rw [show w 95 56 = ((Q : Nat) : Int) from hQ]
      refine qG.br (P := ((k : Nat) : Int) < ((Q : Nat) : Int)) (pc1 := 40) (pc2 := 96) (st1 := []) rfl (fun hk => ?_) (fun hk => ?_)
      · skip
        refine qG.blk 2 (pc' := 44) (ls' := [(2, 95), (0, ((n : Nat) : Int)), (0, ((m : Nat) : Int)), (0, x3), (0, ((k : Nat) : Int))]) (st' := [(2, w 95 62)]) (w' := w) (n' := 142) rfl ?_
        rw [show w 95 62 = 129 from zref hI rfl rfl]
        refine qG.blk 1 (pc' := 46) (ls' := [(2, 95), (0, ((n : Nat) : Int)), (0, ((m : Nat) : Int)), (0, x3), (0, ((k : Nat) : Int))]) (st' := [(0, ((k : Nat) : Int)), (2, 129)]) (w' := w) (n' := 142) rfl ?_
        refine qG.ild (m := 200) rfl rfl (by omega) (by decide) ?_
        show qG none (d + 1) 284 47 [(2, 95), (0, ((n : Nat) : Int)), (0, ((m : Nat) : Int)), (0, x3), (0, ((k : Nat) : Int))] [(0, w 129 k)] w 142 Q9
        refine qG.blk 1 (pc' := 48) (ls' := [(2, 95), (0, ((n : Nat) : Int)), (0, ((m : Nat) : Int)), (0, x3), (0, ((k : Nat) : Int))]) (st' := [(0, ((m : Nat) : Int)), (0, w 129 k)]) (w' := w) (n' := 142) rfl ?_
        refine qG.br (P := w 129 k = ((m : Nat) : Int)) (pc1 := 51) (pc2 := 90) (st1 := []) rfl (fun hq1 => ?_) (fun hq1 => ?_)
        · skip
          refine qG.blk 2 (pc' := 55) (ls' := [(2, 95), (0, ((n : Nat) : Int)), (0, ((m : Nat) : Int)), (0, x3), (0, ((k : Nat) : Int))]) (st' := [(2, w 95 64)]) (w' := w) (n' := 142) rfl ?_
          rw [show w 95 64 = 131 from zref hI rfl rfl]
          refine qG.blk 1 (pc' := 57) (ls' := [(2, 95), (0, ((n : Nat) : Int)), (0, ((m : Nat) : Int)), (0, x3), (0, ((k : Nat) : Int))]) (st' := [(0, ((k : Nat) : Int)), (2, 131)]) (w' := w) (n' := 142) rfl ?_
          refine qG.ild (m := 200) rfl rfl (by omega) (by decide) ?_
          show qG none (d + 1) 284 58 [(2, 95), (0, ((n : Nat) : Int)), (0, ((m : Nat) : Int)), (0, x3), (0, ((k : Nat) : Int))] [(0, w 131 k)] w 142 Q9
          refine qG.blk 2 (pc' := 62) (ls' := [(2, 95), (0, ((n : Nat) : Int)), (0, ((m : Nat) : Int)), (0, x3), (0, ((k : Nat) : Int))]) (st' := [(2, w 95 65), (0, w 131 k)]) (w' := w) (n' := 142) rfl ?_
          rw [show w 95 65 = 132 from zref hI rfl rfl]
          refine qG.blk 1 (pc' := 63) (ls' := [(2, 95), (0, ((n : Nat) : Int)), (0, ((m : Nat) : Int)), (0, x3), (0, ((k : Nat) : Int))]) (st' := [(0, ((n : Nat) : Int)), (2, 132), (0, w 131 k)]) (w' := w) (n' := 142) rfl ?_
          refine qG.ar (P := 0 ≤ ((n : Nat) : Int) ∧ ((n : Nat) : Int) < ((60 : Nat) : Int)) (P2 := 0 < (132 : Int) ∧ (132 : Int) ≤ ((142 : Nat) : Int)) (pc' := 64) (ls' := [(2, 95), (0, ((n : Nat) : Int)), (0, ((m : Nat) : Int)), (0, x3), (0, ((k : Nat) : Int))]) (st' := [(0, w 132 n), (0, w 131 k)]) (w' := w) (n' := 142) rfl (by omega) (by decide) ?_
          refine qG.br (P := w 131 k = w 132 n) (pc1 := 70) (pc2 := 67) (st1 := []) rfl (fun hq2 => ?_) (fun hq2 => ?_)
          · skip
            refine qG.blk 2 (pc' := 74) (ls' := [(2, 95), (0, ((n : Nat) : Int)), (0, ((m : Nat) : Int)), (0, x3), (0, ((k : Nat) : Int))]) (st' := [(2, w 95 63)]) (w' := w) (n' := 142) rfl ?_
            rw [show w 95 63 = 130 from zref hI rfl rfl]
            refine qG.blk 1 (pc' := 76) (ls' := [(2, 95), (0, ((n : Nat) : Int)), (0, ((m : Nat) : Int)), (0, x3), (0, ((k : Nat) : Int))]) (st' := [(0, ((k : Nat) : Int)), (2, 130)]) (w' := w) (n' := 142) rfl ?_
            refine qG.ild (m := 200) rfl rfl (by omega) (by decide) ?_
            show qG none (d + 1) 284 77 [(2, 95), (0, ((n : Nat) : Int)), (0, ((m : Nat) : Int)), (0, x3), (0, ((k : Nat) : Int))] [(0, w 130 k)] w 142 Q9
            refine qG.blk 2 (pc' := 81) (ls' := [(2, 95), (0, ((n : Nat) : Int)), (0, ((m : Nat) : Int)), (0, x3), (0, ((k : Nat) : Int))]) (st' := [(2, w 95 66), (0, w 130 k)]) (w' := w) (n' := 142) rfl ?_
            rw [show w 95 66 = 133 from zref hI rfl rfl]
            refine qG.blk 1 (pc' := 82) (ls' := [(2, 95), (0, ((n : Nat) : Int)), (0, ((m : Nat) : Int)), (0, x3), (0, ((k : Nat) : Int))]) (st' := [(0, ((n : Nat) : Int)), (2, 133), (0, w 130 k)]) (w' := w) (n' := 142) rfl ?_
            refine qG.ar (P := 0 ≤ ((n : Nat) : Int) ∧ ((n : Nat) : Int) < ((60 : Nat) : Int)) (P2 := 0 < (133 : Int) ∧ (133 : Int) ≤ ((142 : Nat) : Int)) (pc' := 83) (ls' := [(2, 95), (0, ((n : Nat) : Int)), (0, ((m : Nat) : Int)), (0, x3), (0, ((k : Nat) : Int))]) (st' := [(0, w 133 n), (0, w 130 k)]) (w' := w) (n' := 142) rfl (by omega) (by decide) ?_
            refine qG.br (P := w 130 k = w 133 n) (pc1 := 86) (pc2 := 88) (st1 := []) rfl (fun hq3 => ?_) (fun hq3 => ?_)
            · skip
              refine qG.blk 1 (pc' := 87) (ls' := [(2, 95), (0, ((n : Nat) : Int)), (0, ((m : Nat) : Int)), (0, x3), (0, ((k : Nat) : Int))]) (st' := [(0, 1)]) (w' := w) (n' := 142) rfl ?_
              refine qG.ret rfl (by first | rfl | exact decide_eq_true (by omega)) ?_
              subst hQ9
              refine ⟨?_, rfl, rfl⟩; first | exact .inr ⟨fun z => hy0 z.1, rfl⟩ | exact .inl ⟨⟨hy0, .inr ⟨k, by omega, hq1, hq2, hq3⟩⟩, rfl⟩ | exact .inl ⟨⟨hy0, .inl (fun i hi z1 => hI31.2.2.2.2 (by omega) i (by omega) z1)⟩, rfl⟩ | exact .inr ⟨fun z => (by obtain ⟨i, hi, i1, i2⟩ := hI31.2.2.2.1 (by omega); rcases z.2 with z | ⟨j, j1, j2, j3, j4⟩; exact z i (by omega) i1 i2; exact hI31.2.2.1 j (by omega) j2 j3 j4), rfl⟩
            · skip
              refine qG.blk 3 (pc' := 93) (ls' := [(2, 95), (0, ((n : Nat) : Int)), (0, ((m : Nat) : Int)), (0, 1), (0, wrp (((k : Nat) : Int) + 1))]) (st' := []) (w' := w) (n' := 142) rfl ?_
              rw [show wrp (((k : Nat) : Int) + 1) = ((k + 1 : Nat) : Int) from wrp_id (by omega) (by omega)]
              refine qG.blk 1 (pc' := 31) (ls' := [(2, 95), (0, ((n : Nat) : Int)), (0, ((m : Nat) : Int)), (0, 1), (0, ((k + 1 : Nat) : Int))]) (st' := []) (w' := w) (n' := 142) rfl ?_
              exact ih31 _ (by omega) (k + 1) (1) rfl (⟨by omega, .inr rfl, fun i hi z1 z2 => (by by_cases e : i = k; (subst e; exact hq3); exact hI31.2.2.1 i (by omega) z1 z2), fun _ => ⟨k, by omega, hq1, hq2⟩, fun z => absurd z (by decide)⟩)
          · skip
            refine qG.blk 2 (pc' := 93) (ls' := [(2, 95), (0, ((n : Nat) : Int)), (0, ((m : Nat) : Int)), (0, x3), (0, wrp (((k : Nat) : Int) + 1))]) (st' := []) (w' := w) (n' := 142) rfl ?_
            rw [show wrp (((k : Nat) : Int) + 1) = ((k + 1 : Nat) : Int) from wrp_id (by omega) (by omega)]
            refine qG.blk 1 (pc' := 31) (ls' := [(2, 95), (0, ((n : Nat) : Int)), (0, ((m : Nat) : Int)), (0, x3), (0, ((k + 1 : Nat) : Int))]) (st' := []) (w' := w) (n' := 142) rfl ?_
            exact ih31 _ (by omega) (k + 1) (x3) rfl (⟨by omega, hI31.2.1, fun i hi z1 z2 => (by by_cases e : i = k; (subst e; first | exact absurd z1 hq1 | exact absurd z2 hq2); exact hI31.2.2.1 i (by omega) z1 z2), fun z => (by obtain ⟨i, hi, z⟩ := hI31.2.2.2.1 z; exact ⟨i, by omega, z⟩), fun z i hi z1 z2 => (by by_cases e : i = k; (subst e; first | exact hq1 z1 | exact hq2 z2); exact hI31.2.2.2.2 z i (by omega) z1 z2)⟩)
        · skip
          refine qG.blk 1 (pc' := 93) (ls' := [(2, 95), (0, ((n : Nat) : Int)), (0, ((m : Nat) : Int)), (0, x3), (0, wrp (((k : Nat) : Int) + 1))]) (st' := []) (w' := w) (n' := 142) rfl ?_
          rw [show wrp (((k : Nat) : Int) + 1) = ((k + 1 : Nat) : Int) from wrp_id (by omega) (by omega)]
          refine qG.blk 1 (pc' := 31) (ls' := [(2, 95), (0, ((n : Nat) : Int)), (0, ((m : Nat) : Int)), (0, x3), (0, ((k + 1 : Nat) : Int))]) (st' := []) (w' := w) (n' := 142) rfl ?_
          exact ih31 _ (by omega) (k + 1) (x3) rfl (⟨by omega, hI31.2.1, fun i hi z1 z2 => (by by_cases e : i = k; (subst e; first | exact absurd z1 hq1 | exact absurd z2 hq2); exact hI31.2.2.1 i (by omega) z1 z2), fun z => (by obtain ⟨i, hi, z⟩ := hI31.2.2.2.1 z; exact ⟨i, by omega, z⟩), fun z i hi z1 z2 => (by by_cases e : i = k; (subst e; first | exact hq1 z1 | exact hq2 z2); exact hI31.2.2.2.2 z i (by omega) z1 z2)⟩)
      · skip
        refine qG.blk 1 (pc' := 97) (ls' := [(2, 95), (0, ((n : Nat) : Int)), (0, ((m : Nat) : Int)), (0, x3), (0, ((k : Nat) : Int))]) (st' := [(0, x3)]) (w' := w) (n' := 142) rfl ?_
        refine qG.br (P := x3 = 0) (pc1 := 100) (pc2 := 104) (st1 := []) rfl (fun hx => ?_) (fun hx => ?_)
        · skip
          refine qG.blk 2 (pc' := 105) (ls' := [(2, 95), (0, ((n : Nat) : Int)), (0, ((m : Nat) : Int)), (0, x3), (0, ((k : Nat) : Int))]) (st' := [(0, 1)]) (w' := w) (n' := 142) rfl ?_
          refine qG.ret rfl (by first | rfl | exact decide_eq_true (by omega)) ?_
          subst hQ9
          refine ⟨?_, rfl, rfl⟩; first | exact .inr ⟨fun z => hy0 z.1, rfl⟩ | exact .inl ⟨⟨hy0, .inr ⟨k, by omega, hq1, hq2, hq3⟩⟩, rfl⟩ | exact .inl ⟨⟨hy0, .inl (fun i hi z1 => hI31.2.2.2.2 (by omega) i (by omega) z1)⟩, rfl⟩ | exact .inr ⟨fun z => (by obtain ⟨i, hi, i1, i2⟩ := hI31.2.2.2.1 (by omega); rcases z.2 with z | ⟨j, j1, j2, j3, j4⟩; exact z i (by omega) i1 i2; exact hI31.2.2.1 j (by omega) j2 j3 j4), rfl⟩
        · skip
          refine qG.blk 1 (pc' := 105) (ls' := [(2, 95), (0, ((n : Nat) : Int)), (0, ((m : Nat) : Int)), (0, x3), (0, ((k : Nat) : Int))]) (st' := [(0, 0)]) (w' := w) (n' := 142) rfl ?_
          refine qG.ret rfl (by first | rfl | exact decide_eq_true (by omega)) ?_
          subst hQ9
          refine ⟨?_, rfl, rfl⟩; first | exact .inr ⟨fun z => hy0 z.1, rfl⟩ | exact .inl ⟨⟨hy0, .inr ⟨k, by omega, hq1, hq2, hq3⟩⟩, rfl⟩ | exact .inl ⟨⟨hy0, .inl (fun i hi z1 => hI31.2.2.2.2 (by omega) i (by omega) z1)⟩, rfl⟩ | exact .inr ⟨fun z => (by obtain ⟨i, hi, i1, i2⟩ := hI31.2.2.2.1 (by omega); rcases z.2 with z | ⟨j, j1, j2, j3, j4⟩; exact z i (by omega) i1 i2; exact hI31.2.2.1 j (by omega) j2 j3 j4), rfl⟩
    exact L31 _ (0) (0) rfl (⟨by omega, .inl rfl, fun i hi => absurd hi (Nat.not_lt_zero i), fun z => absurd z (by decide), fun _ i hi => absurd hi (Nat.not_lt_zero i)⟩)
theorem K_weight {d : Nat} (hd : 2 ≤ d) (n m M N : Nat) (w : qW) (hI : yInv zgf zga zra zSp w) (hM : w 95 55 = (M : Int)) (hN : w 95 57 = (N : Int)) (hm : m < M) (hn : n < N)  : qG none d 285 0 [(2, 95), (0, ((n : Nat) : Int)), (0, ((m : Nat) : Int)), (9, 0), (9, 0)] [] w 142 (fun (r : qV) (w1 : qW) (n1 : Nat) => r = (0, wgV w n m) ∧ w1 = w ∧ n1 = 142) := by
  generalize hQ9 : (fun (r : qV) (w1 : qW) (n1 : Nat) => r = (0, wgV w n m) ∧ w1 = w ∧ n1 = 142) = Q9
  have hR := rgN_of hI
  have h55 := zfld hI (j := 55) (b := (0, 12)) rfl
  have b55 : w 95 55 ≤ (12 : Int) := h55.2
  have h57 := zfld hI (j := 57) (b := (0, 60)) rfl
  have b57 : w 95 57 ≤ (60 : Int) := h57.2
  have hgw := gw_in hR n m
  have hha := haV_in hR n m
  have hp9 := mul_9 hgw.1 hgw.2 hha.1 hha.2
  have q125 := hR.1 m
  have q134 := hR.2.2.2.2.2.2.1 n
  have q135 := hR.2.2.2.2.2.2.2.1 n
  have q136 := hR.2.2.2.2.2.2.2.2.1 n
  have hc := adV_c (w 125 m - w 134 n)
  obtain ⟨d9, hd9⟩ : ∃ z : Int, w 125 m - w 134 n = z := ⟨_, rfl⟩
  obtain ⟨d, rfl⟩ : ∃ d9, d = d9 + 1 := ⟨d - 1, by omega⟩
  refine qG.blk 3 (pc' := 3) (ls' := [(2, 95), (0, ((n : Nat) : Int)), (0, ((m : Nat) : Int)), (9, 0), (9, 0)]) (st' := [(0, ((m : Nat) : Int)), (0, ((n : Nat) : Int)), (2, 95)]) (w' := w) (n' := 142) rfl ?_
  refine qG.call (t := 284) (na := 3) (sk := 1) (md := 1) (ls1 := [(2, 95), (0, ((n : Nat) : Int)), (0, ((m : Nat) : Int)), (9, 0), (9, 0)]) (r1 := []) rfl rfl rfl rfl rfl (K_mayBe (by omega) n m M N w hI hM hN hm hn) ?_
  rintro ⟨_, x9⟩ w7 _ ⟨⟨hmy, hx9⟩ | ⟨hmn, hx9⟩, hw7, rfl⟩ <;> obtain ⟨rfl, rfl⟩ := Prod.mk.inj hx9 <;> rw [hw7]
  · skip
    show qG none (d + 1) 285 6 [(2, 95), (0, ((n : Nat) : Int)), (0, ((m : Nat) : Int)), (9, 0), (9, 0)] [(0, 1)] w 142 Q9
    refine qG.br (P := (1 : Int) = 0) (pc1 := 9) (pc2 := 11) (st1 := []) rfl (fun h1 => ?_) (fun h1 => ?_)
    · exact absurd h1 (by decide)
    · skip
      refine qG.blk 2 (pc' := 15) (ls' := [(2, 95), (0, ((n : Nat) : Int)), (0, ((m : Nat) : Int)), (9, 0), (9, 0)]) (st' := [(2, w 95 58)]) (w' := w) (n' := 142) rfl ?_
      rw [show w 95 58 = 125 from zref hI rfl rfl]
      refine qG.blk 1 (pc' := 16) (ls' := [(2, 95), (0, ((n : Nat) : Int)), (0, ((m : Nat) : Int)), (9, 0), (9, 0)]) (st' := [(0, ((m : Nat) : Int)), (2, 125)]) (w' := w) (n' := 142) rfl ?_
      refine qG.ar (P := 0 ≤ ((m : Nat) : Int) ∧ ((m : Nat) : Int) < ((12 : Nat) : Int)) (P2 := 0 < (125 : Int) ∧ (125 : Int) ≤ ((142 : Nat) : Int)) (pc' := 17) (ls' := [(2, 95), (0, ((n : Nat) : Int)), (0, ((m : Nat) : Int)), (9, 0), (9, 0)]) (st' := [(0, w 125 m)]) (w' := w) (n' := 142) rfl (by omega) (by decide) ?_
      refine qG.blk 2 (pc' := 21) (ls' := [(2, 95), (0, ((n : Nat) : Int)), (0, ((m : Nat) : Int)), (9, 0), (9, 0)]) (st' := [(2, w 95 67), (0, w 125 m)]) (w' := w) (n' := 142) rfl ?_
      rw [show w 95 67 = 134 from zref hI rfl rfl]
      refine qG.blk 1 (pc' := 22) (ls' := [(2, 95), (0, ((n : Nat) : Int)), (0, ((m : Nat) : Int)), (9, 0), (9, 0)]) (st' := [(0, ((n : Nat) : Int)), (2, 134), (0, w 125 m)]) (w' := w) (n' := 142) rfl ?_
      refine qG.ar (P := 0 ≤ ((n : Nat) : Int) ∧ ((n : Nat) : Int) < ((60 : Nat) : Int)) (P2 := 0 < (134 : Int) ∧ (134 : Int) ≤ ((142 : Nat) : Int)) (pc' := 23) (ls' := [(2, 95), (0, ((n : Nat) : Int)), (0, ((m : Nat) : Int)), (9, 0), (9, 0)]) (st' := [(0, w 134 n), (0, w 125 m)]) (w' := w) (n' := 142) rfl (by omega) (by decide) ?_
      refine qG.blk 1 (pc' := 24) (ls' := [(2, 95), (0, ((n : Nat) : Int)), (0, ((m : Nat) : Int)), (9, 0), (9, 0)]) (st' := [(0, wrp ((w 125 m) - (w 134 n)))]) (w' := w) (n' := 142) rfl ?_
      rw [show wrp ((w 125 m) - (w 134 n)) = d9 from by rw [wrp_id (by omega) (by omega)]; exact hd9]
      refine qG.blk 3 (pc' := 29) (ls' := [(2, 95), (0, ((n : Nat) : Int)), (0, ((m : Nat) : Int)), (0, d9), (9, 0)]) (st' := [(2, w 95 68)]) (w' := w) (n' := 142) rfl ?_
      rw [show w 95 68 = 135 from zref hI rfl rfl]
      refine qG.blk 1 (pc' := 30) (ls' := [(2, 95), (0, ((n : Nat) : Int)), (0, ((m : Nat) : Int)), (0, d9), (9, 0)]) (st' := [(0, ((n : Nat) : Int)), (2, 135)]) (w' := w) (n' := 142) rfl ?_
      refine qG.ar (P := 0 ≤ ((n : Nat) : Int) ∧ ((n : Nat) : Int) < ((60 : Nat) : Int)) (P2 := 0 < (135 : Int) ∧ (135 : Int) ≤ ((142 : Nat) : Int)) (pc' := 31) (ls' := [(2, 95), (0, ((n : Nat) : Int)), (0, ((m : Nat) : Int)), (0, d9), (9, 0)]) (st' := [(0, w 135 n)]) (w' := w) (n' := 142) rfl (by omega) (by decide) ?_
      refine qG.blk 1 (pc' := 32) (ls' := [(2, 95), (0, ((n : Nat) : Int)), (0, ((m : Nat) : Int)), (0, d9), (9, 0)]) (st' := [(0, 2), (0, w 135 n)]) (w' := w) (n' := 142) rfl ?_
      refine qG.br (P := w 135 n = 2) (pc1 := 35) (pc2 := 42) (st1 := []) rfl (fun he2 => ?_) (fun he2 => ?_)
      · skip
        refine qG.blk 3 (pc' := 39) (ls' := [(2, 95), (0, ((n : Nat) : Int)), (0, ((m : Nat) : Int)), (0, d9), (9, 0)]) (st' := [(0, wrp (50 + d9))]) (w' := w) (n' := 142) rfl ?_
        rw [show wrp (50 + d9) = 50 + d9 from wrp_id (by omega) (by omega)]
        refine qG.blk 4 (pc' := 78) (ls' := [(2, 95), (0, ((n : Nat) : Int)), (0, ((m : Nat) : Int)), (0, d9), (0, 50 + d9)]) (st' := [(0, 1), (0, 50 + d9)]) (w' := w) (n' := 142) rfl ?_
        refine qG.br (P := 50 + d9 < 1) (pc1 := 81) (pc2 := 85) (st1 := []) rfl (fun hv1 => ?_) (fun hv1 => ?_)
        · skip
          refine qG.blk 3 (pc' := 111) (ls' := [(2, 95), (0, ((n : Nat) : Int)), (0, ((m : Nat) : Int)), (0, d9), (0, 1)]) (st' := []) (w' := w) (n' := 142) rfl ?_
          have egw : (1 : Int) = gwV (w 125 m - w 134 n) (w 135 n) := (by rw [hd9]; rw [hd9] at hc; unfold gwV; (repeat' split) <;> omega)
          rw [egw]
          refine qG.blk 3 (pc' := 117) (ls' := [(2, 95), (0, ((n : Nat) : Int)), (0, ((m : Nat) : Int)), (0, d9), (0, gwV (w 125 m - w 134 n) (w 135 n))]) (st' := [(2, w 95 69), (0, gwV (w 125 m - w 134 n) (w 135 n))]) (w' := w) (n' := 142) rfl ?_
          rw [show w 95 69 = 136 from zref hI rfl rfl]
          refine qG.blk 1 (pc' := 118) (ls' := [(2, 95), (0, ((n : Nat) : Int)), (0, ((m : Nat) : Int)), (0, d9), (0, gwV (w 125 m - w 134 n) (w 135 n))]) (st' := [(0, ((n : Nat) : Int)), (2, 136), (0, gwV (w 125 m - w 134 n) (w 135 n))]) (w' := w) (n' := 142) rfl ?_
          refine qG.ar (P := 0 ≤ ((n : Nat) : Int) ∧ ((n : Nat) : Int) < ((60 : Nat) : Int)) (P2 := 0 < (136 : Int) ∧ (136 : Int) ≤ ((142 : Nat) : Int)) (pc' := 119) (ls' := [(2, 95), (0, ((n : Nat) : Int)), (0, ((m : Nat) : Int)), (0, d9), (0, gwV (w 125 m - w 134 n) (w 135 n))]) (st' := [(0, w 136 n), (0, gwV (w 125 m - w 134 n) (w 135 n))]) (w' := w) (n' := 142) rfl (by omega) (by decide) ?_
          refine qG.blk 1 (pc' := 120) (ls' := [(2, 95), (0, ((n : Nat) : Int)), (0, ((m : Nat) : Int)), (0, d9), (0, gwV (w 125 m - w 134 n) (w 135 n))]) (st' := [(0, (-1)), (0, w 136 n), (0, gwV (w 125 m - w 134 n) (w 135 n))]) (w' := w) (n' := 142) rfl ?_
          refine qG.br (P := w 136 n = (-1)) (pc1 := 123) (pc2 := 127) (st1 := [(0, gwV (w 125 m - w 134 n) (w 135 n))]) rfl (fun ha1 => ?_) (fun ha1 => ?_)
          · skip
            refine qG.blk 3 (pc' := 143) (ls' := [(2, 95), (0, ((n : Nat) : Int)), (0, ((m : Nat) : Int)), (0, d9), (0, gwV (w 125 m - w 134 n) (w 135 n))]) (st' := [(0, wrp ((gwV (w 125 m - w 134 n) (w 135 n)) * 1))]) (w' := w) (n' := 142) rfl ?_
            rw [show wrp ((gwV (w 125 m - w 134 n) (w 135 n)) * 1) = (gwV (w 125 m - w 134 n) (w 135 n)) * 1 from wrp_id (by omega) (by omega)]
            refine qG.ret rfl rfl ?_
            subst hQ9
            exact ⟨congrArg (Prod.mk (0 : Nat)) (by first | exact (wg_n hmn).symm | (rw [wg_y hmy, hha2]; done) | (rw [wg_y hmy, show haV w n m = 1 from if_pos ha1]; done)), rfl, rfl⟩
          · skip
            obtain ⟨a9, ha9⟩ : ∃ q : Nat, w 136 n = (q : Int) := ⟨(w 136 n).toNat, by omega⟩
            have hha2 : haV w n m = w 128 (m * 3 + a9) := (by unfold haV; rw [if_neg (by omega), ha9, Int.toNat_natCast])
            rw [hha2] at hp9
            refine qG.blk 2 (pc' := 131) (ls' := [(2, 95), (0, ((n : Nat) : Int)), (0, ((m : Nat) : Int)), (0, d9), (0, gwV (w 125 m - w 134 n) (w 135 n))]) (st' := [(2, w 95 61), (0, gwV (w 125 m - w 134 n) (w 135 n))]) (w' := w) (n' := 142) rfl ?_
            rw [show w 95 61 = 128 from zref hI rfl rfl]
            refine qG.blk 3 (pc' := 134) (ls' := [(2, 95), (0, ((n : Nat) : Int)), (0, ((m : Nat) : Int)), (0, d9), (0, gwV (w 125 m - w 134 n) (w 135 n))]) (st' := [(0, wrp (3 * ((m : Nat) : Int))), (2, 128), (0, gwV (w 125 m - w 134 n) (w 135 n))]) (w' := w) (n' := 142) rfl ?_
            rw [show wrp (3 * ((m : Nat) : Int)) = ((3 * m : Nat) : Int) from by rw [wrp_id (by omega) (by omega)]; omega]
            refine qG.blk 2 (pc' := 138) (ls' := [(2, 95), (0, ((n : Nat) : Int)), (0, ((m : Nat) : Int)), (0, d9), (0, gwV (w 125 m - w 134 n) (w 135 n))]) (st' := [(2, w 95 69), (0, ((3 * m : Nat) : Int)), (2, 128), (0, gwV (w 125 m - w 134 n) (w 135 n))]) (w' := w) (n' := 142) rfl ?_
            rw [show w 95 69 = 136 from zref hI rfl rfl]
            refine qG.blk 1 (pc' := 139) (ls' := [(2, 95), (0, ((n : Nat) : Int)), (0, ((m : Nat) : Int)), (0, d9), (0, gwV (w 125 m - w 134 n) (w 135 n))]) (st' := [(0, ((n : Nat) : Int)), (2, 136), (0, ((3 * m : Nat) : Int)), (2, 128), (0, gwV (w 125 m - w 134 n) (w 135 n))]) (w' := w) (n' := 142) rfl ?_
            refine qG.ar (P := 0 ≤ ((n : Nat) : Int) ∧ ((n : Nat) : Int) < ((60 : Nat) : Int)) (P2 := 0 < (136 : Int) ∧ (136 : Int) ≤ ((142 : Nat) : Int)) (pc' := 140) (ls' := [(2, 95), (0, ((n : Nat) : Int)), (0, ((m : Nat) : Int)), (0, d9), (0, gwV (w 125 m - w 134 n) (w 135 n))]) (st' := [(0, w 136 n), (0, ((3 * m : Nat) : Int)), (2, 128), (0, gwV (w 125 m - w 134 n) (w 135 n))]) (w' := w) (n' := 142) rfl (by omega) (by decide) ?_
            refine qG.blk 1 (pc' := 141) (ls' := [(2, 95), (0, ((n : Nat) : Int)), (0, ((m : Nat) : Int)), (0, d9), (0, gwV (w 125 m - w 134 n) (w 135 n))]) (st' := [(0, wrp (((3 * m : Nat) : Int) + (w 136 n))), (2, 128), (0, gwV (w 125 m - w 134 n) (w 135 n))]) (w' := w) (n' := 142) rfl ?_
            rw [show wrp (((3 * m : Nat) : Int) + (w 136 n)) = ((m * 3 + a9 : Nat) : Int) from by rw [ha9, wrp_id (by omega) (by omega)]; omega]
            refine qG.ar (P := 0 ≤ ((m * 3 + a9 : Nat) : Int) ∧ ((m * 3 + a9 : Nat) : Int) < ((36 : Nat) : Int)) (P2 := 0 < (128 : Int) ∧ (128 : Int) ≤ ((142 : Nat) : Int)) (pc' := 142) (ls' := [(2, 95), (0, ((n : Nat) : Int)), (0, ((m : Nat) : Int)), (0, d9), (0, gwV (w 125 m - w 134 n) (w 135 n))]) (st' := [(0, w 128 (m * 3 + a9)), (0, gwV (w 125 m - w 134 n) (w 135 n))]) (w' := w) (n' := 142) rfl (by omega) (by decide) ?_
            refine qG.blk 1 (pc' := 143) (ls' := [(2, 95), (0, ((n : Nat) : Int)), (0, ((m : Nat) : Int)), (0, d9), (0, gwV (w 125 m - w 134 n) (w 135 n))]) (st' := [(0, wrp ((gwV (w 125 m - w 134 n) (w 135 n)) * (w 128 (m * 3 + a9))))]) (w' := w) (n' := 142) rfl ?_
            rw [show wrp ((gwV (w 125 m - w 134 n) (w 135 n)) * (w 128 (m * 3 + a9))) = (gwV (w 125 m - w 134 n) (w 135 n)) * (w 128 (m * 3 + a9)) from wrp_id (by omega) (by omega)]
            refine qG.ret rfl rfl ?_
            subst hQ9
            exact ⟨congrArg (Prod.mk (0 : Nat)) (by first | exact (wg_n hmn).symm | (rw [wg_y hmy, hha2]; done) | (rw [wg_y hmy, show haV w n m = 1 from if_pos ha1]; done)), rfl, rfl⟩
        · skip
          refine qG.blk 2 (pc' := 89) (ls' := [(2, 95), (0, ((n : Nat) : Int)), (0, ((m : Nat) : Int)), (0, d9), (0, 50 + d9)]) (st' := [(2, w 95 68)]) (w' := w) (n' := 142) rfl ?_
          rw [show w 95 68 = 135 from zref hI rfl rfl]
          refine qG.blk 1 (pc' := 90) (ls' := [(2, 95), (0, ((n : Nat) : Int)), (0, ((m : Nat) : Int)), (0, d9), (0, 50 + d9)]) (st' := [(0, ((n : Nat) : Int)), (2, 135)]) (w' := w) (n' := 142) rfl ?_
          refine qG.ar (P := 0 ≤ ((n : Nat) : Int) ∧ ((n : Nat) : Int) < ((60 : Nat) : Int)) (P2 := 0 < (135 : Int) ∧ (135 : Int) ≤ ((142 : Nat) : Int)) (pc' := 91) (ls' := [(2, 95), (0, ((n : Nat) : Int)), (0, ((m : Nat) : Int)), (0, d9), (0, 50 + d9)]) (st' := [(0, w 135 n)]) (w' := w) (n' := 142) rfl (by omega) (by decide) ?_
          refine qG.blk 1 (pc' := 92) (ls' := [(2, 95), (0, ((n : Nat) : Int)), (0, ((m : Nat) : Int)), (0, d9), (0, 50 + d9)]) (st' := [(0, 1), (0, w 135 n)]) (w' := w) (n' := 142) rfl ?_
          refine qG.br (P := w 135 n = 1) (pc1 := 107) (pc2 := 95) (st1 := []) rfl (fun he1 => ?_) (fun he1 => ?_)
          · skip
            refine qG.blk 2 (pc' := 111) (ls' := [(2, 95), (0, ((n : Nat) : Int)), (0, ((m : Nat) : Int)), (0, d9), (0, 50 + d9)]) (st' := []) (w' := w) (n' := 142) rfl ?_
            have egw : (50 + d9 : Int) = gwV (w 125 m - w 134 n) (w 135 n) := (by rw [hd9]; rw [hd9] at hc; unfold gwV; (repeat' split) <;> omega)
            rw [egw]
            refine qG.blk 3 (pc' := 117) (ls' := [(2, 95), (0, ((n : Nat) : Int)), (0, ((m : Nat) : Int)), (0, d9), (0, gwV (w 125 m - w 134 n) (w 135 n))]) (st' := [(2, w 95 69), (0, gwV (w 125 m - w 134 n) (w 135 n))]) (w' := w) (n' := 142) rfl ?_
            rw [show w 95 69 = 136 from zref hI rfl rfl]
            refine qG.blk 1 (pc' := 118) (ls' := [(2, 95), (0, ((n : Nat) : Int)), (0, ((m : Nat) : Int)), (0, d9), (0, gwV (w 125 m - w 134 n) (w 135 n))]) (st' := [(0, ((n : Nat) : Int)), (2, 136), (0, gwV (w 125 m - w 134 n) (w 135 n))]) (w' := w) (n' := 142) rfl ?_
            refine qG.ar (P := 0 ≤ ((n : Nat) : Int) ∧ ((n : Nat) : Int) < ((60 : Nat) : Int)) (P2 := 0 < (136 : Int) ∧ (136 : Int) ≤ ((142 : Nat) : Int)) (pc' := 119) (ls' := [(2, 95), (0, ((n : Nat) : Int)), (0, ((m : Nat) : Int)), (0, d9), (0, gwV (w 125 m - w 134 n) (w 135 n))]) (st' := [(0, w 136 n), (0, gwV (w 125 m - w 134 n) (w 135 n))]) (w' := w) (n' := 142) rfl (by omega) (by decide) ?_
            refine qG.blk 1 (pc' := 120) (ls' := [(2, 95), (0, ((n : Nat) : Int)), (0, ((m : Nat) : Int)), (0, d9), (0, gwV (w 125 m - w 134 n) (w 135 n))]) (st' := [(0, (-1)), (0, w 136 n), (0, gwV (w 125 m - w 134 n) (w 135 n))]) (w' := w) (n' := 142) rfl ?_
            refine qG.br (P := w 136 n = (-1)) (pc1 := 123) (pc2 := 127) (st1 := [(0, gwV (w 125 m - w 134 n) (w 135 n))]) rfl (fun ha1 => ?_) (fun ha1 => ?_)
            · skip
              refine qG.blk 3 (pc' := 143) (ls' := [(2, 95), (0, ((n : Nat) : Int)), (0, ((m : Nat) : Int)), (0, d9), (0, gwV (w 125 m - w 134 n) (w 135 n))]) (st' := [(0, wrp ((gwV (w 125 m - w 134 n) (w 135 n)) * 1))]) (w' := w) (n' := 142) rfl ?_
              rw [show wrp ((gwV (w 125 m - w 134 n) (w 135 n)) * 1) = (gwV (w 125 m - w 134 n) (w 135 n)) * 1 from wrp_id (by omega) (by omega)]
              refine qG.ret rfl rfl ?_
              subst hQ9
              exact ⟨congrArg (Prod.mk (0 : Nat)) (by first | exact (wg_n hmn).symm | (rw [wg_y hmy, hha2]; done) | (rw [wg_y hmy, show haV w n m = 1 from if_pos ha1]; done)), rfl, rfl⟩
            · skip
              obtain ⟨a9, ha9⟩ : ∃ q : Nat, w 136 n = (q : Int) := ⟨(w 136 n).toNat, by omega⟩
              have hha2 : haV w n m = w 128 (m * 3 + a9) := (by unfold haV; rw [if_neg (by omega), ha9, Int.toNat_natCast])
              rw [hha2] at hp9
              refine qG.blk 2 (pc' := 131) (ls' := [(2, 95), (0, ((n : Nat) : Int)), (0, ((m : Nat) : Int)), (0, d9), (0, gwV (w 125 m - w 134 n) (w 135 n))]) (st' := [(2, w 95 61), (0, gwV (w 125 m - w 134 n) (w 135 n))]) (w' := w) (n' := 142) rfl ?_
              rw [show w 95 61 = 128 from zref hI rfl rfl]
              refine qG.blk 3 (pc' := 134) (ls' := [(2, 95), (0, ((n : Nat) : Int)), (0, ((m : Nat) : Int)), (0, d9), (0, gwV (w 125 m - w 134 n) (w 135 n))]) (st' := [(0, wrp (3 * ((m : Nat) : Int))), (2, 128), (0, gwV (w 125 m - w 134 n) (w 135 n))]) (w' := w) (n' := 142) rfl ?_
              rw [show wrp (3 * ((m : Nat) : Int)) = ((3 * m : Nat) : Int) from by rw [wrp_id (by omega) (by omega)]; omega]
              refine qG.blk 2 (pc' := 138) (ls' := [(2, 95), (0, ((n : Nat) : Int)), (0, ((m : Nat) : Int)), (0, d9), (0, gwV (w 125 m - w 134 n) (w 135 n))]) (st' := [(2, w 95 69), (0, ((3 * m : Nat) : Int)), (2, 128), (0, gwV (w 125 m - w 134 n) (w 135 n))]) (w' := w) (n' := 142) rfl ?_
              rw [show w 95 69 = 136 from zref hI rfl rfl]
              refine qG.blk 1 (pc' := 139) (ls' := [(2, 95), (0, ((n : Nat) : Int)), (0, ((m : Nat) : Int)), (0, d9), (0, gwV (w 125 m - w 134 n) (w 135 n))]) (st' := [(0, ((n : Nat) : Int)), (2, 136), (0, ((3 * m : Nat) : Int)), (2, 128), (0, gwV (w 125 m - w 134 n) (w 135 n))]) (w' := w) (n' := 142) rfl ?_
              refine qG.ar (P := 0 ≤ ((n : Nat) : Int) ∧ ((n : Nat) : Int) < ((60 : Nat) : Int)) (P2 := 0 < (136 : Int) ∧ (136 : Int) ≤ ((142 : Nat) : Int)) (pc' := 140) (ls' := [(2, 95), (0, ((n : Nat) : Int)), (0, ((m : Nat) : Int)), (0, d9), (0, gwV (w 125 m - w 134 n) (w 135 n))]) (st' := [(0, w 136 n), (0, ((3 * m : Nat) : Int)), (2, 128), (0, gwV (w 125 m - w 134 n) (w 135 n))]) (w' := w) (n' := 142) rfl (by omega) (by decide) ?_
              refine qG.blk 1 (pc' := 141) (ls' := [(2, 95), (0, ((n : Nat) : Int)), (0, ((m : Nat) : Int)), (0, d9), (0, gwV (w 125 m - w 134 n) (w 135 n))]) (st' := [(0, wrp (((3 * m : Nat) : Int) + (w 136 n))), (2, 128), (0, gwV (w 125 m - w 134 n) (w 135 n))]) (w' := w) (n' := 142) rfl ?_
              rw [show wrp (((3 * m : Nat) : Int) + (w 136 n)) = ((m * 3 + a9 : Nat) : Int) from by rw [ha9, wrp_id (by omega) (by omega)]; omega]
              refine qG.ar (P := 0 ≤ ((m * 3 + a9 : Nat) : Int) ∧ ((m * 3 + a9 : Nat) : Int) < ((36 : Nat) : Int)) (P2 := 0 < (128 : Int) ∧ (128 : Int) ≤ ((142 : Nat) : Int)) (pc' := 142) (ls' := [(2, 95), (0, ((n : Nat) : Int)), (0, ((m : Nat) : Int)), (0, d9), (0, gwV (w 125 m - w 134 n) (w 135 n))]) (st' := [(0, w 128 (m * 3 + a9)), (0, gwV (w 125 m - w 134 n) (w 135 n))]) (w' := w) (n' := 142) rfl (by omega) (by decide) ?_
              refine qG.blk 1 (pc' := 143) (ls' := [(2, 95), (0, ((n : Nat) : Int)), (0, ((m : Nat) : Int)), (0, d9), (0, gwV (w 125 m - w 134 n) (w 135 n))]) (st' := [(0, wrp ((gwV (w 125 m - w 134 n) (w 135 n)) * (w 128 (m * 3 + a9))))]) (w' := w) (n' := 142) rfl ?_
              rw [show wrp ((gwV (w 125 m - w 134 n) (w 135 n)) * (w 128 (m * 3 + a9))) = (gwV (w 125 m - w 134 n) (w 135 n)) * (w 128 (m * 3 + a9)) from wrp_id (by omega) (by omega)]
              refine qG.ret rfl rfl ?_
              subst hQ9
              exact ⟨congrArg (Prod.mk (0 : Nat)) (by first | exact (wg_n hmn).symm | (rw [wg_y hmy, hha2]; done) | (rw [wg_y hmy, show haV w n m = 1 from if_pos ha1]; done)), rfl, rfl⟩
          · skip
            refine qG.blk 2 (pc' := 99) (ls' := [(2, 95), (0, ((n : Nat) : Int)), (0, ((m : Nat) : Int)), (0, d9), (0, 50 + d9)]) (st' := [(0, 99), (0, 50 + d9)]) (w' := w) (n' := 142) rfl ?_
            refine qG.br (P := 99 < 50 + d9) (pc1 := 102) (pc2 := 107) (st1 := []) rfl (fun hv9 => ?_) (fun hv9 => ?_)
            · skip
              refine qG.blk 3 (pc' := 111) (ls' := [(2, 95), (0, ((n : Nat) : Int)), (0, ((m : Nat) : Int)), (0, d9), (0, 99)]) (st' := []) (w' := w) (n' := 142) rfl ?_
              have egw : (99 : Int) = gwV (w 125 m - w 134 n) (w 135 n) := (by rw [hd9]; rw [hd9] at hc; unfold gwV; (repeat' split) <;> omega)
              rw [egw]
              refine qG.blk 3 (pc' := 117) (ls' := [(2, 95), (0, ((n : Nat) : Int)), (0, ((m : Nat) : Int)), (0, d9), (0, gwV (w 125 m - w 134 n) (w 135 n))]) (st' := [(2, w 95 69), (0, gwV (w 125 m - w 134 n) (w 135 n))]) (w' := w) (n' := 142) rfl ?_
              rw [show w 95 69 = 136 from zref hI rfl rfl]
              refine qG.blk 1 (pc' := 118) (ls' := [(2, 95), (0, ((n : Nat) : Int)), (0, ((m : Nat) : Int)), (0, d9), (0, gwV (w 125 m - w 134 n) (w 135 n))]) (st' := [(0, ((n : Nat) : Int)), (2, 136), (0, gwV (w 125 m - w 134 n) (w 135 n))]) (w' := w) (n' := 142) rfl ?_
              refine qG.ar (P := 0 ≤ ((n : Nat) : Int) ∧ ((n : Nat) : Int) < ((60 : Nat) : Int)) (P2 := 0 < (136 : Int) ∧ (136 : Int) ≤ ((142 : Nat) : Int)) (pc' := 119) (ls' := [(2, 95), (0, ((n : Nat) : Int)), (0, ((m : Nat) : Int)), (0, d9), (0, gwV (w 125 m - w 134 n) (w 135 n))]) (st' := [(0, w 136 n), (0, gwV (w 125 m - w 134 n) (w 135 n))]) (w' := w) (n' := 142) rfl (by omega) (by decide) ?_
              refine qG.blk 1 (pc' := 120) (ls' := [(2, 95), (0, ((n : Nat) : Int)), (0, ((m : Nat) : Int)), (0, d9), (0, gwV (w 125 m - w 134 n) (w 135 n))]) (st' := [(0, (-1)), (0, w 136 n), (0, gwV (w 125 m - w 134 n) (w 135 n))]) (w' := w) (n' := 142) rfl ?_
              refine qG.br (P := w 136 n = (-1)) (pc1 := 123) (pc2 := 127) (st1 := [(0, gwV (w 125 m - w 134 n) (w 135 n))]) rfl (fun ha1 => ?_) (fun ha1 => ?_)
              · skip
                refine qG.blk 3 (pc' := 143) (ls' := [(2, 95), (0, ((n : Nat) : Int)), (0, ((m : Nat) : Int)), (0, d9), (0, gwV (w 125 m - w 134 n) (w 135 n))]) (st' := [(0, wrp ((gwV (w 125 m - w 134 n) (w 135 n)) * 1))]) (w' := w) (n' := 142) rfl ?_
                rw [show wrp ((gwV (w 125 m - w 134 n) (w 135 n)) * 1) = (gwV (w 125 m - w 134 n) (w 135 n)) * 1 from wrp_id (by omega) (by omega)]
                refine qG.ret rfl rfl ?_
                subst hQ9
                exact ⟨congrArg (Prod.mk (0 : Nat)) (by first | exact (wg_n hmn).symm | (rw [wg_y hmy, hha2]; done) | (rw [wg_y hmy, show haV w n m = 1 from if_pos ha1]; done)), rfl, rfl⟩
              · skip
                obtain ⟨a9, ha9⟩ : ∃ q : Nat, w 136 n = (q : Int) := ⟨(w 136 n).toNat, by omega⟩
                have hha2 : haV w n m = w 128 (m * 3 + a9) := (by unfold haV; rw [if_neg (by omega), ha9, Int.toNat_natCast])
                rw [hha2] at hp9
                refine qG.blk 2 (pc' := 131) (ls' := [(2, 95), (0, ((n : Nat) : Int)), (0, ((m : Nat) : Int)), (0, d9), (0, gwV (w 125 m - w 134 n) (w 135 n))]) (st' := [(2, w 95 61), (0, gwV (w 125 m - w 134 n) (w 135 n))]) (w' := w) (n' := 142) rfl ?_
                rw [show w 95 61 = 128 from zref hI rfl rfl]
                refine qG.blk 3 (pc' := 134) (ls' := [(2, 95), (0, ((n : Nat) : Int)), (0, ((m : Nat) : Int)), (0, d9), (0, gwV (w 125 m - w 134 n) (w 135 n))]) (st' := [(0, wrp (3 * ((m : Nat) : Int))), (2, 128), (0, gwV (w 125 m - w 134 n) (w 135 n))]) (w' := w) (n' := 142) rfl ?_
                rw [show wrp (3 * ((m : Nat) : Int)) = ((3 * m : Nat) : Int) from by rw [wrp_id (by omega) (by omega)]; omega]
                refine qG.blk 2 (pc' := 138) (ls' := [(2, 95), (0, ((n : Nat) : Int)), (0, ((m : Nat) : Int)), (0, d9), (0, gwV (w 125 m - w 134 n) (w 135 n))]) (st' := [(2, w 95 69), (0, ((3 * m : Nat) : Int)), (2, 128), (0, gwV (w 125 m - w 134 n) (w 135 n))]) (w' := w) (n' := 142) rfl ?_
                rw [show w 95 69 = 136 from zref hI rfl rfl]
                refine qG.blk 1 (pc' := 139) (ls' := [(2, 95), (0, ((n : Nat) : Int)), (0, ((m : Nat) : Int)), (0, d9), (0, gwV (w 125 m - w 134 n) (w 135 n))]) (st' := [(0, ((n : Nat) : Int)), (2, 136), (0, ((3 * m : Nat) : Int)), (2, 128), (0, gwV (w 125 m - w 134 n) (w 135 n))]) (w' := w) (n' := 142) rfl ?_
                refine qG.ar (P := 0 ≤ ((n : Nat) : Int) ∧ ((n : Nat) : Int) < ((60 : Nat) : Int)) (P2 := 0 < (136 : Int) ∧ (136 : Int) ≤ ((142 : Nat) : Int)) (pc' := 140) (ls' := [(2, 95), (0, ((n : Nat) : Int)), (0, ((m : Nat) : Int)), (0, d9), (0, gwV (w 125 m - w 134 n) (w 135 n))]) (st' := [(0, w 136 n), (0, ((3 * m : Nat) : Int)), (2, 128), (0, gwV (w 125 m - w 134 n) (w 135 n))]) (w' := w) (n' := 142) rfl (by omega) (by decide) ?_
                refine qG.blk 1 (pc' := 141) (ls' := [(2, 95), (0, ((n : Nat) : Int)), (0, ((m : Nat) : Int)), (0, d9), (0, gwV (w 125 m - w 134 n) (w 135 n))]) (st' := [(0, wrp (((3 * m : Nat) : Int) + (w 136 n))), (2, 128), (0, gwV (w 125 m - w 134 n) (w 135 n))]) (w' := w) (n' := 142) rfl ?_
                rw [show wrp (((3 * m : Nat) : Int) + (w 136 n)) = ((m * 3 + a9 : Nat) : Int) from by rw [ha9, wrp_id (by omega) (by omega)]; omega]
                refine qG.ar (P := 0 ≤ ((m * 3 + a9 : Nat) : Int) ∧ ((m * 3 + a9 : Nat) : Int) < ((36 : Nat) : Int)) (P2 := 0 < (128 : Int) ∧ (128 : Int) ≤ ((142 : Nat) : Int)) (pc' := 142) (ls' := [(2, 95), (0, ((n : Nat) : Int)), (0, ((m : Nat) : Int)), (0, d9), (0, gwV (w 125 m - w 134 n) (w 135 n))]) (st' := [(0, w 128 (m * 3 + a9)), (0, gwV (w 125 m - w 134 n) (w 135 n))]) (w' := w) (n' := 142) rfl (by omega) (by decide) ?_
                refine qG.blk 1 (pc' := 143) (ls' := [(2, 95), (0, ((n : Nat) : Int)), (0, ((m : Nat) : Int)), (0, d9), (0, gwV (w 125 m - w 134 n) (w 135 n))]) (st' := [(0, wrp ((gwV (w 125 m - w 134 n) (w 135 n)) * (w 128 (m * 3 + a9))))]) (w' := w) (n' := 142) rfl ?_
                rw [show wrp ((gwV (w 125 m - w 134 n) (w 135 n)) * (w 128 (m * 3 + a9))) = (gwV (w 125 m - w 134 n) (w 135 n)) * (w 128 (m * 3 + a9)) from wrp_id (by omega) (by omega)]
                refine qG.ret rfl rfl ?_
                subst hQ9
                exact ⟨congrArg (Prod.mk (0 : Nat)) (by first | exact (wg_n hmn).symm | (rw [wg_y hmy, hha2]; done) | (rw [wg_y hmy, show haV w n m = 1 from if_pos ha1]; done)), rfl, rfl⟩
            · skip
              refine qG.blk 2 (pc' := 111) (ls' := [(2, 95), (0, ((n : Nat) : Int)), (0, ((m : Nat) : Int)), (0, d9), (0, 50 + d9)]) (st' := []) (w' := w) (n' := 142) rfl ?_
              have egw : (50 + d9 : Int) = gwV (w 125 m - w 134 n) (w 135 n) := (by rw [hd9]; rw [hd9] at hc; unfold gwV; (repeat' split) <;> omega)
              rw [egw]
              refine qG.blk 3 (pc' := 117) (ls' := [(2, 95), (0, ((n : Nat) : Int)), (0, ((m : Nat) : Int)), (0, d9), (0, gwV (w 125 m - w 134 n) (w 135 n))]) (st' := [(2, w 95 69), (0, gwV (w 125 m - w 134 n) (w 135 n))]) (w' := w) (n' := 142) rfl ?_
              rw [show w 95 69 = 136 from zref hI rfl rfl]
              refine qG.blk 1 (pc' := 118) (ls' := [(2, 95), (0, ((n : Nat) : Int)), (0, ((m : Nat) : Int)), (0, d9), (0, gwV (w 125 m - w 134 n) (w 135 n))]) (st' := [(0, ((n : Nat) : Int)), (2, 136), (0, gwV (w 125 m - w 134 n) (w 135 n))]) (w' := w) (n' := 142) rfl ?_
              refine qG.ar (P := 0 ≤ ((n : Nat) : Int) ∧ ((n : Nat) : Int) < ((60 : Nat) : Int)) (P2 := 0 < (136 : Int) ∧ (136 : Int) ≤ ((142 : Nat) : Int)) (pc' := 119) (ls' := [(2, 95), (0, ((n : Nat) : Int)), (0, ((m : Nat) : Int)), (0, d9), (0, gwV (w 125 m - w 134 n) (w 135 n))]) (st' := [(0, w 136 n), (0, gwV (w 125 m - w 134 n) (w 135 n))]) (w' := w) (n' := 142) rfl (by omega) (by decide) ?_
              refine qG.blk 1 (pc' := 120) (ls' := [(2, 95), (0, ((n : Nat) : Int)), (0, ((m : Nat) : Int)), (0, d9), (0, gwV (w 125 m - w 134 n) (w 135 n))]) (st' := [(0, (-1)), (0, w 136 n), (0, gwV (w 125 m - w 134 n) (w 135 n))]) (w' := w) (n' := 142) rfl ?_
              refine qG.br (P := w 136 n = (-1)) (pc1 := 123) (pc2 := 127) (st1 := [(0, gwV (w 125 m - w 134 n) (w 135 n))]) rfl (fun ha1 => ?_) (fun ha1 => ?_)
              · skip
                refine qG.blk 3 (pc' := 143) (ls' := [(2, 95), (0, ((n : Nat) : Int)), (0, ((m : Nat) : Int)), (0, d9), (0, gwV (w 125 m - w 134 n) (w 135 n))]) (st' := [(0, wrp ((gwV (w 125 m - w 134 n) (w 135 n)) * 1))]) (w' := w) (n' := 142) rfl ?_
                rw [show wrp ((gwV (w 125 m - w 134 n) (w 135 n)) * 1) = (gwV (w 125 m - w 134 n) (w 135 n)) * 1 from wrp_id (by omega) (by omega)]
                refine qG.ret rfl rfl ?_
                subst hQ9
                exact ⟨congrArg (Prod.mk (0 : Nat)) (by first | exact (wg_n hmn).symm | (rw [wg_y hmy, hha2]; done) | (rw [wg_y hmy, show haV w n m = 1 from if_pos ha1]; done)), rfl, rfl⟩
              · skip
                obtain ⟨a9, ha9⟩ : ∃ q : Nat, w 136 n = (q : Int) := ⟨(w 136 n).toNat, by omega⟩
                have hha2 : haV w n m = w 128 (m * 3 + a9) := (by unfold haV; rw [if_neg (by omega), ha9, Int.toNat_natCast])
                rw [hha2] at hp9
                refine qG.blk 2 (pc' := 131) (ls' := [(2, 95), (0, ((n : Nat) : Int)), (0, ((m : Nat) : Int)), (0, d9), (0, gwV (w 125 m - w 134 n) (w 135 n))]) (st' := [(2, w 95 61), (0, gwV (w 125 m - w 134 n) (w 135 n))]) (w' := w) (n' := 142) rfl ?_
                rw [show w 95 61 = 128 from zref hI rfl rfl]
                refine qG.blk 3 (pc' := 134) (ls' := [(2, 95), (0, ((n : Nat) : Int)), (0, ((m : Nat) : Int)), (0, d9), (0, gwV (w 125 m - w 134 n) (w 135 n))]) (st' := [(0, wrp (3 * ((m : Nat) : Int))), (2, 128), (0, gwV (w 125 m - w 134 n) (w 135 n))]) (w' := w) (n' := 142) rfl ?_
                rw [show wrp (3 * ((m : Nat) : Int)) = ((3 * m : Nat) : Int) from by rw [wrp_id (by omega) (by omega)]; omega]
                refine qG.blk 2 (pc' := 138) (ls' := [(2, 95), (0, ((n : Nat) : Int)), (0, ((m : Nat) : Int)), (0, d9), (0, gwV (w 125 m - w 134 n) (w 135 n))]) (st' := [(2, w 95 69), (0, ((3 * m : Nat) : Int)), (2, 128), (0, gwV (w 125 m - w 134 n) (w 135 n))]) (w' := w) (n' := 142) rfl ?_
                rw [show w 95 69 = 136 from zref hI rfl rfl]
                refine qG.blk 1 (pc' := 139) (ls' := [(2, 95), (0, ((n : Nat) : Int)), (0, ((m : Nat) : Int)), (0, d9), (0, gwV (w 125 m - w 134 n) (w 135 n))]) (st' := [(0, ((n : Nat) : Int)), (2, 136), (0, ((3 * m : Nat) : Int)), (2, 128), (0, gwV (w 125 m - w 134 n) (w 135 n))]) (w' := w) (n' := 142) rfl ?_
                refine qG.ar (P := 0 ≤ ((n : Nat) : Int) ∧ ((n : Nat) : Int) < ((60 : Nat) : Int)) (P2 := 0 < (136 : Int) ∧ (136 : Int) ≤ ((142 : Nat) : Int)) (pc' := 140) (ls' := [(2, 95), (0, ((n : Nat) : Int)), (0, ((m : Nat) : Int)), (0, d9), (0, gwV (w 125 m - w 134 n) (w 135 n))]) (st' := [(0, w 136 n), (0, ((3 * m : Nat) : Int)), (2, 128), (0, gwV (w 125 m - w 134 n) (w 135 n))]) (w' := w) (n' := 142) rfl (by omega) (by decide) ?_
                refine qG.blk 1 (pc' := 141) (ls' := [(2, 95), (0, ((n : Nat) : Int)), (0, ((m : Nat) : Int)), (0, d9), (0, gwV (w 125 m - w 134 n) (w 135 n))]) (st' := [(0, wrp (((3 * m : Nat) : Int) + (w 136 n))), (2, 128), (0, gwV (w 125 m - w 134 n) (w 135 n))]) (w' := w) (n' := 142) rfl ?_
                rw [show wrp (((3 * m : Nat) : Int) + (w 136 n)) = ((m * 3 + a9 : Nat) : Int) from by rw [ha9, wrp_id (by omega) (by omega)]; omega]
                refine qG.ar (P := 0 ≤ ((m * 3 + a9 : Nat) : Int) ∧ ((m * 3 + a9 : Nat) : Int) < ((36 : Nat) : Int)) (P2 := 0 < (128 : Int) ∧ (128 : Int) ≤ ((142 : Nat) : Int)) (pc' := 142) (ls' := [(2, 95), (0, ((n : Nat) : Int)), (0, ((m : Nat) : Int)), (0, d9), (0, gwV (w 125 m - w 134 n) (w 135 n))]) (st' := [(0, w 128 (m * 3 + a9)), (0, gwV (w 125 m - w 134 n) (w 135 n))]) (w' := w) (n' := 142) rfl (by omega) (by decide) ?_
                refine qG.blk 1 (pc' := 143) (ls' := [(2, 95), (0, ((n : Nat) : Int)), (0, ((m : Nat) : Int)), (0, d9), (0, gwV (w 125 m - w 134 n) (w 135 n))]) (st' := [(0, wrp ((gwV (w 125 m - w 134 n) (w 135 n)) * (w 128 (m * 3 + a9))))]) (w' := w) (n' := 142) rfl ?_
                rw [show wrp ((gwV (w 125 m - w 134 n) (w 135 n)) * (w 128 (m * 3 + a9))) = (gwV (w 125 m - w 134 n) (w 135 n)) * (w 128 (m * 3 + a9)) from wrp_id (by omega) (by omega)]
                refine qG.ret rfl rfl ?_
                subst hQ9
                exact ⟨congrArg (Prod.mk (0 : Nat)) (by first | exact (wg_n hmn).symm | (rw [wg_y hmy, hha2]; done) | (rw [wg_y hmy, show haV w n m = 1 from if_pos ha1]; done)), rfl, rfl⟩
      · skip
        refine qG.blk 2 (pc' := 46) (ls' := [(2, 95), (0, ((n : Nat) : Int)), (0, ((m : Nat) : Int)), (0, d9), (9, 0)]) (st' := [(2, w 95 68)]) (w' := w) (n' := 142) rfl ?_
        rw [show w 95 68 = 135 from zref hI rfl rfl]
        refine qG.blk 1 (pc' := 47) (ls' := [(2, 95), (0, ((n : Nat) : Int)), (0, ((m : Nat) : Int)), (0, d9), (9, 0)]) (st' := [(0, ((n : Nat) : Int)), (2, 135)]) (w' := w) (n' := 142) rfl ?_
        refine qG.ar (P := 0 ≤ ((n : Nat) : Int) ∧ ((n : Nat) : Int) < ((60 : Nat) : Int)) (P2 := 0 < (135 : Int) ∧ (135 : Int) ≤ ((142 : Nat) : Int)) (pc' := 48) (ls' := [(2, 95), (0, ((n : Nat) : Int)), (0, ((m : Nat) : Int)), (0, d9), (9, 0)]) (st' := [(0, w 135 n)]) (w' := w) (n' := 142) rfl (by omega) (by decide) ?_
        refine qG.br (P := w 135 n = 0) (pc1 := 51) (pc2 := 58) (st1 := []) rfl (fun he0 => ?_) (fun he0 => ?_)
        · skip
          refine qG.blk 3 (pc' := 55) (ls' := [(2, 95), (0, ((n : Nat) : Int)), (0, ((m : Nat) : Int)), (0, d9), (9, 0)]) (st' := [(0, wrp (50 - d9))]) (w' := w) (n' := 142) rfl ?_
          rw [show wrp (50 - d9) = 50 - d9 from wrp_id (by omega) (by omega)]
          refine qG.blk 4 (pc' := 78) (ls' := [(2, 95), (0, ((n : Nat) : Int)), (0, ((m : Nat) : Int)), (0, d9), (0, 50 - d9)]) (st' := [(0, 1), (0, 50 - d9)]) (w' := w) (n' := 142) rfl ?_
          refine qG.br (P := 50 - d9 < 1) (pc1 := 81) (pc2 := 85) (st1 := []) rfl (fun hv1 => ?_) (fun hv1 => ?_)
          · skip
            refine qG.blk 3 (pc' := 111) (ls' := [(2, 95), (0, ((n : Nat) : Int)), (0, ((m : Nat) : Int)), (0, d9), (0, 1)]) (st' := []) (w' := w) (n' := 142) rfl ?_
            have egw : (1 : Int) = gwV (w 125 m - w 134 n) (w 135 n) := (by rw [hd9]; rw [hd9] at hc; unfold gwV; (repeat' split) <;> omega)
            rw [egw]
            refine qG.blk 3 (pc' := 117) (ls' := [(2, 95), (0, ((n : Nat) : Int)), (0, ((m : Nat) : Int)), (0, d9), (0, gwV (w 125 m - w 134 n) (w 135 n))]) (st' := [(2, w 95 69), (0, gwV (w 125 m - w 134 n) (w 135 n))]) (w' := w) (n' := 142) rfl ?_
            rw [show w 95 69 = 136 from zref hI rfl rfl]
            refine qG.blk 1 (pc' := 118) (ls' := [(2, 95), (0, ((n : Nat) : Int)), (0, ((m : Nat) : Int)), (0, d9), (0, gwV (w 125 m - w 134 n) (w 135 n))]) (st' := [(0, ((n : Nat) : Int)), (2, 136), (0, gwV (w 125 m - w 134 n) (w 135 n))]) (w' := w) (n' := 142) rfl ?_
            refine qG.ar (P := 0 ≤ ((n : Nat) : Int) ∧ ((n : Nat) : Int) < ((60 : Nat) : Int)) (P2 := 0 < (136 : Int) ∧ (136 : Int) ≤ ((142 : Nat) : Int)) (pc' := 119) (ls' := [(2, 95), (0, ((n : Nat) : Int)), (0, ((m : Nat) : Int)), (0, d9), (0, gwV (w 125 m - w 134 n) (w 135 n))]) (st' := [(0, w 136 n), (0, gwV (w 125 m - w 134 n) (w 135 n))]) (w' := w) (n' := 142) rfl (by omega) (by decide) ?_
            refine qG.blk 1 (pc' := 120) (ls' := [(2, 95), (0, ((n : Nat) : Int)), (0, ((m : Nat) : Int)), (0, d9), (0, gwV (w 125 m - w 134 n) (w 135 n))]) (st' := [(0, (-1)), (0, w 136 n), (0, gwV (w 125 m - w 134 n) (w 135 n))]) (w' := w) (n' := 142) rfl ?_
            refine qG.br (P := w 136 n = (-1)) (pc1 := 123) (pc2 := 127) (st1 := [(0, gwV (w 125 m - w 134 n) (w 135 n))]) rfl (fun ha1 => ?_) (fun ha1 => ?_)
            · skip
              refine qG.blk 3 (pc' := 143) (ls' := [(2, 95), (0, ((n : Nat) : Int)), (0, ((m : Nat) : Int)), (0, d9), (0, gwV (w 125 m - w 134 n) (w 135 n))]) (st' := [(0, wrp ((gwV (w 125 m - w 134 n) (w 135 n)) * 1))]) (w' := w) (n' := 142) rfl ?_
              rw [show wrp ((gwV (w 125 m - w 134 n) (w 135 n)) * 1) = (gwV (w 125 m - w 134 n) (w 135 n)) * 1 from wrp_id (by omega) (by omega)]
              refine qG.ret rfl rfl ?_
              subst hQ9
              exact ⟨congrArg (Prod.mk (0 : Nat)) (by first | exact (wg_n hmn).symm | (rw [wg_y hmy, hha2]; done) | (rw [wg_y hmy, show haV w n m = 1 from if_pos ha1]; done)), rfl, rfl⟩
            · skip
              obtain ⟨a9, ha9⟩ : ∃ q : Nat, w 136 n = (q : Int) := ⟨(w 136 n).toNat, by omega⟩
              have hha2 : haV w n m = w 128 (m * 3 + a9) := (by unfold haV; rw [if_neg (by omega), ha9, Int.toNat_natCast])
              rw [hha2] at hp9
              refine qG.blk 2 (pc' := 131) (ls' := [(2, 95), (0, ((n : Nat) : Int)), (0, ((m : Nat) : Int)), (0, d9), (0, gwV (w 125 m - w 134 n) (w 135 n))]) (st' := [(2, w 95 61), (0, gwV (w 125 m - w 134 n) (w 135 n))]) (w' := w) (n' := 142) rfl ?_
              rw [show w 95 61 = 128 from zref hI rfl rfl]
              refine qG.blk 3 (pc' := 134) (ls' := [(2, 95), (0, ((n : Nat) : Int)), (0, ((m : Nat) : Int)), (0, d9), (0, gwV (w 125 m - w 134 n) (w 135 n))]) (st' := [(0, wrp (3 * ((m : Nat) : Int))), (2, 128), (0, gwV (w 125 m - w 134 n) (w 135 n))]) (w' := w) (n' := 142) rfl ?_
              rw [show wrp (3 * ((m : Nat) : Int)) = ((3 * m : Nat) : Int) from by rw [wrp_id (by omega) (by omega)]; omega]
              refine qG.blk 2 (pc' := 138) (ls' := [(2, 95), (0, ((n : Nat) : Int)), (0, ((m : Nat) : Int)), (0, d9), (0, gwV (w 125 m - w 134 n) (w 135 n))]) (st' := [(2, w 95 69), (0, ((3 * m : Nat) : Int)), (2, 128), (0, gwV (w 125 m - w 134 n) (w 135 n))]) (w' := w) (n' := 142) rfl ?_
              rw [show w 95 69 = 136 from zref hI rfl rfl]
              refine qG.blk 1 (pc' := 139) (ls' := [(2, 95), (0, ((n : Nat) : Int)), (0, ((m : Nat) : Int)), (0, d9), (0, gwV (w 125 m - w 134 n) (w 135 n))]) (st' := [(0, ((n : Nat) : Int)), (2, 136), (0, ((3 * m : Nat) : Int)), (2, 128), (0, gwV (w 125 m - w 134 n) (w 135 n))]) (w' := w) (n' := 142) rfl ?_
              refine qG.ar (P := 0 ≤ ((n : Nat) : Int) ∧ ((n : Nat) : Int) < ((60 : Nat) : Int)) (P2 := 0 < (136 : Int) ∧ (136 : Int) ≤ ((142 : Nat) : Int)) (pc' := 140) (ls' := [(2, 95), (0, ((n : Nat) : Int)), (0, ((m : Nat) : Int)), (0, d9), (0, gwV (w 125 m - w 134 n) (w 135 n))]) (st' := [(0, w 136 n), (0, ((3 * m : Nat) : Int)), (2, 128), (0, gwV (w 125 m - w 134 n) (w 135 n))]) (w' := w) (n' := 142) rfl (by omega) (by decide) ?_
              refine qG.blk 1 (pc' := 141) (ls' := [(2, 95), (0, ((n : Nat) : Int)), (0, ((m : Nat) : Int)), (0, d9), (0, gwV (w 125 m - w 134 n) (w 135 n))]) (st' := [(0, wrp (((3 * m : Nat) : Int) + (w 136 n))), (2, 128), (0, gwV (w 125 m - w 134 n) (w 135 n))]) (w' := w) (n' := 142) rfl ?_
              rw [show wrp (((3 * m : Nat) : Int) + (w 136 n)) = ((m * 3 + a9 : Nat) : Int) from by rw [ha9, wrp_id (by omega) (by omega)]; omega]
              refine qG.ar (P := 0 ≤ ((m * 3 + a9 : Nat) : Int) ∧ ((m * 3 + a9 : Nat) : Int) < ((36 : Nat) : Int)) (P2 := 0 < (128 : Int) ∧ (128 : Int) ≤ ((142 : Nat) : Int)) (pc' := 142) (ls' := [(2, 95), (0, ((n : Nat) : Int)), (0, ((m : Nat) : Int)), (0, d9), (0, gwV (w 125 m - w 134 n) (w 135 n))]) (st' := [(0, w 128 (m * 3 + a9)), (0, gwV (w 125 m - w 134 n) (w 135 n))]) (w' := w) (n' := 142) rfl (by omega) (by decide) ?_
              refine qG.blk 1 (pc' := 143) (ls' := [(2, 95), (0, ((n : Nat) : Int)), (0, ((m : Nat) : Int)), (0, d9), (0, gwV (w 125 m - w 134 n) (w 135 n))]) (st' := [(0, wrp ((gwV (w 125 m - w 134 n) (w 135 n)) * (w 128 (m * 3 + a9))))]) (w' := w) (n' := 142) rfl ?_
              rw [show wrp ((gwV (w 125 m - w 134 n) (w 135 n)) * (w 128 (m * 3 + a9))) = (gwV (w 125 m - w 134 n) (w 135 n)) * (w 128 (m * 3 + a9)) from wrp_id (by omega) (by omega)]
              refine qG.ret rfl rfl ?_
              subst hQ9
              exact ⟨congrArg (Prod.mk (0 : Nat)) (by first | exact (wg_n hmn).symm | (rw [wg_y hmy, hha2]; done) | (rw [wg_y hmy, show haV w n m = 1 from if_pos ha1]; done)), rfl, rfl⟩
          · skip
            refine qG.blk 2 (pc' := 89) (ls' := [(2, 95), (0, ((n : Nat) : Int)), (0, ((m : Nat) : Int)), (0, d9), (0, 50 - d9)]) (st' := [(2, w 95 68)]) (w' := w) (n' := 142) rfl ?_
            rw [show w 95 68 = 135 from zref hI rfl rfl]
            refine qG.blk 1 (pc' := 90) (ls' := [(2, 95), (0, ((n : Nat) : Int)), (0, ((m : Nat) : Int)), (0, d9), (0, 50 - d9)]) (st' := [(0, ((n : Nat) : Int)), (2, 135)]) (w' := w) (n' := 142) rfl ?_
            refine qG.ar (P := 0 ≤ ((n : Nat) : Int) ∧ ((n : Nat) : Int) < ((60 : Nat) : Int)) (P2 := 0 < (135 : Int) ∧ (135 : Int) ≤ ((142 : Nat) : Int)) (pc' := 91) (ls' := [(2, 95), (0, ((n : Nat) : Int)), (0, ((m : Nat) : Int)), (0, d9), (0, 50 - d9)]) (st' := [(0, w 135 n)]) (w' := w) (n' := 142) rfl (by omega) (by decide) ?_
            refine qG.blk 1 (pc' := 92) (ls' := [(2, 95), (0, ((n : Nat) : Int)), (0, ((m : Nat) : Int)), (0, d9), (0, 50 - d9)]) (st' := [(0, 1), (0, w 135 n)]) (w' := w) (n' := 142) rfl ?_
            refine qG.br (P := w 135 n = 1) (pc1 := 107) (pc2 := 95) (st1 := []) rfl (fun he1 => ?_) (fun he1 => ?_)
            · skip
              refine qG.blk 2 (pc' := 111) (ls' := [(2, 95), (0, ((n : Nat) : Int)), (0, ((m : Nat) : Int)), (0, d9), (0, 50 - d9)]) (st' := []) (w' := w) (n' := 142) rfl ?_
              have egw : (50 - d9 : Int) = gwV (w 125 m - w 134 n) (w 135 n) := (by rw [hd9]; rw [hd9] at hc; unfold gwV; (repeat' split) <;> omega)
              rw [egw]
              refine qG.blk 3 (pc' := 117) (ls' := [(2, 95), (0, ((n : Nat) : Int)), (0, ((m : Nat) : Int)), (0, d9), (0, gwV (w 125 m - w 134 n) (w 135 n))]) (st' := [(2, w 95 69), (0, gwV (w 125 m - w 134 n) (w 135 n))]) (w' := w) (n' := 142) rfl ?_
              rw [show w 95 69 = 136 from zref hI rfl rfl]
              refine qG.blk 1 (pc' := 118) (ls' := [(2, 95), (0, ((n : Nat) : Int)), (0, ((m : Nat) : Int)), (0, d9), (0, gwV (w 125 m - w 134 n) (w 135 n))]) (st' := [(0, ((n : Nat) : Int)), (2, 136), (0, gwV (w 125 m - w 134 n) (w 135 n))]) (w' := w) (n' := 142) rfl ?_
              refine qG.ar (P := 0 ≤ ((n : Nat) : Int) ∧ ((n : Nat) : Int) < ((60 : Nat) : Int)) (P2 := 0 < (136 : Int) ∧ (136 : Int) ≤ ((142 : Nat) : Int)) (pc' := 119) (ls' := [(2, 95), (0, ((n : Nat) : Int)), (0, ((m : Nat) : Int)), (0, d9), (0, gwV (w 125 m - w 134 n) (w 135 n))]) (st' := [(0, w 136 n), (0, gwV (w 125 m - w 134 n) (w 135 n))]) (w' := w) (n' := 142) rfl (by omega) (by decide) ?_
              refine qG.blk 1 (pc' := 120) (ls' := [(2, 95), (0, ((n : Nat) : Int)), (0, ((m : Nat) : Int)), (0, d9), (0, gwV (w 125 m - w 134 n) (w 135 n))]) (st' := [(0, (-1)), (0, w 136 n), (0, gwV (w 125 m - w 134 n) (w 135 n))]) (w' := w) (n' := 142) rfl ?_
              refine qG.br (P := w 136 n = (-1)) (pc1 := 123) (pc2 := 127) (st1 := [(0, gwV (w 125 m - w 134 n) (w 135 n))]) rfl (fun ha1 => ?_) (fun ha1 => ?_)
              · skip
                refine qG.blk 3 (pc' := 143) (ls' := [(2, 95), (0, ((n : Nat) : Int)), (0, ((m : Nat) : Int)), (0, d9), (0, gwV (w 125 m - w 134 n) (w 135 n))]) (st' := [(0, wrp ((gwV (w 125 m - w 134 n) (w 135 n)) * 1))]) (w' := w) (n' := 142) rfl ?_
                rw [show wrp ((gwV (w 125 m - w 134 n) (w 135 n)) * 1) = (gwV (w 125 m - w 134 n) (w 135 n)) * 1 from wrp_id (by omega) (by omega)]
                refine qG.ret rfl rfl ?_
                subst hQ9
                exact ⟨congrArg (Prod.mk (0 : Nat)) (by first | exact (wg_n hmn).symm | (rw [wg_y hmy, hha2]; done) | (rw [wg_y hmy, show haV w n m = 1 from if_pos ha1]; done)), rfl, rfl⟩
              · skip
                obtain ⟨a9, ha9⟩ : ∃ q : Nat, w 136 n = (q : Int) := ⟨(w 136 n).toNat, by omega⟩
                have hha2 : haV w n m = w 128 (m * 3 + a9) := (by unfold haV; rw [if_neg (by omega), ha9, Int.toNat_natCast])
                rw [hha2] at hp9
                refine qG.blk 2 (pc' := 131) (ls' := [(2, 95), (0, ((n : Nat) : Int)), (0, ((m : Nat) : Int)), (0, d9), (0, gwV (w 125 m - w 134 n) (w 135 n))]) (st' := [(2, w 95 61), (0, gwV (w 125 m - w 134 n) (w 135 n))]) (w' := w) (n' := 142) rfl ?_
                rw [show w 95 61 = 128 from zref hI rfl rfl]
                refine qG.blk 3 (pc' := 134) (ls' := [(2, 95), (0, ((n : Nat) : Int)), (0, ((m : Nat) : Int)), (0, d9), (0, gwV (w 125 m - w 134 n) (w 135 n))]) (st' := [(0, wrp (3 * ((m : Nat) : Int))), (2, 128), (0, gwV (w 125 m - w 134 n) (w 135 n))]) (w' := w) (n' := 142) rfl ?_
                rw [show wrp (3 * ((m : Nat) : Int)) = ((3 * m : Nat) : Int) from by rw [wrp_id (by omega) (by omega)]; omega]
                refine qG.blk 2 (pc' := 138) (ls' := [(2, 95), (0, ((n : Nat) : Int)), (0, ((m : Nat) : Int)), (0, d9), (0, gwV (w 125 m - w 134 n) (w 135 n))]) (st' := [(2, w 95 69), (0, ((3 * m : Nat) : Int)), (2, 128), (0, gwV (w 125 m - w 134 n) (w 135 n))]) (w' := w) (n' := 142) rfl ?_
                rw [show w 95 69 = 136 from zref hI rfl rfl]
                refine qG.blk 1 (pc' := 139) (ls' := [(2, 95), (0, ((n : Nat) : Int)), (0, ((m : Nat) : Int)), (0, d9), (0, gwV (w 125 m - w 134 n) (w 135 n))]) (st' := [(0, ((n : Nat) : Int)), (2, 136), (0, ((3 * m : Nat) : Int)), (2, 128), (0, gwV (w 125 m - w 134 n) (w 135 n))]) (w' := w) (n' := 142) rfl ?_
                refine qG.ar (P := 0 ≤ ((n : Nat) : Int) ∧ ((n : Nat) : Int) < ((60 : Nat) : Int)) (P2 := 0 < (136 : Int) ∧ (136 : Int) ≤ ((142 : Nat) : Int)) (pc' := 140) (ls' := [(2, 95), (0, ((n : Nat) : Int)), (0, ((m : Nat) : Int)), (0, d9), (0, gwV (w 125 m - w 134 n) (w 135 n))]) (st' := [(0, w 136 n), (0, ((3 * m : Nat) : Int)), (2, 128), (0, gwV (w 125 m - w 134 n) (w 135 n))]) (w' := w) (n' := 142) rfl (by omega) (by decide) ?_
                refine qG.blk 1 (pc' := 141) (ls' := [(2, 95), (0, ((n : Nat) : Int)), (0, ((m : Nat) : Int)), (0, d9), (0, gwV (w 125 m - w 134 n) (w 135 n))]) (st' := [(0, wrp (((3 * m : Nat) : Int) + (w 136 n))), (2, 128), (0, gwV (w 125 m - w 134 n) (w 135 n))]) (w' := w) (n' := 142) rfl ?_
                rw [show wrp (((3 * m : Nat) : Int) + (w 136 n)) = ((m * 3 + a9 : Nat) : Int) from by rw [ha9, wrp_id (by omega) (by omega)]; omega]
                refine qG.ar (P := 0 ≤ ((m * 3 + a9 : Nat) : Int) ∧ ((m * 3 + a9 : Nat) : Int) < ((36 : Nat) : Int)) (P2 := 0 < (128 : Int) ∧ (128 : Int) ≤ ((142 : Nat) : Int)) (pc' := 142) (ls' := [(2, 95), (0, ((n : Nat) : Int)), (0, ((m : Nat) : Int)), (0, d9), (0, gwV (w 125 m - w 134 n) (w 135 n))]) (st' := [(0, w 128 (m * 3 + a9)), (0, gwV (w 125 m - w 134 n) (w 135 n))]) (w' := w) (n' := 142) rfl (by omega) (by decide) ?_
                refine qG.blk 1 (pc' := 143) (ls' := [(2, 95), (0, ((n : Nat) : Int)), (0, ((m : Nat) : Int)), (0, d9), (0, gwV (w 125 m - w 134 n) (w 135 n))]) (st' := [(0, wrp ((gwV (w 125 m - w 134 n) (w 135 n)) * (w 128 (m * 3 + a9))))]) (w' := w) (n' := 142) rfl ?_
                rw [show wrp ((gwV (w 125 m - w 134 n) (w 135 n)) * (w 128 (m * 3 + a9))) = (gwV (w 125 m - w 134 n) (w 135 n)) * (w 128 (m * 3 + a9)) from wrp_id (by omega) (by omega)]
                refine qG.ret rfl rfl ?_
                subst hQ9
                exact ⟨congrArg (Prod.mk (0 : Nat)) (by first | exact (wg_n hmn).symm | (rw [wg_y hmy, hha2]; done) | (rw [wg_y hmy, show haV w n m = 1 from if_pos ha1]; done)), rfl, rfl⟩
            · skip
              refine qG.blk 2 (pc' := 99) (ls' := [(2, 95), (0, ((n : Nat) : Int)), (0, ((m : Nat) : Int)), (0, d9), (0, 50 - d9)]) (st' := [(0, 99), (0, 50 - d9)]) (w' := w) (n' := 142) rfl ?_
              refine qG.br (P := 99 < 50 - d9) (pc1 := 102) (pc2 := 107) (st1 := []) rfl (fun hv9 => ?_) (fun hv9 => ?_)
              · skip
                refine qG.blk 3 (pc' := 111) (ls' := [(2, 95), (0, ((n : Nat) : Int)), (0, ((m : Nat) : Int)), (0, d9), (0, 99)]) (st' := []) (w' := w) (n' := 142) rfl ?_
                have egw : (99 : Int) = gwV (w 125 m - w 134 n) (w 135 n) := (by rw [hd9]; rw [hd9] at hc; unfold gwV; (repeat' split) <;> omega)
                rw [egw]
                refine qG.blk 3 (pc' := 117) (ls' := [(2, 95), (0, ((n : Nat) : Int)), (0, ((m : Nat) : Int)), (0, d9), (0, gwV (w 125 m - w 134 n) (w 135 n))]) (st' := [(2, w 95 69), (0, gwV (w 125 m - w 134 n) (w 135 n))]) (w' := w) (n' := 142) rfl ?_
                rw [show w 95 69 = 136 from zref hI rfl rfl]
                refine qG.blk 1 (pc' := 118) (ls' := [(2, 95), (0, ((n : Nat) : Int)), (0, ((m : Nat) : Int)), (0, d9), (0, gwV (w 125 m - w 134 n) (w 135 n))]) (st' := [(0, ((n : Nat) : Int)), (2, 136), (0, gwV (w 125 m - w 134 n) (w 135 n))]) (w' := w) (n' := 142) rfl ?_
                refine qG.ar (P := 0 ≤ ((n : Nat) : Int) ∧ ((n : Nat) : Int) < ((60 : Nat) : Int)) (P2 := 0 < (136 : Int) ∧ (136 : Int) ≤ ((142 : Nat) : Int)) (pc' := 119) (ls' := [(2, 95), (0, ((n : Nat) : Int)), (0, ((m : Nat) : Int)), (0, d9), (0, gwV (w 125 m - w 134 n) (w 135 n))]) (st' := [(0, w 136 n), (0, gwV (w 125 m - w 134 n) (w 135 n))]) (w' := w) (n' := 142) rfl (by omega) (by decide) ?_
                refine qG.blk 1 (pc' := 120) (ls' := [(2, 95), (0, ((n : Nat) : Int)), (0, ((m : Nat) : Int)), (0, d9), (0, gwV (w 125 m - w 134 n) (w 135 n))]) (st' := [(0, (-1)), (0, w 136 n), (0, gwV (w 125 m - w 134 n) (w 135 n))]) (w' := w) (n' := 142) rfl ?_
                refine qG.br (P := w 136 n = (-1)) (pc1 := 123) (pc2 := 127) (st1 := [(0, gwV (w 125 m - w 134 n) (w 135 n))]) rfl (fun ha1 => ?_) (fun ha1 => ?_)
                · skip
                  refine qG.blk 3 (pc' := 143) (ls' := [(2, 95), (0, ((n : Nat) : Int)), (0, ((m : Nat) : Int)), (0, d9), (0, gwV (w 125 m - w 134 n) (w 135 n))]) (st' := [(0, wrp ((gwV (w 125 m - w 134 n) (w 135 n)) * 1))]) (w' := w) (n' := 142) rfl ?_
                  rw [show wrp ((gwV (w 125 m - w 134 n) (w 135 n)) * 1) = (gwV (w 125 m - w 134 n) (w 135 n)) * 1 from wrp_id (by omega) (by omega)]
                  refine qG.ret rfl rfl ?_
                  subst hQ9
                  exact ⟨congrArg (Prod.mk (0 : Nat)) (by first | exact (wg_n hmn).symm | (rw [wg_y hmy, hha2]; done) | (rw [wg_y hmy, show haV w n m = 1 from if_pos ha1]; done)), rfl, rfl⟩
                · skip
                  obtain ⟨a9, ha9⟩ : ∃ q : Nat, w 136 n = (q : Int) := ⟨(w 136 n).toNat, by omega⟩
                  have hha2 : haV w n m = w 128 (m * 3 + a9) := (by unfold haV; rw [if_neg (by omega), ha9, Int.toNat_natCast])
                  rw [hha2] at hp9
                  refine qG.blk 2 (pc' := 131) (ls' := [(2, 95), (0, ((n : Nat) : Int)), (0, ((m : Nat) : Int)), (0, d9), (0, gwV (w 125 m - w 134 n) (w 135 n))]) (st' := [(2, w 95 61), (0, gwV (w 125 m - w 134 n) (w 135 n))]) (w' := w) (n' := 142) rfl ?_
                  rw [show w 95 61 = 128 from zref hI rfl rfl]
                  refine qG.blk 3 (pc' := 134) (ls' := [(2, 95), (0, ((n : Nat) : Int)), (0, ((m : Nat) : Int)), (0, d9), (0, gwV (w 125 m - w 134 n) (w 135 n))]) (st' := [(0, wrp (3 * ((m : Nat) : Int))), (2, 128), (0, gwV (w 125 m - w 134 n) (w 135 n))]) (w' := w) (n' := 142) rfl ?_
                  rw [show wrp (3 * ((m : Nat) : Int)) = ((3 * m : Nat) : Int) from by rw [wrp_id (by omega) (by omega)]; omega]
                  refine qG.blk 2 (pc' := 138) (ls' := [(2, 95), (0, ((n : Nat) : Int)), (0, ((m : Nat) : Int)), (0, d9), (0, gwV (w 125 m - w 134 n) (w 135 n))]) (st' := [(2, w 95 69), (0, ((3 * m : Nat) : Int)), (2, 128), (0, gwV (w 125 m - w 134 n) (w 135 n))]) (w' := w) (n' := 142) rfl ?_
                  rw [show w 95 69 = 136 from zref hI rfl rfl]
                  refine qG.blk 1 (pc' := 139) (ls' := [(2, 95), (0, ((n : Nat) : Int)), (0, ((m : Nat) : Int)), (0, d9), (0, gwV (w 125 m - w 134 n) (w 135 n))]) (st' := [(0, ((n : Nat) : Int)), (2, 136), (0, ((3 * m : Nat) : Int)), (2, 128), (0, gwV (w 125 m - w 134 n) (w 135 n))]) (w' := w) (n' := 142) rfl ?_
                  refine qG.ar (P := 0 ≤ ((n : Nat) : Int) ∧ ((n : Nat) : Int) < ((60 : Nat) : Int)) (P2 := 0 < (136 : Int) ∧ (136 : Int) ≤ ((142 : Nat) : Int)) (pc' := 140) (ls' := [(2, 95), (0, ((n : Nat) : Int)), (0, ((m : Nat) : Int)), (0, d9), (0, gwV (w 125 m - w 134 n) (w 135 n))]) (st' := [(0, w 136 n), (0, ((3 * m : Nat) : Int)), (2, 128), (0, gwV (w 125 m - w 134 n) (w 135 n))]) (w' := w) (n' := 142) rfl (by omega) (by decide) ?_
                  refine qG.blk 1 (pc' := 141) (ls' := [(2, 95), (0, ((n : Nat) : Int)), (0, ((m : Nat) : Int)), (0, d9), (0, gwV (w 125 m - w 134 n) (w 135 n))]) (st' := [(0, wrp (((3 * m : Nat) : Int) + (w 136 n))), (2, 128), (0, gwV (w 125 m - w 134 n) (w 135 n))]) (w' := w) (n' := 142) rfl ?_
                  rw [show wrp (((3 * m : Nat) : Int) + (w 136 n)) = ((m * 3 + a9 : Nat) : Int) from by rw [ha9, wrp_id (by omega) (by omega)]; omega]
                  refine qG.ar (P := 0 ≤ ((m * 3 + a9 : Nat) : Int) ∧ ((m * 3 + a9 : Nat) : Int) < ((36 : Nat) : Int)) (P2 := 0 < (128 : Int) ∧ (128 : Int) ≤ ((142 : Nat) : Int)) (pc' := 142) (ls' := [(2, 95), (0, ((n : Nat) : Int)), (0, ((m : Nat) : Int)), (0, d9), (0, gwV (w 125 m - w 134 n) (w 135 n))]) (st' := [(0, w 128 (m * 3 + a9)), (0, gwV (w 125 m - w 134 n) (w 135 n))]) (w' := w) (n' := 142) rfl (by omega) (by decide) ?_
                  refine qG.blk 1 (pc' := 143) (ls' := [(2, 95), (0, ((n : Nat) : Int)), (0, ((m : Nat) : Int)), (0, d9), (0, gwV (w 125 m - w 134 n) (w 135 n))]) (st' := [(0, wrp ((gwV (w 125 m - w 134 n) (w 135 n)) * (w 128 (m * 3 + a9))))]) (w' := w) (n' := 142) rfl ?_
                  rw [show wrp ((gwV (w 125 m - w 134 n) (w 135 n)) * (w 128 (m * 3 + a9))) = (gwV (w 125 m - w 134 n) (w 135 n)) * (w 128 (m * 3 + a9)) from wrp_id (by omega) (by omega)]
                  refine qG.ret rfl rfl ?_
                  subst hQ9
                  exact ⟨congrArg (Prod.mk (0 : Nat)) (by first | exact (wg_n hmn).symm | (rw [wg_y hmy, hha2]; done) | (rw [wg_y hmy, show haV w n m = 1 from if_pos ha1]; done)), rfl, rfl⟩
              · skip
                refine qG.blk 2 (pc' := 111) (ls' := [(2, 95), (0, ((n : Nat) : Int)), (0, ((m : Nat) : Int)), (0, d9), (0, 50 - d9)]) (st' := []) (w' := w) (n' := 142) rfl ?_
                have egw : (50 - d9 : Int) = gwV (w 125 m - w 134 n) (w 135 n) := (by rw [hd9]; rw [hd9] at hc; unfold gwV; (repeat' split) <;> omega)
                rw [egw]
                refine qG.blk 3 (pc' := 117) (ls' := [(2, 95), (0, ((n : Nat) : Int)), (0, ((m : Nat) : Int)), (0, d9), (0, gwV (w 125 m - w 134 n) (w 135 n))]) (st' := [(2, w 95 69), (0, gwV (w 125 m - w 134 n) (w 135 n))]) (w' := w) (n' := 142) rfl ?_
                rw [show w 95 69 = 136 from zref hI rfl rfl]
                refine qG.blk 1 (pc' := 118) (ls' := [(2, 95), (0, ((n : Nat) : Int)), (0, ((m : Nat) : Int)), (0, d9), (0, gwV (w 125 m - w 134 n) (w 135 n))]) (st' := [(0, ((n : Nat) : Int)), (2, 136), (0, gwV (w 125 m - w 134 n) (w 135 n))]) (w' := w) (n' := 142) rfl ?_
                refine qG.ar (P := 0 ≤ ((n : Nat) : Int) ∧ ((n : Nat) : Int) < ((60 : Nat) : Int)) (P2 := 0 < (136 : Int) ∧ (136 : Int) ≤ ((142 : Nat) : Int)) (pc' := 119) (ls' := [(2, 95), (0, ((n : Nat) : Int)), (0, ((m : Nat) : Int)), (0, d9), (0, gwV (w 125 m - w 134 n) (w 135 n))]) (st' := [(0, w 136 n), (0, gwV (w 125 m - w 134 n) (w 135 n))]) (w' := w) (n' := 142) rfl (by omega) (by decide) ?_
                refine qG.blk 1 (pc' := 120) (ls' := [(2, 95), (0, ((n : Nat) : Int)), (0, ((m : Nat) : Int)), (0, d9), (0, gwV (w 125 m - w 134 n) (w 135 n))]) (st' := [(0, (-1)), (0, w 136 n), (0, gwV (w 125 m - w 134 n) (w 135 n))]) (w' := w) (n' := 142) rfl ?_
                refine qG.br (P := w 136 n = (-1)) (pc1 := 123) (pc2 := 127) (st1 := [(0, gwV (w 125 m - w 134 n) (w 135 n))]) rfl (fun ha1 => ?_) (fun ha1 => ?_)
                · skip
                  refine qG.blk 3 (pc' := 143) (ls' := [(2, 95), (0, ((n : Nat) : Int)), (0, ((m : Nat) : Int)), (0, d9), (0, gwV (w 125 m - w 134 n) (w 135 n))]) (st' := [(0, wrp ((gwV (w 125 m - w 134 n) (w 135 n)) * 1))]) (w' := w) (n' := 142) rfl ?_
                  rw [show wrp ((gwV (w 125 m - w 134 n) (w 135 n)) * 1) = (gwV (w 125 m - w 134 n) (w 135 n)) * 1 from wrp_id (by omega) (by omega)]
                  refine qG.ret rfl rfl ?_
                  subst hQ9
                  exact ⟨congrArg (Prod.mk (0 : Nat)) (by first | exact (wg_n hmn).symm | (rw [wg_y hmy, hha2]; done) | (rw [wg_y hmy, show haV w n m = 1 from if_pos ha1]; done)), rfl, rfl⟩
                · skip
                  obtain ⟨a9, ha9⟩ : ∃ q : Nat, w 136 n = (q : Int) := ⟨(w 136 n).toNat, by omega⟩
                  have hha2 : haV w n m = w 128 (m * 3 + a9) := (by unfold haV; rw [if_neg (by omega), ha9, Int.toNat_natCast])
                  rw [hha2] at hp9
                  refine qG.blk 2 (pc' := 131) (ls' := [(2, 95), (0, ((n : Nat) : Int)), (0, ((m : Nat) : Int)), (0, d9), (0, gwV (w 125 m - w 134 n) (w 135 n))]) (st' := [(2, w 95 61), (0, gwV (w 125 m - w 134 n) (w 135 n))]) (w' := w) (n' := 142) rfl ?_
                  rw [show w 95 61 = 128 from zref hI rfl rfl]
                  refine qG.blk 3 (pc' := 134) (ls' := [(2, 95), (0, ((n : Nat) : Int)), (0, ((m : Nat) : Int)), (0, d9), (0, gwV (w 125 m - w 134 n) (w 135 n))]) (st' := [(0, wrp (3 * ((m : Nat) : Int))), (2, 128), (0, gwV (w 125 m - w 134 n) (w 135 n))]) (w' := w) (n' := 142) rfl ?_
                  rw [show wrp (3 * ((m : Nat) : Int)) = ((3 * m : Nat) : Int) from by rw [wrp_id (by omega) (by omega)]; omega]
                  refine qG.blk 2 (pc' := 138) (ls' := [(2, 95), (0, ((n : Nat) : Int)), (0, ((m : Nat) : Int)), (0, d9), (0, gwV (w 125 m - w 134 n) (w 135 n))]) (st' := [(2, w 95 69), (0, ((3 * m : Nat) : Int)), (2, 128), (0, gwV (w 125 m - w 134 n) (w 135 n))]) (w' := w) (n' := 142) rfl ?_
                  rw [show w 95 69 = 136 from zref hI rfl rfl]
                  refine qG.blk 1 (pc' := 139) (ls' := [(2, 95), (0, ((n : Nat) : Int)), (0, ((m : Nat) : Int)), (0, d9), (0, gwV (w 125 m - w 134 n) (w 135 n))]) (st' := [(0, ((n : Nat) : Int)), (2, 136), (0, ((3 * m : Nat) : Int)), (2, 128), (0, gwV (w 125 m - w 134 n) (w 135 n))]) (w' := w) (n' := 142) rfl ?_
                  refine qG.ar (P := 0 ≤ ((n : Nat) : Int) ∧ ((n : Nat) : Int) < ((60 : Nat) : Int)) (P2 := 0 < (136 : Int) ∧ (136 : Int) ≤ ((142 : Nat) : Int)) (pc' := 140) (ls' := [(2, 95), (0, ((n : Nat) : Int)), (0, ((m : Nat) : Int)), (0, d9), (0, gwV (w 125 m - w 134 n) (w 135 n))]) (st' := [(0, w 136 n), (0, ((3 * m : Nat) : Int)), (2, 128), (0, gwV (w 125 m - w 134 n) (w 135 n))]) (w' := w) (n' := 142) rfl (by omega) (by decide) ?_
                  refine qG.blk 1 (pc' := 141) (ls' := [(2, 95), (0, ((n : Nat) : Int)), (0, ((m : Nat) : Int)), (0, d9), (0, gwV (w 125 m - w 134 n) (w 135 n))]) (st' := [(0, wrp (((3 * m : Nat) : Int) + (w 136 n))), (2, 128), (0, gwV (w 125 m - w 134 n) (w 135 n))]) (w' := w) (n' := 142) rfl ?_
                  rw [show wrp (((3 * m : Nat) : Int) + (w 136 n)) = ((m * 3 + a9 : Nat) : Int) from by rw [ha9, wrp_id (by omega) (by omega)]; omega]
                  refine qG.ar (P := 0 ≤ ((m * 3 + a9 : Nat) : Int) ∧ ((m * 3 + a9 : Nat) : Int) < ((36 : Nat) : Int)) (P2 := 0 < (128 : Int) ∧ (128 : Int) ≤ ((142 : Nat) : Int)) (pc' := 142) (ls' := [(2, 95), (0, ((n : Nat) : Int)), (0, ((m : Nat) : Int)), (0, d9), (0, gwV (w 125 m - w 134 n) (w 135 n))]) (st' := [(0, w 128 (m * 3 + a9)), (0, gwV (w 125 m - w 134 n) (w 135 n))]) (w' := w) (n' := 142) rfl (by omega) (by decide) ?_
                  refine qG.blk 1 (pc' := 143) (ls' := [(2, 95), (0, ((n : Nat) : Int)), (0, ((m : Nat) : Int)), (0, d9), (0, gwV (w 125 m - w 134 n) (w 135 n))]) (st' := [(0, wrp ((gwV (w 125 m - w 134 n) (w 135 n)) * (w 128 (m * 3 + a9))))]) (w' := w) (n' := 142) rfl ?_
                  rw [show wrp ((gwV (w 125 m - w 134 n) (w 135 n)) * (w 128 (m * 3 + a9))) = (gwV (w 125 m - w 134 n) (w 135 n)) * (w 128 (m * 3 + a9)) from wrp_id (by omega) (by omega)]
                  refine qG.ret rfl rfl ?_
                  subst hQ9
                  exact ⟨congrArg (Prod.mk (0 : Nat)) (by first | exact (wg_n hmn).symm | (rw [wg_y hmy, hha2]; done) | (rw [wg_y hmy, show haV w n m = 1 from if_pos ha1]; done)), rfl, rfl⟩
        · skip
          refine qG.blk 2 (pc' := 61) (ls' := [(2, 95), (0, ((n : Nat) : Int)), (0, ((m : Nat) : Int)), (0, d9), (9, 0)]) (st' := [(0, d9), (0, 50)]) (w' := w) (n' := 142) rfl ?_
          refine qG.br (P := d9 < 0) (pc1 := 64) (pc2 := 69) (st1 := [(0, 50)]) rfl (fun hd0 => ?_) (fun hd0 => ?_)
          · skip
            refine qG.blk 2 (pc' := 66) (ls' := [(2, 95), (0, ((n : Nat) : Int)), (0, ((m : Nat) : Int)), (0, d9), (9, 0)]) (st' := [(0, wrp (-d9)), (0, 50)]) (w' := w) (n' := 142) rfl ?_
            rw [show wrp (-d9) = -d9 from wrp_id (by omega) (by omega)]
            refine qG.blk 2 (pc' := 71) (ls' := [(2, 95), (0, ((n : Nat) : Int)), (0, ((m : Nat) : Int)), (0, d9), (9, 0)]) (st' := [(0, 2), (0, -d9), (0, 50)]) (w' := w) (n' := 142) rfl ?_
            refine qG.gn (P := 2 = 0) (pc' := 72) (ls' := [(2, 95), (0, ((n : Nat) : Int)), (0, ((m : Nat) : Int)), (0, d9), (9, 0)]) (st' := [(0, qdiv (-d9) 2), (0, 50)]) (w' := w) (n' := 142) rfl (by decide) ?_
            rw [show qdiv (-d9) 2 = (-d9) / 2 from qdiv_z (by omega) (by omega)]
            refine qG.blk 1 (pc' := 73) (ls' := [(2, 95), (0, ((n : Nat) : Int)), (0, ((m : Nat) : Int)), (0, d9), (9, 0)]) (st' := [(0, wrp (50 - ((-d9) / 2)))]) (w' := w) (n' := 142) rfl ?_
            rw [show wrp (50 - ((-d9) / 2)) = 50 - ((-d9) / 2) from wrp_id (by omega) (by omega)]
            refine qG.blk 3 (pc' := 78) (ls' := [(2, 95), (0, ((n : Nat) : Int)), (0, ((m : Nat) : Int)), (0, d9), (0, 50 - ((-d9) / 2))]) (st' := [(0, 1), (0, 50 - ((-d9) / 2))]) (w' := w) (n' := 142) rfl ?_
            refine qG.br (P := 50 - ((-d9) / 2) < 1) (pc1 := 81) (pc2 := 85) (st1 := []) rfl (fun hv1 => ?_) (fun hv1 => ?_)
            · skip
              refine qG.blk 3 (pc' := 111) (ls' := [(2, 95), (0, ((n : Nat) : Int)), (0, ((m : Nat) : Int)), (0, d9), (0, 1)]) (st' := []) (w' := w) (n' := 142) rfl ?_
              have egw : (1 : Int) = gwV (w 125 m - w 134 n) (w 135 n) := (by rw [hd9]; rw [hd9] at hc; unfold gwV; (repeat' split) <;> omega)
              rw [egw]
              refine qG.blk 3 (pc' := 117) (ls' := [(2, 95), (0, ((n : Nat) : Int)), (0, ((m : Nat) : Int)), (0, d9), (0, gwV (w 125 m - w 134 n) (w 135 n))]) (st' := [(2, w 95 69), (0, gwV (w 125 m - w 134 n) (w 135 n))]) (w' := w) (n' := 142) rfl ?_
              rw [show w 95 69 = 136 from zref hI rfl rfl]
              refine qG.blk 1 (pc' := 118) (ls' := [(2, 95), (0, ((n : Nat) : Int)), (0, ((m : Nat) : Int)), (0, d9), (0, gwV (w 125 m - w 134 n) (w 135 n))]) (st' := [(0, ((n : Nat) : Int)), (2, 136), (0, gwV (w 125 m - w 134 n) (w 135 n))]) (w' := w) (n' := 142) rfl ?_
              refine qG.ar (P := 0 ≤ ((n : Nat) : Int) ∧ ((n : Nat) : Int) < ((60 : Nat) : Int)) (P2 := 0 < (136 : Int) ∧ (136 : Int) ≤ ((142 : Nat) : Int)) (pc' := 119) (ls' := [(2, 95), (0, ((n : Nat) : Int)), (0, ((m : Nat) : Int)), (0, d9), (0, gwV (w 125 m - w 134 n) (w 135 n))]) (st' := [(0, w 136 n), (0, gwV (w 125 m - w 134 n) (w 135 n))]) (w' := w) (n' := 142) rfl (by omega) (by decide) ?_
              refine qG.blk 1 (pc' := 120) (ls' := [(2, 95), (0, ((n : Nat) : Int)), (0, ((m : Nat) : Int)), (0, d9), (0, gwV (w 125 m - w 134 n) (w 135 n))]) (st' := [(0, (-1)), (0, w 136 n), (0, gwV (w 125 m - w 134 n) (w 135 n))]) (w' := w) (n' := 142) rfl ?_
              refine qG.br (P := w 136 n = (-1)) (pc1 := 123) (pc2 := 127) (st1 := [(0, gwV (w 125 m - w 134 n) (w 135 n))]) rfl (fun ha1 => ?_) (fun ha1 => ?_)
              · skip
                refine qG.blk 3 (pc' := 143) (ls' := [(2, 95), (0, ((n : Nat) : Int)), (0, ((m : Nat) : Int)), (0, d9), (0, gwV (w 125 m - w 134 n) (w 135 n))]) (st' := [(0, wrp ((gwV (w 125 m - w 134 n) (w 135 n)) * 1))]) (w' := w) (n' := 142) rfl ?_
                rw [show wrp ((gwV (w 125 m - w 134 n) (w 135 n)) * 1) = (gwV (w 125 m - w 134 n) (w 135 n)) * 1 from wrp_id (by omega) (by omega)]
                refine qG.ret rfl rfl ?_
                subst hQ9
                exact ⟨congrArg (Prod.mk (0 : Nat)) (by first | exact (wg_n hmn).symm | (rw [wg_y hmy, hha2]; done) | (rw [wg_y hmy, show haV w n m = 1 from if_pos ha1]; done)), rfl, rfl⟩
              · skip
                obtain ⟨a9, ha9⟩ : ∃ q : Nat, w 136 n = (q : Int) := ⟨(w 136 n).toNat, by omega⟩
                have hha2 : haV w n m = w 128 (m * 3 + a9) := (by unfold haV; rw [if_neg (by omega), ha9, Int.toNat_natCast])
                rw [hha2] at hp9
                refine qG.blk 2 (pc' := 131) (ls' := [(2, 95), (0, ((n : Nat) : Int)), (0, ((m : Nat) : Int)), (0, d9), (0, gwV (w 125 m - w 134 n) (w 135 n))]) (st' := [(2, w 95 61), (0, gwV (w 125 m - w 134 n) (w 135 n))]) (w' := w) (n' := 142) rfl ?_
                rw [show w 95 61 = 128 from zref hI rfl rfl]
                refine qG.blk 3 (pc' := 134) (ls' := [(2, 95), (0, ((n : Nat) : Int)), (0, ((m : Nat) : Int)), (0, d9), (0, gwV (w 125 m - w 134 n) (w 135 n))]) (st' := [(0, wrp (3 * ((m : Nat) : Int))), (2, 128), (0, gwV (w 125 m - w 134 n) (w 135 n))]) (w' := w) (n' := 142) rfl ?_
                rw [show wrp (3 * ((m : Nat) : Int)) = ((3 * m : Nat) : Int) from by rw [wrp_id (by omega) (by omega)]; omega]
                refine qG.blk 2 (pc' := 138) (ls' := [(2, 95), (0, ((n : Nat) : Int)), (0, ((m : Nat) : Int)), (0, d9), (0, gwV (w 125 m - w 134 n) (w 135 n))]) (st' := [(2, w 95 69), (0, ((3 * m : Nat) : Int)), (2, 128), (0, gwV (w 125 m - w 134 n) (w 135 n))]) (w' := w) (n' := 142) rfl ?_
                rw [show w 95 69 = 136 from zref hI rfl rfl]
                refine qG.blk 1 (pc' := 139) (ls' := [(2, 95), (0, ((n : Nat) : Int)), (0, ((m : Nat) : Int)), (0, d9), (0, gwV (w 125 m - w 134 n) (w 135 n))]) (st' := [(0, ((n : Nat) : Int)), (2, 136), (0, ((3 * m : Nat) : Int)), (2, 128), (0, gwV (w 125 m - w 134 n) (w 135 n))]) (w' := w) (n' := 142) rfl ?_
                refine qG.ar (P := 0 ≤ ((n : Nat) : Int) ∧ ((n : Nat) : Int) < ((60 : Nat) : Int)) (P2 := 0 < (136 : Int) ∧ (136 : Int) ≤ ((142 : Nat) : Int)) (pc' := 140) (ls' := [(2, 95), (0, ((n : Nat) : Int)), (0, ((m : Nat) : Int)), (0, d9), (0, gwV (w 125 m - w 134 n) (w 135 n))]) (st' := [(0, w 136 n), (0, ((3 * m : Nat) : Int)), (2, 128), (0, gwV (w 125 m - w 134 n) (w 135 n))]) (w' := w) (n' := 142) rfl (by omega) (by decide) ?_
                refine qG.blk 1 (pc' := 141) (ls' := [(2, 95), (0, ((n : Nat) : Int)), (0, ((m : Nat) : Int)), (0, d9), (0, gwV (w 125 m - w 134 n) (w 135 n))]) (st' := [(0, wrp (((3 * m : Nat) : Int) + (w 136 n))), (2, 128), (0, gwV (w 125 m - w 134 n) (w 135 n))]) (w' := w) (n' := 142) rfl ?_
                rw [show wrp (((3 * m : Nat) : Int) + (w 136 n)) = ((m * 3 + a9 : Nat) : Int) from by rw [ha9, wrp_id (by omega) (by omega)]; omega]
                refine qG.ar (P := 0 ≤ ((m * 3 + a9 : Nat) : Int) ∧ ((m * 3 + a9 : Nat) : Int) < ((36 : Nat) : Int)) (P2 := 0 < (128 : Int) ∧ (128 : Int) ≤ ((142 : Nat) : Int)) (pc' := 142) (ls' := [(2, 95), (0, ((n : Nat) : Int)), (0, ((m : Nat) : Int)), (0, d9), (0, gwV (w 125 m - w 134 n) (w 135 n))]) (st' := [(0, w 128 (m * 3 + a9)), (0, gwV (w 125 m - w 134 n) (w 135 n))]) (w' := w) (n' := 142) rfl (by omega) (by decide) ?_
                refine qG.blk 1 (pc' := 143) (ls' := [(2, 95), (0, ((n : Nat) : Int)), (0, ((m : Nat) : Int)), (0, d9), (0, gwV (w 125 m - w 134 n) (w 135 n))]) (st' := [(0, wrp ((gwV (w 125 m - w 134 n) (w 135 n)) * (w 128 (m * 3 + a9))))]) (w' := w) (n' := 142) rfl ?_
                rw [show wrp ((gwV (w 125 m - w 134 n) (w 135 n)) * (w 128 (m * 3 + a9))) = (gwV (w 125 m - w 134 n) (w 135 n)) * (w 128 (m * 3 + a9)) from wrp_id (by omega) (by omega)]
                refine qG.ret rfl rfl ?_
                subst hQ9
                exact ⟨congrArg (Prod.mk (0 : Nat)) (by first | exact (wg_n hmn).symm | (rw [wg_y hmy, hha2]; done) | (rw [wg_y hmy, show haV w n m = 1 from if_pos ha1]; done)), rfl, rfl⟩
            · skip
              refine qG.blk 2 (pc' := 89) (ls' := [(2, 95), (0, ((n : Nat) : Int)), (0, ((m : Nat) : Int)), (0, d9), (0, 50 - ((-d9) / 2))]) (st' := [(2, w 95 68)]) (w' := w) (n' := 142) rfl ?_
              rw [show w 95 68 = 135 from zref hI rfl rfl]
              refine qG.blk 1 (pc' := 90) (ls' := [(2, 95), (0, ((n : Nat) : Int)), (0, ((m : Nat) : Int)), (0, d9), (0, 50 - ((-d9) / 2))]) (st' := [(0, ((n : Nat) : Int)), (2, 135)]) (w' := w) (n' := 142) rfl ?_
              refine qG.ar (P := 0 ≤ ((n : Nat) : Int) ∧ ((n : Nat) : Int) < ((60 : Nat) : Int)) (P2 := 0 < (135 : Int) ∧ (135 : Int) ≤ ((142 : Nat) : Int)) (pc' := 91) (ls' := [(2, 95), (0, ((n : Nat) : Int)), (0, ((m : Nat) : Int)), (0, d9), (0, 50 - ((-d9) / 2))]) (st' := [(0, w 135 n)]) (w' := w) (n' := 142) rfl (by omega) (by decide) ?_
              refine qG.blk 1 (pc' := 92) (ls' := [(2, 95), (0, ((n : Nat) : Int)), (0, ((m : Nat) : Int)), (0, d9), (0, 50 - ((-d9) / 2))]) (st' := [(0, 1), (0, w 135 n)]) (w' := w) (n' := 142) rfl ?_
              refine qG.br (P := w 135 n = 1) (pc1 := 107) (pc2 := 95) (st1 := []) rfl (fun he1 => ?_) (fun he1 => ?_)
              · skip
                refine qG.blk 2 (pc' := 111) (ls' := [(2, 95), (0, ((n : Nat) : Int)), (0, ((m : Nat) : Int)), (0, d9), (0, 50 - ((-d9) / 2))]) (st' := []) (w' := w) (n' := 142) rfl ?_
                have egw : (50 - ((-d9) / 2) : Int) = gwV (w 125 m - w 134 n) (w 135 n) := (by rw [hd9]; rw [hd9] at hc; unfold gwV; (repeat' split) <;> omega)
                rw [egw]
                refine qG.blk 3 (pc' := 117) (ls' := [(2, 95), (0, ((n : Nat) : Int)), (0, ((m : Nat) : Int)), (0, d9), (0, gwV (w 125 m - w 134 n) (w 135 n))]) (st' := [(2, w 95 69), (0, gwV (w 125 m - w 134 n) (w 135 n))]) (w' := w) (n' := 142) rfl ?_
                rw [show w 95 69 = 136 from zref hI rfl rfl]
                refine qG.blk 1 (pc' := 118) (ls' := [(2, 95), (0, ((n : Nat) : Int)), (0, ((m : Nat) : Int)), (0, d9), (0, gwV (w 125 m - w 134 n) (w 135 n))]) (st' := [(0, ((n : Nat) : Int)), (2, 136), (0, gwV (w 125 m - w 134 n) (w 135 n))]) (w' := w) (n' := 142) rfl ?_
                refine qG.ar (P := 0 ≤ ((n : Nat) : Int) ∧ ((n : Nat) : Int) < ((60 : Nat) : Int)) (P2 := 0 < (136 : Int) ∧ (136 : Int) ≤ ((142 : Nat) : Int)) (pc' := 119) (ls' := [(2, 95), (0, ((n : Nat) : Int)), (0, ((m : Nat) : Int)), (0, d9), (0, gwV (w 125 m - w 134 n) (w 135 n))]) (st' := [(0, w 136 n), (0, gwV (w 125 m - w 134 n) (w 135 n))]) (w' := w) (n' := 142) rfl (by omega) (by decide) ?_
                refine qG.blk 1 (pc' := 120) (ls' := [(2, 95), (0, ((n : Nat) : Int)), (0, ((m : Nat) : Int)), (0, d9), (0, gwV (w 125 m - w 134 n) (w 135 n))]) (st' := [(0, (-1)), (0, w 136 n), (0, gwV (w 125 m - w 134 n) (w 135 n))]) (w' := w) (n' := 142) rfl ?_
                refine qG.br (P := w 136 n = (-1)) (pc1 := 123) (pc2 := 127) (st1 := [(0, gwV (w 125 m - w 134 n) (w 135 n))]) rfl (fun ha1 => ?_) (fun ha1 => ?_)
                · skip
                  refine qG.blk 3 (pc' := 143) (ls' := [(2, 95), (0, ((n : Nat) : Int)), (0, ((m : Nat) : Int)), (0, d9), (0, gwV (w 125 m - w 134 n) (w 135 n))]) (st' := [(0, wrp ((gwV (w 125 m - w 134 n) (w 135 n)) * 1))]) (w' := w) (n' := 142) rfl ?_
                  rw [show wrp ((gwV (w 125 m - w 134 n) (w 135 n)) * 1) = (gwV (w 125 m - w 134 n) (w 135 n)) * 1 from wrp_id (by omega) (by omega)]
                  refine qG.ret rfl rfl ?_
                  subst hQ9
                  exact ⟨congrArg (Prod.mk (0 : Nat)) (by first | exact (wg_n hmn).symm | (rw [wg_y hmy, hha2]; done) | (rw [wg_y hmy, show haV w n m = 1 from if_pos ha1]; done)), rfl, rfl⟩
                · skip
                  obtain ⟨a9, ha9⟩ : ∃ q : Nat, w 136 n = (q : Int) := ⟨(w 136 n).toNat, by omega⟩
                  have hha2 : haV w n m = w 128 (m * 3 + a9) := (by unfold haV; rw [if_neg (by omega), ha9, Int.toNat_natCast])
                  rw [hha2] at hp9
                  refine qG.blk 2 (pc' := 131) (ls' := [(2, 95), (0, ((n : Nat) : Int)), (0, ((m : Nat) : Int)), (0, d9), (0, gwV (w 125 m - w 134 n) (w 135 n))]) (st' := [(2, w 95 61), (0, gwV (w 125 m - w 134 n) (w 135 n))]) (w' := w) (n' := 142) rfl ?_
                  rw [show w 95 61 = 128 from zref hI rfl rfl]
                  refine qG.blk 3 (pc' := 134) (ls' := [(2, 95), (0, ((n : Nat) : Int)), (0, ((m : Nat) : Int)), (0, d9), (0, gwV (w 125 m - w 134 n) (w 135 n))]) (st' := [(0, wrp (3 * ((m : Nat) : Int))), (2, 128), (0, gwV (w 125 m - w 134 n) (w 135 n))]) (w' := w) (n' := 142) rfl ?_
                  rw [show wrp (3 * ((m : Nat) : Int)) = ((3 * m : Nat) : Int) from by rw [wrp_id (by omega) (by omega)]; omega]
                  refine qG.blk 2 (pc' := 138) (ls' := [(2, 95), (0, ((n : Nat) : Int)), (0, ((m : Nat) : Int)), (0, d9), (0, gwV (w 125 m - w 134 n) (w 135 n))]) (st' := [(2, w 95 69), (0, ((3 * m : Nat) : Int)), (2, 128), (0, gwV (w 125 m - w 134 n) (w 135 n))]) (w' := w) (n' := 142) rfl ?_
                  rw [show w 95 69 = 136 from zref hI rfl rfl]
                  refine qG.blk 1 (pc' := 139) (ls' := [(2, 95), (0, ((n : Nat) : Int)), (0, ((m : Nat) : Int)), (0, d9), (0, gwV (w 125 m - w 134 n) (w 135 n))]) (st' := [(0, ((n : Nat) : Int)), (2, 136), (0, ((3 * m : Nat) : Int)), (2, 128), (0, gwV (w 125 m - w 134 n) (w 135 n))]) (w' := w) (n' := 142) rfl ?_
                  refine qG.ar (P := 0 ≤ ((n : Nat) : Int) ∧ ((n : Nat) : Int) < ((60 : Nat) : Int)) (P2 := 0 < (136 : Int) ∧ (136 : Int) ≤ ((142 : Nat) : Int)) (pc' := 140) (ls' := [(2, 95), (0, ((n : Nat) : Int)), (0, ((m : Nat) : Int)), (0, d9), (0, gwV (w 125 m - w 134 n) (w 135 n))]) (st' := [(0, w 136 n), (0, ((3 * m : Nat) : Int)), (2, 128), (0, gwV (w 125 m - w 134 n) (w 135 n))]) (w' := w) (n' := 142) rfl (by omega) (by decide) ?_
                  refine qG.blk 1 (pc' := 141) (ls' := [(2, 95), (0, ((n : Nat) : Int)), (0, ((m : Nat) : Int)), (0, d9), (0, gwV (w 125 m - w 134 n) (w 135 n))]) (st' := [(0, wrp (((3 * m : Nat) : Int) + (w 136 n))), (2, 128), (0, gwV (w 125 m - w 134 n) (w 135 n))]) (w' := w) (n' := 142) rfl ?_
                  rw [show wrp (((3 * m : Nat) : Int) + (w 136 n)) = ((m * 3 + a9 : Nat) : Int) from by rw [ha9, wrp_id (by omega) (by omega)]; omega]
                  refine qG.ar (P := 0 ≤ ((m * 3 + a9 : Nat) : Int) ∧ ((m * 3 + a9 : Nat) : Int) < ((36 : Nat) : Int)) (P2 := 0 < (128 : Int) ∧ (128 : Int) ≤ ((142 : Nat) : Int)) (pc' := 142) (ls' := [(2, 95), (0, ((n : Nat) : Int)), (0, ((m : Nat) : Int)), (0, d9), (0, gwV (w 125 m - w 134 n) (w 135 n))]) (st' := [(0, w 128 (m * 3 + a9)), (0, gwV (w 125 m - w 134 n) (w 135 n))]) (w' := w) (n' := 142) rfl (by omega) (by decide) ?_
                  refine qG.blk 1 (pc' := 143) (ls' := [(2, 95), (0, ((n : Nat) : Int)), (0, ((m : Nat) : Int)), (0, d9), (0, gwV (w 125 m - w 134 n) (w 135 n))]) (st' := [(0, wrp ((gwV (w 125 m - w 134 n) (w 135 n)) * (w 128 (m * 3 + a9))))]) (w' := w) (n' := 142) rfl ?_
                  rw [show wrp ((gwV (w 125 m - w 134 n) (w 135 n)) * (w 128 (m * 3 + a9))) = (gwV (w 125 m - w 134 n) (w 135 n)) * (w 128 (m * 3 + a9)) from wrp_id (by omega) (by omega)]
                  refine qG.ret rfl rfl ?_
                  subst hQ9
                  exact ⟨congrArg (Prod.mk (0 : Nat)) (by first | exact (wg_n hmn).symm | (rw [wg_y hmy, hha2]; done) | (rw [wg_y hmy, show haV w n m = 1 from if_pos ha1]; done)), rfl, rfl⟩
              · skip
                refine qG.blk 2 (pc' := 99) (ls' := [(2, 95), (0, ((n : Nat) : Int)), (0, ((m : Nat) : Int)), (0, d9), (0, 50 - ((-d9) / 2))]) (st' := [(0, 99), (0, 50 - ((-d9) / 2))]) (w' := w) (n' := 142) rfl ?_
                refine qG.br (P := 99 < 50 - ((-d9) / 2)) (pc1 := 102) (pc2 := 107) (st1 := []) rfl (fun hv9 => ?_) (fun hv9 => ?_)
                · skip
                  refine qG.blk 3 (pc' := 111) (ls' := [(2, 95), (0, ((n : Nat) : Int)), (0, ((m : Nat) : Int)), (0, d9), (0, 99)]) (st' := []) (w' := w) (n' := 142) rfl ?_
                  have egw : (99 : Int) = gwV (w 125 m - w 134 n) (w 135 n) := (by rw [hd9]; rw [hd9] at hc; unfold gwV; (repeat' split) <;> omega)
                  rw [egw]
                  refine qG.blk 3 (pc' := 117) (ls' := [(2, 95), (0, ((n : Nat) : Int)), (0, ((m : Nat) : Int)), (0, d9), (0, gwV (w 125 m - w 134 n) (w 135 n))]) (st' := [(2, w 95 69), (0, gwV (w 125 m - w 134 n) (w 135 n))]) (w' := w) (n' := 142) rfl ?_
                  rw [show w 95 69 = 136 from zref hI rfl rfl]
                  refine qG.blk 1 (pc' := 118) (ls' := [(2, 95), (0, ((n : Nat) : Int)), (0, ((m : Nat) : Int)), (0, d9), (0, gwV (w 125 m - w 134 n) (w 135 n))]) (st' := [(0, ((n : Nat) : Int)), (2, 136), (0, gwV (w 125 m - w 134 n) (w 135 n))]) (w' := w) (n' := 142) rfl ?_
                  refine qG.ar (P := 0 ≤ ((n : Nat) : Int) ∧ ((n : Nat) : Int) < ((60 : Nat) : Int)) (P2 := 0 < (136 : Int) ∧ (136 : Int) ≤ ((142 : Nat) : Int)) (pc' := 119) (ls' := [(2, 95), (0, ((n : Nat) : Int)), (0, ((m : Nat) : Int)), (0, d9), (0, gwV (w 125 m - w 134 n) (w 135 n))]) (st' := [(0, w 136 n), (0, gwV (w 125 m - w 134 n) (w 135 n))]) (w' := w) (n' := 142) rfl (by omega) (by decide) ?_
                  refine qG.blk 1 (pc' := 120) (ls' := [(2, 95), (0, ((n : Nat) : Int)), (0, ((m : Nat) : Int)), (0, d9), (0, gwV (w 125 m - w 134 n) (w 135 n))]) (st' := [(0, (-1)), (0, w 136 n), (0, gwV (w 125 m - w 134 n) (w 135 n))]) (w' := w) (n' := 142) rfl ?_
                  refine qG.br (P := w 136 n = (-1)) (pc1 := 123) (pc2 := 127) (st1 := [(0, gwV (w 125 m - w 134 n) (w 135 n))]) rfl (fun ha1 => ?_) (fun ha1 => ?_)
                  · skip
                    refine qG.blk 3 (pc' := 143) (ls' := [(2, 95), (0, ((n : Nat) : Int)), (0, ((m : Nat) : Int)), (0, d9), (0, gwV (w 125 m - w 134 n) (w 135 n))]) (st' := [(0, wrp ((gwV (w 125 m - w 134 n) (w 135 n)) * 1))]) (w' := w) (n' := 142) rfl ?_
                    rw [show wrp ((gwV (w 125 m - w 134 n) (w 135 n)) * 1) = (gwV (w 125 m - w 134 n) (w 135 n)) * 1 from wrp_id (by omega) (by omega)]
                    refine qG.ret rfl rfl ?_
                    subst hQ9
                    exact ⟨congrArg (Prod.mk (0 : Nat)) (by first | exact (wg_n hmn).symm | (rw [wg_y hmy, hha2]; done) | (rw [wg_y hmy, show haV w n m = 1 from if_pos ha1]; done)), rfl, rfl⟩
                  · skip
                    obtain ⟨a9, ha9⟩ : ∃ q : Nat, w 136 n = (q : Int) := ⟨(w 136 n).toNat, by omega⟩
                    have hha2 : haV w n m = w 128 (m * 3 + a9) := (by unfold haV; rw [if_neg (by omega), ha9, Int.toNat_natCast])
                    rw [hha2] at hp9
                    refine qG.blk 2 (pc' := 131) (ls' := [(2, 95), (0, ((n : Nat) : Int)), (0, ((m : Nat) : Int)), (0, d9), (0, gwV (w 125 m - w 134 n) (w 135 n))]) (st' := [(2, w 95 61), (0, gwV (w 125 m - w 134 n) (w 135 n))]) (w' := w) (n' := 142) rfl ?_
                    rw [show w 95 61 = 128 from zref hI rfl rfl]
                    refine qG.blk 3 (pc' := 134) (ls' := [(2, 95), (0, ((n : Nat) : Int)), (0, ((m : Nat) : Int)), (0, d9), (0, gwV (w 125 m - w 134 n) (w 135 n))]) (st' := [(0, wrp (3 * ((m : Nat) : Int))), (2, 128), (0, gwV (w 125 m - w 134 n) (w 135 n))]) (w' := w) (n' := 142) rfl ?_
                    rw [show wrp (3 * ((m : Nat) : Int)) = ((3 * m : Nat) : Int) from by rw [wrp_id (by omega) (by omega)]; omega]
                    refine qG.blk 2 (pc' := 138) (ls' := [(2, 95), (0, ((n : Nat) : Int)), (0, ((m : Nat) : Int)), (0, d9), (0, gwV (w 125 m - w 134 n) (w 135 n))]) (st' := [(2, w 95 69), (0, ((3 * m : Nat) : Int)), (2, 128), (0, gwV (w 125 m - w 134 n) (w 135 n))]) (w' := w) (n' := 142) rfl ?_
                    rw [show w 95 69 = 136 from zref hI rfl rfl]
                    refine qG.blk 1 (pc' := 139) (ls' := [(2, 95), (0, ((n : Nat) : Int)), (0, ((m : Nat) : Int)), (0, d9), (0, gwV (w 125 m - w 134 n) (w 135 n))]) (st' := [(0, ((n : Nat) : Int)), (2, 136), (0, ((3 * m : Nat) : Int)), (2, 128), (0, gwV (w 125 m - w 134 n) (w 135 n))]) (w' := w) (n' := 142) rfl ?_
                    refine qG.ar (P := 0 ≤ ((n : Nat) : Int) ∧ ((n : Nat) : Int) < ((60 : Nat) : Int)) (P2 := 0 < (136 : Int) ∧ (136 : Int) ≤ ((142 : Nat) : Int)) (pc' := 140) (ls' := [(2, 95), (0, ((n : Nat) : Int)), (0, ((m : Nat) : Int)), (0, d9), (0, gwV (w 125 m - w 134 n) (w 135 n))]) (st' := [(0, w 136 n), (0, ((3 * m : Nat) : Int)), (2, 128), (0, gwV (w 125 m - w 134 n) (w 135 n))]) (w' := w) (n' := 142) rfl (by omega) (by decide) ?_
                    refine qG.blk 1 (pc' := 141) (ls' := [(2, 95), (0, ((n : Nat) : Int)), (0, ((m : Nat) : Int)), (0, d9), (0, gwV (w 125 m - w 134 n) (w 135 n))]) (st' := [(0, wrp (((3 * m : Nat) : Int) + (w 136 n))), (2, 128), (0, gwV (w 125 m - w 134 n) (w 135 n))]) (w' := w) (n' := 142) rfl ?_
                    rw [show wrp (((3 * m : Nat) : Int) + (w 136 n)) = ((m * 3 + a9 : Nat) : Int) from by rw [ha9, wrp_id (by omega) (by omega)]; omega]
                    refine qG.ar (P := 0 ≤ ((m * 3 + a9 : Nat) : Int) ∧ ((m * 3 + a9 : Nat) : Int) < ((36 : Nat) : Int)) (P2 := 0 < (128 : Int) ∧ (128 : Int) ≤ ((142 : Nat) : Int)) (pc' := 142) (ls' := [(2, 95), (0, ((n : Nat) : Int)), (0, ((m : Nat) : Int)), (0, d9), (0, gwV (w 125 m - w 134 n) (w 135 n))]) (st' := [(0, w 128 (m * 3 + a9)), (0, gwV (w 125 m - w 134 n) (w 135 n))]) (w' := w) (n' := 142) rfl (by omega) (by decide) ?_
                    refine qG.blk 1 (pc' := 143) (ls' := [(2, 95), (0, ((n : Nat) : Int)), (0, ((m : Nat) : Int)), (0, d9), (0, gwV (w 125 m - w 134 n) (w 135 n))]) (st' := [(0, wrp ((gwV (w 125 m - w 134 n) (w 135 n)) * (w 128 (m * 3 + a9))))]) (w' := w) (n' := 142) rfl ?_
                    rw [show wrp ((gwV (w 125 m - w 134 n) (w 135 n)) * (w 128 (m * 3 + a9))) = (gwV (w 125 m - w 134 n) (w 135 n)) * (w 128 (m * 3 + a9)) from wrp_id (by omega) (by omega)]
                    refine qG.ret rfl rfl ?_
                    subst hQ9
                    exact ⟨congrArg (Prod.mk (0 : Nat)) (by first | exact (wg_n hmn).symm | (rw [wg_y hmy, hha2]; done) | (rw [wg_y hmy, show haV w n m = 1 from if_pos ha1]; done)), rfl, rfl⟩
                · skip
                  refine qG.blk 2 (pc' := 111) (ls' := [(2, 95), (0, ((n : Nat) : Int)), (0, ((m : Nat) : Int)), (0, d9), (0, 50 - ((-d9) / 2))]) (st' := []) (w' := w) (n' := 142) rfl ?_
                  have egw : (50 - ((-d9) / 2) : Int) = gwV (w 125 m - w 134 n) (w 135 n) := (by rw [hd9]; rw [hd9] at hc; unfold gwV; (repeat' split) <;> omega)
                  rw [egw]
                  refine qG.blk 3 (pc' := 117) (ls' := [(2, 95), (0, ((n : Nat) : Int)), (0, ((m : Nat) : Int)), (0, d9), (0, gwV (w 125 m - w 134 n) (w 135 n))]) (st' := [(2, w 95 69), (0, gwV (w 125 m - w 134 n) (w 135 n))]) (w' := w) (n' := 142) rfl ?_
                  rw [show w 95 69 = 136 from zref hI rfl rfl]
                  refine qG.blk 1 (pc' := 118) (ls' := [(2, 95), (0, ((n : Nat) : Int)), (0, ((m : Nat) : Int)), (0, d9), (0, gwV (w 125 m - w 134 n) (w 135 n))]) (st' := [(0, ((n : Nat) : Int)), (2, 136), (0, gwV (w 125 m - w 134 n) (w 135 n))]) (w' := w) (n' := 142) rfl ?_
                  refine qG.ar (P := 0 ≤ ((n : Nat) : Int) ∧ ((n : Nat) : Int) < ((60 : Nat) : Int)) (P2 := 0 < (136 : Int) ∧ (136 : Int) ≤ ((142 : Nat) : Int)) (pc' := 119) (ls' := [(2, 95), (0, ((n : Nat) : Int)), (0, ((m : Nat) : Int)), (0, d9), (0, gwV (w 125 m - w 134 n) (w 135 n))]) (st' := [(0, w 136 n), (0, gwV (w 125 m - w 134 n) (w 135 n))]) (w' := w) (n' := 142) rfl (by omega) (by decide) ?_
                  refine qG.blk 1 (pc' := 120) (ls' := [(2, 95), (0, ((n : Nat) : Int)), (0, ((m : Nat) : Int)), (0, d9), (0, gwV (w 125 m - w 134 n) (w 135 n))]) (st' := [(0, (-1)), (0, w 136 n), (0, gwV (w 125 m - w 134 n) (w 135 n))]) (w' := w) (n' := 142) rfl ?_
                  refine qG.br (P := w 136 n = (-1)) (pc1 := 123) (pc2 := 127) (st1 := [(0, gwV (w 125 m - w 134 n) (w 135 n))]) rfl (fun ha1 => ?_) (fun ha1 => ?_)
                  · skip
                    refine qG.blk 3 (pc' := 143) (ls' := [(2, 95), (0, ((n : Nat) : Int)), (0, ((m : Nat) : Int)), (0, d9), (0, gwV (w 125 m - w 134 n) (w 135 n))]) (st' := [(0, wrp ((gwV (w 125 m - w 134 n) (w 135 n)) * 1))]) (w' := w) (n' := 142) rfl ?_
                    rw [show wrp ((gwV (w 125 m - w 134 n) (w 135 n)) * 1) = (gwV (w 125 m - w 134 n) (w 135 n)) * 1 from wrp_id (by omega) (by omega)]
                    refine qG.ret rfl rfl ?_
                    subst hQ9
                    exact ⟨congrArg (Prod.mk (0 : Nat)) (by first | exact (wg_n hmn).symm | (rw [wg_y hmy, hha2]; done) | (rw [wg_y hmy, show haV w n m = 1 from if_pos ha1]; done)), rfl, rfl⟩
                  · skip
                    obtain ⟨a9, ha9⟩ : ∃ q : Nat, w 136 n = (q : Int) := ⟨(w 136 n).toNat, by omega⟩
                    have hha2 : haV w n m = w 128 (m * 3 + a9) := (by unfold haV; rw [if_neg (by omega), ha9, Int.toNat_natCast])
                    rw [hha2] at hp9
                    refine qG.blk 2 (pc' := 131) (ls' := [(2, 95), (0, ((n : Nat) : Int)), (0, ((m : Nat) : Int)), (0, d9), (0, gwV (w 125 m - w 134 n) (w 135 n))]) (st' := [(2, w 95 61), (0, gwV (w 125 m - w 134 n) (w 135 n))]) (w' := w) (n' := 142) rfl ?_
                    rw [show w 95 61 = 128 from zref hI rfl rfl]
                    refine qG.blk 3 (pc' := 134) (ls' := [(2, 95), (0, ((n : Nat) : Int)), (0, ((m : Nat) : Int)), (0, d9), (0, gwV (w 125 m - w 134 n) (w 135 n))]) (st' := [(0, wrp (3 * ((m : Nat) : Int))), (2, 128), (0, gwV (w 125 m - w 134 n) (w 135 n))]) (w' := w) (n' := 142) rfl ?_
                    rw [show wrp (3 * ((m : Nat) : Int)) = ((3 * m : Nat) : Int) from by rw [wrp_id (by omega) (by omega)]; omega]
                    refine qG.blk 2 (pc' := 138) (ls' := [(2, 95), (0, ((n : Nat) : Int)), (0, ((m : Nat) : Int)), (0, d9), (0, gwV (w 125 m - w 134 n) (w 135 n))]) (st' := [(2, w 95 69), (0, ((3 * m : Nat) : Int)), (2, 128), (0, gwV (w 125 m - w 134 n) (w 135 n))]) (w' := w) (n' := 142) rfl ?_
                    rw [show w 95 69 = 136 from zref hI rfl rfl]
                    refine qG.blk 1 (pc' := 139) (ls' := [(2, 95), (0, ((n : Nat) : Int)), (0, ((m : Nat) : Int)), (0, d9), (0, gwV (w 125 m - w 134 n) (w 135 n))]) (st' := [(0, ((n : Nat) : Int)), (2, 136), (0, ((3 * m : Nat) : Int)), (2, 128), (0, gwV (w 125 m - w 134 n) (w 135 n))]) (w' := w) (n' := 142) rfl ?_
                    refine qG.ar (P := 0 ≤ ((n : Nat) : Int) ∧ ((n : Nat) : Int) < ((60 : Nat) : Int)) (P2 := 0 < (136 : Int) ∧ (136 : Int) ≤ ((142 : Nat) : Int)) (pc' := 140) (ls' := [(2, 95), (0, ((n : Nat) : Int)), (0, ((m : Nat) : Int)), (0, d9), (0, gwV (w 125 m - w 134 n) (w 135 n))]) (st' := [(0, w 136 n), (0, ((3 * m : Nat) : Int)), (2, 128), (0, gwV (w 125 m - w 134 n) (w 135 n))]) (w' := w) (n' := 142) rfl (by omega) (by decide) ?_
                    refine qG.blk 1 (pc' := 141) (ls' := [(2, 95), (0, ((n : Nat) : Int)), (0, ((m : Nat) : Int)), (0, d9), (0, gwV (w 125 m - w 134 n) (w 135 n))]) (st' := [(0, wrp (((3 * m : Nat) : Int) + (w 136 n))), (2, 128), (0, gwV (w 125 m - w 134 n) (w 135 n))]) (w' := w) (n' := 142) rfl ?_
                    rw [show wrp (((3 * m : Nat) : Int) + (w 136 n)) = ((m * 3 + a9 : Nat) : Int) from by rw [ha9, wrp_id (by omega) (by omega)]; omega]
                    refine qG.ar (P := 0 ≤ ((m * 3 + a9 : Nat) : Int) ∧ ((m * 3 + a9 : Nat) : Int) < ((36 : Nat) : Int)) (P2 := 0 < (128 : Int) ∧ (128 : Int) ≤ ((142 : Nat) : Int)) (pc' := 142) (ls' := [(2, 95), (0, ((n : Nat) : Int)), (0, ((m : Nat) : Int)), (0, d9), (0, gwV (w 125 m - w 134 n) (w 135 n))]) (st' := [(0, w 128 (m * 3 + a9)), (0, gwV (w 125 m - w 134 n) (w 135 n))]) (w' := w) (n' := 142) rfl (by omega) (by decide) ?_
                    refine qG.blk 1 (pc' := 143) (ls' := [(2, 95), (0, ((n : Nat) : Int)), (0, ((m : Nat) : Int)), (0, d9), (0, gwV (w 125 m - w 134 n) (w 135 n))]) (st' := [(0, wrp ((gwV (w 125 m - w 134 n) (w 135 n)) * (w 128 (m * 3 + a9))))]) (w' := w) (n' := 142) rfl ?_
                    rw [show wrp ((gwV (w 125 m - w 134 n) (w 135 n)) * (w 128 (m * 3 + a9))) = (gwV (w 125 m - w 134 n) (w 135 n)) * (w 128 (m * 3 + a9)) from wrp_id (by omega) (by omega)]
                    refine qG.ret rfl rfl ?_
                    subst hQ9
                    exact ⟨congrArg (Prod.mk (0 : Nat)) (by first | exact (wg_n hmn).symm | (rw [wg_y hmy, hha2]; done) | (rw [wg_y hmy, show haV w n m = 1 from if_pos ha1]; done)), rfl, rfl⟩
          · skip
            refine qG.blk 2 (pc' := 71) (ls' := [(2, 95), (0, ((n : Nat) : Int)), (0, ((m : Nat) : Int)), (0, d9), (9, 0)]) (st' := [(0, 2), (0, d9), (0, 50)]) (w' := w) (n' := 142) rfl ?_
            refine qG.gn (P := 2 = 0) (pc' := 72) (ls' := [(2, 95), (0, ((n : Nat) : Int)), (0, ((m : Nat) : Int)), (0, d9), (9, 0)]) (st' := [(0, qdiv d9 2), (0, 50)]) (w' := w) (n' := 142) rfl (by decide) ?_
            rw [show qdiv d9 2 = d9 / 2 from qdiv_z (by omega) (by omega)]
            refine qG.blk 1 (pc' := 73) (ls' := [(2, 95), (0, ((n : Nat) : Int)), (0, ((m : Nat) : Int)), (0, d9), (9, 0)]) (st' := [(0, wrp (50 - (d9 / 2)))]) (w' := w) (n' := 142) rfl ?_
            rw [show wrp (50 - (d9 / 2)) = 50 - (d9 / 2) from wrp_id (by omega) (by omega)]
            refine qG.blk 3 (pc' := 78) (ls' := [(2, 95), (0, ((n : Nat) : Int)), (0, ((m : Nat) : Int)), (0, d9), (0, 50 - (d9 / 2))]) (st' := [(0, 1), (0, 50 - (d9 / 2))]) (w' := w) (n' := 142) rfl ?_
            refine qG.br (P := 50 - (d9 / 2) < 1) (pc1 := 81) (pc2 := 85) (st1 := []) rfl (fun hv1 => ?_) (fun hv1 => ?_)
            · skip
              refine qG.blk 3 (pc' := 111) (ls' := [(2, 95), (0, ((n : Nat) : Int)), (0, ((m : Nat) : Int)), (0, d9), (0, 1)]) (st' := []) (w' := w) (n' := 142) rfl ?_
              have egw : (1 : Int) = gwV (w 125 m - w 134 n) (w 135 n) := (by rw [hd9]; rw [hd9] at hc; unfold gwV; (repeat' split) <;> omega)
              rw [egw]
              refine qG.blk 3 (pc' := 117) (ls' := [(2, 95), (0, ((n : Nat) : Int)), (0, ((m : Nat) : Int)), (0, d9), (0, gwV (w 125 m - w 134 n) (w 135 n))]) (st' := [(2, w 95 69), (0, gwV (w 125 m - w 134 n) (w 135 n))]) (w' := w) (n' := 142) rfl ?_
              rw [show w 95 69 = 136 from zref hI rfl rfl]
              refine qG.blk 1 (pc' := 118) (ls' := [(2, 95), (0, ((n : Nat) : Int)), (0, ((m : Nat) : Int)), (0, d9), (0, gwV (w 125 m - w 134 n) (w 135 n))]) (st' := [(0, ((n : Nat) : Int)), (2, 136), (0, gwV (w 125 m - w 134 n) (w 135 n))]) (w' := w) (n' := 142) rfl ?_
              refine qG.ar (P := 0 ≤ ((n : Nat) : Int) ∧ ((n : Nat) : Int) < ((60 : Nat) : Int)) (P2 := 0 < (136 : Int) ∧ (136 : Int) ≤ ((142 : Nat) : Int)) (pc' := 119) (ls' := [(2, 95), (0, ((n : Nat) : Int)), (0, ((m : Nat) : Int)), (0, d9), (0, gwV (w 125 m - w 134 n) (w 135 n))]) (st' := [(0, w 136 n), (0, gwV (w 125 m - w 134 n) (w 135 n))]) (w' := w) (n' := 142) rfl (by omega) (by decide) ?_
              refine qG.blk 1 (pc' := 120) (ls' := [(2, 95), (0, ((n : Nat) : Int)), (0, ((m : Nat) : Int)), (0, d9), (0, gwV (w 125 m - w 134 n) (w 135 n))]) (st' := [(0, (-1)), (0, w 136 n), (0, gwV (w 125 m - w 134 n) (w 135 n))]) (w' := w) (n' := 142) rfl ?_
              refine qG.br (P := w 136 n = (-1)) (pc1 := 123) (pc2 := 127) (st1 := [(0, gwV (w 125 m - w 134 n) (w 135 n))]) rfl (fun ha1 => ?_) (fun ha1 => ?_)
              · skip
                refine qG.blk 3 (pc' := 143) (ls' := [(2, 95), (0, ((n : Nat) : Int)), (0, ((m : Nat) : Int)), (0, d9), (0, gwV (w 125 m - w 134 n) (w 135 n))]) (st' := [(0, wrp ((gwV (w 125 m - w 134 n) (w 135 n)) * 1))]) (w' := w) (n' := 142) rfl ?_
                rw [show wrp ((gwV (w 125 m - w 134 n) (w 135 n)) * 1) = (gwV (w 125 m - w 134 n) (w 135 n)) * 1 from wrp_id (by omega) (by omega)]
                refine qG.ret rfl rfl ?_
                subst hQ9
                exact ⟨congrArg (Prod.mk (0 : Nat)) (by first | exact (wg_n hmn).symm | (rw [wg_y hmy, hha2]; done) | (rw [wg_y hmy, show haV w n m = 1 from if_pos ha1]; done)), rfl, rfl⟩
              · skip
                obtain ⟨a9, ha9⟩ : ∃ q : Nat, w 136 n = (q : Int) := ⟨(w 136 n).toNat, by omega⟩
                have hha2 : haV w n m = w 128 (m * 3 + a9) := (by unfold haV; rw [if_neg (by omega), ha9, Int.toNat_natCast])
                rw [hha2] at hp9
                refine qG.blk 2 (pc' := 131) (ls' := [(2, 95), (0, ((n : Nat) : Int)), (0, ((m : Nat) : Int)), (0, d9), (0, gwV (w 125 m - w 134 n) (w 135 n))]) (st' := [(2, w 95 61), (0, gwV (w 125 m - w 134 n) (w 135 n))]) (w' := w) (n' := 142) rfl ?_
                rw [show w 95 61 = 128 from zref hI rfl rfl]
                refine qG.blk 3 (pc' := 134) (ls' := [(2, 95), (0, ((n : Nat) : Int)), (0, ((m : Nat) : Int)), (0, d9), (0, gwV (w 125 m - w 134 n) (w 135 n))]) (st' := [(0, wrp (3 * ((m : Nat) : Int))), (2, 128), (0, gwV (w 125 m - w 134 n) (w 135 n))]) (w' := w) (n' := 142) rfl ?_
                rw [show wrp (3 * ((m : Nat) : Int)) = ((3 * m : Nat) : Int) from by rw [wrp_id (by omega) (by omega)]; omega]
                refine qG.blk 2 (pc' := 138) (ls' := [(2, 95), (0, ((n : Nat) : Int)), (0, ((m : Nat) : Int)), (0, d9), (0, gwV (w 125 m - w 134 n) (w 135 n))]) (st' := [(2, w 95 69), (0, ((3 * m : Nat) : Int)), (2, 128), (0, gwV (w 125 m - w 134 n) (w 135 n))]) (w' := w) (n' := 142) rfl ?_
                rw [show w 95 69 = 136 from zref hI rfl rfl]
                refine qG.blk 1 (pc' := 139) (ls' := [(2, 95), (0, ((n : Nat) : Int)), (0, ((m : Nat) : Int)), (0, d9), (0, gwV (w 125 m - w 134 n) (w 135 n))]) (st' := [(0, ((n : Nat) : Int)), (2, 136), (0, ((3 * m : Nat) : Int)), (2, 128), (0, gwV (w 125 m - w 134 n) (w 135 n))]) (w' := w) (n' := 142) rfl ?_
                refine qG.ar (P := 0 ≤ ((n : Nat) : Int) ∧ ((n : Nat) : Int) < ((60 : Nat) : Int)) (P2 := 0 < (136 : Int) ∧ (136 : Int) ≤ ((142 : Nat) : Int)) (pc' := 140) (ls' := [(2, 95), (0, ((n : Nat) : Int)), (0, ((m : Nat) : Int)), (0, d9), (0, gwV (w 125 m - w 134 n) (w 135 n))]) (st' := [(0, w 136 n), (0, ((3 * m : Nat) : Int)), (2, 128), (0, gwV (w 125 m - w 134 n) (w 135 n))]) (w' := w) (n' := 142) rfl (by omega) (by decide) ?_
                refine qG.blk 1 (pc' := 141) (ls' := [(2, 95), (0, ((n : Nat) : Int)), (0, ((m : Nat) : Int)), (0, d9), (0, gwV (w 125 m - w 134 n) (w 135 n))]) (st' := [(0, wrp (((3 * m : Nat) : Int) + (w 136 n))), (2, 128), (0, gwV (w 125 m - w 134 n) (w 135 n))]) (w' := w) (n' := 142) rfl ?_
                rw [show wrp (((3 * m : Nat) : Int) + (w 136 n)) = ((m * 3 + a9 : Nat) : Int) from by rw [ha9, wrp_id (by omega) (by omega)]; omega]
                refine qG.ar (P := 0 ≤ ((m * 3 + a9 : Nat) : Int) ∧ ((m * 3 + a9 : Nat) : Int) < ((36 : Nat) : Int)) (P2 := 0 < (128 : Int) ∧ (128 : Int) ≤ ((142 : Nat) : Int)) (pc' := 142) (ls' := [(2, 95), (0, ((n : Nat) : Int)), (0, ((m : Nat) : Int)), (0, d9), (0, gwV (w 125 m - w 134 n) (w 135 n))]) (st' := [(0, w 128 (m * 3 + a9)), (0, gwV (w 125 m - w 134 n) (w 135 n))]) (w' := w) (n' := 142) rfl (by omega) (by decide) ?_
                refine qG.blk 1 (pc' := 143) (ls' := [(2, 95), (0, ((n : Nat) : Int)), (0, ((m : Nat) : Int)), (0, d9), (0, gwV (w 125 m - w 134 n) (w 135 n))]) (st' := [(0, wrp ((gwV (w 125 m - w 134 n) (w 135 n)) * (w 128 (m * 3 + a9))))]) (w' := w) (n' := 142) rfl ?_
                rw [show wrp ((gwV (w 125 m - w 134 n) (w 135 n)) * (w 128 (m * 3 + a9))) = (gwV (w 125 m - w 134 n) (w 135 n)) * (w 128 (m * 3 + a9)) from wrp_id (by omega) (by omega)]
                refine qG.ret rfl rfl ?_
                subst hQ9
                exact ⟨congrArg (Prod.mk (0 : Nat)) (by first | exact (wg_n hmn).symm | (rw [wg_y hmy, hha2]; done) | (rw [wg_y hmy, show haV w n m = 1 from if_pos ha1]; done)), rfl, rfl⟩
            · skip
              refine qG.blk 2 (pc' := 89) (ls' := [(2, 95), (0, ((n : Nat) : Int)), (0, ((m : Nat) : Int)), (0, d9), (0, 50 - (d9 / 2))]) (st' := [(2, w 95 68)]) (w' := w) (n' := 142) rfl ?_
              rw [show w 95 68 = 135 from zref hI rfl rfl]
              refine qG.blk 1 (pc' := 90) (ls' := [(2, 95), (0, ((n : Nat) : Int)), (0, ((m : Nat) : Int)), (0, d9), (0, 50 - (d9 / 2))]) (st' := [(0, ((n : Nat) : Int)), (2, 135)]) (w' := w) (n' := 142) rfl ?_
              refine qG.ar (P := 0 ≤ ((n : Nat) : Int) ∧ ((n : Nat) : Int) < ((60 : Nat) : Int)) (P2 := 0 < (135 : Int) ∧ (135 : Int) ≤ ((142 : Nat) : Int)) (pc' := 91) (ls' := [(2, 95), (0, ((n : Nat) : Int)), (0, ((m : Nat) : Int)), (0, d9), (0, 50 - (d9 / 2))]) (st' := [(0, w 135 n)]) (w' := w) (n' := 142) rfl (by omega) (by decide) ?_
              refine qG.blk 1 (pc' := 92) (ls' := [(2, 95), (0, ((n : Nat) : Int)), (0, ((m : Nat) : Int)), (0, d9), (0, 50 - (d9 / 2))]) (st' := [(0, 1), (0, w 135 n)]) (w' := w) (n' := 142) rfl ?_
              refine qG.br (P := w 135 n = 1) (pc1 := 107) (pc2 := 95) (st1 := []) rfl (fun he1 => ?_) (fun he1 => ?_)
              · skip
                refine qG.blk 2 (pc' := 111) (ls' := [(2, 95), (0, ((n : Nat) : Int)), (0, ((m : Nat) : Int)), (0, d9), (0, 50 - (d9 / 2))]) (st' := []) (w' := w) (n' := 142) rfl ?_
                have egw : (50 - (d9 / 2) : Int) = gwV (w 125 m - w 134 n) (w 135 n) := (by rw [hd9]; rw [hd9] at hc; unfold gwV; (repeat' split) <;> omega)
                rw [egw]
                refine qG.blk 3 (pc' := 117) (ls' := [(2, 95), (0, ((n : Nat) : Int)), (0, ((m : Nat) : Int)), (0, d9), (0, gwV (w 125 m - w 134 n) (w 135 n))]) (st' := [(2, w 95 69), (0, gwV (w 125 m - w 134 n) (w 135 n))]) (w' := w) (n' := 142) rfl ?_
                rw [show w 95 69 = 136 from zref hI rfl rfl]
                refine qG.blk 1 (pc' := 118) (ls' := [(2, 95), (0, ((n : Nat) : Int)), (0, ((m : Nat) : Int)), (0, d9), (0, gwV (w 125 m - w 134 n) (w 135 n))]) (st' := [(0, ((n : Nat) : Int)), (2, 136), (0, gwV (w 125 m - w 134 n) (w 135 n))]) (w' := w) (n' := 142) rfl ?_
                refine qG.ar (P := 0 ≤ ((n : Nat) : Int) ∧ ((n : Nat) : Int) < ((60 : Nat) : Int)) (P2 := 0 < (136 : Int) ∧ (136 : Int) ≤ ((142 : Nat) : Int)) (pc' := 119) (ls' := [(2, 95), (0, ((n : Nat) : Int)), (0, ((m : Nat) : Int)), (0, d9), (0, gwV (w 125 m - w 134 n) (w 135 n))]) (st' := [(0, w 136 n), (0, gwV (w 125 m - w 134 n) (w 135 n))]) (w' := w) (n' := 142) rfl (by omega) (by decide) ?_
                refine qG.blk 1 (pc' := 120) (ls' := [(2, 95), (0, ((n : Nat) : Int)), (0, ((m : Nat) : Int)), (0, d9), (0, gwV (w 125 m - w 134 n) (w 135 n))]) (st' := [(0, (-1)), (0, w 136 n), (0, gwV (w 125 m - w 134 n) (w 135 n))]) (w' := w) (n' := 142) rfl ?_
                refine qG.br (P := w 136 n = (-1)) (pc1 := 123) (pc2 := 127) (st1 := [(0, gwV (w 125 m - w 134 n) (w 135 n))]) rfl (fun ha1 => ?_) (fun ha1 => ?_)
                · skip
                  refine qG.blk 3 (pc' := 143) (ls' := [(2, 95), (0, ((n : Nat) : Int)), (0, ((m : Nat) : Int)), (0, d9), (0, gwV (w 125 m - w 134 n) (w 135 n))]) (st' := [(0, wrp ((gwV (w 125 m - w 134 n) (w 135 n)) * 1))]) (w' := w) (n' := 142) rfl ?_
                  rw [show wrp ((gwV (w 125 m - w 134 n) (w 135 n)) * 1) = (gwV (w 125 m - w 134 n) (w 135 n)) * 1 from wrp_id (by omega) (by omega)]
                  refine qG.ret rfl rfl ?_
                  subst hQ9
                  exact ⟨congrArg (Prod.mk (0 : Nat)) (by first | exact (wg_n hmn).symm | (rw [wg_y hmy, hha2]; done) | (rw [wg_y hmy, show haV w n m = 1 from if_pos ha1]; done)), rfl, rfl⟩
                · skip
                  obtain ⟨a9, ha9⟩ : ∃ q : Nat, w 136 n = (q : Int) := ⟨(w 136 n).toNat, by omega⟩
                  have hha2 : haV w n m = w 128 (m * 3 + a9) := (by unfold haV; rw [if_neg (by omega), ha9, Int.toNat_natCast])
                  rw [hha2] at hp9
                  refine qG.blk 2 (pc' := 131) (ls' := [(2, 95), (0, ((n : Nat) : Int)), (0, ((m : Nat) : Int)), (0, d9), (0, gwV (w 125 m - w 134 n) (w 135 n))]) (st' := [(2, w 95 61), (0, gwV (w 125 m - w 134 n) (w 135 n))]) (w' := w) (n' := 142) rfl ?_
                  rw [show w 95 61 = 128 from zref hI rfl rfl]
                  refine qG.blk 3 (pc' := 134) (ls' := [(2, 95), (0, ((n : Nat) : Int)), (0, ((m : Nat) : Int)), (0, d9), (0, gwV (w 125 m - w 134 n) (w 135 n))]) (st' := [(0, wrp (3 * ((m : Nat) : Int))), (2, 128), (0, gwV (w 125 m - w 134 n) (w 135 n))]) (w' := w) (n' := 142) rfl ?_
                  rw [show wrp (3 * ((m : Nat) : Int)) = ((3 * m : Nat) : Int) from by rw [wrp_id (by omega) (by omega)]; omega]
                  refine qG.blk 2 (pc' := 138) (ls' := [(2, 95), (0, ((n : Nat) : Int)), (0, ((m : Nat) : Int)), (0, d9), (0, gwV (w 125 m - w 134 n) (w 135 n))]) (st' := [(2, w 95 69), (0, ((3 * m : Nat) : Int)), (2, 128), (0, gwV (w 125 m - w 134 n) (w 135 n))]) (w' := w) (n' := 142) rfl ?_
                  rw [show w 95 69 = 136 from zref hI rfl rfl]
                  refine qG.blk 1 (pc' := 139) (ls' := [(2, 95), (0, ((n : Nat) : Int)), (0, ((m : Nat) : Int)), (0, d9), (0, gwV (w 125 m - w 134 n) (w 135 n))]) (st' := [(0, ((n : Nat) : Int)), (2, 136), (0, ((3 * m : Nat) : Int)), (2, 128), (0, gwV (w 125 m - w 134 n) (w 135 n))]) (w' := w) (n' := 142) rfl ?_
                  refine qG.ar (P := 0 ≤ ((n : Nat) : Int) ∧ ((n : Nat) : Int) < ((60 : Nat) : Int)) (P2 := 0 < (136 : Int) ∧ (136 : Int) ≤ ((142 : Nat) : Int)) (pc' := 140) (ls' := [(2, 95), (0, ((n : Nat) : Int)), (0, ((m : Nat) : Int)), (0, d9), (0, gwV (w 125 m - w 134 n) (w 135 n))]) (st' := [(0, w 136 n), (0, ((3 * m : Nat) : Int)), (2, 128), (0, gwV (w 125 m - w 134 n) (w 135 n))]) (w' := w) (n' := 142) rfl (by omega) (by decide) ?_
                  refine qG.blk 1 (pc' := 141) (ls' := [(2, 95), (0, ((n : Nat) : Int)), (0, ((m : Nat) : Int)), (0, d9), (0, gwV (w 125 m - w 134 n) (w 135 n))]) (st' := [(0, wrp (((3 * m : Nat) : Int) + (w 136 n))), (2, 128), (0, gwV (w 125 m - w 134 n) (w 135 n))]) (w' := w) (n' := 142) rfl ?_
                  rw [show wrp (((3 * m : Nat) : Int) + (w 136 n)) = ((m * 3 + a9 : Nat) : Int) from by rw [ha9, wrp_id (by omega) (by omega)]; omega]
                  refine qG.ar (P := 0 ≤ ((m * 3 + a9 : Nat) : Int) ∧ ((m * 3 + a9 : Nat) : Int) < ((36 : Nat) : Int)) (P2 := 0 < (128 : Int) ∧ (128 : Int) ≤ ((142 : Nat) : Int)) (pc' := 142) (ls' := [(2, 95), (0, ((n : Nat) : Int)), (0, ((m : Nat) : Int)), (0, d9), (0, gwV (w 125 m - w 134 n) (w 135 n))]) (st' := [(0, w 128 (m * 3 + a9)), (0, gwV (w 125 m - w 134 n) (w 135 n))]) (w' := w) (n' := 142) rfl (by omega) (by decide) ?_
                  refine qG.blk 1 (pc' := 143) (ls' := [(2, 95), (0, ((n : Nat) : Int)), (0, ((m : Nat) : Int)), (0, d9), (0, gwV (w 125 m - w 134 n) (w 135 n))]) (st' := [(0, wrp ((gwV (w 125 m - w 134 n) (w 135 n)) * (w 128 (m * 3 + a9))))]) (w' := w) (n' := 142) rfl ?_
                  rw [show wrp ((gwV (w 125 m - w 134 n) (w 135 n)) * (w 128 (m * 3 + a9))) = (gwV (w 125 m - w 134 n) (w 135 n)) * (w 128 (m * 3 + a9)) from wrp_id (by omega) (by omega)]
                  refine qG.ret rfl rfl ?_
                  subst hQ9
                  exact ⟨congrArg (Prod.mk (0 : Nat)) (by first | exact (wg_n hmn).symm | (rw [wg_y hmy, hha2]; done) | (rw [wg_y hmy, show haV w n m = 1 from if_pos ha1]; done)), rfl, rfl⟩
              · skip
                refine qG.blk 2 (pc' := 99) (ls' := [(2, 95), (0, ((n : Nat) : Int)), (0, ((m : Nat) : Int)), (0, d9), (0, 50 - (d9 / 2))]) (st' := [(0, 99), (0, 50 - (d9 / 2))]) (w' := w) (n' := 142) rfl ?_
                refine qG.br (P := 99 < 50 - (d9 / 2)) (pc1 := 102) (pc2 := 107) (st1 := []) rfl (fun hv9 => ?_) (fun hv9 => ?_)
                · skip
                  refine qG.blk 3 (pc' := 111) (ls' := [(2, 95), (0, ((n : Nat) : Int)), (0, ((m : Nat) : Int)), (0, d9), (0, 99)]) (st' := []) (w' := w) (n' := 142) rfl ?_
                  have egw : (99 : Int) = gwV (w 125 m - w 134 n) (w 135 n) := (by rw [hd9]; rw [hd9] at hc; unfold gwV; (repeat' split) <;> omega)
                  rw [egw]
                  refine qG.blk 3 (pc' := 117) (ls' := [(2, 95), (0, ((n : Nat) : Int)), (0, ((m : Nat) : Int)), (0, d9), (0, gwV (w 125 m - w 134 n) (w 135 n))]) (st' := [(2, w 95 69), (0, gwV (w 125 m - w 134 n) (w 135 n))]) (w' := w) (n' := 142) rfl ?_
                  rw [show w 95 69 = 136 from zref hI rfl rfl]
                  refine qG.blk 1 (pc' := 118) (ls' := [(2, 95), (0, ((n : Nat) : Int)), (0, ((m : Nat) : Int)), (0, d9), (0, gwV (w 125 m - w 134 n) (w 135 n))]) (st' := [(0, ((n : Nat) : Int)), (2, 136), (0, gwV (w 125 m - w 134 n) (w 135 n))]) (w' := w) (n' := 142) rfl ?_
                  refine qG.ar (P := 0 ≤ ((n : Nat) : Int) ∧ ((n : Nat) : Int) < ((60 : Nat) : Int)) (P2 := 0 < (136 : Int) ∧ (136 : Int) ≤ ((142 : Nat) : Int)) (pc' := 119) (ls' := [(2, 95), (0, ((n : Nat) : Int)), (0, ((m : Nat) : Int)), (0, d9), (0, gwV (w 125 m - w 134 n) (w 135 n))]) (st' := [(0, w 136 n), (0, gwV (w 125 m - w 134 n) (w 135 n))]) (w' := w) (n' := 142) rfl (by omega) (by decide) ?_
                  refine qG.blk 1 (pc' := 120) (ls' := [(2, 95), (0, ((n : Nat) : Int)), (0, ((m : Nat) : Int)), (0, d9), (0, gwV (w 125 m - w 134 n) (w 135 n))]) (st' := [(0, (-1)), (0, w 136 n), (0, gwV (w 125 m - w 134 n) (w 135 n))]) (w' := w) (n' := 142) rfl ?_
                  refine qG.br (P := w 136 n = (-1)) (pc1 := 123) (pc2 := 127) (st1 := [(0, gwV (w 125 m - w 134 n) (w 135 n))]) rfl (fun ha1 => ?_) (fun ha1 => ?_)
                  · skip
                    refine qG.blk 3 (pc' := 143) (ls' := [(2, 95), (0, ((n : Nat) : Int)), (0, ((m : Nat) : Int)), (0, d9), (0, gwV (w 125 m - w 134 n) (w 135 n))]) (st' := [(0, wrp ((gwV (w 125 m - w 134 n) (w 135 n)) * 1))]) (w' := w) (n' := 142) rfl ?_
                    rw [show wrp ((gwV (w 125 m - w 134 n) (w 135 n)) * 1) = (gwV (w 125 m - w 134 n) (w 135 n)) * 1 from wrp_id (by omega) (by omega)]
                    refine qG.ret rfl rfl ?_
                    subst hQ9
                    exact ⟨congrArg (Prod.mk (0 : Nat)) (by first | exact (wg_n hmn).symm | (rw [wg_y hmy, hha2]; done) | (rw [wg_y hmy, show haV w n m = 1 from if_pos ha1]; done)), rfl, rfl⟩
                  · skip
                    obtain ⟨a9, ha9⟩ : ∃ q : Nat, w 136 n = (q : Int) := ⟨(w 136 n).toNat, by omega⟩
                    have hha2 : haV w n m = w 128 (m * 3 + a9) := (by unfold haV; rw [if_neg (by omega), ha9, Int.toNat_natCast])
                    rw [hha2] at hp9
                    refine qG.blk 2 (pc' := 131) (ls' := [(2, 95), (0, ((n : Nat) : Int)), (0, ((m : Nat) : Int)), (0, d9), (0, gwV (w 125 m - w 134 n) (w 135 n))]) (st' := [(2, w 95 61), (0, gwV (w 125 m - w 134 n) (w 135 n))]) (w' := w) (n' := 142) rfl ?_
                    rw [show w 95 61 = 128 from zref hI rfl rfl]
                    refine qG.blk 3 (pc' := 134) (ls' := [(2, 95), (0, ((n : Nat) : Int)), (0, ((m : Nat) : Int)), (0, d9), (0, gwV (w 125 m - w 134 n) (w 135 n))]) (st' := [(0, wrp (3 * ((m : Nat) : Int))), (2, 128), (0, gwV (w 125 m - w 134 n) (w 135 n))]) (w' := w) (n' := 142) rfl ?_
                    rw [show wrp (3 * ((m : Nat) : Int)) = ((3 * m : Nat) : Int) from by rw [wrp_id (by omega) (by omega)]; omega]
                    refine qG.blk 2 (pc' := 138) (ls' := [(2, 95), (0, ((n : Nat) : Int)), (0, ((m : Nat) : Int)), (0, d9), (0, gwV (w 125 m - w 134 n) (w 135 n))]) (st' := [(2, w 95 69), (0, ((3 * m : Nat) : Int)), (2, 128), (0, gwV (w 125 m - w 134 n) (w 135 n))]) (w' := w) (n' := 142) rfl ?_
                    rw [show w 95 69 = 136 from zref hI rfl rfl]
                    refine qG.blk 1 (pc' := 139) (ls' := [(2, 95), (0, ((n : Nat) : Int)), (0, ((m : Nat) : Int)), (0, d9), (0, gwV (w 125 m - w 134 n) (w 135 n))]) (st' := [(0, ((n : Nat) : Int)), (2, 136), (0, ((3 * m : Nat) : Int)), (2, 128), (0, gwV (w 125 m - w 134 n) (w 135 n))]) (w' := w) (n' := 142) rfl ?_
                    refine qG.ar (P := 0 ≤ ((n : Nat) : Int) ∧ ((n : Nat) : Int) < ((60 : Nat) : Int)) (P2 := 0 < (136 : Int) ∧ (136 : Int) ≤ ((142 : Nat) : Int)) (pc' := 140) (ls' := [(2, 95), (0, ((n : Nat) : Int)), (0, ((m : Nat) : Int)), (0, d9), (0, gwV (w 125 m - w 134 n) (w 135 n))]) (st' := [(0, w 136 n), (0, ((3 * m : Nat) : Int)), (2, 128), (0, gwV (w 125 m - w 134 n) (w 135 n))]) (w' := w) (n' := 142) rfl (by omega) (by decide) ?_
                    refine qG.blk 1 (pc' := 141) (ls' := [(2, 95), (0, ((n : Nat) : Int)), (0, ((m : Nat) : Int)), (0, d9), (0, gwV (w 125 m - w 134 n) (w 135 n))]) (st' := [(0, wrp (((3 * m : Nat) : Int) + (w 136 n))), (2, 128), (0, gwV (w 125 m - w 134 n) (w 135 n))]) (w' := w) (n' := 142) rfl ?_
                    rw [show wrp (((3 * m : Nat) : Int) + (w 136 n)) = ((m * 3 + a9 : Nat) : Int) from by rw [ha9, wrp_id (by omega) (by omega)]; omega]
                    refine qG.ar (P := 0 ≤ ((m * 3 + a9 : Nat) : Int) ∧ ((m * 3 + a9 : Nat) : Int) < ((36 : Nat) : Int)) (P2 := 0 < (128 : Int) ∧ (128 : Int) ≤ ((142 : Nat) : Int)) (pc' := 142) (ls' := [(2, 95), (0, ((n : Nat) : Int)), (0, ((m : Nat) : Int)), (0, d9), (0, gwV (w 125 m - w 134 n) (w 135 n))]) (st' := [(0, w 128 (m * 3 + a9)), (0, gwV (w 125 m - w 134 n) (w 135 n))]) (w' := w) (n' := 142) rfl (by omega) (by decide) ?_
                    refine qG.blk 1 (pc' := 143) (ls' := [(2, 95), (0, ((n : Nat) : Int)), (0, ((m : Nat) : Int)), (0, d9), (0, gwV (w 125 m - w 134 n) (w 135 n))]) (st' := [(0, wrp ((gwV (w 125 m - w 134 n) (w 135 n)) * (w 128 (m * 3 + a9))))]) (w' := w) (n' := 142) rfl ?_
                    rw [show wrp ((gwV (w 125 m - w 134 n) (w 135 n)) * (w 128 (m * 3 + a9))) = (gwV (w 125 m - w 134 n) (w 135 n)) * (w 128 (m * 3 + a9)) from wrp_id (by omega) (by omega)]
                    refine qG.ret rfl rfl ?_
                    subst hQ9
                    exact ⟨congrArg (Prod.mk (0 : Nat)) (by first | exact (wg_n hmn).symm | (rw [wg_y hmy, hha2]; done) | (rw [wg_y hmy, show haV w n m = 1 from if_pos ha1]; done)), rfl, rfl⟩
                · skip
                  refine qG.blk 2 (pc' := 111) (ls' := [(2, 95), (0, ((n : Nat) : Int)), (0, ((m : Nat) : Int)), (0, d9), (0, 50 - (d9 / 2))]) (st' := []) (w' := w) (n' := 142) rfl ?_
                  have egw : (50 - (d9 / 2) : Int) = gwV (w 125 m - w 134 n) (w 135 n) := (by rw [hd9]; rw [hd9] at hc; unfold gwV; (repeat' split) <;> omega)
                  rw [egw]
                  refine qG.blk 3 (pc' := 117) (ls' := [(2, 95), (0, ((n : Nat) : Int)), (0, ((m : Nat) : Int)), (0, d9), (0, gwV (w 125 m - w 134 n) (w 135 n))]) (st' := [(2, w 95 69), (0, gwV (w 125 m - w 134 n) (w 135 n))]) (w' := w) (n' := 142) rfl ?_
                  rw [show w 95 69 = 136 from zref hI rfl rfl]
                  refine qG.blk 1 (pc' := 118) (ls' := [(2, 95), (0, ((n : Nat) : Int)), (0, ((m : Nat) : Int)), (0, d9), (0, gwV (w 125 m - w 134 n) (w 135 n))]) (st' := [(0, ((n : Nat) : Int)), (2, 136), (0, gwV (w 125 m - w 134 n) (w 135 n))]) (w' := w) (n' := 142) rfl ?_
                  refine qG.ar (P := 0 ≤ ((n : Nat) : Int) ∧ ((n : Nat) : Int) < ((60 : Nat) : Int)) (P2 := 0 < (136 : Int) ∧ (136 : Int) ≤ ((142 : Nat) : Int)) (pc' := 119) (ls' := [(2, 95), (0, ((n : Nat) : Int)), (0, ((m : Nat) : Int)), (0, d9), (0, gwV (w 125 m - w 134 n) (w 135 n))]) (st' := [(0, w 136 n), (0, gwV (w 125 m - w 134 n) (w 135 n))]) (w' := w) (n' := 142) rfl (by omega) (by decide) ?_
                  refine qG.blk 1 (pc' := 120) (ls' := [(2, 95), (0, ((n : Nat) : Int)), (0, ((m : Nat) : Int)), (0, d9), (0, gwV (w 125 m - w 134 n) (w 135 n))]) (st' := [(0, (-1)), (0, w 136 n), (0, gwV (w 125 m - w 134 n) (w 135 n))]) (w' := w) (n' := 142) rfl ?_
                  refine qG.br (P := w 136 n = (-1)) (pc1 := 123) (pc2 := 127) (st1 := [(0, gwV (w 125 m - w 134 n) (w 135 n))]) rfl (fun ha1 => ?_) (fun ha1 => ?_)
                  · skip
                    refine qG.blk 3 (pc' := 143) (ls' := [(2, 95), (0, ((n : Nat) : Int)), (0, ((m : Nat) : Int)), (0, d9), (0, gwV (w 125 m - w 134 n) (w 135 n))]) (st' := [(0, wrp ((gwV (w 125 m - w 134 n) (w 135 n)) * 1))]) (w' := w) (n' := 142) rfl ?_
                    rw [show wrp ((gwV (w 125 m - w 134 n) (w 135 n)) * 1) = (gwV (w 125 m - w 134 n) (w 135 n)) * 1 from wrp_id (by omega) (by omega)]
                    refine qG.ret rfl rfl ?_
                    subst hQ9
                    exact ⟨congrArg (Prod.mk (0 : Nat)) (by first | exact (wg_n hmn).symm | (rw [wg_y hmy, hha2]; done) | (rw [wg_y hmy, show haV w n m = 1 from if_pos ha1]; done)), rfl, rfl⟩
                  · skip
                    obtain ⟨a9, ha9⟩ : ∃ q : Nat, w 136 n = (q : Int) := ⟨(w 136 n).toNat, by omega⟩
                    have hha2 : haV w n m = w 128 (m * 3 + a9) := (by unfold haV; rw [if_neg (by omega), ha9, Int.toNat_natCast])
                    rw [hha2] at hp9
                    refine qG.blk 2 (pc' := 131) (ls' := [(2, 95), (0, ((n : Nat) : Int)), (0, ((m : Nat) : Int)), (0, d9), (0, gwV (w 125 m - w 134 n) (w 135 n))]) (st' := [(2, w 95 61), (0, gwV (w 125 m - w 134 n) (w 135 n))]) (w' := w) (n' := 142) rfl ?_
                    rw [show w 95 61 = 128 from zref hI rfl rfl]
                    refine qG.blk 3 (pc' := 134) (ls' := [(2, 95), (0, ((n : Nat) : Int)), (0, ((m : Nat) : Int)), (0, d9), (0, gwV (w 125 m - w 134 n) (w 135 n))]) (st' := [(0, wrp (3 * ((m : Nat) : Int))), (2, 128), (0, gwV (w 125 m - w 134 n) (w 135 n))]) (w' := w) (n' := 142) rfl ?_
                    rw [show wrp (3 * ((m : Nat) : Int)) = ((3 * m : Nat) : Int) from by rw [wrp_id (by omega) (by omega)]; omega]
                    refine qG.blk 2 (pc' := 138) (ls' := [(2, 95), (0, ((n : Nat) : Int)), (0, ((m : Nat) : Int)), (0, d9), (0, gwV (w 125 m - w 134 n) (w 135 n))]) (st' := [(2, w 95 69), (0, ((3 * m : Nat) : Int)), (2, 128), (0, gwV (w 125 m - w 134 n) (w 135 n))]) (w' := w) (n' := 142) rfl ?_
                    rw [show w 95 69 = 136 from zref hI rfl rfl]
                    refine qG.blk 1 (pc' := 139) (ls' := [(2, 95), (0, ((n : Nat) : Int)), (0, ((m : Nat) : Int)), (0, d9), (0, gwV (w 125 m - w 134 n) (w 135 n))]) (st' := [(0, ((n : Nat) : Int)), (2, 136), (0, ((3 * m : Nat) : Int)), (2, 128), (0, gwV (w 125 m - w 134 n) (w 135 n))]) (w' := w) (n' := 142) rfl ?_
                    refine qG.ar (P := 0 ≤ ((n : Nat) : Int) ∧ ((n : Nat) : Int) < ((60 : Nat) : Int)) (P2 := 0 < (136 : Int) ∧ (136 : Int) ≤ ((142 : Nat) : Int)) (pc' := 140) (ls' := [(2, 95), (0, ((n : Nat) : Int)), (0, ((m : Nat) : Int)), (0, d9), (0, gwV (w 125 m - w 134 n) (w 135 n))]) (st' := [(0, w 136 n), (0, ((3 * m : Nat) : Int)), (2, 128), (0, gwV (w 125 m - w 134 n) (w 135 n))]) (w' := w) (n' := 142) rfl (by omega) (by decide) ?_
                    refine qG.blk 1 (pc' := 141) (ls' := [(2, 95), (0, ((n : Nat) : Int)), (0, ((m : Nat) : Int)), (0, d9), (0, gwV (w 125 m - w 134 n) (w 135 n))]) (st' := [(0, wrp (((3 * m : Nat) : Int) + (w 136 n))), (2, 128), (0, gwV (w 125 m - w 134 n) (w 135 n))]) (w' := w) (n' := 142) rfl ?_
                    rw [show wrp (((3 * m : Nat) : Int) + (w 136 n)) = ((m * 3 + a9 : Nat) : Int) from by rw [ha9, wrp_id (by omega) (by omega)]; omega]
                    refine qG.ar (P := 0 ≤ ((m * 3 + a9 : Nat) : Int) ∧ ((m * 3 + a9 : Nat) : Int) < ((36 : Nat) : Int)) (P2 := 0 < (128 : Int) ∧ (128 : Int) ≤ ((142 : Nat) : Int)) (pc' := 142) (ls' := [(2, 95), (0, ((n : Nat) : Int)), (0, ((m : Nat) : Int)), (0, d9), (0, gwV (w 125 m - w 134 n) (w 135 n))]) (st' := [(0, w 128 (m * 3 + a9)), (0, gwV (w 125 m - w 134 n) (w 135 n))]) (w' := w) (n' := 142) rfl (by omega) (by decide) ?_
                    refine qG.blk 1 (pc' := 143) (ls' := [(2, 95), (0, ((n : Nat) : Int)), (0, ((m : Nat) : Int)), (0, d9), (0, gwV (w 125 m - w 134 n) (w 135 n))]) (st' := [(0, wrp ((gwV (w 125 m - w 134 n) (w 135 n)) * (w 128 (m * 3 + a9))))]) (w' := w) (n' := 142) rfl ?_
                    rw [show wrp ((gwV (w 125 m - w 134 n) (w 135 n)) * (w 128 (m * 3 + a9))) = (gwV (w 125 m - w 134 n) (w 135 n)) * (w 128 (m * 3 + a9)) from wrp_id (by omega) (by omega)]
                    refine qG.ret rfl rfl ?_
                    subst hQ9
                    exact ⟨congrArg (Prod.mk (0 : Nat)) (by first | exact (wg_n hmn).symm | (rw [wg_y hmy, hha2]; done) | (rw [wg_y hmy, show haV w n m = 1 from if_pos ha1]; done)), rfl, rfl⟩
  · skip
    show qG none (d + 1) 285 6 [(2, 95), (0, ((n : Nat) : Int)), (0, ((m : Nat) : Int)), (9, 0), (9, 0)] [(0, 0)] w 142 Q9
    refine qG.br (P := (0 : Int) = 0) (pc1 := 9) (pc2 := 11) (st1 := []) rfl (fun h2 => ?_) (fun h2 => ?_)
    · skip
      refine qG.blk 1 (pc' := 10) (ls' := [(2, 95), (0, ((n : Nat) : Int)), (0, ((m : Nat) : Int)), (9, 0), (9, 0)]) (st' := [(0, 0)]) (w' := w) (n' := 142) rfl ?_
      refine qG.ret rfl rfl ?_
      subst hQ9
      exact ⟨congrArg (Prod.mk (0 : Nat)) (by first | exact (wg_n hmn).symm | (rw [wg_y hmy, hha2]; done) | (rw [wg_y hmy, show haV w n m = 1 from if_pos ha1]; done)), rfl, rfl⟩
    · exact absurd h2 (by decide)
