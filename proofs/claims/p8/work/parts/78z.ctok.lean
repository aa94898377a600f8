/-! the class's signs, exactly -/
theorem qG.cld {sc : Option (Nat × (Nat → Int))} {d k pc n m x len : Nat} {ls r : List qV} {w : qW} {Q : qV → qW → Nat → Prop} {i p : Int} (hq : qcd k pc = some (.baload, len)) (hp : qpl p.toNat = (1, 4, m, x)) (hi : 0 ≤ i ∧ i < (m : Int)) (h0 : 0 < p ∧ p ≤ (n : Int)) (g : qG sc d k (pc + 1) ls ((0, w p.toNat i.toNat) :: r) w n Q) : qG sc d k pc ls ((0, i) :: (2, p) :: r) w n Q := by
  refine qG.one (pc' := pc + 1) (ls' := ls) (st' := (0, w p.toNat i.toNat) :: r) (w' := w) (n' := n) ?_ g
  unfold qone
  rw [hq]
  show qs1 sc k .baload len pc ls ((0, i) :: (2, p) :: r) w n = _
  rw [qs1_baload]
  show (match qpl p.toNat with
    | (1, 3, m, _) => if 0 ≤ i ∧ i < (m : Int) then (if 0 < p ∧ p ≤ (n : Int) then some (pc + 1, ls, (0, w p.toNat i.toNat) :: r, w, n) else none) else none
    | (1, 4, m, _) => if 0 ≤ i ∧ i < (m : Int) then (if 0 < p ∧ p ≤ (n : Int) then some (pc + 1, ls, (0, w p.toNat i.toNat) :: r, w, n) else none) else none
    | _ => none) = _
  rw [hp]
  show (if 0 ≤ i ∧ i < (m : Int) then (if 0 < p ∧ p ≤ (n : Int) then some (pc + 1, ls, (0, w p.toNat i.toNat) :: r, w, n) else none) else none) = _
  rw [if_pos hi, if_pos h0]
noncomputable def sgV (w : qW) (k : Nat) : Int := if (k : Int) < w 8 1 then w 9 k % 256 else 0
theorem sgV_n {w : qW} {n k : Nat} (hn : w 8 1 = (n : Int)) (h : n ≤ k) : sgV w k = 0 := by unfold sgV; rw [hn, if_neg (by omega)]
theorem sgV_in (w : qW) (k : Nat) : 0 ≤ sgV w k ∧ sgV w k ≤ 255 := by unfold sgV; split <;> omega
noncomputable def CL (V : Int → Int) (w : qW) (n a e : Nat) : Prop := a ≤ e ∧ e ≤ n ∧ (∀ j, a ≤ j → j < e → V (sgV w j) = 1) ∧ ¬ V (sgV w e) = 1
noncomputable def nmF (w : qW) (a : Nat) : Nat → Int
  | 0 => 0
  | n + 1 => 10 * nmF w a n + sgV w (a + n) - 48
theorem nm_in {w : qW} {a b : Nat} (h : ∀ j, a ≤ j → j < b → digV (sgV w j) = 1) : ∀ n, n ≤ 4 → a + n ≤ b → 0 ≤ nmF w a n ∧ nmF w a n ≤ 9999 ∧ (n = 0 → nmF w a n ≤ 0) ∧ (n = 1 → nmF w a n ≤ 9) ∧ (n = 2 → nmF w a n ≤ 99) ∧ (n = 3 → nmF w a n ≤ 999)
  | 0, _, _ => ⟨Int.le_refl 0, by show (0 : Int) ≤ _; decide, fun _ => Int.le_refl 0, fun z => by omega, fun z => by omega, fun z => by omega⟩
  | n + 1, h4, hn => by
    obtain ⟨h1, h2, h3, h4', h5, h6⟩ := nm_in h n (by omega) (by omega)
    have hd := digV_1.mp (h (a + n) (by omega) (by omega))
    unfold nmF
    refine ⟨by omega, ?_, fun z => by omega, fun z => ?_, fun z => ?_, fun z => ?_⟩
    · rcases (show n = 0 ∨ n = 1 ∨ n = 2 ∨ n = 3 by omega) with e | e | e | e
      · have := h3 e; omega
      · have := h4' e; omega
      · have := h5 e; omega
      · have := h6 e; omega
    · have := h3 (by omega); omega
    · have := h4' (by omega); omega
    · have := h5 (by omega); omega
theorem K_cSign {d : Nat} (hd : 0 ≤ d) (k : Nat) (n : Nat) (hn9 : n ≤ 600) (w : qW) (hI : yInv zgf zga zra zSp w) (hn : w 8 1 = (n : Int))  : qG none d 136 0 [(2, 8), (0, ((k : Nat) : Int))] [] w 142 (fun (r : qV) (w1 : qW) (n1 : Nat) => r = (0, sgV w k) ∧ w1 = w ∧ n1 = 142) := by
  generalize hQ9 : (fun (r : qV) (w1 : qW) (n1 : Nat) => r = (0, sgV w k) ∧ w1 = w ∧ n1 = 142) = Q9
  refine qG.blk 1 (pc' := 1) (ls' := [(2, 8), (0, ((k : Nat) : Int))]) (st' := [(0, ((k : Nat) : Int))]) (w' := w) (n' := 142) rfl ?_
  refine qG.br (P := ((k : Nat) : Int) < 0) (pc1 := 25) (pc2 := 4) (st1 := []) rfl (fun h1 => ?_) (fun h1 => ?_)
  · exfalso; omega
  · skip
    refine qG.blk 3 (pc' := 9) (ls' := [(2, 8), (0, ((k : Nat) : Int))]) (st' := [(0, w 8 1), (0, ((k : Nat) : Int))]) (w' := w) (n' := 142) rfl ?_
    rw [show w 8 1 = ((n : Nat) : Int) from hn]
    refine qG.br (P := ((k : Nat) : Int) < ((n : Nat) : Int)) (pc1 := 12) (pc2 := 25) (st1 := []) rfl (fun h2 => ?_) (fun h2 => ?_)
    · skip
      refine qG.blk 2 (pc' := 16) (ls' := [(2, 8), (0, ((k : Nat) : Int))]) (st' := [(2, w 8 0)]) (w' := w) (n' := 142) rfl ?_
      rw [show w 8 0 = 9 from zref hI rfl rfl]
      refine qG.blk 1 (pc' := 17) (ls' := [(2, 8), (0, ((k : Nat) : Int))]) (st' := [(0, ((k : Nat) : Int)), (2, 9)]) (w' := w) (n' := 142) rfl ?_
      refine qG.cld (m := 600) rfl rfl (by omega) (by decide) ?_
      show qG none d 136 18 [(2, 8), (0, ((k : Nat) : Int))] [(0, w 9 k)] w 142 Q9
      refine qG.blk 2 (pc' := 22) (ls' := [(2, 8), (0, ((k : Nat) : Int))]) (st' := [(0, qand (w 9 k) 255)]) (w' := w) (n' := 142) rfl ?_
      rw [show qand (w 9 k) 255 = w 9 k % 256 from and255 _]
      refine qG.blk 1 (pc' := 26) (ls' := [(2, 8), (0, ((k : Nat) : Int))]) (st' := [(0, w 9 k % 256)]) (w' := w) (n' := 142) rfl ?_
      refine qG.ret rfl rfl ?_
      subst hQ9
      exact ⟨by unfold sgV; rw [hn]; first | (rw [if_pos (by omega)]; done) | (rw [if_neg (by omega)]; done), rfl, rfl⟩
    · skip
      refine qG.blk 1 (pc' := 26) (ls' := [(2, 8), (0, ((k : Nat) : Int))]) (st' := [(0, 0)]) (w' := w) (n' := 142) rfl ?_
      refine qG.ret rfl rfl ?_
      subst hQ9
      exact ⟨by unfold sgV; rw [hn]; first | (rw [if_pos (by omega)]; done) | (rw [if_neg (by omega)]; done), rfl, rfl⟩
theorem K_cLet {d : Nat} (hd : 0 ≤ d) (c : Int) (w : qW) : qG none d 137 0 [(0, c)] [] w 142 (fun (r : qV) (w1 : qW) (n1 : Nat) => r = (0, letV c) ∧ w1 = w ∧ n1 = 142) := by
  generalize hQ9 : (fun (r : qV) (w1 : qW) (n1 : Nat) => r = (0, letV c) ∧ w1 = w ∧ n1 = 142) = Q9
  refine qG.blk 2 (pc' := 3) (ls' := [(0, c)]) (st' := [(0, 97), (0, c)]) (w' := w) (n' := 142) rfl ?_
  refine qG.br (P := c < 97) (pc1 := 12) (pc2 := 6) (st1 := []) rfl (fun h1 => ?_) (fun h1 => ?_)
  · skip
    refine qG.blk 2 (pc' := 15) (ls' := [(0, c)]) (st' := [(0, 65), (0, c)]) (w' := w) (n' := 142) rfl ?_
    refine qG.br (P := c < 65) (pc1 := 28) (pc2 := 18) (st1 := []) rfl (fun h2 => ?_) (fun h2 => ?_)
    · skip
      refine qG.blk 1 (pc' := 29) (ls' := [(0, c)]) (st' := [(0, 0)]) (w' := w) (n' := 142) rfl ?_
      refine qG.ret rfl (by first | rfl | exact decide_eq_true (by omega)) ?_
      subst hQ9
      exact ⟨congrArg (Prod.mk (0 : Nat)) (by unfold letV isInV; (repeat' split) <;> first | rfl | (exfalso; omega)), rfl, rfl⟩
    · skip
      refine qG.blk 2 (pc' := 21) (ls' := [(0, c)]) (st' := [(0, 90), (0, c)]) (w' := w) (n' := 142) rfl ?_
      refine qG.br (P := 90 < c) (pc1 := 28) (pc2 := 24) (st1 := []) rfl (fun h3 => ?_) (fun h3 => ?_)
      · skip
        refine qG.blk 1 (pc' := 29) (ls' := [(0, c)]) (st' := [(0, 0)]) (w' := w) (n' := 142) rfl ?_
        refine qG.ret rfl (by first | rfl | exact decide_eq_true (by omega)) ?_
        subst hQ9
        exact ⟨congrArg (Prod.mk (0 : Nat)) (by unfold letV isInV; (repeat' split) <;> first | rfl | (exfalso; omega)), rfl, rfl⟩
      · skip
        refine qG.blk 2 (pc' := 29) (ls' := [(0, c)]) (st' := [(0, 1)]) (w' := w) (n' := 142) rfl ?_
        refine qG.ret rfl (by first | rfl | exact decide_eq_true (by omega)) ?_
        subst hQ9
        exact ⟨congrArg (Prod.mk (0 : Nat)) (by unfold letV isInV; (repeat' split) <;> first | rfl | (exfalso; omega)), rfl, rfl⟩
  · skip
    refine qG.blk 2 (pc' := 9) (ls' := [(0, c)]) (st' := [(0, 122), (0, c)]) (w' := w) (n' := 142) rfl ?_
    refine qG.br (P := 122 < c) (pc1 := 12) (pc2 := 24) (st1 := []) rfl (fun h4 => ?_) (fun h4 => ?_)
    · skip
      refine qG.blk 2 (pc' := 15) (ls' := [(0, c)]) (st' := [(0, 65), (0, c)]) (w' := w) (n' := 142) rfl ?_
      refine qG.br (P := c < 65) (pc1 := 28) (pc2 := 18) (st1 := []) rfl (fun h5 => ?_) (fun h5 => ?_)
      · skip
        refine qG.blk 1 (pc' := 29) (ls' := [(0, c)]) (st' := [(0, 0)]) (w' := w) (n' := 142) rfl ?_
        refine qG.ret rfl (by first | rfl | exact decide_eq_true (by omega)) ?_
        subst hQ9
        exact ⟨congrArg (Prod.mk (0 : Nat)) (by unfold letV isInV; (repeat' split) <;> first | rfl | (exfalso; omega)), rfl, rfl⟩
      · skip
        refine qG.blk 2 (pc' := 21) (ls' := [(0, c)]) (st' := [(0, 90), (0, c)]) (w' := w) (n' := 142) rfl ?_
        refine qG.br (P := 90 < c) (pc1 := 28) (pc2 := 24) (st1 := []) rfl (fun h6 => ?_) (fun h6 => ?_)
        · skip
          refine qG.blk 1 (pc' := 29) (ls' := [(0, c)]) (st' := [(0, 0)]) (w' := w) (n' := 142) rfl ?_
          refine qG.ret rfl (by first | rfl | exact decide_eq_true (by omega)) ?_
          subst hQ9
          exact ⟨congrArg (Prod.mk (0 : Nat)) (by unfold letV isInV; (repeat' split) <;> first | rfl | (exfalso; omega)), rfl, rfl⟩
        · skip
          refine qG.blk 2 (pc' := 29) (ls' := [(0, c)]) (st' := [(0, 1)]) (w' := w) (n' := 142) rfl ?_
          refine qG.ret rfl (by first | rfl | exact decide_eq_true (by omega)) ?_
          subst hQ9
          exact ⟨congrArg (Prod.mk (0 : Nat)) (by unfold letV isInV; (repeat' split) <;> first | rfl | (exfalso; omega)), rfl, rfl⟩
    · skip
      refine qG.blk 2 (pc' := 29) (ls' := [(0, c)]) (st' := [(0, 1)]) (w' := w) (n' := 142) rfl ?_
      refine qG.ret rfl (by first | rfl | exact decide_eq_true (by omega)) ?_
      subst hQ9
      exact ⟨congrArg (Prod.mk (0 : Nat)) (by unfold letV isInV; (repeat' split) <;> first | rfl | (exfalso; omega)), rfl, rfl⟩
theorem K_cDig {d : Nat} (hd : 0 ≤ d) (c : Int) (w : qW) : qG none d 138 0 [(0, c)] [] w 142 (fun (r : qV) (w1 : qW) (n1 : Nat) => r = (0, digV c) ∧ w1 = w ∧ n1 = 142) := by
  generalize hQ9 : (fun (r : qV) (w1 : qW) (n1 : Nat) => r = (0, digV c) ∧ w1 = w ∧ n1 = 142) = Q9
  refine qG.blk 2 (pc' := 3) (ls' := [(0, c)]) (st' := [(0, 48), (0, c)]) (w' := w) (n' := 142) rfl ?_
  refine qG.br (P := c < 48) (pc1 := 16) (pc2 := 6) (st1 := []) rfl (fun h1 => ?_) (fun h1 => ?_)
  · skip
    refine qG.blk 1 (pc' := 17) (ls' := [(0, c)]) (st' := [(0, 0)]) (w' := w) (n' := 142) rfl ?_
    refine qG.ret rfl (by first | rfl | exact decide_eq_true (by omega)) ?_
    subst hQ9
    exact ⟨congrArg (Prod.mk (0 : Nat)) (by unfold digV isInV; (repeat' split) <;> first | rfl | (exfalso; omega)), rfl, rfl⟩
  · skip
    refine qG.blk 2 (pc' := 9) (ls' := [(0, c)]) (st' := [(0, 57), (0, c)]) (w' := w) (n' := 142) rfl ?_
    refine qG.br (P := 57 < c) (pc1 := 16) (pc2 := 12) (st1 := []) rfl (fun h2 => ?_) (fun h2 => ?_)
    · skip
      refine qG.blk 1 (pc' := 17) (ls' := [(0, c)]) (st' := [(0, 0)]) (w' := w) (n' := 142) rfl ?_
      refine qG.ret rfl (by first | rfl | exact decide_eq_true (by omega)) ?_
      subst hQ9
      exact ⟨congrArg (Prod.mk (0 : Nat)) (by unfold digV isInV; (repeat' split) <;> first | rfl | (exfalso; omega)), rfl, rfl⟩
    · skip
      refine qG.blk 2 (pc' := 17) (ls' := [(0, c)]) (st' := [(0, 1)]) (w' := w) (n' := 142) rfl ?_
      refine qG.ret rfl (by first | rfl | exact decide_eq_true (by omega)) ?_
      subst hQ9
      exact ⟨congrArg (Prod.mk (0 : Nat)) (by unfold digV isInV; (repeat' split) <;> first | rfl | (exfalso; omega)), rfl, rfl⟩
theorem K_cLetEnd {d : Nat} (hd : 1 ≤ d) (a : Nat) (n : Nat) (hn9 : n ≤ 600) (w : qW) (hI : yInv zgf zga zra zSp w) (hn : w 8 1 = (n : Int)) (ha : a ≤ n) : qG none d 139 0 [(2, 8), (0, ((a : Nat) : Int)), (9, 0)] [] w 142 (fun (r : qV) (w1 : qW) (n1 : Nat) => n1 = 142 ∧ w1 = w ∧ ∃ e : Nat, r = (0, (e : Int)) ∧ CL letV w n a e) := by
  generalize hQ9 : (fun (r : qV) (w1 : qW) (n1 : Nat) => n1 = 142 ∧ w1 = w ∧ ∃ e : Nat, r = (0, (e : Int)) ∧ CL letV w n a e) = Q9
  obtain ⟨d, rfl⟩ : ∃ d9, d = d9 + 1 := ⟨d - 1, by omega⟩
  refine qG.blk 2 (pc' := 2) (ls' := [(2, 8), (0, ((a : Nat) : Int)), (0, ((a : Nat) : Int))]) (st' := []) (w' := w) (n' := 142) rfl ?_
  have L2 : ∀ (m9 : Nat) (e : Nat), n - e = m9 → (a ≤ e ∧ e ≤ n ∧ ∀ j, a ≤ j → j < e → letV (sgV w j) = 1) → qG none (d + 1) 139 2 [(2, 8), (0, ((a : Nat) : Int)), (0, ((e : Nat) : Int))] [] w 142 Q9 := by
    intro m9
    induction m9 using Nat.strongRecOn with
    | ind m9 ih2 =>
    intro e hm2 hI2
    refine qG.blk 3 (pc' := 7) (ls' := [(2, 8), (0, ((a : Nat) : Int)), (0, ((e : Nat) : Int))]) (st' := [(0, w 8 1), (0, ((e : Nat) : Int))]) (w' := w) (n' := 142) rfl ?_
    rw [show w 8 1 = ((n : Nat) : Int) from hn]
    refine qG.br (P := ((e : Nat) : Int) < ((n : Nat) : Int)) (pc1 := 10) (pc2 := 29) (st1 := []) rfl (fun h1 => ?_) (fun h1 => ?_)
    · skip
      refine qG.blk 2 (pc' := 12) (ls' := [(2, 8), (0, ((a : Nat) : Int)), (0, ((e : Nat) : Int))]) (st' := [(0, ((e : Nat) : Int)), (2, 8)]) (w' := w) (n' := 142) rfl ?_
      refine qG.call (t := 136) (na := 2) (sk := 1) (md := 1) (ls1 := [(2, 8), (0, ((e : Nat) : Int))]) (r1 := []) rfl rfl rfl rfl rfl (K_cSign (by omega) e n hn9 w hI hn) ?_
      rintro _ w7 _ ⟨rfl, hw7, rfl⟩
      rw [hw7]
      show qG none (d + 1) 139 15 [(2, 8), (0, ((a : Nat) : Int)), (0, ((e : Nat) : Int))] [(0, sgV w e)] w 142 Q9
      refine qG.call (t := 137) (na := 1) (sk := 0) (md := 0) (ls1 := [(0, sgV w e)]) (r1 := []) rfl rfl rfl rfl rfl (K_cLet (by omega) _ _) ?_
      rintro _ w7 _ ⟨rfl, hw7, rfl⟩
      rw [hw7]
      show qG none (d + 1) 139 18 [(2, 8), (0, ((a : Nat) : Int)), (0, ((e : Nat) : Int))] [(0, letV (sgV w e))] w 142 Q9
      refine qG.br (P := letV (sgV w e) = 0) (pc1 := 21) (pc2 := 23) (st1 := []) rfl (fun hlt => ?_) (fun hlt => ?_)
      · skip
        refine qG.blk 1 (pc' := 22) (ls' := [(2, 8), (0, ((a : Nat) : Int)), (0, ((e : Nat) : Int))]) (st' := [(0, ((e : Nat) : Int))]) (w' := w) (n' := 142) rfl ?_
        refine qG.ret rfl rfl ?_
        subst hQ9
        first | exact ⟨rfl, rfl, e, rfl, by omega, by omega, hI2.2.2, fun z => by rw [z] at hlt; exact absurd hlt (by decide)⟩ | exact ⟨rfl, rfl, n, rfl, by omega, Nat.le_refl _, fun j h1 h2 => hI2.2.2 j h1 (by omega), by rw [sgV_n hn (Nat.le_refl _)]; decide⟩
      · skip
        have hlt1 : letV (sgV w e) = 1 := (letV_01 _).resolve_left hlt
        refine qG.blk 1 (pc' := 26) (ls' := [(2, 8), (0, ((a : Nat) : Int)), (0, wrp (((e : Nat) : Int) + 1))]) (st' := []) (w' := w) (n' := 142) rfl ?_
        rw [show wrp (((e : Nat) : Int) + 1) = ((e + 1 : Nat) : Int) from wrp_id (by omega) (by omega)]
        refine qG.blk 1 (pc' := 2) (ls' := [(2, 8), (0, ((a : Nat) : Int)), (0, ((e + 1 : Nat) : Int))]) (st' := []) (w' := w) (n' := 142) rfl ?_
        exact ih2 _ (by omega) (e + 1) rfl (⟨by omega, by omega, fun j h1 h2 => by rcases (show j < e ∨ j = e by omega) with q | rfl; exact hI2.2.2 j h1 q; exact hlt1⟩)
    · skip
      refine qG.blk 2 (pc' := 33) (ls' := [(2, 8), (0, ((a : Nat) : Int)), (0, ((e : Nat) : Int))]) (st' := [(0, w 8 1)]) (w' := w) (n' := 142) rfl ?_
      rw [show w 8 1 = ((n : Nat) : Int) from hn]
      refine qG.ret rfl rfl ?_
      subst hQ9
      first | exact ⟨rfl, rfl, e, rfl, by omega, by omega, hI2.2.2, fun z => by rw [z] at hlt; exact absurd hlt (by decide)⟩ | exact ⟨rfl, rfl, n, rfl, by omega, Nat.le_refl _, fun j h1 h2 => hI2.2.2 j h1 (by omega), by rw [sgV_n hn (Nat.le_refl _)]; decide⟩
  exact L2 _ (a) rfl (⟨Nat.le_refl _, ha, fun j h1 h2 => absurd h2 (by omega)⟩)
theorem K_cDigEnd {d : Nat} (hd : 1 ≤ d) (a : Nat) (n : Nat) (hn9 : n ≤ 600) (w : qW) (hI : yInv zgf zga zra zSp w) (hn : w 8 1 = (n : Int)) (ha : a ≤ n) : qG none d 140 0 [(2, 8), (0, ((a : Nat) : Int)), (9, 0)] [] w 142 (fun (r : qV) (w1 : qW) (n1 : Nat) => n1 = 142 ∧ w1 = w ∧ ∃ e : Nat, r = (0, (e : Int)) ∧ CL digV w n a e) := by
  generalize hQ9 : (fun (r : qV) (w1 : qW) (n1 : Nat) => n1 = 142 ∧ w1 = w ∧ ∃ e : Nat, r = (0, (e : Int)) ∧ CL digV w n a e) = Q9
  obtain ⟨d, rfl⟩ : ∃ d9, d = d9 + 1 := ⟨d - 1, by omega⟩
  refine qG.blk 2 (pc' := 2) (ls' := [(2, 8), (0, ((a : Nat) : Int)), (0, ((a : Nat) : Int))]) (st' := []) (w' := w) (n' := 142) rfl ?_
  have L2 : ∀ (m9 : Nat) (e : Nat), n - e = m9 → (a ≤ e ∧ e ≤ n ∧ ∀ j, a ≤ j → j < e → digV (sgV w j) = 1) → qG none (d + 1) 140 2 [(2, 8), (0, ((a : Nat) : Int)), (0, ((e : Nat) : Int))] [] w 142 Q9 := by
    intro m9
    induction m9 using Nat.strongRecOn with
    | ind m9 ih2 =>
    intro e hm2 hI2
    refine qG.blk 3 (pc' := 7) (ls' := [(2, 8), (0, ((a : Nat) : Int)), (0, ((e : Nat) : Int))]) (st' := [(0, w 8 1), (0, ((e : Nat) : Int))]) (w' := w) (n' := 142) rfl ?_
    rw [show w 8 1 = ((n : Nat) : Int) from hn]
    refine qG.br (P := ((e : Nat) : Int) < ((n : Nat) : Int)) (pc1 := 10) (pc2 := 29) (st1 := []) rfl (fun h1 => ?_) (fun h1 => ?_)
    · skip
      refine qG.blk 2 (pc' := 12) (ls' := [(2, 8), (0, ((a : Nat) : Int)), (0, ((e : Nat) : Int))]) (st' := [(0, ((e : Nat) : Int)), (2, 8)]) (w' := w) (n' := 142) rfl ?_
      refine qG.call (t := 136) (na := 2) (sk := 1) (md := 1) (ls1 := [(2, 8), (0, ((e : Nat) : Int))]) (r1 := []) rfl rfl rfl rfl rfl (K_cSign (by omega) e n hn9 w hI hn) ?_
      rintro _ w7 _ ⟨rfl, hw7, rfl⟩
      rw [hw7]
      show qG none (d + 1) 140 15 [(2, 8), (0, ((a : Nat) : Int)), (0, ((e : Nat) : Int))] [(0, sgV w e)] w 142 Q9
      refine qG.call (t := 138) (na := 1) (sk := 0) (md := 0) (ls1 := [(0, sgV w e)]) (r1 := []) rfl rfl rfl rfl rfl (K_cDig (by omega) _ _) ?_
      rintro _ w7 _ ⟨rfl, hw7, rfl⟩
      rw [hw7]
      show qG none (d + 1) 140 18 [(2, 8), (0, ((a : Nat) : Int)), (0, ((e : Nat) : Int))] [(0, digV (sgV w e))] w 142 Q9
      refine qG.br (P := digV (sgV w e) = 0) (pc1 := 21) (pc2 := 23) (st1 := []) rfl (fun hlt => ?_) (fun hlt => ?_)
      · skip
        refine qG.blk 1 (pc' := 22) (ls' := [(2, 8), (0, ((a : Nat) : Int)), (0, ((e : Nat) : Int))]) (st' := [(0, ((e : Nat) : Int))]) (w' := w) (n' := 142) rfl ?_
        refine qG.ret rfl rfl ?_
        subst hQ9
        first | exact ⟨rfl, rfl, e, rfl, by omega, by omega, hI2.2.2, fun z => by rw [z] at hlt; exact absurd hlt (by decide)⟩ | exact ⟨rfl, rfl, n, rfl, by omega, Nat.le_refl _, fun j h1 h2 => hI2.2.2 j h1 (by omega), by rw [sgV_n hn (Nat.le_refl _)]; decide⟩
      · skip
        have hlt1 : digV (sgV w e) = 1 := (isInV_01 _ 48 57).resolve_left hlt
        refine qG.blk 1 (pc' := 26) (ls' := [(2, 8), (0, ((a : Nat) : Int)), (0, wrp (((e : Nat) : Int) + 1))]) (st' := []) (w' := w) (n' := 142) rfl ?_
        rw [show wrp (((e : Nat) : Int) + 1) = ((e + 1 : Nat) : Int) from wrp_id (by omega) (by omega)]
        refine qG.blk 1 (pc' := 2) (ls' := [(2, 8), (0, ((a : Nat) : Int)), (0, ((e + 1 : Nat) : Int))]) (st' := []) (w' := w) (n' := 142) rfl ?_
        exact ih2 _ (by omega) (e + 1) rfl (⟨by omega, by omega, fun j h1 h2 => by rcases (show j < e ∨ j = e by omega) with q | rfl; exact hI2.2.2 j h1 q; exact hlt1⟩)
    · skip
      refine qG.blk 2 (pc' := 33) (ls' := [(2, 8), (0, ((a : Nat) : Int)), (0, ((e : Nat) : Int))]) (st' := [(0, w 8 1)]) (w' := w) (n' := 142) rfl ?_
      rw [show w 8 1 = ((n : Nat) : Int) from hn]
      refine qG.ret rfl rfl ?_
      subst hQ9
      first | exact ⟨rfl, rfl, e, rfl, by omega, by omega, hI2.2.2, fun z => by rw [z] at hlt; exact absurd hlt (by decide)⟩ | exact ⟨rfl, rfl, n, rfl, by omega, Nat.le_refl _, fun j h1 h2 => hI2.2.2 j h1 (by omega), by rw [sgV_n hn (Nat.le_refl _)]; decide⟩
  exact L2 _ (a) rfl (⟨Nat.le_refl _, ha, fun j h1 h2 => absurd h2 (by omega)⟩)
theorem K_cNum {d : Nat} (hd : 1 ≤ d) (a b : Nat) (n : Nat) (hn9 : n ≤ 600) (w : qW) (hI : yInv zgf zga zra zSp w) (hn : w 8 1 = (n : Int)) (hab : a ≤ b) (hbn : b ≤ n) (hdg : ∀ j, a ≤ j → j < b → digV (sgV w j) = 1) : qG none d 141 0 [(2, 8), (0, ((a : Nat) : Int)), (0, ((b : Nat) : Int)), (9, 0), (9, 0)] [] w 142 (fun (r : qV) (w1 : qW) (n1 : Nat) => r = (0, if b - a ≤ 4 then nmF w a (b - a) else -1) ∧ w1 = w ∧ n1 = 142) := by
  generalize hQ9 : (fun (r : qV) (w1 : qW) (n1 : Nat) => r = (0, if b - a ≤ 4 then nmF w a (b - a) else -1) ∧ w1 = w ∧ n1 = 142) = Q9
  obtain ⟨d, rfl⟩ : ∃ d9, d = d9 + 1 := ⟨d - 1, by omega⟩
  refine qG.blk 3 (pc' := 3) (ls' := [(2, 8), (0, ((a : Nat) : Int)), (0, ((b : Nat) : Int)), (9, 0), (9, 0)]) (st' := [(0, wrp (((b : Nat) : Int) - ((a : Nat) : Int)))]) (w' := w) (n' := 142) rfl ?_
  rw [show wrp (((b : Nat) : Int) - ((a : Nat) : Int)) = ((b : Nat) : Int) - ((a : Nat) : Int) from wrp_id (by omega) (by omega)]
  refine qG.blk 1 (pc' := 4) (ls' := [(2, 8), (0, ((a : Nat) : Int)), (0, ((b : Nat) : Int)), (9, 0), (9, 0)]) (st' := [(0, 4), (0, ((b : Nat) : Int) - ((a : Nat) : Int))]) (w' := w) (n' := 142) rfl ?_
  refine qG.br (P := 4 < ((b : Nat) : Int) - ((a : Nat) : Int)) (pc1 := 7) (pc2 := 9) (st1 := []) rfl (fun h4 => ?_) (fun h4 => ?_)
  · skip
    refine qG.blk 1 (pc' := 8) (ls' := [(2, 8), (0, ((a : Nat) : Int)), (0, ((b : Nat) : Int)), (9, 0), (9, 0)]) (st' := [(0, (-1))]) (w' := w) (n' := 142) rfl ?_
    refine qG.ret rfl rfl ?_
    subst hQ9
    first | exact ⟨by rw [if_pos (show b - a ≤ 4 by omega), show b - a = m by omega], rfl, rfl⟩ | exact ⟨by rw [if_neg (show ¬ b - a ≤ 4 by omega)], rfl, rfl⟩
  · skip
    refine qG.blk 4 (pc' := 14) (ls' := [(2, 8), (0, ((a : Nat) : Int)), (0, ((b : Nat) : Int)), (0, 0), (0, ((a : Nat) : Int))]) (st' := []) (w' := w) (n' := 142) rfl ?_
    have L14 : ∀ (m9 : Nat) (m : Nat), b - (a + m) = m9 → (a + m ≤ b) → qG none (d + 1) 141 14 [(2, 8), (0, ((a : Nat) : Int)), (0, ((b : Nat) : Int)), (0, nmF w a m), (0, ((a + m : Nat) : Int))] [] w 142 Q9 := by
      intro m9
      induction m9 using Nat.strongRecOn with
      | ind m9 ih14 =>
      intro m hm14 hI14
      have hv9 := nm_in hdg m (by omega) (by omega)
      refine qG.blk 2 (pc' := 17) (ls' := [(2, 8), (0, ((a : Nat) : Int)), (0, ((b : Nat) : Int)), (0, nmF w a m), (0, ((a + m : Nat) : Int))]) (st' := [(0, ((b : Nat) : Int)), (0, ((a + m : Nat) : Int))]) (w' := w) (n' := 142) rfl ?_
      refine qG.br (P := ((a + m : Nat) : Int) < ((b : Nat) : Int)) (pc1 := 20) (pc2 := 41) (st1 := []) rfl (fun hlt => ?_) (fun hlt => ?_)
      · skip
        have hd9 := digV_1.mp (hdg (a + m) (by omega) (by omega))
        refine qG.blk 3 (pc' := 24) (ls' := [(2, 8), (0, ((a : Nat) : Int)), (0, ((b : Nat) : Int)), (0, nmF w a m), (0, ((a + m : Nat) : Int))]) (st' := [(0, wrp (10 * (nmF w a m)))]) (w' := w) (n' := 142) rfl ?_
        rw [show wrp (10 * (nmF w a m)) = 10 * nmF w a m from wrp_id (by omega) (by omega)]
        refine qG.blk 2 (pc' := 27) (ls' := [(2, 8), (0, ((a : Nat) : Int)), (0, ((b : Nat) : Int)), (0, nmF w a m), (0, ((a + m : Nat) : Int))]) (st' := [(0, ((a + m : Nat) : Int)), (2, 8), (0, 10 * nmF w a m)]) (w' := w) (n' := 142) rfl ?_
        refine qG.call (t := 136) (na := 2) (sk := 1) (md := 1) (ls1 := [(2, 8), (0, ((a + m : Nat) : Int))]) (r1 := [(0, 10 * nmF w a m)]) rfl rfl rfl rfl rfl (K_cSign (by omega) (a + m) n hn9 w hI hn) ?_
        rintro _ w7 _ ⟨rfl, hw7, rfl⟩
        rw [hw7]
        show qG none (d + 1) 141 30 [(2, 8), (0, ((a : Nat) : Int)), (0, ((b : Nat) : Int)), (0, nmF w a m), (0, ((a + m : Nat) : Int))] [(0, sgV w (a + m)), (0, 10 * nmF w a m)] w 142 Q9
        refine qG.blk 1 (pc' := 31) (ls' := [(2, 8), (0, ((a : Nat) : Int)), (0, ((b : Nat) : Int)), (0, nmF w a m), (0, ((a + m : Nat) : Int))]) (st' := [(0, wrp ((10 * nmF w a m) + (sgV w (a + m))))]) (w' := w) (n' := 142) rfl ?_
        rw [show wrp ((10 * nmF w a m) + (sgV w (a + m))) = 10 * nmF w a m + sgV w (a + m) from wrp_id (by have := sgV_in w (a + m); omega) (by have := sgV_in w (a + m); omega)]
        refine qG.blk 2 (pc' := 34) (ls' := [(2, 8), (0, ((a : Nat) : Int)), (0, ((b : Nat) : Int)), (0, nmF w a m), (0, ((a + m : Nat) : Int))]) (st' := [(0, wrp ((10 * nmF w a m + sgV w (a + m)) - 48))]) (w' := w) (n' := 142) rfl ?_
        rw [show wrp ((10 * nmF w a m + sgV w (a + m)) - 48) = 10 * nmF w a m + sgV w (a + m) - 48 from wrp_id (by have := sgV_in w (a + m); omega) (by have := sgV_in w (a + m); omega)]
        refine qG.blk 2 (pc' := 38) (ls' := [(2, 8), (0, ((a : Nat) : Int)), (0, ((b : Nat) : Int)), (0, 10 * nmF w a m + sgV w (a + m) - 48), (0, wrp (((a + m : Nat) : Int) + 1))]) (st' := []) (w' := w) (n' := 142) rfl ?_
        rw [show wrp (((a + m : Nat) : Int) + 1) = ((a + m + 1 : Nat) : Int) from wrp_id (by omega) (by omega)]
        refine qG.blk 1 (pc' := 14) (ls' := [(2, 8), (0, ((a : Nat) : Int)), (0, ((b : Nat) : Int)), (0, 10 * nmF w a m + sgV w (a + m) - 48), (0, ((a + m + 1 : Nat) : Int))]) (st' := []) (w' := w) (n' := 142) rfl ?_
        exact ih14 _ (by omega) (m + 1) rfl (by omega)
      · skip
        refine qG.blk 1 (pc' := 42) (ls' := [(2, 8), (0, ((a : Nat) : Int)), (0, ((b : Nat) : Int)), (0, nmF w a m), (0, ((a + m : Nat) : Int))]) (st' := [(0, nmF w a m)]) (w' := w) (n' := 142) rfl ?_
        refine qG.ret rfl rfl ?_
        subst hQ9
        first | exact ⟨by rw [if_pos (show b - a ≤ 4 by omega), show b - a = m by omega], rfl, rfl⟩ | exact ⟨by rw [if_neg (show ¬ b - a ≤ 4 by omega)], rfl, rfl⟩
    exact L14 _ (0) rfl (by omega)
theorem K_cAdd {d : Nat} (hd : 0 ≤ d) (v q : Int) (t : Nat) (ht : t ≤ 600) (n : Nat) (hn9 : n ≤ 600) (w : qW) (hI : yInv zgf zga zra zSp w) (hn : w 8 1 = (n : Int)) (ht8 : w 8 4 = (t : Int)) : qG none d 144 0 [(2, 8), (0, v), (0, q)] [] w 142 (fun (r : qV) (w1 : qW) (n1 : Nat) => r = (9, 0) ∧ n1 = 142 ∧ w1 = qup (qup (qup w 10 t v) 11 t q) 8 4 ((t + 1 : Nat) : Int)) := by
  generalize hQ9 : (fun (r : qV) (w1 : qW) (n1 : Nat) => r = (9, 0) ∧ n1 = 142 ∧ w1 = qup (qup (qup w 10 t v) 11 t q) 8 4 ((t + 1 : Nat) : Int)) = Q9
  obtain ⟨N6, hN6⟩ : ∃ N : Int, N = 601 := ⟨_, rfl⟩
  refine qG.blk 2 (pc' := 4) (ls' := [(2, 8), (0, v), (0, q)]) (st' := [(0, w 8 4)]) (w' := w) (n' := 142) rfl ?_
  rw [show w 8 4 = ((t : Nat) : Int) from ht8]
  refine qG.blk 1 (pc' := 7) (ls' := [(2, 8), (0, v), (0, q)]) (st' := [(0, 601), (0, ((t : Nat) : Int))]) (w' := w) (n' := 142) rfl ?_
  rw [show (601 : Int) = N6 from hN6.symm]
  refine qG.br (P := ((t : Nat) : Int) < N6) (pc1 := 10) (pc2 := 40) (st1 := []) rfl (fun h1 => ?_) (fun h1 => ?_)
  · skip
    refine qG.blk 2 (pc' := 14) (ls' := [(2, 8), (0, v), (0, q)]) (st' := [(2, w 8 2)]) (w' := w) (n' := 142) rfl ?_
    rw [show w 8 2 = 10 from zref hI rfl rfl]
    refine qG.blk 2 (pc' := 18) (ls' := [(2, 8), (0, v), (0, q)]) (st' := [(0, w 8 4), (2, 10)]) (w' := w) (n' := 142) rfl ?_
    rw [show w 8 4 = ((t : Nat) : Int) from ht8]
    refine qG.blk 1 (pc' := 19) (ls' := [(2, 8), (0, v), (0, q)]) (st' := [(0, v), (0, ((t : Nat) : Int)), (2, 10)]) (w' := w) (n' := 142) rfl ?_
    refine qG.ist (m := 601) rfl rfl (by omega) (by decide) ?_
    show qG none d 144 20 [(2, 8), (0, v), (0, q)] [] (qup w 10 t v) 142 Q9
    refine qG.blk 2 (pc' := 24) (ls' := [(2, 8), (0, v), (0, q)]) (st' := [(2, w 8 3)]) (w' := (qup w 10 t v)) (n' := 142) rfl ?_
    rw [show w 8 3 = 11 from zref hI rfl rfl]
    refine qG.blk 2 (pc' := 28) (ls' := [(2, 8), (0, v), (0, q)]) (st' := [(0, w 8 4), (2, 11)]) (w' := (qup w 10 t v)) (n' := 142) rfl ?_
    rw [show w 8 4 = ((t : Nat) : Int) from ht8]
    refine qG.blk 1 (pc' := 29) (ls' := [(2, 8), (0, v), (0, q)]) (st' := [(0, q), (0, ((t : Nat) : Int)), (2, 11)]) (w' := (qup w 10 t v)) (n' := 142) rfl ?_
    refine qG.ist (m := 601) rfl rfl (by omega) (by decide) ?_
    show qG none d 144 30 [(2, 8), (0, v), (0, q)] [] (qup (qup w 10 t v) 11 t q) 142 Q9
    refine qG.blk 3 (pc' := 35) (ls' := [(2, 8), (0, v), (0, q)]) (st' := [(0, w 8 4), (2, 8)]) (w' := (qup (qup w 10 t v) 11 t q)) (n' := 142) rfl ?_
    rw [show w 8 4 = ((t : Nat) : Int) from ht8]
    refine qG.blk 2 (pc' := 37) (ls' := [(2, 8), (0, v), (0, q)]) (st' := [(0, wrp (((t : Nat) : Int) + 1)), (2, 8)]) (w' := (qup (qup w 10 t v) 11 t q)) (n' := 142) rfl ?_
    rw [show wrp (((t : Nat) : Int) + 1) = ((t + 1 : Nat) : Int) from by rw [wrp_id (by omega) (by omega)]; omega]
    refine qG.blk 1 (pc' := 40) (ls' := [(2, 8), (0, v), (0, q)]) (st' := []) (w' := (qup (qup (qup w 10 t v) 11 t q) 8 4 ((t + 1 : Nat) : Int))) (n' := 142) rfl ?_
    refine qG.retv rfl rfl ?_
    subst hQ9
    exact ⟨rfl, rfl, rfl⟩
  · exfalso; omega
