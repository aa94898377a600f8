/-! the class's sets of poses -/
theorem qup_nq {w : qW} {p j q k : Nat} {v : Int} (h : q ≠ p) : qup w p j v q k = w q k := congrFun (qup_ne h) k
theorem qG.lld {sc : Option (Nat × (Nat → Int))} {d k pc n m x len : Nat} {ls r : List qV} {w : qW} {Q : qV → qW → Nat → Prop} {i p : Int} (hq : qcd k pc = some (.laload, len)) (hp : qpl p.toNat = (1, 1, m, x)) (hi : 0 ≤ i ∧ i < (m : Int)) (h0 : 0 < p ∧ p ≤ (n : Int)) (g : qG sc d k (pc + 1) ls ((1, w p.toNat i.toNat) :: r) w n Q) : qG sc d k pc ls ((0, i) :: (2, p) :: r) w n Q := by
  refine qG.one (pc' := pc + 1) (ls' := ls) (st' := (1, w p.toNat i.toNat) :: r) (w' := w) (n' := n) ?_ g
  unfold qone
  rw [hq]
  show qs1 sc k .laload len pc ls ((0, i) :: (2, p) :: r) w n = _
  rw [qs1_laload]
  show (match qpl p.toNat with
    | (1, 1, m, _) => if 0 ≤ i ∧ i < (m : Int) then (if 0 < p ∧ p ≤ (n : Int) then some (pc + 1, ls, (1, w p.toNat i.toNat) :: r, w, n) else none) else none
    | _ => none) = _
  rw [hp]
  show (if 0 ≤ i ∧ i < (m : Int) then (if 0 < p ∧ p ≤ (n : Int) then some (pc + 1, ls, (1, w p.toNat i.toNat) :: r, w, n) else none) else none) = _
  rw [if_pos hi, if_pos h0]
theorem qG.lst {sc : Option (Nat × (Nat → Int))} {d k pc n m x len : Nat} {ls r : List qV} {w : qW} {Q : qV → qW → Nat → Prop} {i p v : Int} (hq : qcd k pc = some (.lastore, len)) (hp : qpl p.toNat = (1, 1, m, x)) (hi : 0 ≤ i ∧ i < (m : Int)) (h0 : 0 < p ∧ p ≤ (n : Int)) (g : qG sc d k (pc + 1) ls r (qup w p.toNat i.toNat v) n Q) : qG sc d k pc ls ((1, v) :: (0, i) :: (2, p) :: r) w n Q := by
  refine qG.one (pc' := pc + 1) (ls' := ls) (st' := r) (w' := qup w p.toNat i.toNat v) (n' := n) ?_ g
  unfold qone
  rw [hq]
  show qs1 sc k .lastore len pc ls ((1, v) :: (0, i) :: (2, p) :: r) w n = _
  rw [qs1_lastore]
  show (match qpl p.toNat with
    | (1, 1, m, _) => if 0 ≤ i ∧ i < (m : Int) then (if 0 < p ∧ p ≤ (n : Int) then some (pc + 1, ls, r, qup w p.toNat i.toNat v, n) else none) else none
    | _ => none) = _
  rw [hp]
  show (if 0 ≤ i ∧ i < (m : Int) then (if 0 < p ∧ p ≤ (n : Int) then some (pc + 1, ls, r, qup w p.toNat i.toNat v, n) else none) else none) = _
  rw [if_pos hi, if_pos h0]
/-- the pose j is in the set p; the move from i to j -/
noncomputable def sb (w : qW) (p j : Nat) : Bool := lb (w p (j / 64)) (j % 64)
noncomputable def mb (w : qW) (i j : Nat) : Bool := lb (w 26 (3 * i + j / 64)) (j % 64)
theorem q64 : ∀ i : Nat, i < 192 → qdiv (i : Int) 64 = ((i / 64 : Nat) : Int) ∧ qrem (i : Int) 64 = ((i % 64 : Nat) : Int) := by decide +kernel
noncomputable def LROW (p : Nat) : Prop := p = 27 ∨ p = 28 ∨ p = 29 ∨ p = 34 ∨ p = 35 ∨ p = 36 ∨ p = 37 ∨ p = 38
theorem lrow {w : qW} {p : Nat} (hp : LROW p) (hI : yInv zgf zga zra zSp w) (j : Nat) : qi64 (w p j) := by
  have q : yin (-9223372036854775808, 9223372036854775807) (w p j) := by
    unfold LROW at hp
    rcases hp with rfl | rfl | rfl | rfl | rfl | rfl | rfl | rfl <;> exact hI.2.1 _ j (-9223372036854775808, 9223372036854775807) rfl rfl
  have q1 : (-9223372036854775808 : Int) ≤ w p j := q.1
  have q2 : w p j ≤ (9223372036854775807 : Int) := q.2
  exact ⟨q1, by omega⟩
theorem y64i {x : Int} (h : qi64 x) : yin (-9223372036854775808, 9223372036854775807) x := ⟨h.1, by have := h.2; show x ≤ (9223372036854775807 : Int); omega⟩
theorem lput {w : qW} {p j : Nat} {v : Int} (hp : LROW p) (hI : yInv zgf zga zra zSp w) (hv : qi64 v) : yInv zgf zga zra zSp (qup w p j v) := by
  unfold LROW at hp
  rcases hp with rfl | rfl | rfl | rfl | rfl | rfl | rfl | rfl <;> exact zup_a hI (b := (-9223372036854775808, 9223372036854775807)) rfl rfl (y64i hv)
/-- three longs put -/
noncomputable def pR (w : qW) (p : Nat) (a b c : Int) : qW := qup (qup (qup w p 0 a) p 1 b) p 2 c
theorem pR_o {w : qW} {p q j : Nat} {a b c : Int} (h : q ≠ p) : pR w p a b c q j = w q j := by unfold pR; rw [qup_ne h, qup_ne h, qup_ne h]
theorem pR_0 {w : qW} {p : Nat} {a b c : Int} : pR w p a b c p 0 = a := by unfold pR; rw [qup_j (by decide), qup_j (by decide), qup_k]
theorem pR_1 {w : qW} {p : Nat} {a b c : Int} : pR w p a b c p 1 = b := by unfold pR; rw [qup_j (by decide), qup_k]
theorem pR_2 {w : qW} {p : Nat} {a b c : Int} : pR w p a b c p 2 = c := by unfold pR; rw [qup_k]
theorem pR_I {w : qW} {p : Nat} {a b c : Int} (hp : LROW p) (hI : yInv zgf zga zra zSp w) (ha : qi64 a) (hb : qi64 b) (hc : qi64 c) : yInv zgf zga zra zSp (pR w p a b c) := lput hp (lput hp (lput hp hI ha) hb) hc
theorem part3 {j : Nat} (h : j < 192) : j / 64 = 0 ∧ j % 64 = j ∨ j / 64 = 1 ∧ j = 64 + j % 64 ∨ j / 64 = 2 ∧ j = 128 + j % 64 := by omega
theorem pR_sb {w : qW} {p j : Nat} {a b c : Int} {f : Nat → Bool} (h0 : ∀ s, s < 64 → lb a s = f s) (h1 : ∀ s, s < 64 → lb b s = f (64 + s)) (h2 : ∀ s, s < 64 → lb c s = f (128 + s)) (hj : j < 192) : sb (pR w p a b c) p j = f j := by
  unfold sb
  have hm : j % 64 < 64 := Nat.mod_lt _ (by decide)
  rcases part3 hj with ⟨e, e2⟩ | ⟨e, e2⟩ | ⟨e, e2⟩
  · rw [e, pR_0, h0 _ hm, e2]
  · rw [e, pR_1, h1 _ hm, ← e2]
  · rw [e, pR_2, h2 _ hm, ← e2]
theorem sb_lo {w : qW} {p s : Nat} (h : s < 64) : sb w p s = lb (w p 0) s := by
  unfold sb; rw [show s / 64 = 0 by omega, Nat.mod_eq_of_lt h]
theorem sb_mi {w : qW} {p s : Nat} (h : s < 64) : sb w p (64 + s) = lb (w p 1) s := by
  unfold sb; rw [show (64 + s) / 64 = 1 by omega, show (64 + s) % 64 = s by omega]
theorem sb_hi {w : qW} {p s : Nat} (h : s < 64) : sb w p (128 + s) = lb (w p 2) s := by
  unfold sb; rw [show (128 + s) / 64 = 2 by omega, show (128 + s) % 64 = s by omega]
theorem sb_g {w : qW} {p g s : Nat} (h : s < 64) : sb w p (64 * g + s) = lb (w p g) s := by
  unfold sb; rw [show (64 * g + s) / 64 = g by omega, show (64 * g + s) % 64 = s by omega]
/-- a row written by a call -/
noncomputable def RW (q : Nat) (f : Nat → Bool) (w w1 : qW) : Prop := (∀ j, j < 192 → sb w1 q j = f j) ∧ (∀ r j, r ≠ q → w1 r j = w r j) ∧ yInv zgf zga zra zSp w1
theorem RW.p {q : Nat} {w : qW} {a b c : Int} {f : Nat → Bool} (hq : LROW q) (hI : yInv zgf zga zra zSp w) (ha : qi64 a) (hb : qi64 b) (hc : qi64 c) (h0 : ∀ s, s < 64 → lb a s = f s) (h1 : ∀ s, s < 64 → lb b s = f (64 + s)) (h2 : ∀ s, s < 64 → lb c s = f (128 + s)) : RW q f w (pR w q a b c) := ⟨fun j hj => pR_sb h0 h1 h2 hj, fun r j h => pR_o h, pR_I hq hI ha hb hc⟩
theorem RW.o {q : Nat} {f : Nat → Bool} {w w1 : qW} (h : RW q f w w1) {p j : Nat} (hp : p ≠ q) : sb w1 p j = sb w p j := by unfold sb; rw [h.2.1 _ _ hp]
theorem sb_set {w : qW} {p i j : Nat} : sb (qup w p (i / 64) (qlor (w p (i / 64)) (qlshl 1 ((i % 64 : Nat) : Int)))) p j = (sb w p j || decide (i = j)) := by
  unfold sb
  have hm : i % 64 < 64 := Nat.mod_lt _ (by decide)
  by_cases e : j / 64 = i / 64
  · rw [e, qup_k, lb_or, lb_sh1 hm]
    congr 1
    by_cases e2 : i = j
    · rw [decide_eq_true e2, decide_eq_true (by rw [e2])]
    · rw [decide_eq_false e2, decide_eq_false (by omega)]
  · rw [qup_j e, decide_eq_false (show ¬ i = j from fun z => e (by rw [z])), Bool.or_false]
theorem qcmp_0 {x y : Int} : qcmp x y = 0 ↔ x = y := by
  unfold qcmp
  split
  · constructor <;> intro h <;> omega
  · split
    · exact ⟨fun _ => by assumption, fun _ => rfl⟩
    · constructor <;> intro h <;> omega
theorem K_putRow27 {d : Nat} (hd : 0 ≤ d) (a b c : Int) (w : qW) : qG none d 105 0 [(2, 27), (1, a), (9, 0), (1, b), (9, 0), (1, c), (9, 0)] [] w 142 (fun (r : qV) (w1 : qW) (n1 : Nat) => r = (9, 0) ∧ w1 = pR w 27 a b c ∧ n1 = 142) := by
  generalize hQ9 : (fun (r : qV) (w1 : qW) (n1 : Nat) => r = (9, 0) ∧ w1 = pR w 27 a b c ∧ n1 = 142) = Q9
  refine qG.blk 3 (pc' := 3) (ls' := [(2, 27), (1, a), (9, 0), (1, b), (9, 0), (1, c), (9, 0)]) (st' := [(0, 3), (0, 3)]) (w' := w) (n' := 142) rfl ?_
  refine qG.br (P := (3 : Int) < 3) (pc1 := 19) (pc2 := 6) (st1 := []) rfl (fun h1 => ?_) (fun h1 => ?_)
  · exact absurd h1 (by decide)
  · skip
    refine qG.blk 3 (pc' := 9) (ls' := [(2, 27), (1, a), (9, 0), (1, b), (9, 0), (1, c), (9, 0)]) (st' := [(1, a), (0, 0), (2, 27)]) (w' := w) (n' := 142) rfl ?_
    refine qG.ar (P := 0 ≤ 0 ∧ 0 < ((3 : Nat) : Int)) (P2 := 0 < (27 : Int) ∧ (27 : Int) ≤ ((142 : Nat) : Int)) (pc' := 10) (ls' := [(2, 27), (1, a), (9, 0), (1, b), (9, 0), (1, c), (9, 0)]) (st' := []) (w' := (qup w 27 0 a)) (n' := 142) rfl (by omega) (by decide) ?_
    refine qG.blk 3 (pc' := 13) (ls' := [(2, 27), (1, a), (9, 0), (1, b), (9, 0), (1, c), (9, 0)]) (st' := [(1, b), (0, 1), (2, 27)]) (w' := (qup w 27 0 a)) (n' := 142) rfl ?_
    refine qG.ar (P := 0 ≤ 1 ∧ 1 < ((3 : Nat) : Int)) (P2 := 0 < (27 : Int) ∧ (27 : Int) ≤ ((142 : Nat) : Int)) (pc' := 14) (ls' := [(2, 27), (1, a), (9, 0), (1, b), (9, 0), (1, c), (9, 0)]) (st' := []) (w' := (qup (qup w 27 0 a) 27 1 b)) (n' := 142) rfl (by omega) (by decide) ?_
    refine qG.blk 3 (pc' := 18) (ls' := [(2, 27), (1, a), (9, 0), (1, b), (9, 0), (1, c), (9, 0)]) (st' := [(1, c), (0, 2), (2, 27)]) (w' := (qup (qup w 27 0 a) 27 1 b)) (n' := 142) rfl ?_
    refine qG.ar (P := 0 ≤ 2 ∧ 2 < ((3 : Nat) : Int)) (P2 := 0 < (27 : Int) ∧ (27 : Int) ≤ ((142 : Nat) : Int)) (pc' := 19) (ls' := [(2, 27), (1, a), (9, 0), (1, b), (9, 0), (1, c), (9, 0)]) (st' := []) (w' := (qup (qup (qup w 27 0 a) 27 1 b) 27 2 c)) (n' := 142) rfl (by omega) (by decide) ?_
    refine qG.retv rfl rfl ?_
    subst hQ9
    exact ⟨rfl, rfl, rfl⟩
theorem K_putRow28 {d : Nat} (hd : 0 ≤ d) (a b c : Int) (w : qW) : qG none d 105 0 [(2, 28), (1, a), (9, 0), (1, b), (9, 0), (1, c), (9, 0)] [] w 142 (fun (r : qV) (w1 : qW) (n1 : Nat) => r = (9, 0) ∧ w1 = pR w 28 a b c ∧ n1 = 142) := by
  generalize hQ9 : (fun (r : qV) (w1 : qW) (n1 : Nat) => r = (9, 0) ∧ w1 = pR w 28 a b c ∧ n1 = 142) = Q9
  refine qG.blk 3 (pc' := 3) (ls' := [(2, 28), (1, a), (9, 0), (1, b), (9, 0), (1, c), (9, 0)]) (st' := [(0, 3), (0, 3)]) (w' := w) (n' := 142) rfl ?_
  refine qG.br (P := (3 : Int) < 3) (pc1 := 19) (pc2 := 6) (st1 := []) rfl (fun h1 => ?_) (fun h1 => ?_)
  · exact absurd h1 (by decide)
  · skip
    refine qG.blk 3 (pc' := 9) (ls' := [(2, 28), (1, a), (9, 0), (1, b), (9, 0), (1, c), (9, 0)]) (st' := [(1, a), (0, 0), (2, 28)]) (w' := w) (n' := 142) rfl ?_
    refine qG.ar (P := 0 ≤ 0 ∧ 0 < ((3 : Nat) : Int)) (P2 := 0 < (28 : Int) ∧ (28 : Int) ≤ ((142 : Nat) : Int)) (pc' := 10) (ls' := [(2, 28), (1, a), (9, 0), (1, b), (9, 0), (1, c), (9, 0)]) (st' := []) (w' := (qup w 28 0 a)) (n' := 142) rfl (by omega) (by decide) ?_
    refine qG.blk 3 (pc' := 13) (ls' := [(2, 28), (1, a), (9, 0), (1, b), (9, 0), (1, c), (9, 0)]) (st' := [(1, b), (0, 1), (2, 28)]) (w' := (qup w 28 0 a)) (n' := 142) rfl ?_
    refine qG.ar (P := 0 ≤ 1 ∧ 1 < ((3 : Nat) : Int)) (P2 := 0 < (28 : Int) ∧ (28 : Int) ≤ ((142 : Nat) : Int)) (pc' := 14) (ls' := [(2, 28), (1, a), (9, 0), (1, b), (9, 0), (1, c), (9, 0)]) (st' := []) (w' := (qup (qup w 28 0 a) 28 1 b)) (n' := 142) rfl (by omega) (by decide) ?_
    refine qG.blk 3 (pc' := 18) (ls' := [(2, 28), (1, a), (9, 0), (1, b), (9, 0), (1, c), (9, 0)]) (st' := [(1, c), (0, 2), (2, 28)]) (w' := (qup (qup w 28 0 a) 28 1 b)) (n' := 142) rfl ?_
    refine qG.ar (P := 0 ≤ 2 ∧ 2 < ((3 : Nat) : Int)) (P2 := 0 < (28 : Int) ∧ (28 : Int) ≤ ((142 : Nat) : Int)) (pc' := 19) (ls' := [(2, 28), (1, a), (9, 0), (1, b), (9, 0), (1, c), (9, 0)]) (st' := []) (w' := (qup (qup (qup w 28 0 a) 28 1 b) 28 2 c)) (n' := 142) rfl (by omega) (by decide) ?_
    refine qG.retv rfl rfl ?_
    subst hQ9
    exact ⟨rfl, rfl, rfl⟩
theorem K_putRow29 {d : Nat} (hd : 0 ≤ d) (a b c : Int) (w : qW) : qG none d 105 0 [(2, 29), (1, a), (9, 0), (1, b), (9, 0), (1, c), (9, 0)] [] w 142 (fun (r : qV) (w1 : qW) (n1 : Nat) => r = (9, 0) ∧ w1 = pR w 29 a b c ∧ n1 = 142) := by
  generalize hQ9 : (fun (r : qV) (w1 : qW) (n1 : Nat) => r = (9, 0) ∧ w1 = pR w 29 a b c ∧ n1 = 142) = Q9
  refine qG.blk 3 (pc' := 3) (ls' := [(2, 29), (1, a), (9, 0), (1, b), (9, 0), (1, c), (9, 0)]) (st' := [(0, 3), (0, 3)]) (w' := w) (n' := 142) rfl ?_
  refine qG.br (P := (3 : Int) < 3) (pc1 := 19) (pc2 := 6) (st1 := []) rfl (fun h1 => ?_) (fun h1 => ?_)
  · exact absurd h1 (by decide)
  · skip
    refine qG.blk 3 (pc' := 9) (ls' := [(2, 29), (1, a), (9, 0), (1, b), (9, 0), (1, c), (9, 0)]) (st' := [(1, a), (0, 0), (2, 29)]) (w' := w) (n' := 142) rfl ?_
    refine qG.ar (P := 0 ≤ 0 ∧ 0 < ((3 : Nat) : Int)) (P2 := 0 < (29 : Int) ∧ (29 : Int) ≤ ((142 : Nat) : Int)) (pc' := 10) (ls' := [(2, 29), (1, a), (9, 0), (1, b), (9, 0), (1, c), (9, 0)]) (st' := []) (w' := (qup w 29 0 a)) (n' := 142) rfl (by omega) (by decide) ?_
    refine qG.blk 3 (pc' := 13) (ls' := [(2, 29), (1, a), (9, 0), (1, b), (9, 0), (1, c), (9, 0)]) (st' := [(1, b), (0, 1), (2, 29)]) (w' := (qup w 29 0 a)) (n' := 142) rfl ?_
    refine qG.ar (P := 0 ≤ 1 ∧ 1 < ((3 : Nat) : Int)) (P2 := 0 < (29 : Int) ∧ (29 : Int) ≤ ((142 : Nat) : Int)) (pc' := 14) (ls' := [(2, 29), (1, a), (9, 0), (1, b), (9, 0), (1, c), (9, 0)]) (st' := []) (w' := (qup (qup w 29 0 a) 29 1 b)) (n' := 142) rfl (by omega) (by decide) ?_
    refine qG.blk 3 (pc' := 18) (ls' := [(2, 29), (1, a), (9, 0), (1, b), (9, 0), (1, c), (9, 0)]) (st' := [(1, c), (0, 2), (2, 29)]) (w' := (qup (qup w 29 0 a) 29 1 b)) (n' := 142) rfl ?_
    refine qG.ar (P := 0 ≤ 2 ∧ 2 < ((3 : Nat) : Int)) (P2 := 0 < (29 : Int) ∧ (29 : Int) ≤ ((142 : Nat) : Int)) (pc' := 19) (ls' := [(2, 29), (1, a), (9, 0), (1, b), (9, 0), (1, c), (9, 0)]) (st' := []) (w' := (qup (qup (qup w 29 0 a) 29 1 b) 29 2 c)) (n' := 142) rfl (by omega) (by decide) ?_
    refine qG.retv rfl rfl ?_
    subst hQ9
    exact ⟨rfl, rfl, rfl⟩
theorem K_putRow34 {d : Nat} (hd : 0 ≤ d) (a b c : Int) (w : qW) : qG none d 105 0 [(2, 34), (1, a), (9, 0), (1, b), (9, 0), (1, c), (9, 0)] [] w 142 (fun (r : qV) (w1 : qW) (n1 : Nat) => r = (9, 0) ∧ w1 = pR w 34 a b c ∧ n1 = 142) := by
  generalize hQ9 : (fun (r : qV) (w1 : qW) (n1 : Nat) => r = (9, 0) ∧ w1 = pR w 34 a b c ∧ n1 = 142) = Q9
  refine qG.blk 3 (pc' := 3) (ls' := [(2, 34), (1, a), (9, 0), (1, b), (9, 0), (1, c), (9, 0)]) (st' := [(0, 3), (0, 3)]) (w' := w) (n' := 142) rfl ?_
  refine qG.br (P := (3 : Int) < 3) (pc1 := 19) (pc2 := 6) (st1 := []) rfl (fun h1 => ?_) (fun h1 => ?_)
  · exact absurd h1 (by decide)
  · skip
    refine qG.blk 3 (pc' := 9) (ls' := [(2, 34), (1, a), (9, 0), (1, b), (9, 0), (1, c), (9, 0)]) (st' := [(1, a), (0, 0), (2, 34)]) (w' := w) (n' := 142) rfl ?_
    refine qG.ar (P := 0 ≤ 0 ∧ 0 < ((3 : Nat) : Int)) (P2 := 0 < (34 : Int) ∧ (34 : Int) ≤ ((142 : Nat) : Int)) (pc' := 10) (ls' := [(2, 34), (1, a), (9, 0), (1, b), (9, 0), (1, c), (9, 0)]) (st' := []) (w' := (qup w 34 0 a)) (n' := 142) rfl (by omega) (by decide) ?_
    refine qG.blk 3 (pc' := 13) (ls' := [(2, 34), (1, a), (9, 0), (1, b), (9, 0), (1, c), (9, 0)]) (st' := [(1, b), (0, 1), (2, 34)]) (w' := (qup w 34 0 a)) (n' := 142) rfl ?_
    refine qG.ar (P := 0 ≤ 1 ∧ 1 < ((3 : Nat) : Int)) (P2 := 0 < (34 : Int) ∧ (34 : Int) ≤ ((142 : Nat) : Int)) (pc' := 14) (ls' := [(2, 34), (1, a), (9, 0), (1, b), (9, 0), (1, c), (9, 0)]) (st' := []) (w' := (qup (qup w 34 0 a) 34 1 b)) (n' := 142) rfl (by omega) (by decide) ?_
    refine qG.blk 3 (pc' := 18) (ls' := [(2, 34), (1, a), (9, 0), (1, b), (9, 0), (1, c), (9, 0)]) (st' := [(1, c), (0, 2), (2, 34)]) (w' := (qup (qup w 34 0 a) 34 1 b)) (n' := 142) rfl ?_
    refine qG.ar (P := 0 ≤ 2 ∧ 2 < ((3 : Nat) : Int)) (P2 := 0 < (34 : Int) ∧ (34 : Int) ≤ ((142 : Nat) : Int)) (pc' := 19) (ls' := [(2, 34), (1, a), (9, 0), (1, b), (9, 0), (1, c), (9, 0)]) (st' := []) (w' := (qup (qup (qup w 34 0 a) 34 1 b) 34 2 c)) (n' := 142) rfl (by omega) (by decide) ?_
    refine qG.retv rfl rfl ?_
    subst hQ9
    exact ⟨rfl, rfl, rfl⟩
theorem K_putRow35 {d : Nat} (hd : 0 ≤ d) (a b c : Int) (w : qW) : qG none d 105 0 [(2, 35), (1, a), (9, 0), (1, b), (9, 0), (1, c), (9, 0)] [] w 142 (fun (r : qV) (w1 : qW) (n1 : Nat) => r = (9, 0) ∧ w1 = pR w 35 a b c ∧ n1 = 142) := by
  generalize hQ9 : (fun (r : qV) (w1 : qW) (n1 : Nat) => r = (9, 0) ∧ w1 = pR w 35 a b c ∧ n1 = 142) = Q9
  refine qG.blk 3 (pc' := 3) (ls' := [(2, 35), (1, a), (9, 0), (1, b), (9, 0), (1, c), (9, 0)]) (st' := [(0, 3), (0, 3)]) (w' := w) (n' := 142) rfl ?_
  refine qG.br (P := (3 : Int) < 3) (pc1 := 19) (pc2 := 6) (st1 := []) rfl (fun h1 => ?_) (fun h1 => ?_)
  · exact absurd h1 (by decide)
  · skip
    refine qG.blk 3 (pc' := 9) (ls' := [(2, 35), (1, a), (9, 0), (1, b), (9, 0), (1, c), (9, 0)]) (st' := [(1, a), (0, 0), (2, 35)]) (w' := w) (n' := 142) rfl ?_
    refine qG.ar (P := 0 ≤ 0 ∧ 0 < ((3 : Nat) : Int)) (P2 := 0 < (35 : Int) ∧ (35 : Int) ≤ ((142 : Nat) : Int)) (pc' := 10) (ls' := [(2, 35), (1, a), (9, 0), (1, b), (9, 0), (1, c), (9, 0)]) (st' := []) (w' := (qup w 35 0 a)) (n' := 142) rfl (by omega) (by decide) ?_
    refine qG.blk 3 (pc' := 13) (ls' := [(2, 35), (1, a), (9, 0), (1, b), (9, 0), (1, c), (9, 0)]) (st' := [(1, b), (0, 1), (2, 35)]) (w' := (qup w 35 0 a)) (n' := 142) rfl ?_
    refine qG.ar (P := 0 ≤ 1 ∧ 1 < ((3 : Nat) : Int)) (P2 := 0 < (35 : Int) ∧ (35 : Int) ≤ ((142 : Nat) : Int)) (pc' := 14) (ls' := [(2, 35), (1, a), (9, 0), (1, b), (9, 0), (1, c), (9, 0)]) (st' := []) (w' := (qup (qup w 35 0 a) 35 1 b)) (n' := 142) rfl (by omega) (by decide) ?_
    refine qG.blk 3 (pc' := 18) (ls' := [(2, 35), (1, a), (9, 0), (1, b), (9, 0), (1, c), (9, 0)]) (st' := [(1, c), (0, 2), (2, 35)]) (w' := (qup (qup w 35 0 a) 35 1 b)) (n' := 142) rfl ?_
    refine qG.ar (P := 0 ≤ 2 ∧ 2 < ((3 : Nat) : Int)) (P2 := 0 < (35 : Int) ∧ (35 : Int) ≤ ((142 : Nat) : Int)) (pc' := 19) (ls' := [(2, 35), (1, a), (9, 0), (1, b), (9, 0), (1, c), (9, 0)]) (st' := []) (w' := (qup (qup (qup w 35 0 a) 35 1 b) 35 2 c)) (n' := 142) rfl (by omega) (by decide) ?_
    refine qG.retv rfl rfl ?_
    subst hQ9
    exact ⟨rfl, rfl, rfl⟩
theorem K_putRow36 {d : Nat} (hd : 0 ≤ d) (a b c : Int) (w : qW) : qG none d 105 0 [(2, 36), (1, a), (9, 0), (1, b), (9, 0), (1, c), (9, 0)] [] w 142 (fun (r : qV) (w1 : qW) (n1 : Nat) => r = (9, 0) ∧ w1 = pR w 36 a b c ∧ n1 = 142) := by
  generalize hQ9 : (fun (r : qV) (w1 : qW) (n1 : Nat) => r = (9, 0) ∧ w1 = pR w 36 a b c ∧ n1 = 142) = Q9
  refine qG.blk 3 (pc' := 3) (ls' := [(2, 36), (1, a), (9, 0), (1, b), (9, 0), (1, c), (9, 0)]) (st' := [(0, 3), (0, 3)]) (w' := w) (n' := 142) rfl ?_
  refine qG.br (P := (3 : Int) < 3) (pc1 := 19) (pc2 := 6) (st1 := []) rfl (fun h1 => ?_) (fun h1 => ?_)
  · exact absurd h1 (by decide)
  · skip
    refine qG.blk 3 (pc' := 9) (ls' := [(2, 36), (1, a), (9, 0), (1, b), (9, 0), (1, c), (9, 0)]) (st' := [(1, a), (0, 0), (2, 36)]) (w' := w) (n' := 142) rfl ?_
    refine qG.ar (P := 0 ≤ 0 ∧ 0 < ((3 : Nat) : Int)) (P2 := 0 < (36 : Int) ∧ (36 : Int) ≤ ((142 : Nat) : Int)) (pc' := 10) (ls' := [(2, 36), (1, a), (9, 0), (1, b), (9, 0), (1, c), (9, 0)]) (st' := []) (w' := (qup w 36 0 a)) (n' := 142) rfl (by omega) (by decide) ?_
    refine qG.blk 3 (pc' := 13) (ls' := [(2, 36), (1, a), (9, 0), (1, b), (9, 0), (1, c), (9, 0)]) (st' := [(1, b), (0, 1), (2, 36)]) (w' := (qup w 36 0 a)) (n' := 142) rfl ?_
    refine qG.ar (P := 0 ≤ 1 ∧ 1 < ((3 : Nat) : Int)) (P2 := 0 < (36 : Int) ∧ (36 : Int) ≤ ((142 : Nat) : Int)) (pc' := 14) (ls' := [(2, 36), (1, a), (9, 0), (1, b), (9, 0), (1, c), (9, 0)]) (st' := []) (w' := (qup (qup w 36 0 a) 36 1 b)) (n' := 142) rfl (by omega) (by decide) ?_
    refine qG.blk 3 (pc' := 18) (ls' := [(2, 36), (1, a), (9, 0), (1, b), (9, 0), (1, c), (9, 0)]) (st' := [(1, c), (0, 2), (2, 36)]) (w' := (qup (qup w 36 0 a) 36 1 b)) (n' := 142) rfl ?_
    refine qG.ar (P := 0 ≤ 2 ∧ 2 < ((3 : Nat) : Int)) (P2 := 0 < (36 : Int) ∧ (36 : Int) ≤ ((142 : Nat) : Int)) (pc' := 19) (ls' := [(2, 36), (1, a), (9, 0), (1, b), (9, 0), (1, c), (9, 0)]) (st' := []) (w' := (qup (qup (qup w 36 0 a) 36 1 b) 36 2 c)) (n' := 142) rfl (by omega) (by decide) ?_
    refine qG.retv rfl rfl ?_
    subst hQ9
    exact ⟨rfl, rfl, rfl⟩
theorem K_putRow37 {d : Nat} (hd : 0 ≤ d) (a b c : Int) (w : qW) : qG none d 105 0 [(2, 37), (1, a), (9, 0), (1, b), (9, 0), (1, c), (9, 0)] [] w 142 (fun (r : qV) (w1 : qW) (n1 : Nat) => r = (9, 0) ∧ w1 = pR w 37 a b c ∧ n1 = 142) := by
  generalize hQ9 : (fun (r : qV) (w1 : qW) (n1 : Nat) => r = (9, 0) ∧ w1 = pR w 37 a b c ∧ n1 = 142) = Q9
  refine qG.blk 3 (pc' := 3) (ls' := [(2, 37), (1, a), (9, 0), (1, b), (9, 0), (1, c), (9, 0)]) (st' := [(0, 3), (0, 3)]) (w' := w) (n' := 142) rfl ?_
  refine qG.br (P := (3 : Int) < 3) (pc1 := 19) (pc2 := 6) (st1 := []) rfl (fun h1 => ?_) (fun h1 => ?_)
  · exact absurd h1 (by decide)
  · skip
    refine qG.blk 3 (pc' := 9) (ls' := [(2, 37), (1, a), (9, 0), (1, b), (9, 0), (1, c), (9, 0)]) (st' := [(1, a), (0, 0), (2, 37)]) (w' := w) (n' := 142) rfl ?_
    refine qG.ar (P := 0 ≤ 0 ∧ 0 < ((3 : Nat) : Int)) (P2 := 0 < (37 : Int) ∧ (37 : Int) ≤ ((142 : Nat) : Int)) (pc' := 10) (ls' := [(2, 37), (1, a), (9, 0), (1, b), (9, 0), (1, c), (9, 0)]) (st' := []) (w' := (qup w 37 0 a)) (n' := 142) rfl (by omega) (by decide) ?_
    refine qG.blk 3 (pc' := 13) (ls' := [(2, 37), (1, a), (9, 0), (1, b), (9, 0), (1, c), (9, 0)]) (st' := [(1, b), (0, 1), (2, 37)]) (w' := (qup w 37 0 a)) (n' := 142) rfl ?_
    refine qG.ar (P := 0 ≤ 1 ∧ 1 < ((3 : Nat) : Int)) (P2 := 0 < (37 : Int) ∧ (37 : Int) ≤ ((142 : Nat) : Int)) (pc' := 14) (ls' := [(2, 37), (1, a), (9, 0), (1, b), (9, 0), (1, c), (9, 0)]) (st' := []) (w' := (qup (qup w 37 0 a) 37 1 b)) (n' := 142) rfl (by omega) (by decide) ?_
    refine qG.blk 3 (pc' := 18) (ls' := [(2, 37), (1, a), (9, 0), (1, b), (9, 0), (1, c), (9, 0)]) (st' := [(1, c), (0, 2), (2, 37)]) (w' := (qup (qup w 37 0 a) 37 1 b)) (n' := 142) rfl ?_
    refine qG.ar (P := 0 ≤ 2 ∧ 2 < ((3 : Nat) : Int)) (P2 := 0 < (37 : Int) ∧ (37 : Int) ≤ ((142 : Nat) : Int)) (pc' := 19) (ls' := [(2, 37), (1, a), (9, 0), (1, b), (9, 0), (1, c), (9, 0)]) (st' := []) (w' := (qup (qup (qup w 37 0 a) 37 1 b) 37 2 c)) (n' := 142) rfl (by omega) (by decide) ?_
    refine qG.retv rfl rfl ?_
    subst hQ9
    exact ⟨rfl, rfl, rfl⟩
theorem K_putRow38 {d : Nat} (hd : 0 ≤ d) (a b c : Int) (w : qW) : qG none d 105 0 [(2, 38), (1, a), (9, 0), (1, b), (9, 0), (1, c), (9, 0)] [] w 142 (fun (r : qV) (w1 : qW) (n1 : Nat) => r = (9, 0) ∧ w1 = pR w 38 a b c ∧ n1 = 142) := by
  generalize hQ9 : (fun (r : qV) (w1 : qW) (n1 : Nat) => r = (9, 0) ∧ w1 = pR w 38 a b c ∧ n1 = 142) = Q9
  refine qG.blk 3 (pc' := 3) (ls' := [(2, 38), (1, a), (9, 0), (1, b), (9, 0), (1, c), (9, 0)]) (st' := [(0, 3), (0, 3)]) (w' := w) (n' := 142) rfl ?_
  refine qG.br (P := (3 : Int) < 3) (pc1 := 19) (pc2 := 6) (st1 := []) rfl (fun h1 => ?_) (fun h1 => ?_)
  · exact absurd h1 (by decide)
  · skip
    refine qG.blk 3 (pc' := 9) (ls' := [(2, 38), (1, a), (9, 0), (1, b), (9, 0), (1, c), (9, 0)]) (st' := [(1, a), (0, 0), (2, 38)]) (w' := w) (n' := 142) rfl ?_
    refine qG.ar (P := 0 ≤ 0 ∧ 0 < ((3 : Nat) : Int)) (P2 := 0 < (38 : Int) ∧ (38 : Int) ≤ ((142 : Nat) : Int)) (pc' := 10) (ls' := [(2, 38), (1, a), (9, 0), (1, b), (9, 0), (1, c), (9, 0)]) (st' := []) (w' := (qup w 38 0 a)) (n' := 142) rfl (by omega) (by decide) ?_
    refine qG.blk 3 (pc' := 13) (ls' := [(2, 38), (1, a), (9, 0), (1, b), (9, 0), (1, c), (9, 0)]) (st' := [(1, b), (0, 1), (2, 38)]) (w' := (qup w 38 0 a)) (n' := 142) rfl ?_
    refine qG.ar (P := 0 ≤ 1 ∧ 1 < ((3 : Nat) : Int)) (P2 := 0 < (38 : Int) ∧ (38 : Int) ≤ ((142 : Nat) : Int)) (pc' := 14) (ls' := [(2, 38), (1, a), (9, 0), (1, b), (9, 0), (1, c), (9, 0)]) (st' := []) (w' := (qup (qup w 38 0 a) 38 1 b)) (n' := 142) rfl (by omega) (by decide) ?_
    refine qG.blk 3 (pc' := 18) (ls' := [(2, 38), (1, a), (9, 0), (1, b), (9, 0), (1, c), (9, 0)]) (st' := [(1, c), (0, 2), (2, 38)]) (w' := (qup (qup w 38 0 a) 38 1 b)) (n' := 142) rfl ?_
    refine qG.ar (P := 0 ≤ 2 ∧ 2 < ((3 : Nat) : Int)) (P2 := 0 < (38 : Int) ∧ (38 : Int) ≤ ((142 : Nat) : Int)) (pc' := 19) (ls' := [(2, 38), (1, a), (9, 0), (1, b), (9, 0), (1, c), (9, 0)]) (st' := []) (w' := (qup (qup (qup w 38 0 a) 38 1 b) 38 2 c)) (n' := 142) rfl (by omega) (by decide) ?_
    refine qG.retv rfl rfl ?_
    subst hQ9
    exact ⟨rfl, rfl, rfl⟩
theorem K_keepC28_29_27 {d : Nat} (hd : 0 ≤ d) (w : qW) : qG none d 49 0 [(2, 28), (2, 29), (2, 27), (9, 0)] [] w 142 (fun (r : qV) (w1 : qW) (n1 : Nat) => r = (9, 0) ∧ w1 = pR w 27 (qland (w 28 0) (w 29 0)) (qland (w 28 1) (w 29 1)) (qland (w 28 2) (w 29 2)) ∧ n1 = 142) := by
  generalize hQ9 : (fun (r : qV) (w1 : qW) (n1 : Nat) => r = (9, 0) ∧ w1 = pR w 27 (qland (w 28 0) (w 29 0)) (qland (w 28 1) (w 29 1)) (qland (w 28 2) (w 29 2)) ∧ n1 = 142) = Q9
  refine qG.blk 4 (pc' := 4) (ls' := [(2, 28), (2, 29), (2, 27), (0, 0)]) (st' := [(0, 3), (0, 0)]) (w' := w) (n' := 142) rfl ?_
  refine qG.br (P := (0 : Int) < 3) (pc1 := 7) (pc2 := 45) (st1 := []) rfl (fun h1 => ?_) (fun h1 => ?_)
  · skip
    refine qG.blk 3 (pc' := 10) (ls' := [(2, 28), (2, 29), (2, 27), (0, 0)]) (st' := [(0, 3), (0, 0)]) (w' := w) (n' := 142) rfl ?_
    refine qG.br (P := (0 : Int) < 3) (pc1 := 13) (pc2 := 45) (st1 := []) rfl (fun h2 => ?_) (fun h2 => ?_)
    · skip
      refine qG.blk 5 (pc' := 18) (ls' := [(2, 28), (2, 29), (2, 27), (0, 0)]) (st' := [(0, 3), (0, 0), (0, 0), (2, 27)]) (w' := w) (n' := 142) rfl ?_
      refine qG.br (P := (0 : Int) < 3) (pc1 := 21) (pc2 := 37) (st1 := [(0, 0), (2, 27)]) rfl (fun h3 => ?_) (fun h3 => ?_)
      · skip
        refine qG.blk 3 (pc' := 24) (ls' := [(2, 28), (2, 29), (2, 27), (0, 0)]) (st' := [(0, 3), (0, 0), (0, 0), (2, 27)]) (w' := w) (n' := 142) rfl ?_
        refine qG.br (P := (0 : Int) < 3) (pc1 := 27) (pc2 := 37) (st1 := [(0, 0), (2, 27)]) rfl (fun h4 => ?_) (fun h4 => ?_)
        · skip
          refine qG.blk 2 (pc' := 29) (ls' := [(2, 28), (2, 29), (2, 27), (0, 0)]) (st' := [(0, 0), (2, 28), (0, 0), (2, 27)]) (w' := w) (n' := 142) rfl ?_
          refine qG.ar (P := 0 ≤ 0 ∧ 0 < ((3 : Nat) : Int)) (P2 := 0 < (28 : Int) ∧ (28 : Int) ≤ ((142 : Nat) : Int)) (pc' := 30) (ls' := [(2, 28), (2, 29), (2, 27), (0, 0)]) (st' := [(1, w 28 0), (0, 0), (2, 27)]) (w' := w) (n' := 142) rfl (by omega) (by decide) ?_
          refine qG.blk 2 (pc' := 32) (ls' := [(2, 28), (2, 29), (2, 27), (0, 0)]) (st' := [(0, 0), (2, 29), (1, w 28 0), (0, 0), (2, 27)]) (w' := w) (n' := 142) rfl ?_
          refine qG.ar (P := 0 ≤ 0 ∧ 0 < ((3 : Nat) : Int)) (P2 := 0 < (29 : Int) ∧ (29 : Int) ≤ ((142 : Nat) : Int)) (pc' := 33) (ls' := [(2, 28), (2, 29), (2, 27), (0, 0)]) (st' := [(1, w 29 0), (1, w 28 0), (0, 0), (2, 27)]) (w' := w) (n' := 142) rfl (by omega) (by decide) ?_
          refine qG.blk 2 (pc' := 38) (ls' := [(2, 28), (2, 29), (2, 27), (0, 0)]) (st' := [(1, qland (w 28 0) (w 29 0)), (0, 0), (2, 27)]) (w' := w) (n' := 142) rfl ?_
          refine qG.ar (P := 0 ≤ 0 ∧ 0 < ((3 : Nat) : Int)) (P2 := 0 < (27 : Int) ∧ (27 : Int) ≤ ((142 : Nat) : Int)) (pc' := 39) (ls' := [(2, 28), (2, 29), (2, 27), (0, 0)]) (st' := []) (w' := (qup w 27 0 (qland (w 28 0) (w 29 0)))) (n' := 142) rfl (by omega) (by decide) ?_
          refine qG.blk 1 (pc' := 42) (ls' := [(2, 28), (2, 29), (2, 27), (0, wrp (0 + 1))]) (st' := []) (w' := (qup w 27 0 (qland (w 28 0) (w 29 0)))) (n' := 142) rfl ?_
          rw [show wrp (0 + 1) = 1 from wrp_id (by omega) (by omega)]
          refine qG.blk 3 (pc' := 4) (ls' := [(2, 28), (2, 29), (2, 27), (0, 1)]) (st' := [(0, 3), (0, 1)]) (w' := (qup w 27 0 (qland (w 28 0) (w 29 0)))) (n' := 142) rfl ?_
          refine qG.br (P := (1 : Int) < 3) (pc1 := 7) (pc2 := 45) (st1 := []) rfl (fun h5 => ?_) (fun h5 => ?_)
          · skip
            refine qG.blk 3 (pc' := 10) (ls' := [(2, 28), (2, 29), (2, 27), (0, 1)]) (st' := [(0, 3), (0, 1)]) (w' := (qup w 27 0 (qland (w 28 0) (w 29 0)))) (n' := 142) rfl ?_
            refine qG.br (P := (1 : Int) < 3) (pc1 := 13) (pc2 := 45) (st1 := []) rfl (fun h6 => ?_) (fun h6 => ?_)
            · skip
              refine qG.blk 5 (pc' := 18) (ls' := [(2, 28), (2, 29), (2, 27), (0, 1)]) (st' := [(0, 3), (0, 1), (0, 1), (2, 27)]) (w' := (qup w 27 0 (qland (w 28 0) (w 29 0)))) (n' := 142) rfl ?_
              refine qG.br (P := (1 : Int) < 3) (pc1 := 21) (pc2 := 37) (st1 := [(0, 1), (2, 27)]) rfl (fun h7 => ?_) (fun h7 => ?_)
              · skip
                refine qG.blk 3 (pc' := 24) (ls' := [(2, 28), (2, 29), (2, 27), (0, 1)]) (st' := [(0, 3), (0, 1), (0, 1), (2, 27)]) (w' := (qup w 27 0 (qland (w 28 0) (w 29 0)))) (n' := 142) rfl ?_
                refine qG.br (P := (1 : Int) < 3) (pc1 := 27) (pc2 := 37) (st1 := [(0, 1), (2, 27)]) rfl (fun h8 => ?_) (fun h8 => ?_)
                · skip
                  refine qG.blk 2 (pc' := 29) (ls' := [(2, 28), (2, 29), (2, 27), (0, 1)]) (st' := [(0, 1), (2, 28), (0, 1), (2, 27)]) (w' := (qup w 27 0 (qland (w 28 0) (w 29 0)))) (n' := 142) rfl ?_
                  refine qG.ar (P := 0 ≤ 1 ∧ 1 < ((3 : Nat) : Int)) (P2 := 0 < (28 : Int) ∧ (28 : Int) ≤ ((142 : Nat) : Int)) (pc' := 30) (ls' := [(2, 28), (2, 29), (2, 27), (0, 1)]) (st' := [(1, w 28 1), (0, 1), (2, 27)]) (w' := (qup w 27 0 (qland (w 28 0) (w 29 0)))) (n' := 142) rfl (by omega) (by decide) ?_
                  refine qG.blk 2 (pc' := 32) (ls' := [(2, 28), (2, 29), (2, 27), (0, 1)]) (st' := [(0, 1), (2, 29), (1, w 28 1), (0, 1), (2, 27)]) (w' := (qup w 27 0 (qland (w 28 0) (w 29 0)))) (n' := 142) rfl ?_
                  refine qG.ar (P := 0 ≤ 1 ∧ 1 < ((3 : Nat) : Int)) (P2 := 0 < (29 : Int) ∧ (29 : Int) ≤ ((142 : Nat) : Int)) (pc' := 33) (ls' := [(2, 28), (2, 29), (2, 27), (0, 1)]) (st' := [(1, w 29 1), (1, w 28 1), (0, 1), (2, 27)]) (w' := (qup w 27 0 (qland (w 28 0) (w 29 0)))) (n' := 142) rfl (by omega) (by decide) ?_
                  refine qG.blk 2 (pc' := 38) (ls' := [(2, 28), (2, 29), (2, 27), (0, 1)]) (st' := [(1, qland (w 28 1) (w 29 1)), (0, 1), (2, 27)]) (w' := (qup w 27 0 (qland (w 28 0) (w 29 0)))) (n' := 142) rfl ?_
                  refine qG.ar (P := 0 ≤ 1 ∧ 1 < ((3 : Nat) : Int)) (P2 := 0 < (27 : Int) ∧ (27 : Int) ≤ ((142 : Nat) : Int)) (pc' := 39) (ls' := [(2, 28), (2, 29), (2, 27), (0, 1)]) (st' := []) (w' := (qup (qup w 27 0 (qland (w 28 0) (w 29 0))) 27 1 (qland (w 28 1) (w 29 1)))) (n' := 142) rfl (by omega) (by decide) ?_
                  refine qG.blk 1 (pc' := 42) (ls' := [(2, 28), (2, 29), (2, 27), (0, wrp (1 + 1))]) (st' := []) (w' := (qup (qup w 27 0 (qland (w 28 0) (w 29 0))) 27 1 (qland (w 28 1) (w 29 1)))) (n' := 142) rfl ?_
                  rw [show wrp (1 + 1) = 2 from wrp_id (by omega) (by omega)]
                  refine qG.blk 3 (pc' := 4) (ls' := [(2, 28), (2, 29), (2, 27), (0, 2)]) (st' := [(0, 3), (0, 2)]) (w' := (qup (qup w 27 0 (qland (w 28 0) (w 29 0))) 27 1 (qland (w 28 1) (w 29 1)))) (n' := 142) rfl ?_
                  refine qG.br (P := (2 : Int) < 3) (pc1 := 7) (pc2 := 45) (st1 := []) rfl (fun h9 => ?_) (fun h9 => ?_)
                  · skip
                    refine qG.blk 3 (pc' := 10) (ls' := [(2, 28), (2, 29), (2, 27), (0, 2)]) (st' := [(0, 3), (0, 2)]) (w' := (qup (qup w 27 0 (qland (w 28 0) (w 29 0))) 27 1 (qland (w 28 1) (w 29 1)))) (n' := 142) rfl ?_
                    refine qG.br (P := (2 : Int) < 3) (pc1 := 13) (pc2 := 45) (st1 := []) rfl (fun h10 => ?_) (fun h10 => ?_)
                    · skip
                      refine qG.blk 5 (pc' := 18) (ls' := [(2, 28), (2, 29), (2, 27), (0, 2)]) (st' := [(0, 3), (0, 2), (0, 2), (2, 27)]) (w' := (qup (qup w 27 0 (qland (w 28 0) (w 29 0))) 27 1 (qland (w 28 1) (w 29 1)))) (n' := 142) rfl ?_
                      refine qG.br (P := (2 : Int) < 3) (pc1 := 21) (pc2 := 37) (st1 := [(0, 2), (2, 27)]) rfl (fun h11 => ?_) (fun h11 => ?_)
                      · skip
                        refine qG.blk 3 (pc' := 24) (ls' := [(2, 28), (2, 29), (2, 27), (0, 2)]) (st' := [(0, 3), (0, 2), (0, 2), (2, 27)]) (w' := (qup (qup w 27 0 (qland (w 28 0) (w 29 0))) 27 1 (qland (w 28 1) (w 29 1)))) (n' := 142) rfl ?_
                        refine qG.br (P := (2 : Int) < 3) (pc1 := 27) (pc2 := 37) (st1 := [(0, 2), (2, 27)]) rfl (fun h12 => ?_) (fun h12 => ?_)
                        · skip
                          refine qG.blk 2 (pc' := 29) (ls' := [(2, 28), (2, 29), (2, 27), (0, 2)]) (st' := [(0, 2), (2, 28), (0, 2), (2, 27)]) (w' := (qup (qup w 27 0 (qland (w 28 0) (w 29 0))) 27 1 (qland (w 28 1) (w 29 1)))) (n' := 142) rfl ?_
                          refine qG.ar (P := 0 ≤ 2 ∧ 2 < ((3 : Nat) : Int)) (P2 := 0 < (28 : Int) ∧ (28 : Int) ≤ ((142 : Nat) : Int)) (pc' := 30) (ls' := [(2, 28), (2, 29), (2, 27), (0, 2)]) (st' := [(1, w 28 2), (0, 2), (2, 27)]) (w' := (qup (qup w 27 0 (qland (w 28 0) (w 29 0))) 27 1 (qland (w 28 1) (w 29 1)))) (n' := 142) rfl (by omega) (by decide) ?_
                          refine qG.blk 2 (pc' := 32) (ls' := [(2, 28), (2, 29), (2, 27), (0, 2)]) (st' := [(0, 2), (2, 29), (1, w 28 2), (0, 2), (2, 27)]) (w' := (qup (qup w 27 0 (qland (w 28 0) (w 29 0))) 27 1 (qland (w 28 1) (w 29 1)))) (n' := 142) rfl ?_
                          refine qG.ar (P := 0 ≤ 2 ∧ 2 < ((3 : Nat) : Int)) (P2 := 0 < (29 : Int) ∧ (29 : Int) ≤ ((142 : Nat) : Int)) (pc' := 33) (ls' := [(2, 28), (2, 29), (2, 27), (0, 2)]) (st' := [(1, w 29 2), (1, w 28 2), (0, 2), (2, 27)]) (w' := (qup (qup w 27 0 (qland (w 28 0) (w 29 0))) 27 1 (qland (w 28 1) (w 29 1)))) (n' := 142) rfl (by omega) (by decide) ?_
                          refine qG.blk 2 (pc' := 38) (ls' := [(2, 28), (2, 29), (2, 27), (0, 2)]) (st' := [(1, qland (w 28 2) (w 29 2)), (0, 2), (2, 27)]) (w' := (qup (qup w 27 0 (qland (w 28 0) (w 29 0))) 27 1 (qland (w 28 1) (w 29 1)))) (n' := 142) rfl ?_
                          refine qG.ar (P := 0 ≤ 2 ∧ 2 < ((3 : Nat) : Int)) (P2 := 0 < (27 : Int) ∧ (27 : Int) ≤ ((142 : Nat) : Int)) (pc' := 39) (ls' := [(2, 28), (2, 29), (2, 27), (0, 2)]) (st' := []) (w' := (qup (qup (qup w 27 0 (qland (w 28 0) (w 29 0))) 27 1 (qland (w 28 1) (w 29 1))) 27 2 (qland (w 28 2) (w 29 2)))) (n' := 142) rfl (by omega) (by decide) ?_
                          refine qG.blk 1 (pc' := 42) (ls' := [(2, 28), (2, 29), (2, 27), (0, wrp (2 + 1))]) (st' := []) (w' := (qup (qup (qup w 27 0 (qland (w 28 0) (w 29 0))) 27 1 (qland (w 28 1) (w 29 1))) 27 2 (qland (w 28 2) (w 29 2)))) (n' := 142) rfl ?_
                          rw [show wrp (2 + 1) = 3 from wrp_id (by omega) (by omega)]
                          refine qG.blk 3 (pc' := 4) (ls' := [(2, 28), (2, 29), (2, 27), (0, 3)]) (st' := [(0, 3), (0, 3)]) (w' := (qup (qup (qup w 27 0 (qland (w 28 0) (w 29 0))) 27 1 (qland (w 28 1) (w 29 1))) 27 2 (qland (w 28 2) (w 29 2)))) (n' := 142) rfl ?_
                          refine qG.br (P := (3 : Int) < 3) (pc1 := 7) (pc2 := 45) (st1 := []) rfl (fun h13 => ?_) (fun h13 => ?_)
                          · exact absurd h13 (by decide)
                          · skip
                            refine qG.retv rfl rfl ?_
                            subst hQ9
                            exact ⟨rfl, rfl, rfl⟩
                        · exact absurd h12 (by decide)
                      · exact absurd h11 (by decide)
                    · exact absurd h10 (by decide)
                  · exact absurd h9 (by decide)
                · exact absurd h8 (by decide)
              · exact absurd h7 (by decide)
            · exact absurd h6 (by decide)
          · exact absurd h5 (by decide)
        · exact absurd h4 (by decide)
      · exact absurd h3 (by decide)
    · exact absurd h2 (by decide)
  · exact absurd h1 (by decide)
theorem K_keep28_29_27 {d : Nat} (hd : 0 ≤ d) (w : qW) (hI : yInv zgf zga zra zSp w) : qG none d 49 0 [(2, 28), (2, 29), (2, 27), (9, 0)] [] w 142 (fun (r : qV) (w1 : qW) (n1 : Nat) => r = (9, 0) ∧ n1 = 142 ∧ RW 27 (fun j => sb w 28 j && sb w 29 j) w w1) := by
  refine qG.mono (K_keepC28_29_27 hd w) ?_
  rintro r w1 n1 ⟨rfl, rfl, rfl⟩
  refine ⟨rfl, rfl, RW.p (by unfold LROW; omega) hI (qland_64 _ _) (qland_64 _ _) (qland_64 _ _) (fun s hs => ?_) (fun s hs => ?_) (fun s hs => ?_)⟩
  · rw [lb_and, sb_lo hs, sb_lo hs]
  · rw [lb_and, sb_mi hs, sb_mi hs]
  · rw [lb_and, sb_hi hs, sb_hi hs]
theorem K_keepC28_29_28 {d : Nat} (hd : 0 ≤ d) (w : qW) : qG none d 49 0 [(2, 28), (2, 29), (2, 28), (9, 0)] [] w 142 (fun (r : qV) (w1 : qW) (n1 : Nat) => r = (9, 0) ∧ w1 = pR w 28 (qland (w 28 0) (w 29 0)) (qland (w 28 1) (w 29 1)) (qland (w 28 2) (w 29 2)) ∧ n1 = 142) := by
  generalize hQ9 : (fun (r : qV) (w1 : qW) (n1 : Nat) => r = (9, 0) ∧ w1 = pR w 28 (qland (w 28 0) (w 29 0)) (qland (w 28 1) (w 29 1)) (qland (w 28 2) (w 29 2)) ∧ n1 = 142) = Q9
  refine qG.blk 4 (pc' := 4) (ls' := [(2, 28), (2, 29), (2, 28), (0, 0)]) (st' := [(0, 3), (0, 0)]) (w' := w) (n' := 142) rfl ?_
  refine qG.br (P := (0 : Int) < 3) (pc1 := 7) (pc2 := 45) (st1 := []) rfl (fun h1 => ?_) (fun h1 => ?_)
  · skip
    refine qG.blk 3 (pc' := 10) (ls' := [(2, 28), (2, 29), (2, 28), (0, 0)]) (st' := [(0, 3), (0, 0)]) (w' := w) (n' := 142) rfl ?_
    refine qG.br (P := (0 : Int) < 3) (pc1 := 13) (pc2 := 45) (st1 := []) rfl (fun h2 => ?_) (fun h2 => ?_)
    · skip
      refine qG.blk 5 (pc' := 18) (ls' := [(2, 28), (2, 29), (2, 28), (0, 0)]) (st' := [(0, 3), (0, 0), (0, 0), (2, 28)]) (w' := w) (n' := 142) rfl ?_
      refine qG.br (P := (0 : Int) < 3) (pc1 := 21) (pc2 := 37) (st1 := [(0, 0), (2, 28)]) rfl (fun h3 => ?_) (fun h3 => ?_)
      · skip
        refine qG.blk 3 (pc' := 24) (ls' := [(2, 28), (2, 29), (2, 28), (0, 0)]) (st' := [(0, 3), (0, 0), (0, 0), (2, 28)]) (w' := w) (n' := 142) rfl ?_
        refine qG.br (P := (0 : Int) < 3) (pc1 := 27) (pc2 := 37) (st1 := [(0, 0), (2, 28)]) rfl (fun h4 => ?_) (fun h4 => ?_)
        · skip
          refine qG.blk 2 (pc' := 29) (ls' := [(2, 28), (2, 29), (2, 28), (0, 0)]) (st' := [(0, 0), (2, 28), (0, 0), (2, 28)]) (w' := w) (n' := 142) rfl ?_
          refine qG.ar (P := 0 ≤ 0 ∧ 0 < ((3 : Nat) : Int)) (P2 := 0 < (28 : Int) ∧ (28 : Int) ≤ ((142 : Nat) : Int)) (pc' := 30) (ls' := [(2, 28), (2, 29), (2, 28), (0, 0)]) (st' := [(1, w 28 0), (0, 0), (2, 28)]) (w' := w) (n' := 142) rfl (by omega) (by decide) ?_
          refine qG.blk 2 (pc' := 32) (ls' := [(2, 28), (2, 29), (2, 28), (0, 0)]) (st' := [(0, 0), (2, 29), (1, w 28 0), (0, 0), (2, 28)]) (w' := w) (n' := 142) rfl ?_
          refine qG.ar (P := 0 ≤ 0 ∧ 0 < ((3 : Nat) : Int)) (P2 := 0 < (29 : Int) ∧ (29 : Int) ≤ ((142 : Nat) : Int)) (pc' := 33) (ls' := [(2, 28), (2, 29), (2, 28), (0, 0)]) (st' := [(1, w 29 0), (1, w 28 0), (0, 0), (2, 28)]) (w' := w) (n' := 142) rfl (by omega) (by decide) ?_
          refine qG.blk 2 (pc' := 38) (ls' := [(2, 28), (2, 29), (2, 28), (0, 0)]) (st' := [(1, qland (w 28 0) (w 29 0)), (0, 0), (2, 28)]) (w' := w) (n' := 142) rfl ?_
          refine qG.ar (P := 0 ≤ 0 ∧ 0 < ((3 : Nat) : Int)) (P2 := 0 < (28 : Int) ∧ (28 : Int) ≤ ((142 : Nat) : Int)) (pc' := 39) (ls' := [(2, 28), (2, 29), (2, 28), (0, 0)]) (st' := []) (w' := (qup w 28 0 (qland (w 28 0) (w 29 0)))) (n' := 142) rfl (by omega) (by decide) ?_
          refine qG.blk 1 (pc' := 42) (ls' := [(2, 28), (2, 29), (2, 28), (0, wrp (0 + 1))]) (st' := []) (w' := (qup w 28 0 (qland (w 28 0) (w 29 0)))) (n' := 142) rfl ?_
          rw [show wrp (0 + 1) = 1 from wrp_id (by omega) (by omega)]
          refine qG.blk 3 (pc' := 4) (ls' := [(2, 28), (2, 29), (2, 28), (0, 1)]) (st' := [(0, 3), (0, 1)]) (w' := (qup w 28 0 (qland (w 28 0) (w 29 0)))) (n' := 142) rfl ?_
          refine qG.br (P := (1 : Int) < 3) (pc1 := 7) (pc2 := 45) (st1 := []) rfl (fun h5 => ?_) (fun h5 => ?_)
          · skip
            refine qG.blk 3 (pc' := 10) (ls' := [(2, 28), (2, 29), (2, 28), (0, 1)]) (st' := [(0, 3), (0, 1)]) (w' := (qup w 28 0 (qland (w 28 0) (w 29 0)))) (n' := 142) rfl ?_
            refine qG.br (P := (1 : Int) < 3) (pc1 := 13) (pc2 := 45) (st1 := []) rfl (fun h6 => ?_) (fun h6 => ?_)
            · skip
              refine qG.blk 5 (pc' := 18) (ls' := [(2, 28), (2, 29), (2, 28), (0, 1)]) (st' := [(0, 3), (0, 1), (0, 1), (2, 28)]) (w' := (qup w 28 0 (qland (w 28 0) (w 29 0)))) (n' := 142) rfl ?_
              refine qG.br (P := (1 : Int) < 3) (pc1 := 21) (pc2 := 37) (st1 := [(0, 1), (2, 28)]) rfl (fun h7 => ?_) (fun h7 => ?_)
              · skip
                refine qG.blk 3 (pc' := 24) (ls' := [(2, 28), (2, 29), (2, 28), (0, 1)]) (st' := [(0, 3), (0, 1), (0, 1), (2, 28)]) (w' := (qup w 28 0 (qland (w 28 0) (w 29 0)))) (n' := 142) rfl ?_
                refine qG.br (P := (1 : Int) < 3) (pc1 := 27) (pc2 := 37) (st1 := [(0, 1), (2, 28)]) rfl (fun h8 => ?_) (fun h8 => ?_)
                · skip
                  refine qG.blk 2 (pc' := 29) (ls' := [(2, 28), (2, 29), (2, 28), (0, 1)]) (st' := [(0, 1), (2, 28), (0, 1), (2, 28)]) (w' := (qup w 28 0 (qland (w 28 0) (w 29 0)))) (n' := 142) rfl ?_
                  refine qG.ar (P := 0 ≤ 1 ∧ 1 < ((3 : Nat) : Int)) (P2 := 0 < (28 : Int) ∧ (28 : Int) ≤ ((142 : Nat) : Int)) (pc' := 30) (ls' := [(2, 28), (2, 29), (2, 28), (0, 1)]) (st' := [(1, w 28 1), (0, 1), (2, 28)]) (w' := (qup w 28 0 (qland (w 28 0) (w 29 0)))) (n' := 142) rfl (by omega) (by decide) ?_
                  refine qG.blk 2 (pc' := 32) (ls' := [(2, 28), (2, 29), (2, 28), (0, 1)]) (st' := [(0, 1), (2, 29), (1, w 28 1), (0, 1), (2, 28)]) (w' := (qup w 28 0 (qland (w 28 0) (w 29 0)))) (n' := 142) rfl ?_
                  refine qG.ar (P := 0 ≤ 1 ∧ 1 < ((3 : Nat) : Int)) (P2 := 0 < (29 : Int) ∧ (29 : Int) ≤ ((142 : Nat) : Int)) (pc' := 33) (ls' := [(2, 28), (2, 29), (2, 28), (0, 1)]) (st' := [(1, w 29 1), (1, w 28 1), (0, 1), (2, 28)]) (w' := (qup w 28 0 (qland (w 28 0) (w 29 0)))) (n' := 142) rfl (by omega) (by decide) ?_
                  refine qG.blk 2 (pc' := 38) (ls' := [(2, 28), (2, 29), (2, 28), (0, 1)]) (st' := [(1, qland (w 28 1) (w 29 1)), (0, 1), (2, 28)]) (w' := (qup w 28 0 (qland (w 28 0) (w 29 0)))) (n' := 142) rfl ?_
                  refine qG.ar (P := 0 ≤ 1 ∧ 1 < ((3 : Nat) : Int)) (P2 := 0 < (28 : Int) ∧ (28 : Int) ≤ ((142 : Nat) : Int)) (pc' := 39) (ls' := [(2, 28), (2, 29), (2, 28), (0, 1)]) (st' := []) (w' := (qup (qup w 28 0 (qland (w 28 0) (w 29 0))) 28 1 (qland (w 28 1) (w 29 1)))) (n' := 142) rfl (by omega) (by decide) ?_
                  refine qG.blk 1 (pc' := 42) (ls' := [(2, 28), (2, 29), (2, 28), (0, wrp (1 + 1))]) (st' := []) (w' := (qup (qup w 28 0 (qland (w 28 0) (w 29 0))) 28 1 (qland (w 28 1) (w 29 1)))) (n' := 142) rfl ?_
                  rw [show wrp (1 + 1) = 2 from wrp_id (by omega) (by omega)]
                  refine qG.blk 3 (pc' := 4) (ls' := [(2, 28), (2, 29), (2, 28), (0, 2)]) (st' := [(0, 3), (0, 2)]) (w' := (qup (qup w 28 0 (qland (w 28 0) (w 29 0))) 28 1 (qland (w 28 1) (w 29 1)))) (n' := 142) rfl ?_
                  refine qG.br (P := (2 : Int) < 3) (pc1 := 7) (pc2 := 45) (st1 := []) rfl (fun h9 => ?_) (fun h9 => ?_)
                  · skip
                    refine qG.blk 3 (pc' := 10) (ls' := [(2, 28), (2, 29), (2, 28), (0, 2)]) (st' := [(0, 3), (0, 2)]) (w' := (qup (qup w 28 0 (qland (w 28 0) (w 29 0))) 28 1 (qland (w 28 1) (w 29 1)))) (n' := 142) rfl ?_
                    refine qG.br (P := (2 : Int) < 3) (pc1 := 13) (pc2 := 45) (st1 := []) rfl (fun h10 => ?_) (fun h10 => ?_)
                    · skip
                      refine qG.blk 5 (pc' := 18) (ls' := [(2, 28), (2, 29), (2, 28), (0, 2)]) (st' := [(0, 3), (0, 2), (0, 2), (2, 28)]) (w' := (qup (qup w 28 0 (qland (w 28 0) (w 29 0))) 28 1 (qland (w 28 1) (w 29 1)))) (n' := 142) rfl ?_
                      refine qG.br (P := (2 : Int) < 3) (pc1 := 21) (pc2 := 37) (st1 := [(0, 2), (2, 28)]) rfl (fun h11 => ?_) (fun h11 => ?_)
                      · skip
                        refine qG.blk 3 (pc' := 24) (ls' := [(2, 28), (2, 29), (2, 28), (0, 2)]) (st' := [(0, 3), (0, 2), (0, 2), (2, 28)]) (w' := (qup (qup w 28 0 (qland (w 28 0) (w 29 0))) 28 1 (qland (w 28 1) (w 29 1)))) (n' := 142) rfl ?_
                        refine qG.br (P := (2 : Int) < 3) (pc1 := 27) (pc2 := 37) (st1 := [(0, 2), (2, 28)]) rfl (fun h12 => ?_) (fun h12 => ?_)
                        · skip
                          refine qG.blk 2 (pc' := 29) (ls' := [(2, 28), (2, 29), (2, 28), (0, 2)]) (st' := [(0, 2), (2, 28), (0, 2), (2, 28)]) (w' := (qup (qup w 28 0 (qland (w 28 0) (w 29 0))) 28 1 (qland (w 28 1) (w 29 1)))) (n' := 142) rfl ?_
                          refine qG.ar (P := 0 ≤ 2 ∧ 2 < ((3 : Nat) : Int)) (P2 := 0 < (28 : Int) ∧ (28 : Int) ≤ ((142 : Nat) : Int)) (pc' := 30) (ls' := [(2, 28), (2, 29), (2, 28), (0, 2)]) (st' := [(1, w 28 2), (0, 2), (2, 28)]) (w' := (qup (qup w 28 0 (qland (w 28 0) (w 29 0))) 28 1 (qland (w 28 1) (w 29 1)))) (n' := 142) rfl (by omega) (by decide) ?_
                          refine qG.blk 2 (pc' := 32) (ls' := [(2, 28), (2, 29), (2, 28), (0, 2)]) (st' := [(0, 2), (2, 29), (1, w 28 2), (0, 2), (2, 28)]) (w' := (qup (qup w 28 0 (qland (w 28 0) (w 29 0))) 28 1 (qland (w 28 1) (w 29 1)))) (n' := 142) rfl ?_
                          refine qG.ar (P := 0 ≤ 2 ∧ 2 < ((3 : Nat) : Int)) (P2 := 0 < (29 : Int) ∧ (29 : Int) ≤ ((142 : Nat) : Int)) (pc' := 33) (ls' := [(2, 28), (2, 29), (2, 28), (0, 2)]) (st' := [(1, w 29 2), (1, w 28 2), (0, 2), (2, 28)]) (w' := (qup (qup w 28 0 (qland (w 28 0) (w 29 0))) 28 1 (qland (w 28 1) (w 29 1)))) (n' := 142) rfl (by omega) (by decide) ?_
                          refine qG.blk 2 (pc' := 38) (ls' := [(2, 28), (2, 29), (2, 28), (0, 2)]) (st' := [(1, qland (w 28 2) (w 29 2)), (0, 2), (2, 28)]) (w' := (qup (qup w 28 0 (qland (w 28 0) (w 29 0))) 28 1 (qland (w 28 1) (w 29 1)))) (n' := 142) rfl ?_
                          refine qG.ar (P := 0 ≤ 2 ∧ 2 < ((3 : Nat) : Int)) (P2 := 0 < (28 : Int) ∧ (28 : Int) ≤ ((142 : Nat) : Int)) (pc' := 39) (ls' := [(2, 28), (2, 29), (2, 28), (0, 2)]) (st' := []) (w' := (qup (qup (qup w 28 0 (qland (w 28 0) (w 29 0))) 28 1 (qland (w 28 1) (w 29 1))) 28 2 (qland (w 28 2) (w 29 2)))) (n' := 142) rfl (by omega) (by decide) ?_
                          refine qG.blk 1 (pc' := 42) (ls' := [(2, 28), (2, 29), (2, 28), (0, wrp (2 + 1))]) (st' := []) (w' := (qup (qup (qup w 28 0 (qland (w 28 0) (w 29 0))) 28 1 (qland (w 28 1) (w 29 1))) 28 2 (qland (w 28 2) (w 29 2)))) (n' := 142) rfl ?_
                          rw [show wrp (2 + 1) = 3 from wrp_id (by omega) (by omega)]
                          refine qG.blk 3 (pc' := 4) (ls' := [(2, 28), (2, 29), (2, 28), (0, 3)]) (st' := [(0, 3), (0, 3)]) (w' := (qup (qup (qup w 28 0 (qland (w 28 0) (w 29 0))) 28 1 (qland (w 28 1) (w 29 1))) 28 2 (qland (w 28 2) (w 29 2)))) (n' := 142) rfl ?_
                          refine qG.br (P := (3 : Int) < 3) (pc1 := 7) (pc2 := 45) (st1 := []) rfl (fun h13 => ?_) (fun h13 => ?_)
                          · exact absurd h13 (by decide)
                          · skip
                            refine qG.retv rfl rfl ?_
                            subst hQ9
                            exact ⟨rfl, rfl, rfl⟩
                        · exact absurd h12 (by decide)
                      · exact absurd h11 (by decide)
                    · exact absurd h10 (by decide)
                  · exact absurd h9 (by decide)
                · exact absurd h8 (by decide)
              · exact absurd h7 (by decide)
            · exact absurd h6 (by decide)
          · exact absurd h5 (by decide)
        · exact absurd h4 (by decide)
      · exact absurd h3 (by decide)
    · exact absurd h2 (by decide)
  · exact absurd h1 (by decide)
theorem K_keep28_29_28 {d : Nat} (hd : 0 ≤ d) (w : qW) (hI : yInv zgf zga zra zSp w) : qG none d 49 0 [(2, 28), (2, 29), (2, 28), (9, 0)] [] w 142 (fun (r : qV) (w1 : qW) (n1 : Nat) => r = (9, 0) ∧ n1 = 142 ∧ RW 28 (fun j => sb w 28 j && sb w 29 j) w w1) := by
  refine qG.mono (K_keepC28_29_28 hd w) ?_
  rintro r w1 n1 ⟨rfl, rfl, rfl⟩
  refine ⟨rfl, rfl, RW.p (by unfold LROW; omega) hI (qland_64 _ _) (qland_64 _ _) (qland_64 _ _) (fun s hs => ?_) (fun s hs => ?_) (fun s hs => ?_)⟩
  · rw [lb_and, sb_lo hs, sb_lo hs]
  · rw [lb_and, sb_mi hs, sb_mi hs]
  · rw [lb_and, sb_hi hs, sb_hi hs]
theorem K_isSameC {d : Nat} (hd : 0 ≤ d) (w : qW) : qG none d 50 0 [(2, 27), (2, 28), (9, 0)] [] w 142 (fun (r : qV) (w1 : qW) (n1 : Nat) => r = (0, if w 27 0 = w 28 0 ∧ w 27 1 = w 28 1 ∧ w 27 2 = w 28 2 then 1 else 0) ∧ w1 = w ∧ n1 = 142) := by
  generalize hQ9 : (fun (r : qV) (w1 : qW) (n1 : Nat) => r = (0, if w 27 0 = w 28 0 ∧ w 27 1 = w 28 1 ∧ w 27 2 = w 28 2 then 1 else 0) ∧ w1 = w ∧ n1 = 142) = Q9
  refine qG.blk 5 (pc' := 5) (ls' := [(2, 27), (2, 28), (0, 0)]) (st' := [(0, 3), (0, 0)]) (w' := w) (n' := 142) rfl ?_
  refine qG.br (P := (0 : Int) < 3) (pc1 := 8) (pc2 := 32) (st1 := []) rfl (fun h1 => ?_) (fun h1 => ?_)
  · skip
    refine qG.blk 3 (pc' := 11) (ls' := [(2, 27), (2, 28), (0, 0)]) (st' := [(0, 3), (0, 0)]) (w' := w) (n' := 142) rfl ?_
    refine qG.br (P := (0 : Int) < 3) (pc1 := 14) (pc2 := 32) (st1 := []) rfl (fun h2 => ?_) (fun h2 => ?_)
    · skip
      refine qG.blk 2 (pc' := 16) (ls' := [(2, 27), (2, 28), (0, 0)]) (st' := [(0, 0), (2, 27)]) (w' := w) (n' := 142) rfl ?_
      refine qG.ar (P := 0 ≤ 0 ∧ 0 < ((3 : Nat) : Int)) (P2 := 0 < (27 : Int) ∧ (27 : Int) ≤ ((142 : Nat) : Int)) (pc' := 17) (ls' := [(2, 27), (2, 28), (0, 0)]) (st' := [(1, w 27 0)]) (w' := w) (n' := 142) rfl (by omega) (by decide) ?_
      refine qG.blk 2 (pc' := 19) (ls' := [(2, 27), (2, 28), (0, 0)]) (st' := [(0, 0), (2, 28), (1, w 27 0)]) (w' := w) (n' := 142) rfl ?_
      refine qG.ar (P := 0 ≤ 0 ∧ 0 < ((3 : Nat) : Int)) (P2 := 0 < (28 : Int) ∧ (28 : Int) ≤ ((142 : Nat) : Int)) (pc' := 20) (ls' := [(2, 27), (2, 28), (0, 0)]) (st' := [(1, w 28 0), (1, w 27 0)]) (w' := w) (n' := 142) rfl (by omega) (by decide) ?_
      refine qG.blk 1 (pc' := 21) (ls' := [(2, 27), (2, 28), (0, 0)]) (st' := [(0, qcmp (w 27 0) (w 28 0))]) (w' := w) (n' := 142) rfl ?_
      refine qG.br (P := qcmp (w 27 0) (w 28 0) = 0) (pc1 := 26) (pc2 := 24) (st1 := []) rfl (fun h3 => ?_) (fun h3 => ?_)
      · skip
        refine qG.blk 1 (pc' := 29) (ls' := [(2, 27), (2, 28), (0, wrp (0 + 1))]) (st' := []) (w' := w) (n' := 142) rfl ?_
        rw [show wrp (0 + 1) = 1 from wrp_id (by omega) (by omega)]
        refine qG.blk 4 (pc' := 5) (ls' := [(2, 27), (2, 28), (0, 1)]) (st' := [(0, 3), (0, 1)]) (w' := w) (n' := 142) rfl ?_
        refine qG.br (P := (1 : Int) < 3) (pc1 := 8) (pc2 := 32) (st1 := []) rfl (fun h4 => ?_) (fun h4 => ?_)
        · skip
          refine qG.blk 3 (pc' := 11) (ls' := [(2, 27), (2, 28), (0, 1)]) (st' := [(0, 3), (0, 1)]) (w' := w) (n' := 142) rfl ?_
          refine qG.br (P := (1 : Int) < 3) (pc1 := 14) (pc2 := 32) (st1 := []) rfl (fun h5 => ?_) (fun h5 => ?_)
          · skip
            refine qG.blk 2 (pc' := 16) (ls' := [(2, 27), (2, 28), (0, 1)]) (st' := [(0, 1), (2, 27)]) (w' := w) (n' := 142) rfl ?_
            refine qG.ar (P := 0 ≤ 1 ∧ 1 < ((3 : Nat) : Int)) (P2 := 0 < (27 : Int) ∧ (27 : Int) ≤ ((142 : Nat) : Int)) (pc' := 17) (ls' := [(2, 27), (2, 28), (0, 1)]) (st' := [(1, w 27 1)]) (w' := w) (n' := 142) rfl (by omega) (by decide) ?_
            refine qG.blk 2 (pc' := 19) (ls' := [(2, 27), (2, 28), (0, 1)]) (st' := [(0, 1), (2, 28), (1, w 27 1)]) (w' := w) (n' := 142) rfl ?_
            refine qG.ar (P := 0 ≤ 1 ∧ 1 < ((3 : Nat) : Int)) (P2 := 0 < (28 : Int) ∧ (28 : Int) ≤ ((142 : Nat) : Int)) (pc' := 20) (ls' := [(2, 27), (2, 28), (0, 1)]) (st' := [(1, w 28 1), (1, w 27 1)]) (w' := w) (n' := 142) rfl (by omega) (by decide) ?_
            refine qG.blk 1 (pc' := 21) (ls' := [(2, 27), (2, 28), (0, 1)]) (st' := [(0, qcmp (w 27 1) (w 28 1))]) (w' := w) (n' := 142) rfl ?_
            refine qG.br (P := qcmp (w 27 1) (w 28 1) = 0) (pc1 := 26) (pc2 := 24) (st1 := []) rfl (fun h6 => ?_) (fun h6 => ?_)
            · skip
              refine qG.blk 1 (pc' := 29) (ls' := [(2, 27), (2, 28), (0, wrp (1 + 1))]) (st' := []) (w' := w) (n' := 142) rfl ?_
              rw [show wrp (1 + 1) = 2 from wrp_id (by omega) (by omega)]
              refine qG.blk 4 (pc' := 5) (ls' := [(2, 27), (2, 28), (0, 2)]) (st' := [(0, 3), (0, 2)]) (w' := w) (n' := 142) rfl ?_
              refine qG.br (P := (2 : Int) < 3) (pc1 := 8) (pc2 := 32) (st1 := []) rfl (fun h7 => ?_) (fun h7 => ?_)
              · skip
                refine qG.blk 3 (pc' := 11) (ls' := [(2, 27), (2, 28), (0, 2)]) (st' := [(0, 3), (0, 2)]) (w' := w) (n' := 142) rfl ?_
                refine qG.br (P := (2 : Int) < 3) (pc1 := 14) (pc2 := 32) (st1 := []) rfl (fun h8 => ?_) (fun h8 => ?_)
                · skip
                  refine qG.blk 2 (pc' := 16) (ls' := [(2, 27), (2, 28), (0, 2)]) (st' := [(0, 2), (2, 27)]) (w' := w) (n' := 142) rfl ?_
                  refine qG.ar (P := 0 ≤ 2 ∧ 2 < ((3 : Nat) : Int)) (P2 := 0 < (27 : Int) ∧ (27 : Int) ≤ ((142 : Nat) : Int)) (pc' := 17) (ls' := [(2, 27), (2, 28), (0, 2)]) (st' := [(1, w 27 2)]) (w' := w) (n' := 142) rfl (by omega) (by decide) ?_
                  refine qG.blk 2 (pc' := 19) (ls' := [(2, 27), (2, 28), (0, 2)]) (st' := [(0, 2), (2, 28), (1, w 27 2)]) (w' := w) (n' := 142) rfl ?_
                  refine qG.ar (P := 0 ≤ 2 ∧ 2 < ((3 : Nat) : Int)) (P2 := 0 < (28 : Int) ∧ (28 : Int) ≤ ((142 : Nat) : Int)) (pc' := 20) (ls' := [(2, 27), (2, 28), (0, 2)]) (st' := [(1, w 28 2), (1, w 27 2)]) (w' := w) (n' := 142) rfl (by omega) (by decide) ?_
                  refine qG.blk 1 (pc' := 21) (ls' := [(2, 27), (2, 28), (0, 2)]) (st' := [(0, qcmp (w 27 2) (w 28 2))]) (w' := w) (n' := 142) rfl ?_
                  refine qG.br (P := qcmp (w 27 2) (w 28 2) = 0) (pc1 := 26) (pc2 := 24) (st1 := []) rfl (fun h9 => ?_) (fun h9 => ?_)
                  · skip
                    refine qG.blk 1 (pc' := 29) (ls' := [(2, 27), (2, 28), (0, wrp (2 + 1))]) (st' := []) (w' := w) (n' := 142) rfl ?_
                    rw [show wrp (2 + 1) = 3 from wrp_id (by omega) (by omega)]
                    refine qG.blk 4 (pc' := 5) (ls' := [(2, 27), (2, 28), (0, 3)]) (st' := [(0, 3), (0, 3)]) (w' := w) (n' := 142) rfl ?_
                    refine qG.br (P := (3 : Int) < 3) (pc1 := 8) (pc2 := 32) (st1 := []) rfl (fun h10 => ?_) (fun h10 => ?_)
                    · exact absurd h10 (by decide)
                    · skip
                      refine qG.blk 1 (pc' := 33) (ls' := [(2, 27), (2, 28), (0, 3)]) (st' := [(0, 1)]) (w' := w) (n' := 142) rfl ?_
                      refine qG.ret rfl (by first | rfl | exact decide_eq_true (by omega)) ?_
                      subst hQ9
                      exact ⟨congrArg (Prod.mk 0) (by simp only [qcmp_0] at *; first | (rw [if_neg (fun z => by first | exact absurd z.1 (by assumption) | exact absurd z.2.1 (by assumption) | exact absurd z.2.2 (by assumption))]; done) | (rw [if_pos ⟨by assumption, by assumption, by assumption⟩]; done)), rfl, rfl⟩
                  · skip
                    refine qG.blk 1 (pc' := 25) (ls' := [(2, 27), (2, 28), (0, 2)]) (st' := [(0, 0)]) (w' := w) (n' := 142) rfl ?_
                    refine qG.ret rfl (by first | rfl | exact decide_eq_true (by omega)) ?_
                    subst hQ9
                    exact ⟨congrArg (Prod.mk 0) (by simp only [qcmp_0] at *; first | (rw [if_neg (fun z => by first | exact absurd z.1 (by assumption) | exact absurd z.2.1 (by assumption) | exact absurd z.2.2 (by assumption))]; done) | (rw [if_pos ⟨by assumption, by assumption, by assumption⟩]; done)), rfl, rfl⟩
                · exact absurd h8 (by decide)
              · exact absurd h7 (by decide)
            · skip
              refine qG.blk 1 (pc' := 25) (ls' := [(2, 27), (2, 28), (0, 1)]) (st' := [(0, 0)]) (w' := w) (n' := 142) rfl ?_
              refine qG.ret rfl (by first | rfl | exact decide_eq_true (by omega)) ?_
              subst hQ9
              exact ⟨congrArg (Prod.mk 0) (by simp only [qcmp_0] at *; first | (rw [if_neg (fun z => by first | exact absurd z.1 (by assumption) | exact absurd z.2.1 (by assumption) | exact absurd z.2.2 (by assumption))]; done) | (rw [if_pos ⟨by assumption, by assumption, by assumption⟩]; done)), rfl, rfl⟩
          · exact absurd h5 (by decide)
        · exact absurd h4 (by decide)
      · skip
        refine qG.blk 1 (pc' := 25) (ls' := [(2, 27), (2, 28), (0, 0)]) (st' := [(0, 0)]) (w' := w) (n' := 142) rfl ?_
        refine qG.ret rfl (by first | rfl | exact decide_eq_true (by omega)) ?_
        subst hQ9
        exact ⟨congrArg (Prod.mk 0) (by simp only [qcmp_0] at *; first | (rw [if_neg (fun z => by first | exact absurd z.1 (by assumption) | exact absurd z.2.1 (by assumption) | exact absurd z.2.2 (by assumption))]; done) | (rw [if_pos ⟨by assumption, by assumption, by assumption⟩]; done)), rfl, rfl⟩
    · exact absurd h2 (by decide)
  · exact absurd h1 (by decide)
theorem K_isSame {d : Nat} (hd : 0 ≤ d) (w : qW) (hI : yInv zgf zga zra zSp w) : qG none d 50 0 [(2, 27), (2, 28), (9, 0)] [] w 142 (fun (r : qV) (w1 : qW) (n1 : Nat) => w1 = w ∧ n1 = 142 ∧ ((r = (0, 1) ∧ ∀ j, j < 192 → sb w 27 j = sb w 28 j) ∨ (r = (0, 0) ∧ ¬ ∀ j, j < 192 → sb w 27 j = sb w 28 j))) := by
  refine qG.mono (K_isSameC hd w) ?_
  rintro r w1 n1 ⟨rfl, rfl, rfl⟩
  refine ⟨rfl, rfl, ?_⟩
  by_cases h : w1 27 0 = w1 28 0 ∧ w1 27 1 = w1 28 1 ∧ w1 27 2 = w1 28 2
  · rw [if_pos h]
    refine .inl ⟨rfl, fun j hj => ?_⟩
    unfold sb
    rcases part3 hj with ⟨e, -⟩ | ⟨e, -⟩ | ⟨e, -⟩ <;> rw [e]
    · rw [h.1]
    · rw [h.2.1]
    · rw [h.2.2]
  · rw [if_neg h]
    refine .inr ⟨rfl, fun z => h ?_⟩
    have q := lrow (w := w1) (p := 27) (by unfold LROW; omega) hI
    have q2 := lrow (w := w1) (p := 28) (by unfold LROW; omega) hI
    exact ⟨lb_ext (q 0) (q2 0) (fun s hs => by rw [← sb_lo hs, ← sb_lo hs]; exact z s (by omega)), lb_ext (q 1) (q2 1) (fun s hs => by rw [← sb_mi hs, ← sb_mi hs]; exact z (64 + s) (by omega)), lb_ext (q 2) (q2 2) (fun s hs => by rw [← sb_hi hs, ← sb_hi hs]; exact z (128 + s) (by omega))⟩
theorem ctb_add {f : Nat → Bool} {n : Nat} : ∀ m, ctb f (n + m) = ctb f n + ctb (fun i => f (n + i)) m
  | 0 => rfl
  | m + 1 => by
    show ctb f (n + m) + (bif f (n + m) then 1 else 0) = ctb f n + (ctb (fun i => f (n + i)) m + (bif f (n + m) then 1 else 0))
    rw [ctb_add m, Nat.add_assoc]
theorem ctbL_le {f : Nat → Bool} : ∀ m, ctb f m ≤ m
  | 0 => Nat.le_refl 0
  | m + 1 => by
    have := ctbL_le (f := f) m
    show ctb f m + (bif f m then 1 else 0) ≤ m + 1
    cases f m <;> (first | (show ctb f m + 0 ≤ m + 1; omega) | (show ctb f m + 1 ≤ m + 1; omega))
theorem sb_cnt {w : qW} {p : Nat} : ctb (fun j => sb w p j) 192 = ctb (fun i => lb (w p 0) i) 64 + ctb (fun i => lb (w p 1) i) 64 + ctb (fun i => lb (w p 2) i) 64 := by
  rw [show (192 : Nat) = 64 + (64 + 64) from rfl, ctb_add, ctb_add, ctb_congr (g := fun i => lb (w p 0) i) (fun i hi => sb_lo hi), ctb_congr (f := fun i => sb w p (64 + i)) (g := fun i => lb (w p 1) i) (fun i hi => sb_mi hi), ctb_congr (f := fun i => sb w p (64 + (64 + i))) (g := fun i => lb (w p 2) i) (fun i hi => by show sb w p (64 + (64 + i)) = _; rw [← Nat.add_assoc]; exact sb_hi hi), Nat.add_assoc]
theorem lbc_le (x : Int) : 0 ≤ lbcF x ∧ lbcF x ≤ 64 := by
  rw [lbc_ok]
  have := ctbL_le (f := fun i => lb x i) 64
  omega
theorem K_howM27 {d : Nat} (hd : 1 ≤ d) (w : qW) : qG none d 52 0 [(2, 27), (9, 0), (9, 0), (9, 0), (9, 0), (9, 0), (9, 0)] [] w 142 (fun (r : qV) (w1 : qW) (n1 : Nat) => r = (0, ((ctb (fun j => sb w 27 j) 192 : Nat) : Int)) ∧ w1 = w ∧ n1 = 142) := by
  generalize hQ9 : (fun (r : qV) (w1 : qW) (n1 : Nat) => r = (0, ((ctb (fun j => sb w 27 j) 192 : Nat) : Int)) ∧ w1 = w ∧ n1 = 142) = Q9
  obtain ⟨d, rfl⟩ : ∃ d9, d = d9 + 1 := ⟨d - 1, by omega⟩
  refine qG.blk 11 (pc' := 13) (ls' := [(2, 27), (0, 0), (2, 27), (0, 3), (0, 0), (9, 0), (9, 0)]) (st' := [(0, 3), (0, 0)]) (w' := w) (n' := 142) rfl ?_
  refine qG.br (P := (0 : Int) < 3) (pc1 := 16) (pc2 := 36) (st1 := []) rfl (fun h1 => ?_) (fun h1 => ?_)
  · skip
    refine qG.blk 2 (pc' := 19) (ls' := [(2, 27), (0, 0), (2, 27), (0, 3), (0, 0), (9, 0), (9, 0)]) (st' := [(0, 0), (2, 27)]) (w' := w) (n' := 142) rfl ?_
    refine qG.ar (P := 0 ≤ 0 ∧ 0 < ((3 : Nat) : Int)) (P2 := 0 < (27 : Int) ∧ (27 : Int) ≤ ((142 : Nat) : Int)) (pc' := 20) (ls' := [(2, 27), (0, 0), (2, 27), (0, 3), (0, 0), (9, 0), (9, 0)]) (st' := [(1, w 27 0)]) (w' := w) (n' := 142) rfl (by omega) (by decide) ?_
    refine qG.blk 3 (pc' := 25) (ls' := [(2, 27), (0, 0), (2, 27), (0, 3), (0, 0), (1, w 27 0), (9, 0)]) (st' := [(1, w 27 0), (0, 0)]) (w' := w) (n' := 142) rfl ?_
    refine qG.call (t := 304) (na := 1) (sk := 0) (md := 0) (ls1 := [(1, w 27 0), (9, 0)]) (r1 := [(0, 0)]) rfl rfl rfl rfl rfl (K_lbc (Nat.zero_le _) (w 27 0) w) ?_
    rintro _ w7 _ ⟨rfl, hw7, rfl⟩
    rw [hw7]
    have hl1 := lbc_le (w 27 0)
    show qG none (d + 1) 52 28 [(2, 27), (0, 0), (2, 27), (0, 3), (0, 0), (1, w 27 0), (9, 0)] [(0, lbcF (w 27 0)), (0, 0)] w 142 Q9
    refine qG.blk 1 (pc' := 29) (ls' := [(2, 27), (0, 0), (2, 27), (0, 3), (0, 0), (1, w 27 0), (9, 0)]) (st' := [(0, wrp (0 + (lbcF (w 27 0))))]) (w' := w) (n' := 142) rfl ?_
    rw [show wrp (0 + (lbcF (w 27 0))) = 0 + (lbcF (w 27 0)) from wrp_id (by omega) (by omega)]
    refine qG.blk 2 (pc' := 33) (ls' := [(2, 27), (0, 0 + (lbcF (w 27 0))), (2, 27), (0, 3), (0, wrp (0 + 1)), (1, w 27 0), (9, 0)]) (st' := []) (w' := w) (n' := 142) rfl ?_
    rw [show wrp (0 + 1) = 1 from wrp_id (by omega) (by omega)]
    refine qG.blk 3 (pc' := 13) (ls' := [(2, 27), (0, 0 + (lbcF (w 27 0))), (2, 27), (0, 3), (0, 1), (1, w 27 0), (9, 0)]) (st' := [(0, 3), (0, 1)]) (w' := w) (n' := 142) rfl ?_
    refine qG.br (P := (1 : Int) < 3) (pc1 := 16) (pc2 := 36) (st1 := []) rfl (fun h2 => ?_) (fun h2 => ?_)
    · skip
      refine qG.blk 2 (pc' := 19) (ls' := [(2, 27), (0, 0 + (lbcF (w 27 0))), (2, 27), (0, 3), (0, 1), (1, w 27 0), (9, 0)]) (st' := [(0, 1), (2, 27)]) (w' := w) (n' := 142) rfl ?_
      refine qG.ar (P := 0 ≤ 1 ∧ 1 < ((3 : Nat) : Int)) (P2 := 0 < (27 : Int) ∧ (27 : Int) ≤ ((142 : Nat) : Int)) (pc' := 20) (ls' := [(2, 27), (0, 0 + (lbcF (w 27 0))), (2, 27), (0, 3), (0, 1), (1, w 27 0), (9, 0)]) (st' := [(1, w 27 1)]) (w' := w) (n' := 142) rfl (by omega) (by decide) ?_
      refine qG.blk 3 (pc' := 25) (ls' := [(2, 27), (0, 0 + (lbcF (w 27 0))), (2, 27), (0, 3), (0, 1), (1, w 27 1), (9, 0)]) (st' := [(1, w 27 1), (0, 0 + (lbcF (w 27 0)))]) (w' := w) (n' := 142) rfl ?_
      refine qG.call (t := 304) (na := 1) (sk := 0) (md := 0) (ls1 := [(1, w 27 1), (9, 0)]) (r1 := [(0, 0 + (lbcF (w 27 0)))]) rfl rfl rfl rfl rfl (K_lbc (Nat.zero_le _) (w 27 1) w) ?_
      rintro _ w7 _ ⟨rfl, hw7, rfl⟩
      rw [hw7]
      have hl2 := lbc_le (w 27 1)
      show qG none (d + 1) 52 28 [(2, 27), (0, 0 + (lbcF (w 27 0))), (2, 27), (0, 3), (0, 1), (1, w 27 1), (9, 0)] [(0, lbcF (w 27 1)), (0, 0 + (lbcF (w 27 0)))] w 142 Q9
      refine qG.blk 1 (pc' := 29) (ls' := [(2, 27), (0, 0 + (lbcF (w 27 0))), (2, 27), (0, 3), (0, 1), (1, w 27 1), (9, 0)]) (st' := [(0, wrp ((0 + (lbcF (w 27 0))) + (lbcF (w 27 1))))]) (w' := w) (n' := 142) rfl ?_
      rw [show wrp ((0 + (lbcF (w 27 0))) + (lbcF (w 27 1))) = (0 + (lbcF (w 27 0))) + (lbcF (w 27 1)) from wrp_id (by omega) (by omega)]
      refine qG.blk 2 (pc' := 33) (ls' := [(2, 27), (0, (0 + (lbcF (w 27 0))) + (lbcF (w 27 1))), (2, 27), (0, 3), (0, wrp (1 + 1)), (1, w 27 1), (9, 0)]) (st' := []) (w' := w) (n' := 142) rfl ?_
      rw [show wrp (1 + 1) = 2 from wrp_id (by omega) (by omega)]
      refine qG.blk 3 (pc' := 13) (ls' := [(2, 27), (0, (0 + (lbcF (w 27 0))) + (lbcF (w 27 1))), (2, 27), (0, 3), (0, 2), (1, w 27 1), (9, 0)]) (st' := [(0, 3), (0, 2)]) (w' := w) (n' := 142) rfl ?_
      refine qG.br (P := (2 : Int) < 3) (pc1 := 16) (pc2 := 36) (st1 := []) rfl (fun h3 => ?_) (fun h3 => ?_)
      · skip
        refine qG.blk 2 (pc' := 19) (ls' := [(2, 27), (0, (0 + (lbcF (w 27 0))) + (lbcF (w 27 1))), (2, 27), (0, 3), (0, 2), (1, w 27 1), (9, 0)]) (st' := [(0, 2), (2, 27)]) (w' := w) (n' := 142) rfl ?_
        refine qG.ar (P := 0 ≤ 2 ∧ 2 < ((3 : Nat) : Int)) (P2 := 0 < (27 : Int) ∧ (27 : Int) ≤ ((142 : Nat) : Int)) (pc' := 20) (ls' := [(2, 27), (0, (0 + (lbcF (w 27 0))) + (lbcF (w 27 1))), (2, 27), (0, 3), (0, 2), (1, w 27 1), (9, 0)]) (st' := [(1, w 27 2)]) (w' := w) (n' := 142) rfl (by omega) (by decide) ?_
        refine qG.blk 3 (pc' := 25) (ls' := [(2, 27), (0, (0 + (lbcF (w 27 0))) + (lbcF (w 27 1))), (2, 27), (0, 3), (0, 2), (1, w 27 2), (9, 0)]) (st' := [(1, w 27 2), (0, (0 + (lbcF (w 27 0))) + (lbcF (w 27 1)))]) (w' := w) (n' := 142) rfl ?_
        refine qG.call (t := 304) (na := 1) (sk := 0) (md := 0) (ls1 := [(1, w 27 2), (9, 0)]) (r1 := [(0, (0 + (lbcF (w 27 0))) + (lbcF (w 27 1)))]) rfl rfl rfl rfl rfl (K_lbc (Nat.zero_le _) (w 27 2) w) ?_
        rintro _ w7 _ ⟨rfl, hw7, rfl⟩
        rw [hw7]
        have hl3 := lbc_le (w 27 2)
        show qG none (d + 1) 52 28 [(2, 27), (0, (0 + (lbcF (w 27 0))) + (lbcF (w 27 1))), (2, 27), (0, 3), (0, 2), (1, w 27 2), (9, 0)] [(0, lbcF (w 27 2)), (0, (0 + (lbcF (w 27 0))) + (lbcF (w 27 1)))] w 142 Q9
        refine qG.blk 1 (pc' := 29) (ls' := [(2, 27), (0, (0 + (lbcF (w 27 0))) + (lbcF (w 27 1))), (2, 27), (0, 3), (0, 2), (1, w 27 2), (9, 0)]) (st' := [(0, wrp (((0 + (lbcF (w 27 0))) + (lbcF (w 27 1))) + (lbcF (w 27 2))))]) (w' := w) (n' := 142) rfl ?_
        rw [show wrp (((0 + (lbcF (w 27 0))) + (lbcF (w 27 1))) + (lbcF (w 27 2))) = ((0 + (lbcF (w 27 0))) + (lbcF (w 27 1))) + (lbcF (w 27 2)) from wrp_id (by omega) (by omega)]
        refine qG.blk 2 (pc' := 33) (ls' := [(2, 27), (0, ((0 + (lbcF (w 27 0))) + (lbcF (w 27 1))) + (lbcF (w 27 2))), (2, 27), (0, 3), (0, wrp (2 + 1)), (1, w 27 2), (9, 0)]) (st' := []) (w' := w) (n' := 142) rfl ?_
        rw [show wrp (2 + 1) = 3 from wrp_id (by omega) (by omega)]
        refine qG.blk 3 (pc' := 13) (ls' := [(2, 27), (0, ((0 + (lbcF (w 27 0))) + (lbcF (w 27 1))) + (lbcF (w 27 2))), (2, 27), (0, 3), (0, 3), (1, w 27 2), (9, 0)]) (st' := [(0, 3), (0, 3)]) (w' := w) (n' := 142) rfl ?_
        refine qG.br (P := (3 : Int) < 3) (pc1 := 16) (pc2 := 36) (st1 := []) rfl (fun h4 => ?_) (fun h4 => ?_)
        · exact absurd h4 (by decide)
        · skip
          refine qG.blk 1 (pc' := 37) (ls' := [(2, 27), (0, ((0 + (lbcF (w 27 0))) + (lbcF (w 27 1))) + (lbcF (w 27 2))), (2, 27), (0, 3), (0, 3), (1, w 27 2), (9, 0)]) (st' := [(0, ((0 + (lbcF (w 27 0))) + (lbcF (w 27 1))) + (lbcF (w 27 2)))]) (w' := w) (n' := 142) rfl ?_
          refine qG.ret rfl rfl ?_
          subst hQ9
          exact ⟨congrArg (Prod.mk 0) (by rw [sb_cnt, lbc_ok, lbc_ok, lbc_ok]; omega), rfl, rfl⟩
      · exact absurd h3 (by decide)
    · exact absurd h2 (by decide)
  · exact absurd h1 (by decide)
theorem K_isEmpty27 {d : Nat} (hd : 2 ≤ d) (w : qW) : qG none d 51 0 [(2, 27)] [] w 142 (fun (r : qV) (w1 : qW) (n1 : Nat) => r = (0, if ctb (fun j => sb w 27 j) 192 = 0 then 1 else 0) ∧ w1 = w ∧ n1 = 142) := by
  generalize hQ9 : (fun (r : qV) (w1 : qW) (n1 : Nat) => r = (0, if ctb (fun j => sb w 27 j) 192 = 0 then 1 else 0) ∧ w1 = w ∧ n1 = 142) = Q9
  obtain ⟨d, rfl⟩ : ∃ d9, d = d9 + 1 := ⟨d - 1, by omega⟩
  refine qG.blk 1 (pc' := 1) (ls' := [(2, 27)]) (st' := [(2, 27)]) (w' := w) (n' := 142) rfl ?_
  refine qG.call (t := 52) (na := 1) (sk := 0) (md := 0) (ls1 := [(2, 27), (9, 0), (9, 0), (9, 0), (9, 0), (9, 0), (9, 0)]) (r1 := []) rfl rfl rfl rfl rfl (K_howM27 (by omega) w) ?_
  rintro _ w7 _ ⟨rfl, hw7, rfl⟩
  rw [hw7]
  show qG none (d + 1) 51 4 [(2, 27)] [(0, ((ctb (fun j => sb w 27 j) 192 : Nat) : Int))] w 142 Q9
  refine qG.br (P := ((ctb (fun j => sb w 27 j) 192 : Nat) : Int) = 0) (pc1 := 7) (pc2 := 11) (st1 := []) rfl (fun hz => ?_) (fun hz => ?_)
  · skip
    refine qG.blk 2 (pc' := 12) (ls' := [(2, 27)]) (st' := [(0, 1)]) (w' := w) (n' := 142) rfl ?_
    refine qG.ret rfl (by first | rfl | exact decide_eq_true (by omega)) ?_
    subst hQ9
    exact ⟨congrArg (Prod.mk 0) (by first | (rw [if_pos (by omega)]; done) | (rw [if_neg (by omega)]; done)), rfl, rfl⟩
  · skip
    refine qG.blk 1 (pc' := 12) (ls' := [(2, 27)]) (st' := [(0, 0)]) (w' := w) (n' := 142) rfl ?_
    refine qG.ret rfl (by first | rfl | exact decide_eq_true (by omega)) ?_
    subst hQ9
    exact ⟨congrArg (Prod.mk 0) (by first | (rw [if_pos (by omega)]; done) | (rw [if_neg (by omega)]; done)), rfl, rfl⟩
theorem K_howM34 {d : Nat} (hd : 1 ≤ d) (w : qW) : qG none d 52 0 [(2, 34), (9, 0), (9, 0), (9, 0), (9, 0), (9, 0), (9, 0)] [] w 142 (fun (r : qV) (w1 : qW) (n1 : Nat) => r = (0, ((ctb (fun j => sb w 34 j) 192 : Nat) : Int)) ∧ w1 = w ∧ n1 = 142) := by
  generalize hQ9 : (fun (r : qV) (w1 : qW) (n1 : Nat) => r = (0, ((ctb (fun j => sb w 34 j) 192 : Nat) : Int)) ∧ w1 = w ∧ n1 = 142) = Q9
  obtain ⟨d, rfl⟩ : ∃ d9, d = d9 + 1 := ⟨d - 1, by omega⟩
  refine qG.blk 11 (pc' := 13) (ls' := [(2, 34), (0, 0), (2, 34), (0, 3), (0, 0), (9, 0), (9, 0)]) (st' := [(0, 3), (0, 0)]) (w' := w) (n' := 142) rfl ?_
  refine qG.br (P := (0 : Int) < 3) (pc1 := 16) (pc2 := 36) (st1 := []) rfl (fun h1 => ?_) (fun h1 => ?_)
  · skip
    refine qG.blk 2 (pc' := 19) (ls' := [(2, 34), (0, 0), (2, 34), (0, 3), (0, 0), (9, 0), (9, 0)]) (st' := [(0, 0), (2, 34)]) (w' := w) (n' := 142) rfl ?_
    refine qG.ar (P := 0 ≤ 0 ∧ 0 < ((3 : Nat) : Int)) (P2 := 0 < (34 : Int) ∧ (34 : Int) ≤ ((142 : Nat) : Int)) (pc' := 20) (ls' := [(2, 34), (0, 0), (2, 34), (0, 3), (0, 0), (9, 0), (9, 0)]) (st' := [(1, w 34 0)]) (w' := w) (n' := 142) rfl (by omega) (by decide) ?_
    refine qG.blk 3 (pc' := 25) (ls' := [(2, 34), (0, 0), (2, 34), (0, 3), (0, 0), (1, w 34 0), (9, 0)]) (st' := [(1, w 34 0), (0, 0)]) (w' := w) (n' := 142) rfl ?_
    refine qG.call (t := 304) (na := 1) (sk := 0) (md := 0) (ls1 := [(1, w 34 0), (9, 0)]) (r1 := [(0, 0)]) rfl rfl rfl rfl rfl (K_lbc (Nat.zero_le _) (w 34 0) w) ?_
    rintro _ w7 _ ⟨rfl, hw7, rfl⟩
    rw [hw7]
    have hl1 := lbc_le (w 34 0)
    show qG none (d + 1) 52 28 [(2, 34), (0, 0), (2, 34), (0, 3), (0, 0), (1, w 34 0), (9, 0)] [(0, lbcF (w 34 0)), (0, 0)] w 142 Q9
    refine qG.blk 1 (pc' := 29) (ls' := [(2, 34), (0, 0), (2, 34), (0, 3), (0, 0), (1, w 34 0), (9, 0)]) (st' := [(0, wrp (0 + (lbcF (w 34 0))))]) (w' := w) (n' := 142) rfl ?_
    rw [show wrp (0 + (lbcF (w 34 0))) = 0 + (lbcF (w 34 0)) from wrp_id (by omega) (by omega)]
    refine qG.blk 2 (pc' := 33) (ls' := [(2, 34), (0, 0 + (lbcF (w 34 0))), (2, 34), (0, 3), (0, wrp (0 + 1)), (1, w 34 0), (9, 0)]) (st' := []) (w' := w) (n' := 142) rfl ?_
    rw [show wrp (0 + 1) = 1 from wrp_id (by omega) (by omega)]
    refine qG.blk 3 (pc' := 13) (ls' := [(2, 34), (0, 0 + (lbcF (w 34 0))), (2, 34), (0, 3), (0, 1), (1, w 34 0), (9, 0)]) (st' := [(0, 3), (0, 1)]) (w' := w) (n' := 142) rfl ?_
    refine qG.br (P := (1 : Int) < 3) (pc1 := 16) (pc2 := 36) (st1 := []) rfl (fun h2 => ?_) (fun h2 => ?_)
    · skip
      refine qG.blk 2 (pc' := 19) (ls' := [(2, 34), (0, 0 + (lbcF (w 34 0))), (2, 34), (0, 3), (0, 1), (1, w 34 0), (9, 0)]) (st' := [(0, 1), (2, 34)]) (w' := w) (n' := 142) rfl ?_
      refine qG.ar (P := 0 ≤ 1 ∧ 1 < ((3 : Nat) : Int)) (P2 := 0 < (34 : Int) ∧ (34 : Int) ≤ ((142 : Nat) : Int)) (pc' := 20) (ls' := [(2, 34), (0, 0 + (lbcF (w 34 0))), (2, 34), (0, 3), (0, 1), (1, w 34 0), (9, 0)]) (st' := [(1, w 34 1)]) (w' := w) (n' := 142) rfl (by omega) (by decide) ?_
      refine qG.blk 3 (pc' := 25) (ls' := [(2, 34), (0, 0 + (lbcF (w 34 0))), (2, 34), (0, 3), (0, 1), (1, w 34 1), (9, 0)]) (st' := [(1, w 34 1), (0, 0 + (lbcF (w 34 0)))]) (w' := w) (n' := 142) rfl ?_
      refine qG.call (t := 304) (na := 1) (sk := 0) (md := 0) (ls1 := [(1, w 34 1), (9, 0)]) (r1 := [(0, 0 + (lbcF (w 34 0)))]) rfl rfl rfl rfl rfl (K_lbc (Nat.zero_le _) (w 34 1) w) ?_
      rintro _ w7 _ ⟨rfl, hw7, rfl⟩
      rw [hw7]
      have hl2 := lbc_le (w 34 1)
      show qG none (d + 1) 52 28 [(2, 34), (0, 0 + (lbcF (w 34 0))), (2, 34), (0, 3), (0, 1), (1, w 34 1), (9, 0)] [(0, lbcF (w 34 1)), (0, 0 + (lbcF (w 34 0)))] w 142 Q9
      refine qG.blk 1 (pc' := 29) (ls' := [(2, 34), (0, 0 + (lbcF (w 34 0))), (2, 34), (0, 3), (0, 1), (1, w 34 1), (9, 0)]) (st' := [(0, wrp ((0 + (lbcF (w 34 0))) + (lbcF (w 34 1))))]) (w' := w) (n' := 142) rfl ?_
      rw [show wrp ((0 + (lbcF (w 34 0))) + (lbcF (w 34 1))) = (0 + (lbcF (w 34 0))) + (lbcF (w 34 1)) from wrp_id (by omega) (by omega)]
      refine qG.blk 2 (pc' := 33) (ls' := [(2, 34), (0, (0 + (lbcF (w 34 0))) + (lbcF (w 34 1))), (2, 34), (0, 3), (0, wrp (1 + 1)), (1, w 34 1), (9, 0)]) (st' := []) (w' := w) (n' := 142) rfl ?_
      rw [show wrp (1 + 1) = 2 from wrp_id (by omega) (by omega)]
      refine qG.blk 3 (pc' := 13) (ls' := [(2, 34), (0, (0 + (lbcF (w 34 0))) + (lbcF (w 34 1))), (2, 34), (0, 3), (0, 2), (1, w 34 1), (9, 0)]) (st' := [(0, 3), (0, 2)]) (w' := w) (n' := 142) rfl ?_
      refine qG.br (P := (2 : Int) < 3) (pc1 := 16) (pc2 := 36) (st1 := []) rfl (fun h3 => ?_) (fun h3 => ?_)
      · skip
        refine qG.blk 2 (pc' := 19) (ls' := [(2, 34), (0, (0 + (lbcF (w 34 0))) + (lbcF (w 34 1))), (2, 34), (0, 3), (0, 2), (1, w 34 1), (9, 0)]) (st' := [(0, 2), (2, 34)]) (w' := w) (n' := 142) rfl ?_
        refine qG.ar (P := 0 ≤ 2 ∧ 2 < ((3 : Nat) : Int)) (P2 := 0 < (34 : Int) ∧ (34 : Int) ≤ ((142 : Nat) : Int)) (pc' := 20) (ls' := [(2, 34), (0, (0 + (lbcF (w 34 0))) + (lbcF (w 34 1))), (2, 34), (0, 3), (0, 2), (1, w 34 1), (9, 0)]) (st' := [(1, w 34 2)]) (w' := w) (n' := 142) rfl (by omega) (by decide) ?_
        refine qG.blk 3 (pc' := 25) (ls' := [(2, 34), (0, (0 + (lbcF (w 34 0))) + (lbcF (w 34 1))), (2, 34), (0, 3), (0, 2), (1, w 34 2), (9, 0)]) (st' := [(1, w 34 2), (0, (0 + (lbcF (w 34 0))) + (lbcF (w 34 1)))]) (w' := w) (n' := 142) rfl ?_
        refine qG.call (t := 304) (na := 1) (sk := 0) (md := 0) (ls1 := [(1, w 34 2), (9, 0)]) (r1 := [(0, (0 + (lbcF (w 34 0))) + (lbcF (w 34 1)))]) rfl rfl rfl rfl rfl (K_lbc (Nat.zero_le _) (w 34 2) w) ?_
        rintro _ w7 _ ⟨rfl, hw7, rfl⟩
        rw [hw7]
        have hl3 := lbc_le (w 34 2)
        show qG none (d + 1) 52 28 [(2, 34), (0, (0 + (lbcF (w 34 0))) + (lbcF (w 34 1))), (2, 34), (0, 3), (0, 2), (1, w 34 2), (9, 0)] [(0, lbcF (w 34 2)), (0, (0 + (lbcF (w 34 0))) + (lbcF (w 34 1)))] w 142 Q9
        refine qG.blk 1 (pc' := 29) (ls' := [(2, 34), (0, (0 + (lbcF (w 34 0))) + (lbcF (w 34 1))), (2, 34), (0, 3), (0, 2), (1, w 34 2), (9, 0)]) (st' := [(0, wrp (((0 + (lbcF (w 34 0))) + (lbcF (w 34 1))) + (lbcF (w 34 2))))]) (w' := w) (n' := 142) rfl ?_
        rw [show wrp (((0 + (lbcF (w 34 0))) + (lbcF (w 34 1))) + (lbcF (w 34 2))) = ((0 + (lbcF (w 34 0))) + (lbcF (w 34 1))) + (lbcF (w 34 2)) from wrp_id (by omega) (by omega)]
        refine qG.blk 2 (pc' := 33) (ls' := [(2, 34), (0, ((0 + (lbcF (w 34 0))) + (lbcF (w 34 1))) + (lbcF (w 34 2))), (2, 34), (0, 3), (0, wrp (2 + 1)), (1, w 34 2), (9, 0)]) (st' := []) (w' := w) (n' := 142) rfl ?_
        rw [show wrp (2 + 1) = 3 from wrp_id (by omega) (by omega)]
        refine qG.blk 3 (pc' := 13) (ls' := [(2, 34), (0, ((0 + (lbcF (w 34 0))) + (lbcF (w 34 1))) + (lbcF (w 34 2))), (2, 34), (0, 3), (0, 3), (1, w 34 2), (9, 0)]) (st' := [(0, 3), (0, 3)]) (w' := w) (n' := 142) rfl ?_
        refine qG.br (P := (3 : Int) < 3) (pc1 := 16) (pc2 := 36) (st1 := []) rfl (fun h4 => ?_) (fun h4 => ?_)
        · exact absurd h4 (by decide)
        · skip
          refine qG.blk 1 (pc' := 37) (ls' := [(2, 34), (0, ((0 + (lbcF (w 34 0))) + (lbcF (w 34 1))) + (lbcF (w 34 2))), (2, 34), (0, 3), (0, 3), (1, w 34 2), (9, 0)]) (st' := [(0, ((0 + (lbcF (w 34 0))) + (lbcF (w 34 1))) + (lbcF (w 34 2)))]) (w' := w) (n' := 142) rfl ?_
          refine qG.ret rfl rfl ?_
          subst hQ9
          exact ⟨congrArg (Prod.mk 0) (by rw [sb_cnt, lbc_ok, lbc_ok, lbc_ok]; omega), rfl, rfl⟩
      · exact absurd h3 (by decide)
    · exact absurd h2 (by decide)
  · exact absurd h1 (by decide)
theorem K_isEmpty34 {d : Nat} (hd : 2 ≤ d) (w : qW) : qG none d 51 0 [(2, 34)] [] w 142 (fun (r : qV) (w1 : qW) (n1 : Nat) => r = (0, if ctb (fun j => sb w 34 j) 192 = 0 then 1 else 0) ∧ w1 = w ∧ n1 = 142) := by
  generalize hQ9 : (fun (r : qV) (w1 : qW) (n1 : Nat) => r = (0, if ctb (fun j => sb w 34 j) 192 = 0 then 1 else 0) ∧ w1 = w ∧ n1 = 142) = Q9
  obtain ⟨d, rfl⟩ : ∃ d9, d = d9 + 1 := ⟨d - 1, by omega⟩
  refine qG.blk 1 (pc' := 1) (ls' := [(2, 34)]) (st' := [(2, 34)]) (w' := w) (n' := 142) rfl ?_
  refine qG.call (t := 52) (na := 1) (sk := 0) (md := 0) (ls1 := [(2, 34), (9, 0), (9, 0), (9, 0), (9, 0), (9, 0), (9, 0)]) (r1 := []) rfl rfl rfl rfl rfl (K_howM34 (by omega) w) ?_
  rintro _ w7 _ ⟨rfl, hw7, rfl⟩
  rw [hw7]
  show qG none (d + 1) 51 4 [(2, 34)] [(0, ((ctb (fun j => sb w 34 j) 192 : Nat) : Int))] w 142 Q9
  refine qG.br (P := ((ctb (fun j => sb w 34 j) 192 : Nat) : Int) = 0) (pc1 := 7) (pc2 := 11) (st1 := []) rfl (fun hz => ?_) (fun hz => ?_)
  · skip
    refine qG.blk 2 (pc' := 12) (ls' := [(2, 34)]) (st' := [(0, 1)]) (w' := w) (n' := 142) rfl ?_
    refine qG.ret rfl (by first | rfl | exact decide_eq_true (by omega)) ?_
    subst hQ9
    exact ⟨congrArg (Prod.mk 0) (by first | (rw [if_pos (by omega)]; done) | (rw [if_neg (by omega)]; done)), rfl, rfl⟩
  · skip
    refine qG.blk 1 (pc' := 12) (ls' := [(2, 34)]) (st' := [(0, 0)]) (w' := w) (n' := 142) rfl ?_
    refine qG.ret rfl (by first | rfl | exact decide_eq_true (by omega)) ?_
    subst hQ9
    exact ⟨congrArg (Prod.mk 0) (by first | (rw [if_pos (by omega)]; done) | (rw [if_neg (by omega)]; done)), rfl, rfl⟩
theorem K_unseen29 {d : Nat} (hd : 1 ≤ d) (v : Int) (N : Nat) (hN180 : N ≤ 180) (w : qW) (hI : yInv zgf zga zra zSp w) (hN : w 24 3 = (N : Int)) : qG none d 103 0 [(2, 24), (0, v), (2, 29), (9, 0), (9, 0)] [] w 142 (fun (r : qV) (w1 : qW) (n1 : Nat) => r = (9, 0) ∧ n1 = 142 ∧ RW 29 (fun j => decide (j < N) && decide (qand (w 25 j) v = 0)) w w1) := by
  generalize hQ9 : (fun (r : qV) (w1 : qW) (n1 : Nat) => r = (9, 0) ∧ n1 = 142 ∧ RW 29 (fun j => decide (j < N) && decide (qand (w 25 j) v = 0)) w w1) = Q9
  obtain ⟨N1, hN1⟩ : ∃ N : Int, N = 180 := ⟨_, rfl⟩
  obtain ⟨d, rfl⟩ : ∃ d9, d = d9 + 1 := ⟨d - 1, by omega⟩
  refine qG.blk 4 (pc' := 4) (ls' := [(2, 24), (0, v), (2, 29), (9, 0), (9, 0)]) (st' := [(1, 0), (1, 0), (1, 0), (2, 29)]) (w' := w) (n' := 142) rfl ?_
  refine qG.call (t := 105) (na := 4) (sk := 0) (md := 0) (ls1 := [(2, 29), (1, 0), (9, 0), (1, 0), (9, 0), (1, 0), (9, 0)]) (r1 := []) rfl rfl rfl rfl rfl (K_putRow29 (Nat.zero_le _) 0 0 0 w) ?_
  rintro _ w0 _ ⟨rfl, hw0, rfl⟩
  have hU0 : RW 29 (fun j => decide (j < 0) && decide (qand (w 25 j) v = 0)) w w0 := by rw [hw0]; exact RW.p (by unfold LROW; omega) hI ⟨by decide, by decide⟩ ⟨by decide, by decide⟩ ⟨by decide, by decide⟩ (fun s _ => lb_z s) (fun s _ => lb_z s) (fun s _ => lb_z s)
  show qG none (d + 1) 103 7 [(2, 24), (0, v), (2, 29), (9, 0), (9, 0)] [] w0 142 Q9
  refine qG.blk 2 (pc' := 9) (ls' := [(2, 24), (0, v), (2, 29), (0, 0), (9, 0)]) (st' := []) (w' := w0) (n' := 142) rfl ?_
  have L9 : ∀ (m9 : Nat) (i : Nat) (wF : qW) (l4 : qV), 180 - i = m9 → (i ≤ N ∧ RW 29 (fun j => decide (j < i) && decide (qand (w 25 j) v = 0)) w wF) → qG none (d + 1) 103 9 [(2, 24), (0, v), (2, 29), (0, ((i : Nat) : Int)), l4] [] wF 142 Q9 := by
    intro m9
    induction m9 using Nat.strongRecOn with
    | ind m9 ih9 =>
    intro i wF l4 hm9 hI9
    obtain ⟨hiN, hU⟩ := hI9
    refine qG.blk 3 (pc' := 14) (ls' := [(2, 24), (0, v), (2, 29), (0, ((i : Nat) : Int)), l4]) (st' := [(0, wF 24 3), (0, ((i : Nat) : Int))]) (w' := wF) (n' := 142) rfl ?_
    rw [show wF 24 3 = ((N : Nat) : Int) from (hU.2.1 24 3 (by decide)).trans hN]
    refine qG.br (P := ((i : Nat) : Int) < ((N : Nat) : Int)) (pc1 := 17) (pc2 := 67) (st1 := []) rfl (fun hiN2 => ?_) (fun hiN2 => ?_)
    · skip
      refine qG.blk 2 (pc' := 21) (ls' := [(2, 24), (0, v), (2, 29), (0, ((i : Nat) : Int)), l4]) (st' := [(0, 180), (0, ((i : Nat) : Int))]) (w' := wF) (n' := 142) rfl ?_
      rw [show (180 : Int) = N1 from hN1.symm]
      refine qG.br (P := ((i : Nat) : Int) < N1) (pc1 := 24) (pc2 := 67) (st1 := []) rfl (fun hi18 => ?_) (fun hi18 => ?_)
      · skip
        refine qG.blk 2 (pc' := 27) (ls' := [(2, 24), (0, v), (2, 29), (0, ((i : Nat) : Int)), l4]) (st' := [(0, 64), (0, ((i : Nat) : Int))]) (w' := wF) (n' := 142) rfl ?_
        refine qG.gn (P := 64 = 0) (pc' := 28) (ls' := [(2, 24), (0, v), (2, 29), (0, ((i : Nat) : Int)), l4]) (st' := [(0, qdiv ((i : Nat) : Int) 64)]) (w' := wF) (n' := 142) rfl (by decide) ?_
        rw [show qdiv ((i : Nat) : Int) 64 = ((i / 64 : Nat) : Int) from (q64 i (by omega)).1]
        refine qG.blk 3 (pc' := 34) (ls' := [(2, 24), (0, v), (2, 29), (0, ((i : Nat) : Int)), (0, ((i / 64 : Nat) : Int))]) (st' := [(2, wF 24 4)]) (w' := wF) (n' := 142) rfl ?_
        rw [show wF 24 4 = 25 from (hU.2.1 24 4 (by decide)).trans (zref hI rfl rfl)]
        refine qG.blk 1 (pc' := 35) (ls' := [(2, 24), (0, v), (2, 29), (0, ((i : Nat) : Int)), (0, ((i / 64 : Nat) : Int))]) (st' := [(0, ((i : Nat) : Int)), (2, 25)]) (w' := wF) (n' := 142) rfl ?_
        refine qG.ild (m := 180) rfl rfl (by omega) (by decide) ?_
        show qG none (d + 1) 103 36 [(2, 24), (0, v), (2, 29), (0, ((i : Nat) : Int)), (0, ((i / 64 : Nat) : Int))] [(0, wF 25 i)] wF 142 Q9
        rw [show wF 25 i = w 25 i from hU.2.1 25 i (by decide)]
        refine qG.blk 2 (pc' := 38) (ls' := [(2, 24), (0, v), (2, 29), (0, ((i : Nat) : Int)), (0, ((i / 64 : Nat) : Int))]) (st' := [(0, qand (w 25 i) v)]) (w' := wF) (n' := 142) rfl ?_
        refine qG.br (P := qand (w 25 i) v = 0) (pc1 := 41) (pc2 := 61) (st1 := []) rfl (fun hfs => ?_) (fun hfs => ?_)
        · skip
          refine qG.blk 3 (pc' := 45) (ls' := [(2, 24), (0, v), (2, 29), (0, ((i : Nat) : Int)), (0, ((i / 64 : Nat) : Int))]) (st' := [(0, 3), (0, ((i / 64 : Nat) : Int))]) (w' := wF) (n' := 142) rfl ?_
          refine qG.br (P := ((i / 64 : Nat) : Int) < 3) (pc1 := 48) (pc2 := 61) (st1 := []) rfl (fun hpt => ?_) (fun hpt => ?_)
          · skip
            refine qG.blk 3 (pc' := 52) (ls' := [(2, 24), (0, v), (2, 29), (0, ((i : Nat) : Int)), (0, ((i / 64 : Nat) : Int))]) (st' := [(0, ((i / 64 : Nat) : Int)), (2, 29), (0, ((i / 64 : Nat) : Int)), (2, 29)]) (w' := wF) (n' := 142) rfl ?_
            refine qG.ar (P := 0 ≤ ((i / 64 : Nat) : Int) ∧ ((i / 64 : Nat) : Int) < ((3 : Nat) : Int)) (P2 := 0 < (29 : Int) ∧ (29 : Int) ≤ ((142 : Nat) : Int)) (pc' := 53) (ls' := [(2, 24), (0, v), (2, 29), (0, ((i : Nat) : Int)), (0, ((i / 64 : Nat) : Int))]) (st' := [(1, wF 29 (i / 64)), (0, ((i / 64 : Nat) : Int)), (2, 29)]) (w' := wF) (n' := 142) rfl (by omega) (by decide) ?_
            refine qG.blk 3 (pc' := 57) (ls' := [(2, 24), (0, v), (2, 29), (0, ((i : Nat) : Int)), (0, ((i / 64 : Nat) : Int))]) (st' := [(0, 64), (0, ((i : Nat) : Int)), (1, 1), (1, wF 29 (i / 64)), (0, ((i / 64 : Nat) : Int)), (2, 29)]) (w' := wF) (n' := 142) rfl ?_
            refine qG.gn (P := 64 = 0) (pc' := 58) (ls' := [(2, 24), (0, v), (2, 29), (0, ((i : Nat) : Int)), (0, ((i / 64 : Nat) : Int))]) (st' := [(0, qrem ((i : Nat) : Int) 64), (1, 1), (1, wF 29 (i / 64)), (0, ((i / 64 : Nat) : Int)), (2, 29)]) (w' := wF) (n' := 142) rfl (by decide) ?_
            rw [show qrem ((i : Nat) : Int) 64 = ((i % 64 : Nat) : Int) from (q64 i (by omega)).2]
            refine qG.blk 2 (pc' := 60) (ls' := [(2, 24), (0, v), (2, 29), (0, ((i : Nat) : Int)), (0, ((i / 64 : Nat) : Int))]) (st' := [(1, qlor (wF 29 (i / 64)) (qlshl 1 ((i % 64 : Nat) : Int))), (0, ((i / 64 : Nat) : Int)), (2, 29)]) (w' := wF) (n' := 142) rfl ?_
            refine qG.ar (P := 0 ≤ ((i / 64 : Nat) : Int) ∧ ((i / 64 : Nat) : Int) < ((3 : Nat) : Int)) (P2 := 0 < (29 : Int) ∧ (29 : Int) ≤ ((142 : Nat) : Int)) (pc' := 61) (ls' := [(2, 24), (0, v), (2, 29), (0, ((i : Nat) : Int)), (0, ((i / 64 : Nat) : Int))]) (st' := []) (w' := (qup wF 29 (i / 64) (qlor (wF 29 (i / 64)) (qlshl 1 ((i % 64 : Nat) : Int))))) (n' := 142) rfl (by omega) (by decide) ?_
            refine qG.blk 1 (pc' := 64) (ls' := [(2, 24), (0, v), (2, 29), (0, wrp (((i : Nat) : Int) + 1)), (0, ((i / 64 : Nat) : Int))]) (st' := []) (w' := (qup wF 29 (i / 64) (qlor (wF 29 (i / 64)) (qlshl 1 ((i % 64 : Nat) : Int))))) (n' := 142) rfl ?_
            rw [show wrp (((i : Nat) : Int) + 1) = ((i + 1 : Nat) : Int) from wrp_id (by omega) (by omega)]
            refine qG.blk 1 (pc' := 9) (ls' := [(2, 24), (0, v), (2, 29), (0, ((i + 1 : Nat) : Int)), (0, ((i / 64 : Nat) : Int))]) (st' := []) (w' := (qup wF 29 (i / 64) (qlor (wF 29 (i / 64)) (qlshl 1 ((i % 64 : Nat) : Int))))) (n' := 142) rfl ?_
            refine ih9 _ (by omega) (i + 1) _ (0, ((i / 64 : Nat) : Int)) rfl ⟨by omega, fun j hj => ?_, fun r j hr => (qup_nq hr).trans (hU.2.1 r j hr), lput (by unfold LROW; omega) hU.2.2 (qlor_64 _ _)⟩
            show _ = (decide (j < i + 1) && decide (qand (w 25 j) v = 0))
            rw [sb_set, show sb wF 29 j = (decide (j < i) && decide (qand (w 25 j) v = 0)) from hU.1 j hj]
            by_cases e : j = i
            · rw [e, decide_eq_true hfs, decide_eq_true (show i < i + 1 by omega), decide_eq_true rfl, Bool.or_true]; rfl
            · rw [decide_eq_false (show ¬ i = j from fun z => e z.symm), Bool.or_false, show decide (j < i) = decide (j < i + 1) from decide_eq_decide.mpr (by omega)]
          · exfalso; omega
        · skip
          refine qG.blk 1 (pc' := 64) (ls' := [(2, 24), (0, v), (2, 29), (0, wrp (((i : Nat) : Int) + 1)), (0, ((i / 64 : Nat) : Int))]) (st' := []) (w' := wF) (n' := 142) rfl ?_
          rw [show wrp (((i : Nat) : Int) + 1) = ((i + 1 : Nat) : Int) from wrp_id (by omega) (by omega)]
          refine qG.blk 1 (pc' := 9) (ls' := [(2, 24), (0, v), (2, 29), (0, ((i + 1 : Nat) : Int)), (0, ((i / 64 : Nat) : Int))]) (st' := []) (w' := wF) (n' := 142) rfl ?_
          refine ih9 _ (by omega) (i + 1) wF (0, ((i / 64 : Nat) : Int)) rfl ⟨by omega, fun j hj => ?_, hU.2⟩
          show sb wF 29 j = (decide (j < i + 1) && decide (qand (w 25 j) v = 0))
          rw [show sb wF 29 j = (decide (j < i) && decide (qand (w 25 j) v = 0)) from hU.1 j hj]
          by_cases e : j = i
          · rw [e, decide_eq_false hfs, Bool.and_false, Bool.and_false]
          · rw [show decide (j < i) = decide (j < i + 1) from decide_eq_decide.mpr (by omega)]
      · exfalso; omega
    · skip
      refine qG.retv rfl rfl ?_
      subst hQ9
      exact ⟨rfl, rfl, by rw [show N = i by omega]; exact hU⟩
  exact L9 _ (0) (w0) ((9, 0)) rfl (⟨Nat.zero_le _, hU0⟩)
theorem K_unseen34 {d : Nat} (hd : 1 ≤ d) (v : Int) (N : Nat) (hN180 : N ≤ 180) (w : qW) (hI : yInv zgf zga zra zSp w) (hN : w 24 3 = (N : Int)) : qG none d 103 0 [(2, 24), (0, v), (2, 34), (9, 0), (9, 0)] [] w 142 (fun (r : qV) (w1 : qW) (n1 : Nat) => r = (9, 0) ∧ n1 = 142 ∧ RW 34 (fun j => decide (j < N) && decide (qand (w 25 j) v = 0)) w w1) := by
  generalize hQ9 : (fun (r : qV) (w1 : qW) (n1 : Nat) => r = (9, 0) ∧ n1 = 142 ∧ RW 34 (fun j => decide (j < N) && decide (qand (w 25 j) v = 0)) w w1) = Q9
  obtain ⟨N1, hN1⟩ : ∃ N : Int, N = 180 := ⟨_, rfl⟩
  obtain ⟨d, rfl⟩ : ∃ d9, d = d9 + 1 := ⟨d - 1, by omega⟩
  refine qG.blk 4 (pc' := 4) (ls' := [(2, 24), (0, v), (2, 34), (9, 0), (9, 0)]) (st' := [(1, 0), (1, 0), (1, 0), (2, 34)]) (w' := w) (n' := 142) rfl ?_
  refine qG.call (t := 105) (na := 4) (sk := 0) (md := 0) (ls1 := [(2, 34), (1, 0), (9, 0), (1, 0), (9, 0), (1, 0), (9, 0)]) (r1 := []) rfl rfl rfl rfl rfl (K_putRow34 (Nat.zero_le _) 0 0 0 w) ?_
  rintro _ w0 _ ⟨rfl, hw0, rfl⟩
  have hU0 : RW 34 (fun j => decide (j < 0) && decide (qand (w 25 j) v = 0)) w w0 := by rw [hw0]; exact RW.p (by unfold LROW; omega) hI ⟨by decide, by decide⟩ ⟨by decide, by decide⟩ ⟨by decide, by decide⟩ (fun s _ => lb_z s) (fun s _ => lb_z s) (fun s _ => lb_z s)
  show qG none (d + 1) 103 7 [(2, 24), (0, v), (2, 34), (9, 0), (9, 0)] [] w0 142 Q9
  refine qG.blk 2 (pc' := 9) (ls' := [(2, 24), (0, v), (2, 34), (0, 0), (9, 0)]) (st' := []) (w' := w0) (n' := 142) rfl ?_
  have L9 : ∀ (m9 : Nat) (i : Nat) (wF : qW) (l4 : qV), 180 - i = m9 → (i ≤ N ∧ RW 34 (fun j => decide (j < i) && decide (qand (w 25 j) v = 0)) w wF) → qG none (d + 1) 103 9 [(2, 24), (0, v), (2, 34), (0, ((i : Nat) : Int)), l4] [] wF 142 Q9 := by
    intro m9
    induction m9 using Nat.strongRecOn with
    | ind m9 ih9 =>
    intro i wF l4 hm9 hI9
    obtain ⟨hiN, hU⟩ := hI9
    refine qG.blk 3 (pc' := 14) (ls' := [(2, 24), (0, v), (2, 34), (0, ((i : Nat) : Int)), l4]) (st' := [(0, wF 24 3), (0, ((i : Nat) : Int))]) (w' := wF) (n' := 142) rfl ?_
    rw [show wF 24 3 = ((N : Nat) : Int) from (hU.2.1 24 3 (by decide)).trans hN]
    refine qG.br (P := ((i : Nat) : Int) < ((N : Nat) : Int)) (pc1 := 17) (pc2 := 67) (st1 := []) rfl (fun hiN2 => ?_) (fun hiN2 => ?_)
    · skip
      refine qG.blk 2 (pc' := 21) (ls' := [(2, 24), (0, v), (2, 34), (0, ((i : Nat) : Int)), l4]) (st' := [(0, 180), (0, ((i : Nat) : Int))]) (w' := wF) (n' := 142) rfl ?_
      rw [show (180 : Int) = N1 from hN1.symm]
      refine qG.br (P := ((i : Nat) : Int) < N1) (pc1 := 24) (pc2 := 67) (st1 := []) rfl (fun hi18 => ?_) (fun hi18 => ?_)
      · skip
        refine qG.blk 2 (pc' := 27) (ls' := [(2, 24), (0, v), (2, 34), (0, ((i : Nat) : Int)), l4]) (st' := [(0, 64), (0, ((i : Nat) : Int))]) (w' := wF) (n' := 142) rfl ?_
        refine qG.gn (P := 64 = 0) (pc' := 28) (ls' := [(2, 24), (0, v), (2, 34), (0, ((i : Nat) : Int)), l4]) (st' := [(0, qdiv ((i : Nat) : Int) 64)]) (w' := wF) (n' := 142) rfl (by decide) ?_
        rw [show qdiv ((i : Nat) : Int) 64 = ((i / 64 : Nat) : Int) from (q64 i (by omega)).1]
        refine qG.blk 3 (pc' := 34) (ls' := [(2, 24), (0, v), (2, 34), (0, ((i : Nat) : Int)), (0, ((i / 64 : Nat) : Int))]) (st' := [(2, wF 24 4)]) (w' := wF) (n' := 142) rfl ?_
        rw [show wF 24 4 = 25 from (hU.2.1 24 4 (by decide)).trans (zref hI rfl rfl)]
        refine qG.blk 1 (pc' := 35) (ls' := [(2, 24), (0, v), (2, 34), (0, ((i : Nat) : Int)), (0, ((i / 64 : Nat) : Int))]) (st' := [(0, ((i : Nat) : Int)), (2, 25)]) (w' := wF) (n' := 142) rfl ?_
        refine qG.ild (m := 180) rfl rfl (by omega) (by decide) ?_
        show qG none (d + 1) 103 36 [(2, 24), (0, v), (2, 34), (0, ((i : Nat) : Int)), (0, ((i / 64 : Nat) : Int))] [(0, wF 25 i)] wF 142 Q9
        rw [show wF 25 i = w 25 i from hU.2.1 25 i (by decide)]
        refine qG.blk 2 (pc' := 38) (ls' := [(2, 24), (0, v), (2, 34), (0, ((i : Nat) : Int)), (0, ((i / 64 : Nat) : Int))]) (st' := [(0, qand (w 25 i) v)]) (w' := wF) (n' := 142) rfl ?_
        refine qG.br (P := qand (w 25 i) v = 0) (pc1 := 41) (pc2 := 61) (st1 := []) rfl (fun hfs => ?_) (fun hfs => ?_)
        · skip
          refine qG.blk 3 (pc' := 45) (ls' := [(2, 24), (0, v), (2, 34), (0, ((i : Nat) : Int)), (0, ((i / 64 : Nat) : Int))]) (st' := [(0, 3), (0, ((i / 64 : Nat) : Int))]) (w' := wF) (n' := 142) rfl ?_
          refine qG.br (P := ((i / 64 : Nat) : Int) < 3) (pc1 := 48) (pc2 := 61) (st1 := []) rfl (fun hpt => ?_) (fun hpt => ?_)
          · skip
            refine qG.blk 3 (pc' := 52) (ls' := [(2, 24), (0, v), (2, 34), (0, ((i : Nat) : Int)), (0, ((i / 64 : Nat) : Int))]) (st' := [(0, ((i / 64 : Nat) : Int)), (2, 34), (0, ((i / 64 : Nat) : Int)), (2, 34)]) (w' := wF) (n' := 142) rfl ?_
            refine qG.ar (P := 0 ≤ ((i / 64 : Nat) : Int) ∧ ((i / 64 : Nat) : Int) < ((3 : Nat) : Int)) (P2 := 0 < (34 : Int) ∧ (34 : Int) ≤ ((142 : Nat) : Int)) (pc' := 53) (ls' := [(2, 24), (0, v), (2, 34), (0, ((i : Nat) : Int)), (0, ((i / 64 : Nat) : Int))]) (st' := [(1, wF 34 (i / 64)), (0, ((i / 64 : Nat) : Int)), (2, 34)]) (w' := wF) (n' := 142) rfl (by omega) (by decide) ?_
            refine qG.blk 3 (pc' := 57) (ls' := [(2, 24), (0, v), (2, 34), (0, ((i : Nat) : Int)), (0, ((i / 64 : Nat) : Int))]) (st' := [(0, 64), (0, ((i : Nat) : Int)), (1, 1), (1, wF 34 (i / 64)), (0, ((i / 64 : Nat) : Int)), (2, 34)]) (w' := wF) (n' := 142) rfl ?_
            refine qG.gn (P := 64 = 0) (pc' := 58) (ls' := [(2, 24), (0, v), (2, 34), (0, ((i : Nat) : Int)), (0, ((i / 64 : Nat) : Int))]) (st' := [(0, qrem ((i : Nat) : Int) 64), (1, 1), (1, wF 34 (i / 64)), (0, ((i / 64 : Nat) : Int)), (2, 34)]) (w' := wF) (n' := 142) rfl (by decide) ?_
            rw [show qrem ((i : Nat) : Int) 64 = ((i % 64 : Nat) : Int) from (q64 i (by omega)).2]
            refine qG.blk 2 (pc' := 60) (ls' := [(2, 24), (0, v), (2, 34), (0, ((i : Nat) : Int)), (0, ((i / 64 : Nat) : Int))]) (st' := [(1, qlor (wF 34 (i / 64)) (qlshl 1 ((i % 64 : Nat) : Int))), (0, ((i / 64 : Nat) : Int)), (2, 34)]) (w' := wF) (n' := 142) rfl ?_
            refine qG.ar (P := 0 ≤ ((i / 64 : Nat) : Int) ∧ ((i / 64 : Nat) : Int) < ((3 : Nat) : Int)) (P2 := 0 < (34 : Int) ∧ (34 : Int) ≤ ((142 : Nat) : Int)) (pc' := 61) (ls' := [(2, 24), (0, v), (2, 34), (0, ((i : Nat) : Int)), (0, ((i / 64 : Nat) : Int))]) (st' := []) (w' := (qup wF 34 (i / 64) (qlor (wF 34 (i / 64)) (qlshl 1 ((i % 64 : Nat) : Int))))) (n' := 142) rfl (by omega) (by decide) ?_
            refine qG.blk 1 (pc' := 64) (ls' := [(2, 24), (0, v), (2, 34), (0, wrp (((i : Nat) : Int) + 1)), (0, ((i / 64 : Nat) : Int))]) (st' := []) (w' := (qup wF 34 (i / 64) (qlor (wF 34 (i / 64)) (qlshl 1 ((i % 64 : Nat) : Int))))) (n' := 142) rfl ?_
            rw [show wrp (((i : Nat) : Int) + 1) = ((i + 1 : Nat) : Int) from wrp_id (by omega) (by omega)]
            refine qG.blk 1 (pc' := 9) (ls' := [(2, 24), (0, v), (2, 34), (0, ((i + 1 : Nat) : Int)), (0, ((i / 64 : Nat) : Int))]) (st' := []) (w' := (qup wF 34 (i / 64) (qlor (wF 34 (i / 64)) (qlshl 1 ((i % 64 : Nat) : Int))))) (n' := 142) rfl ?_
            refine ih9 _ (by omega) (i + 1) _ (0, ((i / 64 : Nat) : Int)) rfl ⟨by omega, fun j hj => ?_, fun r j hr => (qup_nq hr).trans (hU.2.1 r j hr), lput (by unfold LROW; omega) hU.2.2 (qlor_64 _ _)⟩
            show _ = (decide (j < i + 1) && decide (qand (w 25 j) v = 0))
            rw [sb_set, show sb wF 34 j = (decide (j < i) && decide (qand (w 25 j) v = 0)) from hU.1 j hj]
            by_cases e : j = i
            · rw [e, decide_eq_true hfs, decide_eq_true (show i < i + 1 by omega), decide_eq_true rfl, Bool.or_true]; rfl
            · rw [decide_eq_false (show ¬ i = j from fun z => e z.symm), Bool.or_false, show decide (j < i) = decide (j < i + 1) from decide_eq_decide.mpr (by omega)]
          · exfalso; omega
        · skip
          refine qG.blk 1 (pc' := 64) (ls' := [(2, 24), (0, v), (2, 34), (0, wrp (((i : Nat) : Int) + 1)), (0, ((i / 64 : Nat) : Int))]) (st' := []) (w' := wF) (n' := 142) rfl ?_
          rw [show wrp (((i : Nat) : Int) + 1) = ((i + 1 : Nat) : Int) from wrp_id (by omega) (by omega)]
          refine qG.blk 1 (pc' := 9) (ls' := [(2, 24), (0, v), (2, 34), (0, ((i + 1 : Nat) : Int)), (0, ((i / 64 : Nat) : Int))]) (st' := []) (w' := wF) (n' := 142) rfl ?_
          refine ih9 _ (by omega) (i + 1) wF (0, ((i / 64 : Nat) : Int)) rfl ⟨by omega, fun j hj => ?_, hU.2⟩
          show sb wF 34 j = (decide (j < i + 1) && decide (qand (w 25 j) v = 0))
          rw [show sb wF 34 j = (decide (j < i) && decide (qand (w 25 j) v = 0)) from hU.1 j hj]
          by_cases e : j = i
          · rw [e, decide_eq_false hfs, Bool.and_false, Bool.and_false]
          · rw [show decide (j < i) = decide (j < i + 1) from decide_eq_decide.mpr (by omega)]
      · exfalso; omega
    · skip
      refine qG.retv rfl rfl ?_
      subst hQ9
      exact ⟨rfl, rfl, by rw [show N = i by omega]; exact hU⟩
  exact L9 _ (0) (w0) ((9, 0)) rfl (⟨Nat.zero_le _, hU0⟩)
