/-! the class: spread ends, by hand -/
theorem qG.lldz {sc : Option (Nat × (Nat → Int))} {d k pc n m x len : Nat} {ls r : List qV} {w : qW} {Q : qV → qW → Nat → Prop} {i p : Int} (hq : qcd k pc = some (.laload, len)) (hp : qpl p.toNat = (1, 1, m, x)) (hi : 0 ≤ i ∧ i < (m : Int)) (h0 : 0 < p ∧ p ≤ (n : Int)) (g : qG sc d k (pc + 1) ls ((1, w p.toNat i.toNat) :: r) w n Q) : qG sc d k pc ls ((0, i) :: (2, p) :: r) w n Q := by
  refine qG.one (pc' := pc + 1) (ls' := ls) (st' := (1, w p.toNat i.toNat) :: r) (w' := w) (n' := n) ?_ g
  unfold qone
  rw [hq]
  show qs1 sc k .laload len pc ls ((0, i) :: (2, p) :: r) w n = _
  rw [qs1_laload]
  show (match qpl p.toNat with
    | (1, 1, m, _) => if 0 ≤ i ∧ i < (m : Int) then (if 0 < p ∧ p ≤ (n : Int) then some (pc + 1, ls, (1, w p.toNat i.toNat) :: r, w, n) else none) else none
    | _ => none) = _
  rw [hp]
  show (if 0 ≤ i ∧ i < (m : Int) then (if 0 < p ∧ p ≤ (n : Int) then some (pc + 1, ls, (1, w p.toNat i.toNat) :: r, w, n) else none) else none) = _
  rw [if_pos hi, if_pos h0]
/-! worlds of which the ranges and what stays are known -/
/-- w' keeps the ranges, and differs from w at the places m alone -/
noncomputable def AW (m : List Nat) (w w' : qW) : Prop := yInv zgf zga zra zSp w' ∧ ∀ p j, (p < 1000 → ymo p j m = false) → w' p j = w p j
theorem AW.rf {m : List Nat} {w : qW} (h : yInv zgf zga zra zSp w) : AW m w w := ⟨h, fun _ _ _ => rfl⟩
theorem ymem_in {p : Nat} : ∀ {Z : List Nat}, ymem p Z = true → p ∈ Z
  | [], h => by cases h
  | q :: Z, h => by
    have h : (Nat.beq q p || ymem p Z) = true := h
    rw [Bool.or_eq_true] at h
    rcases h with h | h
    · rw [Nat.eq_of_beq_eq_true h]; exact List.mem_cons_self
    · exact List.mem_cons_of_mem _ (ymem_in h)
noncomputable def ysubm (a b : List Nat) : Bool := a.all (fun e => ymem e b || (Nat.ble 1000 e && ymem (e % 1000) b))
theorem ysubm_ok {a b : List Nat} (h : ysubm a b = true) {p j : Nat} (hp : p < 1000) (hb : ymo p j b = false) : ymo p j a = false := by
  have hb : (ymem p b || ymem (1000 * (j + 1) + p) b) = false := hb
  rw [Bool.or_eq_false_iff] at hb
  have key : ∀ e, e = p ∨ e = 1000 * (j + 1) + p → ymem e a = false := fun e he => by
    cases hq : ymem e a with
    | false => rfl
    | true =>
      exfalso
      have := List.all_eq_true.mp h e (ymem_in hq)
      rw [Bool.or_eq_true] at this
      rcases this with k | k
      · rcases he with rfl | rfl
        · rw [hb.1] at k; cases k
        · rw [hb.2] at k; cases k
      · rw [Bool.and_eq_true] at k
        have k1 := Nat.le_of_ble_eq_true k.1
        rcases he with rfl | rfl
        · omega
        · rw [show (1000 * (j + 1) + p) % 1000 = p by omega, hb.1] at k; cases k.2
  show (ymem p a || ymem (1000 * (j + 1) + p) a) = false
  rw [key p (.inl rfl), key _ (.inr rfl)]; rfl
theorem AW.tr {m n : List Nat} {w w1 w2 : qW} (h : AW m w w1) (h2 : AW n w1 w2) (hs : ysubm n m = true) : AW m w w2 := ⟨h2.1, fun p j hp => (h2.2 p j (fun k => ysubm_ok hs k (hp k))).trans (h.2 p j hp)⟩
theorem AW.use {t : Nat} {c : yC} {m : List Nat} {w w1 : qW} {d : Nat} {as : List qV} (T : yCOK w1 zgf zga zra zSp zgh t c) (h : AW m w w1) (hd : c.1 ≤ d) (ha : yamc c.2.1 as) (hn : c.2.2.2.2.1 = []) (hp : c.2.2.2.2.2.1 = []) (hs : ysubm c.2.2.2.1 m = true) : qG none d t 0 (qini t as) [] w1 142 (fun v w' n' => ∃ x, v = (c.2.2.1.1, x) ∧ c.2.2.1.2.1 ≤ x ∧ x ≤ c.2.2.1.2.2 ∧ AW m w w' ∧ n' = 142 ∧ AW c.2.2.2.1 w1 w') := by
  refine qG.mono (T d as w1 hd ha h.1 (fun p hp => by rw [hn] at hp; cases hp) (fun e he => by rw [hp] at he; cases he)) (fun v w' n' hh => ?_)
  obtain ⟨⟨h1, h2, h3⟩, h4, h5, h6, -, -⟩ := hh
  have a : AW c.2.2.2.1 w1 w' := ⟨h4, h6⟩
  exact ⟨v.2, Prod.ext h1 rfl, h2, h3, h.tr a hs, h5, a⟩
theorem args3r {as : List qV} {a b c : Int} (h : yamc [(2, a, a), (2, b, b), (2, c, c)] as) : as = [(2, a), (2, b), (2, c)] := by
  match as, h with
  | [(a1, a2), (b1, b2), (c1, c2)], h =>
    obtain ⟨⟨x1, x2, x3⟩, ⟨y1, y2, y3⟩, ⟨z1, z2, z3⟩, -⟩ := h
    have x1 : a1 = 2 := x1
    have y1 : b1 = 2 := y1
    have z1 : c1 = 2 := z1
    have x2 : a ≤ a2 := x2
    have x3 : a2 ≤ a := x3
    have y2 : b ≤ b2 := y2
    have y3 : b2 ≤ b := y3
    have z2 : c ≤ c2 := z2
    have z3 : c2 ≤ c := z3
    rw [x1, y1, z1, show a2 = a by omega, show b2 = b by omega, show c2 = c by omega]
theorem AW.nilz {w w1 : qW} (h : AW [] w w1) : w1 = w := by funext p j; exact h.2 p j (fun _ => rfl)
theorem zrefz {w : qW} (hI : yInv zgf zga zra zSp w) {p j : Nat} {v : Int} (h : zra p j = [v]) (hy : yarr p = false) : w p j = v := List.mem_singleton.mp (h ▸ hI.2.2.1 p j (by rw [h]; exact List.cons_ne_nil _ _) hy)
theorem qlandz (x y : Int) : qi64 (qland x y) := i64_in _
theorem qlorz (x y : Int) : qi64 (qlor x y) := i64_in _
theorem arrz {w : qW} (hI : yInv zgf zga zra zSp w) {p j : Nat} (h : zga p = some (-9223372036854775808, 9223372036854775807)) (hy : yarr p = true) : qi64 (w p j) := by
  have q : yin (-9223372036854775808, 9223372036854775807) (w p j) := hI.2.1 p j _ h hy
  have q1 : (-9223372036854775808 : Int) ≤ w p j := q.1
  have q2 : w p j ≤ (9223372036854775807 : Int) := q.2
  exact ⟨q1, by omega⟩
theorem i64l {x : Int} (h : qi64 x) : (-9223372036854775808 : Int) ≤ x := h.1
theorem i64u {x : Int} (h : qi64 x) : x ≤ (9223372036854775807 : Int) := by
  have q2 : x < 9223372036854775808 := h.2
  omega
noncomputable def C_nTZL : Nat × yC := (303, (2, [(1, (-9223372036854775808), 9223372036854775807)], (0, 0, 64), [], [], [], [], 0, []))
theorem T_nTZL {w0 : qW} : yCOK w0 zgf zga zra zSp zgh C_nTZL.1 C_nTZL.2 := yctr (bv := fun _ _ => none) (bb := fun _ => none) (ct := yctl []) (an := fun k pc => none) (fk := fun k pc => none) (f := 100000) zgh0 (fun _ _ _ h => by cases h) (fun _ _ h => by cases h) zSp_ok (fun w hw => yctl_ok (P := fun t c => yCOK w zgf zga zra zSp zgh t c) ylnil) (by decide +kernel)
noncomputable def C_putRow27 : Nat × yC := (105, (1, [(2, 27, 27), (1, (-9223372036854775808), 9223372036854775807), (1, (-9223372036854775808), 9223372036854775807), (1, (-9223372036854775808), 9223372036854775807)], (9, 0, 0), [27], [], [], [], 0, []))
theorem T_putRow27 {w0 : qW} : yCOK w0 zgf zga zra zSp zgh C_putRow27.1 C_putRow27.2 := yctr (bv := fun _ _ => none) (bb := fun _ => none) (ct := yctl []) (an := fun k pc => none) (fk := fun k pc => none) (f := 100000) zgh0 (fun _ _ _ h => by cases h) (fun _ _ h => by cases h) zSp_ok (fun w hw => yctl_ok (P := fun t c => yCOK w zgf zga zra zSp zgh t c) ylnil) (by decide +kernel)
noncomputable def C_putRow28 : Nat × yC := (105, (1, [(2, 28, 28), (1, (-9223372036854775808), 9223372036854775807), (1, (-9223372036854775808), 9223372036854775807), (1, (-9223372036854775808), 9223372036854775807)], (9, 0, 0), [28], [], [], [], 0, []))
theorem T_putRow28 {w0 : qW} : yCOK w0 zgf zga zra zSp zgh C_putRow28.1 C_putRow28.2 := yctr (bv := fun _ _ => none) (bb := fun _ => none) (ct := yctl []) (an := fun k pc => none) (fk := fun k pc => none) (f := 100000) zgh0 (fun _ _ _ h => by cases h) (fun _ _ h => by cases h) zSp_ok (fun w hw => yctl_ok (P := fun t c => yCOK w zgf zga zra zSp zgh t c) ylnil) (by decide +kernel)
noncomputable def C_putRow35 : Nat × yC := (105, (1, [(2, 35, 35), (1, (-9223372036854775808), 9223372036854775807), (1, (-9223372036854775808), 9223372036854775807), (1, (-9223372036854775808), 9223372036854775807)], (9, 0, 0), [35], [], [], [], 0, []))
theorem T_putRow35 {w0 : qW} : yCOK w0 zgf zga zra zSp zgh C_putRow35.1 C_putRow35.2 := yctr (bv := fun _ _ => none) (bb := fun _ => none) (ct := yctl []) (an := fun k pc => none) (fk := fun k pc => none) (f := 100000) zgh0 (fun _ _ _ h => by cases h) (fun _ _ h => by cases h) zSp_ok (fun w hw => yctl_ok (P := fun t c => yCOK w zgf zga zra zSp zgh t c) ylnil) (by decide +kernel)
noncomputable def C_putRow36 : Nat × yC := (105, (1, [(2, 36, 36), (1, (-9223372036854775808), 9223372036854775807), (1, (-9223372036854775808), 9223372036854775807), (1, (-9223372036854775808), 9223372036854775807)], (9, 0, 0), [36], [], [], [], 0, []))
theorem T_putRow36 {w0 : qW} : yCOK w0 zgf zga zra zSp zgh C_putRow36.1 C_putRow36.2 := yctr (bv := fun _ _ => none) (bb := fun _ => none) (ct := yctl []) (an := fun k pc => none) (fk := fun k pc => none) (f := 100000) zgh0 (fun _ _ _ h => by cases h) (fun _ _ h => by cases h) zSp_ok (fun w hw => yctl_ok (P := fun t c => yCOK w zgf zga zra zSp zgh t c) ylnil) (by decide +kernel)
noncomputable def C_putRow37 : Nat × yC := (105, (1, [(2, 37, 37), (1, (-9223372036854775808), 9223372036854775807), (1, (-9223372036854775808), 9223372036854775807), (1, (-9223372036854775808), 9223372036854775807)], (9, 0, 0), [37], [], [], [], 0, []))
theorem T_putRow37 {w0 : qW} : yCOK w0 zgf zga zra zSp zgh C_putRow37.1 C_putRow37.2 := yctr (bv := fun _ _ => none) (bb := fun _ => none) (ct := yctl []) (an := fun k pc => none) (fk := fun k pc => none) (f := 100000) zgh0 (fun _ _ _ h => by cases h) (fun _ _ h => by cases h) zSp_ok (fun w hw => yctl_ok (P := fun t c => yCOK w zgf zga zra zSp zgh t c) ylnil) (by decide +kernel)
noncomputable def C_putRow38 : Nat × yC := (105, (1, [(2, 38, 38), (1, (-9223372036854775808), 9223372036854775807), (1, (-9223372036854775808), 9223372036854775807), (1, (-9223372036854775808), 9223372036854775807)], (9, 0, 0), [38], [], [], [], 0, []))
theorem T_putRow38 {w0 : qW} : yCOK w0 zgf zga zra zSp zgh C_putRow38.1 C_putRow38.2 := yctr (bv := fun _ _ => none) (bb := fun _ => none) (ct := yctl []) (an := fun k pc => none) (fk := fun k pc => none) (f := 100000) zgh0 (fun _ _ _ h => by cases h) (fun _ _ h => by cases h) zSp_ok (fun w hw => yctl_ok (P := fun t c => yCOK w zgf zga zra zSp zgh t c) ylnil) (by decide +kernel)
theorem K_spreadZ27_28 {d : Nat} (hd : 5 ≤ d) (w : qW) (hI : yInv zgf zga zra zSp w) : qG none d 101 0 [(2, 24), (2, 27), (2, 28), (9, 0), (9, 0), (9, 0), (9, 0), (9, 0), (9, 0), (9, 0), (9, 0), (9, 0), (9, 0), (9, 0)] [] w 142 (fun (r : qV) (w1 : qW) (n1 : Nat) => r = (9, 0) ∧ n1 = 142 ∧ AW [28] w w1) := by
  generalize hQ9 : (fun (r : qV) (w1 : qW) (n1 : Nat) => r = (9, 0) ∧ n1 = 142 ∧ AW [28] w w1) = Q9
  obtain ⟨N5, hN5⟩ : ∃ N : Int, N = 540 := ⟨_, rfl⟩
  obtain ⟨d, rfl⟩ : ∃ d9, d = d9 + 1 := ⟨d - 1, by omega⟩
  refine qG.blk 8 (pc' := 11) (ls' := [(2, 24), (2, 27), (2, 28), (1, 0), (9, 0), (1, 0), (9, 0), (1, 0), (9, 0), (0, 0), (9, 0), (9, 0), (9, 0), (9, 0)]) (st' := []) (w' := w) (n' := 142) rfl ?_
  have L11 : ∀ (m9 : Nat) (g : Nat) (a b c : Int) (l10 l12 l13 : qV), 3 - g = m9 → (g ≤ 3 ∧ qi64 a ∧ qi64 b ∧ qi64 c) → qG none (d + 1) 101 11 [(2, 24), (2, 27), (2, 28), (1, a), (9, 0), (1, b), (9, 0), (1, c), (9, 0), (0, ((g : Nat) : Int)), l10, (9, 0), l12, l13] [] w 142 Q9 := by
    intro m9
    induction m9 using Nat.strongRecOn with
    | ind m9 ih11 =>
    intro g a b c l10 l12 l13 hm11 hI11
    obtain ⟨hg3, ha, hb, hc⟩ := hI11
    refine qG.blk 2 (pc' := 14) (ls' := [(2, 24), (2, 27), (2, 28), (1, a), (9, 0), (1, b), (9, 0), (1, c), (9, 0), (0, ((g : Nat) : Int)), l10, (9, 0), l12, l13]) (st' := [(0, 3), (0, ((g : Nat) : Int))]) (w' := w) (n' := 142) rfl ?_
    refine qG.br (P := ((g : Nat) : Int) < 3) (pc1 := 17) (pc2 := 138) (st1 := []) rfl (fun hg => ?_) (fun hg => ?_)
    · skip
      refine qG.blk 3 (pc' := 21) (ls' := [(2, 24), (2, 27), (2, 28), (1, a), (9, 0), (1, b), (9, 0), (1, c), (9, 0), (0, ((g : Nat) : Int)), l10, (9, 0), l12, l13]) (st' := [(0, 3), (0, ((g : Nat) : Int))]) (w' := w) (n' := 142) rfl ?_
      refine qG.br (P := ((g : Nat) : Int) < 3) (pc1 := 24) (pc2 := 138) (st1 := []) rfl (fun hgl => ?_) (fun hgl => ?_)
      · skip
        refine qG.blk 2 (pc' := 27) (ls' := [(2, 24), (2, 27), (2, 28), (1, a), (9, 0), (1, b), (9, 0), (1, c), (9, 0), (0, ((g : Nat) : Int)), l10, (9, 0), l12, l13]) (st' := [(0, ((g : Nat) : Int)), (2, 27)]) (w' := w) (n' := 142) rfl ?_
        refine qG.ar (P := 0 ≤ ((g : Nat) : Int) ∧ ((g : Nat) : Int) < ((3 : Nat) : Int)) (P2 := 0 < (27 : Int) ∧ (27 : Int) ≤ ((142 : Nat) : Int)) (pc' := 28) (ls' := [(2, 24), (2, 27), (2, 28), (1, a), (9, 0), (1, b), (9, 0), (1, c), (9, 0), (0, ((g : Nat) : Int)), l10, (9, 0), l12, l13]) (st' := [(1, w 27 g)]) (w' := w) (n' := 142) rfl (by omega) (by decide) ?_
        refine qG.blk 3 (pc' := 33) (ls' := [(2, 24), (2, 27), (2, 28), (1, a), (9, 0), (1, b), (9, 0), (1, c), (9, 0), (0, ((g : Nat) : Int)), (1, w 27 g), (9, 0), (0, 0), l13]) (st' := []) (w' := w) (n' := 142) rfl ?_
        have L33 : ∀ (m9 : Nat) (i : Nat) (a b c x : Int) (l13 : qV), 64 - i = m9 → (i ≤ 64 ∧ qi64 a ∧ qi64 b ∧ qi64 c ∧ qi64 x) → qG none (d + 1) 101 33 [(2, 24), (2, 27), (2, 28), (1, a), (9, 0), (1, b), (9, 0), (1, c), (9, 0), (0, ((g : Nat) : Int)), (1, x), (9, 0), (0, ((i : Nat) : Int)), l13] [] w 142 Q9 := by
          intro m9
          induction m9 using Nat.strongRecOn with
          | ind m9 ih33 =>
          intro i a b c x l13 hm33 hI33
          obtain ⟨hi64, ha, hb, hc, hx⟩ := hI33
          refine qG.blk 2 (pc' := 37) (ls' := [(2, 24), (2, 27), (2, 28), (1, a), (9, 0), (1, b), (9, 0), (1, c), (9, 0), (0, ((g : Nat) : Int)), (1, x), (9, 0), (0, ((i : Nat) : Int)), l13]) (st' := [(0, 64), (0, ((i : Nat) : Int))]) (w' := w) (n' := 142) rfl ?_
          refine qG.br (P := ((i : Nat) : Int) < 64) (pc1 := 40) (pc2 := 132) (st1 := []) rfl (fun hi65 => ?_) (fun hi65 => ?_)
          · skip
            refine qG.blk 3 (pc' := 44) (ls' := [(2, 24), (2, 27), (2, 28), (1, a), (9, 0), (1, b), (9, 0), (1, c), (9, 0), (0, ((g : Nat) : Int)), (1, x), (9, 0), (0, ((i : Nat) : Int)), l13]) (st' := [(0, qcmp x 0)]) (w' := w) (n' := 142) rfl ?_
            refine qG.br (P := qcmp x 0 = 0) (pc1 := 132) (pc2 := 47) (st1 := []) rfl (fun hx0 => ?_) (fun hx0 => ?_)
            · skip
              refine qG.blk 1 (pc' := 135) (ls' := [(2, 24), (2, 27), (2, 28), (1, a), (9, 0), (1, b), (9, 0), (1, c), (9, 0), (0, wrp (((g : Nat) : Int) + 1)), (1, x), (9, 0), (0, ((i : Nat) : Int)), l13]) (st' := []) (w' := w) (n' := 142) rfl ?_
              rw [show wrp (((g : Nat) : Int) + 1) = ((g + 1 : Nat) : Int) from wrp_id (by omega) (by omega)]
              refine qG.blk 1 (pc' := 11) (ls' := [(2, 24), (2, 27), (2, 28), (1, a), (9, 0), (1, b), (9, 0), (1, c), (9, 0), (0, ((g + 1 : Nat) : Int)), (1, x), (9, 0), (0, ((i : Nat) : Int)), l13]) (st' := []) (w' := w) (n' := 142) rfl ?_
              exact ih11 _ (by omega) (g + 1) (a) (b) (c) ((1, x)) ((0, ((i : Nat) : Int))) (l13) rfl (⟨by omega, ha, hb, hc⟩)
            · skip
              refine qG.blk 4 (pc' := 53) (ls' := [(2, 24), (2, 27), (2, 28), (1, a), (9, 0), (1, b), (9, 0), (1, c), (9, 0), (0, ((g : Nat) : Int)), (1, x), (9, 0), (0, ((i : Nat) : Int)), l13]) (st' := [(0, wrp (64 * ((g : Nat) : Int))), (0, 3)]) (w' := w) (n' := 142) rfl ?_
              rw [show wrp (64 * ((g : Nat) : Int)) = ((64 * g : Nat) : Int) from by rw [wrp_id (by omega) (by omega)]; omega]
              refine qG.blk 1 (pc' := 55) (ls' := [(2, 24), (2, 27), (2, 28), (1, a), (9, 0), (1, b), (9, 0), (1, c), (9, 0), (0, ((g : Nat) : Int)), (1, x), (9, 0), (0, ((i : Nat) : Int)), l13]) (st' := [(1, x), (0, ((64 * g : Nat) : Int)), (0, 3)]) (w' := w) (n' := 142) rfl ?_
              refine qG.call (t := 303) (na := 1) (sk := 0) (md := 0) (ls1 := [(1, x), (9, 0), (9, 0)]) (r1 := [(0, ((64 * g : Nat) : Int)), (0, 3)]) rfl rfl rfl rfl rfl (AW.use (c := C_nTZL.2) (as := [(1, x)]) (m := []) T_nTZL (AW.rf hI) (show 2 ≤ d by omega) ⟨⟨rfl, i64l hx, i64u hx⟩, trivial⟩ rfl rfl (by decide +kernel)) ?_
              rintro _ w7 _ ⟨x7, rfl, hl7, hu7, hA7, rfl, -⟩
              have e7 := hA7.nilz
              rw [e7]
              have hl7 : (0 : Int) ≤ x7 := hl7
              have hu7 : x7 ≤ (64 : Int) := hu7
              obtain ⟨s, rfl⟩ : ∃ s : Nat, x7 = (s : Int) := ⟨x7.toNat, by omega⟩
              show qG none (d + 1) 101 58 [(2, 24), (2, 27), (2, 28), (1, a), (9, 0), (1, b), (9, 0), (1, c), (9, 0), (0, ((g : Nat) : Int)), (1, x), (9, 0), (0, ((i : Nat) : Int)), l13] [(0, ((s : Nat) : Int)), (0, ((64 * g : Nat) : Int)), (0, 3)] w 142 Q9
              refine qG.blk 1 (pc' := 59) (ls' := [(2, 24), (2, 27), (2, 28), (1, a), (9, 0), (1, b), (9, 0), (1, c), (9, 0), (0, ((g : Nat) : Int)), (1, x), (9, 0), (0, ((i : Nat) : Int)), l13]) (st' := [(0, wrp (((64 * g : Nat) : Int) + ((s : Nat) : Int))), (0, 3)]) (w' := w) (n' := 142) rfl ?_
              rw [show wrp (((64 * g : Nat) : Int) + ((s : Nat) : Int)) = ((64 * g + s : Nat) : Int) from by rw [wrp_id (by omega) (by omega)]; omega]
              refine qG.blk 1 (pc' := 60) (ls' := [(2, 24), (2, 27), (2, 28), (1, a), (9, 0), (1, b), (9, 0), (1, c), (9, 0), (0, ((g : Nat) : Int)), (1, x), (9, 0), (0, ((i : Nat) : Int)), l13]) (st' := [(0, wrp (3 * ((64 * g + s : Nat) : Int)))]) (w' := w) (n' := 142) rfl ?_
              rw [show wrp (3 * ((64 * g + s : Nat) : Int)) = ((3 * (64 * g + s) : Nat) : Int) from by rw [wrp_id (by omega) (by omega)]; omega]
              refine qG.blk 5 (pc' := 68) (ls' := [(2, 24), (2, 27), (2, 28), (1, a), (9, 0), (1, b), (9, 0), (1, c), (9, 0), (0, ((g : Nat) : Int)), (1, x), (9, 0), (0, ((i : Nat) : Int)), (0, ((3 * (64 * g + s) : Nat) : Int))]) (st' := [(1, wrl (x - 1)), (1, x)]) (w' := w) (n' := 142) rfl ?_
              refine qG.blk 3 (pc' := 73) (ls' := [(2, 24), (2, 27), (2, 28), (1, a), (9, 0), (1, b), (9, 0), (1, c), (9, 0), (0, ((g : Nat) : Int)), (1, qland x (wrl (x - 1))), (9, 0), (0, ((i : Nat) : Int)), (0, ((3 * (64 * g + s) : Nat) : Int))]) (st' := [(0, ((3 * (64 * g + s) : Nat) : Int))]) (w' := w) (n' := 142) rfl ?_
              refine qG.br (P := ((3 * (64 * g + s) : Nat) : Int) < 0) (pc1 := 126) (pc2 := 76) (st1 := []) rfl (fun hr0 => ?_) (fun hr0 => ?_)
              · exfalso; omega
              · skip
                refine qG.blk 3 (pc' := 80) (ls' := [(2, 24), (2, 27), (2, 28), (1, a), (9, 0), (1, b), (9, 0), (1, c), (9, 0), (0, ((g : Nat) : Int)), (1, qland x (wrl (x - 1))), (9, 0), (0, ((i : Nat) : Int)), (0, ((3 * (64 * g + s) : Nat) : Int))]) (st' := [(0, wrp (((3 * (64 * g + s) : Nat) : Int) + 2))]) (w' := w) (n' := 142) rfl ?_
                rw [show wrp (((3 * (64 * g + s) : Nat) : Int) + 2) = ((3 * (64 * g + s) + 2 : Nat) : Int) from by rw [wrp_id (by omega) (by omega)]; omega]
                refine qG.blk 2 (pc' := 84) (ls' := [(2, 24), (2, 27), (2, 28), (1, a), (9, 0), (1, b), (9, 0), (1, c), (9, 0), (0, ((g : Nat) : Int)), (1, qland x (wrl (x - 1))), (9, 0), (0, ((i : Nat) : Int)), (0, ((3 * (64 * g + s) : Nat) : Int))]) (st' := [(2, w 24 5), (0, ((3 * (64 * g + s) + 2 : Nat) : Int))]) (w' := w) (n' := 142) rfl ?_
                rw [show w 24 5 = 26 from zrefz hI rfl rfl]
                refine qG.blk 1 (pc' := 85) (ls' := [(2, 24), (2, 27), (2, 28), (1, a), (9, 0), (1, b), (9, 0), (1, c), (9, 0), (0, ((g : Nat) : Int)), (1, qland x (wrl (x - 1))), (9, 0), (0, ((i : Nat) : Int)), (0, ((3 * (64 * g + s) : Nat) : Int))]) (st' := [(0, 540), (0, ((3 * (64 * g + s) + 2 : Nat) : Int))]) (w' := w) (n' := 142) rfl ?_
                rw [show (540 : Int) = N5 from hN5.symm]
                refine qG.br (P := ((3 * (64 * g + s) + 2 : Nat) : Int) < N5) (pc1 := 88) (pc2 := 126) (st1 := []) rfl (fun h540 => ?_) (fun h540 => ?_)
                · skip
                  refine qG.blk 3 (pc' := 93) (ls' := [(2, 24), (2, 27), (2, 28), (1, a), (9, 0), (1, b), (9, 0), (1, c), (9, 0), (0, ((g : Nat) : Int)), (1, qland x (wrl (x - 1))), (9, 0), (0, ((i : Nat) : Int)), (0, ((3 * (64 * g + s) : Nat) : Int))]) (st' := [(2, w 24 5), (1, a)]) (w' := w) (n' := 142) rfl ?_
                  rw [show w 24 5 = 26 from zrefz hI rfl rfl]
                  refine qG.blk 1 (pc' := 95) (ls' := [(2, 24), (2, 27), (2, 28), (1, a), (9, 0), (1, b), (9, 0), (1, c), (9, 0), (0, ((g : Nat) : Int)), (1, qland x (wrl (x - 1))), (9, 0), (0, ((i : Nat) : Int)), (0, ((3 * (64 * g + s) : Nat) : Int))]) (st' := [(0, ((3 * (64 * g + s) : Nat) : Int)), (2, 26), (1, a)]) (w' := w) (n' := 142) rfl ?_
                  refine qG.lldz (m := 540) rfl rfl (by omega) (by decide) ?_
                  show qG none (d + 1) 101 96 [(2, 24), (2, 27), (2, 28), (1, a), (9, 0), (1, b), (9, 0), (1, c), (9, 0), (0, ((g : Nat) : Int)), (1, qland x (wrl (x - 1))), (9, 0), (0, ((i : Nat) : Int)), (0, ((3 * (64 * g + s) : Nat) : Int))] [(1, w 26 (3 * (64 * g + s))), (1, a)] w 142 Q9
                  refine qG.blk 5 (pc' := 104) (ls' := [(2, 24), (2, 27), (2, 28), (1, qlor a (w 26 (3 * (64 * g + s)))), (9, 0), (1, b), (9, 0), (1, c), (9, 0), (0, ((g : Nat) : Int)), (1, qland x (wrl (x - 1))), (9, 0), (0, ((i : Nat) : Int)), (0, ((3 * (64 * g + s) : Nat) : Int))]) (st' := [(2, w 24 5), (1, b)]) (w' := w) (n' := 142) rfl ?_
                  rw [show w 24 5 = 26 from zrefz hI rfl rfl]
                  refine qG.blk 3 (pc' := 108) (ls' := [(2, 24), (2, 27), (2, 28), (1, qlor a (w 26 (3 * (64 * g + s)))), (9, 0), (1, b), (9, 0), (1, c), (9, 0), (0, ((g : Nat) : Int)), (1, qland x (wrl (x - 1))), (9, 0), (0, ((i : Nat) : Int)), (0, ((3 * (64 * g + s) : Nat) : Int))]) (st' := [(0, wrp (((3 * (64 * g + s) : Nat) : Int) + 1)), (2, 26), (1, b)]) (w' := w) (n' := 142) rfl ?_
                  rw [show wrp (((3 * (64 * g + s) : Nat) : Int) + 1) = ((3 * (64 * g + s) + 1 : Nat) : Int) from by rw [wrp_id (by omega) (by omega)]; omega]
                  refine qG.lldz (m := 540) rfl rfl (by omega) (by decide) ?_
                  show qG none (d + 1) 101 109 [(2, 24), (2, 27), (2, 28), (1, qlor a (w 26 (3 * (64 * g + s)))), (9, 0), (1, b), (9, 0), (1, c), (9, 0), (0, ((g : Nat) : Int)), (1, qland x (wrl (x - 1))), (9, 0), (0, ((i : Nat) : Int)), (0, ((3 * (64 * g + s) : Nat) : Int))] [(1, w 26 (3 * (64 * g + s) + 1)), (1, b)] w 142 Q9
                  refine qG.blk 5 (pc' := 118) (ls' := [(2, 24), (2, 27), (2, 28), (1, qlor a (w 26 (3 * (64 * g + s)))), (9, 0), (1, qlor b (w 26 (3 * (64 * g + s) + 1))), (9, 0), (1, c), (9, 0), (0, ((g : Nat) : Int)), (1, qland x (wrl (x - 1))), (9, 0), (0, ((i : Nat) : Int)), (0, ((3 * (64 * g + s) : Nat) : Int))]) (st' := [(2, w 24 5), (1, c)]) (w' := w) (n' := 142) rfl ?_
                  rw [show w 24 5 = 26 from zrefz hI rfl rfl]
                  refine qG.blk 3 (pc' := 122) (ls' := [(2, 24), (2, 27), (2, 28), (1, qlor a (w 26 (3 * (64 * g + s)))), (9, 0), (1, qlor b (w 26 (3 * (64 * g + s) + 1))), (9, 0), (1, c), (9, 0), (0, ((g : Nat) : Int)), (1, qland x (wrl (x - 1))), (9, 0), (0, ((i : Nat) : Int)), (0, ((3 * (64 * g + s) : Nat) : Int))]) (st' := [(0, wrp (((3 * (64 * g + s) : Nat) : Int) + 2)), (2, 26), (1, c)]) (w' := w) (n' := 142) rfl ?_
                  rw [show wrp (((3 * (64 * g + s) : Nat) : Int) + 2) = ((3 * (64 * g + s) + 2 : Nat) : Int) from by rw [wrp_id (by omega) (by omega)]; omega]
                  refine qG.lldz (m := 540) rfl rfl (by omega) (by decide) ?_
                  show qG none (d + 1) 101 123 [(2, 24), (2, 27), (2, 28), (1, qlor a (w 26 (3 * (64 * g + s)))), (9, 0), (1, qlor b (w 26 (3 * (64 * g + s) + 1))), (9, 0), (1, c), (9, 0), (0, ((g : Nat) : Int)), (1, qland x (wrl (x - 1))), (9, 0), (0, ((i : Nat) : Int)), (0, ((3 * (64 * g + s) : Nat) : Int))] [(1, w 26 (3 * (64 * g + s) + 2)), (1, c)] w 142 Q9
                  refine qG.blk 3 (pc' := 129) (ls' := [(2, 24), (2, 27), (2, 28), (1, qlor a (w 26 (3 * (64 * g + s)))), (9, 0), (1, qlor b (w 26 (3 * (64 * g + s) + 1))), (9, 0), (1, qlor c (w 26 (3 * (64 * g + s) + 2))), (9, 0), (0, ((g : Nat) : Int)), (1, qland x (wrl (x - 1))), (9, 0), (0, wrp (((i : Nat) : Int) + 1)), (0, ((3 * (64 * g + s) : Nat) : Int))]) (st' := []) (w' := w) (n' := 142) rfl ?_
                  rw [show wrp (((i : Nat) : Int) + 1) = ((i + 1 : Nat) : Int) from wrp_id (by omega) (by omega)]
                  refine qG.blk 1 (pc' := 33) (ls' := [(2, 24), (2, 27), (2, 28), (1, qlor a (w 26 (3 * (64 * g + s)))), (9, 0), (1, qlor b (w 26 (3 * (64 * g + s) + 1))), (9, 0), (1, qlor c (w 26 (3 * (64 * g + s) + 2))), (9, 0), (0, ((g : Nat) : Int)), (1, qland x (wrl (x - 1))), (9, 0), (0, ((i + 1 : Nat) : Int)), (0, ((3 * (64 * g + s) : Nat) : Int))]) (st' := []) (w' := w) (n' := 142) rfl ?_
                  exact ih33 _ (by omega) (i + 1) (qlor a (w 26 (3 * (64 * g + s)))) (qlor b (w 26 (3 * (64 * g + s) + 1))) (qlor c (w 26 (3 * (64 * g + s) + 2))) (qland x (wrl (x - 1))) ((0, ((3 * (64 * g + s) : Nat) : Int))) rfl (⟨by omega, by first | exact ha | exact qlorz _ _, by first | exact hb | exact qlorz _ _, by first | exact hc | exact qlorz _ _, qlandz _ _⟩)
                · skip
                  refine qG.blk 1 (pc' := 129) (ls' := [(2, 24), (2, 27), (2, 28), (1, a), (9, 0), (1, b), (9, 0), (1, c), (9, 0), (0, ((g : Nat) : Int)), (1, qland x (wrl (x - 1))), (9, 0), (0, wrp (((i : Nat) : Int) + 1)), (0, ((3 * (64 * g + s) : Nat) : Int))]) (st' := []) (w' := w) (n' := 142) rfl ?_
                  rw [show wrp (((i : Nat) : Int) + 1) = ((i + 1 : Nat) : Int) from wrp_id (by omega) (by omega)]
                  refine qG.blk 1 (pc' := 33) (ls' := [(2, 24), (2, 27), (2, 28), (1, a), (9, 0), (1, b), (9, 0), (1, c), (9, 0), (0, ((g : Nat) : Int)), (1, qland x (wrl (x - 1))), (9, 0), (0, ((i + 1 : Nat) : Int)), (0, ((3 * (64 * g + s) : Nat) : Int))]) (st' := []) (w' := w) (n' := 142) rfl ?_
                  exact ih33 _ (by omega) (i + 1) (a) (b) (c) (qland x (wrl (x - 1))) ((0, ((3 * (64 * g + s) : Nat) : Int))) rfl (⟨by omega, by first | exact ha | exact qlorz _ _, by first | exact hb | exact qlorz _ _, by first | exact hc | exact qlorz _ _, qlandz _ _⟩)
          · skip
            refine qG.blk 1 (pc' := 135) (ls' := [(2, 24), (2, 27), (2, 28), (1, a), (9, 0), (1, b), (9, 0), (1, c), (9, 0), (0, wrp (((g : Nat) : Int) + 1)), (1, x), (9, 0), (0, ((i : Nat) : Int)), l13]) (st' := []) (w' := w) (n' := 142) rfl ?_
            rw [show wrp (((g : Nat) : Int) + 1) = ((g + 1 : Nat) : Int) from wrp_id (by omega) (by omega)]
            refine qG.blk 1 (pc' := 11) (ls' := [(2, 24), (2, 27), (2, 28), (1, a), (9, 0), (1, b), (9, 0), (1, c), (9, 0), (0, ((g + 1 : Nat) : Int)), (1, x), (9, 0), (0, ((i : Nat) : Int)), l13]) (st' := []) (w' := w) (n' := 142) rfl ?_
            exact ih11 _ (by omega) (g + 1) (a) (b) (c) ((1, x)) ((0, ((i : Nat) : Int))) (l13) rfl (⟨by omega, ha, hb, hc⟩)
        exact L33 _ (0) (a) (b) (c) (w 27 g) (l13) rfl (⟨Nat.zero_le _, ha, hb, hc, arrz hI rfl rfl⟩)
      · exfalso; omega
    · skip
      refine qG.blk 4 (pc' := 144) (ls' := [(2, 24), (2, 27), (2, 28), (1, a), (9, 0), (1, b), (9, 0), (1, c), (9, 0), (0, ((g : Nat) : Int)), l10, (9, 0), l12, l13]) (st' := [(1, c), (1, b), (1, a), (2, 28)]) (w' := w) (n' := 142) rfl ?_
      refine qG.call (t := 105) (na := 4) (sk := 0) (md := 0) (ls1 := [(2, 28), (1, a), (9, 0), (1, b), (9, 0), (1, c), (9, 0)]) (r1 := []) rfl rfl rfl rfl rfl (AW.use (c := C_putRow28.2) (as := [(2, 28), (1, a), (1, b), (1, c)]) (m := [28]) T_putRow28 (AW.rf hI) (show 1 ≤ d by omega) ⟨⟨rfl, by decide, by decide⟩, ⟨rfl, i64l ha, i64u ha⟩, ⟨rfl, i64l hb, i64u hb⟩, ⟨rfl, i64l hc, i64u hc⟩, trivial⟩ rfl rfl (by decide +kernel)) ?_
      rintro _ w0 _ ⟨x7, rfl, -, -, hA7, rfl, -⟩
      show qG none (d + 1) 101 147 [(2, 24), (2, 27), (2, 28), (1, a), (9, 0), (1, b), (9, 0), (1, c), (9, 0), (0, ((g : Nat) : Int)), l10, (9, 0), l12, l13] [] w0 142 Q9
      refine qG.retv rfl rfl ?_
      subst hQ9
      exact ⟨rfl, rfl, hA7⟩
  exact L11 _ (0) (0) (0) (0) ((9, 0)) ((9, 0)) ((9, 0)) rfl (⟨Nat.zero_le _, ⟨by decide, by decide⟩, ⟨by decide, by decide⟩, ⟨by decide, by decide⟩⟩)
noncomputable def C_spread_27_28 : Nat × yC := (101, (5, [(2, 24, 24), (2, 27, 27), (2, 28, 28)], (9, 0, 0), [28], [], [], [], 0, []))
theorem T_spread_27_28 {w0 : qW} : yCOK w0 zgf zga zra zSp zgh C_spread_27_28.1 C_spread_27_28.2 := by
  intro d as w hd hm hI hn hp
  have e : as = [(2, 24), (2, 27), (2, 28)] := args3r hm
  subst e
  refine qG.mono (K_spreadZ27_28 hd w hI) ?_
  rintro _ w' _ ⟨rfl, rfl, hA⟩
  exact ⟨⟨rfl, Int.le_refl 0, Int.le_refl 0⟩, hA.1, rfl, hA.2, fun e he => (by cases he), fun z => (by cases z)⟩
theorem K_spreadZ28_27 {d : Nat} (hd : 5 ≤ d) (w : qW) (hI : yInv zgf zga zra zSp w) : qG none d 101 0 [(2, 24), (2, 28), (2, 27), (9, 0), (9, 0), (9, 0), (9, 0), (9, 0), (9, 0), (9, 0), (9, 0), (9, 0), (9, 0), (9, 0)] [] w 142 (fun (r : qV) (w1 : qW) (n1 : Nat) => r = (9, 0) ∧ n1 = 142 ∧ AW [27] w w1) := by
  generalize hQ9 : (fun (r : qV) (w1 : qW) (n1 : Nat) => r = (9, 0) ∧ n1 = 142 ∧ AW [27] w w1) = Q9
  obtain ⟨N5, hN5⟩ : ∃ N : Int, N = 540 := ⟨_, rfl⟩
  obtain ⟨d, rfl⟩ : ∃ d9, d = d9 + 1 := ⟨d - 1, by omega⟩
  refine qG.blk 8 (pc' := 11) (ls' := [(2, 24), (2, 28), (2, 27), (1, 0), (9, 0), (1, 0), (9, 0), (1, 0), (9, 0), (0, 0), (9, 0), (9, 0), (9, 0), (9, 0)]) (st' := []) (w' := w) (n' := 142) rfl ?_
  have L11 : ∀ (m9 : Nat) (g : Nat) (a b c : Int) (l10 l12 l13 : qV), 3 - g = m9 → (g ≤ 3 ∧ qi64 a ∧ qi64 b ∧ qi64 c) → qG none (d + 1) 101 11 [(2, 24), (2, 28), (2, 27), (1, a), (9, 0), (1, b), (9, 0), (1, c), (9, 0), (0, ((g : Nat) : Int)), l10, (9, 0), l12, l13] [] w 142 Q9 := by
    intro m9
    induction m9 using Nat.strongRecOn with
    | ind m9 ih11 =>
    intro g a b c l10 l12 l13 hm11 hI11
    obtain ⟨hg3, ha, hb, hc⟩ := hI11
    refine qG.blk 2 (pc' := 14) (ls' := [(2, 24), (2, 28), (2, 27), (1, a), (9, 0), (1, b), (9, 0), (1, c), (9, 0), (0, ((g : Nat) : Int)), l10, (9, 0), l12, l13]) (st' := [(0, 3), (0, ((g : Nat) : Int))]) (w' := w) (n' := 142) rfl ?_
    refine qG.br (P := ((g : Nat) : Int) < 3) (pc1 := 17) (pc2 := 138) (st1 := []) rfl (fun hg => ?_) (fun hg => ?_)
    · skip
      refine qG.blk 3 (pc' := 21) (ls' := [(2, 24), (2, 28), (2, 27), (1, a), (9, 0), (1, b), (9, 0), (1, c), (9, 0), (0, ((g : Nat) : Int)), l10, (9, 0), l12, l13]) (st' := [(0, 3), (0, ((g : Nat) : Int))]) (w' := w) (n' := 142) rfl ?_
      refine qG.br (P := ((g : Nat) : Int) < 3) (pc1 := 24) (pc2 := 138) (st1 := []) rfl (fun hgl => ?_) (fun hgl => ?_)
      · skip
        refine qG.blk 2 (pc' := 27) (ls' := [(2, 24), (2, 28), (2, 27), (1, a), (9, 0), (1, b), (9, 0), (1, c), (9, 0), (0, ((g : Nat) : Int)), l10, (9, 0), l12, l13]) (st' := [(0, ((g : Nat) : Int)), (2, 28)]) (w' := w) (n' := 142) rfl ?_
        refine qG.ar (P := 0 ≤ ((g : Nat) : Int) ∧ ((g : Nat) : Int) < ((3 : Nat) : Int)) (P2 := 0 < (28 : Int) ∧ (28 : Int) ≤ ((142 : Nat) : Int)) (pc' := 28) (ls' := [(2, 24), (2, 28), (2, 27), (1, a), (9, 0), (1, b), (9, 0), (1, c), (9, 0), (0, ((g : Nat) : Int)), l10, (9, 0), l12, l13]) (st' := [(1, w 28 g)]) (w' := w) (n' := 142) rfl (by omega) (by decide) ?_
        refine qG.blk 3 (pc' := 33) (ls' := [(2, 24), (2, 28), (2, 27), (1, a), (9, 0), (1, b), (9, 0), (1, c), (9, 0), (0, ((g : Nat) : Int)), (1, w 28 g), (9, 0), (0, 0), l13]) (st' := []) (w' := w) (n' := 142) rfl ?_
        have L33 : ∀ (m9 : Nat) (i : Nat) (a b c x : Int) (l13 : qV), 64 - i = m9 → (i ≤ 64 ∧ qi64 a ∧ qi64 b ∧ qi64 c ∧ qi64 x) → qG none (d + 1) 101 33 [(2, 24), (2, 28), (2, 27), (1, a), (9, 0), (1, b), (9, 0), (1, c), (9, 0), (0, ((g : Nat) : Int)), (1, x), (9, 0), (0, ((i : Nat) : Int)), l13] [] w 142 Q9 := by
          intro m9
          induction m9 using Nat.strongRecOn with
          | ind m9 ih33 =>
          intro i a b c x l13 hm33 hI33
          obtain ⟨hi64, ha, hb, hc, hx⟩ := hI33
          refine qG.blk 2 (pc' := 37) (ls' := [(2, 24), (2, 28), (2, 27), (1, a), (9, 0), (1, b), (9, 0), (1, c), (9, 0), (0, ((g : Nat) : Int)), (1, x), (9, 0), (0, ((i : Nat) : Int)), l13]) (st' := [(0, 64), (0, ((i : Nat) : Int))]) (w' := w) (n' := 142) rfl ?_
          refine qG.br (P := ((i : Nat) : Int) < 64) (pc1 := 40) (pc2 := 132) (st1 := []) rfl (fun hi65 => ?_) (fun hi65 => ?_)
          · skip
            refine qG.blk 3 (pc' := 44) (ls' := [(2, 24), (2, 28), (2, 27), (1, a), (9, 0), (1, b), (9, 0), (1, c), (9, 0), (0, ((g : Nat) : Int)), (1, x), (9, 0), (0, ((i : Nat) : Int)), l13]) (st' := [(0, qcmp x 0)]) (w' := w) (n' := 142) rfl ?_
            refine qG.br (P := qcmp x 0 = 0) (pc1 := 132) (pc2 := 47) (st1 := []) rfl (fun hx0 => ?_) (fun hx0 => ?_)
            · skip
              refine qG.blk 1 (pc' := 135) (ls' := [(2, 24), (2, 28), (2, 27), (1, a), (9, 0), (1, b), (9, 0), (1, c), (9, 0), (0, wrp (((g : Nat) : Int) + 1)), (1, x), (9, 0), (0, ((i : Nat) : Int)), l13]) (st' := []) (w' := w) (n' := 142) rfl ?_
              rw [show wrp (((g : Nat) : Int) + 1) = ((g + 1 : Nat) : Int) from wrp_id (by omega) (by omega)]
              refine qG.blk 1 (pc' := 11) (ls' := [(2, 24), (2, 28), (2, 27), (1, a), (9, 0), (1, b), (9, 0), (1, c), (9, 0), (0, ((g + 1 : Nat) : Int)), (1, x), (9, 0), (0, ((i : Nat) : Int)), l13]) (st' := []) (w' := w) (n' := 142) rfl ?_
              exact ih11 _ (by omega) (g + 1) (a) (b) (c) ((1, x)) ((0, ((i : Nat) : Int))) (l13) rfl (⟨by omega, ha, hb, hc⟩)
            · skip
              refine qG.blk 4 (pc' := 53) (ls' := [(2, 24), (2, 28), (2, 27), (1, a), (9, 0), (1, b), (9, 0), (1, c), (9, 0), (0, ((g : Nat) : Int)), (1, x), (9, 0), (0, ((i : Nat) : Int)), l13]) (st' := [(0, wrp (64 * ((g : Nat) : Int))), (0, 3)]) (w' := w) (n' := 142) rfl ?_
              rw [show wrp (64 * ((g : Nat) : Int)) = ((64 * g : Nat) : Int) from by rw [wrp_id (by omega) (by omega)]; omega]
              refine qG.blk 1 (pc' := 55) (ls' := [(2, 24), (2, 28), (2, 27), (1, a), (9, 0), (1, b), (9, 0), (1, c), (9, 0), (0, ((g : Nat) : Int)), (1, x), (9, 0), (0, ((i : Nat) : Int)), l13]) (st' := [(1, x), (0, ((64 * g : Nat) : Int)), (0, 3)]) (w' := w) (n' := 142) rfl ?_
              refine qG.call (t := 303) (na := 1) (sk := 0) (md := 0) (ls1 := [(1, x), (9, 0), (9, 0)]) (r1 := [(0, ((64 * g : Nat) : Int)), (0, 3)]) rfl rfl rfl rfl rfl (AW.use (c := C_nTZL.2) (as := [(1, x)]) (m := []) T_nTZL (AW.rf hI) (show 2 ≤ d by omega) ⟨⟨rfl, i64l hx, i64u hx⟩, trivial⟩ rfl rfl (by decide +kernel)) ?_
              rintro _ w7 _ ⟨x7, rfl, hl7, hu7, hA7, rfl, -⟩
              have e7 := hA7.nilz
              rw [e7]
              have hl7 : (0 : Int) ≤ x7 := hl7
              have hu7 : x7 ≤ (64 : Int) := hu7
              obtain ⟨s, rfl⟩ : ∃ s : Nat, x7 = (s : Int) := ⟨x7.toNat, by omega⟩
              show qG none (d + 1) 101 58 [(2, 24), (2, 28), (2, 27), (1, a), (9, 0), (1, b), (9, 0), (1, c), (9, 0), (0, ((g : Nat) : Int)), (1, x), (9, 0), (0, ((i : Nat) : Int)), l13] [(0, ((s : Nat) : Int)), (0, ((64 * g : Nat) : Int)), (0, 3)] w 142 Q9
              refine qG.blk 1 (pc' := 59) (ls' := [(2, 24), (2, 28), (2, 27), (1, a), (9, 0), (1, b), (9, 0), (1, c), (9, 0), (0, ((g : Nat) : Int)), (1, x), (9, 0), (0, ((i : Nat) : Int)), l13]) (st' := [(0, wrp (((64 * g : Nat) : Int) + ((s : Nat) : Int))), (0, 3)]) (w' := w) (n' := 142) rfl ?_
              rw [show wrp (((64 * g : Nat) : Int) + ((s : Nat) : Int)) = ((64 * g + s : Nat) : Int) from by rw [wrp_id (by omega) (by omega)]; omega]
              refine qG.blk 1 (pc' := 60) (ls' := [(2, 24), (2, 28), (2, 27), (1, a), (9, 0), (1, b), (9, 0), (1, c), (9, 0), (0, ((g : Nat) : Int)), (1, x), (9, 0), (0, ((i : Nat) : Int)), l13]) (st' := [(0, wrp (3 * ((64 * g + s : Nat) : Int)))]) (w' := w) (n' := 142) rfl ?_
              rw [show wrp (3 * ((64 * g + s : Nat) : Int)) = ((3 * (64 * g + s) : Nat) : Int) from by rw [wrp_id (by omega) (by omega)]; omega]
              refine qG.blk 5 (pc' := 68) (ls' := [(2, 24), (2, 28), (2, 27), (1, a), (9, 0), (1, b), (9, 0), (1, c), (9, 0), (0, ((g : Nat) : Int)), (1, x), (9, 0), (0, ((i : Nat) : Int)), (0, ((3 * (64 * g + s) : Nat) : Int))]) (st' := [(1, wrl (x - 1)), (1, x)]) (w' := w) (n' := 142) rfl ?_
              refine qG.blk 3 (pc' := 73) (ls' := [(2, 24), (2, 28), (2, 27), (1, a), (9, 0), (1, b), (9, 0), (1, c), (9, 0), (0, ((g : Nat) : Int)), (1, qland x (wrl (x - 1))), (9, 0), (0, ((i : Nat) : Int)), (0, ((3 * (64 * g + s) : Nat) : Int))]) (st' := [(0, ((3 * (64 * g + s) : Nat) : Int))]) (w' := w) (n' := 142) rfl ?_
              refine qG.br (P := ((3 * (64 * g + s) : Nat) : Int) < 0) (pc1 := 126) (pc2 := 76) (st1 := []) rfl (fun hr0 => ?_) (fun hr0 => ?_)
              · exfalso; omega
              · skip
                refine qG.blk 3 (pc' := 80) (ls' := [(2, 24), (2, 28), (2, 27), (1, a), (9, 0), (1, b), (9, 0), (1, c), (9, 0), (0, ((g : Nat) : Int)), (1, qland x (wrl (x - 1))), (9, 0), (0, ((i : Nat) : Int)), (0, ((3 * (64 * g + s) : Nat) : Int))]) (st' := [(0, wrp (((3 * (64 * g + s) : Nat) : Int) + 2))]) (w' := w) (n' := 142) rfl ?_
                rw [show wrp (((3 * (64 * g + s) : Nat) : Int) + 2) = ((3 * (64 * g + s) + 2 : Nat) : Int) from by rw [wrp_id (by omega) (by omega)]; omega]
                refine qG.blk 2 (pc' := 84) (ls' := [(2, 24), (2, 28), (2, 27), (1, a), (9, 0), (1, b), (9, 0), (1, c), (9, 0), (0, ((g : Nat) : Int)), (1, qland x (wrl (x - 1))), (9, 0), (0, ((i : Nat) : Int)), (0, ((3 * (64 * g + s) : Nat) : Int))]) (st' := [(2, w 24 5), (0, ((3 * (64 * g + s) + 2 : Nat) : Int))]) (w' := w) (n' := 142) rfl ?_
                rw [show w 24 5 = 26 from zrefz hI rfl rfl]
                refine qG.blk 1 (pc' := 85) (ls' := [(2, 24), (2, 28), (2, 27), (1, a), (9, 0), (1, b), (9, 0), (1, c), (9, 0), (0, ((g : Nat) : Int)), (1, qland x (wrl (x - 1))), (9, 0), (0, ((i : Nat) : Int)), (0, ((3 * (64 * g + s) : Nat) : Int))]) (st' := [(0, 540), (0, ((3 * (64 * g + s) + 2 : Nat) : Int))]) (w' := w) (n' := 142) rfl ?_
                rw [show (540 : Int) = N5 from hN5.symm]
                refine qG.br (P := ((3 * (64 * g + s) + 2 : Nat) : Int) < N5) (pc1 := 88) (pc2 := 126) (st1 := []) rfl (fun h540 => ?_) (fun h540 => ?_)
                · skip
                  refine qG.blk 3 (pc' := 93) (ls' := [(2, 24), (2, 28), (2, 27), (1, a), (9, 0), (1, b), (9, 0), (1, c), (9, 0), (0, ((g : Nat) : Int)), (1, qland x (wrl (x - 1))), (9, 0), (0, ((i : Nat) : Int)), (0, ((3 * (64 * g + s) : Nat) : Int))]) (st' := [(2, w 24 5), (1, a)]) (w' := w) (n' := 142) rfl ?_
                  rw [show w 24 5 = 26 from zrefz hI rfl rfl]
                  refine qG.blk 1 (pc' := 95) (ls' := [(2, 24), (2, 28), (2, 27), (1, a), (9, 0), (1, b), (9, 0), (1, c), (9, 0), (0, ((g : Nat) : Int)), (1, qland x (wrl (x - 1))), (9, 0), (0, ((i : Nat) : Int)), (0, ((3 * (64 * g + s) : Nat) : Int))]) (st' := [(0, ((3 * (64 * g + s) : Nat) : Int)), (2, 26), (1, a)]) (w' := w) (n' := 142) rfl ?_
                  refine qG.lldz (m := 540) rfl rfl (by omega) (by decide) ?_
                  show qG none (d + 1) 101 96 [(2, 24), (2, 28), (2, 27), (1, a), (9, 0), (1, b), (9, 0), (1, c), (9, 0), (0, ((g : Nat) : Int)), (1, qland x (wrl (x - 1))), (9, 0), (0, ((i : Nat) : Int)), (0, ((3 * (64 * g + s) : Nat) : Int))] [(1, w 26 (3 * (64 * g + s))), (1, a)] w 142 Q9
                  refine qG.blk 5 (pc' := 104) (ls' := [(2, 24), (2, 28), (2, 27), (1, qlor a (w 26 (3 * (64 * g + s)))), (9, 0), (1, b), (9, 0), (1, c), (9, 0), (0, ((g : Nat) : Int)), (1, qland x (wrl (x - 1))), (9, 0), (0, ((i : Nat) : Int)), (0, ((3 * (64 * g + s) : Nat) : Int))]) (st' := [(2, w 24 5), (1, b)]) (w' := w) (n' := 142) rfl ?_
                  rw [show w 24 5 = 26 from zrefz hI rfl rfl]
                  refine qG.blk 3 (pc' := 108) (ls' := [(2, 24), (2, 28), (2, 27), (1, qlor a (w 26 (3 * (64 * g + s)))), (9, 0), (1, b), (9, 0), (1, c), (9, 0), (0, ((g : Nat) : Int)), (1, qland x (wrl (x - 1))), (9, 0), (0, ((i : Nat) : Int)), (0, ((3 * (64 * g + s) : Nat) : Int))]) (st' := [(0, wrp (((3 * (64 * g + s) : Nat) : Int) + 1)), (2, 26), (1, b)]) (w' := w) (n' := 142) rfl ?_
                  rw [show wrp (((3 * (64 * g + s) : Nat) : Int) + 1) = ((3 * (64 * g + s) + 1 : Nat) : Int) from by rw [wrp_id (by omega) (by omega)]; omega]
                  refine qG.lldz (m := 540) rfl rfl (by omega) (by decide) ?_
                  show qG none (d + 1) 101 109 [(2, 24), (2, 28), (2, 27), (1, qlor a (w 26 (3 * (64 * g + s)))), (9, 0), (1, b), (9, 0), (1, c), (9, 0), (0, ((g : Nat) : Int)), (1, qland x (wrl (x - 1))), (9, 0), (0, ((i : Nat) : Int)), (0, ((3 * (64 * g + s) : Nat) : Int))] [(1, w 26 (3 * (64 * g + s) + 1)), (1, b)] w 142 Q9
                  refine qG.blk 5 (pc' := 118) (ls' := [(2, 24), (2, 28), (2, 27), (1, qlor a (w 26 (3 * (64 * g + s)))), (9, 0), (1, qlor b (w 26 (3 * (64 * g + s) + 1))), (9, 0), (1, c), (9, 0), (0, ((g : Nat) : Int)), (1, qland x (wrl (x - 1))), (9, 0), (0, ((i : Nat) : Int)), (0, ((3 * (64 * g + s) : Nat) : Int))]) (st' := [(2, w 24 5), (1, c)]) (w' := w) (n' := 142) rfl ?_
                  rw [show w 24 5 = 26 from zrefz hI rfl rfl]
                  refine qG.blk 3 (pc' := 122) (ls' := [(2, 24), (2, 28), (2, 27), (1, qlor a (w 26 (3 * (64 * g + s)))), (9, 0), (1, qlor b (w 26 (3 * (64 * g + s) + 1))), (9, 0), (1, c), (9, 0), (0, ((g : Nat) : Int)), (1, qland x (wrl (x - 1))), (9, 0), (0, ((i : Nat) : Int)), (0, ((3 * (64 * g + s) : Nat) : Int))]) (st' := [(0, wrp (((3 * (64 * g + s) : Nat) : Int) + 2)), (2, 26), (1, c)]) (w' := w) (n' := 142) rfl ?_
                  rw [show wrp (((3 * (64 * g + s) : Nat) : Int) + 2) = ((3 * (64 * g + s) + 2 : Nat) : Int) from by rw [wrp_id (by omega) (by omega)]; omega]
                  refine qG.lldz (m := 540) rfl rfl (by omega) (by decide) ?_
                  show qG none (d + 1) 101 123 [(2, 24), (2, 28), (2, 27), (1, qlor a (w 26 (3 * (64 * g + s)))), (9, 0), (1, qlor b (w 26 (3 * (64 * g + s) + 1))), (9, 0), (1, c), (9, 0), (0, ((g : Nat) : Int)), (1, qland x (wrl (x - 1))), (9, 0), (0, ((i : Nat) : Int)), (0, ((3 * (64 * g + s) : Nat) : Int))] [(1, w 26 (3 * (64 * g + s) + 2)), (1, c)] w 142 Q9
                  refine qG.blk 3 (pc' := 129) (ls' := [(2, 24), (2, 28), (2, 27), (1, qlor a (w 26 (3 * (64 * g + s)))), (9, 0), (1, qlor b (w 26 (3 * (64 * g + s) + 1))), (9, 0), (1, qlor c (w 26 (3 * (64 * g + s) + 2))), (9, 0), (0, ((g : Nat) : Int)), (1, qland x (wrl (x - 1))), (9, 0), (0, wrp (((i : Nat) : Int) + 1)), (0, ((3 * (64 * g + s) : Nat) : Int))]) (st' := []) (w' := w) (n' := 142) rfl ?_
                  rw [show wrp (((i : Nat) : Int) + 1) = ((i + 1 : Nat) : Int) from wrp_id (by omega) (by omega)]
                  refine qG.blk 1 (pc' := 33) (ls' := [(2, 24), (2, 28), (2, 27), (1, qlor a (w 26 (3 * (64 * g + s)))), (9, 0), (1, qlor b (w 26 (3 * (64 * g + s) + 1))), (9, 0), (1, qlor c (w 26 (3 * (64 * g + s) + 2))), (9, 0), (0, ((g : Nat) : Int)), (1, qland x (wrl (x - 1))), (9, 0), (0, ((i + 1 : Nat) : Int)), (0, ((3 * (64 * g + s) : Nat) : Int))]) (st' := []) (w' := w) (n' := 142) rfl ?_
                  exact ih33 _ (by omega) (i + 1) (qlor a (w 26 (3 * (64 * g + s)))) (qlor b (w 26 (3 * (64 * g + s) + 1))) (qlor c (w 26 (3 * (64 * g + s) + 2))) (qland x (wrl (x - 1))) ((0, ((3 * (64 * g + s) : Nat) : Int))) rfl (⟨by omega, by first | exact ha | exact qlorz _ _, by first | exact hb | exact qlorz _ _, by first | exact hc | exact qlorz _ _, qlandz _ _⟩)
                · skip
                  refine qG.blk 1 (pc' := 129) (ls' := [(2, 24), (2, 28), (2, 27), (1, a), (9, 0), (1, b), (9, 0), (1, c), (9, 0), (0, ((g : Nat) : Int)), (1, qland x (wrl (x - 1))), (9, 0), (0, wrp (((i : Nat) : Int) + 1)), (0, ((3 * (64 * g + s) : Nat) : Int))]) (st' := []) (w' := w) (n' := 142) rfl ?_
                  rw [show wrp (((i : Nat) : Int) + 1) = ((i + 1 : Nat) : Int) from wrp_id (by omega) (by omega)]
                  refine qG.blk 1 (pc' := 33) (ls' := [(2, 24), (2, 28), (2, 27), (1, a), (9, 0), (1, b), (9, 0), (1, c), (9, 0), (0, ((g : Nat) : Int)), (1, qland x (wrl (x - 1))), (9, 0), (0, ((i + 1 : Nat) : Int)), (0, ((3 * (64 * g + s) : Nat) : Int))]) (st' := []) (w' := w) (n' := 142) rfl ?_
                  exact ih33 _ (by omega) (i + 1) (a) (b) (c) (qland x (wrl (x - 1))) ((0, ((3 * (64 * g + s) : Nat) : Int))) rfl (⟨by omega, by first | exact ha | exact qlorz _ _, by first | exact hb | exact qlorz _ _, by first | exact hc | exact qlorz _ _, qlandz _ _⟩)
          · skip
            refine qG.blk 1 (pc' := 135) (ls' := [(2, 24), (2, 28), (2, 27), (1, a), (9, 0), (1, b), (9, 0), (1, c), (9, 0), (0, wrp (((g : Nat) : Int) + 1)), (1, x), (9, 0), (0, ((i : Nat) : Int)), l13]) (st' := []) (w' := w) (n' := 142) rfl ?_
            rw [show wrp (((g : Nat) : Int) + 1) = ((g + 1 : Nat) : Int) from wrp_id (by omega) (by omega)]
            refine qG.blk 1 (pc' := 11) (ls' := [(2, 24), (2, 28), (2, 27), (1, a), (9, 0), (1, b), (9, 0), (1, c), (9, 0), (0, ((g + 1 : Nat) : Int)), (1, x), (9, 0), (0, ((i : Nat) : Int)), l13]) (st' := []) (w' := w) (n' := 142) rfl ?_
            exact ih11 _ (by omega) (g + 1) (a) (b) (c) ((1, x)) ((0, ((i : Nat) : Int))) (l13) rfl (⟨by omega, ha, hb, hc⟩)
        exact L33 _ (0) (a) (b) (c) (w 28 g) (l13) rfl (⟨Nat.zero_le _, ha, hb, hc, arrz hI rfl rfl⟩)
      · exfalso; omega
    · skip
      refine qG.blk 4 (pc' := 144) (ls' := [(2, 24), (2, 28), (2, 27), (1, a), (9, 0), (1, b), (9, 0), (1, c), (9, 0), (0, ((g : Nat) : Int)), l10, (9, 0), l12, l13]) (st' := [(1, c), (1, b), (1, a), (2, 27)]) (w' := w) (n' := 142) rfl ?_
      refine qG.call (t := 105) (na := 4) (sk := 0) (md := 0) (ls1 := [(2, 27), (1, a), (9, 0), (1, b), (9, 0), (1, c), (9, 0)]) (r1 := []) rfl rfl rfl rfl rfl (AW.use (c := C_putRow27.2) (as := [(2, 27), (1, a), (1, b), (1, c)]) (m := [27]) T_putRow27 (AW.rf hI) (show 1 ≤ d by omega) ⟨⟨rfl, by decide, by decide⟩, ⟨rfl, i64l ha, i64u ha⟩, ⟨rfl, i64l hb, i64u hb⟩, ⟨rfl, i64l hc, i64u hc⟩, trivial⟩ rfl rfl (by decide +kernel)) ?_
      rintro _ w0 _ ⟨x7, rfl, -, -, hA7, rfl, -⟩
      show qG none (d + 1) 101 147 [(2, 24), (2, 28), (2, 27), (1, a), (9, 0), (1, b), (9, 0), (1, c), (9, 0), (0, ((g : Nat) : Int)), l10, (9, 0), l12, l13] [] w0 142 Q9
      refine qG.retv rfl rfl ?_
      subst hQ9
      exact ⟨rfl, rfl, hA7⟩
  exact L11 _ (0) (0) (0) (0) ((9, 0)) ((9, 0)) ((9, 0)) rfl (⟨Nat.zero_le _, ⟨by decide, by decide⟩, ⟨by decide, by decide⟩, ⟨by decide, by decide⟩⟩)
noncomputable def C_spread_28_27 : Nat × yC := (101, (5, [(2, 24, 24), (2, 28, 28), (2, 27, 27)], (9, 0, 0), [27], [], [], [], 0, []))
theorem T_spread_28_27 {w0 : qW} : yCOK w0 zgf zga zra zSp zgh C_spread_28_27.1 C_spread_28_27.2 := by
  intro d as w hd hm hI hn hp
  have e : as = [(2, 24), (2, 28), (2, 27)] := args3r hm
  subst e
  refine qG.mono (K_spreadZ28_27 hd w hI) ?_
  rintro _ w' _ ⟨rfl, rfl, hA⟩
  exact ⟨⟨rfl, Int.le_refl 0, Int.le_refl 0⟩, hA.1, rfl, hA.2, fun e he => (by cases he), fun z => (by cases z)⟩
theorem K_spreadZ34_27 {d : Nat} (hd : 5 ≤ d) (w : qW) (hI : yInv zgf zga zra zSp w) : qG none d 101 0 [(2, 24), (2, 34), (2, 27), (9, 0), (9, 0), (9, 0), (9, 0), (9, 0), (9, 0), (9, 0), (9, 0), (9, 0), (9, 0), (9, 0)] [] w 142 (fun (r : qV) (w1 : qW) (n1 : Nat) => r = (9, 0) ∧ n1 = 142 ∧ AW [27] w w1) := by
  generalize hQ9 : (fun (r : qV) (w1 : qW) (n1 : Nat) => r = (9, 0) ∧ n1 = 142 ∧ AW [27] w w1) = Q9
  obtain ⟨N5, hN5⟩ : ∃ N : Int, N = 540 := ⟨_, rfl⟩
  obtain ⟨d, rfl⟩ : ∃ d9, d = d9 + 1 := ⟨d - 1, by omega⟩
  refine qG.blk 8 (pc' := 11) (ls' := [(2, 24), (2, 34), (2, 27), (1, 0), (9, 0), (1, 0), (9, 0), (1, 0), (9, 0), (0, 0), (9, 0), (9, 0), (9, 0), (9, 0)]) (st' := []) (w' := w) (n' := 142) rfl ?_
  have L11 : ∀ (m9 : Nat) (g : Nat) (a b c : Int) (l10 l12 l13 : qV), 3 - g = m9 → (g ≤ 3 ∧ qi64 a ∧ qi64 b ∧ qi64 c) → qG none (d + 1) 101 11 [(2, 24), (2, 34), (2, 27), (1, a), (9, 0), (1, b), (9, 0), (1, c), (9, 0), (0, ((g : Nat) : Int)), l10, (9, 0), l12, l13] [] w 142 Q9 := by
    intro m9
    induction m9 using Nat.strongRecOn with
    | ind m9 ih11 =>
    intro g a b c l10 l12 l13 hm11 hI11
    obtain ⟨hg3, ha, hb, hc⟩ := hI11
    refine qG.blk 2 (pc' := 14) (ls' := [(2, 24), (2, 34), (2, 27), (1, a), (9, 0), (1, b), (9, 0), (1, c), (9, 0), (0, ((g : Nat) : Int)), l10, (9, 0), l12, l13]) (st' := [(0, 3), (0, ((g : Nat) : Int))]) (w' := w) (n' := 142) rfl ?_
    refine qG.br (P := ((g : Nat) : Int) < 3) (pc1 := 17) (pc2 := 138) (st1 := []) rfl (fun hg => ?_) (fun hg => ?_)
    · skip
      refine qG.blk 3 (pc' := 21) (ls' := [(2, 24), (2, 34), (2, 27), (1, a), (9, 0), (1, b), (9, 0), (1, c), (9, 0), (0, ((g : Nat) : Int)), l10, (9, 0), l12, l13]) (st' := [(0, 3), (0, ((g : Nat) : Int))]) (w' := w) (n' := 142) rfl ?_
      refine qG.br (P := ((g : Nat) : Int) < 3) (pc1 := 24) (pc2 := 138) (st1 := []) rfl (fun hgl => ?_) (fun hgl => ?_)
      · skip
        refine qG.blk 2 (pc' := 27) (ls' := [(2, 24), (2, 34), (2, 27), (1, a), (9, 0), (1, b), (9, 0), (1, c), (9, 0), (0, ((g : Nat) : Int)), l10, (9, 0), l12, l13]) (st' := [(0, ((g : Nat) : Int)), (2, 34)]) (w' := w) (n' := 142) rfl ?_
        refine qG.ar (P := 0 ≤ ((g : Nat) : Int) ∧ ((g : Nat) : Int) < ((3 : Nat) : Int)) (P2 := 0 < (34 : Int) ∧ (34 : Int) ≤ ((142 : Nat) : Int)) (pc' := 28) (ls' := [(2, 24), (2, 34), (2, 27), (1, a), (9, 0), (1, b), (9, 0), (1, c), (9, 0), (0, ((g : Nat) : Int)), l10, (9, 0), l12, l13]) (st' := [(1, w 34 g)]) (w' := w) (n' := 142) rfl (by omega) (by decide) ?_
        refine qG.blk 3 (pc' := 33) (ls' := [(2, 24), (2, 34), (2, 27), (1, a), (9, 0), (1, b), (9, 0), (1, c), (9, 0), (0, ((g : Nat) : Int)), (1, w 34 g), (9, 0), (0, 0), l13]) (st' := []) (w' := w) (n' := 142) rfl ?_
        have L33 : ∀ (m9 : Nat) (i : Nat) (a b c x : Int) (l13 : qV), 64 - i = m9 → (i ≤ 64 ∧ qi64 a ∧ qi64 b ∧ qi64 c ∧ qi64 x) → qG none (d + 1) 101 33 [(2, 24), (2, 34), (2, 27), (1, a), (9, 0), (1, b), (9, 0), (1, c), (9, 0), (0, ((g : Nat) : Int)), (1, x), (9, 0), (0, ((i : Nat) : Int)), l13] [] w 142 Q9 := by
          intro m9
          induction m9 using Nat.strongRecOn with
          | ind m9 ih33 =>
          intro i a b c x l13 hm33 hI33
          obtain ⟨hi64, ha, hb, hc, hx⟩ := hI33
          refine qG.blk 2 (pc' := 37) (ls' := [(2, 24), (2, 34), (2, 27), (1, a), (9, 0), (1, b), (9, 0), (1, c), (9, 0), (0, ((g : Nat) : Int)), (1, x), (9, 0), (0, ((i : Nat) : Int)), l13]) (st' := [(0, 64), (0, ((i : Nat) : Int))]) (w' := w) (n' := 142) rfl ?_
          refine qG.br (P := ((i : Nat) : Int) < 64) (pc1 := 40) (pc2 := 132) (st1 := []) rfl (fun hi65 => ?_) (fun hi65 => ?_)
          · skip
            refine qG.blk 3 (pc' := 44) (ls' := [(2, 24), (2, 34), (2, 27), (1, a), (9, 0), (1, b), (9, 0), (1, c), (9, 0), (0, ((g : Nat) : Int)), (1, x), (9, 0), (0, ((i : Nat) : Int)), l13]) (st' := [(0, qcmp x 0)]) (w' := w) (n' := 142) rfl ?_
            refine qG.br (P := qcmp x 0 = 0) (pc1 := 132) (pc2 := 47) (st1 := []) rfl (fun hx0 => ?_) (fun hx0 => ?_)
            · skip
              refine qG.blk 1 (pc' := 135) (ls' := [(2, 24), (2, 34), (2, 27), (1, a), (9, 0), (1, b), (9, 0), (1, c), (9, 0), (0, wrp (((g : Nat) : Int) + 1)), (1, x), (9, 0), (0, ((i : Nat) : Int)), l13]) (st' := []) (w' := w) (n' := 142) rfl ?_
              rw [show wrp (((g : Nat) : Int) + 1) = ((g + 1 : Nat) : Int) from wrp_id (by omega) (by omega)]
              refine qG.blk 1 (pc' := 11) (ls' := [(2, 24), (2, 34), (2, 27), (1, a), (9, 0), (1, b), (9, 0), (1, c), (9, 0), (0, ((g + 1 : Nat) : Int)), (1, x), (9, 0), (0, ((i : Nat) : Int)), l13]) (st' := []) (w' := w) (n' := 142) rfl ?_
              exact ih11 _ (by omega) (g + 1) (a) (b) (c) ((1, x)) ((0, ((i : Nat) : Int))) (l13) rfl (⟨by omega, ha, hb, hc⟩)
            · skip
              refine qG.blk 4 (pc' := 53) (ls' := [(2, 24), (2, 34), (2, 27), (1, a), (9, 0), (1, b), (9, 0), (1, c), (9, 0), (0, ((g : Nat) : Int)), (1, x), (9, 0), (0, ((i : Nat) : Int)), l13]) (st' := [(0, wrp (64 * ((g : Nat) : Int))), (0, 3)]) (w' := w) (n' := 142) rfl ?_
              rw [show wrp (64 * ((g : Nat) : Int)) = ((64 * g : Nat) : Int) from by rw [wrp_id (by omega) (by omega)]; omega]
              refine qG.blk 1 (pc' := 55) (ls' := [(2, 24), (2, 34), (2, 27), (1, a), (9, 0), (1, b), (9, 0), (1, c), (9, 0), (0, ((g : Nat) : Int)), (1, x), (9, 0), (0, ((i : Nat) : Int)), l13]) (st' := [(1, x), (0, ((64 * g : Nat) : Int)), (0, 3)]) (w' := w) (n' := 142) rfl ?_
              refine qG.call (t := 303) (na := 1) (sk := 0) (md := 0) (ls1 := [(1, x), (9, 0), (9, 0)]) (r1 := [(0, ((64 * g : Nat) : Int)), (0, 3)]) rfl rfl rfl rfl rfl (AW.use (c := C_nTZL.2) (as := [(1, x)]) (m := []) T_nTZL (AW.rf hI) (show 2 ≤ d by omega) ⟨⟨rfl, i64l hx, i64u hx⟩, trivial⟩ rfl rfl (by decide +kernel)) ?_
              rintro _ w7 _ ⟨x7, rfl, hl7, hu7, hA7, rfl, -⟩
              have e7 := hA7.nilz
              rw [e7]
              have hl7 : (0 : Int) ≤ x7 := hl7
              have hu7 : x7 ≤ (64 : Int) := hu7
              obtain ⟨s, rfl⟩ : ∃ s : Nat, x7 = (s : Int) := ⟨x7.toNat, by omega⟩
              show qG none (d + 1) 101 58 [(2, 24), (2, 34), (2, 27), (1, a), (9, 0), (1, b), (9, 0), (1, c), (9, 0), (0, ((g : Nat) : Int)), (1, x), (9, 0), (0, ((i : Nat) : Int)), l13] [(0, ((s : Nat) : Int)), (0, ((64 * g : Nat) : Int)), (0, 3)] w 142 Q9
              refine qG.blk 1 (pc' := 59) (ls' := [(2, 24), (2, 34), (2, 27), (1, a), (9, 0), (1, b), (9, 0), (1, c), (9, 0), (0, ((g : Nat) : Int)), (1, x), (9, 0), (0, ((i : Nat) : Int)), l13]) (st' := [(0, wrp (((64 * g : Nat) : Int) + ((s : Nat) : Int))), (0, 3)]) (w' := w) (n' := 142) rfl ?_
              rw [show wrp (((64 * g : Nat) : Int) + ((s : Nat) : Int)) = ((64 * g + s : Nat) : Int) from by rw [wrp_id (by omega) (by omega)]; omega]
              refine qG.blk 1 (pc' := 60) (ls' := [(2, 24), (2, 34), (2, 27), (1, a), (9, 0), (1, b), (9, 0), (1, c), (9, 0), (0, ((g : Nat) : Int)), (1, x), (9, 0), (0, ((i : Nat) : Int)), l13]) (st' := [(0, wrp (3 * ((64 * g + s : Nat) : Int)))]) (w' := w) (n' := 142) rfl ?_
              rw [show wrp (3 * ((64 * g + s : Nat) : Int)) = ((3 * (64 * g + s) : Nat) : Int) from by rw [wrp_id (by omega) (by omega)]; omega]
              refine qG.blk 5 (pc' := 68) (ls' := [(2, 24), (2, 34), (2, 27), (1, a), (9, 0), (1, b), (9, 0), (1, c), (9, 0), (0, ((g : Nat) : Int)), (1, x), (9, 0), (0, ((i : Nat) : Int)), (0, ((3 * (64 * g + s) : Nat) : Int))]) (st' := [(1, wrl (x - 1)), (1, x)]) (w' := w) (n' := 142) rfl ?_
              refine qG.blk 3 (pc' := 73) (ls' := [(2, 24), (2, 34), (2, 27), (1, a), (9, 0), (1, b), (9, 0), (1, c), (9, 0), (0, ((g : Nat) : Int)), (1, qland x (wrl (x - 1))), (9, 0), (0, ((i : Nat) : Int)), (0, ((3 * (64 * g + s) : Nat) : Int))]) (st' := [(0, ((3 * (64 * g + s) : Nat) : Int))]) (w' := w) (n' := 142) rfl ?_
              refine qG.br (P := ((3 * (64 * g + s) : Nat) : Int) < 0) (pc1 := 126) (pc2 := 76) (st1 := []) rfl (fun hr0 => ?_) (fun hr0 => ?_)
              · exfalso; omega
              · skip
                refine qG.blk 3 (pc' := 80) (ls' := [(2, 24), (2, 34), (2, 27), (1, a), (9, 0), (1, b), (9, 0), (1, c), (9, 0), (0, ((g : Nat) : Int)), (1, qland x (wrl (x - 1))), (9, 0), (0, ((i : Nat) : Int)), (0, ((3 * (64 * g + s) : Nat) : Int))]) (st' := [(0, wrp (((3 * (64 * g + s) : Nat) : Int) + 2))]) (w' := w) (n' := 142) rfl ?_
                rw [show wrp (((3 * (64 * g + s) : Nat) : Int) + 2) = ((3 * (64 * g + s) + 2 : Nat) : Int) from by rw [wrp_id (by omega) (by omega)]; omega]
                refine qG.blk 2 (pc' := 84) (ls' := [(2, 24), (2, 34), (2, 27), (1, a), (9, 0), (1, b), (9, 0), (1, c), (9, 0), (0, ((g : Nat) : Int)), (1, qland x (wrl (x - 1))), (9, 0), (0, ((i : Nat) : Int)), (0, ((3 * (64 * g + s) : Nat) : Int))]) (st' := [(2, w 24 5), (0, ((3 * (64 * g + s) + 2 : Nat) : Int))]) (w' := w) (n' := 142) rfl ?_
                rw [show w 24 5 = 26 from zrefz hI rfl rfl]
                refine qG.blk 1 (pc' := 85) (ls' := [(2, 24), (2, 34), (2, 27), (1, a), (9, 0), (1, b), (9, 0), (1, c), (9, 0), (0, ((g : Nat) : Int)), (1, qland x (wrl (x - 1))), (9, 0), (0, ((i : Nat) : Int)), (0, ((3 * (64 * g + s) : Nat) : Int))]) (st' := [(0, 540), (0, ((3 * (64 * g + s) + 2 : Nat) : Int))]) (w' := w) (n' := 142) rfl ?_
                rw [show (540 : Int) = N5 from hN5.symm]
                refine qG.br (P := ((3 * (64 * g + s) + 2 : Nat) : Int) < N5) (pc1 := 88) (pc2 := 126) (st1 := []) rfl (fun h540 => ?_) (fun h540 => ?_)
                · skip
                  refine qG.blk 3 (pc' := 93) (ls' := [(2, 24), (2, 34), (2, 27), (1, a), (9, 0), (1, b), (9, 0), (1, c), (9, 0), (0, ((g : Nat) : Int)), (1, qland x (wrl (x - 1))), (9, 0), (0, ((i : Nat) : Int)), (0, ((3 * (64 * g + s) : Nat) : Int))]) (st' := [(2, w 24 5), (1, a)]) (w' := w) (n' := 142) rfl ?_
                  rw [show w 24 5 = 26 from zrefz hI rfl rfl]
                  refine qG.blk 1 (pc' := 95) (ls' := [(2, 24), (2, 34), (2, 27), (1, a), (9, 0), (1, b), (9, 0), (1, c), (9, 0), (0, ((g : Nat) : Int)), (1, qland x (wrl (x - 1))), (9, 0), (0, ((i : Nat) : Int)), (0, ((3 * (64 * g + s) : Nat) : Int))]) (st' := [(0, ((3 * (64 * g + s) : Nat) : Int)), (2, 26), (1, a)]) (w' := w) (n' := 142) rfl ?_
                  refine qG.lldz (m := 540) rfl rfl (by omega) (by decide) ?_
                  show qG none (d + 1) 101 96 [(2, 24), (2, 34), (2, 27), (1, a), (9, 0), (1, b), (9, 0), (1, c), (9, 0), (0, ((g : Nat) : Int)), (1, qland x (wrl (x - 1))), (9, 0), (0, ((i : Nat) : Int)), (0, ((3 * (64 * g + s) : Nat) : Int))] [(1, w 26 (3 * (64 * g + s))), (1, a)] w 142 Q9
                  refine qG.blk 5 (pc' := 104) (ls' := [(2, 24), (2, 34), (2, 27), (1, qlor a (w 26 (3 * (64 * g + s)))), (9, 0), (1, b), (9, 0), (1, c), (9, 0), (0, ((g : Nat) : Int)), (1, qland x (wrl (x - 1))), (9, 0), (0, ((i : Nat) : Int)), (0, ((3 * (64 * g + s) : Nat) : Int))]) (st' := [(2, w 24 5), (1, b)]) (w' := w) (n' := 142) rfl ?_
                  rw [show w 24 5 = 26 from zrefz hI rfl rfl]
                  refine qG.blk 3 (pc' := 108) (ls' := [(2, 24), (2, 34), (2, 27), (1, qlor a (w 26 (3 * (64 * g + s)))), (9, 0), (1, b), (9, 0), (1, c), (9, 0), (0, ((g : Nat) : Int)), (1, qland x (wrl (x - 1))), (9, 0), (0, ((i : Nat) : Int)), (0, ((3 * (64 * g + s) : Nat) : Int))]) (st' := [(0, wrp (((3 * (64 * g + s) : Nat) : Int) + 1)), (2, 26), (1, b)]) (w' := w) (n' := 142) rfl ?_
                  rw [show wrp (((3 * (64 * g + s) : Nat) : Int) + 1) = ((3 * (64 * g + s) + 1 : Nat) : Int) from by rw [wrp_id (by omega) (by omega)]; omega]
                  refine qG.lldz (m := 540) rfl rfl (by omega) (by decide) ?_
                  show qG none (d + 1) 101 109 [(2, 24), (2, 34), (2, 27), (1, qlor a (w 26 (3 * (64 * g + s)))), (9, 0), (1, b), (9, 0), (1, c), (9, 0), (0, ((g : Nat) : Int)), (1, qland x (wrl (x - 1))), (9, 0), (0, ((i : Nat) : Int)), (0, ((3 * (64 * g + s) : Nat) : Int))] [(1, w 26 (3 * (64 * g + s) + 1)), (1, b)] w 142 Q9
                  refine qG.blk 5 (pc' := 118) (ls' := [(2, 24), (2, 34), (2, 27), (1, qlor a (w 26 (3 * (64 * g + s)))), (9, 0), (1, qlor b (w 26 (3 * (64 * g + s) + 1))), (9, 0), (1, c), (9, 0), (0, ((g : Nat) : Int)), (1, qland x (wrl (x - 1))), (9, 0), (0, ((i : Nat) : Int)), (0, ((3 * (64 * g + s) : Nat) : Int))]) (st' := [(2, w 24 5), (1, c)]) (w' := w) (n' := 142) rfl ?_
                  rw [show w 24 5 = 26 from zrefz hI rfl rfl]
                  refine qG.blk 3 (pc' := 122) (ls' := [(2, 24), (2, 34), (2, 27), (1, qlor a (w 26 (3 * (64 * g + s)))), (9, 0), (1, qlor b (w 26 (3 * (64 * g + s) + 1))), (9, 0), (1, c), (9, 0), (0, ((g : Nat) : Int)), (1, qland x (wrl (x - 1))), (9, 0), (0, ((i : Nat) : Int)), (0, ((3 * (64 * g + s) : Nat) : Int))]) (st' := [(0, wrp (((3 * (64 * g + s) : Nat) : Int) + 2)), (2, 26), (1, c)]) (w' := w) (n' := 142) rfl ?_
                  rw [show wrp (((3 * (64 * g + s) : Nat) : Int) + 2) = ((3 * (64 * g + s) + 2 : Nat) : Int) from by rw [wrp_id (by omega) (by omega)]; omega]
                  refine qG.lldz (m := 540) rfl rfl (by omega) (by decide) ?_
                  show qG none (d + 1) 101 123 [(2, 24), (2, 34), (2, 27), (1, qlor a (w 26 (3 * (64 * g + s)))), (9, 0), (1, qlor b (w 26 (3 * (64 * g + s) + 1))), (9, 0), (1, c), (9, 0), (0, ((g : Nat) : Int)), (1, qland x (wrl (x - 1))), (9, 0), (0, ((i : Nat) : Int)), (0, ((3 * (64 * g + s) : Nat) : Int))] [(1, w 26 (3 * (64 * g + s) + 2)), (1, c)] w 142 Q9
                  refine qG.blk 3 (pc' := 129) (ls' := [(2, 24), (2, 34), (2, 27), (1, qlor a (w 26 (3 * (64 * g + s)))), (9, 0), (1, qlor b (w 26 (3 * (64 * g + s) + 1))), (9, 0), (1, qlor c (w 26 (3 * (64 * g + s) + 2))), (9, 0), (0, ((g : Nat) : Int)), (1, qland x (wrl (x - 1))), (9, 0), (0, wrp (((i : Nat) : Int) + 1)), (0, ((3 * (64 * g + s) : Nat) : Int))]) (st' := []) (w' := w) (n' := 142) rfl ?_
                  rw [show wrp (((i : Nat) : Int) + 1) = ((i + 1 : Nat) : Int) from wrp_id (by omega) (by omega)]
                  refine qG.blk 1 (pc' := 33) (ls' := [(2, 24), (2, 34), (2, 27), (1, qlor a (w 26 (3 * (64 * g + s)))), (9, 0), (1, qlor b (w 26 (3 * (64 * g + s) + 1))), (9, 0), (1, qlor c (w 26 (3 * (64 * g + s) + 2))), (9, 0), (0, ((g : Nat) : Int)), (1, qland x (wrl (x - 1))), (9, 0), (0, ((i + 1 : Nat) : Int)), (0, ((3 * (64 * g + s) : Nat) : Int))]) (st' := []) (w' := w) (n' := 142) rfl ?_
                  exact ih33 _ (by omega) (i + 1) (qlor a (w 26 (3 * (64 * g + s)))) (qlor b (w 26 (3 * (64 * g + s) + 1))) (qlor c (w 26 (3 * (64 * g + s) + 2))) (qland x (wrl (x - 1))) ((0, ((3 * (64 * g + s) : Nat) : Int))) rfl (⟨by omega, by first | exact ha | exact qlorz _ _, by first | exact hb | exact qlorz _ _, by first | exact hc | exact qlorz _ _, qlandz _ _⟩)
                · skip
                  refine qG.blk 1 (pc' := 129) (ls' := [(2, 24), (2, 34), (2, 27), (1, a), (9, 0), (1, b), (9, 0), (1, c), (9, 0), (0, ((g : Nat) : Int)), (1, qland x (wrl (x - 1))), (9, 0), (0, wrp (((i : Nat) : Int) + 1)), (0, ((3 * (64 * g + s) : Nat) : Int))]) (st' := []) (w' := w) (n' := 142) rfl ?_
                  rw [show wrp (((i : Nat) : Int) + 1) = ((i + 1 : Nat) : Int) from wrp_id (by omega) (by omega)]
                  refine qG.blk 1 (pc' := 33) (ls' := [(2, 24), (2, 34), (2, 27), (1, a), (9, 0), (1, b), (9, 0), (1, c), (9, 0), (0, ((g : Nat) : Int)), (1, qland x (wrl (x - 1))), (9, 0), (0, ((i + 1 : Nat) : Int)), (0, ((3 * (64 * g + s) : Nat) : Int))]) (st' := []) (w' := w) (n' := 142) rfl ?_
                  exact ih33 _ (by omega) (i + 1) (a) (b) (c) (qland x (wrl (x - 1))) ((0, ((3 * (64 * g + s) : Nat) : Int))) rfl (⟨by omega, by first | exact ha | exact qlorz _ _, by first | exact hb | exact qlorz _ _, by first | exact hc | exact qlorz _ _, qlandz _ _⟩)
          · skip
            refine qG.blk 1 (pc' := 135) (ls' := [(2, 24), (2, 34), (2, 27), (1, a), (9, 0), (1, b), (9, 0), (1, c), (9, 0), (0, wrp (((g : Nat) : Int) + 1)), (1, x), (9, 0), (0, ((i : Nat) : Int)), l13]) (st' := []) (w' := w) (n' := 142) rfl ?_
            rw [show wrp (((g : Nat) : Int) + 1) = ((g + 1 : Nat) : Int) from wrp_id (by omega) (by omega)]
            refine qG.blk 1 (pc' := 11) (ls' := [(2, 24), (2, 34), (2, 27), (1, a), (9, 0), (1, b), (9, 0), (1, c), (9, 0), (0, ((g + 1 : Nat) : Int)), (1, x), (9, 0), (0, ((i : Nat) : Int)), l13]) (st' := []) (w' := w) (n' := 142) rfl ?_
            exact ih11 _ (by omega) (g + 1) (a) (b) (c) ((1, x)) ((0, ((i : Nat) : Int))) (l13) rfl (⟨by omega, ha, hb, hc⟩)
        exact L33 _ (0) (a) (b) (c) (w 34 g) (l13) rfl (⟨Nat.zero_le _, ha, hb, hc, arrz hI rfl rfl⟩)
      · exfalso; omega
    · skip
      refine qG.blk 4 (pc' := 144) (ls' := [(2, 24), (2, 34), (2, 27), (1, a), (9, 0), (1, b), (9, 0), (1, c), (9, 0), (0, ((g : Nat) : Int)), l10, (9, 0), l12, l13]) (st' := [(1, c), (1, b), (1, a), (2, 27)]) (w' := w) (n' := 142) rfl ?_
      refine qG.call (t := 105) (na := 4) (sk := 0) (md := 0) (ls1 := [(2, 27), (1, a), (9, 0), (1, b), (9, 0), (1, c), (9, 0)]) (r1 := []) rfl rfl rfl rfl rfl (AW.use (c := C_putRow27.2) (as := [(2, 27), (1, a), (1, b), (1, c)]) (m := [27]) T_putRow27 (AW.rf hI) (show 1 ≤ d by omega) ⟨⟨rfl, by decide, by decide⟩, ⟨rfl, i64l ha, i64u ha⟩, ⟨rfl, i64l hb, i64u hb⟩, ⟨rfl, i64l hc, i64u hc⟩, trivial⟩ rfl rfl (by decide +kernel)) ?_
      rintro _ w0 _ ⟨x7, rfl, -, -, hA7, rfl, -⟩
      show qG none (d + 1) 101 147 [(2, 24), (2, 34), (2, 27), (1, a), (9, 0), (1, b), (9, 0), (1, c), (9, 0), (0, ((g : Nat) : Int)), l10, (9, 0), l12, l13] [] w0 142 Q9
      refine qG.retv rfl rfl ?_
      subst hQ9
      exact ⟨rfl, rfl, hA7⟩
  exact L11 _ (0) (0) (0) (0) ((9, 0)) ((9, 0)) ((9, 0)) rfl (⟨Nat.zero_le _, ⟨by decide, by decide⟩, ⟨by decide, by decide⟩, ⟨by decide, by decide⟩⟩)
noncomputable def C_spread_34_27 : Nat × yC := (101, (5, [(2, 24, 24), (2, 34, 34), (2, 27, 27)], (9, 0, 0), [27], [], [], [], 0, []))
theorem T_spread_34_27 {w0 : qW} : yCOK w0 zgf zga zra zSp zgh C_spread_34_27.1 C_spread_34_27.2 := by
  intro d as w hd hm hI hn hp
  have e : as = [(2, 24), (2, 34), (2, 27)] := args3r hm
  subst e
  refine qG.mono (K_spreadZ34_27 hd w hI) ?_
  rintro _ w' _ ⟨rfl, rfl, hA⟩
  exact ⟨⟨rfl, Int.le_refl 0, Int.le_refl 0⟩, hA.1, rfl, hA.2, fun e he => (by cases he), fun z => (by cases z)⟩
theorem K_spreadZ35_27 {d : Nat} (hd : 5 ≤ d) (w : qW) (hI : yInv zgf zga zra zSp w) : qG none d 101 0 [(2, 24), (2, 35), (2, 27), (9, 0), (9, 0), (9, 0), (9, 0), (9, 0), (9, 0), (9, 0), (9, 0), (9, 0), (9, 0), (9, 0)] [] w 142 (fun (r : qV) (w1 : qW) (n1 : Nat) => r = (9, 0) ∧ n1 = 142 ∧ AW [27] w w1) := by
  generalize hQ9 : (fun (r : qV) (w1 : qW) (n1 : Nat) => r = (9, 0) ∧ n1 = 142 ∧ AW [27] w w1) = Q9
  obtain ⟨N5, hN5⟩ : ∃ N : Int, N = 540 := ⟨_, rfl⟩
  obtain ⟨d, rfl⟩ : ∃ d9, d = d9 + 1 := ⟨d - 1, by omega⟩
  refine qG.blk 8 (pc' := 11) (ls' := [(2, 24), (2, 35), (2, 27), (1, 0), (9, 0), (1, 0), (9, 0), (1, 0), (9, 0), (0, 0), (9, 0), (9, 0), (9, 0), (9, 0)]) (st' := []) (w' := w) (n' := 142) rfl ?_
  have L11 : ∀ (m9 : Nat) (g : Nat) (a b c : Int) (l10 l12 l13 : qV), 3 - g = m9 → (g ≤ 3 ∧ qi64 a ∧ qi64 b ∧ qi64 c) → qG none (d + 1) 101 11 [(2, 24), (2, 35), (2, 27), (1, a), (9, 0), (1, b), (9, 0), (1, c), (9, 0), (0, ((g : Nat) : Int)), l10, (9, 0), l12, l13] [] w 142 Q9 := by
    intro m9
    induction m9 using Nat.strongRecOn with
    | ind m9 ih11 =>
    intro g a b c l10 l12 l13 hm11 hI11
    obtain ⟨hg3, ha, hb, hc⟩ := hI11
    refine qG.blk 2 (pc' := 14) (ls' := [(2, 24), (2, 35), (2, 27), (1, a), (9, 0), (1, b), (9, 0), (1, c), (9, 0), (0, ((g : Nat) : Int)), l10, (9, 0), l12, l13]) (st' := [(0, 3), (0, ((g : Nat) : Int))]) (w' := w) (n' := 142) rfl ?_
    refine qG.br (P := ((g : Nat) : Int) < 3) (pc1 := 17) (pc2 := 138) (st1 := []) rfl (fun hg => ?_) (fun hg => ?_)
    · skip
      refine qG.blk 3 (pc' := 21) (ls' := [(2, 24), (2, 35), (2, 27), (1, a), (9, 0), (1, b), (9, 0), (1, c), (9, 0), (0, ((g : Nat) : Int)), l10, (9, 0), l12, l13]) (st' := [(0, 3), (0, ((g : Nat) : Int))]) (w' := w) (n' := 142) rfl ?_
      refine qG.br (P := ((g : Nat) : Int) < 3) (pc1 := 24) (pc2 := 138) (st1 := []) rfl (fun hgl => ?_) (fun hgl => ?_)
      · skip
        refine qG.blk 2 (pc' := 27) (ls' := [(2, 24), (2, 35), (2, 27), (1, a), (9, 0), (1, b), (9, 0), (1, c), (9, 0), (0, ((g : Nat) : Int)), l10, (9, 0), l12, l13]) (st' := [(0, ((g : Nat) : Int)), (2, 35)]) (w' := w) (n' := 142) rfl ?_
        refine qG.ar (P := 0 ≤ ((g : Nat) : Int) ∧ ((g : Nat) : Int) < ((3 : Nat) : Int)) (P2 := 0 < (35 : Int) ∧ (35 : Int) ≤ ((142 : Nat) : Int)) (pc' := 28) (ls' := [(2, 24), (2, 35), (2, 27), (1, a), (9, 0), (1, b), (9, 0), (1, c), (9, 0), (0, ((g : Nat) : Int)), l10, (9, 0), l12, l13]) (st' := [(1, w 35 g)]) (w' := w) (n' := 142) rfl (by omega) (by decide) ?_
        refine qG.blk 3 (pc' := 33) (ls' := [(2, 24), (2, 35), (2, 27), (1, a), (9, 0), (1, b), (9, 0), (1, c), (9, 0), (0, ((g : Nat) : Int)), (1, w 35 g), (9, 0), (0, 0), l13]) (st' := []) (w' := w) (n' := 142) rfl ?_
        have L33 : ∀ (m9 : Nat) (i : Nat) (a b c x : Int) (l13 : qV), 64 - i = m9 → (i ≤ 64 ∧ qi64 a ∧ qi64 b ∧ qi64 c ∧ qi64 x) → qG none (d + 1) 101 33 [(2, 24), (2, 35), (2, 27), (1, a), (9, 0), (1, b), (9, 0), (1, c), (9, 0), (0, ((g : Nat) : Int)), (1, x), (9, 0), (0, ((i : Nat) : Int)), l13] [] w 142 Q9 := by
          intro m9
          induction m9 using Nat.strongRecOn with
          | ind m9 ih33 =>
          intro i a b c x l13 hm33 hI33
          obtain ⟨hi64, ha, hb, hc, hx⟩ := hI33
          refine qG.blk 2 (pc' := 37) (ls' := [(2, 24), (2, 35), (2, 27), (1, a), (9, 0), (1, b), (9, 0), (1, c), (9, 0), (0, ((g : Nat) : Int)), (1, x), (9, 0), (0, ((i : Nat) : Int)), l13]) (st' := [(0, 64), (0, ((i : Nat) : Int))]) (w' := w) (n' := 142) rfl ?_
          refine qG.br (P := ((i : Nat) : Int) < 64) (pc1 := 40) (pc2 := 132) (st1 := []) rfl (fun hi65 => ?_) (fun hi65 => ?_)
          · skip
            refine qG.blk 3 (pc' := 44) (ls' := [(2, 24), (2, 35), (2, 27), (1, a), (9, 0), (1, b), (9, 0), (1, c), (9, 0), (0, ((g : Nat) : Int)), (1, x), (9, 0), (0, ((i : Nat) : Int)), l13]) (st' := [(0, qcmp x 0)]) (w' := w) (n' := 142) rfl ?_
            refine qG.br (P := qcmp x 0 = 0) (pc1 := 132) (pc2 := 47) (st1 := []) rfl (fun hx0 => ?_) (fun hx0 => ?_)
            · skip
              refine qG.blk 1 (pc' := 135) (ls' := [(2, 24), (2, 35), (2, 27), (1, a), (9, 0), (1, b), (9, 0), (1, c), (9, 0), (0, wrp (((g : Nat) : Int) + 1)), (1, x), (9, 0), (0, ((i : Nat) : Int)), l13]) (st' := []) (w' := w) (n' := 142) rfl ?_
              rw [show wrp (((g : Nat) : Int) + 1) = ((g + 1 : Nat) : Int) from wrp_id (by omega) (by omega)]
              refine qG.blk 1 (pc' := 11) (ls' := [(2, 24), (2, 35), (2, 27), (1, a), (9, 0), (1, b), (9, 0), (1, c), (9, 0), (0, ((g + 1 : Nat) : Int)), (1, x), (9, 0), (0, ((i : Nat) : Int)), l13]) (st' := []) (w' := w) (n' := 142) rfl ?_
              exact ih11 _ (by omega) (g + 1) (a) (b) (c) ((1, x)) ((0, ((i : Nat) : Int))) (l13) rfl (⟨by omega, ha, hb, hc⟩)
            · skip
              refine qG.blk 4 (pc' := 53) (ls' := [(2, 24), (2, 35), (2, 27), (1, a), (9, 0), (1, b), (9, 0), (1, c), (9, 0), (0, ((g : Nat) : Int)), (1, x), (9, 0), (0, ((i : Nat) : Int)), l13]) (st' := [(0, wrp (64 * ((g : Nat) : Int))), (0, 3)]) (w' := w) (n' := 142) rfl ?_
              rw [show wrp (64 * ((g : Nat) : Int)) = ((64 * g : Nat) : Int) from by rw [wrp_id (by omega) (by omega)]; omega]
              refine qG.blk 1 (pc' := 55) (ls' := [(2, 24), (2, 35), (2, 27), (1, a), (9, 0), (1, b), (9, 0), (1, c), (9, 0), (0, ((g : Nat) : Int)), (1, x), (9, 0), (0, ((i : Nat) : Int)), l13]) (st' := [(1, x), (0, ((64 * g : Nat) : Int)), (0, 3)]) (w' := w) (n' := 142) rfl ?_
              refine qG.call (t := 303) (na := 1) (sk := 0) (md := 0) (ls1 := [(1, x), (9, 0), (9, 0)]) (r1 := [(0, ((64 * g : Nat) : Int)), (0, 3)]) rfl rfl rfl rfl rfl (AW.use (c := C_nTZL.2) (as := [(1, x)]) (m := []) T_nTZL (AW.rf hI) (show 2 ≤ d by omega) ⟨⟨rfl, i64l hx, i64u hx⟩, trivial⟩ rfl rfl (by decide +kernel)) ?_
              rintro _ w7 _ ⟨x7, rfl, hl7, hu7, hA7, rfl, -⟩
              have e7 := hA7.nilz
              rw [e7]
              have hl7 : (0 : Int) ≤ x7 := hl7
              have hu7 : x7 ≤ (64 : Int) := hu7
              obtain ⟨s, rfl⟩ : ∃ s : Nat, x7 = (s : Int) := ⟨x7.toNat, by omega⟩
              show qG none (d + 1) 101 58 [(2, 24), (2, 35), (2, 27), (1, a), (9, 0), (1, b), (9, 0), (1, c), (9, 0), (0, ((g : Nat) : Int)), (1, x), (9, 0), (0, ((i : Nat) : Int)), l13] [(0, ((s : Nat) : Int)), (0, ((64 * g : Nat) : Int)), (0, 3)] w 142 Q9
              refine qG.blk 1 (pc' := 59) (ls' := [(2, 24), (2, 35), (2, 27), (1, a), (9, 0), (1, b), (9, 0), (1, c), (9, 0), (0, ((g : Nat) : Int)), (1, x), (9, 0), (0, ((i : Nat) : Int)), l13]) (st' := [(0, wrp (((64 * g : Nat) : Int) + ((s : Nat) : Int))), (0, 3)]) (w' := w) (n' := 142) rfl ?_
              rw [show wrp (((64 * g : Nat) : Int) + ((s : Nat) : Int)) = ((64 * g + s : Nat) : Int) from by rw [wrp_id (by omega) (by omega)]; omega]
              refine qG.blk 1 (pc' := 60) (ls' := [(2, 24), (2, 35), (2, 27), (1, a), (9, 0), (1, b), (9, 0), (1, c), (9, 0), (0, ((g : Nat) : Int)), (1, x), (9, 0), (0, ((i : Nat) : Int)), l13]) (st' := [(0, wrp (3 * ((64 * g + s : Nat) : Int)))]) (w' := w) (n' := 142) rfl ?_
              rw [show wrp (3 * ((64 * g + s : Nat) : Int)) = ((3 * (64 * g + s) : Nat) : Int) from by rw [wrp_id (by omega) (by omega)]; omega]
              refine qG.blk 5 (pc' := 68) (ls' := [(2, 24), (2, 35), (2, 27), (1, a), (9, 0), (1, b), (9, 0), (1, c), (9, 0), (0, ((g : Nat) : Int)), (1, x), (9, 0), (0, ((i : Nat) : Int)), (0, ((3 * (64 * g + s) : Nat) : Int))]) (st' := [(1, wrl (x - 1)), (1, x)]) (w' := w) (n' := 142) rfl ?_
              refine qG.blk 3 (pc' := 73) (ls' := [(2, 24), (2, 35), (2, 27), (1, a), (9, 0), (1, b), (9, 0), (1, c), (9, 0), (0, ((g : Nat) : Int)), (1, qland x (wrl (x - 1))), (9, 0), (0, ((i : Nat) : Int)), (0, ((3 * (64 * g + s) : Nat) : Int))]) (st' := [(0, ((3 * (64 * g + s) : Nat) : Int))]) (w' := w) (n' := 142) rfl ?_
              refine qG.br (P := ((3 * (64 * g + s) : Nat) : Int) < 0) (pc1 := 126) (pc2 := 76) (st1 := []) rfl (fun hr0 => ?_) (fun hr0 => ?_)
              · exfalso; omega
              · skip
                refine qG.blk 3 (pc' := 80) (ls' := [(2, 24), (2, 35), (2, 27), (1, a), (9, 0), (1, b), (9, 0), (1, c), (9, 0), (0, ((g : Nat) : Int)), (1, qland x (wrl (x - 1))), (9, 0), (0, ((i : Nat) : Int)), (0, ((3 * (64 * g + s) : Nat) : Int))]) (st' := [(0, wrp (((3 * (64 * g + s) : Nat) : Int) + 2))]) (w' := w) (n' := 142) rfl ?_
                rw [show wrp (((3 * (64 * g + s) : Nat) : Int) + 2) = ((3 * (64 * g + s) + 2 : Nat) : Int) from by rw [wrp_id (by omega) (by omega)]; omega]
                refine qG.blk 2 (pc' := 84) (ls' := [(2, 24), (2, 35), (2, 27), (1, a), (9, 0), (1, b), (9, 0), (1, c), (9, 0), (0, ((g : Nat) : Int)), (1, qland x (wrl (x - 1))), (9, 0), (0, ((i : Nat) : Int)), (0, ((3 * (64 * g + s) : Nat) : Int))]) (st' := [(2, w 24 5), (0, ((3 * (64 * g + s) + 2 : Nat) : Int))]) (w' := w) (n' := 142) rfl ?_
                rw [show w 24 5 = 26 from zrefz hI rfl rfl]
                refine qG.blk 1 (pc' := 85) (ls' := [(2, 24), (2, 35), (2, 27), (1, a), (9, 0), (1, b), (9, 0), (1, c), (9, 0), (0, ((g : Nat) : Int)), (1, qland x (wrl (x - 1))), (9, 0), (0, ((i : Nat) : Int)), (0, ((3 * (64 * g + s) : Nat) : Int))]) (st' := [(0, 540), (0, ((3 * (64 * g + s) + 2 : Nat) : Int))]) (w' := w) (n' := 142) rfl ?_
                rw [show (540 : Int) = N5 from hN5.symm]
                refine qG.br (P := ((3 * (64 * g + s) + 2 : Nat) : Int) < N5) (pc1 := 88) (pc2 := 126) (st1 := []) rfl (fun h540 => ?_) (fun h540 => ?_)
                · skip
                  refine qG.blk 3 (pc' := 93) (ls' := [(2, 24), (2, 35), (2, 27), (1, a), (9, 0), (1, b), (9, 0), (1, c), (9, 0), (0, ((g : Nat) : Int)), (1, qland x (wrl (x - 1))), (9, 0), (0, ((i : Nat) : Int)), (0, ((3 * (64 * g + s) : Nat) : Int))]) (st' := [(2, w 24 5), (1, a)]) (w' := w) (n' := 142) rfl ?_
                  rw [show w 24 5 = 26 from zrefz hI rfl rfl]
                  refine qG.blk 1 (pc' := 95) (ls' := [(2, 24), (2, 35), (2, 27), (1, a), (9, 0), (1, b), (9, 0), (1, c), (9, 0), (0, ((g : Nat) : Int)), (1, qland x (wrl (x - 1))), (9, 0), (0, ((i : Nat) : Int)), (0, ((3 * (64 * g + s) : Nat) : Int))]) (st' := [(0, ((3 * (64 * g + s) : Nat) : Int)), (2, 26), (1, a)]) (w' := w) (n' := 142) rfl ?_
                  refine qG.lldz (m := 540) rfl rfl (by omega) (by decide) ?_
                  show qG none (d + 1) 101 96 [(2, 24), (2, 35), (2, 27), (1, a), (9, 0), (1, b), (9, 0), (1, c), (9, 0), (0, ((g : Nat) : Int)), (1, qland x (wrl (x - 1))), (9, 0), (0, ((i : Nat) : Int)), (0, ((3 * (64 * g + s) : Nat) : Int))] [(1, w 26 (3 * (64 * g + s))), (1, a)] w 142 Q9
                  refine qG.blk 5 (pc' := 104) (ls' := [(2, 24), (2, 35), (2, 27), (1, qlor a (w 26 (3 * (64 * g + s)))), (9, 0), (1, b), (9, 0), (1, c), (9, 0), (0, ((g : Nat) : Int)), (1, qland x (wrl (x - 1))), (9, 0), (0, ((i : Nat) : Int)), (0, ((3 * (64 * g + s) : Nat) : Int))]) (st' := [(2, w 24 5), (1, b)]) (w' := w) (n' := 142) rfl ?_
                  rw [show w 24 5 = 26 from zrefz hI rfl rfl]
                  refine qG.blk 3 (pc' := 108) (ls' := [(2, 24), (2, 35), (2, 27), (1, qlor a (w 26 (3 * (64 * g + s)))), (9, 0), (1, b), (9, 0), (1, c), (9, 0), (0, ((g : Nat) : Int)), (1, qland x (wrl (x - 1))), (9, 0), (0, ((i : Nat) : Int)), (0, ((3 * (64 * g + s) : Nat) : Int))]) (st' := [(0, wrp (((3 * (64 * g + s) : Nat) : Int) + 1)), (2, 26), (1, b)]) (w' := w) (n' := 142) rfl ?_
                  rw [show wrp (((3 * (64 * g + s) : Nat) : Int) + 1) = ((3 * (64 * g + s) + 1 : Nat) : Int) from by rw [wrp_id (by omega) (by omega)]; omega]
                  refine qG.lldz (m := 540) rfl rfl (by omega) (by decide) ?_
                  show qG none (d + 1) 101 109 [(2, 24), (2, 35), (2, 27), (1, qlor a (w 26 (3 * (64 * g + s)))), (9, 0), (1, b), (9, 0), (1, c), (9, 0), (0, ((g : Nat) : Int)), (1, qland x (wrl (x - 1))), (9, 0), (0, ((i : Nat) : Int)), (0, ((3 * (64 * g + s) : Nat) : Int))] [(1, w 26 (3 * (64 * g + s) + 1)), (1, b)] w 142 Q9
                  refine qG.blk 5 (pc' := 118) (ls' := [(2, 24), (2, 35), (2, 27), (1, qlor a (w 26 (3 * (64 * g + s)))), (9, 0), (1, qlor b (w 26 (3 * (64 * g + s) + 1))), (9, 0), (1, c), (9, 0), (0, ((g : Nat) : Int)), (1, qland x (wrl (x - 1))), (9, 0), (0, ((i : Nat) : Int)), (0, ((3 * (64 * g + s) : Nat) : Int))]) (st' := [(2, w 24 5), (1, c)]) (w' := w) (n' := 142) rfl ?_
                  rw [show w 24 5 = 26 from zrefz hI rfl rfl]
                  refine qG.blk 3 (pc' := 122) (ls' := [(2, 24), (2, 35), (2, 27), (1, qlor a (w 26 (3 * (64 * g + s)))), (9, 0), (1, qlor b (w 26 (3 * (64 * g + s) + 1))), (9, 0), (1, c), (9, 0), (0, ((g : Nat) : Int)), (1, qland x (wrl (x - 1))), (9, 0), (0, ((i : Nat) : Int)), (0, ((3 * (64 * g + s) : Nat) : Int))]) (st' := [(0, wrp (((3 * (64 * g + s) : Nat) : Int) + 2)), (2, 26), (1, c)]) (w' := w) (n' := 142) rfl ?_
                  rw [show wrp (((3 * (64 * g + s) : Nat) : Int) + 2) = ((3 * (64 * g + s) + 2 : Nat) : Int) from by rw [wrp_id (by omega) (by omega)]; omega]
                  refine qG.lldz (m := 540) rfl rfl (by omega) (by decide) ?_
                  show qG none (d + 1) 101 123 [(2, 24), (2, 35), (2, 27), (1, qlor a (w 26 (3 * (64 * g + s)))), (9, 0), (1, qlor b (w 26 (3 * (64 * g + s) + 1))), (9, 0), (1, c), (9, 0), (0, ((g : Nat) : Int)), (1, qland x (wrl (x - 1))), (9, 0), (0, ((i : Nat) : Int)), (0, ((3 * (64 * g + s) : Nat) : Int))] [(1, w 26 (3 * (64 * g + s) + 2)), (1, c)] w 142 Q9
                  refine qG.blk 3 (pc' := 129) (ls' := [(2, 24), (2, 35), (2, 27), (1, qlor a (w 26 (3 * (64 * g + s)))), (9, 0), (1, qlor b (w 26 (3 * (64 * g + s) + 1))), (9, 0), (1, qlor c (w 26 (3 * (64 * g + s) + 2))), (9, 0), (0, ((g : Nat) : Int)), (1, qland x (wrl (x - 1))), (9, 0), (0, wrp (((i : Nat) : Int) + 1)), (0, ((3 * (64 * g + s) : Nat) : Int))]) (st' := []) (w' := w) (n' := 142) rfl ?_
                  rw [show wrp (((i : Nat) : Int) + 1) = ((i + 1 : Nat) : Int) from wrp_id (by omega) (by omega)]
                  refine qG.blk 1 (pc' := 33) (ls' := [(2, 24), (2, 35), (2, 27), (1, qlor a (w 26 (3 * (64 * g + s)))), (9, 0), (1, qlor b (w 26 (3 * (64 * g + s) + 1))), (9, 0), (1, qlor c (w 26 (3 * (64 * g + s) + 2))), (9, 0), (0, ((g : Nat) : Int)), (1, qland x (wrl (x - 1))), (9, 0), (0, ((i + 1 : Nat) : Int)), (0, ((3 * (64 * g + s) : Nat) : Int))]) (st' := []) (w' := w) (n' := 142) rfl ?_
                  exact ih33 _ (by omega) (i + 1) (qlor a (w 26 (3 * (64 * g + s)))) (qlor b (w 26 (3 * (64 * g + s) + 1))) (qlor c (w 26 (3 * (64 * g + s) + 2))) (qland x (wrl (x - 1))) ((0, ((3 * (64 * g + s) : Nat) : Int))) rfl (⟨by omega, by first | exact ha | exact qlorz _ _, by first | exact hb | exact qlorz _ _, by first | exact hc | exact qlorz _ _, qlandz _ _⟩)
                · skip
                  refine qG.blk 1 (pc' := 129) (ls' := [(2, 24), (2, 35), (2, 27), (1, a), (9, 0), (1, b), (9, 0), (1, c), (9, 0), (0, ((g : Nat) : Int)), (1, qland x (wrl (x - 1))), (9, 0), (0, wrp (((i : Nat) : Int) + 1)), (0, ((3 * (64 * g + s) : Nat) : Int))]) (st' := []) (w' := w) (n' := 142) rfl ?_
                  rw [show wrp (((i : Nat) : Int) + 1) = ((i + 1 : Nat) : Int) from wrp_id (by omega) (by omega)]
                  refine qG.blk 1 (pc' := 33) (ls' := [(2, 24), (2, 35), (2, 27), (1, a), (9, 0), (1, b), (9, 0), (1, c), (9, 0), (0, ((g : Nat) : Int)), (1, qland x (wrl (x - 1))), (9, 0), (0, ((i + 1 : Nat) : Int)), (0, ((3 * (64 * g + s) : Nat) : Int))]) (st' := []) (w' := w) (n' := 142) rfl ?_
                  exact ih33 _ (by omega) (i + 1) (a) (b) (c) (qland x (wrl (x - 1))) ((0, ((3 * (64 * g + s) : Nat) : Int))) rfl (⟨by omega, by first | exact ha | exact qlorz _ _, by first | exact hb | exact qlorz _ _, by first | exact hc | exact qlorz _ _, qlandz _ _⟩)
          · skip
            refine qG.blk 1 (pc' := 135) (ls' := [(2, 24), (2, 35), (2, 27), (1, a), (9, 0), (1, b), (9, 0), (1, c), (9, 0), (0, wrp (((g : Nat) : Int) + 1)), (1, x), (9, 0), (0, ((i : Nat) : Int)), l13]) (st' := []) (w' := w) (n' := 142) rfl ?_
            rw [show wrp (((g : Nat) : Int) + 1) = ((g + 1 : Nat) : Int) from wrp_id (by omega) (by omega)]
            refine qG.blk 1 (pc' := 11) (ls' := [(2, 24), (2, 35), (2, 27), (1, a), (9, 0), (1, b), (9, 0), (1, c), (9, 0), (0, ((g + 1 : Nat) : Int)), (1, x), (9, 0), (0, ((i : Nat) : Int)), l13]) (st' := []) (w' := w) (n' := 142) rfl ?_
            exact ih11 _ (by omega) (g + 1) (a) (b) (c) ((1, x)) ((0, ((i : Nat) : Int))) (l13) rfl (⟨by omega, ha, hb, hc⟩)
        exact L33 _ (0) (a) (b) (c) (w 35 g) (l13) rfl (⟨Nat.zero_le _, ha, hb, hc, arrz hI rfl rfl⟩)
      · exfalso; omega
    · skip
      refine qG.blk 4 (pc' := 144) (ls' := [(2, 24), (2, 35), (2, 27), (1, a), (9, 0), (1, b), (9, 0), (1, c), (9, 0), (0, ((g : Nat) : Int)), l10, (9, 0), l12, l13]) (st' := [(1, c), (1, b), (1, a), (2, 27)]) (w' := w) (n' := 142) rfl ?_
      refine qG.call (t := 105) (na := 4) (sk := 0) (md := 0) (ls1 := [(2, 27), (1, a), (9, 0), (1, b), (9, 0), (1, c), (9, 0)]) (r1 := []) rfl rfl rfl rfl rfl (AW.use (c := C_putRow27.2) (as := [(2, 27), (1, a), (1, b), (1, c)]) (m := [27]) T_putRow27 (AW.rf hI) (show 1 ≤ d by omega) ⟨⟨rfl, by decide, by decide⟩, ⟨rfl, i64l ha, i64u ha⟩, ⟨rfl, i64l hb, i64u hb⟩, ⟨rfl, i64l hc, i64u hc⟩, trivial⟩ rfl rfl (by decide +kernel)) ?_
      rintro _ w0 _ ⟨x7, rfl, -, -, hA7, rfl, -⟩
      show qG none (d + 1) 101 147 [(2, 24), (2, 35), (2, 27), (1, a), (9, 0), (1, b), (9, 0), (1, c), (9, 0), (0, ((g : Nat) : Int)), l10, (9, 0), l12, l13] [] w0 142 Q9
      refine qG.retv rfl rfl ?_
      subst hQ9
      exact ⟨rfl, rfl, hA7⟩
  exact L11 _ (0) (0) (0) (0) ((9, 0)) ((9, 0)) ((9, 0)) rfl (⟨Nat.zero_le _, ⟨by decide, by decide⟩, ⟨by decide, by decide⟩, ⟨by decide, by decide⟩⟩)
noncomputable def C_spread_35_27 : Nat × yC := (101, (5, [(2, 24, 24), (2, 35, 35), (2, 27, 27)], (9, 0, 0), [27], [], [], [], 0, []))
theorem T_spread_35_27 {w0 : qW} : yCOK w0 zgf zga zra zSp zgh C_spread_35_27.1 C_spread_35_27.2 := by
  intro d as w hd hm hI hn hp
  have e : as = [(2, 24), (2, 35), (2, 27)] := args3r hm
  subst e
  refine qG.mono (K_spreadZ35_27 hd w hI) ?_
  rintro _ w' _ ⟨rfl, rfl, hA⟩
  exact ⟨⟨rfl, Int.le_refl 0, Int.le_refl 0⟩, hA.1, rfl, hA.2, fun e he => (by cases he), fun z => (by cases z)⟩
theorem K_spreadZ36_27 {d : Nat} (hd : 5 ≤ d) (w : qW) (hI : yInv zgf zga zra zSp w) : qG none d 101 0 [(2, 24), (2, 36), (2, 27), (9, 0), (9, 0), (9, 0), (9, 0), (9, 0), (9, 0), (9, 0), (9, 0), (9, 0), (9, 0), (9, 0)] [] w 142 (fun (r : qV) (w1 : qW) (n1 : Nat) => r = (9, 0) ∧ n1 = 142 ∧ AW [27] w w1) := by
  generalize hQ9 : (fun (r : qV) (w1 : qW) (n1 : Nat) => r = (9, 0) ∧ n1 = 142 ∧ AW [27] w w1) = Q9
  obtain ⟨N5, hN5⟩ : ∃ N : Int, N = 540 := ⟨_, rfl⟩
  obtain ⟨d, rfl⟩ : ∃ d9, d = d9 + 1 := ⟨d - 1, by omega⟩
  refine qG.blk 8 (pc' := 11) (ls' := [(2, 24), (2, 36), (2, 27), (1, 0), (9, 0), (1, 0), (9, 0), (1, 0), (9, 0), (0, 0), (9, 0), (9, 0), (9, 0), (9, 0)]) (st' := []) (w' := w) (n' := 142) rfl ?_
  have L11 : ∀ (m9 : Nat) (g : Nat) (a b c : Int) (l10 l12 l13 : qV), 3 - g = m9 → (g ≤ 3 ∧ qi64 a ∧ qi64 b ∧ qi64 c) → qG none (d + 1) 101 11 [(2, 24), (2, 36), (2, 27), (1, a), (9, 0), (1, b), (9, 0), (1, c), (9, 0), (0, ((g : Nat) : Int)), l10, (9, 0), l12, l13] [] w 142 Q9 := by
    intro m9
    induction m9 using Nat.strongRecOn with
    | ind m9 ih11 =>
    intro g a b c l10 l12 l13 hm11 hI11
    obtain ⟨hg3, ha, hb, hc⟩ := hI11
    refine qG.blk 2 (pc' := 14) (ls' := [(2, 24), (2, 36), (2, 27), (1, a), (9, 0), (1, b), (9, 0), (1, c), (9, 0), (0, ((g : Nat) : Int)), l10, (9, 0), l12, l13]) (st' := [(0, 3), (0, ((g : Nat) : Int))]) (w' := w) (n' := 142) rfl ?_
    refine qG.br (P := ((g : Nat) : Int) < 3) (pc1 := 17) (pc2 := 138) (st1 := []) rfl (fun hg => ?_) (fun hg => ?_)
    · skip
      refine qG.blk 3 (pc' := 21) (ls' := [(2, 24), (2, 36), (2, 27), (1, a), (9, 0), (1, b), (9, 0), (1, c), (9, 0), (0, ((g : Nat) : Int)), l10, (9, 0), l12, l13]) (st' := [(0, 3), (0, ((g : Nat) : Int))]) (w' := w) (n' := 142) rfl ?_
      refine qG.br (P := ((g : Nat) : Int) < 3) (pc1 := 24) (pc2 := 138) (st1 := []) rfl (fun hgl => ?_) (fun hgl => ?_)
      · skip
        refine qG.blk 2 (pc' := 27) (ls' := [(2, 24), (2, 36), (2, 27), (1, a), (9, 0), (1, b), (9, 0), (1, c), (9, 0), (0, ((g : Nat) : Int)), l10, (9, 0), l12, l13]) (st' := [(0, ((g : Nat) : Int)), (2, 36)]) (w' := w) (n' := 142) rfl ?_
        refine qG.ar (P := 0 ≤ ((g : Nat) : Int) ∧ ((g : Nat) : Int) < ((3 : Nat) : Int)) (P2 := 0 < (36 : Int) ∧ (36 : Int) ≤ ((142 : Nat) : Int)) (pc' := 28) (ls' := [(2, 24), (2, 36), (2, 27), (1, a), (9, 0), (1, b), (9, 0), (1, c), (9, 0), (0, ((g : Nat) : Int)), l10, (9, 0), l12, l13]) (st' := [(1, w 36 g)]) (w' := w) (n' := 142) rfl (by omega) (by decide) ?_
        refine qG.blk 3 (pc' := 33) (ls' := [(2, 24), (2, 36), (2, 27), (1, a), (9, 0), (1, b), (9, 0), (1, c), (9, 0), (0, ((g : Nat) : Int)), (1, w 36 g), (9, 0), (0, 0), l13]) (st' := []) (w' := w) (n' := 142) rfl ?_
        have L33 : ∀ (m9 : Nat) (i : Nat) (a b c x : Int) (l13 : qV), 64 - i = m9 → (i ≤ 64 ∧ qi64 a ∧ qi64 b ∧ qi64 c ∧ qi64 x) → qG none (d + 1) 101 33 [(2, 24), (2, 36), (2, 27), (1, a), (9, 0), (1, b), (9, 0), (1, c), (9, 0), (0, ((g : Nat) : Int)), (1, x), (9, 0), (0, ((i : Nat) : Int)), l13] [] w 142 Q9 := by
          intro m9
          induction m9 using Nat.strongRecOn with
          | ind m9 ih33 =>
          intro i a b c x l13 hm33 hI33
          obtain ⟨hi64, ha, hb, hc, hx⟩ := hI33
          refine qG.blk 2 (pc' := 37) (ls' := [(2, 24), (2, 36), (2, 27), (1, a), (9, 0), (1, b), (9, 0), (1, c), (9, 0), (0, ((g : Nat) : Int)), (1, x), (9, 0), (0, ((i : Nat) : Int)), l13]) (st' := [(0, 64), (0, ((i : Nat) : Int))]) (w' := w) (n' := 142) rfl ?_
          refine qG.br (P := ((i : Nat) : Int) < 64) (pc1 := 40) (pc2 := 132) (st1 := []) rfl (fun hi65 => ?_) (fun hi65 => ?_)
          · skip
            refine qG.blk 3 (pc' := 44) (ls' := [(2, 24), (2, 36), (2, 27), (1, a), (9, 0), (1, b), (9, 0), (1, c), (9, 0), (0, ((g : Nat) : Int)), (1, x), (9, 0), (0, ((i : Nat) : Int)), l13]) (st' := [(0, qcmp x 0)]) (w' := w) (n' := 142) rfl ?_
            refine qG.br (P := qcmp x 0 = 0) (pc1 := 132) (pc2 := 47) (st1 := []) rfl (fun hx0 => ?_) (fun hx0 => ?_)
            · skip
              refine qG.blk 1 (pc' := 135) (ls' := [(2, 24), (2, 36), (2, 27), (1, a), (9, 0), (1, b), (9, 0), (1, c), (9, 0), (0, wrp (((g : Nat) : Int) + 1)), (1, x), (9, 0), (0, ((i : Nat) : Int)), l13]) (st' := []) (w' := w) (n' := 142) rfl ?_
              rw [show wrp (((g : Nat) : Int) + 1) = ((g + 1 : Nat) : Int) from wrp_id (by omega) (by omega)]
              refine qG.blk 1 (pc' := 11) (ls' := [(2, 24), (2, 36), (2, 27), (1, a), (9, 0), (1, b), (9, 0), (1, c), (9, 0), (0, ((g + 1 : Nat) : Int)), (1, x), (9, 0), (0, ((i : Nat) : Int)), l13]) (st' := []) (w' := w) (n' := 142) rfl ?_
              exact ih11 _ (by omega) (g + 1) (a) (b) (c) ((1, x)) ((0, ((i : Nat) : Int))) (l13) rfl (⟨by omega, ha, hb, hc⟩)
            · skip
              refine qG.blk 4 (pc' := 53) (ls' := [(2, 24), (2, 36), (2, 27), (1, a), (9, 0), (1, b), (9, 0), (1, c), (9, 0), (0, ((g : Nat) : Int)), (1, x), (9, 0), (0, ((i : Nat) : Int)), l13]) (st' := [(0, wrp (64 * ((g : Nat) : Int))), (0, 3)]) (w' := w) (n' := 142) rfl ?_
              rw [show wrp (64 * ((g : Nat) : Int)) = ((64 * g : Nat) : Int) from by rw [wrp_id (by omega) (by omega)]; omega]
              refine qG.blk 1 (pc' := 55) (ls' := [(2, 24), (2, 36), (2, 27), (1, a), (9, 0), (1, b), (9, 0), (1, c), (9, 0), (0, ((g : Nat) : Int)), (1, x), (9, 0), (0, ((i : Nat) : Int)), l13]) (st' := [(1, x), (0, ((64 * g : Nat) : Int)), (0, 3)]) (w' := w) (n' := 142) rfl ?_
              refine qG.call (t := 303) (na := 1) (sk := 0) (md := 0) (ls1 := [(1, x), (9, 0), (9, 0)]) (r1 := [(0, ((64 * g : Nat) : Int)), (0, 3)]) rfl rfl rfl rfl rfl (AW.use (c := C_nTZL.2) (as := [(1, x)]) (m := []) T_nTZL (AW.rf hI) (show 2 ≤ d by omega) ⟨⟨rfl, i64l hx, i64u hx⟩, trivial⟩ rfl rfl (by decide +kernel)) ?_
              rintro _ w7 _ ⟨x7, rfl, hl7, hu7, hA7, rfl, -⟩
              have e7 := hA7.nilz
              rw [e7]
              have hl7 : (0 : Int) ≤ x7 := hl7
              have hu7 : x7 ≤ (64 : Int) := hu7
              obtain ⟨s, rfl⟩ : ∃ s : Nat, x7 = (s : Int) := ⟨x7.toNat, by omega⟩
              show qG none (d + 1) 101 58 [(2, 24), (2, 36), (2, 27), (1, a), (9, 0), (1, b), (9, 0), (1, c), (9, 0), (0, ((g : Nat) : Int)), (1, x), (9, 0), (0, ((i : Nat) : Int)), l13] [(0, ((s : Nat) : Int)), (0, ((64 * g : Nat) : Int)), (0, 3)] w 142 Q9
              refine qG.blk 1 (pc' := 59) (ls' := [(2, 24), (2, 36), (2, 27), (1, a), (9, 0), (1, b), (9, 0), (1, c), (9, 0), (0, ((g : Nat) : Int)), (1, x), (9, 0), (0, ((i : Nat) : Int)), l13]) (st' := [(0, wrp (((64 * g : Nat) : Int) + ((s : Nat) : Int))), (0, 3)]) (w' := w) (n' := 142) rfl ?_
              rw [show wrp (((64 * g : Nat) : Int) + ((s : Nat) : Int)) = ((64 * g + s : Nat) : Int) from by rw [wrp_id (by omega) (by omega)]; omega]
              refine qG.blk 1 (pc' := 60) (ls' := [(2, 24), (2, 36), (2, 27), (1, a), (9, 0), (1, b), (9, 0), (1, c), (9, 0), (0, ((g : Nat) : Int)), (1, x), (9, 0), (0, ((i : Nat) : Int)), l13]) (st' := [(0, wrp (3 * ((64 * g + s : Nat) : Int)))]) (w' := w) (n' := 142) rfl ?_
              rw [show wrp (3 * ((64 * g + s : Nat) : Int)) = ((3 * (64 * g + s) : Nat) : Int) from by rw [wrp_id (by omega) (by omega)]; omega]
              refine qG.blk 5 (pc' := 68) (ls' := [(2, 24), (2, 36), (2, 27), (1, a), (9, 0), (1, b), (9, 0), (1, c), (9, 0), (0, ((g : Nat) : Int)), (1, x), (9, 0), (0, ((i : Nat) : Int)), (0, ((3 * (64 * g + s) : Nat) : Int))]) (st' := [(1, wrl (x - 1)), (1, x)]) (w' := w) (n' := 142) rfl ?_
              refine qG.blk 3 (pc' := 73) (ls' := [(2, 24), (2, 36), (2, 27), (1, a), (9, 0), (1, b), (9, 0), (1, c), (9, 0), (0, ((g : Nat) : Int)), (1, qland x (wrl (x - 1))), (9, 0), (0, ((i : Nat) : Int)), (0, ((3 * (64 * g + s) : Nat) : Int))]) (st' := [(0, ((3 * (64 * g + s) : Nat) : Int))]) (w' := w) (n' := 142) rfl ?_
              refine qG.br (P := ((3 * (64 * g + s) : Nat) : Int) < 0) (pc1 := 126) (pc2 := 76) (st1 := []) rfl (fun hr0 => ?_) (fun hr0 => ?_)
              · exfalso; omega
              · skip
                refine qG.blk 3 (pc' := 80) (ls' := [(2, 24), (2, 36), (2, 27), (1, a), (9, 0), (1, b), (9, 0), (1, c), (9, 0), (0, ((g : Nat) : Int)), (1, qland x (wrl (x - 1))), (9, 0), (0, ((i : Nat) : Int)), (0, ((3 * (64 * g + s) : Nat) : Int))]) (st' := [(0, wrp (((3 * (64 * g + s) : Nat) : Int) + 2))]) (w' := w) (n' := 142) rfl ?_
                rw [show wrp (((3 * (64 * g + s) : Nat) : Int) + 2) = ((3 * (64 * g + s) + 2 : Nat) : Int) from by rw [wrp_id (by omega) (by omega)]; omega]
                refine qG.blk 2 (pc' := 84) (ls' := [(2, 24), (2, 36), (2, 27), (1, a), (9, 0), (1, b), (9, 0), (1, c), (9, 0), (0, ((g : Nat) : Int)), (1, qland x (wrl (x - 1))), (9, 0), (0, ((i : Nat) : Int)), (0, ((3 * (64 * g + s) : Nat) : Int))]) (st' := [(2, w 24 5), (0, ((3 * (64 * g + s) + 2 : Nat) : Int))]) (w' := w) (n' := 142) rfl ?_
                rw [show w 24 5 = 26 from zrefz hI rfl rfl]
                refine qG.blk 1 (pc' := 85) (ls' := [(2, 24), (2, 36), (2, 27), (1, a), (9, 0), (1, b), (9, 0), (1, c), (9, 0), (0, ((g : Nat) : Int)), (1, qland x (wrl (x - 1))), (9, 0), (0, ((i : Nat) : Int)), (0, ((3 * (64 * g + s) : Nat) : Int))]) (st' := [(0, 540), (0, ((3 * (64 * g + s) + 2 : Nat) : Int))]) (w' := w) (n' := 142) rfl ?_
                rw [show (540 : Int) = N5 from hN5.symm]
                refine qG.br (P := ((3 * (64 * g + s) + 2 : Nat) : Int) < N5) (pc1 := 88) (pc2 := 126) (st1 := []) rfl (fun h540 => ?_) (fun h540 => ?_)
                · skip
                  refine qG.blk 3 (pc' := 93) (ls' := [(2, 24), (2, 36), (2, 27), (1, a), (9, 0), (1, b), (9, 0), (1, c), (9, 0), (0, ((g : Nat) : Int)), (1, qland x (wrl (x - 1))), (9, 0), (0, ((i : Nat) : Int)), (0, ((3 * (64 * g + s) : Nat) : Int))]) (st' := [(2, w 24 5), (1, a)]) (w' := w) (n' := 142) rfl ?_
                  rw [show w 24 5 = 26 from zrefz hI rfl rfl]
                  refine qG.blk 1 (pc' := 95) (ls' := [(2, 24), (2, 36), (2, 27), (1, a), (9, 0), (1, b), (9, 0), (1, c), (9, 0), (0, ((g : Nat) : Int)), (1, qland x (wrl (x - 1))), (9, 0), (0, ((i : Nat) : Int)), (0, ((3 * (64 * g + s) : Nat) : Int))]) (st' := [(0, ((3 * (64 * g + s) : Nat) : Int)), (2, 26), (1, a)]) (w' := w) (n' := 142) rfl ?_
                  refine qG.lldz (m := 540) rfl rfl (by omega) (by decide) ?_
                  show qG none (d + 1) 101 96 [(2, 24), (2, 36), (2, 27), (1, a), (9, 0), (1, b), (9, 0), (1, c), (9, 0), (0, ((g : Nat) : Int)), (1, qland x (wrl (x - 1))), (9, 0), (0, ((i : Nat) : Int)), (0, ((3 * (64 * g + s) : Nat) : Int))] [(1, w 26 (3 * (64 * g + s))), (1, a)] w 142 Q9
                  refine qG.blk 5 (pc' := 104) (ls' := [(2, 24), (2, 36), (2, 27), (1, qlor a (w 26 (3 * (64 * g + s)))), (9, 0), (1, b), (9, 0), (1, c), (9, 0), (0, ((g : Nat) : Int)), (1, qland x (wrl (x - 1))), (9, 0), (0, ((i : Nat) : Int)), (0, ((3 * (64 * g + s) : Nat) : Int))]) (st' := [(2, w 24 5), (1, b)]) (w' := w) (n' := 142) rfl ?_
                  rw [show w 24 5 = 26 from zrefz hI rfl rfl]
                  refine qG.blk 3 (pc' := 108) (ls' := [(2, 24), (2, 36), (2, 27), (1, qlor a (w 26 (3 * (64 * g + s)))), (9, 0), (1, b), (9, 0), (1, c), (9, 0), (0, ((g : Nat) : Int)), (1, qland x (wrl (x - 1))), (9, 0), (0, ((i : Nat) : Int)), (0, ((3 * (64 * g + s) : Nat) : Int))]) (st' := [(0, wrp (((3 * (64 * g + s) : Nat) : Int) + 1)), (2, 26), (1, b)]) (w' := w) (n' := 142) rfl ?_
                  rw [show wrp (((3 * (64 * g + s) : Nat) : Int) + 1) = ((3 * (64 * g + s) + 1 : Nat) : Int) from by rw [wrp_id (by omega) (by omega)]; omega]
                  refine qG.lldz (m := 540) rfl rfl (by omega) (by decide) ?_
                  show qG none (d + 1) 101 109 [(2, 24), (2, 36), (2, 27), (1, qlor a (w 26 (3 * (64 * g + s)))), (9, 0), (1, b), (9, 0), (1, c), (9, 0), (0, ((g : Nat) : Int)), (1, qland x (wrl (x - 1))), (9, 0), (0, ((i : Nat) : Int)), (0, ((3 * (64 * g + s) : Nat) : Int))] [(1, w 26 (3 * (64 * g + s) + 1)), (1, b)] w 142 Q9
                  refine qG.blk 5 (pc' := 118) (ls' := [(2, 24), (2, 36), (2, 27), (1, qlor a (w 26 (3 * (64 * g + s)))), (9, 0), (1, qlor b (w 26 (3 * (64 * g + s) + 1))), (9, 0), (1, c), (9, 0), (0, ((g : Nat) : Int)), (1, qland x (wrl (x - 1))), (9, 0), (0, ((i : Nat) : Int)), (0, ((3 * (64 * g + s) : Nat) : Int))]) (st' := [(2, w 24 5), (1, c)]) (w' := w) (n' := 142) rfl ?_
                  rw [show w 24 5 = 26 from zrefz hI rfl rfl]
                  refine qG.blk 3 (pc' := 122) (ls' := [(2, 24), (2, 36), (2, 27), (1, qlor a (w 26 (3 * (64 * g + s)))), (9, 0), (1, qlor b (w 26 (3 * (64 * g + s) + 1))), (9, 0), (1, c), (9, 0), (0, ((g : Nat) : Int)), (1, qland x (wrl (x - 1))), (9, 0), (0, ((i : Nat) : Int)), (0, ((3 * (64 * g + s) : Nat) : Int))]) (st' := [(0, wrp (((3 * (64 * g + s) : Nat) : Int) + 2)), (2, 26), (1, c)]) (w' := w) (n' := 142) rfl ?_
                  rw [show wrp (((3 * (64 * g + s) : Nat) : Int) + 2) = ((3 * (64 * g + s) + 2 : Nat) : Int) from by rw [wrp_id (by omega) (by omega)]; omega]
                  refine qG.lldz (m := 540) rfl rfl (by omega) (by decide) ?_
                  show qG none (d + 1) 101 123 [(2, 24), (2, 36), (2, 27), (1, qlor a (w 26 (3 * (64 * g + s)))), (9, 0), (1, qlor b (w 26 (3 * (64 * g + s) + 1))), (9, 0), (1, c), (9, 0), (0, ((g : Nat) : Int)), (1, qland x (wrl (x - 1))), (9, 0), (0, ((i : Nat) : Int)), (0, ((3 * (64 * g + s) : Nat) : Int))] [(1, w 26 (3 * (64 * g + s) + 2)), (1, c)] w 142 Q9
                  refine qG.blk 3 (pc' := 129) (ls' := [(2, 24), (2, 36), (2, 27), (1, qlor a (w 26 (3 * (64 * g + s)))), (9, 0), (1, qlor b (w 26 (3 * (64 * g + s) + 1))), (9, 0), (1, qlor c (w 26 (3 * (64 * g + s) + 2))), (9, 0), (0, ((g : Nat) : Int)), (1, qland x (wrl (x - 1))), (9, 0), (0, wrp (((i : Nat) : Int) + 1)), (0, ((3 * (64 * g + s) : Nat) : Int))]) (st' := []) (w' := w) (n' := 142) rfl ?_
                  rw [show wrp (((i : Nat) : Int) + 1) = ((i + 1 : Nat) : Int) from wrp_id (by omega) (by omega)]
                  refine qG.blk 1 (pc' := 33) (ls' := [(2, 24), (2, 36), (2, 27), (1, qlor a (w 26 (3 * (64 * g + s)))), (9, 0), (1, qlor b (w 26 (3 * (64 * g + s) + 1))), (9, 0), (1, qlor c (w 26 (3 * (64 * g + s) + 2))), (9, 0), (0, ((g : Nat) : Int)), (1, qland x (wrl (x - 1))), (9, 0), (0, ((i + 1 : Nat) : Int)), (0, ((3 * (64 * g + s) : Nat) : Int))]) (st' := []) (w' := w) (n' := 142) rfl ?_
                  exact ih33 _ (by omega) (i + 1) (qlor a (w 26 (3 * (64 * g + s)))) (qlor b (w 26 (3 * (64 * g + s) + 1))) (qlor c (w 26 (3 * (64 * g + s) + 2))) (qland x (wrl (x - 1))) ((0, ((3 * (64 * g + s) : Nat) : Int))) rfl (⟨by omega, by first | exact ha | exact qlorz _ _, by first | exact hb | exact qlorz _ _, by first | exact hc | exact qlorz _ _, qlandz _ _⟩)
                · skip
                  refine qG.blk 1 (pc' := 129) (ls' := [(2, 24), (2, 36), (2, 27), (1, a), (9, 0), (1, b), (9, 0), (1, c), (9, 0), (0, ((g : Nat) : Int)), (1, qland x (wrl (x - 1))), (9, 0), (0, wrp (((i : Nat) : Int) + 1)), (0, ((3 * (64 * g + s) : Nat) : Int))]) (st' := []) (w' := w) (n' := 142) rfl ?_
                  rw [show wrp (((i : Nat) : Int) + 1) = ((i + 1 : Nat) : Int) from wrp_id (by omega) (by omega)]
                  refine qG.blk 1 (pc' := 33) (ls' := [(2, 24), (2, 36), (2, 27), (1, a), (9, 0), (1, b), (9, 0), (1, c), (9, 0), (0, ((g : Nat) : Int)), (1, qland x (wrl (x - 1))), (9, 0), (0, ((i + 1 : Nat) : Int)), (0, ((3 * (64 * g + s) : Nat) : Int))]) (st' := []) (w' := w) (n' := 142) rfl ?_
                  exact ih33 _ (by omega) (i + 1) (a) (b) (c) (qland x (wrl (x - 1))) ((0, ((3 * (64 * g + s) : Nat) : Int))) rfl (⟨by omega, by first | exact ha | exact qlorz _ _, by first | exact hb | exact qlorz _ _, by first | exact hc | exact qlorz _ _, qlandz _ _⟩)
          · skip
            refine qG.blk 1 (pc' := 135) (ls' := [(2, 24), (2, 36), (2, 27), (1, a), (9, 0), (1, b), (9, 0), (1, c), (9, 0), (0, wrp (((g : Nat) : Int) + 1)), (1, x), (9, 0), (0, ((i : Nat) : Int)), l13]) (st' := []) (w' := w) (n' := 142) rfl ?_
            rw [show wrp (((g : Nat) : Int) + 1) = ((g + 1 : Nat) : Int) from wrp_id (by omega) (by omega)]
            refine qG.blk 1 (pc' := 11) (ls' := [(2, 24), (2, 36), (2, 27), (1, a), (9, 0), (1, b), (9, 0), (1, c), (9, 0), (0, ((g + 1 : Nat) : Int)), (1, x), (9, 0), (0, ((i : Nat) : Int)), l13]) (st' := []) (w' := w) (n' := 142) rfl ?_
            exact ih11 _ (by omega) (g + 1) (a) (b) (c) ((1, x)) ((0, ((i : Nat) : Int))) (l13) rfl (⟨by omega, ha, hb, hc⟩)
        exact L33 _ (0) (a) (b) (c) (w 36 g) (l13) rfl (⟨Nat.zero_le _, ha, hb, hc, arrz hI rfl rfl⟩)
      · exfalso; omega
    · skip
      refine qG.blk 4 (pc' := 144) (ls' := [(2, 24), (2, 36), (2, 27), (1, a), (9, 0), (1, b), (9, 0), (1, c), (9, 0), (0, ((g : Nat) : Int)), l10, (9, 0), l12, l13]) (st' := [(1, c), (1, b), (1, a), (2, 27)]) (w' := w) (n' := 142) rfl ?_
      refine qG.call (t := 105) (na := 4) (sk := 0) (md := 0) (ls1 := [(2, 27), (1, a), (9, 0), (1, b), (9, 0), (1, c), (9, 0)]) (r1 := []) rfl rfl rfl rfl rfl (AW.use (c := C_putRow27.2) (as := [(2, 27), (1, a), (1, b), (1, c)]) (m := [27]) T_putRow27 (AW.rf hI) (show 1 ≤ d by omega) ⟨⟨rfl, by decide, by decide⟩, ⟨rfl, i64l ha, i64u ha⟩, ⟨rfl, i64l hb, i64u hb⟩, ⟨rfl, i64l hc, i64u hc⟩, trivial⟩ rfl rfl (by decide +kernel)) ?_
      rintro _ w0 _ ⟨x7, rfl, -, -, hA7, rfl, -⟩
      show qG none (d + 1) 101 147 [(2, 24), (2, 36), (2, 27), (1, a), (9, 0), (1, b), (9, 0), (1, c), (9, 0), (0, ((g : Nat) : Int)), l10, (9, 0), l12, l13] [] w0 142 Q9
      refine qG.retv rfl rfl ?_
      subst hQ9
      exact ⟨rfl, rfl, hA7⟩
  exact L11 _ (0) (0) (0) (0) ((9, 0)) ((9, 0)) ((9, 0)) rfl (⟨Nat.zero_le _, ⟨by decide, by decide⟩, ⟨by decide, by decide⟩, ⟨by decide, by decide⟩⟩)
noncomputable def C_spread_36_27 : Nat × yC := (101, (5, [(2, 24, 24), (2, 36, 36), (2, 27, 27)], (9, 0, 0), [27], [], [], [], 0, []))
theorem T_spread_36_27 {w0 : qW} : yCOK w0 zgf zga zra zSp zgh C_spread_36_27.1 C_spread_36_27.2 := by
  intro d as w hd hm hI hn hp
  have e : as = [(2, 24), (2, 36), (2, 27)] := args3r hm
  subst e
  refine qG.mono (K_spreadZ36_27 hd w hI) ?_
  rintro _ w' _ ⟨rfl, rfl, hA⟩
  exact ⟨⟨rfl, Int.le_refl 0, Int.le_refl 0⟩, hA.1, rfl, hA.2, fun e he => (by cases he), fun z => (by cases z)⟩
theorem K_spreadZ37_27 {d : Nat} (hd : 5 ≤ d) (w : qW) (hI : yInv zgf zga zra zSp w) : qG none d 101 0 [(2, 24), (2, 37), (2, 27), (9, 0), (9, 0), (9, 0), (9, 0), (9, 0), (9, 0), (9, 0), (9, 0), (9, 0), (9, 0), (9, 0)] [] w 142 (fun (r : qV) (w1 : qW) (n1 : Nat) => r = (9, 0) ∧ n1 = 142 ∧ AW [27] w w1) := by
  generalize hQ9 : (fun (r : qV) (w1 : qW) (n1 : Nat) => r = (9, 0) ∧ n1 = 142 ∧ AW [27] w w1) = Q9
  obtain ⟨N5, hN5⟩ : ∃ N : Int, N = 540 := ⟨_, rfl⟩
  obtain ⟨d, rfl⟩ : ∃ d9, d = d9 + 1 := ⟨d - 1, by omega⟩
  refine qG.blk 8 (pc' := 11) (ls' := [(2, 24), (2, 37), (2, 27), (1, 0), (9, 0), (1, 0), (9, 0), (1, 0), (9, 0), (0, 0), (9, 0), (9, 0), (9, 0), (9, 0)]) (st' := []) (w' := w) (n' := 142) rfl ?_
  have L11 : ∀ (m9 : Nat) (g : Nat) (a b c : Int) (l10 l12 l13 : qV), 3 - g = m9 → (g ≤ 3 ∧ qi64 a ∧ qi64 b ∧ qi64 c) → qG none (d + 1) 101 11 [(2, 24), (2, 37), (2, 27), (1, a), (9, 0), (1, b), (9, 0), (1, c), (9, 0), (0, ((g : Nat) : Int)), l10, (9, 0), l12, l13] [] w 142 Q9 := by
    intro m9
    induction m9 using Nat.strongRecOn with
    | ind m9 ih11 =>
    intro g a b c l10 l12 l13 hm11 hI11
    obtain ⟨hg3, ha, hb, hc⟩ := hI11
    refine qG.blk 2 (pc' := 14) (ls' := [(2, 24), (2, 37), (2, 27), (1, a), (9, 0), (1, b), (9, 0), (1, c), (9, 0), (0, ((g : Nat) : Int)), l10, (9, 0), l12, l13]) (st' := [(0, 3), (0, ((g : Nat) : Int))]) (w' := w) (n' := 142) rfl ?_
    refine qG.br (P := ((g : Nat) : Int) < 3) (pc1 := 17) (pc2 := 138) (st1 := []) rfl (fun hg => ?_) (fun hg => ?_)
    · skip
      refine qG.blk 3 (pc' := 21) (ls' := [(2, 24), (2, 37), (2, 27), (1, a), (9, 0), (1, b), (9, 0), (1, c), (9, 0), (0, ((g : Nat) : Int)), l10, (9, 0), l12, l13]) (st' := [(0, 3), (0, ((g : Nat) : Int))]) (w' := w) (n' := 142) rfl ?_
      refine qG.br (P := ((g : Nat) : Int) < 3) (pc1 := 24) (pc2 := 138) (st1 := []) rfl (fun hgl => ?_) (fun hgl => ?_)
      · skip
        refine qG.blk 2 (pc' := 27) (ls' := [(2, 24), (2, 37), (2, 27), (1, a), (9, 0), (1, b), (9, 0), (1, c), (9, 0), (0, ((g : Nat) : Int)), l10, (9, 0), l12, l13]) (st' := [(0, ((g : Nat) : Int)), (2, 37)]) (w' := w) (n' := 142) rfl ?_
        refine qG.ar (P := 0 ≤ ((g : Nat) : Int) ∧ ((g : Nat) : Int) < ((3 : Nat) : Int)) (P2 := 0 < (37 : Int) ∧ (37 : Int) ≤ ((142 : Nat) : Int)) (pc' := 28) (ls' := [(2, 24), (2, 37), (2, 27), (1, a), (9, 0), (1, b), (9, 0), (1, c), (9, 0), (0, ((g : Nat) : Int)), l10, (9, 0), l12, l13]) (st' := [(1, w 37 g)]) (w' := w) (n' := 142) rfl (by omega) (by decide) ?_
        refine qG.blk 3 (pc' := 33) (ls' := [(2, 24), (2, 37), (2, 27), (1, a), (9, 0), (1, b), (9, 0), (1, c), (9, 0), (0, ((g : Nat) : Int)), (1, w 37 g), (9, 0), (0, 0), l13]) (st' := []) (w' := w) (n' := 142) rfl ?_
        have L33 : ∀ (m9 : Nat) (i : Nat) (a b c x : Int) (l13 : qV), 64 - i = m9 → (i ≤ 64 ∧ qi64 a ∧ qi64 b ∧ qi64 c ∧ qi64 x) → qG none (d + 1) 101 33 [(2, 24), (2, 37), (2, 27), (1, a), (9, 0), (1, b), (9, 0), (1, c), (9, 0), (0, ((g : Nat) : Int)), (1, x), (9, 0), (0, ((i : Nat) : Int)), l13] [] w 142 Q9 := by
          intro m9
          induction m9 using Nat.strongRecOn with
          | ind m9 ih33 =>
          intro i a b c x l13 hm33 hI33
          obtain ⟨hi64, ha, hb, hc, hx⟩ := hI33
          refine qG.blk 2 (pc' := 37) (ls' := [(2, 24), (2, 37), (2, 27), (1, a), (9, 0), (1, b), (9, 0), (1, c), (9, 0), (0, ((g : Nat) : Int)), (1, x), (9, 0), (0, ((i : Nat) : Int)), l13]) (st' := [(0, 64), (0, ((i : Nat) : Int))]) (w' := w) (n' := 142) rfl ?_
          refine qG.br (P := ((i : Nat) : Int) < 64) (pc1 := 40) (pc2 := 132) (st1 := []) rfl (fun hi65 => ?_) (fun hi65 => ?_)
          · skip
            refine qG.blk 3 (pc' := 44) (ls' := [(2, 24), (2, 37), (2, 27), (1, a), (9, 0), (1, b), (9, 0), (1, c), (9, 0), (0, ((g : Nat) : Int)), (1, x), (9, 0), (0, ((i : Nat) : Int)), l13]) (st' := [(0, qcmp x 0)]) (w' := w) (n' := 142) rfl ?_
            refine qG.br (P := qcmp x 0 = 0) (pc1 := 132) (pc2 := 47) (st1 := []) rfl (fun hx0 => ?_) (fun hx0 => ?_)
            · skip
              refine qG.blk 1 (pc' := 135) (ls' := [(2, 24), (2, 37), (2, 27), (1, a), (9, 0), (1, b), (9, 0), (1, c), (9, 0), (0, wrp (((g : Nat) : Int) + 1)), (1, x), (9, 0), (0, ((i : Nat) : Int)), l13]) (st' := []) (w' := w) (n' := 142) rfl ?_
              rw [show wrp (((g : Nat) : Int) + 1) = ((g + 1 : Nat) : Int) from wrp_id (by omega) (by omega)]
              refine qG.blk 1 (pc' := 11) (ls' := [(2, 24), (2, 37), (2, 27), (1, a), (9, 0), (1, b), (9, 0), (1, c), (9, 0), (0, ((g + 1 : Nat) : Int)), (1, x), (9, 0), (0, ((i : Nat) : Int)), l13]) (st' := []) (w' := w) (n' := 142) rfl ?_
              exact ih11 _ (by omega) (g + 1) (a) (b) (c) ((1, x)) ((0, ((i : Nat) : Int))) (l13) rfl (⟨by omega, ha, hb, hc⟩)
            · skip
              refine qG.blk 4 (pc' := 53) (ls' := [(2, 24), (2, 37), (2, 27), (1, a), (9, 0), (1, b), (9, 0), (1, c), (9, 0), (0, ((g : Nat) : Int)), (1, x), (9, 0), (0, ((i : Nat) : Int)), l13]) (st' := [(0, wrp (64 * ((g : Nat) : Int))), (0, 3)]) (w' := w) (n' := 142) rfl ?_
              rw [show wrp (64 * ((g : Nat) : Int)) = ((64 * g : Nat) : Int) from by rw [wrp_id (by omega) (by omega)]; omega]
              refine qG.blk 1 (pc' := 55) (ls' := [(2, 24), (2, 37), (2, 27), (1, a), (9, 0), (1, b), (9, 0), (1, c), (9, 0), (0, ((g : Nat) : Int)), (1, x), (9, 0), (0, ((i : Nat) : Int)), l13]) (st' := [(1, x), (0, ((64 * g : Nat) : Int)), (0, 3)]) (w' := w) (n' := 142) rfl ?_
              refine qG.call (t := 303) (na := 1) (sk := 0) (md := 0) (ls1 := [(1, x), (9, 0), (9, 0)]) (r1 := [(0, ((64 * g : Nat) : Int)), (0, 3)]) rfl rfl rfl rfl rfl (AW.use (c := C_nTZL.2) (as := [(1, x)]) (m := []) T_nTZL (AW.rf hI) (show 2 ≤ d by omega) ⟨⟨rfl, i64l hx, i64u hx⟩, trivial⟩ rfl rfl (by decide +kernel)) ?_
              rintro _ w7 _ ⟨x7, rfl, hl7, hu7, hA7, rfl, -⟩
              have e7 := hA7.nilz
              rw [e7]
              have hl7 : (0 : Int) ≤ x7 := hl7
              have hu7 : x7 ≤ (64 : Int) := hu7
              obtain ⟨s, rfl⟩ : ∃ s : Nat, x7 = (s : Int) := ⟨x7.toNat, by omega⟩
              show qG none (d + 1) 101 58 [(2, 24), (2, 37), (2, 27), (1, a), (9, 0), (1, b), (9, 0), (1, c), (9, 0), (0, ((g : Nat) : Int)), (1, x), (9, 0), (0, ((i : Nat) : Int)), l13] [(0, ((s : Nat) : Int)), (0, ((64 * g : Nat) : Int)), (0, 3)] w 142 Q9
              refine qG.blk 1 (pc' := 59) (ls' := [(2, 24), (2, 37), (2, 27), (1, a), (9, 0), (1, b), (9, 0), (1, c), (9, 0), (0, ((g : Nat) : Int)), (1, x), (9, 0), (0, ((i : Nat) : Int)), l13]) (st' := [(0, wrp (((64 * g : Nat) : Int) + ((s : Nat) : Int))), (0, 3)]) (w' := w) (n' := 142) rfl ?_
              rw [show wrp (((64 * g : Nat) : Int) + ((s : Nat) : Int)) = ((64 * g + s : Nat) : Int) from by rw [wrp_id (by omega) (by omega)]; omega]
              refine qG.blk 1 (pc' := 60) (ls' := [(2, 24), (2, 37), (2, 27), (1, a), (9, 0), (1, b), (9, 0), (1, c), (9, 0), (0, ((g : Nat) : Int)), (1, x), (9, 0), (0, ((i : Nat) : Int)), l13]) (st' := [(0, wrp (3 * ((64 * g + s : Nat) : Int)))]) (w' := w) (n' := 142) rfl ?_
              rw [show wrp (3 * ((64 * g + s : Nat) : Int)) = ((3 * (64 * g + s) : Nat) : Int) from by rw [wrp_id (by omega) (by omega)]; omega]
              refine qG.blk 5 (pc' := 68) (ls' := [(2, 24), (2, 37), (2, 27), (1, a), (9, 0), (1, b), (9, 0), (1, c), (9, 0), (0, ((g : Nat) : Int)), (1, x), (9, 0), (0, ((i : Nat) : Int)), (0, ((3 * (64 * g + s) : Nat) : Int))]) (st' := [(1, wrl (x - 1)), (1, x)]) (w' := w) (n' := 142) rfl ?_
              refine qG.blk 3 (pc' := 73) (ls' := [(2, 24), (2, 37), (2, 27), (1, a), (9, 0), (1, b), (9, 0), (1, c), (9, 0), (0, ((g : Nat) : Int)), (1, qland x (wrl (x - 1))), (9, 0), (0, ((i : Nat) : Int)), (0, ((3 * (64 * g + s) : Nat) : Int))]) (st' := [(0, ((3 * (64 * g + s) : Nat) : Int))]) (w' := w) (n' := 142) rfl ?_
              refine qG.br (P := ((3 * (64 * g + s) : Nat) : Int) < 0) (pc1 := 126) (pc2 := 76) (st1 := []) rfl (fun hr0 => ?_) (fun hr0 => ?_)
              · exfalso; omega
              · skip
                refine qG.blk 3 (pc' := 80) (ls' := [(2, 24), (2, 37), (2, 27), (1, a), (9, 0), (1, b), (9, 0), (1, c), (9, 0), (0, ((g : Nat) : Int)), (1, qland x (wrl (x - 1))), (9, 0), (0, ((i : Nat) : Int)), (0, ((3 * (64 * g + s) : Nat) : Int))]) (st' := [(0, wrp (((3 * (64 * g + s) : Nat) : Int) + 2))]) (w' := w) (n' := 142) rfl ?_
                rw [show wrp (((3 * (64 * g + s) : Nat) : Int) + 2) = ((3 * (64 * g + s) + 2 : Nat) : Int) from by rw [wrp_id (by omega) (by omega)]; omega]
                refine qG.blk 2 (pc' := 84) (ls' := [(2, 24), (2, 37), (2, 27), (1, a), (9, 0), (1, b), (9, 0), (1, c), (9, 0), (0, ((g : Nat) : Int)), (1, qland x (wrl (x - 1))), (9, 0), (0, ((i : Nat) : Int)), (0, ((3 * (64 * g + s) : Nat) : Int))]) (st' := [(2, w 24 5), (0, ((3 * (64 * g + s) + 2 : Nat) : Int))]) (w' := w) (n' := 142) rfl ?_
                rw [show w 24 5 = 26 from zrefz hI rfl rfl]
                refine qG.blk 1 (pc' := 85) (ls' := [(2, 24), (2, 37), (2, 27), (1, a), (9, 0), (1, b), (9, 0), (1, c), (9, 0), (0, ((g : Nat) : Int)), (1, qland x (wrl (x - 1))), (9, 0), (0, ((i : Nat) : Int)), (0, ((3 * (64 * g + s) : Nat) : Int))]) (st' := [(0, 540), (0, ((3 * (64 * g + s) + 2 : Nat) : Int))]) (w' := w) (n' := 142) rfl ?_
                rw [show (540 : Int) = N5 from hN5.symm]
                refine qG.br (P := ((3 * (64 * g + s) + 2 : Nat) : Int) < N5) (pc1 := 88) (pc2 := 126) (st1 := []) rfl (fun h540 => ?_) (fun h540 => ?_)
                · skip
                  refine qG.blk 3 (pc' := 93) (ls' := [(2, 24), (2, 37), (2, 27), (1, a), (9, 0), (1, b), (9, 0), (1, c), (9, 0), (0, ((g : Nat) : Int)), (1, qland x (wrl (x - 1))), (9, 0), (0, ((i : Nat) : Int)), (0, ((3 * (64 * g + s) : Nat) : Int))]) (st' := [(2, w 24 5), (1, a)]) (w' := w) (n' := 142) rfl ?_
                  rw [show w 24 5 = 26 from zrefz hI rfl rfl]
                  refine qG.blk 1 (pc' := 95) (ls' := [(2, 24), (2, 37), (2, 27), (1, a), (9, 0), (1, b), (9, 0), (1, c), (9, 0), (0, ((g : Nat) : Int)), (1, qland x (wrl (x - 1))), (9, 0), (0, ((i : Nat) : Int)), (0, ((3 * (64 * g + s) : Nat) : Int))]) (st' := [(0, ((3 * (64 * g + s) : Nat) : Int)), (2, 26), (1, a)]) (w' := w) (n' := 142) rfl ?_
                  refine qG.lldz (m := 540) rfl rfl (by omega) (by decide) ?_
                  show qG none (d + 1) 101 96 [(2, 24), (2, 37), (2, 27), (1, a), (9, 0), (1, b), (9, 0), (1, c), (9, 0), (0, ((g : Nat) : Int)), (1, qland x (wrl (x - 1))), (9, 0), (0, ((i : Nat) : Int)), (0, ((3 * (64 * g + s) : Nat) : Int))] [(1, w 26 (3 * (64 * g + s))), (1, a)] w 142 Q9
                  refine qG.blk 5 (pc' := 104) (ls' := [(2, 24), (2, 37), (2, 27), (1, qlor a (w 26 (3 * (64 * g + s)))), (9, 0), (1, b), (9, 0), (1, c), (9, 0), (0, ((g : Nat) : Int)), (1, qland x (wrl (x - 1))), (9, 0), (0, ((i : Nat) : Int)), (0, ((3 * (64 * g + s) : Nat) : Int))]) (st' := [(2, w 24 5), (1, b)]) (w' := w) (n' := 142) rfl ?_
                  rw [show w 24 5 = 26 from zrefz hI rfl rfl]
                  refine qG.blk 3 (pc' := 108) (ls' := [(2, 24), (2, 37), (2, 27), (1, qlor a (w 26 (3 * (64 * g + s)))), (9, 0), (1, b), (9, 0), (1, c), (9, 0), (0, ((g : Nat) : Int)), (1, qland x (wrl (x - 1))), (9, 0), (0, ((i : Nat) : Int)), (0, ((3 * (64 * g + s) : Nat) : Int))]) (st' := [(0, wrp (((3 * (64 * g + s) : Nat) : Int) + 1)), (2, 26), (1, b)]) (w' := w) (n' := 142) rfl ?_
                  rw [show wrp (((3 * (64 * g + s) : Nat) : Int) + 1) = ((3 * (64 * g + s) + 1 : Nat) : Int) from by rw [wrp_id (by omega) (by omega)]; omega]
                  refine qG.lldz (m := 540) rfl rfl (by omega) (by decide) ?_
                  show qG none (d + 1) 101 109 [(2, 24), (2, 37), (2, 27), (1, qlor a (w 26 (3 * (64 * g + s)))), (9, 0), (1, b), (9, 0), (1, c), (9, 0), (0, ((g : Nat) : Int)), (1, qland x (wrl (x - 1))), (9, 0), (0, ((i : Nat) : Int)), (0, ((3 * (64 * g + s) : Nat) : Int))] [(1, w 26 (3 * (64 * g + s) + 1)), (1, b)] w 142 Q9
                  refine qG.blk 5 (pc' := 118) (ls' := [(2, 24), (2, 37), (2, 27), (1, qlor a (w 26 (3 * (64 * g + s)))), (9, 0), (1, qlor b (w 26 (3 * (64 * g + s) + 1))), (9, 0), (1, c), (9, 0), (0, ((g : Nat) : Int)), (1, qland x (wrl (x - 1))), (9, 0), (0, ((i : Nat) : Int)), (0, ((3 * (64 * g + s) : Nat) : Int))]) (st' := [(2, w 24 5), (1, c)]) (w' := w) (n' := 142) rfl ?_
                  rw [show w 24 5 = 26 from zrefz hI rfl rfl]
                  refine qG.blk 3 (pc' := 122) (ls' := [(2, 24), (2, 37), (2, 27), (1, qlor a (w 26 (3 * (64 * g + s)))), (9, 0), (1, qlor b (w 26 (3 * (64 * g + s) + 1))), (9, 0), (1, c), (9, 0), (0, ((g : Nat) : Int)), (1, qland x (wrl (x - 1))), (9, 0), (0, ((i : Nat) : Int)), (0, ((3 * (64 * g + s) : Nat) : Int))]) (st' := [(0, wrp (((3 * (64 * g + s) : Nat) : Int) + 2)), (2, 26), (1, c)]) (w' := w) (n' := 142) rfl ?_
                  rw [show wrp (((3 * (64 * g + s) : Nat) : Int) + 2) = ((3 * (64 * g + s) + 2 : Nat) : Int) from by rw [wrp_id (by omega) (by omega)]; omega]
                  refine qG.lldz (m := 540) rfl rfl (by omega) (by decide) ?_
                  show qG none (d + 1) 101 123 [(2, 24), (2, 37), (2, 27), (1, qlor a (w 26 (3 * (64 * g + s)))), (9, 0), (1, qlor b (w 26 (3 * (64 * g + s) + 1))), (9, 0), (1, c), (9, 0), (0, ((g : Nat) : Int)), (1, qland x (wrl (x - 1))), (9, 0), (0, ((i : Nat) : Int)), (0, ((3 * (64 * g + s) : Nat) : Int))] [(1, w 26 (3 * (64 * g + s) + 2)), (1, c)] w 142 Q9
                  refine qG.blk 3 (pc' := 129) (ls' := [(2, 24), (2, 37), (2, 27), (1, qlor a (w 26 (3 * (64 * g + s)))), (9, 0), (1, qlor b (w 26 (3 * (64 * g + s) + 1))), (9, 0), (1, qlor c (w 26 (3 * (64 * g + s) + 2))), (9, 0), (0, ((g : Nat) : Int)), (1, qland x (wrl (x - 1))), (9, 0), (0, wrp (((i : Nat) : Int) + 1)), (0, ((3 * (64 * g + s) : Nat) : Int))]) (st' := []) (w' := w) (n' := 142) rfl ?_
                  rw [show wrp (((i : Nat) : Int) + 1) = ((i + 1 : Nat) : Int) from wrp_id (by omega) (by omega)]
                  refine qG.blk 1 (pc' := 33) (ls' := [(2, 24), (2, 37), (2, 27), (1, qlor a (w 26 (3 * (64 * g + s)))), (9, 0), (1, qlor b (w 26 (3 * (64 * g + s) + 1))), (9, 0), (1, qlor c (w 26 (3 * (64 * g + s) + 2))), (9, 0), (0, ((g : Nat) : Int)), (1, qland x (wrl (x - 1))), (9, 0), (0, ((i + 1 : Nat) : Int)), (0, ((3 * (64 * g + s) : Nat) : Int))]) (st' := []) (w' := w) (n' := 142) rfl ?_
                  exact ih33 _ (by omega) (i + 1) (qlor a (w 26 (3 * (64 * g + s)))) (qlor b (w 26 (3 * (64 * g + s) + 1))) (qlor c (w 26 (3 * (64 * g + s) + 2))) (qland x (wrl (x - 1))) ((0, ((3 * (64 * g + s) : Nat) : Int))) rfl (⟨by omega, by first | exact ha | exact qlorz _ _, by first | exact hb | exact qlorz _ _, by first | exact hc | exact qlorz _ _, qlandz _ _⟩)
                · skip
                  refine qG.blk 1 (pc' := 129) (ls' := [(2, 24), (2, 37), (2, 27), (1, a), (9, 0), (1, b), (9, 0), (1, c), (9, 0), (0, ((g : Nat) : Int)), (1, qland x (wrl (x - 1))), (9, 0), (0, wrp (((i : Nat) : Int) + 1)), (0, ((3 * (64 * g + s) : Nat) : Int))]) (st' := []) (w' := w) (n' := 142) rfl ?_
                  rw [show wrp (((i : Nat) : Int) + 1) = ((i + 1 : Nat) : Int) from wrp_id (by omega) (by omega)]
                  refine qG.blk 1 (pc' := 33) (ls' := [(2, 24), (2, 37), (2, 27), (1, a), (9, 0), (1, b), (9, 0), (1, c), (9, 0), (0, ((g : Nat) : Int)), (1, qland x (wrl (x - 1))), (9, 0), (0, ((i + 1 : Nat) : Int)), (0, ((3 * (64 * g + s) : Nat) : Int))]) (st' := []) (w' := w) (n' := 142) rfl ?_
                  exact ih33 _ (by omega) (i + 1) (a) (b) (c) (qland x (wrl (x - 1))) ((0, ((3 * (64 * g + s) : Nat) : Int))) rfl (⟨by omega, by first | exact ha | exact qlorz _ _, by first | exact hb | exact qlorz _ _, by first | exact hc | exact qlorz _ _, qlandz _ _⟩)
          · skip
            refine qG.blk 1 (pc' := 135) (ls' := [(2, 24), (2, 37), (2, 27), (1, a), (9, 0), (1, b), (9, 0), (1, c), (9, 0), (0, wrp (((g : Nat) : Int) + 1)), (1, x), (9, 0), (0, ((i : Nat) : Int)), l13]) (st' := []) (w' := w) (n' := 142) rfl ?_
            rw [show wrp (((g : Nat) : Int) + 1) = ((g + 1 : Nat) : Int) from wrp_id (by omega) (by omega)]
            refine qG.blk 1 (pc' := 11) (ls' := [(2, 24), (2, 37), (2, 27), (1, a), (9, 0), (1, b), (9, 0), (1, c), (9, 0), (0, ((g + 1 : Nat) : Int)), (1, x), (9, 0), (0, ((i : Nat) : Int)), l13]) (st' := []) (w' := w) (n' := 142) rfl ?_
            exact ih11 _ (by omega) (g + 1) (a) (b) (c) ((1, x)) ((0, ((i : Nat) : Int))) (l13) rfl (⟨by omega, ha, hb, hc⟩)
        exact L33 _ (0) (a) (b) (c) (w 37 g) (l13) rfl (⟨Nat.zero_le _, ha, hb, hc, arrz hI rfl rfl⟩)
      · exfalso; omega
    · skip
      refine qG.blk 4 (pc' := 144) (ls' := [(2, 24), (2, 37), (2, 27), (1, a), (9, 0), (1, b), (9, 0), (1, c), (9, 0), (0, ((g : Nat) : Int)), l10, (9, 0), l12, l13]) (st' := [(1, c), (1, b), (1, a), (2, 27)]) (w' := w) (n' := 142) rfl ?_
      refine qG.call (t := 105) (na := 4) (sk := 0) (md := 0) (ls1 := [(2, 27), (1, a), (9, 0), (1, b), (9, 0), (1, c), (9, 0)]) (r1 := []) rfl rfl rfl rfl rfl (AW.use (c := C_putRow27.2) (as := [(2, 27), (1, a), (1, b), (1, c)]) (m := [27]) T_putRow27 (AW.rf hI) (show 1 ≤ d by omega) ⟨⟨rfl, by decide, by decide⟩, ⟨rfl, i64l ha, i64u ha⟩, ⟨rfl, i64l hb, i64u hb⟩, ⟨rfl, i64l hc, i64u hc⟩, trivial⟩ rfl rfl (by decide +kernel)) ?_
      rintro _ w0 _ ⟨x7, rfl, -, -, hA7, rfl, -⟩
      show qG none (d + 1) 101 147 [(2, 24), (2, 37), (2, 27), (1, a), (9, 0), (1, b), (9, 0), (1, c), (9, 0), (0, ((g : Nat) : Int)), l10, (9, 0), l12, l13] [] w0 142 Q9
      refine qG.retv rfl rfl ?_
      subst hQ9
      exact ⟨rfl, rfl, hA7⟩
  exact L11 _ (0) (0) (0) (0) ((9, 0)) ((9, 0)) ((9, 0)) rfl (⟨Nat.zero_le _, ⟨by decide, by decide⟩, ⟨by decide, by decide⟩, ⟨by decide, by decide⟩⟩)
noncomputable def C_spread_37_27 : Nat × yC := (101, (5, [(2, 24, 24), (2, 37, 37), (2, 27, 27)], (9, 0, 0), [27], [], [], [], 0, []))
theorem T_spread_37_27 {w0 : qW} : yCOK w0 zgf zga zra zSp zgh C_spread_37_27.1 C_spread_37_27.2 := by
  intro d as w hd hm hI hn hp
  have e : as = [(2, 24), (2, 37), (2, 27)] := args3r hm
  subst e
  refine qG.mono (K_spreadZ37_27 hd w hI) ?_
  rintro _ w' _ ⟨rfl, rfl, hA⟩
  exact ⟨⟨rfl, Int.le_refl 0, Int.le_refl 0⟩, hA.1, rfl, hA.2, fun e he => (by cases he), fun z => (by cases z)⟩
theorem K_spreadZ27_35 {d : Nat} (hd : 5 ≤ d) (w : qW) (hI : yInv zgf zga zra zSp w) : qG none d 101 0 [(2, 24), (2, 27), (2, 35), (9, 0), (9, 0), (9, 0), (9, 0), (9, 0), (9, 0), (9, 0), (9, 0), (9, 0), (9, 0), (9, 0)] [] w 142 (fun (r : qV) (w1 : qW) (n1 : Nat) => r = (9, 0) ∧ n1 = 142 ∧ AW [35] w w1) := by
  generalize hQ9 : (fun (r : qV) (w1 : qW) (n1 : Nat) => r = (9, 0) ∧ n1 = 142 ∧ AW [35] w w1) = Q9
  obtain ⟨N5, hN5⟩ : ∃ N : Int, N = 540 := ⟨_, rfl⟩
  obtain ⟨d, rfl⟩ : ∃ d9, d = d9 + 1 := ⟨d - 1, by omega⟩
  refine qG.blk 8 (pc' := 11) (ls' := [(2, 24), (2, 27), (2, 35), (1, 0), (9, 0), (1, 0), (9, 0), (1, 0), (9, 0), (0, 0), (9, 0), (9, 0), (9, 0), (9, 0)]) (st' := []) (w' := w) (n' := 142) rfl ?_
  have L11 : ∀ (m9 : Nat) (g : Nat) (a b c : Int) (l10 l12 l13 : qV), 3 - g = m9 → (g ≤ 3 ∧ qi64 a ∧ qi64 b ∧ qi64 c) → qG none (d + 1) 101 11 [(2, 24), (2, 27), (2, 35), (1, a), (9, 0), (1, b), (9, 0), (1, c), (9, 0), (0, ((g : Nat) : Int)), l10, (9, 0), l12, l13] [] w 142 Q9 := by
    intro m9
    induction m9 using Nat.strongRecOn with
    | ind m9 ih11 =>
    intro g a b c l10 l12 l13 hm11 hI11
    obtain ⟨hg3, ha, hb, hc⟩ := hI11
    refine qG.blk 2 (pc' := 14) (ls' := [(2, 24), (2, 27), (2, 35), (1, a), (9, 0), (1, b), (9, 0), (1, c), (9, 0), (0, ((g : Nat) : Int)), l10, (9, 0), l12, l13]) (st' := [(0, 3), (0, ((g : Nat) : Int))]) (w' := w) (n' := 142) rfl ?_
    refine qG.br (P := ((g : Nat) : Int) < 3) (pc1 := 17) (pc2 := 138) (st1 := []) rfl (fun hg => ?_) (fun hg => ?_)
    · skip
      refine qG.blk 3 (pc' := 21) (ls' := [(2, 24), (2, 27), (2, 35), (1, a), (9, 0), (1, b), (9, 0), (1, c), (9, 0), (0, ((g : Nat) : Int)), l10, (9, 0), l12, l13]) (st' := [(0, 3), (0, ((g : Nat) : Int))]) (w' := w) (n' := 142) rfl ?_
      refine qG.br (P := ((g : Nat) : Int) < 3) (pc1 := 24) (pc2 := 138) (st1 := []) rfl (fun hgl => ?_) (fun hgl => ?_)
      · skip
        refine qG.blk 2 (pc' := 27) (ls' := [(2, 24), (2, 27), (2, 35), (1, a), (9, 0), (1, b), (9, 0), (1, c), (9, 0), (0, ((g : Nat) : Int)), l10, (9, 0), l12, l13]) (st' := [(0, ((g : Nat) : Int)), (2, 27)]) (w' := w) (n' := 142) rfl ?_
        refine qG.ar (P := 0 ≤ ((g : Nat) : Int) ∧ ((g : Nat) : Int) < ((3 : Nat) : Int)) (P2 := 0 < (27 : Int) ∧ (27 : Int) ≤ ((142 : Nat) : Int)) (pc' := 28) (ls' := [(2, 24), (2, 27), (2, 35), (1, a), (9, 0), (1, b), (9, 0), (1, c), (9, 0), (0, ((g : Nat) : Int)), l10, (9, 0), l12, l13]) (st' := [(1, w 27 g)]) (w' := w) (n' := 142) rfl (by omega) (by decide) ?_
        refine qG.blk 3 (pc' := 33) (ls' := [(2, 24), (2, 27), (2, 35), (1, a), (9, 0), (1, b), (9, 0), (1, c), (9, 0), (0, ((g : Nat) : Int)), (1, w 27 g), (9, 0), (0, 0), l13]) (st' := []) (w' := w) (n' := 142) rfl ?_
        have L33 : ∀ (m9 : Nat) (i : Nat) (a b c x : Int) (l13 : qV), 64 - i = m9 → (i ≤ 64 ∧ qi64 a ∧ qi64 b ∧ qi64 c ∧ qi64 x) → qG none (d + 1) 101 33 [(2, 24), (2, 27), (2, 35), (1, a), (9, 0), (1, b), (9, 0), (1, c), (9, 0), (0, ((g : Nat) : Int)), (1, x), (9, 0), (0, ((i : Nat) : Int)), l13] [] w 142 Q9 := by
          intro m9
          induction m9 using Nat.strongRecOn with
          | ind m9 ih33 =>
          intro i a b c x l13 hm33 hI33
          obtain ⟨hi64, ha, hb, hc, hx⟩ := hI33
          refine qG.blk 2 (pc' := 37) (ls' := [(2, 24), (2, 27), (2, 35), (1, a), (9, 0), (1, b), (9, 0), (1, c), (9, 0), (0, ((g : Nat) : Int)), (1, x), (9, 0), (0, ((i : Nat) : Int)), l13]) (st' := [(0, 64), (0, ((i : Nat) : Int))]) (w' := w) (n' := 142) rfl ?_
          refine qG.br (P := ((i : Nat) : Int) < 64) (pc1 := 40) (pc2 := 132) (st1 := []) rfl (fun hi65 => ?_) (fun hi65 => ?_)
          · skip
            refine qG.blk 3 (pc' := 44) (ls' := [(2, 24), (2, 27), (2, 35), (1, a), (9, 0), (1, b), (9, 0), (1, c), (9, 0), (0, ((g : Nat) : Int)), (1, x), (9, 0), (0, ((i : Nat) : Int)), l13]) (st' := [(0, qcmp x 0)]) (w' := w) (n' := 142) rfl ?_
            refine qG.br (P := qcmp x 0 = 0) (pc1 := 132) (pc2 := 47) (st1 := []) rfl (fun hx0 => ?_) (fun hx0 => ?_)
            · skip
              refine qG.blk 1 (pc' := 135) (ls' := [(2, 24), (2, 27), (2, 35), (1, a), (9, 0), (1, b), (9, 0), (1, c), (9, 0), (0, wrp (((g : Nat) : Int) + 1)), (1, x), (9, 0), (0, ((i : Nat) : Int)), l13]) (st' := []) (w' := w) (n' := 142) rfl ?_
              rw [show wrp (((g : Nat) : Int) + 1) = ((g + 1 : Nat) : Int) from wrp_id (by omega) (by omega)]
              refine qG.blk 1 (pc' := 11) (ls' := [(2, 24), (2, 27), (2, 35), (1, a), (9, 0), (1, b), (9, 0), (1, c), (9, 0), (0, ((g + 1 : Nat) : Int)), (1, x), (9, 0), (0, ((i : Nat) : Int)), l13]) (st' := []) (w' := w) (n' := 142) rfl ?_
              exact ih11 _ (by omega) (g + 1) (a) (b) (c) ((1, x)) ((0, ((i : Nat) : Int))) (l13) rfl (⟨by omega, ha, hb, hc⟩)
            · skip
              refine qG.blk 4 (pc' := 53) (ls' := [(2, 24), (2, 27), (2, 35), (1, a), (9, 0), (1, b), (9, 0), (1, c), (9, 0), (0, ((g : Nat) : Int)), (1, x), (9, 0), (0, ((i : Nat) : Int)), l13]) (st' := [(0, wrp (64 * ((g : Nat) : Int))), (0, 3)]) (w' := w) (n' := 142) rfl ?_
              rw [show wrp (64 * ((g : Nat) : Int)) = ((64 * g : Nat) : Int) from by rw [wrp_id (by omega) (by omega)]; omega]
              refine qG.blk 1 (pc' := 55) (ls' := [(2, 24), (2, 27), (2, 35), (1, a), (9, 0), (1, b), (9, 0), (1, c), (9, 0), (0, ((g : Nat) : Int)), (1, x), (9, 0), (0, ((i : Nat) : Int)), l13]) (st' := [(1, x), (0, ((64 * g : Nat) : Int)), (0, 3)]) (w' := w) (n' := 142) rfl ?_
              refine qG.call (t := 303) (na := 1) (sk := 0) (md := 0) (ls1 := [(1, x), (9, 0), (9, 0)]) (r1 := [(0, ((64 * g : Nat) : Int)), (0, 3)]) rfl rfl rfl rfl rfl (AW.use (c := C_nTZL.2) (as := [(1, x)]) (m := []) T_nTZL (AW.rf hI) (show 2 ≤ d by omega) ⟨⟨rfl, i64l hx, i64u hx⟩, trivial⟩ rfl rfl (by decide +kernel)) ?_
              rintro _ w7 _ ⟨x7, rfl, hl7, hu7, hA7, rfl, -⟩
              have e7 := hA7.nilz
              rw [e7]
              have hl7 : (0 : Int) ≤ x7 := hl7
              have hu7 : x7 ≤ (64 : Int) := hu7
              obtain ⟨s, rfl⟩ : ∃ s : Nat, x7 = (s : Int) := ⟨x7.toNat, by omega⟩
              show qG none (d + 1) 101 58 [(2, 24), (2, 27), (2, 35), (1, a), (9, 0), (1, b), (9, 0), (1, c), (9, 0), (0, ((g : Nat) : Int)), (1, x), (9, 0), (0, ((i : Nat) : Int)), l13] [(0, ((s : Nat) : Int)), (0, ((64 * g : Nat) : Int)), (0, 3)] w 142 Q9
              refine qG.blk 1 (pc' := 59) (ls' := [(2, 24), (2, 27), (2, 35), (1, a), (9, 0), (1, b), (9, 0), (1, c), (9, 0), (0, ((g : Nat) : Int)), (1, x), (9, 0), (0, ((i : Nat) : Int)), l13]) (st' := [(0, wrp (((64 * g : Nat) : Int) + ((s : Nat) : Int))), (0, 3)]) (w' := w) (n' := 142) rfl ?_
              rw [show wrp (((64 * g : Nat) : Int) + ((s : Nat) : Int)) = ((64 * g + s : Nat) : Int) from by rw [wrp_id (by omega) (by omega)]; omega]
              refine qG.blk 1 (pc' := 60) (ls' := [(2, 24), (2, 27), (2, 35), (1, a), (9, 0), (1, b), (9, 0), (1, c), (9, 0), (0, ((g : Nat) : Int)), (1, x), (9, 0), (0, ((i : Nat) : Int)), l13]) (st' := [(0, wrp (3 * ((64 * g + s : Nat) : Int)))]) (w' := w) (n' := 142) rfl ?_
              rw [show wrp (3 * ((64 * g + s : Nat) : Int)) = ((3 * (64 * g + s) : Nat) : Int) from by rw [wrp_id (by omega) (by omega)]; omega]
              refine qG.blk 5 (pc' := 68) (ls' := [(2, 24), (2, 27), (2, 35), (1, a), (9, 0), (1, b), (9, 0), (1, c), (9, 0), (0, ((g : Nat) : Int)), (1, x), (9, 0), (0, ((i : Nat) : Int)), (0, ((3 * (64 * g + s) : Nat) : Int))]) (st' := [(1, wrl (x - 1)), (1, x)]) (w' := w) (n' := 142) rfl ?_
              refine qG.blk 3 (pc' := 73) (ls' := [(2, 24), (2, 27), (2, 35), (1, a), (9, 0), (1, b), (9, 0), (1, c), (9, 0), (0, ((g : Nat) : Int)), (1, qland x (wrl (x - 1))), (9, 0), (0, ((i : Nat) : Int)), (0, ((3 * (64 * g + s) : Nat) : Int))]) (st' := [(0, ((3 * (64 * g + s) : Nat) : Int))]) (w' := w) (n' := 142) rfl ?_
              refine qG.br (P := ((3 * (64 * g + s) : Nat) : Int) < 0) (pc1 := 126) (pc2 := 76) (st1 := []) rfl (fun hr0 => ?_) (fun hr0 => ?_)
              · exfalso; omega
              · skip
                refine qG.blk 3 (pc' := 80) (ls' := [(2, 24), (2, 27), (2, 35), (1, a), (9, 0), (1, b), (9, 0), (1, c), (9, 0), (0, ((g : Nat) : Int)), (1, qland x (wrl (x - 1))), (9, 0), (0, ((i : Nat) : Int)), (0, ((3 * (64 * g + s) : Nat) : Int))]) (st' := [(0, wrp (((3 * (64 * g + s) : Nat) : Int) + 2))]) (w' := w) (n' := 142) rfl ?_
                rw [show wrp (((3 * (64 * g + s) : Nat) : Int) + 2) = ((3 * (64 * g + s) + 2 : Nat) : Int) from by rw [wrp_id (by omega) (by omega)]; omega]
                refine qG.blk 2 (pc' := 84) (ls' := [(2, 24), (2, 27), (2, 35), (1, a), (9, 0), (1, b), (9, 0), (1, c), (9, 0), (0, ((g : Nat) : Int)), (1, qland x (wrl (x - 1))), (9, 0), (0, ((i : Nat) : Int)), (0, ((3 * (64 * g + s) : Nat) : Int))]) (st' := [(2, w 24 5), (0, ((3 * (64 * g + s) + 2 : Nat) : Int))]) (w' := w) (n' := 142) rfl ?_
                rw [show w 24 5 = 26 from zrefz hI rfl rfl]
                refine qG.blk 1 (pc' := 85) (ls' := [(2, 24), (2, 27), (2, 35), (1, a), (9, 0), (1, b), (9, 0), (1, c), (9, 0), (0, ((g : Nat) : Int)), (1, qland x (wrl (x - 1))), (9, 0), (0, ((i : Nat) : Int)), (0, ((3 * (64 * g + s) : Nat) : Int))]) (st' := [(0, 540), (0, ((3 * (64 * g + s) + 2 : Nat) : Int))]) (w' := w) (n' := 142) rfl ?_
                rw [show (540 : Int) = N5 from hN5.symm]
                refine qG.br (P := ((3 * (64 * g + s) + 2 : Nat) : Int) < N5) (pc1 := 88) (pc2 := 126) (st1 := []) rfl (fun h540 => ?_) (fun h540 => ?_)
                · skip
                  refine qG.blk 3 (pc' := 93) (ls' := [(2, 24), (2, 27), (2, 35), (1, a), (9, 0), (1, b), (9, 0), (1, c), (9, 0), (0, ((g : Nat) : Int)), (1, qland x (wrl (x - 1))), (9, 0), (0, ((i : Nat) : Int)), (0, ((3 * (64 * g + s) : Nat) : Int))]) (st' := [(2, w 24 5), (1, a)]) (w' := w) (n' := 142) rfl ?_
                  rw [show w 24 5 = 26 from zrefz hI rfl rfl]
                  refine qG.blk 1 (pc' := 95) (ls' := [(2, 24), (2, 27), (2, 35), (1, a), (9, 0), (1, b), (9, 0), (1, c), (9, 0), (0, ((g : Nat) : Int)), (1, qland x (wrl (x - 1))), (9, 0), (0, ((i : Nat) : Int)), (0, ((3 * (64 * g + s) : Nat) : Int))]) (st' := [(0, ((3 * (64 * g + s) : Nat) : Int)), (2, 26), (1, a)]) (w' := w) (n' := 142) rfl ?_
                  refine qG.lldz (m := 540) rfl rfl (by omega) (by decide) ?_
                  show qG none (d + 1) 101 96 [(2, 24), (2, 27), (2, 35), (1, a), (9, 0), (1, b), (9, 0), (1, c), (9, 0), (0, ((g : Nat) : Int)), (1, qland x (wrl (x - 1))), (9, 0), (0, ((i : Nat) : Int)), (0, ((3 * (64 * g + s) : Nat) : Int))] [(1, w 26 (3 * (64 * g + s))), (1, a)] w 142 Q9
                  refine qG.blk 5 (pc' := 104) (ls' := [(2, 24), (2, 27), (2, 35), (1, qlor a (w 26 (3 * (64 * g + s)))), (9, 0), (1, b), (9, 0), (1, c), (9, 0), (0, ((g : Nat) : Int)), (1, qland x (wrl (x - 1))), (9, 0), (0, ((i : Nat) : Int)), (0, ((3 * (64 * g + s) : Nat) : Int))]) (st' := [(2, w 24 5), (1, b)]) (w' := w) (n' := 142) rfl ?_
                  rw [show w 24 5 = 26 from zrefz hI rfl rfl]
                  refine qG.blk 3 (pc' := 108) (ls' := [(2, 24), (2, 27), (2, 35), (1, qlor a (w 26 (3 * (64 * g + s)))), (9, 0), (1, b), (9, 0), (1, c), (9, 0), (0, ((g : Nat) : Int)), (1, qland x (wrl (x - 1))), (9, 0), (0, ((i : Nat) : Int)), (0, ((3 * (64 * g + s) : Nat) : Int))]) (st' := [(0, wrp (((3 * (64 * g + s) : Nat) : Int) + 1)), (2, 26), (1, b)]) (w' := w) (n' := 142) rfl ?_
                  rw [show wrp (((3 * (64 * g + s) : Nat) : Int) + 1) = ((3 * (64 * g + s) + 1 : Nat) : Int) from by rw [wrp_id (by omega) (by omega)]; omega]
                  refine qG.lldz (m := 540) rfl rfl (by omega) (by decide) ?_
                  show qG none (d + 1) 101 109 [(2, 24), (2, 27), (2, 35), (1, qlor a (w 26 (3 * (64 * g + s)))), (9, 0), (1, b), (9, 0), (1, c), (9, 0), (0, ((g : Nat) : Int)), (1, qland x (wrl (x - 1))), (9, 0), (0, ((i : Nat) : Int)), (0, ((3 * (64 * g + s) : Nat) : Int))] [(1, w 26 (3 * (64 * g + s) + 1)), (1, b)] w 142 Q9
                  refine qG.blk 5 (pc' := 118) (ls' := [(2, 24), (2, 27), (2, 35), (1, qlor a (w 26 (3 * (64 * g + s)))), (9, 0), (1, qlor b (w 26 (3 * (64 * g + s) + 1))), (9, 0), (1, c), (9, 0), (0, ((g : Nat) : Int)), (1, qland x (wrl (x - 1))), (9, 0), (0, ((i : Nat) : Int)), (0, ((3 * (64 * g + s) : Nat) : Int))]) (st' := [(2, w 24 5), (1, c)]) (w' := w) (n' := 142) rfl ?_
                  rw [show w 24 5 = 26 from zrefz hI rfl rfl]
                  refine qG.blk 3 (pc' := 122) (ls' := [(2, 24), (2, 27), (2, 35), (1, qlor a (w 26 (3 * (64 * g + s)))), (9, 0), (1, qlor b (w 26 (3 * (64 * g + s) + 1))), (9, 0), (1, c), (9, 0), (0, ((g : Nat) : Int)), (1, qland x (wrl (x - 1))), (9, 0), (0, ((i : Nat) : Int)), (0, ((3 * (64 * g + s) : Nat) : Int))]) (st' := [(0, wrp (((3 * (64 * g + s) : Nat) : Int) + 2)), (2, 26), (1, c)]) (w' := w) (n' := 142) rfl ?_
                  rw [show wrp (((3 * (64 * g + s) : Nat) : Int) + 2) = ((3 * (64 * g + s) + 2 : Nat) : Int) from by rw [wrp_id (by omega) (by omega)]; omega]
                  refine qG.lldz (m := 540) rfl rfl (by omega) (by decide) ?_
                  show qG none (d + 1) 101 123 [(2, 24), (2, 27), (2, 35), (1, qlor a (w 26 (3 * (64 * g + s)))), (9, 0), (1, qlor b (w 26 (3 * (64 * g + s) + 1))), (9, 0), (1, c), (9, 0), (0, ((g : Nat) : Int)), (1, qland x (wrl (x - 1))), (9, 0), (0, ((i : Nat) : Int)), (0, ((3 * (64 * g + s) : Nat) : Int))] [(1, w 26 (3 * (64 * g + s) + 2)), (1, c)] w 142 Q9
                  refine qG.blk 3 (pc' := 129) (ls' := [(2, 24), (2, 27), (2, 35), (1, qlor a (w 26 (3 * (64 * g + s)))), (9, 0), (1, qlor b (w 26 (3 * (64 * g + s) + 1))), (9, 0), (1, qlor c (w 26 (3 * (64 * g + s) + 2))), (9, 0), (0, ((g : Nat) : Int)), (1, qland x (wrl (x - 1))), (9, 0), (0, wrp (((i : Nat) : Int) + 1)), (0, ((3 * (64 * g + s) : Nat) : Int))]) (st' := []) (w' := w) (n' := 142) rfl ?_
                  rw [show wrp (((i : Nat) : Int) + 1) = ((i + 1 : Nat) : Int) from wrp_id (by omega) (by omega)]
                  refine qG.blk 1 (pc' := 33) (ls' := [(2, 24), (2, 27), (2, 35), (1, qlor a (w 26 (3 * (64 * g + s)))), (9, 0), (1, qlor b (w 26 (3 * (64 * g + s) + 1))), (9, 0), (1, qlor c (w 26 (3 * (64 * g + s) + 2))), (9, 0), (0, ((g : Nat) : Int)), (1, qland x (wrl (x - 1))), (9, 0), (0, ((i + 1 : Nat) : Int)), (0, ((3 * (64 * g + s) : Nat) : Int))]) (st' := []) (w' := w) (n' := 142) rfl ?_
                  exact ih33 _ (by omega) (i + 1) (qlor a (w 26 (3 * (64 * g + s)))) (qlor b (w 26 (3 * (64 * g + s) + 1))) (qlor c (w 26 (3 * (64 * g + s) + 2))) (qland x (wrl (x - 1))) ((0, ((3 * (64 * g + s) : Nat) : Int))) rfl (⟨by omega, by first | exact ha | exact qlorz _ _, by first | exact hb | exact qlorz _ _, by first | exact hc | exact qlorz _ _, qlandz _ _⟩)
                · skip
                  refine qG.blk 1 (pc' := 129) (ls' := [(2, 24), (2, 27), (2, 35), (1, a), (9, 0), (1, b), (9, 0), (1, c), (9, 0), (0, ((g : Nat) : Int)), (1, qland x (wrl (x - 1))), (9, 0), (0, wrp (((i : Nat) : Int) + 1)), (0, ((3 * (64 * g + s) : Nat) : Int))]) (st' := []) (w' := w) (n' := 142) rfl ?_
                  rw [show wrp (((i : Nat) : Int) + 1) = ((i + 1 : Nat) : Int) from wrp_id (by omega) (by omega)]
                  refine qG.blk 1 (pc' := 33) (ls' := [(2, 24), (2, 27), (2, 35), (1, a), (9, 0), (1, b), (9, 0), (1, c), (9, 0), (0, ((g : Nat) : Int)), (1, qland x (wrl (x - 1))), (9, 0), (0, ((i + 1 : Nat) : Int)), (0, ((3 * (64 * g + s) : Nat) : Int))]) (st' := []) (w' := w) (n' := 142) rfl ?_
                  exact ih33 _ (by omega) (i + 1) (a) (b) (c) (qland x (wrl (x - 1))) ((0, ((3 * (64 * g + s) : Nat) : Int))) rfl (⟨by omega, by first | exact ha | exact qlorz _ _, by first | exact hb | exact qlorz _ _, by first | exact hc | exact qlorz _ _, qlandz _ _⟩)
          · skip
            refine qG.blk 1 (pc' := 135) (ls' := [(2, 24), (2, 27), (2, 35), (1, a), (9, 0), (1, b), (9, 0), (1, c), (9, 0), (0, wrp (((g : Nat) : Int) + 1)), (1, x), (9, 0), (0, ((i : Nat) : Int)), l13]) (st' := []) (w' := w) (n' := 142) rfl ?_
            rw [show wrp (((g : Nat) : Int) + 1) = ((g + 1 : Nat) : Int) from wrp_id (by omega) (by omega)]
            refine qG.blk 1 (pc' := 11) (ls' := [(2, 24), (2, 27), (2, 35), (1, a), (9, 0), (1, b), (9, 0), (1, c), (9, 0), (0, ((g + 1 : Nat) : Int)), (1, x), (9, 0), (0, ((i : Nat) : Int)), l13]) (st' := []) (w' := w) (n' := 142) rfl ?_
            exact ih11 _ (by omega) (g + 1) (a) (b) (c) ((1, x)) ((0, ((i : Nat) : Int))) (l13) rfl (⟨by omega, ha, hb, hc⟩)
        exact L33 _ (0) (a) (b) (c) (w 27 g) (l13) rfl (⟨Nat.zero_le _, ha, hb, hc, arrz hI rfl rfl⟩)
      · exfalso; omega
    · skip
      refine qG.blk 4 (pc' := 144) (ls' := [(2, 24), (2, 27), (2, 35), (1, a), (9, 0), (1, b), (9, 0), (1, c), (9, 0), (0, ((g : Nat) : Int)), l10, (9, 0), l12, l13]) (st' := [(1, c), (1, b), (1, a), (2, 35)]) (w' := w) (n' := 142) rfl ?_
      refine qG.call (t := 105) (na := 4) (sk := 0) (md := 0) (ls1 := [(2, 35), (1, a), (9, 0), (1, b), (9, 0), (1, c), (9, 0)]) (r1 := []) rfl rfl rfl rfl rfl (AW.use (c := C_putRow35.2) (as := [(2, 35), (1, a), (1, b), (1, c)]) (m := [35]) T_putRow35 (AW.rf hI) (show 1 ≤ d by omega) ⟨⟨rfl, by decide, by decide⟩, ⟨rfl, i64l ha, i64u ha⟩, ⟨rfl, i64l hb, i64u hb⟩, ⟨rfl, i64l hc, i64u hc⟩, trivial⟩ rfl rfl (by decide +kernel)) ?_
      rintro _ w0 _ ⟨x7, rfl, -, -, hA7, rfl, -⟩
      show qG none (d + 1) 101 147 [(2, 24), (2, 27), (2, 35), (1, a), (9, 0), (1, b), (9, 0), (1, c), (9, 0), (0, ((g : Nat) : Int)), l10, (9, 0), l12, l13] [] w0 142 Q9
      refine qG.retv rfl rfl ?_
      subst hQ9
      exact ⟨rfl, rfl, hA7⟩
  exact L11 _ (0) (0) (0) (0) ((9, 0)) ((9, 0)) ((9, 0)) rfl (⟨Nat.zero_le _, ⟨by decide, by decide⟩, ⟨by decide, by decide⟩, ⟨by decide, by decide⟩⟩)
noncomputable def C_spread_27_35 : Nat × yC := (101, (5, [(2, 24, 24), (2, 27, 27), (2, 35, 35)], (9, 0, 0), [35], [], [], [], 0, []))
theorem T_spread_27_35 {w0 : qW} : yCOK w0 zgf zga zra zSp zgh C_spread_27_35.1 C_spread_27_35.2 := by
  intro d as w hd hm hI hn hp
  have e : as = [(2, 24), (2, 27), (2, 35)] := args3r hm
  subst e
  refine qG.mono (K_spreadZ27_35 hd w hI) ?_
  rintro _ w' _ ⟨rfl, rfl, hA⟩
  exact ⟨⟨rfl, Int.le_refl 0, Int.le_refl 0⟩, hA.1, rfl, hA.2, fun e he => (by cases he), fun z => (by cases z)⟩
theorem K_spreadZ27_36 {d : Nat} (hd : 5 ≤ d) (w : qW) (hI : yInv zgf zga zra zSp w) : qG none d 101 0 [(2, 24), (2, 27), (2, 36), (9, 0), (9, 0), (9, 0), (9, 0), (9, 0), (9, 0), (9, 0), (9, 0), (9, 0), (9, 0), (9, 0)] [] w 142 (fun (r : qV) (w1 : qW) (n1 : Nat) => r = (9, 0) ∧ n1 = 142 ∧ AW [36] w w1) := by
  generalize hQ9 : (fun (r : qV) (w1 : qW) (n1 : Nat) => r = (9, 0) ∧ n1 = 142 ∧ AW [36] w w1) = Q9
  obtain ⟨N5, hN5⟩ : ∃ N : Int, N = 540 := ⟨_, rfl⟩
  obtain ⟨d, rfl⟩ : ∃ d9, d = d9 + 1 := ⟨d - 1, by omega⟩
  refine qG.blk 8 (pc' := 11) (ls' := [(2, 24), (2, 27), (2, 36), (1, 0), (9, 0), (1, 0), (9, 0), (1, 0), (9, 0), (0, 0), (9, 0), (9, 0), (9, 0), (9, 0)]) (st' := []) (w' := w) (n' := 142) rfl ?_
  have L11 : ∀ (m9 : Nat) (g : Nat) (a b c : Int) (l10 l12 l13 : qV), 3 - g = m9 → (g ≤ 3 ∧ qi64 a ∧ qi64 b ∧ qi64 c) → qG none (d + 1) 101 11 [(2, 24), (2, 27), (2, 36), (1, a), (9, 0), (1, b), (9, 0), (1, c), (9, 0), (0, ((g : Nat) : Int)), l10, (9, 0), l12, l13] [] w 142 Q9 := by
    intro m9
    induction m9 using Nat.strongRecOn with
    | ind m9 ih11 =>
    intro g a b c l10 l12 l13 hm11 hI11
    obtain ⟨hg3, ha, hb, hc⟩ := hI11
    refine qG.blk 2 (pc' := 14) (ls' := [(2, 24), (2, 27), (2, 36), (1, a), (9, 0), (1, b), (9, 0), (1, c), (9, 0), (0, ((g : Nat) : Int)), l10, (9, 0), l12, l13]) (st' := [(0, 3), (0, ((g : Nat) : Int))]) (w' := w) (n' := 142) rfl ?_
    refine qG.br (P := ((g : Nat) : Int) < 3) (pc1 := 17) (pc2 := 138) (st1 := []) rfl (fun hg => ?_) (fun hg => ?_)
    · skip
      refine qG.blk 3 (pc' := 21) (ls' := [(2, 24), (2, 27), (2, 36), (1, a), (9, 0), (1, b), (9, 0), (1, c), (9, 0), (0, ((g : Nat) : Int)), l10, (9, 0), l12, l13]) (st' := [(0, 3), (0, ((g : Nat) : Int))]) (w' := w) (n' := 142) rfl ?_
      refine qG.br (P := ((g : Nat) : Int) < 3) (pc1 := 24) (pc2 := 138) (st1 := []) rfl (fun hgl => ?_) (fun hgl => ?_)
      · skip
        refine qG.blk 2 (pc' := 27) (ls' := [(2, 24), (2, 27), (2, 36), (1, a), (9, 0), (1, b), (9, 0), (1, c), (9, 0), (0, ((g : Nat) : Int)), l10, (9, 0), l12, l13]) (st' := [(0, ((g : Nat) : Int)), (2, 27)]) (w' := w) (n' := 142) rfl ?_
        refine qG.ar (P := 0 ≤ ((g : Nat) : Int) ∧ ((g : Nat) : Int) < ((3 : Nat) : Int)) (P2 := 0 < (27 : Int) ∧ (27 : Int) ≤ ((142 : Nat) : Int)) (pc' := 28) (ls' := [(2, 24), (2, 27), (2, 36), (1, a), (9, 0), (1, b), (9, 0), (1, c), (9, 0), (0, ((g : Nat) : Int)), l10, (9, 0), l12, l13]) (st' := [(1, w 27 g)]) (w' := w) (n' := 142) rfl (by omega) (by decide) ?_
        refine qG.blk 3 (pc' := 33) (ls' := [(2, 24), (2, 27), (2, 36), (1, a), (9, 0), (1, b), (9, 0), (1, c), (9, 0), (0, ((g : Nat) : Int)), (1, w 27 g), (9, 0), (0, 0), l13]) (st' := []) (w' := w) (n' := 142) rfl ?_
        have L33 : ∀ (m9 : Nat) (i : Nat) (a b c x : Int) (l13 : qV), 64 - i = m9 → (i ≤ 64 ∧ qi64 a ∧ qi64 b ∧ qi64 c ∧ qi64 x) → qG none (d + 1) 101 33 [(2, 24), (2, 27), (2, 36), (1, a), (9, 0), (1, b), (9, 0), (1, c), (9, 0), (0, ((g : Nat) : Int)), (1, x), (9, 0), (0, ((i : Nat) : Int)), l13] [] w 142 Q9 := by
          intro m9
          induction m9 using Nat.strongRecOn with
          | ind m9 ih33 =>
          intro i a b c x l13 hm33 hI33
          obtain ⟨hi64, ha, hb, hc, hx⟩ := hI33
          refine qG.blk 2 (pc' := 37) (ls' := [(2, 24), (2, 27), (2, 36), (1, a), (9, 0), (1, b), (9, 0), (1, c), (9, 0), (0, ((g : Nat) : Int)), (1, x), (9, 0), (0, ((i : Nat) : Int)), l13]) (st' := [(0, 64), (0, ((i : Nat) : Int))]) (w' := w) (n' := 142) rfl ?_
          refine qG.br (P := ((i : Nat) : Int) < 64) (pc1 := 40) (pc2 := 132) (st1 := []) rfl (fun hi65 => ?_) (fun hi65 => ?_)
          · skip
            refine qG.blk 3 (pc' := 44) (ls' := [(2, 24), (2, 27), (2, 36), (1, a), (9, 0), (1, b), (9, 0), (1, c), (9, 0), (0, ((g : Nat) : Int)), (1, x), (9, 0), (0, ((i : Nat) : Int)), l13]) (st' := [(0, qcmp x 0)]) (w' := w) (n' := 142) rfl ?_
            refine qG.br (P := qcmp x 0 = 0) (pc1 := 132) (pc2 := 47) (st1 := []) rfl (fun hx0 => ?_) (fun hx0 => ?_)
            · skip
              refine qG.blk 1 (pc' := 135) (ls' := [(2, 24), (2, 27), (2, 36), (1, a), (9, 0), (1, b), (9, 0), (1, c), (9, 0), (0, wrp (((g : Nat) : Int) + 1)), (1, x), (9, 0), (0, ((i : Nat) : Int)), l13]) (st' := []) (w' := w) (n' := 142) rfl ?_
              rw [show wrp (((g : Nat) : Int) + 1) = ((g + 1 : Nat) : Int) from wrp_id (by omega) (by omega)]
              refine qG.blk 1 (pc' := 11) (ls' := [(2, 24), (2, 27), (2, 36), (1, a), (9, 0), (1, b), (9, 0), (1, c), (9, 0), (0, ((g + 1 : Nat) : Int)), (1, x), (9, 0), (0, ((i : Nat) : Int)), l13]) (st' := []) (w' := w) (n' := 142) rfl ?_
              exact ih11 _ (by omega) (g + 1) (a) (b) (c) ((1, x)) ((0, ((i : Nat) : Int))) (l13) rfl (⟨by omega, ha, hb, hc⟩)
            · skip
              refine qG.blk 4 (pc' := 53) (ls' := [(2, 24), (2, 27), (2, 36), (1, a), (9, 0), (1, b), (9, 0), (1, c), (9, 0), (0, ((g : Nat) : Int)), (1, x), (9, 0), (0, ((i : Nat) : Int)), l13]) (st' := [(0, wrp (64 * ((g : Nat) : Int))), (0, 3)]) (w' := w) (n' := 142) rfl ?_
              rw [show wrp (64 * ((g : Nat) : Int)) = ((64 * g : Nat) : Int) from by rw [wrp_id (by omega) (by omega)]; omega]
              refine qG.blk 1 (pc' := 55) (ls' := [(2, 24), (2, 27), (2, 36), (1, a), (9, 0), (1, b), (9, 0), (1, c), (9, 0), (0, ((g : Nat) : Int)), (1, x), (9, 0), (0, ((i : Nat) : Int)), l13]) (st' := [(1, x), (0, ((64 * g : Nat) : Int)), (0, 3)]) (w' := w) (n' := 142) rfl ?_
              refine qG.call (t := 303) (na := 1) (sk := 0) (md := 0) (ls1 := [(1, x), (9, 0), (9, 0)]) (r1 := [(0, ((64 * g : Nat) : Int)), (0, 3)]) rfl rfl rfl rfl rfl (AW.use (c := C_nTZL.2) (as := [(1, x)]) (m := []) T_nTZL (AW.rf hI) (show 2 ≤ d by omega) ⟨⟨rfl, i64l hx, i64u hx⟩, trivial⟩ rfl rfl (by decide +kernel)) ?_
              rintro _ w7 _ ⟨x7, rfl, hl7, hu7, hA7, rfl, -⟩
              have e7 := hA7.nilz
              rw [e7]
              have hl7 : (0 : Int) ≤ x7 := hl7
              have hu7 : x7 ≤ (64 : Int) := hu7
              obtain ⟨s, rfl⟩ : ∃ s : Nat, x7 = (s : Int) := ⟨x7.toNat, by omega⟩
              show qG none (d + 1) 101 58 [(2, 24), (2, 27), (2, 36), (1, a), (9, 0), (1, b), (9, 0), (1, c), (9, 0), (0, ((g : Nat) : Int)), (1, x), (9, 0), (0, ((i : Nat) : Int)), l13] [(0, ((s : Nat) : Int)), (0, ((64 * g : Nat) : Int)), (0, 3)] w 142 Q9
              refine qG.blk 1 (pc' := 59) (ls' := [(2, 24), (2, 27), (2, 36), (1, a), (9, 0), (1, b), (9, 0), (1, c), (9, 0), (0, ((g : Nat) : Int)), (1, x), (9, 0), (0, ((i : Nat) : Int)), l13]) (st' := [(0, wrp (((64 * g : Nat) : Int) + ((s : Nat) : Int))), (0, 3)]) (w' := w) (n' := 142) rfl ?_
              rw [show wrp (((64 * g : Nat) : Int) + ((s : Nat) : Int)) = ((64 * g + s : Nat) : Int) from by rw [wrp_id (by omega) (by omega)]; omega]
              refine qG.blk 1 (pc' := 60) (ls' := [(2, 24), (2, 27), (2, 36), (1, a), (9, 0), (1, b), (9, 0), (1, c), (9, 0), (0, ((g : Nat) : Int)), (1, x), (9, 0), (0, ((i : Nat) : Int)), l13]) (st' := [(0, wrp (3 * ((64 * g + s : Nat) : Int)))]) (w' := w) (n' := 142) rfl ?_
              rw [show wrp (3 * ((64 * g + s : Nat) : Int)) = ((3 * (64 * g + s) : Nat) : Int) from by rw [wrp_id (by omega) (by omega)]; omega]
              refine qG.blk 5 (pc' := 68) (ls' := [(2, 24), (2, 27), (2, 36), (1, a), (9, 0), (1, b), (9, 0), (1, c), (9, 0), (0, ((g : Nat) : Int)), (1, x), (9, 0), (0, ((i : Nat) : Int)), (0, ((3 * (64 * g + s) : Nat) : Int))]) (st' := [(1, wrl (x - 1)), (1, x)]) (w' := w) (n' := 142) rfl ?_
              refine qG.blk 3 (pc' := 73) (ls' := [(2, 24), (2, 27), (2, 36), (1, a), (9, 0), (1, b), (9, 0), (1, c), (9, 0), (0, ((g : Nat) : Int)), (1, qland x (wrl (x - 1))), (9, 0), (0, ((i : Nat) : Int)), (0, ((3 * (64 * g + s) : Nat) : Int))]) (st' := [(0, ((3 * (64 * g + s) : Nat) : Int))]) (w' := w) (n' := 142) rfl ?_
              refine qG.br (P := ((3 * (64 * g + s) : Nat) : Int) < 0) (pc1 := 126) (pc2 := 76) (st1 := []) rfl (fun hr0 => ?_) (fun hr0 => ?_)
              · exfalso; omega
              · skip
                refine qG.blk 3 (pc' := 80) (ls' := [(2, 24), (2, 27), (2, 36), (1, a), (9, 0), (1, b), (9, 0), (1, c), (9, 0), (0, ((g : Nat) : Int)), (1, qland x (wrl (x - 1))), (9, 0), (0, ((i : Nat) : Int)), (0, ((3 * (64 * g + s) : Nat) : Int))]) (st' := [(0, wrp (((3 * (64 * g + s) : Nat) : Int) + 2))]) (w' := w) (n' := 142) rfl ?_
                rw [show wrp (((3 * (64 * g + s) : Nat) : Int) + 2) = ((3 * (64 * g + s) + 2 : Nat) : Int) from by rw [wrp_id (by omega) (by omega)]; omega]
                refine qG.blk 2 (pc' := 84) (ls' := [(2, 24), (2, 27), (2, 36), (1, a), (9, 0), (1, b), (9, 0), (1, c), (9, 0), (0, ((g : Nat) : Int)), (1, qland x (wrl (x - 1))), (9, 0), (0, ((i : Nat) : Int)), (0, ((3 * (64 * g + s) : Nat) : Int))]) (st' := [(2, w 24 5), (0, ((3 * (64 * g + s) + 2 : Nat) : Int))]) (w' := w) (n' := 142) rfl ?_
                rw [show w 24 5 = 26 from zrefz hI rfl rfl]
                refine qG.blk 1 (pc' := 85) (ls' := [(2, 24), (2, 27), (2, 36), (1, a), (9, 0), (1, b), (9, 0), (1, c), (9, 0), (0, ((g : Nat) : Int)), (1, qland x (wrl (x - 1))), (9, 0), (0, ((i : Nat) : Int)), (0, ((3 * (64 * g + s) : Nat) : Int))]) (st' := [(0, 540), (0, ((3 * (64 * g + s) + 2 : Nat) : Int))]) (w' := w) (n' := 142) rfl ?_
                rw [show (540 : Int) = N5 from hN5.symm]
                refine qG.br (P := ((3 * (64 * g + s) + 2 : Nat) : Int) < N5) (pc1 := 88) (pc2 := 126) (st1 := []) rfl (fun h540 => ?_) (fun h540 => ?_)
                · skip
                  refine qG.blk 3 (pc' := 93) (ls' := [(2, 24), (2, 27), (2, 36), (1, a), (9, 0), (1, b), (9, 0), (1, c), (9, 0), (0, ((g : Nat) : Int)), (1, qland x (wrl (x - 1))), (9, 0), (0, ((i : Nat) : Int)), (0, ((3 * (64 * g + s) : Nat) : Int))]) (st' := [(2, w 24 5), (1, a)]) (w' := w) (n' := 142) rfl ?_
                  rw [show w 24 5 = 26 from zrefz hI rfl rfl]
                  refine qG.blk 1 (pc' := 95) (ls' := [(2, 24), (2, 27), (2, 36), (1, a), (9, 0), (1, b), (9, 0), (1, c), (9, 0), (0, ((g : Nat) : Int)), (1, qland x (wrl (x - 1))), (9, 0), (0, ((i : Nat) : Int)), (0, ((3 * (64 * g + s) : Nat) : Int))]) (st' := [(0, ((3 * (64 * g + s) : Nat) : Int)), (2, 26), (1, a)]) (w' := w) (n' := 142) rfl ?_
                  refine qG.lldz (m := 540) rfl rfl (by omega) (by decide) ?_
                  show qG none (d + 1) 101 96 [(2, 24), (2, 27), (2, 36), (1, a), (9, 0), (1, b), (9, 0), (1, c), (9, 0), (0, ((g : Nat) : Int)), (1, qland x (wrl (x - 1))), (9, 0), (0, ((i : Nat) : Int)), (0, ((3 * (64 * g + s) : Nat) : Int))] [(1, w 26 (3 * (64 * g + s))), (1, a)] w 142 Q9
                  refine qG.blk 5 (pc' := 104) (ls' := [(2, 24), (2, 27), (2, 36), (1, qlor a (w 26 (3 * (64 * g + s)))), (9, 0), (1, b), (9, 0), (1, c), (9, 0), (0, ((g : Nat) : Int)), (1, qland x (wrl (x - 1))), (9, 0), (0, ((i : Nat) : Int)), (0, ((3 * (64 * g + s) : Nat) : Int))]) (st' := [(2, w 24 5), (1, b)]) (w' := w) (n' := 142) rfl ?_
                  rw [show w 24 5 = 26 from zrefz hI rfl rfl]
                  refine qG.blk 3 (pc' := 108) (ls' := [(2, 24), (2, 27), (2, 36), (1, qlor a (w 26 (3 * (64 * g + s)))), (9, 0), (1, b), (9, 0), (1, c), (9, 0), (0, ((g : Nat) : Int)), (1, qland x (wrl (x - 1))), (9, 0), (0, ((i : Nat) : Int)), (0, ((3 * (64 * g + s) : Nat) : Int))]) (st' := [(0, wrp (((3 * (64 * g + s) : Nat) : Int) + 1)), (2, 26), (1, b)]) (w' := w) (n' := 142) rfl ?_
                  rw [show wrp (((3 * (64 * g + s) : Nat) : Int) + 1) = ((3 * (64 * g + s) + 1 : Nat) : Int) from by rw [wrp_id (by omega) (by omega)]; omega]
                  refine qG.lldz (m := 540) rfl rfl (by omega) (by decide) ?_
                  show qG none (d + 1) 101 109 [(2, 24), (2, 27), (2, 36), (1, qlor a (w 26 (3 * (64 * g + s)))), (9, 0), (1, b), (9, 0), (1, c), (9, 0), (0, ((g : Nat) : Int)), (1, qland x (wrl (x - 1))), (9, 0), (0, ((i : Nat) : Int)), (0, ((3 * (64 * g + s) : Nat) : Int))] [(1, w 26 (3 * (64 * g + s) + 1)), (1, b)] w 142 Q9
                  refine qG.blk 5 (pc' := 118) (ls' := [(2, 24), (2, 27), (2, 36), (1, qlor a (w 26 (3 * (64 * g + s)))), (9, 0), (1, qlor b (w 26 (3 * (64 * g + s) + 1))), (9, 0), (1, c), (9, 0), (0, ((g : Nat) : Int)), (1, qland x (wrl (x - 1))), (9, 0), (0, ((i : Nat) : Int)), (0, ((3 * (64 * g + s) : Nat) : Int))]) (st' := [(2, w 24 5), (1, c)]) (w' := w) (n' := 142) rfl ?_
                  rw [show w 24 5 = 26 from zrefz hI rfl rfl]
                  refine qG.blk 3 (pc' := 122) (ls' := [(2, 24), (2, 27), (2, 36), (1, qlor a (w 26 (3 * (64 * g + s)))), (9, 0), (1, qlor b (w 26 (3 * (64 * g + s) + 1))), (9, 0), (1, c), (9, 0), (0, ((g : Nat) : Int)), (1, qland x (wrl (x - 1))), (9, 0), (0, ((i : Nat) : Int)), (0, ((3 * (64 * g + s) : Nat) : Int))]) (st' := [(0, wrp (((3 * (64 * g + s) : Nat) : Int) + 2)), (2, 26), (1, c)]) (w' := w) (n' := 142) rfl ?_
                  rw [show wrp (((3 * (64 * g + s) : Nat) : Int) + 2) = ((3 * (64 * g + s) + 2 : Nat) : Int) from by rw [wrp_id (by omega) (by omega)]; omega]
                  refine qG.lldz (m := 540) rfl rfl (by omega) (by decide) ?_
                  show qG none (d + 1) 101 123 [(2, 24), (2, 27), (2, 36), (1, qlor a (w 26 (3 * (64 * g + s)))), (9, 0), (1, qlor b (w 26 (3 * (64 * g + s) + 1))), (9, 0), (1, c), (9, 0), (0, ((g : Nat) : Int)), (1, qland x (wrl (x - 1))), (9, 0), (0, ((i : Nat) : Int)), (0, ((3 * (64 * g + s) : Nat) : Int))] [(1, w 26 (3 * (64 * g + s) + 2)), (1, c)] w 142 Q9
                  refine qG.blk 3 (pc' := 129) (ls' := [(2, 24), (2, 27), (2, 36), (1, qlor a (w 26 (3 * (64 * g + s)))), (9, 0), (1, qlor b (w 26 (3 * (64 * g + s) + 1))), (9, 0), (1, qlor c (w 26 (3 * (64 * g + s) + 2))), (9, 0), (0, ((g : Nat) : Int)), (1, qland x (wrl (x - 1))), (9, 0), (0, wrp (((i : Nat) : Int) + 1)), (0, ((3 * (64 * g + s) : Nat) : Int))]) (st' := []) (w' := w) (n' := 142) rfl ?_
                  rw [show wrp (((i : Nat) : Int) + 1) = ((i + 1 : Nat) : Int) from wrp_id (by omega) (by omega)]
                  refine qG.blk 1 (pc' := 33) (ls' := [(2, 24), (2, 27), (2, 36), (1, qlor a (w 26 (3 * (64 * g + s)))), (9, 0), (1, qlor b (w 26 (3 * (64 * g + s) + 1))), (9, 0), (1, qlor c (w 26 (3 * (64 * g + s) + 2))), (9, 0), (0, ((g : Nat) : Int)), (1, qland x (wrl (x - 1))), (9, 0), (0, ((i + 1 : Nat) : Int)), (0, ((3 * (64 * g + s) : Nat) : Int))]) (st' := []) (w' := w) (n' := 142) rfl ?_
                  exact ih33 _ (by omega) (i + 1) (qlor a (w 26 (3 * (64 * g + s)))) (qlor b (w 26 (3 * (64 * g + s) + 1))) (qlor c (w 26 (3 * (64 * g + s) + 2))) (qland x (wrl (x - 1))) ((0, ((3 * (64 * g + s) : Nat) : Int))) rfl (⟨by omega, by first | exact ha | exact qlorz _ _, by first | exact hb | exact qlorz _ _, by first | exact hc | exact qlorz _ _, qlandz _ _⟩)
                · skip
                  refine qG.blk 1 (pc' := 129) (ls' := [(2, 24), (2, 27), (2, 36), (1, a), (9, 0), (1, b), (9, 0), (1, c), (9, 0), (0, ((g : Nat) : Int)), (1, qland x (wrl (x - 1))), (9, 0), (0, wrp (((i : Nat) : Int) + 1)), (0, ((3 * (64 * g + s) : Nat) : Int))]) (st' := []) (w' := w) (n' := 142) rfl ?_
                  rw [show wrp (((i : Nat) : Int) + 1) = ((i + 1 : Nat) : Int) from wrp_id (by omega) (by omega)]
                  refine qG.blk 1 (pc' := 33) (ls' := [(2, 24), (2, 27), (2, 36), (1, a), (9, 0), (1, b), (9, 0), (1, c), (9, 0), (0, ((g : Nat) : Int)), (1, qland x (wrl (x - 1))), (9, 0), (0, ((i + 1 : Nat) : Int)), (0, ((3 * (64 * g + s) : Nat) : Int))]) (st' := []) (w' := w) (n' := 142) rfl ?_
                  exact ih33 _ (by omega) (i + 1) (a) (b) (c) (qland x (wrl (x - 1))) ((0, ((3 * (64 * g + s) : Nat) : Int))) rfl (⟨by omega, by first | exact ha | exact qlorz _ _, by first | exact hb | exact qlorz _ _, by first | exact hc | exact qlorz _ _, qlandz _ _⟩)
          · skip
            refine qG.blk 1 (pc' := 135) (ls' := [(2, 24), (2, 27), (2, 36), (1, a), (9, 0), (1, b), (9, 0), (1, c), (9, 0), (0, wrp (((g : Nat) : Int) + 1)), (1, x), (9, 0), (0, ((i : Nat) : Int)), l13]) (st' := []) (w' := w) (n' := 142) rfl ?_
            rw [show wrp (((g : Nat) : Int) + 1) = ((g + 1 : Nat) : Int) from wrp_id (by omega) (by omega)]
            refine qG.blk 1 (pc' := 11) (ls' := [(2, 24), (2, 27), (2, 36), (1, a), (9, 0), (1, b), (9, 0), (1, c), (9, 0), (0, ((g + 1 : Nat) : Int)), (1, x), (9, 0), (0, ((i : Nat) : Int)), l13]) (st' := []) (w' := w) (n' := 142) rfl ?_
            exact ih11 _ (by omega) (g + 1) (a) (b) (c) ((1, x)) ((0, ((i : Nat) : Int))) (l13) rfl (⟨by omega, ha, hb, hc⟩)
        exact L33 _ (0) (a) (b) (c) (w 27 g) (l13) rfl (⟨Nat.zero_le _, ha, hb, hc, arrz hI rfl rfl⟩)
      · exfalso; omega
    · skip
      refine qG.blk 4 (pc' := 144) (ls' := [(2, 24), (2, 27), (2, 36), (1, a), (9, 0), (1, b), (9, 0), (1, c), (9, 0), (0, ((g : Nat) : Int)), l10, (9, 0), l12, l13]) (st' := [(1, c), (1, b), (1, a), (2, 36)]) (w' := w) (n' := 142) rfl ?_
      refine qG.call (t := 105) (na := 4) (sk := 0) (md := 0) (ls1 := [(2, 36), (1, a), (9, 0), (1, b), (9, 0), (1, c), (9, 0)]) (r1 := []) rfl rfl rfl rfl rfl (AW.use (c := C_putRow36.2) (as := [(2, 36), (1, a), (1, b), (1, c)]) (m := [36]) T_putRow36 (AW.rf hI) (show 1 ≤ d by omega) ⟨⟨rfl, by decide, by decide⟩, ⟨rfl, i64l ha, i64u ha⟩, ⟨rfl, i64l hb, i64u hb⟩, ⟨rfl, i64l hc, i64u hc⟩, trivial⟩ rfl rfl (by decide +kernel)) ?_
      rintro _ w0 _ ⟨x7, rfl, -, -, hA7, rfl, -⟩
      show qG none (d + 1) 101 147 [(2, 24), (2, 27), (2, 36), (1, a), (9, 0), (1, b), (9, 0), (1, c), (9, 0), (0, ((g : Nat) : Int)), l10, (9, 0), l12, l13] [] w0 142 Q9
      refine qG.retv rfl rfl ?_
      subst hQ9
      exact ⟨rfl, rfl, hA7⟩
  exact L11 _ (0) (0) (0) (0) ((9, 0)) ((9, 0)) ((9, 0)) rfl (⟨Nat.zero_le _, ⟨by decide, by decide⟩, ⟨by decide, by decide⟩, ⟨by decide, by decide⟩⟩)
noncomputable def C_spread_27_36 : Nat × yC := (101, (5, [(2, 24, 24), (2, 27, 27), (2, 36, 36)], (9, 0, 0), [36], [], [], [], 0, []))
theorem T_spread_27_36 {w0 : qW} : yCOK w0 zgf zga zra zSp zgh C_spread_27_36.1 C_spread_27_36.2 := by
  intro d as w hd hm hI hn hp
  have e : as = [(2, 24), (2, 27), (2, 36)] := args3r hm
  subst e
  refine qG.mono (K_spreadZ27_36 hd w hI) ?_
  rintro _ w' _ ⟨rfl, rfl, hA⟩
  exact ⟨⟨rfl, Int.le_refl 0, Int.le_refl 0⟩, hA.1, rfl, hA.2, fun e he => (by cases he), fun z => (by cases z)⟩
theorem K_spreadZ27_37 {d : Nat} (hd : 5 ≤ d) (w : qW) (hI : yInv zgf zga zra zSp w) : qG none d 101 0 [(2, 24), (2, 27), (2, 37), (9, 0), (9, 0), (9, 0), (9, 0), (9, 0), (9, 0), (9, 0), (9, 0), (9, 0), (9, 0), (9, 0)] [] w 142 (fun (r : qV) (w1 : qW) (n1 : Nat) => r = (9, 0) ∧ n1 = 142 ∧ AW [37] w w1) := by
  generalize hQ9 : (fun (r : qV) (w1 : qW) (n1 : Nat) => r = (9, 0) ∧ n1 = 142 ∧ AW [37] w w1) = Q9
  obtain ⟨N5, hN5⟩ : ∃ N : Int, N = 540 := ⟨_, rfl⟩
  obtain ⟨d, rfl⟩ : ∃ d9, d = d9 + 1 := ⟨d - 1, by omega⟩
  refine qG.blk 8 (pc' := 11) (ls' := [(2, 24), (2, 27), (2, 37), (1, 0), (9, 0), (1, 0), (9, 0), (1, 0), (9, 0), (0, 0), (9, 0), (9, 0), (9, 0), (9, 0)]) (st' := []) (w' := w) (n' := 142) rfl ?_
  have L11 : ∀ (m9 : Nat) (g : Nat) (a b c : Int) (l10 l12 l13 : qV), 3 - g = m9 → (g ≤ 3 ∧ qi64 a ∧ qi64 b ∧ qi64 c) → qG none (d + 1) 101 11 [(2, 24), (2, 27), (2, 37), (1, a), (9, 0), (1, b), (9, 0), (1, c), (9, 0), (0, ((g : Nat) : Int)), l10, (9, 0), l12, l13] [] w 142 Q9 := by
    intro m9
    induction m9 using Nat.strongRecOn with
    | ind m9 ih11 =>
    intro g a b c l10 l12 l13 hm11 hI11
    obtain ⟨hg3, ha, hb, hc⟩ := hI11
    refine qG.blk 2 (pc' := 14) (ls' := [(2, 24), (2, 27), (2, 37), (1, a), (9, 0), (1, b), (9, 0), (1, c), (9, 0), (0, ((g : Nat) : Int)), l10, (9, 0), l12, l13]) (st' := [(0, 3), (0, ((g : Nat) : Int))]) (w' := w) (n' := 142) rfl ?_
    refine qG.br (P := ((g : Nat) : Int) < 3) (pc1 := 17) (pc2 := 138) (st1 := []) rfl (fun hg => ?_) (fun hg => ?_)
    · skip
      refine qG.blk 3 (pc' := 21) (ls' := [(2, 24), (2, 27), (2, 37), (1, a), (9, 0), (1, b), (9, 0), (1, c), (9, 0), (0, ((g : Nat) : Int)), l10, (9, 0), l12, l13]) (st' := [(0, 3), (0, ((g : Nat) : Int))]) (w' := w) (n' := 142) rfl ?_
      refine qG.br (P := ((g : Nat) : Int) < 3) (pc1 := 24) (pc2 := 138) (st1 := []) rfl (fun hgl => ?_) (fun hgl => ?_)
      · skip
        refine qG.blk 2 (pc' := 27) (ls' := [(2, 24), (2, 27), (2, 37), (1, a), (9, 0), (1, b), (9, 0), (1, c), (9, 0), (0, ((g : Nat) : Int)), l10, (9, 0), l12, l13]) (st' := [(0, ((g : Nat) : Int)), (2, 27)]) (w' := w) (n' := 142) rfl ?_
        refine qG.ar (P := 0 ≤ ((g : Nat) : Int) ∧ ((g : Nat) : Int) < ((3 : Nat) : Int)) (P2 := 0 < (27 : Int) ∧ (27 : Int) ≤ ((142 : Nat) : Int)) (pc' := 28) (ls' := [(2, 24), (2, 27), (2, 37), (1, a), (9, 0), (1, b), (9, 0), (1, c), (9, 0), (0, ((g : Nat) : Int)), l10, (9, 0), l12, l13]) (st' := [(1, w 27 g)]) (w' := w) (n' := 142) rfl (by omega) (by decide) ?_
        refine qG.blk 3 (pc' := 33) (ls' := [(2, 24), (2, 27), (2, 37), (1, a), (9, 0), (1, b), (9, 0), (1, c), (9, 0), (0, ((g : Nat) : Int)), (1, w 27 g), (9, 0), (0, 0), l13]) (st' := []) (w' := w) (n' := 142) rfl ?_
        have L33 : ∀ (m9 : Nat) (i : Nat) (a b c x : Int) (l13 : qV), 64 - i = m9 → (i ≤ 64 ∧ qi64 a ∧ qi64 b ∧ qi64 c ∧ qi64 x) → qG none (d + 1) 101 33 [(2, 24), (2, 27), (2, 37), (1, a), (9, 0), (1, b), (9, 0), (1, c), (9, 0), (0, ((g : Nat) : Int)), (1, x), (9, 0), (0, ((i : Nat) : Int)), l13] [] w 142 Q9 := by
          intro m9
          induction m9 using Nat.strongRecOn with
          | ind m9 ih33 =>
          intro i a b c x l13 hm33 hI33
          obtain ⟨hi64, ha, hb, hc, hx⟩ := hI33
          refine qG.blk 2 (pc' := 37) (ls' := [(2, 24), (2, 27), (2, 37), (1, a), (9, 0), (1, b), (9, 0), (1, c), (9, 0), (0, ((g : Nat) : Int)), (1, x), (9, 0), (0, ((i : Nat) : Int)), l13]) (st' := [(0, 64), (0, ((i : Nat) : Int))]) (w' := w) (n' := 142) rfl ?_
          refine qG.br (P := ((i : Nat) : Int) < 64) (pc1 := 40) (pc2 := 132) (st1 := []) rfl (fun hi65 => ?_) (fun hi65 => ?_)
          · skip
            refine qG.blk 3 (pc' := 44) (ls' := [(2, 24), (2, 27), (2, 37), (1, a), (9, 0), (1, b), (9, 0), (1, c), (9, 0), (0, ((g : Nat) : Int)), (1, x), (9, 0), (0, ((i : Nat) : Int)), l13]) (st' := [(0, qcmp x 0)]) (w' := w) (n' := 142) rfl ?_
            refine qG.br (P := qcmp x 0 = 0) (pc1 := 132) (pc2 := 47) (st1 := []) rfl (fun hx0 => ?_) (fun hx0 => ?_)
            · skip
              refine qG.blk 1 (pc' := 135) (ls' := [(2, 24), (2, 27), (2, 37), (1, a), (9, 0), (1, b), (9, 0), (1, c), (9, 0), (0, wrp (((g : Nat) : Int) + 1)), (1, x), (9, 0), (0, ((i : Nat) : Int)), l13]) (st' := []) (w' := w) (n' := 142) rfl ?_
              rw [show wrp (((g : Nat) : Int) + 1) = ((g + 1 : Nat) : Int) from wrp_id (by omega) (by omega)]
              refine qG.blk 1 (pc' := 11) (ls' := [(2, 24), (2, 27), (2, 37), (1, a), (9, 0), (1, b), (9, 0), (1, c), (9, 0), (0, ((g + 1 : Nat) : Int)), (1, x), (9, 0), (0, ((i : Nat) : Int)), l13]) (st' := []) (w' := w) (n' := 142) rfl ?_
              exact ih11 _ (by omega) (g + 1) (a) (b) (c) ((1, x)) ((0, ((i : Nat) : Int))) (l13) rfl (⟨by omega, ha, hb, hc⟩)
            · skip
              refine qG.blk 4 (pc' := 53) (ls' := [(2, 24), (2, 27), (2, 37), (1, a), (9, 0), (1, b), (9, 0), (1, c), (9, 0), (0, ((g : Nat) : Int)), (1, x), (9, 0), (0, ((i : Nat) : Int)), l13]) (st' := [(0, wrp (64 * ((g : Nat) : Int))), (0, 3)]) (w' := w) (n' := 142) rfl ?_
              rw [show wrp (64 * ((g : Nat) : Int)) = ((64 * g : Nat) : Int) from by rw [wrp_id (by omega) (by omega)]; omega]
              refine qG.blk 1 (pc' := 55) (ls' := [(2, 24), (2, 27), (2, 37), (1, a), (9, 0), (1, b), (9, 0), (1, c), (9, 0), (0, ((g : Nat) : Int)), (1, x), (9, 0), (0, ((i : Nat) : Int)), l13]) (st' := [(1, x), (0, ((64 * g : Nat) : Int)), (0, 3)]) (w' := w) (n' := 142) rfl ?_
              refine qG.call (t := 303) (na := 1) (sk := 0) (md := 0) (ls1 := [(1, x), (9, 0), (9, 0)]) (r1 := [(0, ((64 * g : Nat) : Int)), (0, 3)]) rfl rfl rfl rfl rfl (AW.use (c := C_nTZL.2) (as := [(1, x)]) (m := []) T_nTZL (AW.rf hI) (show 2 ≤ d by omega) ⟨⟨rfl, i64l hx, i64u hx⟩, trivial⟩ rfl rfl (by decide +kernel)) ?_
              rintro _ w7 _ ⟨x7, rfl, hl7, hu7, hA7, rfl, -⟩
              have e7 := hA7.nilz
              rw [e7]
              have hl7 : (0 : Int) ≤ x7 := hl7
              have hu7 : x7 ≤ (64 : Int) := hu7
              obtain ⟨s, rfl⟩ : ∃ s : Nat, x7 = (s : Int) := ⟨x7.toNat, by omega⟩
              show qG none (d + 1) 101 58 [(2, 24), (2, 27), (2, 37), (1, a), (9, 0), (1, b), (9, 0), (1, c), (9, 0), (0, ((g : Nat) : Int)), (1, x), (9, 0), (0, ((i : Nat) : Int)), l13] [(0, ((s : Nat) : Int)), (0, ((64 * g : Nat) : Int)), (0, 3)] w 142 Q9
              refine qG.blk 1 (pc' := 59) (ls' := [(2, 24), (2, 27), (2, 37), (1, a), (9, 0), (1, b), (9, 0), (1, c), (9, 0), (0, ((g : Nat) : Int)), (1, x), (9, 0), (0, ((i : Nat) : Int)), l13]) (st' := [(0, wrp (((64 * g : Nat) : Int) + ((s : Nat) : Int))), (0, 3)]) (w' := w) (n' := 142) rfl ?_
              rw [show wrp (((64 * g : Nat) : Int) + ((s : Nat) : Int)) = ((64 * g + s : Nat) : Int) from by rw [wrp_id (by omega) (by omega)]; omega]
              refine qG.blk 1 (pc' := 60) (ls' := [(2, 24), (2, 27), (2, 37), (1, a), (9, 0), (1, b), (9, 0), (1, c), (9, 0), (0, ((g : Nat) : Int)), (1, x), (9, 0), (0, ((i : Nat) : Int)), l13]) (st' := [(0, wrp (3 * ((64 * g + s : Nat) : Int)))]) (w' := w) (n' := 142) rfl ?_
              rw [show wrp (3 * ((64 * g + s : Nat) : Int)) = ((3 * (64 * g + s) : Nat) : Int) from by rw [wrp_id (by omega) (by omega)]; omega]
              refine qG.blk 5 (pc' := 68) (ls' := [(2, 24), (2, 27), (2, 37), (1, a), (9, 0), (1, b), (9, 0), (1, c), (9, 0), (0, ((g : Nat) : Int)), (1, x), (9, 0), (0, ((i : Nat) : Int)), (0, ((3 * (64 * g + s) : Nat) : Int))]) (st' := [(1, wrl (x - 1)), (1, x)]) (w' := w) (n' := 142) rfl ?_
              refine qG.blk 3 (pc' := 73) (ls' := [(2, 24), (2, 27), (2, 37), (1, a), (9, 0), (1, b), (9, 0), (1, c), (9, 0), (0, ((g : Nat) : Int)), (1, qland x (wrl (x - 1))), (9, 0), (0, ((i : Nat) : Int)), (0, ((3 * (64 * g + s) : Nat) : Int))]) (st' := [(0, ((3 * (64 * g + s) : Nat) : Int))]) (w' := w) (n' := 142) rfl ?_
              refine qG.br (P := ((3 * (64 * g + s) : Nat) : Int) < 0) (pc1 := 126) (pc2 := 76) (st1 := []) rfl (fun hr0 => ?_) (fun hr0 => ?_)
              · exfalso; omega
              · skip
                refine qG.blk 3 (pc' := 80) (ls' := [(2, 24), (2, 27), (2, 37), (1, a), (9, 0), (1, b), (9, 0), (1, c), (9, 0), (0, ((g : Nat) : Int)), (1, qland x (wrl (x - 1))), (9, 0), (0, ((i : Nat) : Int)), (0, ((3 * (64 * g + s) : Nat) : Int))]) (st' := [(0, wrp (((3 * (64 * g + s) : Nat) : Int) + 2))]) (w' := w) (n' := 142) rfl ?_
                rw [show wrp (((3 * (64 * g + s) : Nat) : Int) + 2) = ((3 * (64 * g + s) + 2 : Nat) : Int) from by rw [wrp_id (by omega) (by omega)]; omega]
                refine qG.blk 2 (pc' := 84) (ls' := [(2, 24), (2, 27), (2, 37), (1, a), (9, 0), (1, b), (9, 0), (1, c), (9, 0), (0, ((g : Nat) : Int)), (1, qland x (wrl (x - 1))), (9, 0), (0, ((i : Nat) : Int)), (0, ((3 * (64 * g + s) : Nat) : Int))]) (st' := [(2, w 24 5), (0, ((3 * (64 * g + s) + 2 : Nat) : Int))]) (w' := w) (n' := 142) rfl ?_
                rw [show w 24 5 = 26 from zrefz hI rfl rfl]
                refine qG.blk 1 (pc' := 85) (ls' := [(2, 24), (2, 27), (2, 37), (1, a), (9, 0), (1, b), (9, 0), (1, c), (9, 0), (0, ((g : Nat) : Int)), (1, qland x (wrl (x - 1))), (9, 0), (0, ((i : Nat) : Int)), (0, ((3 * (64 * g + s) : Nat) : Int))]) (st' := [(0, 540), (0, ((3 * (64 * g + s) + 2 : Nat) : Int))]) (w' := w) (n' := 142) rfl ?_
                rw [show (540 : Int) = N5 from hN5.symm]
                refine qG.br (P := ((3 * (64 * g + s) + 2 : Nat) : Int) < N5) (pc1 := 88) (pc2 := 126) (st1 := []) rfl (fun h540 => ?_) (fun h540 => ?_)
                · skip
                  refine qG.blk 3 (pc' := 93) (ls' := [(2, 24), (2, 27), (2, 37), (1, a), (9, 0), (1, b), (9, 0), (1, c), (9, 0), (0, ((g : Nat) : Int)), (1, qland x (wrl (x - 1))), (9, 0), (0, ((i : Nat) : Int)), (0, ((3 * (64 * g + s) : Nat) : Int))]) (st' := [(2, w 24 5), (1, a)]) (w' := w) (n' := 142) rfl ?_
                  rw [show w 24 5 = 26 from zrefz hI rfl rfl]
                  refine qG.blk 1 (pc' := 95) (ls' := [(2, 24), (2, 27), (2, 37), (1, a), (9, 0), (1, b), (9, 0), (1, c), (9, 0), (0, ((g : Nat) : Int)), (1, qland x (wrl (x - 1))), (9, 0), (0, ((i : Nat) : Int)), (0, ((3 * (64 * g + s) : Nat) : Int))]) (st' := [(0, ((3 * (64 * g + s) : Nat) : Int)), (2, 26), (1, a)]) (w' := w) (n' := 142) rfl ?_
                  refine qG.lldz (m := 540) rfl rfl (by omega) (by decide) ?_
                  show qG none (d + 1) 101 96 [(2, 24), (2, 27), (2, 37), (1, a), (9, 0), (1, b), (9, 0), (1, c), (9, 0), (0, ((g : Nat) : Int)), (1, qland x (wrl (x - 1))), (9, 0), (0, ((i : Nat) : Int)), (0, ((3 * (64 * g + s) : Nat) : Int))] [(1, w 26 (3 * (64 * g + s))), (1, a)] w 142 Q9
                  refine qG.blk 5 (pc' := 104) (ls' := [(2, 24), (2, 27), (2, 37), (1, qlor a (w 26 (3 * (64 * g + s)))), (9, 0), (1, b), (9, 0), (1, c), (9, 0), (0, ((g : Nat) : Int)), (1, qland x (wrl (x - 1))), (9, 0), (0, ((i : Nat) : Int)), (0, ((3 * (64 * g + s) : Nat) : Int))]) (st' := [(2, w 24 5), (1, b)]) (w' := w) (n' := 142) rfl ?_
                  rw [show w 24 5 = 26 from zrefz hI rfl rfl]
                  refine qG.blk 3 (pc' := 108) (ls' := [(2, 24), (2, 27), (2, 37), (1, qlor a (w 26 (3 * (64 * g + s)))), (9, 0), (1, b), (9, 0), (1, c), (9, 0), (0, ((g : Nat) : Int)), (1, qland x (wrl (x - 1))), (9, 0), (0, ((i : Nat) : Int)), (0, ((3 * (64 * g + s) : Nat) : Int))]) (st' := [(0, wrp (((3 * (64 * g + s) : Nat) : Int) + 1)), (2, 26), (1, b)]) (w' := w) (n' := 142) rfl ?_
                  rw [show wrp (((3 * (64 * g + s) : Nat) : Int) + 1) = ((3 * (64 * g + s) + 1 : Nat) : Int) from by rw [wrp_id (by omega) (by omega)]; omega]
                  refine qG.lldz (m := 540) rfl rfl (by omega) (by decide) ?_
                  show qG none (d + 1) 101 109 [(2, 24), (2, 27), (2, 37), (1, qlor a (w 26 (3 * (64 * g + s)))), (9, 0), (1, b), (9, 0), (1, c), (9, 0), (0, ((g : Nat) : Int)), (1, qland x (wrl (x - 1))), (9, 0), (0, ((i : Nat) : Int)), (0, ((3 * (64 * g + s) : Nat) : Int))] [(1, w 26 (3 * (64 * g + s) + 1)), (1, b)] w 142 Q9
                  refine qG.blk 5 (pc' := 118) (ls' := [(2, 24), (2, 27), (2, 37), (1, qlor a (w 26 (3 * (64 * g + s)))), (9, 0), (1, qlor b (w 26 (3 * (64 * g + s) + 1))), (9, 0), (1, c), (9, 0), (0, ((g : Nat) : Int)), (1, qland x (wrl (x - 1))), (9, 0), (0, ((i : Nat) : Int)), (0, ((3 * (64 * g + s) : Nat) : Int))]) (st' := [(2, w 24 5), (1, c)]) (w' := w) (n' := 142) rfl ?_
                  rw [show w 24 5 = 26 from zrefz hI rfl rfl]
                  refine qG.blk 3 (pc' := 122) (ls' := [(2, 24), (2, 27), (2, 37), (1, qlor a (w 26 (3 * (64 * g + s)))), (9, 0), (1, qlor b (w 26 (3 * (64 * g + s) + 1))), (9, 0), (1, c), (9, 0), (0, ((g : Nat) : Int)), (1, qland x (wrl (x - 1))), (9, 0), (0, ((i : Nat) : Int)), (0, ((3 * (64 * g + s) : Nat) : Int))]) (st' := [(0, wrp (((3 * (64 * g + s) : Nat) : Int) + 2)), (2, 26), (1, c)]) (w' := w) (n' := 142) rfl ?_
                  rw [show wrp (((3 * (64 * g + s) : Nat) : Int) + 2) = ((3 * (64 * g + s) + 2 : Nat) : Int) from by rw [wrp_id (by omega) (by omega)]; omega]
                  refine qG.lldz (m := 540) rfl rfl (by omega) (by decide) ?_
                  show qG none (d + 1) 101 123 [(2, 24), (2, 27), (2, 37), (1, qlor a (w 26 (3 * (64 * g + s)))), (9, 0), (1, qlor b (w 26 (3 * (64 * g + s) + 1))), (9, 0), (1, c), (9, 0), (0, ((g : Nat) : Int)), (1, qland x (wrl (x - 1))), (9, 0), (0, ((i : Nat) : Int)), (0, ((3 * (64 * g + s) : Nat) : Int))] [(1, w 26 (3 * (64 * g + s) + 2)), (1, c)] w 142 Q9
                  refine qG.blk 3 (pc' := 129) (ls' := [(2, 24), (2, 27), (2, 37), (1, qlor a (w 26 (3 * (64 * g + s)))), (9, 0), (1, qlor b (w 26 (3 * (64 * g + s) + 1))), (9, 0), (1, qlor c (w 26 (3 * (64 * g + s) + 2))), (9, 0), (0, ((g : Nat) : Int)), (1, qland x (wrl (x - 1))), (9, 0), (0, wrp (((i : Nat) : Int) + 1)), (0, ((3 * (64 * g + s) : Nat) : Int))]) (st' := []) (w' := w) (n' := 142) rfl ?_
                  rw [show wrp (((i : Nat) : Int) + 1) = ((i + 1 : Nat) : Int) from wrp_id (by omega) (by omega)]
                  refine qG.blk 1 (pc' := 33) (ls' := [(2, 24), (2, 27), (2, 37), (1, qlor a (w 26 (3 * (64 * g + s)))), (9, 0), (1, qlor b (w 26 (3 * (64 * g + s) + 1))), (9, 0), (1, qlor c (w 26 (3 * (64 * g + s) + 2))), (9, 0), (0, ((g : Nat) : Int)), (1, qland x (wrl (x - 1))), (9, 0), (0, ((i + 1 : Nat) : Int)), (0, ((3 * (64 * g + s) : Nat) : Int))]) (st' := []) (w' := w) (n' := 142) rfl ?_
                  exact ih33 _ (by omega) (i + 1) (qlor a (w 26 (3 * (64 * g + s)))) (qlor b (w 26 (3 * (64 * g + s) + 1))) (qlor c (w 26 (3 * (64 * g + s) + 2))) (qland x (wrl (x - 1))) ((0, ((3 * (64 * g + s) : Nat) : Int))) rfl (⟨by omega, by first | exact ha | exact qlorz _ _, by first | exact hb | exact qlorz _ _, by first | exact hc | exact qlorz _ _, qlandz _ _⟩)
                · skip
                  refine qG.blk 1 (pc' := 129) (ls' := [(2, 24), (2, 27), (2, 37), (1, a), (9, 0), (1, b), (9, 0), (1, c), (9, 0), (0, ((g : Nat) : Int)), (1, qland x (wrl (x - 1))), (9, 0), (0, wrp (((i : Nat) : Int) + 1)), (0, ((3 * (64 * g + s) : Nat) : Int))]) (st' := []) (w' := w) (n' := 142) rfl ?_
                  rw [show wrp (((i : Nat) : Int) + 1) = ((i + 1 : Nat) : Int) from wrp_id (by omega) (by omega)]
                  refine qG.blk 1 (pc' := 33) (ls' := [(2, 24), (2, 27), (2, 37), (1, a), (9, 0), (1, b), (9, 0), (1, c), (9, 0), (0, ((g : Nat) : Int)), (1, qland x (wrl (x - 1))), (9, 0), (0, ((i + 1 : Nat) : Int)), (0, ((3 * (64 * g + s) : Nat) : Int))]) (st' := []) (w' := w) (n' := 142) rfl ?_
                  exact ih33 _ (by omega) (i + 1) (a) (b) (c) (qland x (wrl (x - 1))) ((0, ((3 * (64 * g + s) : Nat) : Int))) rfl (⟨by omega, by first | exact ha | exact qlorz _ _, by first | exact hb | exact qlorz _ _, by first | exact hc | exact qlorz _ _, qlandz _ _⟩)
          · skip
            refine qG.blk 1 (pc' := 135) (ls' := [(2, 24), (2, 27), (2, 37), (1, a), (9, 0), (1, b), (9, 0), (1, c), (9, 0), (0, wrp (((g : Nat) : Int) + 1)), (1, x), (9, 0), (0, ((i : Nat) : Int)), l13]) (st' := []) (w' := w) (n' := 142) rfl ?_
            rw [show wrp (((g : Nat) : Int) + 1) = ((g + 1 : Nat) : Int) from wrp_id (by omega) (by omega)]
            refine qG.blk 1 (pc' := 11) (ls' := [(2, 24), (2, 27), (2, 37), (1, a), (9, 0), (1, b), (9, 0), (1, c), (9, 0), (0, ((g + 1 : Nat) : Int)), (1, x), (9, 0), (0, ((i : Nat) : Int)), l13]) (st' := []) (w' := w) (n' := 142) rfl ?_
            exact ih11 _ (by omega) (g + 1) (a) (b) (c) ((1, x)) ((0, ((i : Nat) : Int))) (l13) rfl (⟨by omega, ha, hb, hc⟩)
        exact L33 _ (0) (a) (b) (c) (w 27 g) (l13) rfl (⟨Nat.zero_le _, ha, hb, hc, arrz hI rfl rfl⟩)
      · exfalso; omega
    · skip
      refine qG.blk 4 (pc' := 144) (ls' := [(2, 24), (2, 27), (2, 37), (1, a), (9, 0), (1, b), (9, 0), (1, c), (9, 0), (0, ((g : Nat) : Int)), l10, (9, 0), l12, l13]) (st' := [(1, c), (1, b), (1, a), (2, 37)]) (w' := w) (n' := 142) rfl ?_
      refine qG.call (t := 105) (na := 4) (sk := 0) (md := 0) (ls1 := [(2, 37), (1, a), (9, 0), (1, b), (9, 0), (1, c), (9, 0)]) (r1 := []) rfl rfl rfl rfl rfl (AW.use (c := C_putRow37.2) (as := [(2, 37), (1, a), (1, b), (1, c)]) (m := [37]) T_putRow37 (AW.rf hI) (show 1 ≤ d by omega) ⟨⟨rfl, by decide, by decide⟩, ⟨rfl, i64l ha, i64u ha⟩, ⟨rfl, i64l hb, i64u hb⟩, ⟨rfl, i64l hc, i64u hc⟩, trivial⟩ rfl rfl (by decide +kernel)) ?_
      rintro _ w0 _ ⟨x7, rfl, -, -, hA7, rfl, -⟩
      show qG none (d + 1) 101 147 [(2, 24), (2, 27), (2, 37), (1, a), (9, 0), (1, b), (9, 0), (1, c), (9, 0), (0, ((g : Nat) : Int)), l10, (9, 0), l12, l13] [] w0 142 Q9
      refine qG.retv rfl rfl ?_
      subst hQ9
      exact ⟨rfl, rfl, hA7⟩
  exact L11 _ (0) (0) (0) (0) ((9, 0)) ((9, 0)) ((9, 0)) rfl (⟨Nat.zero_le _, ⟨by decide, by decide⟩, ⟨by decide, by decide⟩, ⟨by decide, by decide⟩⟩)
noncomputable def C_spread_27_37 : Nat × yC := (101, (5, [(2, 24, 24), (2, 27, 27), (2, 37, 37)], (9, 0, 0), [37], [], [], [], 0, []))
theorem T_spread_27_37 {w0 : qW} : yCOK w0 zgf zga zra zSp zgh C_spread_27_37.1 C_spread_27_37.2 := by
  intro d as w hd hm hI hn hp
  have e : as = [(2, 24), (2, 27), (2, 37)] := args3r hm
  subst e
  refine qG.mono (K_spreadZ27_37 hd w hI) ?_
  rintro _ w' _ ⟨rfl, rfl, hA⟩
  exact ⟨⟨rfl, Int.le_refl 0, Int.le_refl 0⟩, hA.1, rfl, hA.2, fun e he => (by cases he), fun z => (by cases z)⟩
theorem K_spreadZ27_38 {d : Nat} (hd : 5 ≤ d) (w : qW) (hI : yInv zgf zga zra zSp w) : qG none d 101 0 [(2, 24), (2, 27), (2, 38), (9, 0), (9, 0), (9, 0), (9, 0), (9, 0), (9, 0), (9, 0), (9, 0), (9, 0), (9, 0), (9, 0)] [] w 142 (fun (r : qV) (w1 : qW) (n1 : Nat) => r = (9, 0) ∧ n1 = 142 ∧ AW [38] w w1) := by
  generalize hQ9 : (fun (r : qV) (w1 : qW) (n1 : Nat) => r = (9, 0) ∧ n1 = 142 ∧ AW [38] w w1) = Q9
  obtain ⟨N5, hN5⟩ : ∃ N : Int, N = 540 := ⟨_, rfl⟩
  obtain ⟨d, rfl⟩ : ∃ d9, d = d9 + 1 := ⟨d - 1, by omega⟩
  refine qG.blk 8 (pc' := 11) (ls' := [(2, 24), (2, 27), (2, 38), (1, 0), (9, 0), (1, 0), (9, 0), (1, 0), (9, 0), (0, 0), (9, 0), (9, 0), (9, 0), (9, 0)]) (st' := []) (w' := w) (n' := 142) rfl ?_
  have L11 : ∀ (m9 : Nat) (g : Nat) (a b c : Int) (l10 l12 l13 : qV), 3 - g = m9 → (g ≤ 3 ∧ qi64 a ∧ qi64 b ∧ qi64 c) → qG none (d + 1) 101 11 [(2, 24), (2, 27), (2, 38), (1, a), (9, 0), (1, b), (9, 0), (1, c), (9, 0), (0, ((g : Nat) : Int)), l10, (9, 0), l12, l13] [] w 142 Q9 := by
    intro m9
    induction m9 using Nat.strongRecOn with
    | ind m9 ih11 =>
    intro g a b c l10 l12 l13 hm11 hI11
    obtain ⟨hg3, ha, hb, hc⟩ := hI11
    refine qG.blk 2 (pc' := 14) (ls' := [(2, 24), (2, 27), (2, 38), (1, a), (9, 0), (1, b), (9, 0), (1, c), (9, 0), (0, ((g : Nat) : Int)), l10, (9, 0), l12, l13]) (st' := [(0, 3), (0, ((g : Nat) : Int))]) (w' := w) (n' := 142) rfl ?_
    refine qG.br (P := ((g : Nat) : Int) < 3) (pc1 := 17) (pc2 := 138) (st1 := []) rfl (fun hg => ?_) (fun hg => ?_)
    · skip
      refine qG.blk 3 (pc' := 21) (ls' := [(2, 24), (2, 27), (2, 38), (1, a), (9, 0), (1, b), (9, 0), (1, c), (9, 0), (0, ((g : Nat) : Int)), l10, (9, 0), l12, l13]) (st' := [(0, 3), (0, ((g : Nat) : Int))]) (w' := w) (n' := 142) rfl ?_
      refine qG.br (P := ((g : Nat) : Int) < 3) (pc1 := 24) (pc2 := 138) (st1 := []) rfl (fun hgl => ?_) (fun hgl => ?_)
      · skip
        refine qG.blk 2 (pc' := 27) (ls' := [(2, 24), (2, 27), (2, 38), (1, a), (9, 0), (1, b), (9, 0), (1, c), (9, 0), (0, ((g : Nat) : Int)), l10, (9, 0), l12, l13]) (st' := [(0, ((g : Nat) : Int)), (2, 27)]) (w' := w) (n' := 142) rfl ?_
        refine qG.ar (P := 0 ≤ ((g : Nat) : Int) ∧ ((g : Nat) : Int) < ((3 : Nat) : Int)) (P2 := 0 < (27 : Int) ∧ (27 : Int) ≤ ((142 : Nat) : Int)) (pc' := 28) (ls' := [(2, 24), (2, 27), (2, 38), (1, a), (9, 0), (1, b), (9, 0), (1, c), (9, 0), (0, ((g : Nat) : Int)), l10, (9, 0), l12, l13]) (st' := [(1, w 27 g)]) (w' := w) (n' := 142) rfl (by omega) (by decide) ?_
        refine qG.blk 3 (pc' := 33) (ls' := [(2, 24), (2, 27), (2, 38), (1, a), (9, 0), (1, b), (9, 0), (1, c), (9, 0), (0, ((g : Nat) : Int)), (1, w 27 g), (9, 0), (0, 0), l13]) (st' := []) (w' := w) (n' := 142) rfl ?_
        have L33 : ∀ (m9 : Nat) (i : Nat) (a b c x : Int) (l13 : qV), 64 - i = m9 → (i ≤ 64 ∧ qi64 a ∧ qi64 b ∧ qi64 c ∧ qi64 x) → qG none (d + 1) 101 33 [(2, 24), (2, 27), (2, 38), (1, a), (9, 0), (1, b), (9, 0), (1, c), (9, 0), (0, ((g : Nat) : Int)), (1, x), (9, 0), (0, ((i : Nat) : Int)), l13] [] w 142 Q9 := by
          intro m9
          induction m9 using Nat.strongRecOn with
          | ind m9 ih33 =>
          intro i a b c x l13 hm33 hI33
          obtain ⟨hi64, ha, hb, hc, hx⟩ := hI33
          refine qG.blk 2 (pc' := 37) (ls' := [(2, 24), (2, 27), (2, 38), (1, a), (9, 0), (1, b), (9, 0), (1, c), (9, 0), (0, ((g : Nat) : Int)), (1, x), (9, 0), (0, ((i : Nat) : Int)), l13]) (st' := [(0, 64), (0, ((i : Nat) : Int))]) (w' := w) (n' := 142) rfl ?_
          refine qG.br (P := ((i : Nat) : Int) < 64) (pc1 := 40) (pc2 := 132) (st1 := []) rfl (fun hi65 => ?_) (fun hi65 => ?_)
          · skip
            refine qG.blk 3 (pc' := 44) (ls' := [(2, 24), (2, 27), (2, 38), (1, a), (9, 0), (1, b), (9, 0), (1, c), (9, 0), (0, ((g : Nat) : Int)), (1, x), (9, 0), (0, ((i : Nat) : Int)), l13]) (st' := [(0, qcmp x 0)]) (w' := w) (n' := 142) rfl ?_
            refine qG.br (P := qcmp x 0 = 0) (pc1 := 132) (pc2 := 47) (st1 := []) rfl (fun hx0 => ?_) (fun hx0 => ?_)
            · skip
              refine qG.blk 1 (pc' := 135) (ls' := [(2, 24), (2, 27), (2, 38), (1, a), (9, 0), (1, b), (9, 0), (1, c), (9, 0), (0, wrp (((g : Nat) : Int) + 1)), (1, x), (9, 0), (0, ((i : Nat) : Int)), l13]) (st' := []) (w' := w) (n' := 142) rfl ?_
              rw [show wrp (((g : Nat) : Int) + 1) = ((g + 1 : Nat) : Int) from wrp_id (by omega) (by omega)]
              refine qG.blk 1 (pc' := 11) (ls' := [(2, 24), (2, 27), (2, 38), (1, a), (9, 0), (1, b), (9, 0), (1, c), (9, 0), (0, ((g + 1 : Nat) : Int)), (1, x), (9, 0), (0, ((i : Nat) : Int)), l13]) (st' := []) (w' := w) (n' := 142) rfl ?_
              exact ih11 _ (by omega) (g + 1) (a) (b) (c) ((1, x)) ((0, ((i : Nat) : Int))) (l13) rfl (⟨by omega, ha, hb, hc⟩)
            · skip
              refine qG.blk 4 (pc' := 53) (ls' := [(2, 24), (2, 27), (2, 38), (1, a), (9, 0), (1, b), (9, 0), (1, c), (9, 0), (0, ((g : Nat) : Int)), (1, x), (9, 0), (0, ((i : Nat) : Int)), l13]) (st' := [(0, wrp (64 * ((g : Nat) : Int))), (0, 3)]) (w' := w) (n' := 142) rfl ?_
              rw [show wrp (64 * ((g : Nat) : Int)) = ((64 * g : Nat) : Int) from by rw [wrp_id (by omega) (by omega)]; omega]
              refine qG.blk 1 (pc' := 55) (ls' := [(2, 24), (2, 27), (2, 38), (1, a), (9, 0), (1, b), (9, 0), (1, c), (9, 0), (0, ((g : Nat) : Int)), (1, x), (9, 0), (0, ((i : Nat) : Int)), l13]) (st' := [(1, x), (0, ((64 * g : Nat) : Int)), (0, 3)]) (w' := w) (n' := 142) rfl ?_
              refine qG.call (t := 303) (na := 1) (sk := 0) (md := 0) (ls1 := [(1, x), (9, 0), (9, 0)]) (r1 := [(0, ((64 * g : Nat) : Int)), (0, 3)]) rfl rfl rfl rfl rfl (AW.use (c := C_nTZL.2) (as := [(1, x)]) (m := []) T_nTZL (AW.rf hI) (show 2 ≤ d by omega) ⟨⟨rfl, i64l hx, i64u hx⟩, trivial⟩ rfl rfl (by decide +kernel)) ?_
              rintro _ w7 _ ⟨x7, rfl, hl7, hu7, hA7, rfl, -⟩
              have e7 := hA7.nilz
              rw [e7]
              have hl7 : (0 : Int) ≤ x7 := hl7
              have hu7 : x7 ≤ (64 : Int) := hu7
              obtain ⟨s, rfl⟩ : ∃ s : Nat, x7 = (s : Int) := ⟨x7.toNat, by omega⟩
              show qG none (d + 1) 101 58 [(2, 24), (2, 27), (2, 38), (1, a), (9, 0), (1, b), (9, 0), (1, c), (9, 0), (0, ((g : Nat) : Int)), (1, x), (9, 0), (0, ((i : Nat) : Int)), l13] [(0, ((s : Nat) : Int)), (0, ((64 * g : Nat) : Int)), (0, 3)] w 142 Q9
              refine qG.blk 1 (pc' := 59) (ls' := [(2, 24), (2, 27), (2, 38), (1, a), (9, 0), (1, b), (9, 0), (1, c), (9, 0), (0, ((g : Nat) : Int)), (1, x), (9, 0), (0, ((i : Nat) : Int)), l13]) (st' := [(0, wrp (((64 * g : Nat) : Int) + ((s : Nat) : Int))), (0, 3)]) (w' := w) (n' := 142) rfl ?_
              rw [show wrp (((64 * g : Nat) : Int) + ((s : Nat) : Int)) = ((64 * g + s : Nat) : Int) from by rw [wrp_id (by omega) (by omega)]; omega]
              refine qG.blk 1 (pc' := 60) (ls' := [(2, 24), (2, 27), (2, 38), (1, a), (9, 0), (1, b), (9, 0), (1, c), (9, 0), (0, ((g : Nat) : Int)), (1, x), (9, 0), (0, ((i : Nat) : Int)), l13]) (st' := [(0, wrp (3 * ((64 * g + s : Nat) : Int)))]) (w' := w) (n' := 142) rfl ?_
              rw [show wrp (3 * ((64 * g + s : Nat) : Int)) = ((3 * (64 * g + s) : Nat) : Int) from by rw [wrp_id (by omega) (by omega)]; omega]
              refine qG.blk 5 (pc' := 68) (ls' := [(2, 24), (2, 27), (2, 38), (1, a), (9, 0), (1, b), (9, 0), (1, c), (9, 0), (0, ((g : Nat) : Int)), (1, x), (9, 0), (0, ((i : Nat) : Int)), (0, ((3 * (64 * g + s) : Nat) : Int))]) (st' := [(1, wrl (x - 1)), (1, x)]) (w' := w) (n' := 142) rfl ?_
              refine qG.blk 3 (pc' := 73) (ls' := [(2, 24), (2, 27), (2, 38), (1, a), (9, 0), (1, b), (9, 0), (1, c), (9, 0), (0, ((g : Nat) : Int)), (1, qland x (wrl (x - 1))), (9, 0), (0, ((i : Nat) : Int)), (0, ((3 * (64 * g + s) : Nat) : Int))]) (st' := [(0, ((3 * (64 * g + s) : Nat) : Int))]) (w' := w) (n' := 142) rfl ?_
              refine qG.br (P := ((3 * (64 * g + s) : Nat) : Int) < 0) (pc1 := 126) (pc2 := 76) (st1 := []) rfl (fun hr0 => ?_) (fun hr0 => ?_)
              · exfalso; omega
              · skip
                refine qG.blk 3 (pc' := 80) (ls' := [(2, 24), (2, 27), (2, 38), (1, a), (9, 0), (1, b), (9, 0), (1, c), (9, 0), (0, ((g : Nat) : Int)), (1, qland x (wrl (x - 1))), (9, 0), (0, ((i : Nat) : Int)), (0, ((3 * (64 * g + s) : Nat) : Int))]) (st' := [(0, wrp (((3 * (64 * g + s) : Nat) : Int) + 2))]) (w' := w) (n' := 142) rfl ?_
                rw [show wrp (((3 * (64 * g + s) : Nat) : Int) + 2) = ((3 * (64 * g + s) + 2 : Nat) : Int) from by rw [wrp_id (by omega) (by omega)]; omega]
                refine qG.blk 2 (pc' := 84) (ls' := [(2, 24), (2, 27), (2, 38), (1, a), (9, 0), (1, b), (9, 0), (1, c), (9, 0), (0, ((g : Nat) : Int)), (1, qland x (wrl (x - 1))), (9, 0), (0, ((i : Nat) : Int)), (0, ((3 * (64 * g + s) : Nat) : Int))]) (st' := [(2, w 24 5), (0, ((3 * (64 * g + s) + 2 : Nat) : Int))]) (w' := w) (n' := 142) rfl ?_
                rw [show w 24 5 = 26 from zrefz hI rfl rfl]
                refine qG.blk 1 (pc' := 85) (ls' := [(2, 24), (2, 27), (2, 38), (1, a), (9, 0), (1, b), (9, 0), (1, c), (9, 0), (0, ((g : Nat) : Int)), (1, qland x (wrl (x - 1))), (9, 0), (0, ((i : Nat) : Int)), (0, ((3 * (64 * g + s) : Nat) : Int))]) (st' := [(0, 540), (0, ((3 * (64 * g + s) + 2 : Nat) : Int))]) (w' := w) (n' := 142) rfl ?_
                rw [show (540 : Int) = N5 from hN5.symm]
                refine qG.br (P := ((3 * (64 * g + s) + 2 : Nat) : Int) < N5) (pc1 := 88) (pc2 := 126) (st1 := []) rfl (fun h540 => ?_) (fun h540 => ?_)
                · skip
                  refine qG.blk 3 (pc' := 93) (ls' := [(2, 24), (2, 27), (2, 38), (1, a), (9, 0), (1, b), (9, 0), (1, c), (9, 0), (0, ((g : Nat) : Int)), (1, qland x (wrl (x - 1))), (9, 0), (0, ((i : Nat) : Int)), (0, ((3 * (64 * g + s) : Nat) : Int))]) (st' := [(2, w 24 5), (1, a)]) (w' := w) (n' := 142) rfl ?_
                  rw [show w 24 5 = 26 from zrefz hI rfl rfl]
                  refine qG.blk 1 (pc' := 95) (ls' := [(2, 24), (2, 27), (2, 38), (1, a), (9, 0), (1, b), (9, 0), (1, c), (9, 0), (0, ((g : Nat) : Int)), (1, qland x (wrl (x - 1))), (9, 0), (0, ((i : Nat) : Int)), (0, ((3 * (64 * g + s) : Nat) : Int))]) (st' := [(0, ((3 * (64 * g + s) : Nat) : Int)), (2, 26), (1, a)]) (w' := w) (n' := 142) rfl ?_
                  refine qG.lldz (m := 540) rfl rfl (by omega) (by decide) ?_
                  show qG none (d + 1) 101 96 [(2, 24), (2, 27), (2, 38), (1, a), (9, 0), (1, b), (9, 0), (1, c), (9, 0), (0, ((g : Nat) : Int)), (1, qland x (wrl (x - 1))), (9, 0), (0, ((i : Nat) : Int)), (0, ((3 * (64 * g + s) : Nat) : Int))] [(1, w 26 (3 * (64 * g + s))), (1, a)] w 142 Q9
                  refine qG.blk 5 (pc' := 104) (ls' := [(2, 24), (2, 27), (2, 38), (1, qlor a (w 26 (3 * (64 * g + s)))), (9, 0), (1, b), (9, 0), (1, c), (9, 0), (0, ((g : Nat) : Int)), (1, qland x (wrl (x - 1))), (9, 0), (0, ((i : Nat) : Int)), (0, ((3 * (64 * g + s) : Nat) : Int))]) (st' := [(2, w 24 5), (1, b)]) (w' := w) (n' := 142) rfl ?_
                  rw [show w 24 5 = 26 from zrefz hI rfl rfl]
                  refine qG.blk 3 (pc' := 108) (ls' := [(2, 24), (2, 27), (2, 38), (1, qlor a (w 26 (3 * (64 * g + s)))), (9, 0), (1, b), (9, 0), (1, c), (9, 0), (0, ((g : Nat) : Int)), (1, qland x (wrl (x - 1))), (9, 0), (0, ((i : Nat) : Int)), (0, ((3 * (64 * g + s) : Nat) : Int))]) (st' := [(0, wrp (((3 * (64 * g + s) : Nat) : Int) + 1)), (2, 26), (1, b)]) (w' := w) (n' := 142) rfl ?_
                  rw [show wrp (((3 * (64 * g + s) : Nat) : Int) + 1) = ((3 * (64 * g + s) + 1 : Nat) : Int) from by rw [wrp_id (by omega) (by omega)]; omega]
                  refine qG.lldz (m := 540) rfl rfl (by omega) (by decide) ?_
                  show qG none (d + 1) 101 109 [(2, 24), (2, 27), (2, 38), (1, qlor a (w 26 (3 * (64 * g + s)))), (9, 0), (1, b), (9, 0), (1, c), (9, 0), (0, ((g : Nat) : Int)), (1, qland x (wrl (x - 1))), (9, 0), (0, ((i : Nat) : Int)), (0, ((3 * (64 * g + s) : Nat) : Int))] [(1, w 26 (3 * (64 * g + s) + 1)), (1, b)] w 142 Q9
                  refine qG.blk 5 (pc' := 118) (ls' := [(2, 24), (2, 27), (2, 38), (1, qlor a (w 26 (3 * (64 * g + s)))), (9, 0), (1, qlor b (w 26 (3 * (64 * g + s) + 1))), (9, 0), (1, c), (9, 0), (0, ((g : Nat) : Int)), (1, qland x (wrl (x - 1))), (9, 0), (0, ((i : Nat) : Int)), (0, ((3 * (64 * g + s) : Nat) : Int))]) (st' := [(2, w 24 5), (1, c)]) (w' := w) (n' := 142) rfl ?_
                  rw [show w 24 5 = 26 from zrefz hI rfl rfl]
                  refine qG.blk 3 (pc' := 122) (ls' := [(2, 24), (2, 27), (2, 38), (1, qlor a (w 26 (3 * (64 * g + s)))), (9, 0), (1, qlor b (w 26 (3 * (64 * g + s) + 1))), (9, 0), (1, c), (9, 0), (0, ((g : Nat) : Int)), (1, qland x (wrl (x - 1))), (9, 0), (0, ((i : Nat) : Int)), (0, ((3 * (64 * g + s) : Nat) : Int))]) (st' := [(0, wrp (((3 * (64 * g + s) : Nat) : Int) + 2)), (2, 26), (1, c)]) (w' := w) (n' := 142) rfl ?_
                  rw [show wrp (((3 * (64 * g + s) : Nat) : Int) + 2) = ((3 * (64 * g + s) + 2 : Nat) : Int) from by rw [wrp_id (by omega) (by omega)]; omega]
                  refine qG.lldz (m := 540) rfl rfl (by omega) (by decide) ?_
                  show qG none (d + 1) 101 123 [(2, 24), (2, 27), (2, 38), (1, qlor a (w 26 (3 * (64 * g + s)))), (9, 0), (1, qlor b (w 26 (3 * (64 * g + s) + 1))), (9, 0), (1, c), (9, 0), (0, ((g : Nat) : Int)), (1, qland x (wrl (x - 1))), (9, 0), (0, ((i : Nat) : Int)), (0, ((3 * (64 * g + s) : Nat) : Int))] [(1, w 26 (3 * (64 * g + s) + 2)), (1, c)] w 142 Q9
                  refine qG.blk 3 (pc' := 129) (ls' := [(2, 24), (2, 27), (2, 38), (1, qlor a (w 26 (3 * (64 * g + s)))), (9, 0), (1, qlor b (w 26 (3 * (64 * g + s) + 1))), (9, 0), (1, qlor c (w 26 (3 * (64 * g + s) + 2))), (9, 0), (0, ((g : Nat) : Int)), (1, qland x (wrl (x - 1))), (9, 0), (0, wrp (((i : Nat) : Int) + 1)), (0, ((3 * (64 * g + s) : Nat) : Int))]) (st' := []) (w' := w) (n' := 142) rfl ?_
                  rw [show wrp (((i : Nat) : Int) + 1) = ((i + 1 : Nat) : Int) from wrp_id (by omega) (by omega)]
                  refine qG.blk 1 (pc' := 33) (ls' := [(2, 24), (2, 27), (2, 38), (1, qlor a (w 26 (3 * (64 * g + s)))), (9, 0), (1, qlor b (w 26 (3 * (64 * g + s) + 1))), (9, 0), (1, qlor c (w 26 (3 * (64 * g + s) + 2))), (9, 0), (0, ((g : Nat) : Int)), (1, qland x (wrl (x - 1))), (9, 0), (0, ((i + 1 : Nat) : Int)), (0, ((3 * (64 * g + s) : Nat) : Int))]) (st' := []) (w' := w) (n' := 142) rfl ?_
                  exact ih33 _ (by omega) (i + 1) (qlor a (w 26 (3 * (64 * g + s)))) (qlor b (w 26 (3 * (64 * g + s) + 1))) (qlor c (w 26 (3 * (64 * g + s) + 2))) (qland x (wrl (x - 1))) ((0, ((3 * (64 * g + s) : Nat) : Int))) rfl (⟨by omega, by first | exact ha | exact qlorz _ _, by first | exact hb | exact qlorz _ _, by first | exact hc | exact qlorz _ _, qlandz _ _⟩)
                · skip
                  refine qG.blk 1 (pc' := 129) (ls' := [(2, 24), (2, 27), (2, 38), (1, a), (9, 0), (1, b), (9, 0), (1, c), (9, 0), (0, ((g : Nat) : Int)), (1, qland x (wrl (x - 1))), (9, 0), (0, wrp (((i : Nat) : Int) + 1)), (0, ((3 * (64 * g + s) : Nat) : Int))]) (st' := []) (w' := w) (n' := 142) rfl ?_
                  rw [show wrp (((i : Nat) : Int) + 1) = ((i + 1 : Nat) : Int) from wrp_id (by omega) (by omega)]
                  refine qG.blk 1 (pc' := 33) (ls' := [(2, 24), (2, 27), (2, 38), (1, a), (9, 0), (1, b), (9, 0), (1, c), (9, 0), (0, ((g : Nat) : Int)), (1, qland x (wrl (x - 1))), (9, 0), (0, ((i + 1 : Nat) : Int)), (0, ((3 * (64 * g + s) : Nat) : Int))]) (st' := []) (w' := w) (n' := 142) rfl ?_
                  exact ih33 _ (by omega) (i + 1) (a) (b) (c) (qland x (wrl (x - 1))) ((0, ((3 * (64 * g + s) : Nat) : Int))) rfl (⟨by omega, by first | exact ha | exact qlorz _ _, by first | exact hb | exact qlorz _ _, by first | exact hc | exact qlorz _ _, qlandz _ _⟩)
          · skip
            refine qG.blk 1 (pc' := 135) (ls' := [(2, 24), (2, 27), (2, 38), (1, a), (9, 0), (1, b), (9, 0), (1, c), (9, 0), (0, wrp (((g : Nat) : Int) + 1)), (1, x), (9, 0), (0, ((i : Nat) : Int)), l13]) (st' := []) (w' := w) (n' := 142) rfl ?_
            rw [show wrp (((g : Nat) : Int) + 1) = ((g + 1 : Nat) : Int) from wrp_id (by omega) (by omega)]
            refine qG.blk 1 (pc' := 11) (ls' := [(2, 24), (2, 27), (2, 38), (1, a), (9, 0), (1, b), (9, 0), (1, c), (9, 0), (0, ((g + 1 : Nat) : Int)), (1, x), (9, 0), (0, ((i : Nat) : Int)), l13]) (st' := []) (w' := w) (n' := 142) rfl ?_
            exact ih11 _ (by omega) (g + 1) (a) (b) (c) ((1, x)) ((0, ((i : Nat) : Int))) (l13) rfl (⟨by omega, ha, hb, hc⟩)
        exact L33 _ (0) (a) (b) (c) (w 27 g) (l13) rfl (⟨Nat.zero_le _, ha, hb, hc, arrz hI rfl rfl⟩)
      · exfalso; omega
    · skip
      refine qG.blk 4 (pc' := 144) (ls' := [(2, 24), (2, 27), (2, 38), (1, a), (9, 0), (1, b), (9, 0), (1, c), (9, 0), (0, ((g : Nat) : Int)), l10, (9, 0), l12, l13]) (st' := [(1, c), (1, b), (1, a), (2, 38)]) (w' := w) (n' := 142) rfl ?_
      refine qG.call (t := 105) (na := 4) (sk := 0) (md := 0) (ls1 := [(2, 38), (1, a), (9, 0), (1, b), (9, 0), (1, c), (9, 0)]) (r1 := []) rfl rfl rfl rfl rfl (AW.use (c := C_putRow38.2) (as := [(2, 38), (1, a), (1, b), (1, c)]) (m := [38]) T_putRow38 (AW.rf hI) (show 1 ≤ d by omega) ⟨⟨rfl, by decide, by decide⟩, ⟨rfl, i64l ha, i64u ha⟩, ⟨rfl, i64l hb, i64u hb⟩, ⟨rfl, i64l hc, i64u hc⟩, trivial⟩ rfl rfl (by decide +kernel)) ?_
      rintro _ w0 _ ⟨x7, rfl, -, -, hA7, rfl, -⟩
      show qG none (d + 1) 101 147 [(2, 24), (2, 27), (2, 38), (1, a), (9, 0), (1, b), (9, 0), (1, c), (9, 0), (0, ((g : Nat) : Int)), l10, (9, 0), l12, l13] [] w0 142 Q9
      refine qG.retv rfl rfl ?_
      subst hQ9
      exact ⟨rfl, rfl, hA7⟩
  exact L11 _ (0) (0) (0) (0) ((9, 0)) ((9, 0)) ((9, 0)) rfl (⟨Nat.zero_le _, ⟨by decide, by decide⟩, ⟨by decide, by decide⟩, ⟨by decide, by decide⟩⟩)
noncomputable def C_spread_27_38 : Nat × yC := (101, (5, [(2, 24, 24), (2, 27, 27), (2, 38, 38)], (9, 0, 0), [38], [], [], [], 0, []))
theorem T_spread_27_38 {w0 : qW} : yCOK w0 zgf zga zra zSp zgh C_spread_27_38.1 C_spread_27_38.2 := by
  intro d as w hd hm hI hn hp
  have e : as = [(2, 24), (2, 27), (2, 38)] := args3r hm
  subst e
  refine qG.mono (K_spreadZ27_38 hd w hI) ?_
  rintro _ w' _ ⟨rfl, rfl, hA⟩
  exact ⟨⟨rfl, Int.le_refl 0, Int.le_refl 0⟩, hA.1, rfl, hA.2, fun e he => (by cases he), fun z => (by cases z)⟩
