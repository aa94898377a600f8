/-! the reference's bits, passages and whether a set hangs together -/
theorem qand_1 (x : Int) : 0 ≤ qand x 1 ∧ qand x 1 ≤ 1 := qand_hi (x := x) (y := 1) (d := 1) (by decide) (by decide) (by decide)
noncomputable def bitsF (v : Int) : Nat → Int
  | 0 => 0
  | j + 1 => bitsF v j + qand (qshr v (j : Int)) 1
theorem bitsF_in (v : Int) : ∀ j, 0 ≤ bitsF v j ∧ bitsF v j ≤ j
  | 0 => ⟨Int.le_refl 0, Int.le_refl 0⟩
  | j + 1 => by
    have h := bitsF_in v j
    have h2 := qand_1 (qshr v (j : Int))
    show 0 ≤ bitsF v j + qand (qshr v (j : Int)) 1 ∧ bitsF v j + qand (qshr v (j : Int)) 1 ≤ ((j + 1 : Nat) : Int)
    omega
theorem K_bits {d : Nat} (hd : 0 ≤ d) (v : Int) (w : qW) : qG none d 211 0 [(0, v), (9, 0), (9, 0)] [] w 142 (fun (r : qV) (w1 : qW) (n1 : Nat) => r = (0, bitsF v 16) ∧ w1 = w ∧ n1 = 142) := by
  generalize hQ9 : (fun (r : qV) (w1 : qW) (n1 : Nat) => r = (0, bitsF v 16) ∧ w1 = w ∧ n1 = 142) = Q9
  refine qG.blk 4 (pc' := 4) (ls' := [(0, v), (0, 0), (0, 0)]) (st' := []) (w' := w) (n' := 142) rfl ?_
  have L4 : ∀ (m9 : Nat) (j : Nat), 16 - j = m9 → (j ≤ 16) → qG none d 211 4 [(0, v), (0, bitsF v j), (0, ((j : Nat) : Int))] [] w 142 Q9 := by
    intro m9
    induction m9 using Nat.strongRecOn with
    | ind m9 ih4 =>
    intro j hm4 hI4
    have hb := bitsF_in v j
    have hq := qand_1 (qshr v (j : Int))
    refine qG.blk 2 (pc' := 7) (ls' := [(0, v), (0, bitsF v j), (0, ((j : Nat) : Int))]) (st' := [(0, 16), (0, ((j : Nat) : Int))]) (w' := w) (n' := 142) rfl ?_
    refine qG.br (P := ((j : Nat) : Int) < 16) (pc1 := 10) (pc2 := 24) (st1 := []) rfl (fun h1 => ?_) (fun h1 => ?_)
    · skip
      refine qG.blk 7 (pc' := 17) (ls' := [(0, v), (0, bitsF v j), (0, ((j : Nat) : Int))]) (st' := [(0, wrp ((bitsF v j) + (qand (qshr v ((j : Nat) : Int)) 1)))]) (w' := w) (n' := 142) rfl ?_
      rw [show wrp ((bitsF v j) + (qand (qshr v ((j : Nat) : Int)) 1)) = (bitsF v j) + (qand (qshr v ((j : Nat) : Int)) 1) from wrp_id (by omega) (by omega)]
      refine qG.blk 2 (pc' := 21) (ls' := [(0, v), (0, (bitsF v j) + (qand (qshr v ((j : Nat) : Int)) 1)), (0, wrp (((j : Nat) : Int) + 1))]) (st' := []) (w' := w) (n' := 142) rfl ?_
      rw [show wrp (((j : Nat) : Int) + 1) = ((j + 1 : Nat) : Int) from wrp_id (by omega) (by omega)]
      refine qG.blk 1 (pc' := 4) (ls' := [(0, v), (0, (bitsF v j) + (qand (qshr v ((j : Nat) : Int)) 1)), (0, ((j + 1 : Nat) : Int))]) (st' := []) (w' := w) (n' := 142) rfl ?_
      exact ih4 _ (by omega) (j + 1) rfl (by omega)
    · skip
      refine qG.blk 1 (pc' := 25) (ls' := [(0, v), (0, bitsF v j), (0, ((j : Nat) : Int))]) (st' := [(0, bitsF v j)]) (w' := w) (n' := 142) rfl ?_
      refine qG.ret rfl rfl ?_
      subst hQ9
      exact ⟨by rw [show j = 16 by omega], rfl, rfl⟩
  exact L4 _ (0) rfl (by omega)
theorem K_areNm {d : Nat} (hd : 1 ≤ d) (s t : Nat) (hs : s < 16) (ht : t < 16) (w : qW) (hI : yInv zgf zga zra zSp w) : qG none d 213 0 [(0, ((s : Nat) : Int)), (0, ((t : Nat) : Int))] [] w 142 (fun r w1 n1 => r = (0, if nbB s t = true then 1 else 0) ∧ w1 = w ∧ n1 = 142) := by
  have h := (T_areNm (w0 := w)) d [(0, (s : Int)), (0, (t : Int))] w hd ⟨⟨rfl, by show (0 : Int) ≤ s; omega, by show (s : Int) ≤ 15; omega⟩, ⟨rfl, by show (0 : Int) ≤ t; omega, by show (t : Int) ≤ 15; omega⟩, trivial⟩ hI (fun p hp => by cases hp) (fun e he => by cases he)
  refine qG.mono h (fun v w' n' hh => ?_)
  obtain ⟨⟨h1, h2⟩, h3, h4, h5, h6, h7⟩ := hh
  refine ⟨?_, funext fun p => funext fun j => h5 p j (fun _ => rfl), h4⟩
  have h8 := h7 rfl
  obtain ⟨v1, v2⟩ := v
  have h1 : v1 = 0 := h1
  have h8 : v2 = (bif nbB ((s : Int)).toNat ((t : Int)).toNat then 1 else 0) := h8
  rw [Int.toNat_natCast, Int.toNat_natCast] at h8
  rw [h1, h8]
  cases nbB s t <;> rfl
noncomputable def pasB (w : qW) (c s t : Nat) : Bool := nbB s t && decide (qand (qshr (w 99 (16 * c + s)) (t : Int)) 1 = 0)
theorem pasB_y {w : qW} {c s t : Nat} (h : nbB s t = true) (h2 : qand (qshr (w 99 (16 * c + s)) (t : Int)) 1 = 0) : pasB w c s t = true := by unfold pasB; rw [h, decide_eq_true h2]; rfl
theorem pasB_n {w : qW} {c s t : Nat} (h2 : ¬ qand (qshr (w 99 (16 * c + s)) (t : Int)) 1 = 0) : pasB w c s t = false := by unfold pasB; rw [decide_eq_false h2, Bool.and_false]
theorem pasB_f {w : qW} {c s t : Nat} (h : ¬ nbB s t = true) : pasB w c s t = false := by unfold pasB; rw [ybf h]; rfl
theorem K_isPassage {d : Nat} (hd : 2 ≤ d) (c s t : Nat) (hc : c < 3) (hs : s < 16) (ht : t < 16) (w : qW) (hI : yInv zgf zga zra zSp w) : qG none d 218 0 [(2, 95), (0, ((c : Nat) : Int)), (0, ((s : Nat) : Int)), (0, ((t : Nat) : Int))] [] w 142 (fun (r : qV) (w1 : qW) (n1 : Nat) => r = (0, if pasB w c s t = true then 1 else 0) ∧ w1 = w ∧ n1 = 142) := by
  generalize hQ9 : (fun (r : qV) (w1 : qW) (n1 : Nat) => r = (0, if pasB w c s t = true then 1 else 0) ∧ w1 = w ∧ n1 = 142) = Q9
  have h99 : w 95 3 = 99 := List.mem_singleton.mp (hI.2.2.1 95 3 (by decide) (by decide))
  obtain ⟨d, rfl⟩ : ∃ d9, d = d9 + 1 := ⟨d - 1, by omega⟩
  refine qG.blk 2 (pc' := 2) (ls' := [(2, 95), (0, ((c : Nat) : Int)), (0, ((s : Nat) : Int)), (0, ((t : Nat) : Int))]) (st' := [(0, ((t : Nat) : Int)), (0, ((s : Nat) : Int))]) (w' := w) (n' := 142) rfl ?_
  refine qG.call (t := 213) (na := 2) (sk := 0) (md := 0) (ls1 := [(0, ((s : Nat) : Int)), (0, ((t : Nat) : Int))]) (r1 := []) rfl rfl rfl rfl rfl (K_areNm (by omega) s t hs ht w hI) ?_
  rintro _ w7 _ ⟨rfl, hw7, rfl⟩
  rw [hw7]
  show qG none (d + 1) 218 5 [(2, 95), (0, ((c : Nat) : Int)), (0, ((s : Nat) : Int)), (0, ((t : Nat) : Int))] [(0, (if nbB s t = true then 1 else 0))] w 142 Q9
  refine qG.br (P := (if nbB s t = true then 1 else 0) = 0) (pc1 := 30) (pc2 := 8) (st1 := []) rfl (fun hnb => ?_) (fun hnb => ?_)
  · skip
    refine qG.blk 1 (pc' := 31) (ls' := [(2, 95), (0, ((c : Nat) : Int)), (0, ((s : Nat) : Int)), (0, ((t : Nat) : Int))]) (st' := [(0, 0)]) (w' := w) (n' := 142) rfl ?_
    refine qG.ret rfl (by first | rfl | exact decide_eq_true (by omega)) ?_
    subst hQ9
    exact ⟨by first | (rw [pasB_y (Decidable.of_not_not (fun z => hnb (ite01.mpr z))) hp]; rfl) | (rw [pasB_n hp]; rfl) | (rw [pasB_f (ite01.mp hnb)]; rfl), rfl, rfl⟩
  · skip
    refine qG.blk 2 (pc' := 12) (ls' := [(2, 95), (0, ((c : Nat) : Int)), (0, ((s : Nat) : Int)), (0, ((t : Nat) : Int))]) (st' := [(2, w 95 3)]) (w' := w) (n' := 142) rfl ?_
    rw [show w 95 3 = 99 from h99]
    refine qG.blk 3 (pc' := 16) (ls' := [(2, 95), (0, ((c : Nat) : Int)), (0, ((s : Nat) : Int)), (0, ((t : Nat) : Int))]) (st' := [(0, wrp (16 * ((c : Nat) : Int))), (2, 99)]) (w' := w) (n' := 142) rfl ?_
    rw [show wrp (16 * ((c : Nat) : Int)) = ((16 * c : Nat) : Int) from by rw [wrp_id (by omega) (by omega)]; omega]
    refine qG.blk 2 (pc' := 18) (ls' := [(2, 95), (0, ((c : Nat) : Int)), (0, ((s : Nat) : Int)), (0, ((t : Nat) : Int))]) (st' := [(0, wrp (((16 * c : Nat) : Int) + ((s : Nat) : Int))), (2, 99)]) (w' := w) (n' := 142) rfl ?_
    rw [show wrp (((16 * c : Nat) : Int) + ((s : Nat) : Int)) = ((16 * c + s : Nat) : Int) from by rw [wrp_id (by omega) (by omega)]; omega]
    refine qG.ar (P := 0 ≤ ((16 * c + s : Nat) : Int) ∧ ((16 * c + s : Nat) : Int) < ((48 : Nat) : Int)) (P2 := 0 < (99 : Int) ∧ (99 : Int) ≤ ((142 : Nat) : Int)) (pc' := 19) (ls' := [(2, 95), (0, ((c : Nat) : Int)), (0, ((s : Nat) : Int)), (0, ((t : Nat) : Int))]) (st' := [(0, w 99 (16 * c + s))]) (w' := w) (n' := 142) rfl (by omega) (by decide) ?_
    refine qG.blk 4 (pc' := 23) (ls' := [(2, 95), (0, ((c : Nat) : Int)), (0, ((s : Nat) : Int)), (0, ((t : Nat) : Int))]) (st' := [(0, qand (qshr (w 99 (16 * c + s)) ((t : Nat) : Int)) 1)]) (w' := w) (n' := 142) rfl ?_
    refine qG.br (P := qand (qshr (w 99 (16 * c + s)) ((t : Nat) : Int)) 1 = 0) (pc1 := 26) (pc2 := 30) (st1 := []) rfl (fun hp => ?_) (fun hp => ?_)
    · skip
      refine qG.blk 2 (pc' := 31) (ls' := [(2, 95), (0, ((c : Nat) : Int)), (0, ((s : Nat) : Int)), (0, ((t : Nat) : Int))]) (st' := [(0, 1)]) (w' := w) (n' := 142) rfl ?_
      refine qG.ret rfl (by first | rfl | exact decide_eq_true (by omega)) ?_
      subst hQ9
      exact ⟨by first | (rw [pasB_y (Decidable.of_not_not (fun z => hnb (ite01.mpr z))) hp]; rfl) | (rw [pasB_n hp]; rfl) | (rw [pasB_f (ite01.mp hnb)]; rfl), rfl, rfl⟩
    · skip
      refine qG.blk 1 (pc' := 31) (ls' := [(2, 95), (0, ((c : Nat) : Int)), (0, ((s : Nat) : Int)), (0, ((t : Nat) : Int))]) (st' := [(0, 0)]) (w' := w) (n' := 142) rfl ?_
      refine qG.ret rfl (by first | rfl | exact decide_eq_true (by omega)) ?_
      subst hQ9
      exact ⟨by first | (rw [pasB_y (Decidable.of_not_not (fun z => hnb (ite01.mpr z))) hp]; rfl) | (rw [pasB_n hp]; rfl) | (rw [pasB_f (ite01.mp hnb)]; rfl), rfl, rfl⟩
theorem q2p : ∀ t : Nat, t < 16 → qshl 1 (t : Int) = ((2 ^ t : Nat) : Int) ∧ 2 ^ t ≤ 32768 := by decide +kernel
theorem qor_n {a b : Nat} (ha : a ≤ 2147483647) (hb : b ≤ 2147483647) : qor (a : Int) (b : Int) = ((a ||| b : Nat) : Int) := by
  unfold qor
  rw [yofn (x := (a : Int)) (by omega) (by omega), yofn (x := (b : Int)) (by omega) (by omega), yb_or, Int.toNat_natCast, Int.toNat_natCast]
  have h : a ||| b < 2 ^ 31 := Nat.or_lt_two_pow (by omega) (by omega)
  rw [nI_toInt h]
theorem qor_ge {m : Int} {t : Nat} (h0 : 0 ≤ m) (h1 : m ≤ 65535) (ht : t < 16) : m ≤ qor m (qshl 1 (t : Int)) ∧ qor m (qshl 1 (t : Int)) ≤ 65535 := by
  obtain ⟨e1, e2⟩ := q2p t ht
  obtain ⟨a, rfl⟩ : ∃ a : Nat, m = a := ⟨m.toNat, (Int.toNat_of_nonneg h0).symm⟩
  rw [e1, qor_n (by omega) (by omega)]
  have h2 : a ≤ a ||| 2 ^ t := Nat.left_le_or
  have h3 : a ||| 2 ^ t < 2 ^ 16 := Nat.or_lt_two_pow (by omega) (by omega)
  omega
noncomputable def hbit (m : Int) (s : Nat) : Bool := decide (qand (qshr m (s : Int)) 1 = 1)
noncomputable def hgT (P : Nat → Nat → Bool) (v : Int) (s : Nat) : Nat → Int → Int
  | 0, m => m
  | t + 1, m => bif hbit (hgT P v s t m) s && (hbit v t && P s t) then qor (hgT P v s t m) (qshl 1 (t : Int)) else hgT P v s t m
noncomputable def hgS (P : Nat → Nat → Bool) (v : Int) : Nat → Int → Int
  | 0, m => m
  | s + 1, m => hgT P v s 16 (hgS P v s m)
noncomputable def hgL (v : Int) : Nat → Int
  | 0 => 0
  | s + 1 => if hgL v s = 0 then (bif hbit v s then qshl 1 (s : Int) else 0) else hgL v s
noncomputable def hgF (P : Nat → Nat → Bool) (v : Int) : Nat → Int → Int
  | 0, m => m
  | n + 1, m => if hgS P v 16 m = m then m else hgF P v n (hgS P v 16 m)
/-- what the reference's hangs reaches -/
noncomputable def hgR (P : Nat → Nat → Bool) (v : Int) : Int := if hgL v 16 = 0 then 0 else hgF P v 65536 (hgL v 16)
theorem hgT_in {P : Nat → Nat → Bool} {v m : Int} {s : Nat} (h0 : 0 ≤ m) (h1 : m ≤ 65535) : ∀ t, t ≤ 16 → m ≤ hgT P v s t m ∧ hgT P v s t m ≤ 65535
  | 0, _ => ⟨Int.le_refl _, h1⟩
  | t + 1, ht => by
    have ih := hgT_in (P := P) (v := v) (s := s) h0 h1 t (by omega)
    have k := qor_ge (m := hgT P v s t m) (t := t) (by omega) ih.2 (by omega)
    show m ≤ (bif hbit (hgT P v s t m) s && (hbit v t && P s t) then qor (hgT P v s t m) (qshl 1 (t : Int)) else hgT P v s t m) ∧ (bif hbit (hgT P v s t m) s && (hbit v t && P s t) then qor (hgT P v s t m) (qshl 1 (t : Int)) else hgT P v s t m) ≤ 65535
    cases hbit (hgT P v s t m) s && (hbit v t && P s t)
    · exact ih
    · exact ⟨by show m ≤ qor _ _; omega, k.2⟩
theorem hgS_in {P : Nat → Nat → Bool} {v m : Int} (h0 : 0 ≤ m) (h1 : m ≤ 65535) : ∀ s, m ≤ hgS P v s m ∧ hgS P v s m ≤ 65535
  | 0 => ⟨Int.le_refl _, h1⟩
  | s + 1 => by
    have ih := hgS_in (P := P) (v := v) h0 h1 s
    have k := hgT_in (P := P) (v := v) (s := s) (m := hgS P v s m) (by omega) ih.2 16 (by decide)
    exact ⟨Int.le_trans ih.1 k.1, k.2⟩
theorem hgL_in (v : Int) : ∀ s, s ≤ 16 → 0 ≤ hgL v s ∧ hgL v s ≤ 65535
  | 0, _ => by show (0 : Int) ≤ 0 ∧ (0 : Int) ≤ 65535; decide
  | s + 1, hs => by
    have ih := hgL_in v s (by omega)
    obtain ⟨e1, e2⟩ := q2p s (by omega)
    show 0 ≤ (if hgL v s = 0 then (bif hbit v s then qshl 1 (s : Int) else 0) else hgL v s) ∧ (if hgL v s = 0 then (bif hbit v s then qshl 1 (s : Int) else 0) else hgL v s) ≤ 65535
    split
    · cases hbit v s
      · show (0 : Int) ≤ 0 ∧ (0 : Int) ≤ 65535
        decide
      · show 0 ≤ qshl 1 (s : Int) ∧ qshl 1 (s : Int) ≤ 65535
        rw [e1]
        generalize 2 ^ s = q at e2 ⊢
        omega
    · exact ih
theorem hgL_y {v : Int} {s : Nat} (h : hgL v s = 0) (hb : qand (qshr v (s : Int)) 1 = 1) : hgL v (s + 1) = qshl 1 (s : Int) := by
  show (if hgL v s = 0 then (bif hbit v s then qshl 1 (s : Int) else 0) else hgL v s) = _
  rw [if_pos h, show hbit v s = true from decide_eq_true hb]; rfl
theorem hgL_n {v : Int} {s : Nat} (h : hgL v s = 0) (hb : ¬ qand (qshr v (s : Int)) 1 = 1) : hgL v (s + 1) = hgL v s := by
  show (if hgL v s = 0 then (bif hbit v s then qshl 1 (s : Int) else 0) else hgL v s) = _
  rw [if_pos h, show hbit v s = false from decide_eq_false hb, h]; rfl
theorem hgL_st {v : Int} {s : Nat} (h : ¬ hgL v s = 0) : ∀ j, hgL v (s + j) = hgL v s
  | 0 => rfl
  | j + 1 => by
    have ih := hgL_st h j
    show (if hgL v (s + j) = 0 then (bif hbit v (s + j) then qshl 1 ((s + j : Nat) : Int) else 0) else hgL v (s + j)) = _
    rw [ih, if_neg h]
theorem hgT_y {P : Nat → Nat → Bool} {v m : Int} {s t : Nat} (h1 : qand (qshr (hgT P v s t m) (s : Int)) 1 = 1) (h2 : qand (qshr v (t : Int)) 1 = 1) (h3 : P s t = true) : hgT P v s (t + 1) m = qor (hgT P v s t m) (qshl 1 (t : Int)) := by
  show (bif hbit (hgT P v s t m) s && (hbit v t && P s t) then qor (hgT P v s t m) (qshl 1 (t : Int)) else hgT P v s t m) = _
  rw [show hbit (hgT P v s t m) s = true from decide_eq_true h1, show hbit v t = true from decide_eq_true h2, h3]; rfl
theorem hgT_n {P : Nat → Nat → Bool} {v m : Int} {s t : Nat} (h : ¬ qand (qshr (hgT P v s t m) (s : Int)) 1 = 1 ∨ ¬ qand (qshr v (t : Int)) 1 = 1 ∨ P s t = false) : hgT P v s (t + 1) m = hgT P v s t m := by
  show (bif hbit (hgT P v s t m) s && (hbit v t && P s t) then qor (hgT P v s t m) (qshl 1 (t : Int)) else hgT P v s t m) = _
  rcases h with h | h | h
  · rw [show hbit (hgT P v s t m) s = false from decide_eq_false h]; rfl
  · rw [show hbit v t = false from decide_eq_false h, Bool.false_and, Bool.and_false]; rfl
  · rw [h, Bool.and_false, Bool.and_false]; rfl
/-- the outer loop's state: met, before -/
noncomputable def hgI (P : Nat → Nat → Bool) (v m b : Int) : Prop := 0 ≤ b ∧ b ≤ m ∧ m ≤ 65535 ∧ (b = m → m = hgR P v) ∧ (¬ b = m → ∃ n : Nat, 65536 - m ≤ n ∧ hgF P v n m = hgR P v)
theorem hgI.init {P : Nat → Nat → Bool} {v : Int} : hgI P v (hgL v 16) 0 := by
  have h := hgL_in v 16 (by decide)
  refine ⟨Int.le_refl 0, h.1, h.2, fun z => ?_, fun z => ⟨65536, by omega, ?_⟩⟩
  · unfold hgR; rw [if_pos z.symm]; exact z.symm
  · unfold hgR; rw [if_neg (fun y => z y.symm)]
theorem hgI.next {P : Nat → Nat → Bool} {v m b : Int} (h : hgI P v m b) (hne : ¬ m = b) : hgI P v (hgS P v 16 m) m := by
  obtain ⟨h1, h2, h3, -, h5⟩ := h
  have k := hgS_in (P := P) (v := v) (m := m) (by omega) h3 16
  obtain ⟨n, hn1, hn2⟩ := h5 (fun z => hne z.symm)
  obtain ⟨n, rfl⟩ : ∃ n', n = n' + 1 := ⟨n - 1, by omega⟩
  have e : hgF P v (n + 1) m = if hgS P v 16 m = m then m else hgF P v n (hgS P v 16 m) := rfl
  rw [e] at hn2
  refine ⟨by omega, k.1, k.2, fun z => ?_, fun z => ⟨n, by omega, ?_⟩⟩
  · rw [if_pos z.symm] at hn2; rw [← z]; exact hn2
  · rw [if_neg (fun y => z y.symm)] at hn2; exact hn2
noncomputable def hgM (m b : Int) : Nat := (65536 - m).toNat * 2 + (if b = m then 0 else 1)
theorem hgM_lt {P : Nat → Nat → Bool} {v m b : Int} (h : hgI P v m b) (hne : ¬ m = b) : hgM (hgS P v 16 m) m < hgM m b := by
  obtain ⟨h1, h2, h3, -, -⟩ := h
  have k := hgS_in (P := P) (v := v) (m := m) (by omega) h3 16
  have e : hgM m b = (65536 - m).toNat * 2 + 1 := by unfold hgM; rw [if_neg (fun z => hne z.symm)]
  rw [e]
  unfold hgM
  split <;> omega
theorem hgL_16 {v : Int} {s : Nat} (hs : s ≤ 16) (h : 16 ≤ s ∨ ¬ hgL v s = 0) : hgL v s = hgL v 16 := by
  rcases h with h | h
  · rw [show s = 16 by omega]
  · have hst := hgL_st h (16 - s)
    rw [show s + (16 - s) = 16 by omega] at hst
    exact hst.symm
theorem K_hangs {d : Nat} (hd : 3 ≤ d) (c : Nat) (v : Int) (hc : c < 3) (w : qW) (hI : yInv zgf zga zra zSp w) : qG none d 219 0 [(2, 95), (0, ((c : Nat) : Int)), (0, v), (9, 0), (9, 0), (9, 0), (9, 0)] [] w 142 (fun (r : qV) (w1 : qW) (n1 : Nat) => r = (0, if hgR (pasB w c) v = v then 1 else 0) ∧ w1 = w ∧ n1 = 142) := by
  generalize hQ9 : (fun (r : qV) (w1 : qW) (n1 : Nat) => r = (0, if hgR (pasB w c) v = v then 1 else 0) ∧ w1 = w ∧ n1 = 142) = Q9
  obtain ⟨d, rfl⟩ : ∃ d9, d = d9 + 1 := ⟨d - 1, by omega⟩
  refine qG.blk 4 (pc' := 5) (ls' := [(2, 95), (0, ((c : Nat) : Int)), (0, v), (0, 0), (0, 0), (9, 0), (9, 0)]) (st' := []) (w' := w) (n' := 142) rfl ?_
  have L5 : ∀ (m9 : Nat) (s : Nat) (m : Int), 16 - s = m9 → (s ≤ 16 ∧ m = hgL v s) → qG none (d + 1) 219 5 [(2, 95), (0, ((c : Nat) : Int)), (0, v), (0, m), (0, ((s : Nat) : Int)), (9, 0), (9, 0)] [] w 142 Q9 := by
    intro m9
    induction m9 using Nat.strongRecOn with
    | ind m9 ih5 =>
    intro s m hm5 hI5
    refine qG.blk 2 (pc' := 9) (ls' := [(2, 95), (0, ((c : Nat) : Int)), (0, v), (0, m), (0, ((s : Nat) : Int)), (9, 0), (9, 0)]) (st' := [(0, 16), (0, ((s : Nat) : Int))]) (w' := w) (n' := 142) rfl ?_
    refine qG.br (P := ((s : Nat) : Int) < 16) (pc1 := 12) (pc2 := 37) (st1 := []) rfl (fun h1 => ?_) (fun h1 => ?_)
    · skip
      refine qG.blk 1 (pc' := 13) (ls' := [(2, 95), (0, ((c : Nat) : Int)), (0, v), (0, m), (0, ((s : Nat) : Int)), (9, 0), (9, 0)]) (st' := [(0, m)]) (w' := w) (n' := 142) rfl ?_
      refine qG.br (P := m = 0) (pc1 := 16) (pc2 := 37) (st1 := []) rfl (fun hm0 => ?_) (fun hm0 => ?_)
      · skip
        refine qG.blk 6 (pc' := 23) (ls' := [(2, 95), (0, ((c : Nat) : Int)), (0, v), (0, m), (0, ((s : Nat) : Int)), (9, 0), (9, 0)]) (st' := [(0, 1), (0, qand (qshr v ((s : Nat) : Int)) 1)]) (w' := w) (n' := 142) rfl ?_
        refine qG.br (P := qand (qshr v ((s : Nat) : Int)) 1 = 1) (pc1 := 26) (pc2 := 31) (st1 := []) rfl (fun hbit5 => ?_) (fun hbit5 => ?_)
        · skip
          refine qG.blk 5 (pc' := 34) (ls' := [(2, 95), (0, ((c : Nat) : Int)), (0, v), (0, qshl 1 ((s : Nat) : Int)), (0, wrp (((s : Nat) : Int) + 1)), (9, 0), (9, 0)]) (st' := []) (w' := w) (n' := 142) rfl ?_
          rw [show wrp (((s : Nat) : Int) + 1) = ((s + 1 : Nat) : Int) from wrp_id (by omega) (by omega)]
          refine qG.blk 1 (pc' := 5) (ls' := [(2, 95), (0, ((c : Nat) : Int)), (0, v), (0, qshl 1 ((s : Nat) : Int)), (0, ((s + 1 : Nat) : Int)), (9, 0), (9, 0)]) (st' := []) (w' := w) (n' := 142) rfl ?_
          exact ih5 _ (by omega) (s + 1) (qshl 1 ((s : Nat) : Int)) rfl (⟨by omega, by rw [hI5.2] at hm0; first | exact (hgL_y hm0 hbit5).symm | (rw [hgL_n hm0 hbit5]; exact hI5.2)⟩)
        · skip
          refine qG.blk 1 (pc' := 34) (ls' := [(2, 95), (0, ((c : Nat) : Int)), (0, v), (0, m), (0, wrp (((s : Nat) : Int) + 1)), (9, 0), (9, 0)]) (st' := []) (w' := w) (n' := 142) rfl ?_
          rw [show wrp (((s : Nat) : Int) + 1) = ((s + 1 : Nat) : Int) from wrp_id (by omega) (by omega)]
          refine qG.blk 1 (pc' := 5) (ls' := [(2, 95), (0, ((c : Nat) : Int)), (0, v), (0, m), (0, ((s + 1 : Nat) : Int)), (9, 0), (9, 0)]) (st' := []) (w' := w) (n' := 142) rfl ?_
          exact ih5 _ (by omega) (s + 1) (m) rfl (⟨by omega, by rw [hI5.2] at hm0; first | exact (hgL_y hm0 hbit5).symm | (rw [hgL_n hm0 hbit5]; exact hI5.2)⟩)
      · skip
        refine qG.blk 2 (pc' := 40) (ls' := [(2, 95), (0, ((c : Nat) : Int)), (0, v), (0, m), (0, 0), (9, 0), (9, 0)]) (st' := []) (w' := w) (n' := 142) rfl ?_
        have L40 : ∀ (m9 : Nat) (m1 b1 : Int) (x5 x6 : qV), hgM m1 b1 = m9 → (hgI (pasB w c) v m1 b1) → qG none (d + 1) 219 40 [(2, 95), (0, ((c : Nat) : Int)), (0, v), (0, m1), (0, b1), x5, x6] [] w 142 Q9 := by
          intro m9
          induction m9 using Nat.strongRecOn with
          | ind m9 ih40 =>
          intro m1 b1 x5 x6 hm40 hI40
          refine qG.blk 2 (pc' := 43) (ls' := [(2, 95), (0, ((c : Nat) : Int)), (0, v), (0, m1), (0, b1), x5, x6]) (st' := [(0, m1), (0, b1)]) (w' := w) (n' := 142) rfl ?_
          refine qG.br (P := b1 = m1) (pc1 := 123) (pc2 := 46) (st1 := []) rfl (fun hne => ?_) (fun hne => ?_)
          · skip
            refine qG.blk 2 (pc' := 125) (ls' := [(2, 95), (0, ((c : Nat) : Int)), (0, v), (0, m1), (0, b1), x5, x6]) (st' := [(0, v), (0, m1)]) (w' := w) (n' := 142) rfl ?_
            refine qG.br (P := m1 = v) (pc1 := 128) (pc2 := 132) (st1 := []) rfl (fun h2 => ?_) (fun h2 => ?_)
            · skip
              refine qG.blk 2 (pc' := 133) (ls' := [(2, 95), (0, ((c : Nat) : Int)), (0, v), (0, m1), (0, b1), x5, x6]) (st' := [(0, 1)]) (w' := w) (n' := 142) rfl ?_
              refine qG.ret rfl (by first | rfl | exact decide_eq_true (by omega)) ?_
              subst hQ9
              exact ⟨by rw [← hI40.2.2.2.1 hne]; first | (rw [if_pos (by assumption)]; done) | (rw [if_neg (by assumption)]; done), rfl, rfl⟩
            · skip
              refine qG.blk 1 (pc' := 133) (ls' := [(2, 95), (0, ((c : Nat) : Int)), (0, v), (0, m1), (0, b1), x5, x6]) (st' := [(0, 0)]) (w' := w) (n' := 142) rfl ?_
              refine qG.ret rfl (by first | rfl | exact decide_eq_true (by omega)) ?_
              subst hQ9
              exact ⟨by rw [← hI40.2.2.2.1 hne]; first | (rw [if_pos (by assumption)]; done) | (rw [if_neg (by assumption)]; done), rfl, rfl⟩
          · skip
            refine qG.blk 4 (pc' := 52) (ls' := [(2, 95), (0, ((c : Nat) : Int)), (0, v), (0, m1), (0, m1), (0, 0), x6]) (st' := []) (w' := w) (n' := 142) rfl ?_
            have L52 : ∀ (m9 : Nat) (s : Nat) (m2 : Int) (x6 : qV), 16 - s = m9 → (s ≤ 16 ∧ m2 = hgS (pasB w c) v s m1) → qG none (d + 1) 219 52 [(2, 95), (0, ((c : Nat) : Int)), (0, v), (0, m2), (0, m1), (0, ((s : Nat) : Int)), x6] [] w 142 Q9 := by
              intro m9
              induction m9 using Nat.strongRecOn with
              | ind m9 ih52 =>
              intro s m2 x6 hm52 hI52
              refine qG.blk 2 (pc' := 56) (ls' := [(2, 95), (0, ((c : Nat) : Int)), (0, v), (0, m2), (0, m1), (0, ((s : Nat) : Int)), x6]) (st' := [(0, 16), (0, ((s : Nat) : Int))]) (w' := w) (n' := 142) rfl ?_
              refine qG.br (P := ((s : Nat) : Int) < 16) (pc1 := 59) (pc2 := 120) (st1 := []) rfl (fun hs16 => ?_) (fun hs16 => ?_)
              · skip
                refine qG.blk 2 (pc' := 62) (ls' := [(2, 95), (0, ((c : Nat) : Int)), (0, v), (0, m2), (0, m1), (0, ((s : Nat) : Int)), (0, 0)]) (st' := []) (w' := w) (n' := 142) rfl ?_
                have L62 : ∀ (m9 : Nat) (t : Nat) (m3 : Int), 16 - t = m9 → (t ≤ 16 ∧ m3 = hgT (pasB w c) v s t m2) → qG none (d + 1) 219 62 [(2, 95), (0, ((c : Nat) : Int)), (0, v), (0, m3), (0, m1), (0, ((s : Nat) : Int)), (0, ((t : Nat) : Int))] [] w 142 Q9 := by
                  intro m9
                  induction m9 using Nat.strongRecOn with
                  | ind m9 ih62 =>
                  intro t m3 hm62 hI62
                  refine qG.blk 2 (pc' := 66) (ls' := [(2, 95), (0, ((c : Nat) : Int)), (0, v), (0, m3), (0, m1), (0, ((s : Nat) : Int)), (0, ((t : Nat) : Int))]) (st' := [(0, 16), (0, ((t : Nat) : Int))]) (w' := w) (n' := 142) rfl ?_
                  refine qG.br (P := ((t : Nat) : Int) < 16) (pc1 := 69) (pc2 := 114) (st1 := []) rfl (fun h3 => ?_) (fun h3 => ?_)
                  · skip
                    refine qG.blk 6 (pc' := 76) (ls' := [(2, 95), (0, ((c : Nat) : Int)), (0, v), (0, m3), (0, m1), (0, ((s : Nat) : Int)), (0, ((t : Nat) : Int))]) (st' := [(0, 1), (0, qand (qshr m3 ((s : Nat) : Int)) 1)]) (w' := w) (n' := 142) rfl ?_
                    refine qG.br (P := qand (qshr m3 ((s : Nat) : Int)) 1 = 1) (pc1 := 79) (pc2 := 108) (st1 := []) rfl (fun hb1 => ?_) (fun hb1 => ?_)
                    · skip
                      refine qG.blk 6 (pc' := 86) (ls' := [(2, 95), (0, ((c : Nat) : Int)), (0, v), (0, m3), (0, m1), (0, ((s : Nat) : Int)), (0, ((t : Nat) : Int))]) (st' := [(0, 1), (0, qand (qshr v ((t : Nat) : Int)) 1)]) (w' := w) (n' := 142) rfl ?_
                      refine qG.br (P := qand (qshr v ((t : Nat) : Int)) 1 = 1) (pc1 := 89) (pc2 := 108) (st1 := []) rfl (fun hb2 => ?_) (fun hb2 => ?_)
                      · skip
                        refine qG.blk 4 (pc' := 95) (ls' := [(2, 95), (0, ((c : Nat) : Int)), (0, v), (0, m3), (0, m1), (0, ((s : Nat) : Int)), (0, ((t : Nat) : Int))]) (st' := [(0, ((t : Nat) : Int)), (0, ((s : Nat) : Int)), (0, ((c : Nat) : Int)), (2, 95)]) (w' := w) (n' := 142) rfl ?_
                        refine qG.call (t := 218) (na := 4) (sk := 1) (md := 1) (ls1 := [(2, 95), (0, ((c : Nat) : Int)), (0, ((s : Nat) : Int)), (0, ((t : Nat) : Int))]) (r1 := []) rfl rfl rfl rfl rfl (K_isPassage (by omega) c s t hc (by omega) (by omega) w hI) ?_
                        rintro _ w7 _ ⟨rfl, hw7, rfl⟩
                        rw [hw7]
                        show qG none (d + 1) 219 98 [(2, 95), (0, ((c : Nat) : Int)), (0, v), (0, m3), (0, m1), (0, ((s : Nat) : Int)), (0, ((t : Nat) : Int))] [(0, (if pasB w c s t = true then 1 else 0))] w 142 Q9
                        refine qG.br (P := (if pasB w c s t = true then 1 else 0) = 0) (pc1 := 108) (pc2 := 101) (st1 := []) rfl (fun hb3 => ?_) (fun hb3 => ?_)
                        · skip
                          refine qG.blk 1 (pc' := 111) (ls' := [(2, 95), (0, ((c : Nat) : Int)), (0, v), (0, m3), (0, m1), (0, ((s : Nat) : Int)), (0, wrp (((t : Nat) : Int) + 1))]) (st' := []) (w' := w) (n' := 142) rfl ?_
                          rw [show wrp (((t : Nat) : Int) + 1) = ((t + 1 : Nat) : Int) from wrp_id (by omega) (by omega)]
                          refine qG.blk 1 (pc' := 62) (ls' := [(2, 95), (0, ((c : Nat) : Int)), (0, v), (0, m3), (0, m1), (0, ((s : Nat) : Int)), (0, ((t + 1 : Nat) : Int))]) (st' := []) (w' := w) (n' := 142) rfl ?_
                          exact ih62 _ (by omega) (t + 1) (m3) rfl (⟨by omega, by rw [hI62.2] at hb1 ⊢; first | exact (hgT_y hb1 hb2 (Decidable.of_not_not (fun z => hb3 (ite01.mpr z)))).symm | exact (hgT_n (.inl hb1)).symm | exact (hgT_n (.inr (.inl hb2))).symm | exact (hgT_n (.inr (.inr (ybf (ite01.mp hb3))))).symm⟩)
                        · skip
                          refine qG.blk 7 (pc' := 111) (ls' := [(2, 95), (0, ((c : Nat) : Int)), (0, v), (0, qor m3 (qshl 1 ((t : Nat) : Int))), (0, m1), (0, ((s : Nat) : Int)), (0, wrp (((t : Nat) : Int) + 1))]) (st' := []) (w' := w) (n' := 142) rfl ?_
                          rw [show wrp (((t : Nat) : Int) + 1) = ((t + 1 : Nat) : Int) from wrp_id (by omega) (by omega)]
                          refine qG.blk 1 (pc' := 62) (ls' := [(2, 95), (0, ((c : Nat) : Int)), (0, v), (0, qor m3 (qshl 1 ((t : Nat) : Int))), (0, m1), (0, ((s : Nat) : Int)), (0, ((t + 1 : Nat) : Int))]) (st' := []) (w' := w) (n' := 142) rfl ?_
                          exact ih62 _ (by omega) (t + 1) (qor m3 (qshl 1 ((t : Nat) : Int))) rfl (⟨by omega, by rw [hI62.2] at hb1 ⊢; first | exact (hgT_y hb1 hb2 (Decidable.of_not_not (fun z => hb3 (ite01.mpr z)))).symm | exact (hgT_n (.inl hb1)).symm | exact (hgT_n (.inr (.inl hb2))).symm | exact (hgT_n (.inr (.inr (ybf (ite01.mp hb3))))).symm⟩)
                      · skip
                        refine qG.blk 1 (pc' := 111) (ls' := [(2, 95), (0, ((c : Nat) : Int)), (0, v), (0, m3), (0, m1), (0, ((s : Nat) : Int)), (0, wrp (((t : Nat) : Int) + 1))]) (st' := []) (w' := w) (n' := 142) rfl ?_
                        rw [show wrp (((t : Nat) : Int) + 1) = ((t + 1 : Nat) : Int) from wrp_id (by omega) (by omega)]
                        refine qG.blk 1 (pc' := 62) (ls' := [(2, 95), (0, ((c : Nat) : Int)), (0, v), (0, m3), (0, m1), (0, ((s : Nat) : Int)), (0, ((t + 1 : Nat) : Int))]) (st' := []) (w' := w) (n' := 142) rfl ?_
                        exact ih62 _ (by omega) (t + 1) (m3) rfl (⟨by omega, by rw [hI62.2] at hb1 ⊢; first | exact (hgT_y hb1 hb2 (Decidable.of_not_not (fun z => hb3 (ite01.mpr z)))).symm | exact (hgT_n (.inl hb1)).symm | exact (hgT_n (.inr (.inl hb2))).symm | exact (hgT_n (.inr (.inr (ybf (ite01.mp hb3))))).symm⟩)
                    · skip
                      refine qG.blk 1 (pc' := 111) (ls' := [(2, 95), (0, ((c : Nat) : Int)), (0, v), (0, m3), (0, m1), (0, ((s : Nat) : Int)), (0, wrp (((t : Nat) : Int) + 1))]) (st' := []) (w' := w) (n' := 142) rfl ?_
                      rw [show wrp (((t : Nat) : Int) + 1) = ((t + 1 : Nat) : Int) from wrp_id (by omega) (by omega)]
                      refine qG.blk 1 (pc' := 62) (ls' := [(2, 95), (0, ((c : Nat) : Int)), (0, v), (0, m3), (0, m1), (0, ((s : Nat) : Int)), (0, ((t + 1 : Nat) : Int))]) (st' := []) (w' := w) (n' := 142) rfl ?_
                      exact ih62 _ (by omega) (t + 1) (m3) rfl (⟨by omega, by rw [hI62.2] at hb1 ⊢; first | exact (hgT_y hb1 hb2 (Decidable.of_not_not (fun z => hb3 (ite01.mpr z)))).symm | exact (hgT_n (.inl hb1)).symm | exact (hgT_n (.inr (.inl hb2))).symm | exact (hgT_n (.inr (.inr (ybf (ite01.mp hb3))))).symm⟩)
                  · skip
                    refine qG.blk 1 (pc' := 117) (ls' := [(2, 95), (0, ((c : Nat) : Int)), (0, v), (0, m3), (0, m1), (0, wrp (((s : Nat) : Int) + 1)), (0, ((t : Nat) : Int))]) (st' := []) (w' := w) (n' := 142) rfl ?_
                    rw [show wrp (((s : Nat) : Int) + 1) = ((s + 1 : Nat) : Int) from wrp_id (by omega) (by omega)]
                    refine qG.blk 1 (pc' := 52) (ls' := [(2, 95), (0, ((c : Nat) : Int)), (0, v), (0, m3), (0, m1), (0, ((s + 1 : Nat) : Int)), (0, ((t : Nat) : Int))]) (st' := []) (w' := w) (n' := 142) rfl ?_
                    exact ih52 _ (by omega) (s + 1) (m3) ((0, ((t : Nat) : Int))) rfl (⟨by omega, by rw [hI62.2, show t = 16 by omega, hI52.2]; rfl⟩)
                exact L62 _ (0) (m2) rfl (⟨by omega, rfl⟩)
              · skip
                have hm1 : m2 = hgS (pasB w c) v 16 m1 := by rw [hI52.2, show s = 16 by omega]
                refine qG.blk 1 (pc' := 40) (ls' := [(2, 95), (0, ((c : Nat) : Int)), (0, v), (0, m2), (0, m1), (0, ((s : Nat) : Int)), x6]) (st' := []) (w' := w) (n' := 142) rfl ?_
                exact ih40 _ (by rw [hm1, ← hm40]; exact hgM_lt hI40 (fun z => hne z.symm)) (m2) (m1) ((0, ((s : Nat) : Int))) (x6) rfl (by rw [hm1]; exact hI40.next (fun z => hne z.symm))
            exact L52 _ (0) (m1) (x6) rfl (⟨by omega, rfl⟩)
        exact L40 _ (m) (0) ((9, 0)) ((9, 0)) rfl (by rw [hI5.2, hgL_16 hI5.1 (by first | exact .inl (by omega) | exact .inr (fun z => hm0 (hI5.2.trans z)))]; exact hgI.init)
    · skip
      refine qG.blk 2 (pc' := 40) (ls' := [(2, 95), (0, ((c : Nat) : Int)), (0, v), (0, m), (0, 0), (9, 0), (9, 0)]) (st' := []) (w' := w) (n' := 142) rfl ?_
      have L40_1 : ∀ (m9 : Nat) (m1 b1 : Int) (x5 x6 : qV), hgM m1 b1 = m9 → (hgI (pasB w c) v m1 b1) → qG none (d + 1) 219 40 [(2, 95), (0, ((c : Nat) : Int)), (0, v), (0, m1), (0, b1), x5, x6] [] w 142 Q9 := by
        intro m9
        induction m9 using Nat.strongRecOn with
        | ind m9 ih40 =>
        intro m1 b1 x5 x6 hm40 hI40
        refine qG.blk 2 (pc' := 43) (ls' := [(2, 95), (0, ((c : Nat) : Int)), (0, v), (0, m1), (0, b1), x5, x6]) (st' := [(0, m1), (0, b1)]) (w' := w) (n' := 142) rfl ?_
        refine qG.br (P := b1 = m1) (pc1 := 123) (pc2 := 46) (st1 := []) rfl (fun hne => ?_) (fun hne => ?_)
        · skip
          refine qG.blk 2 (pc' := 125) (ls' := [(2, 95), (0, ((c : Nat) : Int)), (0, v), (0, m1), (0, b1), x5, x6]) (st' := [(0, v), (0, m1)]) (w' := w) (n' := 142) rfl ?_
          refine qG.br (P := m1 = v) (pc1 := 128) (pc2 := 132) (st1 := []) rfl (fun h4 => ?_) (fun h4 => ?_)
          · skip
            refine qG.blk 2 (pc' := 133) (ls' := [(2, 95), (0, ((c : Nat) : Int)), (0, v), (0, m1), (0, b1), x5, x6]) (st' := [(0, 1)]) (w' := w) (n' := 142) rfl ?_
            refine qG.ret rfl (by first | rfl | exact decide_eq_true (by omega)) ?_
            subst hQ9
            exact ⟨by rw [← hI40.2.2.2.1 hne]; first | (rw [if_pos (by assumption)]; done) | (rw [if_neg (by assumption)]; done), rfl, rfl⟩
          · skip
            refine qG.blk 1 (pc' := 133) (ls' := [(2, 95), (0, ((c : Nat) : Int)), (0, v), (0, m1), (0, b1), x5, x6]) (st' := [(0, 0)]) (w' := w) (n' := 142) rfl ?_
            refine qG.ret rfl (by first | rfl | exact decide_eq_true (by omega)) ?_
            subst hQ9
            exact ⟨by rw [← hI40.2.2.2.1 hne]; first | (rw [if_pos (by assumption)]; done) | (rw [if_neg (by assumption)]; done), rfl, rfl⟩
        · skip
          refine qG.blk 4 (pc' := 52) (ls' := [(2, 95), (0, ((c : Nat) : Int)), (0, v), (0, m1), (0, m1), (0, 0), x6]) (st' := []) (w' := w) (n' := 142) rfl ?_
          have L52_1 : ∀ (m9 : Nat) (s : Nat) (m2 : Int) (x6 : qV), 16 - s = m9 → (s ≤ 16 ∧ m2 = hgS (pasB w c) v s m1) → qG none (d + 1) 219 52 [(2, 95), (0, ((c : Nat) : Int)), (0, v), (0, m2), (0, m1), (0, ((s : Nat) : Int)), x6] [] w 142 Q9 := by
            intro m9
            induction m9 using Nat.strongRecOn with
            | ind m9 ih52 =>
            intro s m2 x6 hm52 hI52
            refine qG.blk 2 (pc' := 56) (ls' := [(2, 95), (0, ((c : Nat) : Int)), (0, v), (0, m2), (0, m1), (0, ((s : Nat) : Int)), x6]) (st' := [(0, 16), (0, ((s : Nat) : Int))]) (w' := w) (n' := 142) rfl ?_
            refine qG.br (P := ((s : Nat) : Int) < 16) (pc1 := 59) (pc2 := 120) (st1 := []) rfl (fun hs16 => ?_) (fun hs16 => ?_)
            · skip
              refine qG.blk 2 (pc' := 62) (ls' := [(2, 95), (0, ((c : Nat) : Int)), (0, v), (0, m2), (0, m1), (0, ((s : Nat) : Int)), (0, 0)]) (st' := []) (w' := w) (n' := 142) rfl ?_
              have L62_1 : ∀ (m9 : Nat) (t : Nat) (m3 : Int), 16 - t = m9 → (t ≤ 16 ∧ m3 = hgT (pasB w c) v s t m2) → qG none (d + 1) 219 62 [(2, 95), (0, ((c : Nat) : Int)), (0, v), (0, m3), (0, m1), (0, ((s : Nat) : Int)), (0, ((t : Nat) : Int))] [] w 142 Q9 := by
                intro m9
                induction m9 using Nat.strongRecOn with
                | ind m9 ih62 =>
                intro t m3 hm62 hI62
                refine qG.blk 2 (pc' := 66) (ls' := [(2, 95), (0, ((c : Nat) : Int)), (0, v), (0, m3), (0, m1), (0, ((s : Nat) : Int)), (0, ((t : Nat) : Int))]) (st' := [(0, 16), (0, ((t : Nat) : Int))]) (w' := w) (n' := 142) rfl ?_
                refine qG.br (P := ((t : Nat) : Int) < 16) (pc1 := 69) (pc2 := 114) (st1 := []) rfl (fun h5 => ?_) (fun h5 => ?_)
                · skip
                  refine qG.blk 6 (pc' := 76) (ls' := [(2, 95), (0, ((c : Nat) : Int)), (0, v), (0, m3), (0, m1), (0, ((s : Nat) : Int)), (0, ((t : Nat) : Int))]) (st' := [(0, 1), (0, qand (qshr m3 ((s : Nat) : Int)) 1)]) (w' := w) (n' := 142) rfl ?_
                  refine qG.br (P := qand (qshr m3 ((s : Nat) : Int)) 1 = 1) (pc1 := 79) (pc2 := 108) (st1 := []) rfl (fun hb1 => ?_) (fun hb1 => ?_)
                  · skip
                    refine qG.blk 6 (pc' := 86) (ls' := [(2, 95), (0, ((c : Nat) : Int)), (0, v), (0, m3), (0, m1), (0, ((s : Nat) : Int)), (0, ((t : Nat) : Int))]) (st' := [(0, 1), (0, qand (qshr v ((t : Nat) : Int)) 1)]) (w' := w) (n' := 142) rfl ?_
                    refine qG.br (P := qand (qshr v ((t : Nat) : Int)) 1 = 1) (pc1 := 89) (pc2 := 108) (st1 := []) rfl (fun hb2 => ?_) (fun hb2 => ?_)
                    · skip
                      refine qG.blk 4 (pc' := 95) (ls' := [(2, 95), (0, ((c : Nat) : Int)), (0, v), (0, m3), (0, m1), (0, ((s : Nat) : Int)), (0, ((t : Nat) : Int))]) (st' := [(0, ((t : Nat) : Int)), (0, ((s : Nat) : Int)), (0, ((c : Nat) : Int)), (2, 95)]) (w' := w) (n' := 142) rfl ?_
                      refine qG.call (t := 218) (na := 4) (sk := 1) (md := 1) (ls1 := [(2, 95), (0, ((c : Nat) : Int)), (0, ((s : Nat) : Int)), (0, ((t : Nat) : Int))]) (r1 := []) rfl rfl rfl rfl rfl (K_isPassage (by omega) c s t hc (by omega) (by omega) w hI) ?_
                      rintro _ w7 _ ⟨rfl, hw7, rfl⟩
                      rw [hw7]
                      show qG none (d + 1) 219 98 [(2, 95), (0, ((c : Nat) : Int)), (0, v), (0, m3), (0, m1), (0, ((s : Nat) : Int)), (0, ((t : Nat) : Int))] [(0, (if pasB w c s t = true then 1 else 0))] w 142 Q9
                      refine qG.br (P := (if pasB w c s t = true then 1 else 0) = 0) (pc1 := 108) (pc2 := 101) (st1 := []) rfl (fun hb3 => ?_) (fun hb3 => ?_)
                      · skip
                        refine qG.blk 1 (pc' := 111) (ls' := [(2, 95), (0, ((c : Nat) : Int)), (0, v), (0, m3), (0, m1), (0, ((s : Nat) : Int)), (0, wrp (((t : Nat) : Int) + 1))]) (st' := []) (w' := w) (n' := 142) rfl ?_
                        rw [show wrp (((t : Nat) : Int) + 1) = ((t + 1 : Nat) : Int) from wrp_id (by omega) (by omega)]
                        refine qG.blk 1 (pc' := 62) (ls' := [(2, 95), (0, ((c : Nat) : Int)), (0, v), (0, m3), (0, m1), (0, ((s : Nat) : Int)), (0, ((t + 1 : Nat) : Int))]) (st' := []) (w' := w) (n' := 142) rfl ?_
                        exact ih62 _ (by omega) (t + 1) (m3) rfl (⟨by omega, by rw [hI62.2] at hb1 ⊢; first | exact (hgT_y hb1 hb2 (Decidable.of_not_not (fun z => hb3 (ite01.mpr z)))).symm | exact (hgT_n (.inl hb1)).symm | exact (hgT_n (.inr (.inl hb2))).symm | exact (hgT_n (.inr (.inr (ybf (ite01.mp hb3))))).symm⟩)
                      · skip
                        refine qG.blk 7 (pc' := 111) (ls' := [(2, 95), (0, ((c : Nat) : Int)), (0, v), (0, qor m3 (qshl 1 ((t : Nat) : Int))), (0, m1), (0, ((s : Nat) : Int)), (0, wrp (((t : Nat) : Int) + 1))]) (st' := []) (w' := w) (n' := 142) rfl ?_
                        rw [show wrp (((t : Nat) : Int) + 1) = ((t + 1 : Nat) : Int) from wrp_id (by omega) (by omega)]
                        refine qG.blk 1 (pc' := 62) (ls' := [(2, 95), (0, ((c : Nat) : Int)), (0, v), (0, qor m3 (qshl 1 ((t : Nat) : Int))), (0, m1), (0, ((s : Nat) : Int)), (0, ((t + 1 : Nat) : Int))]) (st' := []) (w' := w) (n' := 142) rfl ?_
                        exact ih62 _ (by omega) (t + 1) (qor m3 (qshl 1 ((t : Nat) : Int))) rfl (⟨by omega, by rw [hI62.2] at hb1 ⊢; first | exact (hgT_y hb1 hb2 (Decidable.of_not_not (fun z => hb3 (ite01.mpr z)))).symm | exact (hgT_n (.inl hb1)).symm | exact (hgT_n (.inr (.inl hb2))).symm | exact (hgT_n (.inr (.inr (ybf (ite01.mp hb3))))).symm⟩)
                    · skip
                      refine qG.blk 1 (pc' := 111) (ls' := [(2, 95), (0, ((c : Nat) : Int)), (0, v), (0, m3), (0, m1), (0, ((s : Nat) : Int)), (0, wrp (((t : Nat) : Int) + 1))]) (st' := []) (w' := w) (n' := 142) rfl ?_
                      rw [show wrp (((t : Nat) : Int) + 1) = ((t + 1 : Nat) : Int) from wrp_id (by omega) (by omega)]
                      refine qG.blk 1 (pc' := 62) (ls' := [(2, 95), (0, ((c : Nat) : Int)), (0, v), (0, m3), (0, m1), (0, ((s : Nat) : Int)), (0, ((t + 1 : Nat) : Int))]) (st' := []) (w' := w) (n' := 142) rfl ?_
                      exact ih62 _ (by omega) (t + 1) (m3) rfl (⟨by omega, by rw [hI62.2] at hb1 ⊢; first | exact (hgT_y hb1 hb2 (Decidable.of_not_not (fun z => hb3 (ite01.mpr z)))).symm | exact (hgT_n (.inl hb1)).symm | exact (hgT_n (.inr (.inl hb2))).symm | exact (hgT_n (.inr (.inr (ybf (ite01.mp hb3))))).symm⟩)
                  · skip
                    refine qG.blk 1 (pc' := 111) (ls' := [(2, 95), (0, ((c : Nat) : Int)), (0, v), (0, m3), (0, m1), (0, ((s : Nat) : Int)), (0, wrp (((t : Nat) : Int) + 1))]) (st' := []) (w' := w) (n' := 142) rfl ?_
                    rw [show wrp (((t : Nat) : Int) + 1) = ((t + 1 : Nat) : Int) from wrp_id (by omega) (by omega)]
                    refine qG.blk 1 (pc' := 62) (ls' := [(2, 95), (0, ((c : Nat) : Int)), (0, v), (0, m3), (0, m1), (0, ((s : Nat) : Int)), (0, ((t + 1 : Nat) : Int))]) (st' := []) (w' := w) (n' := 142) rfl ?_
                    exact ih62 _ (by omega) (t + 1) (m3) rfl (⟨by omega, by rw [hI62.2] at hb1 ⊢; first | exact (hgT_y hb1 hb2 (Decidable.of_not_not (fun z => hb3 (ite01.mpr z)))).symm | exact (hgT_n (.inl hb1)).symm | exact (hgT_n (.inr (.inl hb2))).symm | exact (hgT_n (.inr (.inr (ybf (ite01.mp hb3))))).symm⟩)
                · skip
                  refine qG.blk 1 (pc' := 117) (ls' := [(2, 95), (0, ((c : Nat) : Int)), (0, v), (0, m3), (0, m1), (0, wrp (((s : Nat) : Int) + 1)), (0, ((t : Nat) : Int))]) (st' := []) (w' := w) (n' := 142) rfl ?_
                  rw [show wrp (((s : Nat) : Int) + 1) = ((s + 1 : Nat) : Int) from wrp_id (by omega) (by omega)]
                  refine qG.blk 1 (pc' := 52) (ls' := [(2, 95), (0, ((c : Nat) : Int)), (0, v), (0, m3), (0, m1), (0, ((s + 1 : Nat) : Int)), (0, ((t : Nat) : Int))]) (st' := []) (w' := w) (n' := 142) rfl ?_
                  exact ih52 _ (by omega) (s + 1) (m3) ((0, ((t : Nat) : Int))) rfl (⟨by omega, by rw [hI62.2, show t = 16 by omega, hI52.2]; rfl⟩)
              exact L62_1 _ (0) (m2) rfl (⟨by omega, rfl⟩)
            · skip
              have hm1 : m2 = hgS (pasB w c) v 16 m1 := by rw [hI52.2, show s = 16 by omega]
              refine qG.blk 1 (pc' := 40) (ls' := [(2, 95), (0, ((c : Nat) : Int)), (0, v), (0, m2), (0, m1), (0, ((s : Nat) : Int)), x6]) (st' := []) (w' := w) (n' := 142) rfl ?_
              exact ih40 _ (by rw [hm1, ← hm40]; exact hgM_lt hI40 (fun z => hne z.symm)) (m2) (m1) ((0, ((s : Nat) : Int))) (x6) rfl (by rw [hm1]; exact hI40.next (fun z => hne z.symm))
          exact L52_1 _ (0) (m1) (x6) rfl (⟨by omega, rfl⟩)
      exact L40_1 _ (m) (0) ((9, 0)) ((9, 0)) rfl (by rw [hI5.2, hgL_16 hI5.1 (by first | exact .inl (by omega) | exact .inr (fun z => hm0 (hI5.2.trans z)))]; exact hgI.init)
  exact L5 _ (0) (0) rfl (⟨by omega, rfl⟩)
