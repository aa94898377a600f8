/-! what wall answers -/
theorem qG.and {sc : Option (Nat × (Nat → Int))} {d k pc n : Nat} {ls st : List qV} {w : qW} {Q R : qV → qW → Nat → Prop} (h : qG sc d k pc ls st w n Q) (h2 : qG sc d k pc ls st w n R) : qG sc d k pc ls st w n (fun v w' n' => Q v w' n' ∧ R v w' n') := by
  obtain ⟨f, v, w1, n1, e, q⟩ := h
  obtain ⟨g, v2, w2, n2, e2, q2⟩ := h2
  have a := qex_le (Nat.le_max_left f g) _ _ _ _ _ _ _ _ _ e
  have b := qex_le (Nat.le_max_right f g) _ _ _ _ _ _ _ _ _ e2
  rw [a] at b
  cases b
  exact ⟨_, v, w1, n1, a, q, q2⟩
/-- a call by its contract, with what it answers -/
theorem SP.ex {t : Nat} {c : yC} {w : qW} {d : Nat} {as : List qV} {x : Int} (T : yCOK w zgf zga zra zSp zgh t c) (h : SP w) (hd : c.1 ≤ d) (ha : yamc c.2.1 as) (hn : c.2.2.2.2.1 = []) (hp : c.2.2.2.2.2.1 = []) (hs : spm c.2.2.2.1 = true) (hx : qG none d t 0 (qini t as) [] w 142 (fun r _ _ => r = (0, x))) : qG none d t 0 (qini t as) [] w 142 (fun v w' n' => v = (0, x) ∧ SP w' ∧ n' = 142) := by
  refine qG.mono (qG.and (SP.use T h hd ha hn hp hs) hx) (fun v w' n' hh => ?_)
  obtain ⟨⟨-, -, -, -, hP, hn9⟩, hv⟩ := hh
  exact ⟨hv, hP, hn9⟩
theorem K_X11_isChest {d : Nat} (hd : 0 ≤ d) (c : Int) (w : qW) : qG none d 198 0 [(0, c)] [] w 142 (fun (r : qV) (w1 : qW) (n1 : Nat) => r = (0, isInV c 0 2) ∧ w1 = w ∧ n1 = 142) := by
  generalize hQ9 : (fun (r : qV) (w1 : qW) (n1 : Nat) => r = (0, isInV c 0 2) ∧ w1 = w ∧ n1 = 142) = Q9
  refine qG.blk 1 (pc' := 1) (ls' := [(0, c)]) (st' := [(0, c)]) (w' := w) (n' := 142) rfl ?_
  refine qG.br (P := c < 0) (pc1 := 13) (pc2 := 4) (st1 := []) rfl (fun h1 => ?_) (fun h1 => ?_)
  · skip
    refine qG.blk 1 (pc' := 14) (ls' := [(0, c)]) (st' := [(0, 0)]) (w' := w) (n' := 142) rfl ?_
    refine qG.ret rfl (by first | rfl | exact decide_eq_true (by omega)) ?_
    subst hQ9
    exact ⟨by unfold isInV; split <;> (try split) <;> first | rfl | (exfalso; omega), rfl, rfl⟩
  · skip
    refine qG.blk 2 (pc' := 6) (ls' := [(0, c)]) (st' := [(0, 3), (0, c)]) (w' := w) (n' := 142) rfl ?_
    refine qG.br (P := c < 3) (pc1 := 9) (pc2 := 13) (st1 := []) rfl (fun h2 => ?_) (fun h2 => ?_)
    · skip
      refine qG.blk 2 (pc' := 14) (ls' := [(0, c)]) (st' := [(0, 1)]) (w' := w) (n' := 142) rfl ?_
      refine qG.ret rfl (by first | rfl | exact decide_eq_true (by omega)) ?_
      subst hQ9
      exact ⟨by unfold isInV; split <;> (try split) <;> first | rfl | (exfalso; omega), rfl, rfl⟩
    · skip
      refine qG.blk 1 (pc' := 14) (ls' := [(0, c)]) (st' := [(0, 0)]) (w' := w) (n' := 142) rfl ?_
      refine qG.ret rfl (by first | rfl | exact decide_eq_true (by omega)) ?_
      subst hQ9
      exact ⟨by unfold isInV; split <;> (try split) <;> first | rfl | (exfalso; omega), rfl, rfl⟩
theorem K_X2_isSpace {d : Nat} (hd : 0 ≤ d) (c : Int) (w : qW) : qG none d 19 0 [(0, c)] [] w 142 (fun (r : qV) (w1 : qW) (n1 : Nat) => r = (0, isInV c 0 15) ∧ w1 = w ∧ n1 = 142) := by
  generalize hQ9 : (fun (r : qV) (w1 : qW) (n1 : Nat) => r = (0, isInV c 0 15) ∧ w1 = w ∧ n1 = 142) = Q9
  refine qG.blk 1 (pc' := 1) (ls' := [(0, c)]) (st' := [(0, c)]) (w' := w) (n' := 142) rfl ?_
  refine qG.br (P := c < 0) (pc1 := 14) (pc2 := 4) (st1 := []) rfl (fun h1 => ?_) (fun h1 => ?_)
  · skip
    refine qG.blk 1 (pc' := 15) (ls' := [(0, c)]) (st' := [(0, 0)]) (w' := w) (n' := 142) rfl ?_
    refine qG.ret rfl (by first | rfl | exact decide_eq_true (by omega)) ?_
    subst hQ9
    exact ⟨by unfold isInV; split <;> (try split) <;> first | rfl | (exfalso; omega), rfl, rfl⟩
  · skip
    refine qG.blk 2 (pc' := 7) (ls' := [(0, c)]) (st' := [(0, 16), (0, c)]) (w' := w) (n' := 142) rfl ?_
    refine qG.br (P := c < 16) (pc1 := 10) (pc2 := 14) (st1 := []) rfl (fun h2 => ?_) (fun h2 => ?_)
    · skip
      refine qG.blk 2 (pc' := 15) (ls' := [(0, c)]) (st' := [(0, 1)]) (w' := w) (n' := 142) rfl ?_
      refine qG.ret rfl (by first | rfl | exact decide_eq_true (by omega)) ?_
      subst hQ9
      exact ⟨by unfold isInV; split <;> (try split) <;> first | rfl | (exfalso; omega), rfl, rfl⟩
    · skip
      refine qG.blk 1 (pc' := 15) (ls' := [(0, c)]) (st' := [(0, 0)]) (w' := w) (n' := 142) rfl ?_
      refine qG.ret rfl (by first | rfl | exact decide_eq_true (by omega)) ?_
      subst hQ9
      exact ⟨by unfold isInV; split <;> (try split) <;> first | rfl | (exfalso; omega), rfl, rfl⟩
theorem K_X12_isSpace {d : Nat} (hd : 1 ≤ d) (c : Int) (w : qW) : qG none d 208 0 [(0, c)] [] w 142 (fun (r : qV) (w1 : qW) (n1 : Nat) => r = (0, isInV c 0 15) ∧ w1 = w ∧ n1 = 142) := by
  generalize hQ9 : (fun (r : qV) (w1 : qW) (n1 : Nat) => r = (0, isInV c 0 15) ∧ w1 = w ∧ n1 = 142) = Q9
  obtain ⟨d, rfl⟩ : ∃ d9, d = d9 + 1 := ⟨d - 1, by omega⟩
  refine qG.blk 3 (pc' := 4) (ls' := [(0, c)]) (st' := [(0, 15), (0, 0), (0, c)]) (w' := w) (n' := 142) rfl ?_
  refine qG.call (t := 206) (na := 3) (sk := 0) (md := 0) (ls1 := [(0, c), (0, 0), (0, 15)]) (r1 := []) rfl rfl rfl rfl rfl (K_isIn (Nat.zero_le _) _ _ _ _) ?_
  rintro _ w7 _ ⟨rfl, hw7, rfl⟩
  rw [hw7]
  show qG none (d + 1) 208 7 [(0, c)] [(0, isInV (c) (0) (15))] w 142 Q9
  refine qG.ret rfl (by have q9 := isInV_01 c 0 15; exact decide_eq_true (by omega)) ?_
  subst hQ9
  exact ⟨rfl, rfl, rfl⟩
/-- what putWall answers -/
def pwV (s t : Int) : Int := if isInV s 0 15 = 0 then 0 else if isInV t 0 15 = 0 then 0 else if nbB s.toNat t.toNat = true then 1 else 0
def wallV (c s t : Int) : Int := if isInV c 0 2 = 0 then 0 else pwV s t
theorem pwV_01 (s t : Int) : pwV s t = 0 ∨ pwV s t = 1 := by unfold pwV; split; exact .inl rfl; split; exact .inl rfl; split; exact .inr rfl; exact .inl rfl
theorem K_putWall64 {d : Nat} (hd : 2 ≤ d) (s t b : Int) (w : qW) (hI : yInv zgf zga zra zSp w) : qG none d 21 0 [(2, 64), (0, s), (0, t), (0, b)] [] w 142 (fun (r : qV) (_ : qW) (n1 : Nat) => r = (0, pwV s t) ∧ n1 = 142) := by
  generalize hQ9 : (fun (r : qV) (_ : qW) (n1 : Nat) => r = (0, pwV s t) ∧ n1 = 142) = Q9
  obtain ⟨d, rfl⟩ : ∃ d9, d = d9 + 1 := ⟨d - 1, by omega⟩
  refine qG.blk 1 (pc' := 1) (ls' := [(2, 64), (0, s), (0, t), (0, b)]) (st' := [(0, s)]) (w' := w) (n' := 142) rfl ?_
  refine qG.call (t := 19) (na := 1) (sk := 0) (md := 0) (ls1 := [(0, s)]) (r1 := []) rfl rfl rfl rfl rfl (K_X2_isSpace (Nat.zero_le _) _ _) ?_
  rintro _ w7 _ ⟨rfl, hw7, rfl⟩
  rw [hw7]
  show qG none (d + 1) 21 4 [(2, 64), (0, s), (0, t), (0, b)] [(0, isInV s 0 15)] w 142 Q9
  refine qG.br (P := isInV s 0 15 = 0) (pc1 := 22) (pc2 := 7) (st1 := []) rfl (fun hs0 => ?_) (fun hs0 => ?_)
  · skip
    refine qG.blk 1 (pc' := 23) (ls' := [(2, 64), (0, s), (0, t), (0, b)]) (st' := [(0, 0)]) (w' := w) (n' := 142) rfl ?_
    refine qG.ret rfl (by first | rfl | exact decide_eq_true (by omega)) ?_
    subst hQ9
    exact ⟨(by unfold pwV; first | (rw [if_pos hs0]; done) | (rw [if_neg hs0, if_pos ht0]; done) | (rw [if_neg hs0, if_neg ht0, Int.toNat_natCast, Int.toNat_natCast, if_neg (ite01.mp hnb)]; done) | (rw [if_neg hs0, if_neg ht0, Int.toNat_natCast, Int.toNat_natCast, if_pos (Decidable.of_not_not (fun z => hnb (ite01.mpr z)))]; done)), rfl⟩
  · skip
    obtain ⟨s9, rfl, hls9, hus9⟩ := isIn_n (by decide) hs0
    refine qG.blk 1 (pc' := 8) (ls' := [(2, 64), (0, ((s9 : Nat) : Int)), (0, t), (0, b)]) (st' := [(0, t)]) (w' := w) (n' := 142) rfl ?_
    refine qG.call (t := 19) (na := 1) (sk := 0) (md := 0) (ls1 := [(0, t)]) (r1 := []) rfl rfl rfl rfl rfl (K_X2_isSpace (Nat.zero_le _) _ _) ?_
    rintro _ w7 _ ⟨rfl, hw7, rfl⟩
    rw [hw7]
    show qG none (d + 1) 21 11 [(2, 64), (0, ((s9 : Nat) : Int)), (0, t), (0, b)] [(0, isInV t 0 15)] w 142 Q9
    refine qG.br (P := isInV t 0 15 = 0) (pc1 := 22) (pc2 := 14) (st1 := []) rfl (fun ht0 => ?_) (fun ht0 => ?_)
    · skip
      refine qG.blk 1 (pc' := 23) (ls' := [(2, 64), (0, ((s9 : Nat) : Int)), (0, t), (0, b)]) (st' := [(0, 0)]) (w' := w) (n' := 142) rfl ?_
      refine qG.ret rfl (by first | rfl | exact decide_eq_true (by omega)) ?_
      subst hQ9
      exact ⟨(by unfold pwV; first | (rw [if_pos hs0]; done) | (rw [if_neg hs0, if_pos ht0]; done) | (rw [if_neg hs0, if_neg ht0, Int.toNat_natCast, Int.toNat_natCast, if_neg (ite01.mp hnb)]; done) | (rw [if_neg hs0, if_neg ht0, Int.toNat_natCast, Int.toNat_natCast, if_pos (Decidable.of_not_not (fun z => hnb (ite01.mpr z)))]; done)), rfl⟩
    · skip
      obtain ⟨t9, rfl, hlt9, hut9⟩ := isIn_n (by decide) ht0
      refine qG.blk 2 (pc' := 16) (ls' := [(2, 64), (0, ((s9 : Nat) : Int)), (0, ((t9 : Nat) : Int)), (0, b)]) (st' := [(0, ((t9 : Nat) : Int)), (0, ((s9 : Nat) : Int))]) (w' := w) (n' := 142) rfl ?_
      refine qG.call (t := 18) (na := 2) (sk := 0) (md := 0) (ls1 := [(0, ((s9 : Nat) : Int)), (0, ((t9 : Nat) : Int)), (9, 0), (9, 0), (9, 0)]) (r1 := []) rfl rfl rfl rfl rfl (K_X2_areN (by omega) s9 t9 (by omega) (by omega) _ _) ?_
      rintro _ w7 _ ⟨rfl, hw7, rfl⟩
      rw [hw7]
      show qG none (d + 1) 21 19 [(2, 64), (0, ((s9 : Nat) : Int)), (0, ((t9 : Nat) : Int)), (0, b)] [(0, (if nbB s9 t9 = true then 1 else 0))] w 142 Q9
      refine qG.br (P := (if nbB s9 t9 = true then 1 else 0) = 0) (pc1 := 22) (pc2 := 24) (st1 := []) rfl (fun hnb => ?_) (fun hnb => ?_)
      · skip
        refine qG.blk 1 (pc' := 23) (ls' := [(2, 64), (0, ((s9 : Nat) : Int)), (0, ((t9 : Nat) : Int)), (0, b)]) (st' := [(0, 0)]) (w' := w) (n' := 142) rfl ?_
        refine qG.ret rfl (by first | rfl | exact decide_eq_true (by omega)) ?_
        subst hQ9
        exact ⟨(by unfold pwV; first | (rw [if_pos hs0]; done) | (rw [if_neg hs0, if_pos ht0]; done) | (rw [if_neg hs0, if_neg ht0, Int.toNat_natCast, Int.toNat_natCast, if_neg (ite01.mp hnb)]; done) | (rw [if_neg hs0, if_neg ht0, Int.toNat_natCast, Int.toNat_natCast, if_pos (Decidable.of_not_not (fun z => hnb (ite01.mpr z)))]; done)), rfl⟩
      · skip
        refine qG.blk 2 (pc' := 28) (ls' := [(2, 64), (0, ((s9 : Nat) : Int)), (0, ((t9 : Nat) : Int)), (0, b)]) (st' := [(2, w 64 2)]) (w' := w) (n' := 142) rfl ?_
        rw [show w 64 2 = 65 from zref hI rfl rfl]
        refine qG.blk 2 (pc' := 30) (ls' := [(2, 64), (0, ((s9 : Nat) : Int)), (0, ((t9 : Nat) : Int)), (0, b)]) (st' := [(0, b), (0, ((s9 : Nat) : Int)), (2, 65)]) (w' := w) (n' := 142) rfl ?_
        refine qG.br (P := b = 0) (pc1 := 48) (pc2 := 33) (st1 := [(0, ((s9 : Nat) : Int)), (2, 65)]) rfl (fun h1 => ?_) (fun h1 => ?_)
        · skip
          refine qG.blk 2 (pc' := 52) (ls' := [(2, 64), (0, ((s9 : Nat) : Int)), (0, ((t9 : Nat) : Int)), (0, b)]) (st' := [(2, w 64 2), (0, ((s9 : Nat) : Int)), (2, 65)]) (w' := w) (n' := 142) rfl ?_
          rw [show w 64 2 = 65 from zref hI rfl rfl]
          refine qG.blk 1 (pc' := 53) (ls' := [(2, 64), (0, ((s9 : Nat) : Int)), (0, ((t9 : Nat) : Int)), (0, b)]) (st' := [(0, ((s9 : Nat) : Int)), (2, 65), (0, ((s9 : Nat) : Int)), (2, 65)]) (w' := w) (n' := 142) rfl ?_
          refine qG.ar (P := 0 ≤ ((s9 : Nat) : Int) ∧ ((s9 : Nat) : Int) < ((16 : Nat) : Int)) (P2 := 0 < (65 : Int) ∧ (65 : Int) ≤ ((142 : Nat) : Int)) (pc' := 54) (ls' := [(2, 64), (0, ((s9 : Nat) : Int)), (0, ((t9 : Nat) : Int)), (0, b)]) (st' := [(0, w 65 s9), (0, ((s9 : Nat) : Int)), (2, 65)]) (w' := w) (n' := 142) rfl (by omega) (by decide) ?_
          refine qG.blk 4 (pc' := 58) (ls' := [(2, 64), (0, ((s9 : Nat) : Int)), (0, ((t9 : Nat) : Int)), (0, b)]) (st' := [(0, qor (w 65 s9) (qshl 1 ((t9 : Nat) : Int))), (0, ((s9 : Nat) : Int)), (2, 65)]) (w' := w) (n' := 142) rfl ?_
          refine qG.ar (P := 0 ≤ ((s9 : Nat) : Int) ∧ ((s9 : Nat) : Int) < ((16 : Nat) : Int)) (P2 := 0 < (65 : Int) ∧ (65 : Int) ≤ ((142 : Nat) : Int)) (pc' := 59) (ls' := [(2, 64), (0, ((s9 : Nat) : Int)), (0, ((t9 : Nat) : Int)), (0, b)]) (st' := []) (w' := (qup w 65 s9 (qor (w 65 s9) (qshl 1 ((t9 : Nat) : Int))))) (n' := 142) rfl (by omega) (by decide) ?_
          refine qG.blk 2 (pc' := 63) (ls' := [(2, 64), (0, ((s9 : Nat) : Int)), (0, ((t9 : Nat) : Int)), (0, b)]) (st' := [(2, w 64 2)]) (w' := (qup w 65 s9 (qor (w 65 s9) (qshl 1 ((t9 : Nat) : Int))))) (n' := 142) rfl ?_
          rw [show w 64 2 = 65 from zref hI rfl rfl]
          refine qG.blk 2 (pc' := 65) (ls' := [(2, 64), (0, ((s9 : Nat) : Int)), (0, ((t9 : Nat) : Int)), (0, b)]) (st' := [(0, b), (0, ((t9 : Nat) : Int)), (2, 65)]) (w' := (qup w 65 s9 (qor (w 65 s9) (qshl 1 ((t9 : Nat) : Int))))) (n' := 142) rfl ?_
          refine qG.br (P := b = 0) (pc1 := 83) (pc2 := 68) (st1 := [(0, ((t9 : Nat) : Int)), (2, 65)]) rfl (fun h2 => ?_) (fun h2 => ?_)
          · skip
            refine qG.blk 2 (pc' := 87) (ls' := [(2, 64), (0, ((s9 : Nat) : Int)), (0, ((t9 : Nat) : Int)), (0, b)]) (st' := [(2, w 64 2), (0, ((t9 : Nat) : Int)), (2, 65)]) (w' := (qup w 65 s9 (qor (w 65 s9) (qshl 1 ((t9 : Nat) : Int))))) (n' := 142) rfl ?_
            rw [show w 64 2 = 65 from zref hI rfl rfl]
            refine qG.blk 1 (pc' := 88) (ls' := [(2, 64), (0, ((s9 : Nat) : Int)), (0, ((t9 : Nat) : Int)), (0, b)]) (st' := [(0, ((t9 : Nat) : Int)), (2, 65), (0, ((t9 : Nat) : Int)), (2, 65)]) (w' := (qup w 65 s9 (qor (w 65 s9) (qshl 1 ((t9 : Nat) : Int))))) (n' := 142) rfl ?_
            refine qG.ar (P := 0 ≤ ((t9 : Nat) : Int) ∧ ((t9 : Nat) : Int) < ((16 : Nat) : Int)) (P2 := 0 < (65 : Int) ∧ (65 : Int) ≤ ((142 : Nat) : Int)) (pc' := 89) (ls' := [(2, 64), (0, ((s9 : Nat) : Int)), (0, ((t9 : Nat) : Int)), (0, b)]) (st' := [(0, (qup w 65 s9 (qor (w 65 s9) (qshl 1 ((t9 : Nat) : Int)))) 65 t9), (0, ((t9 : Nat) : Int)), (2, 65)]) (w' := (qup w 65 s9 (qor (w 65 s9) (qshl 1 ((t9 : Nat) : Int))))) (n' := 142) rfl (by omega) (by decide) ?_
            refine qG.blk 4 (pc' := 93) (ls' := [(2, 64), (0, ((s9 : Nat) : Int)), (0, ((t9 : Nat) : Int)), (0, b)]) (st' := [(0, qor ((qup w 65 s9 (qor (w 65 s9) (qshl 1 ((t9 : Nat) : Int)))) 65 t9) (qshl 1 ((s9 : Nat) : Int))), (0, ((t9 : Nat) : Int)), (2, 65)]) (w' := (qup w 65 s9 (qor (w 65 s9) (qshl 1 ((t9 : Nat) : Int))))) (n' := 142) rfl ?_
            refine qG.ar (P := 0 ≤ ((t9 : Nat) : Int) ∧ ((t9 : Nat) : Int) < ((16 : Nat) : Int)) (P2 := 0 < (65 : Int) ∧ (65 : Int) ≤ ((142 : Nat) : Int)) (pc' := 94) (ls' := [(2, 64), (0, ((s9 : Nat) : Int)), (0, ((t9 : Nat) : Int)), (0, b)]) (st' := []) (w' := (qup (qup w 65 s9 (qor (w 65 s9) (qshl 1 ((t9 : Nat) : Int)))) 65 t9 (qor ((qup w 65 s9 (qor (w 65 s9) (qshl 1 ((t9 : Nat) : Int)))) 65 t9) (qshl 1 ((s9 : Nat) : Int))))) (n' := 142) rfl (by omega) (by decide) ?_
            refine qG.blk 5 (pc' := 101) (ls' := [(2, 64), (0, ((s9 : Nat) : Int)), (0, ((t9 : Nat) : Int)), (0, b)]) (st' := [(0, wrp ((w 64 1) + 1)), (2, 64)]) (w' := (qup (qup w 65 s9 (qor (w 65 s9) (qshl 1 ((t9 : Nat) : Int)))) 65 t9 (qor ((qup w 65 s9 (qor (w 65 s9) (qshl 1 ((t9 : Nat) : Int)))) 65 t9) (qshl 1 ((s9 : Nat) : Int))))) (n' := 142) rfl ?_
            refine qG.blk 2 (pc' := 105) (ls' := [(2, 64), (0, ((s9 : Nat) : Int)), (0, ((t9 : Nat) : Int)), (0, b)]) (st' := [(0, 1)]) (w' := (qup (qup (qup w 65 s9 (qor (w 65 s9) (qshl 1 ((t9 : Nat) : Int)))) 65 t9 (qor ((qup w 65 s9 (qor (w 65 s9) (qshl 1 ((t9 : Nat) : Int)))) 65 t9) (qshl 1 ((s9 : Nat) : Int)))) 64 1 (wrp ((w 64 1) + 1)))) (n' := 142) rfl ?_
            refine qG.ret rfl (by first | rfl | exact decide_eq_true (by omega)) ?_
            subst hQ9
            exact ⟨(by unfold pwV; first | (rw [if_pos hs0]; done) | (rw [if_neg hs0, if_pos ht0]; done) | (rw [if_neg hs0, if_neg ht0, Int.toNat_natCast, Int.toNat_natCast, if_neg (ite01.mp hnb)]; done) | (rw [if_neg hs0, if_neg ht0, Int.toNat_natCast, Int.toNat_natCast, if_pos (Decidable.of_not_not (fun z => hnb (ite01.mpr z)))]; done)), rfl⟩
          · skip
            refine qG.blk 2 (pc' := 72) (ls' := [(2, 64), (0, ((s9 : Nat) : Int)), (0, ((t9 : Nat) : Int)), (0, b)]) (st' := [(2, w 64 2), (0, ((t9 : Nat) : Int)), (2, 65)]) (w' := (qup w 65 s9 (qor (w 65 s9) (qshl 1 ((t9 : Nat) : Int))))) (n' := 142) rfl ?_
            rw [show w 64 2 = 65 from zref hI rfl rfl]
            refine qG.blk 1 (pc' := 73) (ls' := [(2, 64), (0, ((s9 : Nat) : Int)), (0, ((t9 : Nat) : Int)), (0, b)]) (st' := [(0, ((t9 : Nat) : Int)), (2, 65), (0, ((t9 : Nat) : Int)), (2, 65)]) (w' := (qup w 65 s9 (qor (w 65 s9) (qshl 1 ((t9 : Nat) : Int))))) (n' := 142) rfl ?_
            refine qG.ar (P := 0 ≤ ((t9 : Nat) : Int) ∧ ((t9 : Nat) : Int) < ((16 : Nat) : Int)) (P2 := 0 < (65 : Int) ∧ (65 : Int) ≤ ((142 : Nat) : Int)) (pc' := 74) (ls' := [(2, 64), (0, ((s9 : Nat) : Int)), (0, ((t9 : Nat) : Int)), (0, b)]) (st' := [(0, (qup w 65 s9 (qor (w 65 s9) (qshl 1 ((t9 : Nat) : Int)))) 65 t9), (0, ((t9 : Nat) : Int)), (2, 65)]) (w' := (qup w 65 s9 (qor (w 65 s9) (qshl 1 ((t9 : Nat) : Int))))) (n' := 142) rfl (by omega) (by decide) ?_
            refine qG.blk 7 (pc' := 93) (ls' := [(2, 64), (0, ((s9 : Nat) : Int)), (0, ((t9 : Nat) : Int)), (0, b)]) (st' := [(0, qand ((qup w 65 s9 (qor (w 65 s9) (qshl 1 ((t9 : Nat) : Int)))) 65 t9) (qxor (qshl 1 ((s9 : Nat) : Int)) (-1))), (0, ((t9 : Nat) : Int)), (2, 65)]) (w' := (qup w 65 s9 (qor (w 65 s9) (qshl 1 ((t9 : Nat) : Int))))) (n' := 142) rfl ?_
            refine qG.ar (P := 0 ≤ ((t9 : Nat) : Int) ∧ ((t9 : Nat) : Int) < ((16 : Nat) : Int)) (P2 := 0 < (65 : Int) ∧ (65 : Int) ≤ ((142 : Nat) : Int)) (pc' := 94) (ls' := [(2, 64), (0, ((s9 : Nat) : Int)), (0, ((t9 : Nat) : Int)), (0, b)]) (st' := []) (w' := (qup (qup w 65 s9 (qor (w 65 s9) (qshl 1 ((t9 : Nat) : Int)))) 65 t9 (qand ((qup w 65 s9 (qor (w 65 s9) (qshl 1 ((t9 : Nat) : Int)))) 65 t9) (qxor (qshl 1 ((s9 : Nat) : Int)) (-1))))) (n' := 142) rfl (by omega) (by decide) ?_
            refine qG.blk 5 (pc' := 101) (ls' := [(2, 64), (0, ((s9 : Nat) : Int)), (0, ((t9 : Nat) : Int)), (0, b)]) (st' := [(0, wrp ((w 64 1) + 1)), (2, 64)]) (w' := (qup (qup w 65 s9 (qor (w 65 s9) (qshl 1 ((t9 : Nat) : Int)))) 65 t9 (qand ((qup w 65 s9 (qor (w 65 s9) (qshl 1 ((t9 : Nat) : Int)))) 65 t9) (qxor (qshl 1 ((s9 : Nat) : Int)) (-1))))) (n' := 142) rfl ?_
            refine qG.blk 2 (pc' := 105) (ls' := [(2, 64), (0, ((s9 : Nat) : Int)), (0, ((t9 : Nat) : Int)), (0, b)]) (st' := [(0, 1)]) (w' := (qup (qup (qup w 65 s9 (qor (w 65 s9) (qshl 1 ((t9 : Nat) : Int)))) 65 t9 (qand ((qup w 65 s9 (qor (w 65 s9) (qshl 1 ((t9 : Nat) : Int)))) 65 t9) (qxor (qshl 1 ((s9 : Nat) : Int)) (-1)))) 64 1 (wrp ((w 64 1) + 1)))) (n' := 142) rfl ?_
            refine qG.ret rfl (by first | rfl | exact decide_eq_true (by omega)) ?_
            subst hQ9
            exact ⟨(by unfold pwV; first | (rw [if_pos hs0]; done) | (rw [if_neg hs0, if_pos ht0]; done) | (rw [if_neg hs0, if_neg ht0, Int.toNat_natCast, Int.toNat_natCast, if_neg (ite01.mp hnb)]; done) | (rw [if_neg hs0, if_neg ht0, Int.toNat_natCast, Int.toNat_natCast, if_pos (Decidable.of_not_not (fun z => hnb (ite01.mpr z)))]; done)), rfl⟩
        · skip
          refine qG.blk 2 (pc' := 37) (ls' := [(2, 64), (0, ((s9 : Nat) : Int)), (0, ((t9 : Nat) : Int)), (0, b)]) (st' := [(2, w 64 2), (0, ((s9 : Nat) : Int)), (2, 65)]) (w' := w) (n' := 142) rfl ?_
          rw [show w 64 2 = 65 from zref hI rfl rfl]
          refine qG.blk 1 (pc' := 38) (ls' := [(2, 64), (0, ((s9 : Nat) : Int)), (0, ((t9 : Nat) : Int)), (0, b)]) (st' := [(0, ((s9 : Nat) : Int)), (2, 65), (0, ((s9 : Nat) : Int)), (2, 65)]) (w' := w) (n' := 142) rfl ?_
          refine qG.ar (P := 0 ≤ ((s9 : Nat) : Int) ∧ ((s9 : Nat) : Int) < ((16 : Nat) : Int)) (P2 := 0 < (65 : Int) ∧ (65 : Int) ≤ ((142 : Nat) : Int)) (pc' := 39) (ls' := [(2, 64), (0, ((s9 : Nat) : Int)), (0, ((t9 : Nat) : Int)), (0, b)]) (st' := [(0, w 65 s9), (0, ((s9 : Nat) : Int)), (2, 65)]) (w' := w) (n' := 142) rfl (by omega) (by decide) ?_
          refine qG.blk 7 (pc' := 58) (ls' := [(2, 64), (0, ((s9 : Nat) : Int)), (0, ((t9 : Nat) : Int)), (0, b)]) (st' := [(0, qand (w 65 s9) (qxor (qshl 1 ((t9 : Nat) : Int)) (-1))), (0, ((s9 : Nat) : Int)), (2, 65)]) (w' := w) (n' := 142) rfl ?_
          refine qG.ar (P := 0 ≤ ((s9 : Nat) : Int) ∧ ((s9 : Nat) : Int) < ((16 : Nat) : Int)) (P2 := 0 < (65 : Int) ∧ (65 : Int) ≤ ((142 : Nat) : Int)) (pc' := 59) (ls' := [(2, 64), (0, ((s9 : Nat) : Int)), (0, ((t9 : Nat) : Int)), (0, b)]) (st' := []) (w' := (qup w 65 s9 (qand (w 65 s9) (qxor (qshl 1 ((t9 : Nat) : Int)) (-1))))) (n' := 142) rfl (by omega) (by decide) ?_
          refine qG.blk 2 (pc' := 63) (ls' := [(2, 64), (0, ((s9 : Nat) : Int)), (0, ((t9 : Nat) : Int)), (0, b)]) (st' := [(2, w 64 2)]) (w' := (qup w 65 s9 (qand (w 65 s9) (qxor (qshl 1 ((t9 : Nat) : Int)) (-1))))) (n' := 142) rfl ?_
          rw [show w 64 2 = 65 from zref hI rfl rfl]
          refine qG.blk 2 (pc' := 65) (ls' := [(2, 64), (0, ((s9 : Nat) : Int)), (0, ((t9 : Nat) : Int)), (0, b)]) (st' := [(0, b), (0, ((t9 : Nat) : Int)), (2, 65)]) (w' := (qup w 65 s9 (qand (w 65 s9) (qxor (qshl 1 ((t9 : Nat) : Int)) (-1))))) (n' := 142) rfl ?_
          refine qG.br (P := b = 0) (pc1 := 83) (pc2 := 68) (st1 := [(0, ((t9 : Nat) : Int)), (2, 65)]) rfl (fun h3 => ?_) (fun h3 => ?_)
          · skip
            refine qG.blk 2 (pc' := 87) (ls' := [(2, 64), (0, ((s9 : Nat) : Int)), (0, ((t9 : Nat) : Int)), (0, b)]) (st' := [(2, w 64 2), (0, ((t9 : Nat) : Int)), (2, 65)]) (w' := (qup w 65 s9 (qand (w 65 s9) (qxor (qshl 1 ((t9 : Nat) : Int)) (-1))))) (n' := 142) rfl ?_
            rw [show w 64 2 = 65 from zref hI rfl rfl]
            refine qG.blk 1 (pc' := 88) (ls' := [(2, 64), (0, ((s9 : Nat) : Int)), (0, ((t9 : Nat) : Int)), (0, b)]) (st' := [(0, ((t9 : Nat) : Int)), (2, 65), (0, ((t9 : Nat) : Int)), (2, 65)]) (w' := (qup w 65 s9 (qand (w 65 s9) (qxor (qshl 1 ((t9 : Nat) : Int)) (-1))))) (n' := 142) rfl ?_
            refine qG.ar (P := 0 ≤ ((t9 : Nat) : Int) ∧ ((t9 : Nat) : Int) < ((16 : Nat) : Int)) (P2 := 0 < (65 : Int) ∧ (65 : Int) ≤ ((142 : Nat) : Int)) (pc' := 89) (ls' := [(2, 64), (0, ((s9 : Nat) : Int)), (0, ((t9 : Nat) : Int)), (0, b)]) (st' := [(0, (qup w 65 s9 (qand (w 65 s9) (qxor (qshl 1 ((t9 : Nat) : Int)) (-1)))) 65 t9), (0, ((t9 : Nat) : Int)), (2, 65)]) (w' := (qup w 65 s9 (qand (w 65 s9) (qxor (qshl 1 ((t9 : Nat) : Int)) (-1))))) (n' := 142) rfl (by omega) (by decide) ?_
            refine qG.blk 4 (pc' := 93) (ls' := [(2, 64), (0, ((s9 : Nat) : Int)), (0, ((t9 : Nat) : Int)), (0, b)]) (st' := [(0, qor ((qup w 65 s9 (qand (w 65 s9) (qxor (qshl 1 ((t9 : Nat) : Int)) (-1)))) 65 t9) (qshl 1 ((s9 : Nat) : Int))), (0, ((t9 : Nat) : Int)), (2, 65)]) (w' := (qup w 65 s9 (qand (w 65 s9) (qxor (qshl 1 ((t9 : Nat) : Int)) (-1))))) (n' := 142) rfl ?_
            refine qG.ar (P := 0 ≤ ((t9 : Nat) : Int) ∧ ((t9 : Nat) : Int) < ((16 : Nat) : Int)) (P2 := 0 < (65 : Int) ∧ (65 : Int) ≤ ((142 : Nat) : Int)) (pc' := 94) (ls' := [(2, 64), (0, ((s9 : Nat) : Int)), (0, ((t9 : Nat) : Int)), (0, b)]) (st' := []) (w' := (qup (qup w 65 s9 (qand (w 65 s9) (qxor (qshl 1 ((t9 : Nat) : Int)) (-1)))) 65 t9 (qor ((qup w 65 s9 (qand (w 65 s9) (qxor (qshl 1 ((t9 : Nat) : Int)) (-1)))) 65 t9) (qshl 1 ((s9 : Nat) : Int))))) (n' := 142) rfl (by omega) (by decide) ?_
            refine qG.blk 5 (pc' := 101) (ls' := [(2, 64), (0, ((s9 : Nat) : Int)), (0, ((t9 : Nat) : Int)), (0, b)]) (st' := [(0, wrp ((w 64 1) + 1)), (2, 64)]) (w' := (qup (qup w 65 s9 (qand (w 65 s9) (qxor (qshl 1 ((t9 : Nat) : Int)) (-1)))) 65 t9 (qor ((qup w 65 s9 (qand (w 65 s9) (qxor (qshl 1 ((t9 : Nat) : Int)) (-1)))) 65 t9) (qshl 1 ((s9 : Nat) : Int))))) (n' := 142) rfl ?_
            refine qG.blk 2 (pc' := 105) (ls' := [(2, 64), (0, ((s9 : Nat) : Int)), (0, ((t9 : Nat) : Int)), (0, b)]) (st' := [(0, 1)]) (w' := (qup (qup (qup w 65 s9 (qand (w 65 s9) (qxor (qshl 1 ((t9 : Nat) : Int)) (-1)))) 65 t9 (qor ((qup w 65 s9 (qand (w 65 s9) (qxor (qshl 1 ((t9 : Nat) : Int)) (-1)))) 65 t9) (qshl 1 ((s9 : Nat) : Int)))) 64 1 (wrp ((w 64 1) + 1)))) (n' := 142) rfl ?_
            refine qG.ret rfl (by first | rfl | exact decide_eq_true (by omega)) ?_
            subst hQ9
            exact ⟨(by unfold pwV; first | (rw [if_pos hs0]; done) | (rw [if_neg hs0, if_pos ht0]; done) | (rw [if_neg hs0, if_neg ht0, Int.toNat_natCast, Int.toNat_natCast, if_neg (ite01.mp hnb)]; done) | (rw [if_neg hs0, if_neg ht0, Int.toNat_natCast, Int.toNat_natCast, if_pos (Decidable.of_not_not (fun z => hnb (ite01.mpr z)))]; done)), rfl⟩
          · skip
            refine qG.blk 2 (pc' := 72) (ls' := [(2, 64), (0, ((s9 : Nat) : Int)), (0, ((t9 : Nat) : Int)), (0, b)]) (st' := [(2, w 64 2), (0, ((t9 : Nat) : Int)), (2, 65)]) (w' := (qup w 65 s9 (qand (w 65 s9) (qxor (qshl 1 ((t9 : Nat) : Int)) (-1))))) (n' := 142) rfl ?_
            rw [show w 64 2 = 65 from zref hI rfl rfl]
            refine qG.blk 1 (pc' := 73) (ls' := [(2, 64), (0, ((s9 : Nat) : Int)), (0, ((t9 : Nat) : Int)), (0, b)]) (st' := [(0, ((t9 : Nat) : Int)), (2, 65), (0, ((t9 : Nat) : Int)), (2, 65)]) (w' := (qup w 65 s9 (qand (w 65 s9) (qxor (qshl 1 ((t9 : Nat) : Int)) (-1))))) (n' := 142) rfl ?_
            refine qG.ar (P := 0 ≤ ((t9 : Nat) : Int) ∧ ((t9 : Nat) : Int) < ((16 : Nat) : Int)) (P2 := 0 < (65 : Int) ∧ (65 : Int) ≤ ((142 : Nat) : Int)) (pc' := 74) (ls' := [(2, 64), (0, ((s9 : Nat) : Int)), (0, ((t9 : Nat) : Int)), (0, b)]) (st' := [(0, (qup w 65 s9 (qand (w 65 s9) (qxor (qshl 1 ((t9 : Nat) : Int)) (-1)))) 65 t9), (0, ((t9 : Nat) : Int)), (2, 65)]) (w' := (qup w 65 s9 (qand (w 65 s9) (qxor (qshl 1 ((t9 : Nat) : Int)) (-1))))) (n' := 142) rfl (by omega) (by decide) ?_
            refine qG.blk 7 (pc' := 93) (ls' := [(2, 64), (0, ((s9 : Nat) : Int)), (0, ((t9 : Nat) : Int)), (0, b)]) (st' := [(0, qand ((qup w 65 s9 (qand (w 65 s9) (qxor (qshl 1 ((t9 : Nat) : Int)) (-1)))) 65 t9) (qxor (qshl 1 ((s9 : Nat) : Int)) (-1))), (0, ((t9 : Nat) : Int)), (2, 65)]) (w' := (qup w 65 s9 (qand (w 65 s9) (qxor (qshl 1 ((t9 : Nat) : Int)) (-1))))) (n' := 142) rfl ?_
            refine qG.ar (P := 0 ≤ ((t9 : Nat) : Int) ∧ ((t9 : Nat) : Int) < ((16 : Nat) : Int)) (P2 := 0 < (65 : Int) ∧ (65 : Int) ≤ ((142 : Nat) : Int)) (pc' := 94) (ls' := [(2, 64), (0, ((s9 : Nat) : Int)), (0, ((t9 : Nat) : Int)), (0, b)]) (st' := []) (w' := (qup (qup w 65 s9 (qand (w 65 s9) (qxor (qshl 1 ((t9 : Nat) : Int)) (-1)))) 65 t9 (qand ((qup w 65 s9 (qand (w 65 s9) (qxor (qshl 1 ((t9 : Nat) : Int)) (-1)))) 65 t9) (qxor (qshl 1 ((s9 : Nat) : Int)) (-1))))) (n' := 142) rfl (by omega) (by decide) ?_
            refine qG.blk 5 (pc' := 101) (ls' := [(2, 64), (0, ((s9 : Nat) : Int)), (0, ((t9 : Nat) : Int)), (0, b)]) (st' := [(0, wrp ((w 64 1) + 1)), (2, 64)]) (w' := (qup (qup w 65 s9 (qand (w 65 s9) (qxor (qshl 1 ((t9 : Nat) : Int)) (-1)))) 65 t9 (qand ((qup w 65 s9 (qand (w 65 s9) (qxor (qshl 1 ((t9 : Nat) : Int)) (-1)))) 65 t9) (qxor (qshl 1 ((s9 : Nat) : Int)) (-1))))) (n' := 142) rfl ?_
            refine qG.blk 2 (pc' := 105) (ls' := [(2, 64), (0, ((s9 : Nat) : Int)), (0, ((t9 : Nat) : Int)), (0, b)]) (st' := [(0, 1)]) (w' := (qup (qup (qup w 65 s9 (qand (w 65 s9) (qxor (qshl 1 ((t9 : Nat) : Int)) (-1)))) 65 t9 (qand ((qup w 65 s9 (qand (w 65 s9) (qxor (qshl 1 ((t9 : Nat) : Int)) (-1)))) 65 t9) (qxor (qshl 1 ((s9 : Nat) : Int)) (-1)))) 64 1 (wrp ((w 64 1) + 1)))) (n' := 142) rfl ?_
            refine qG.ret rfl (by first | rfl | exact decide_eq_true (by omega)) ?_
            subst hQ9
            exact ⟨(by unfold pwV; first | (rw [if_pos hs0]; done) | (rw [if_neg hs0, if_pos ht0]; done) | (rw [if_neg hs0, if_neg ht0, Int.toNat_natCast, Int.toNat_natCast, if_neg (ite01.mp hnb)]; done) | (rw [if_neg hs0, if_neg ht0, Int.toNat_natCast, Int.toNat_natCast, if_pos (Decidable.of_not_not (fun z => hnb (ite01.mpr z)))]; done)), rfl⟩
theorem K_putWall69 {d : Nat} (hd : 2 ≤ d) (s t b : Int) (w : qW) (hI : yInv zgf zga zra zSp w) : qG none d 21 0 [(2, 69), (0, s), (0, t), (0, b)] [] w 142 (fun (r : qV) (_ : qW) (n1 : Nat) => r = (0, pwV s t) ∧ n1 = 142) := by
  generalize hQ9 : (fun (r : qV) (_ : qW) (n1 : Nat) => r = (0, pwV s t) ∧ n1 = 142) = Q9
  obtain ⟨d, rfl⟩ : ∃ d9, d = d9 + 1 := ⟨d - 1, by omega⟩
  refine qG.blk 1 (pc' := 1) (ls' := [(2, 69), (0, s), (0, t), (0, b)]) (st' := [(0, s)]) (w' := w) (n' := 142) rfl ?_
  refine qG.call (t := 19) (na := 1) (sk := 0) (md := 0) (ls1 := [(0, s)]) (r1 := []) rfl rfl rfl rfl rfl (K_X2_isSpace (Nat.zero_le _) _ _) ?_
  rintro _ w7 _ ⟨rfl, hw7, rfl⟩
  rw [hw7]
  show qG none (d + 1) 21 4 [(2, 69), (0, s), (0, t), (0, b)] [(0, isInV s 0 15)] w 142 Q9
  refine qG.br (P := isInV s 0 15 = 0) (pc1 := 22) (pc2 := 7) (st1 := []) rfl (fun hs0 => ?_) (fun hs0 => ?_)
  · skip
    refine qG.blk 1 (pc' := 23) (ls' := [(2, 69), (0, s), (0, t), (0, b)]) (st' := [(0, 0)]) (w' := w) (n' := 142) rfl ?_
    refine qG.ret rfl (by first | rfl | exact decide_eq_true (by omega)) ?_
    subst hQ9
    exact ⟨(by unfold pwV; first | (rw [if_pos hs0]; done) | (rw [if_neg hs0, if_pos ht0]; done) | (rw [if_neg hs0, if_neg ht0, Int.toNat_natCast, Int.toNat_natCast, if_neg (ite01.mp hnb)]; done) | (rw [if_neg hs0, if_neg ht0, Int.toNat_natCast, Int.toNat_natCast, if_pos (Decidable.of_not_not (fun z => hnb (ite01.mpr z)))]; done)), rfl⟩
  · skip
    obtain ⟨s9, rfl, hls9, hus9⟩ := isIn_n (by decide) hs0
    refine qG.blk 1 (pc' := 8) (ls' := [(2, 69), (0, ((s9 : Nat) : Int)), (0, t), (0, b)]) (st' := [(0, t)]) (w' := w) (n' := 142) rfl ?_
    refine qG.call (t := 19) (na := 1) (sk := 0) (md := 0) (ls1 := [(0, t)]) (r1 := []) rfl rfl rfl rfl rfl (K_X2_isSpace (Nat.zero_le _) _ _) ?_
    rintro _ w7 _ ⟨rfl, hw7, rfl⟩
    rw [hw7]
    show qG none (d + 1) 21 11 [(2, 69), (0, ((s9 : Nat) : Int)), (0, t), (0, b)] [(0, isInV t 0 15)] w 142 Q9
    refine qG.br (P := isInV t 0 15 = 0) (pc1 := 22) (pc2 := 14) (st1 := []) rfl (fun ht0 => ?_) (fun ht0 => ?_)
    · skip
      refine qG.blk 1 (pc' := 23) (ls' := [(2, 69), (0, ((s9 : Nat) : Int)), (0, t), (0, b)]) (st' := [(0, 0)]) (w' := w) (n' := 142) rfl ?_
      refine qG.ret rfl (by first | rfl | exact decide_eq_true (by omega)) ?_
      subst hQ9
      exact ⟨(by unfold pwV; first | (rw [if_pos hs0]; done) | (rw [if_neg hs0, if_pos ht0]; done) | (rw [if_neg hs0, if_neg ht0, Int.toNat_natCast, Int.toNat_natCast, if_neg (ite01.mp hnb)]; done) | (rw [if_neg hs0, if_neg ht0, Int.toNat_natCast, Int.toNat_natCast, if_pos (Decidable.of_not_not (fun z => hnb (ite01.mpr z)))]; done)), rfl⟩
    · skip
      obtain ⟨t9, rfl, hlt9, hut9⟩ := isIn_n (by decide) ht0
      refine qG.blk 2 (pc' := 16) (ls' := [(2, 69), (0, ((s9 : Nat) : Int)), (0, ((t9 : Nat) : Int)), (0, b)]) (st' := [(0, ((t9 : Nat) : Int)), (0, ((s9 : Nat) : Int))]) (w' := w) (n' := 142) rfl ?_
      refine qG.call (t := 18) (na := 2) (sk := 0) (md := 0) (ls1 := [(0, ((s9 : Nat) : Int)), (0, ((t9 : Nat) : Int)), (9, 0), (9, 0), (9, 0)]) (r1 := []) rfl rfl rfl rfl rfl (K_X2_areN (by omega) s9 t9 (by omega) (by omega) _ _) ?_
      rintro _ w7 _ ⟨rfl, hw7, rfl⟩
      rw [hw7]
      show qG none (d + 1) 21 19 [(2, 69), (0, ((s9 : Nat) : Int)), (0, ((t9 : Nat) : Int)), (0, b)] [(0, (if nbB s9 t9 = true then 1 else 0))] w 142 Q9
      refine qG.br (P := (if nbB s9 t9 = true then 1 else 0) = 0) (pc1 := 22) (pc2 := 24) (st1 := []) rfl (fun hnb => ?_) (fun hnb => ?_)
      · skip
        refine qG.blk 1 (pc' := 23) (ls' := [(2, 69), (0, ((s9 : Nat) : Int)), (0, ((t9 : Nat) : Int)), (0, b)]) (st' := [(0, 0)]) (w' := w) (n' := 142) rfl ?_
        refine qG.ret rfl (by first | rfl | exact decide_eq_true (by omega)) ?_
        subst hQ9
        exact ⟨(by unfold pwV; first | (rw [if_pos hs0]; done) | (rw [if_neg hs0, if_pos ht0]; done) | (rw [if_neg hs0, if_neg ht0, Int.toNat_natCast, Int.toNat_natCast, if_neg (ite01.mp hnb)]; done) | (rw [if_neg hs0, if_neg ht0, Int.toNat_natCast, Int.toNat_natCast, if_pos (Decidable.of_not_not (fun z => hnb (ite01.mpr z)))]; done)), rfl⟩
      · skip
        refine qG.blk 2 (pc' := 28) (ls' := [(2, 69), (0, ((s9 : Nat) : Int)), (0, ((t9 : Nat) : Int)), (0, b)]) (st' := [(2, w 69 2)]) (w' := w) (n' := 142) rfl ?_
        rw [show w 69 2 = 70 from zref hI rfl rfl]
        refine qG.blk 2 (pc' := 30) (ls' := [(2, 69), (0, ((s9 : Nat) : Int)), (0, ((t9 : Nat) : Int)), (0, b)]) (st' := [(0, b), (0, ((s9 : Nat) : Int)), (2, 70)]) (w' := w) (n' := 142) rfl ?_
        refine qG.br (P := b = 0) (pc1 := 48) (pc2 := 33) (st1 := [(0, ((s9 : Nat) : Int)), (2, 70)]) rfl (fun h1 => ?_) (fun h1 => ?_)
        · skip
          refine qG.blk 2 (pc' := 52) (ls' := [(2, 69), (0, ((s9 : Nat) : Int)), (0, ((t9 : Nat) : Int)), (0, b)]) (st' := [(2, w 69 2), (0, ((s9 : Nat) : Int)), (2, 70)]) (w' := w) (n' := 142) rfl ?_
          rw [show w 69 2 = 70 from zref hI rfl rfl]
          refine qG.blk 1 (pc' := 53) (ls' := [(2, 69), (0, ((s9 : Nat) : Int)), (0, ((t9 : Nat) : Int)), (0, b)]) (st' := [(0, ((s9 : Nat) : Int)), (2, 70), (0, ((s9 : Nat) : Int)), (2, 70)]) (w' := w) (n' := 142) rfl ?_
          refine qG.ar (P := 0 ≤ ((s9 : Nat) : Int) ∧ ((s9 : Nat) : Int) < ((16 : Nat) : Int)) (P2 := 0 < (70 : Int) ∧ (70 : Int) ≤ ((142 : Nat) : Int)) (pc' := 54) (ls' := [(2, 69), (0, ((s9 : Nat) : Int)), (0, ((t9 : Nat) : Int)), (0, b)]) (st' := [(0, w 70 s9), (0, ((s9 : Nat) : Int)), (2, 70)]) (w' := w) (n' := 142) rfl (by omega) (by decide) ?_
          refine qG.blk 4 (pc' := 58) (ls' := [(2, 69), (0, ((s9 : Nat) : Int)), (0, ((t9 : Nat) : Int)), (0, b)]) (st' := [(0, qor (w 70 s9) (qshl 1 ((t9 : Nat) : Int))), (0, ((s9 : Nat) : Int)), (2, 70)]) (w' := w) (n' := 142) rfl ?_
          refine qG.ar (P := 0 ≤ ((s9 : Nat) : Int) ∧ ((s9 : Nat) : Int) < ((16 : Nat) : Int)) (P2 := 0 < (70 : Int) ∧ (70 : Int) ≤ ((142 : Nat) : Int)) (pc' := 59) (ls' := [(2, 69), (0, ((s9 : Nat) : Int)), (0, ((t9 : Nat) : Int)), (0, b)]) (st' := []) (w' := (qup w 70 s9 (qor (w 70 s9) (qshl 1 ((t9 : Nat) : Int))))) (n' := 142) rfl (by omega) (by decide) ?_
          refine qG.blk 2 (pc' := 63) (ls' := [(2, 69), (0, ((s9 : Nat) : Int)), (0, ((t9 : Nat) : Int)), (0, b)]) (st' := [(2, w 69 2)]) (w' := (qup w 70 s9 (qor (w 70 s9) (qshl 1 ((t9 : Nat) : Int))))) (n' := 142) rfl ?_
          rw [show w 69 2 = 70 from zref hI rfl rfl]
          refine qG.blk 2 (pc' := 65) (ls' := [(2, 69), (0, ((s9 : Nat) : Int)), (0, ((t9 : Nat) : Int)), (0, b)]) (st' := [(0, b), (0, ((t9 : Nat) : Int)), (2, 70)]) (w' := (qup w 70 s9 (qor (w 70 s9) (qshl 1 ((t9 : Nat) : Int))))) (n' := 142) rfl ?_
          refine qG.br (P := b = 0) (pc1 := 83) (pc2 := 68) (st1 := [(0, ((t9 : Nat) : Int)), (2, 70)]) rfl (fun h2 => ?_) (fun h2 => ?_)
          · skip
            refine qG.blk 2 (pc' := 87) (ls' := [(2, 69), (0, ((s9 : Nat) : Int)), (0, ((t9 : Nat) : Int)), (0, b)]) (st' := [(2, w 69 2), (0, ((t9 : Nat) : Int)), (2, 70)]) (w' := (qup w 70 s9 (qor (w 70 s9) (qshl 1 ((t9 : Nat) : Int))))) (n' := 142) rfl ?_
            rw [show w 69 2 = 70 from zref hI rfl rfl]
            refine qG.blk 1 (pc' := 88) (ls' := [(2, 69), (0, ((s9 : Nat) : Int)), (0, ((t9 : Nat) : Int)), (0, b)]) (st' := [(0, ((t9 : Nat) : Int)), (2, 70), (0, ((t9 : Nat) : Int)), (2, 70)]) (w' := (qup w 70 s9 (qor (w 70 s9) (qshl 1 ((t9 : Nat) : Int))))) (n' := 142) rfl ?_
            refine qG.ar (P := 0 ≤ ((t9 : Nat) : Int) ∧ ((t9 : Nat) : Int) < ((16 : Nat) : Int)) (P2 := 0 < (70 : Int) ∧ (70 : Int) ≤ ((142 : Nat) : Int)) (pc' := 89) (ls' := [(2, 69), (0, ((s9 : Nat) : Int)), (0, ((t9 : Nat) : Int)), (0, b)]) (st' := [(0, (qup w 70 s9 (qor (w 70 s9) (qshl 1 ((t9 : Nat) : Int)))) 70 t9), (0, ((t9 : Nat) : Int)), (2, 70)]) (w' := (qup w 70 s9 (qor (w 70 s9) (qshl 1 ((t9 : Nat) : Int))))) (n' := 142) rfl (by omega) (by decide) ?_
            refine qG.blk 4 (pc' := 93) (ls' := [(2, 69), (0, ((s9 : Nat) : Int)), (0, ((t9 : Nat) : Int)), (0, b)]) (st' := [(0, qor ((qup w 70 s9 (qor (w 70 s9) (qshl 1 ((t9 : Nat) : Int)))) 70 t9) (qshl 1 ((s9 : Nat) : Int))), (0, ((t9 : Nat) : Int)), (2, 70)]) (w' := (qup w 70 s9 (qor (w 70 s9) (qshl 1 ((t9 : Nat) : Int))))) (n' := 142) rfl ?_
            refine qG.ar (P := 0 ≤ ((t9 : Nat) : Int) ∧ ((t9 : Nat) : Int) < ((16 : Nat) : Int)) (P2 := 0 < (70 : Int) ∧ (70 : Int) ≤ ((142 : Nat) : Int)) (pc' := 94) (ls' := [(2, 69), (0, ((s9 : Nat) : Int)), (0, ((t9 : Nat) : Int)), (0, b)]) (st' := []) (w' := (qup (qup w 70 s9 (qor (w 70 s9) (qshl 1 ((t9 : Nat) : Int)))) 70 t9 (qor ((qup w 70 s9 (qor (w 70 s9) (qshl 1 ((t9 : Nat) : Int)))) 70 t9) (qshl 1 ((s9 : Nat) : Int))))) (n' := 142) rfl (by omega) (by decide) ?_
            refine qG.blk 5 (pc' := 101) (ls' := [(2, 69), (0, ((s9 : Nat) : Int)), (0, ((t9 : Nat) : Int)), (0, b)]) (st' := [(0, wrp ((w 69 1) + 1)), (2, 69)]) (w' := (qup (qup w 70 s9 (qor (w 70 s9) (qshl 1 ((t9 : Nat) : Int)))) 70 t9 (qor ((qup w 70 s9 (qor (w 70 s9) (qshl 1 ((t9 : Nat) : Int)))) 70 t9) (qshl 1 ((s9 : Nat) : Int))))) (n' := 142) rfl ?_
            refine qG.blk 2 (pc' := 105) (ls' := [(2, 69), (0, ((s9 : Nat) : Int)), (0, ((t9 : Nat) : Int)), (0, b)]) (st' := [(0, 1)]) (w' := (qup (qup (qup w 70 s9 (qor (w 70 s9) (qshl 1 ((t9 : Nat) : Int)))) 70 t9 (qor ((qup w 70 s9 (qor (w 70 s9) (qshl 1 ((t9 : Nat) : Int)))) 70 t9) (qshl 1 ((s9 : Nat) : Int)))) 69 1 (wrp ((w 69 1) + 1)))) (n' := 142) rfl ?_
            refine qG.ret rfl (by first | rfl | exact decide_eq_true (by omega)) ?_
            subst hQ9
            exact ⟨(by unfold pwV; first | (rw [if_pos hs0]; done) | (rw [if_neg hs0, if_pos ht0]; done) | (rw [if_neg hs0, if_neg ht0, Int.toNat_natCast, Int.toNat_natCast, if_neg (ite01.mp hnb)]; done) | (rw [if_neg hs0, if_neg ht0, Int.toNat_natCast, Int.toNat_natCast, if_pos (Decidable.of_not_not (fun z => hnb (ite01.mpr z)))]; done)), rfl⟩
          · skip
            refine qG.blk 2 (pc' := 72) (ls' := [(2, 69), (0, ((s9 : Nat) : Int)), (0, ((t9 : Nat) : Int)), (0, b)]) (st' := [(2, w 69 2), (0, ((t9 : Nat) : Int)), (2, 70)]) (w' := (qup w 70 s9 (qor (w 70 s9) (qshl 1 ((t9 : Nat) : Int))))) (n' := 142) rfl ?_
            rw [show w 69 2 = 70 from zref hI rfl rfl]
            refine qG.blk 1 (pc' := 73) (ls' := [(2, 69), (0, ((s9 : Nat) : Int)), (0, ((t9 : Nat) : Int)), (0, b)]) (st' := [(0, ((t9 : Nat) : Int)), (2, 70), (0, ((t9 : Nat) : Int)), (2, 70)]) (w' := (qup w 70 s9 (qor (w 70 s9) (qshl 1 ((t9 : Nat) : Int))))) (n' := 142) rfl ?_
            refine qG.ar (P := 0 ≤ ((t9 : Nat) : Int) ∧ ((t9 : Nat) : Int) < ((16 : Nat) : Int)) (P2 := 0 < (70 : Int) ∧ (70 : Int) ≤ ((142 : Nat) : Int)) (pc' := 74) (ls' := [(2, 69), (0, ((s9 : Nat) : Int)), (0, ((t9 : Nat) : Int)), (0, b)]) (st' := [(0, (qup w 70 s9 (qor (w 70 s9) (qshl 1 ((t9 : Nat) : Int)))) 70 t9), (0, ((t9 : Nat) : Int)), (2, 70)]) (w' := (qup w 70 s9 (qor (w 70 s9) (qshl 1 ((t9 : Nat) : Int))))) (n' := 142) rfl (by omega) (by decide) ?_
            refine qG.blk 7 (pc' := 93) (ls' := [(2, 69), (0, ((s9 : Nat) : Int)), (0, ((t9 : Nat) : Int)), (0, b)]) (st' := [(0, qand ((qup w 70 s9 (qor (w 70 s9) (qshl 1 ((t9 : Nat) : Int)))) 70 t9) (qxor (qshl 1 ((s9 : Nat) : Int)) (-1))), (0, ((t9 : Nat) : Int)), (2, 70)]) (w' := (qup w 70 s9 (qor (w 70 s9) (qshl 1 ((t9 : Nat) : Int))))) (n' := 142) rfl ?_
            refine qG.ar (P := 0 ≤ ((t9 : Nat) : Int) ∧ ((t9 : Nat) : Int) < ((16 : Nat) : Int)) (P2 := 0 < (70 : Int) ∧ (70 : Int) ≤ ((142 : Nat) : Int)) (pc' := 94) (ls' := [(2, 69), (0, ((s9 : Nat) : Int)), (0, ((t9 : Nat) : Int)), (0, b)]) (st' := []) (w' := (qup (qup w 70 s9 (qor (w 70 s9) (qshl 1 ((t9 : Nat) : Int)))) 70 t9 (qand ((qup w 70 s9 (qor (w 70 s9) (qshl 1 ((t9 : Nat) : Int)))) 70 t9) (qxor (qshl 1 ((s9 : Nat) : Int)) (-1))))) (n' := 142) rfl (by omega) (by decide) ?_
            refine qG.blk 5 (pc' := 101) (ls' := [(2, 69), (0, ((s9 : Nat) : Int)), (0, ((t9 : Nat) : Int)), (0, b)]) (st' := [(0, wrp ((w 69 1) + 1)), (2, 69)]) (w' := (qup (qup w 70 s9 (qor (w 70 s9) (qshl 1 ((t9 : Nat) : Int)))) 70 t9 (qand ((qup w 70 s9 (qor (w 70 s9) (qshl 1 ((t9 : Nat) : Int)))) 70 t9) (qxor (qshl 1 ((s9 : Nat) : Int)) (-1))))) (n' := 142) rfl ?_
            refine qG.blk 2 (pc' := 105) (ls' := [(2, 69), (0, ((s9 : Nat) : Int)), (0, ((t9 : Nat) : Int)), (0, b)]) (st' := [(0, 1)]) (w' := (qup (qup (qup w 70 s9 (qor (w 70 s9) (qshl 1 ((t9 : Nat) : Int)))) 70 t9 (qand ((qup w 70 s9 (qor (w 70 s9) (qshl 1 ((t9 : Nat) : Int)))) 70 t9) (qxor (qshl 1 ((s9 : Nat) : Int)) (-1)))) 69 1 (wrp ((w 69 1) + 1)))) (n' := 142) rfl ?_
            refine qG.ret rfl (by first | rfl | exact decide_eq_true (by omega)) ?_
            subst hQ9
            exact ⟨(by unfold pwV; first | (rw [if_pos hs0]; done) | (rw [if_neg hs0, if_pos ht0]; done) | (rw [if_neg hs0, if_neg ht0, Int.toNat_natCast, Int.toNat_natCast, if_neg (ite01.mp hnb)]; done) | (rw [if_neg hs0, if_neg ht0, Int.toNat_natCast, Int.toNat_natCast, if_pos (Decidable.of_not_not (fun z => hnb (ite01.mpr z)))]; done)), rfl⟩
        · skip
          refine qG.blk 2 (pc' := 37) (ls' := [(2, 69), (0, ((s9 : Nat) : Int)), (0, ((t9 : Nat) : Int)), (0, b)]) (st' := [(2, w 69 2), (0, ((s9 : Nat) : Int)), (2, 70)]) (w' := w) (n' := 142) rfl ?_
          rw [show w 69 2 = 70 from zref hI rfl rfl]
          refine qG.blk 1 (pc' := 38) (ls' := [(2, 69), (0, ((s9 : Nat) : Int)), (0, ((t9 : Nat) : Int)), (0, b)]) (st' := [(0, ((s9 : Nat) : Int)), (2, 70), (0, ((s9 : Nat) : Int)), (2, 70)]) (w' := w) (n' := 142) rfl ?_
          refine qG.ar (P := 0 ≤ ((s9 : Nat) : Int) ∧ ((s9 : Nat) : Int) < ((16 : Nat) : Int)) (P2 := 0 < (70 : Int) ∧ (70 : Int) ≤ ((142 : Nat) : Int)) (pc' := 39) (ls' := [(2, 69), (0, ((s9 : Nat) : Int)), (0, ((t9 : Nat) : Int)), (0, b)]) (st' := [(0, w 70 s9), (0, ((s9 : Nat) : Int)), (2, 70)]) (w' := w) (n' := 142) rfl (by omega) (by decide) ?_
          refine qG.blk 7 (pc' := 58) (ls' := [(2, 69), (0, ((s9 : Nat) : Int)), (0, ((t9 : Nat) : Int)), (0, b)]) (st' := [(0, qand (w 70 s9) (qxor (qshl 1 ((t9 : Nat) : Int)) (-1))), (0, ((s9 : Nat) : Int)), (2, 70)]) (w' := w) (n' := 142) rfl ?_
          refine qG.ar (P := 0 ≤ ((s9 : Nat) : Int) ∧ ((s9 : Nat) : Int) < ((16 : Nat) : Int)) (P2 := 0 < (70 : Int) ∧ (70 : Int) ≤ ((142 : Nat) : Int)) (pc' := 59) (ls' := [(2, 69), (0, ((s9 : Nat) : Int)), (0, ((t9 : Nat) : Int)), (0, b)]) (st' := []) (w' := (qup w 70 s9 (qand (w 70 s9) (qxor (qshl 1 ((t9 : Nat) : Int)) (-1))))) (n' := 142) rfl (by omega) (by decide) ?_
          refine qG.blk 2 (pc' := 63) (ls' := [(2, 69), (0, ((s9 : Nat) : Int)), (0, ((t9 : Nat) : Int)), (0, b)]) (st' := [(2, w 69 2)]) (w' := (qup w 70 s9 (qand (w 70 s9) (qxor (qshl 1 ((t9 : Nat) : Int)) (-1))))) (n' := 142) rfl ?_
          rw [show w 69 2 = 70 from zref hI rfl rfl]
          refine qG.blk 2 (pc' := 65) (ls' := [(2, 69), (0, ((s9 : Nat) : Int)), (0, ((t9 : Nat) : Int)), (0, b)]) (st' := [(0, b), (0, ((t9 : Nat) : Int)), (2, 70)]) (w' := (qup w 70 s9 (qand (w 70 s9) (qxor (qshl 1 ((t9 : Nat) : Int)) (-1))))) (n' := 142) rfl ?_
          refine qG.br (P := b = 0) (pc1 := 83) (pc2 := 68) (st1 := [(0, ((t9 : Nat) : Int)), (2, 70)]) rfl (fun h3 => ?_) (fun h3 => ?_)
          · skip
            refine qG.blk 2 (pc' := 87) (ls' := [(2, 69), (0, ((s9 : Nat) : Int)), (0, ((t9 : Nat) : Int)), (0, b)]) (st' := [(2, w 69 2), (0, ((t9 : Nat) : Int)), (2, 70)]) (w' := (qup w 70 s9 (qand (w 70 s9) (qxor (qshl 1 ((t9 : Nat) : Int)) (-1))))) (n' := 142) rfl ?_
            rw [show w 69 2 = 70 from zref hI rfl rfl]
            refine qG.blk 1 (pc' := 88) (ls' := [(2, 69), (0, ((s9 : Nat) : Int)), (0, ((t9 : Nat) : Int)), (0, b)]) (st' := [(0, ((t9 : Nat) : Int)), (2, 70), (0, ((t9 : Nat) : Int)), (2, 70)]) (w' := (qup w 70 s9 (qand (w 70 s9) (qxor (qshl 1 ((t9 : Nat) : Int)) (-1))))) (n' := 142) rfl ?_
            refine qG.ar (P := 0 ≤ ((t9 : Nat) : Int) ∧ ((t9 : Nat) : Int) < ((16 : Nat) : Int)) (P2 := 0 < (70 : Int) ∧ (70 : Int) ≤ ((142 : Nat) : Int)) (pc' := 89) (ls' := [(2, 69), (0, ((s9 : Nat) : Int)), (0, ((t9 : Nat) : Int)), (0, b)]) (st' := [(0, (qup w 70 s9 (qand (w 70 s9) (qxor (qshl 1 ((t9 : Nat) : Int)) (-1)))) 70 t9), (0, ((t9 : Nat) : Int)), (2, 70)]) (w' := (qup w 70 s9 (qand (w 70 s9) (qxor (qshl 1 ((t9 : Nat) : Int)) (-1))))) (n' := 142) rfl (by omega) (by decide) ?_
            refine qG.blk 4 (pc' := 93) (ls' := [(2, 69), (0, ((s9 : Nat) : Int)), (0, ((t9 : Nat) : Int)), (0, b)]) (st' := [(0, qor ((qup w 70 s9 (qand (w 70 s9) (qxor (qshl 1 ((t9 : Nat) : Int)) (-1)))) 70 t9) (qshl 1 ((s9 : Nat) : Int))), (0, ((t9 : Nat) : Int)), (2, 70)]) (w' := (qup w 70 s9 (qand (w 70 s9) (qxor (qshl 1 ((t9 : Nat) : Int)) (-1))))) (n' := 142) rfl ?_
            refine qG.ar (P := 0 ≤ ((t9 : Nat) : Int) ∧ ((t9 : Nat) : Int) < ((16 : Nat) : Int)) (P2 := 0 < (70 : Int) ∧ (70 : Int) ≤ ((142 : Nat) : Int)) (pc' := 94) (ls' := [(2, 69), (0, ((s9 : Nat) : Int)), (0, ((t9 : Nat) : Int)), (0, b)]) (st' := []) (w' := (qup (qup w 70 s9 (qand (w 70 s9) (qxor (qshl 1 ((t9 : Nat) : Int)) (-1)))) 70 t9 (qor ((qup w 70 s9 (qand (w 70 s9) (qxor (qshl 1 ((t9 : Nat) : Int)) (-1)))) 70 t9) (qshl 1 ((s9 : Nat) : Int))))) (n' := 142) rfl (by omega) (by decide) ?_
            refine qG.blk 5 (pc' := 101) (ls' := [(2, 69), (0, ((s9 : Nat) : Int)), (0, ((t9 : Nat) : Int)), (0, b)]) (st' := [(0, wrp ((w 69 1) + 1)), (2, 69)]) (w' := (qup (qup w 70 s9 (qand (w 70 s9) (qxor (qshl 1 ((t9 : Nat) : Int)) (-1)))) 70 t9 (qor ((qup w 70 s9 (qand (w 70 s9) (qxor (qshl 1 ((t9 : Nat) : Int)) (-1)))) 70 t9) (qshl 1 ((s9 : Nat) : Int))))) (n' := 142) rfl ?_
            refine qG.blk 2 (pc' := 105) (ls' := [(2, 69), (0, ((s9 : Nat) : Int)), (0, ((t9 : Nat) : Int)), (0, b)]) (st' := [(0, 1)]) (w' := (qup (qup (qup w 70 s9 (qand (w 70 s9) (qxor (qshl 1 ((t9 : Nat) : Int)) (-1)))) 70 t9 (qor ((qup w 70 s9 (qand (w 70 s9) (qxor (qshl 1 ((t9 : Nat) : Int)) (-1)))) 70 t9) (qshl 1 ((s9 : Nat) : Int)))) 69 1 (wrp ((w 69 1) + 1)))) (n' := 142) rfl ?_
            refine qG.ret rfl (by first | rfl | exact decide_eq_true (by omega)) ?_
            subst hQ9
            exact ⟨(by unfold pwV; first | (rw [if_pos hs0]; done) | (rw [if_neg hs0, if_pos ht0]; done) | (rw [if_neg hs0, if_neg ht0, Int.toNat_natCast, Int.toNat_natCast, if_neg (ite01.mp hnb)]; done) | (rw [if_neg hs0, if_neg ht0, Int.toNat_natCast, Int.toNat_natCast, if_pos (Decidable.of_not_not (fun z => hnb (ite01.mpr z)))]; done)), rfl⟩
          · skip
            refine qG.blk 2 (pc' := 72) (ls' := [(2, 69), (0, ((s9 : Nat) : Int)), (0, ((t9 : Nat) : Int)), (0, b)]) (st' := [(2, w 69 2), (0, ((t9 : Nat) : Int)), (2, 70)]) (w' := (qup w 70 s9 (qand (w 70 s9) (qxor (qshl 1 ((t9 : Nat) : Int)) (-1))))) (n' := 142) rfl ?_
            rw [show w 69 2 = 70 from zref hI rfl rfl]
            refine qG.blk 1 (pc' := 73) (ls' := [(2, 69), (0, ((s9 : Nat) : Int)), (0, ((t9 : Nat) : Int)), (0, b)]) (st' := [(0, ((t9 : Nat) : Int)), (2, 70), (0, ((t9 : Nat) : Int)), (2, 70)]) (w' := (qup w 70 s9 (qand (w 70 s9) (qxor (qshl 1 ((t9 : Nat) : Int)) (-1))))) (n' := 142) rfl ?_
            refine qG.ar (P := 0 ≤ ((t9 : Nat) : Int) ∧ ((t9 : Nat) : Int) < ((16 : Nat) : Int)) (P2 := 0 < (70 : Int) ∧ (70 : Int) ≤ ((142 : Nat) : Int)) (pc' := 74) (ls' := [(2, 69), (0, ((s9 : Nat) : Int)), (0, ((t9 : Nat) : Int)), (0, b)]) (st' := [(0, (qup w 70 s9 (qand (w 70 s9) (qxor (qshl 1 ((t9 : Nat) : Int)) (-1)))) 70 t9), (0, ((t9 : Nat) : Int)), (2, 70)]) (w' := (qup w 70 s9 (qand (w 70 s9) (qxor (qshl 1 ((t9 : Nat) : Int)) (-1))))) (n' := 142) rfl (by omega) (by decide) ?_
            refine qG.blk 7 (pc' := 93) (ls' := [(2, 69), (0, ((s9 : Nat) : Int)), (0, ((t9 : Nat) : Int)), (0, b)]) (st' := [(0, qand ((qup w 70 s9 (qand (w 70 s9) (qxor (qshl 1 ((t9 : Nat) : Int)) (-1)))) 70 t9) (qxor (qshl 1 ((s9 : Nat) : Int)) (-1))), (0, ((t9 : Nat) : Int)), (2, 70)]) (w' := (qup w 70 s9 (qand (w 70 s9) (qxor (qshl 1 ((t9 : Nat) : Int)) (-1))))) (n' := 142) rfl ?_
            refine qG.ar (P := 0 ≤ ((t9 : Nat) : Int) ∧ ((t9 : Nat) : Int) < ((16 : Nat) : Int)) (P2 := 0 < (70 : Int) ∧ (70 : Int) ≤ ((142 : Nat) : Int)) (pc' := 94) (ls' := [(2, 69), (0, ((s9 : Nat) : Int)), (0, ((t9 : Nat) : Int)), (0, b)]) (st' := []) (w' := (qup (qup w 70 s9 (qand (w 70 s9) (qxor (qshl 1 ((t9 : Nat) : Int)) (-1)))) 70 t9 (qand ((qup w 70 s9 (qand (w 70 s9) (qxor (qshl 1 ((t9 : Nat) : Int)) (-1)))) 70 t9) (qxor (qshl 1 ((s9 : Nat) : Int)) (-1))))) (n' := 142) rfl (by omega) (by decide) ?_
            refine qG.blk 5 (pc' := 101) (ls' := [(2, 69), (0, ((s9 : Nat) : Int)), (0, ((t9 : Nat) : Int)), (0, b)]) (st' := [(0, wrp ((w 69 1) + 1)), (2, 69)]) (w' := (qup (qup w 70 s9 (qand (w 70 s9) (qxor (qshl 1 ((t9 : Nat) : Int)) (-1)))) 70 t9 (qand ((qup w 70 s9 (qand (w 70 s9) (qxor (qshl 1 ((t9 : Nat) : Int)) (-1)))) 70 t9) (qxor (qshl 1 ((s9 : Nat) : Int)) (-1))))) (n' := 142) rfl ?_
            refine qG.blk 2 (pc' := 105) (ls' := [(2, 69), (0, ((s9 : Nat) : Int)), (0, ((t9 : Nat) : Int)), (0, b)]) (st' := [(0, 1)]) (w' := (qup (qup (qup w 70 s9 (qand (w 70 s9) (qxor (qshl 1 ((t9 : Nat) : Int)) (-1)))) 70 t9 (qand ((qup w 70 s9 (qand (w 70 s9) (qxor (qshl 1 ((t9 : Nat) : Int)) (-1)))) 70 t9) (qxor (qshl 1 ((s9 : Nat) : Int)) (-1)))) 69 1 (wrp ((w 69 1) + 1)))) (n' := 142) rfl ?_
            refine qG.ret rfl (by first | rfl | exact decide_eq_true (by omega)) ?_
            subst hQ9
            exact ⟨(by unfold pwV; first | (rw [if_pos hs0]; done) | (rw [if_neg hs0, if_pos ht0]; done) | (rw [if_neg hs0, if_neg ht0, Int.toNat_natCast, Int.toNat_natCast, if_neg (ite01.mp hnb)]; done) | (rw [if_neg hs0, if_neg ht0, Int.toNat_natCast, Int.toNat_natCast, if_pos (Decidable.of_not_not (fun z => hnb (ite01.mpr z)))]; done)), rfl⟩
theorem K_putWall74 {d : Nat} (hd : 2 ≤ d) (s t b : Int) (w : qW) (hI : yInv zgf zga zra zSp w) : qG none d 21 0 [(2, 74), (0, s), (0, t), (0, b)] [] w 142 (fun (r : qV) (_ : qW) (n1 : Nat) => r = (0, pwV s t) ∧ n1 = 142) := by
  generalize hQ9 : (fun (r : qV) (_ : qW) (n1 : Nat) => r = (0, pwV s t) ∧ n1 = 142) = Q9
  obtain ⟨d, rfl⟩ : ∃ d9, d = d9 + 1 := ⟨d - 1, by omega⟩
  refine qG.blk 1 (pc' := 1) (ls' := [(2, 74), (0, s), (0, t), (0, b)]) (st' := [(0, s)]) (w' := w) (n' := 142) rfl ?_
  refine qG.call (t := 19) (na := 1) (sk := 0) (md := 0) (ls1 := [(0, s)]) (r1 := []) rfl rfl rfl rfl rfl (K_X2_isSpace (Nat.zero_le _) _ _) ?_
  rintro _ w7 _ ⟨rfl, hw7, rfl⟩
  rw [hw7]
  show qG none (d + 1) 21 4 [(2, 74), (0, s), (0, t), (0, b)] [(0, isInV s 0 15)] w 142 Q9
  refine qG.br (P := isInV s 0 15 = 0) (pc1 := 22) (pc2 := 7) (st1 := []) rfl (fun hs0 => ?_) (fun hs0 => ?_)
  · skip
    refine qG.blk 1 (pc' := 23) (ls' := [(2, 74), (0, s), (0, t), (0, b)]) (st' := [(0, 0)]) (w' := w) (n' := 142) rfl ?_
    refine qG.ret rfl (by first | rfl | exact decide_eq_true (by omega)) ?_
    subst hQ9
    exact ⟨(by unfold pwV; first | (rw [if_pos hs0]; done) | (rw [if_neg hs0, if_pos ht0]; done) | (rw [if_neg hs0, if_neg ht0, Int.toNat_natCast, Int.toNat_natCast, if_neg (ite01.mp hnb)]; done) | (rw [if_neg hs0, if_neg ht0, Int.toNat_natCast, Int.toNat_natCast, if_pos (Decidable.of_not_not (fun z => hnb (ite01.mpr z)))]; done)), rfl⟩
  · skip
    obtain ⟨s9, rfl, hls9, hus9⟩ := isIn_n (by decide) hs0
    refine qG.blk 1 (pc' := 8) (ls' := [(2, 74), (0, ((s9 : Nat) : Int)), (0, t), (0, b)]) (st' := [(0, t)]) (w' := w) (n' := 142) rfl ?_
    refine qG.call (t := 19) (na := 1) (sk := 0) (md := 0) (ls1 := [(0, t)]) (r1 := []) rfl rfl rfl rfl rfl (K_X2_isSpace (Nat.zero_le _) _ _) ?_
    rintro _ w7 _ ⟨rfl, hw7, rfl⟩
    rw [hw7]
    show qG none (d + 1) 21 11 [(2, 74), (0, ((s9 : Nat) : Int)), (0, t), (0, b)] [(0, isInV t 0 15)] w 142 Q9
    refine qG.br (P := isInV t 0 15 = 0) (pc1 := 22) (pc2 := 14) (st1 := []) rfl (fun ht0 => ?_) (fun ht0 => ?_)
    · skip
      refine qG.blk 1 (pc' := 23) (ls' := [(2, 74), (0, ((s9 : Nat) : Int)), (0, t), (0, b)]) (st' := [(0, 0)]) (w' := w) (n' := 142) rfl ?_
      refine qG.ret rfl (by first | rfl | exact decide_eq_true (by omega)) ?_
      subst hQ9
      exact ⟨(by unfold pwV; first | (rw [if_pos hs0]; done) | (rw [if_neg hs0, if_pos ht0]; done) | (rw [if_neg hs0, if_neg ht0, Int.toNat_natCast, Int.toNat_natCast, if_neg (ite01.mp hnb)]; done) | (rw [if_neg hs0, if_neg ht0, Int.toNat_natCast, Int.toNat_natCast, if_pos (Decidable.of_not_not (fun z => hnb (ite01.mpr z)))]; done)), rfl⟩
    · skip
      obtain ⟨t9, rfl, hlt9, hut9⟩ := isIn_n (by decide) ht0
      refine qG.blk 2 (pc' := 16) (ls' := [(2, 74), (0, ((s9 : Nat) : Int)), (0, ((t9 : Nat) : Int)), (0, b)]) (st' := [(0, ((t9 : Nat) : Int)), (0, ((s9 : Nat) : Int))]) (w' := w) (n' := 142) rfl ?_
      refine qG.call (t := 18) (na := 2) (sk := 0) (md := 0) (ls1 := [(0, ((s9 : Nat) : Int)), (0, ((t9 : Nat) : Int)), (9, 0), (9, 0), (9, 0)]) (r1 := []) rfl rfl rfl rfl rfl (K_X2_areN (by omega) s9 t9 (by omega) (by omega) _ _) ?_
      rintro _ w7 _ ⟨rfl, hw7, rfl⟩
      rw [hw7]
      show qG none (d + 1) 21 19 [(2, 74), (0, ((s9 : Nat) : Int)), (0, ((t9 : Nat) : Int)), (0, b)] [(0, (if nbB s9 t9 = true then 1 else 0))] w 142 Q9
      refine qG.br (P := (if nbB s9 t9 = true then 1 else 0) = 0) (pc1 := 22) (pc2 := 24) (st1 := []) rfl (fun hnb => ?_) (fun hnb => ?_)
      · skip
        refine qG.blk 1 (pc' := 23) (ls' := [(2, 74), (0, ((s9 : Nat) : Int)), (0, ((t9 : Nat) : Int)), (0, b)]) (st' := [(0, 0)]) (w' := w) (n' := 142) rfl ?_
        refine qG.ret rfl (by first | rfl | exact decide_eq_true (by omega)) ?_
        subst hQ9
        exact ⟨(by unfold pwV; first | (rw [if_pos hs0]; done) | (rw [if_neg hs0, if_pos ht0]; done) | (rw [if_neg hs0, if_neg ht0, Int.toNat_natCast, Int.toNat_natCast, if_neg (ite01.mp hnb)]; done) | (rw [if_neg hs0, if_neg ht0, Int.toNat_natCast, Int.toNat_natCast, if_pos (Decidable.of_not_not (fun z => hnb (ite01.mpr z)))]; done)), rfl⟩
      · skip
        refine qG.blk 2 (pc' := 28) (ls' := [(2, 74), (0, ((s9 : Nat) : Int)), (0, ((t9 : Nat) : Int)), (0, b)]) (st' := [(2, w 74 2)]) (w' := w) (n' := 142) rfl ?_
        rw [show w 74 2 = 75 from zref hI rfl rfl]
        refine qG.blk 2 (pc' := 30) (ls' := [(2, 74), (0, ((s9 : Nat) : Int)), (0, ((t9 : Nat) : Int)), (0, b)]) (st' := [(0, b), (0, ((s9 : Nat) : Int)), (2, 75)]) (w' := w) (n' := 142) rfl ?_
        refine qG.br (P := b = 0) (pc1 := 48) (pc2 := 33) (st1 := [(0, ((s9 : Nat) : Int)), (2, 75)]) rfl (fun h1 => ?_) (fun h1 => ?_)
        · skip
          refine qG.blk 2 (pc' := 52) (ls' := [(2, 74), (0, ((s9 : Nat) : Int)), (0, ((t9 : Nat) : Int)), (0, b)]) (st' := [(2, w 74 2), (0, ((s9 : Nat) : Int)), (2, 75)]) (w' := w) (n' := 142) rfl ?_
          rw [show w 74 2 = 75 from zref hI rfl rfl]
          refine qG.blk 1 (pc' := 53) (ls' := [(2, 74), (0, ((s9 : Nat) : Int)), (0, ((t9 : Nat) : Int)), (0, b)]) (st' := [(0, ((s9 : Nat) : Int)), (2, 75), (0, ((s9 : Nat) : Int)), (2, 75)]) (w' := w) (n' := 142) rfl ?_
          refine qG.ar (P := 0 ≤ ((s9 : Nat) : Int) ∧ ((s9 : Nat) : Int) < ((16 : Nat) : Int)) (P2 := 0 < (75 : Int) ∧ (75 : Int) ≤ ((142 : Nat) : Int)) (pc' := 54) (ls' := [(2, 74), (0, ((s9 : Nat) : Int)), (0, ((t9 : Nat) : Int)), (0, b)]) (st' := [(0, w 75 s9), (0, ((s9 : Nat) : Int)), (2, 75)]) (w' := w) (n' := 142) rfl (by omega) (by decide) ?_
          refine qG.blk 4 (pc' := 58) (ls' := [(2, 74), (0, ((s9 : Nat) : Int)), (0, ((t9 : Nat) : Int)), (0, b)]) (st' := [(0, qor (w 75 s9) (qshl 1 ((t9 : Nat) : Int))), (0, ((s9 : Nat) : Int)), (2, 75)]) (w' := w) (n' := 142) rfl ?_
          refine qG.ar (P := 0 ≤ ((s9 : Nat) : Int) ∧ ((s9 : Nat) : Int) < ((16 : Nat) : Int)) (P2 := 0 < (75 : Int) ∧ (75 : Int) ≤ ((142 : Nat) : Int)) (pc' := 59) (ls' := [(2, 74), (0, ((s9 : Nat) : Int)), (0, ((t9 : Nat) : Int)), (0, b)]) (st' := []) (w' := (qup w 75 s9 (qor (w 75 s9) (qshl 1 ((t9 : Nat) : Int))))) (n' := 142) rfl (by omega) (by decide) ?_
          refine qG.blk 2 (pc' := 63) (ls' := [(2, 74), (0, ((s9 : Nat) : Int)), (0, ((t9 : Nat) : Int)), (0, b)]) (st' := [(2, w 74 2)]) (w' := (qup w 75 s9 (qor (w 75 s9) (qshl 1 ((t9 : Nat) : Int))))) (n' := 142) rfl ?_
          rw [show w 74 2 = 75 from zref hI rfl rfl]
          refine qG.blk 2 (pc' := 65) (ls' := [(2, 74), (0, ((s9 : Nat) : Int)), (0, ((t9 : Nat) : Int)), (0, b)]) (st' := [(0, b), (0, ((t9 : Nat) : Int)), (2, 75)]) (w' := (qup w 75 s9 (qor (w 75 s9) (qshl 1 ((t9 : Nat) : Int))))) (n' := 142) rfl ?_
          refine qG.br (P := b = 0) (pc1 := 83) (pc2 := 68) (st1 := [(0, ((t9 : Nat) : Int)), (2, 75)]) rfl (fun h2 => ?_) (fun h2 => ?_)
          · skip
            refine qG.blk 2 (pc' := 87) (ls' := [(2, 74), (0, ((s9 : Nat) : Int)), (0, ((t9 : Nat) : Int)), (0, b)]) (st' := [(2, w 74 2), (0, ((t9 : Nat) : Int)), (2, 75)]) (w' := (qup w 75 s9 (qor (w 75 s9) (qshl 1 ((t9 : Nat) : Int))))) (n' := 142) rfl ?_
            rw [show w 74 2 = 75 from zref hI rfl rfl]
            refine qG.blk 1 (pc' := 88) (ls' := [(2, 74), (0, ((s9 : Nat) : Int)), (0, ((t9 : Nat) : Int)), (0, b)]) (st' := [(0, ((t9 : Nat) : Int)), (2, 75), (0, ((t9 : Nat) : Int)), (2, 75)]) (w' := (qup w 75 s9 (qor (w 75 s9) (qshl 1 ((t9 : Nat) : Int))))) (n' := 142) rfl ?_
            refine qG.ar (P := 0 ≤ ((t9 : Nat) : Int) ∧ ((t9 : Nat) : Int) < ((16 : Nat) : Int)) (P2 := 0 < (75 : Int) ∧ (75 : Int) ≤ ((142 : Nat) : Int)) (pc' := 89) (ls' := [(2, 74), (0, ((s9 : Nat) : Int)), (0, ((t9 : Nat) : Int)), (0, b)]) (st' := [(0, (qup w 75 s9 (qor (w 75 s9) (qshl 1 ((t9 : Nat) : Int)))) 75 t9), (0, ((t9 : Nat) : Int)), (2, 75)]) (w' := (qup w 75 s9 (qor (w 75 s9) (qshl 1 ((t9 : Nat) : Int))))) (n' := 142) rfl (by omega) (by decide) ?_
            refine qG.blk 4 (pc' := 93) (ls' := [(2, 74), (0, ((s9 : Nat) : Int)), (0, ((t9 : Nat) : Int)), (0, b)]) (st' := [(0, qor ((qup w 75 s9 (qor (w 75 s9) (qshl 1 ((t9 : Nat) : Int)))) 75 t9) (qshl 1 ((s9 : Nat) : Int))), (0, ((t9 : Nat) : Int)), (2, 75)]) (w' := (qup w 75 s9 (qor (w 75 s9) (qshl 1 ((t9 : Nat) : Int))))) (n' := 142) rfl ?_
            refine qG.ar (P := 0 ≤ ((t9 : Nat) : Int) ∧ ((t9 : Nat) : Int) < ((16 : Nat) : Int)) (P2 := 0 < (75 : Int) ∧ (75 : Int) ≤ ((142 : Nat) : Int)) (pc' := 94) (ls' := [(2, 74), (0, ((s9 : Nat) : Int)), (0, ((t9 : Nat) : Int)), (0, b)]) (st' := []) (w' := (qup (qup w 75 s9 (qor (w 75 s9) (qshl 1 ((t9 : Nat) : Int)))) 75 t9 (qor ((qup w 75 s9 (qor (w 75 s9) (qshl 1 ((t9 : Nat) : Int)))) 75 t9) (qshl 1 ((s9 : Nat) : Int))))) (n' := 142) rfl (by omega) (by decide) ?_
            refine qG.blk 5 (pc' := 101) (ls' := [(2, 74), (0, ((s9 : Nat) : Int)), (0, ((t9 : Nat) : Int)), (0, b)]) (st' := [(0, wrp ((w 74 1) + 1)), (2, 74)]) (w' := (qup (qup w 75 s9 (qor (w 75 s9) (qshl 1 ((t9 : Nat) : Int)))) 75 t9 (qor ((qup w 75 s9 (qor (w 75 s9) (qshl 1 ((t9 : Nat) : Int)))) 75 t9) (qshl 1 ((s9 : Nat) : Int))))) (n' := 142) rfl ?_
            refine qG.blk 2 (pc' := 105) (ls' := [(2, 74), (0, ((s9 : Nat) : Int)), (0, ((t9 : Nat) : Int)), (0, b)]) (st' := [(0, 1)]) (w' := (qup (qup (qup w 75 s9 (qor (w 75 s9) (qshl 1 ((t9 : Nat) : Int)))) 75 t9 (qor ((qup w 75 s9 (qor (w 75 s9) (qshl 1 ((t9 : Nat) : Int)))) 75 t9) (qshl 1 ((s9 : Nat) : Int)))) 74 1 (wrp ((w 74 1) + 1)))) (n' := 142) rfl ?_
            refine qG.ret rfl (by first | rfl | exact decide_eq_true (by omega)) ?_
            subst hQ9
            exact ⟨(by unfold pwV; first | (rw [if_pos hs0]; done) | (rw [if_neg hs0, if_pos ht0]; done) | (rw [if_neg hs0, if_neg ht0, Int.toNat_natCast, Int.toNat_natCast, if_neg (ite01.mp hnb)]; done) | (rw [if_neg hs0, if_neg ht0, Int.toNat_natCast, Int.toNat_natCast, if_pos (Decidable.of_not_not (fun z => hnb (ite01.mpr z)))]; done)), rfl⟩
          · skip
            refine qG.blk 2 (pc' := 72) (ls' := [(2, 74), (0, ((s9 : Nat) : Int)), (0, ((t9 : Nat) : Int)), (0, b)]) (st' := [(2, w 74 2), (0, ((t9 : Nat) : Int)), (2, 75)]) (w' := (qup w 75 s9 (qor (w 75 s9) (qshl 1 ((t9 : Nat) : Int))))) (n' := 142) rfl ?_
            rw [show w 74 2 = 75 from zref hI rfl rfl]
            refine qG.blk 1 (pc' := 73) (ls' := [(2, 74), (0, ((s9 : Nat) : Int)), (0, ((t9 : Nat) : Int)), (0, b)]) (st' := [(0, ((t9 : Nat) : Int)), (2, 75), (0, ((t9 : Nat) : Int)), (2, 75)]) (w' := (qup w 75 s9 (qor (w 75 s9) (qshl 1 ((t9 : Nat) : Int))))) (n' := 142) rfl ?_
            refine qG.ar (P := 0 ≤ ((t9 : Nat) : Int) ∧ ((t9 : Nat) : Int) < ((16 : Nat) : Int)) (P2 := 0 < (75 : Int) ∧ (75 : Int) ≤ ((142 : Nat) : Int)) (pc' := 74) (ls' := [(2, 74), (0, ((s9 : Nat) : Int)), (0, ((t9 : Nat) : Int)), (0, b)]) (st' := [(0, (qup w 75 s9 (qor (w 75 s9) (qshl 1 ((t9 : Nat) : Int)))) 75 t9), (0, ((t9 : Nat) : Int)), (2, 75)]) (w' := (qup w 75 s9 (qor (w 75 s9) (qshl 1 ((t9 : Nat) : Int))))) (n' := 142) rfl (by omega) (by decide) ?_
            refine qG.blk 7 (pc' := 93) (ls' := [(2, 74), (0, ((s9 : Nat) : Int)), (0, ((t9 : Nat) : Int)), (0, b)]) (st' := [(0, qand ((qup w 75 s9 (qor (w 75 s9) (qshl 1 ((t9 : Nat) : Int)))) 75 t9) (qxor (qshl 1 ((s9 : Nat) : Int)) (-1))), (0, ((t9 : Nat) : Int)), (2, 75)]) (w' := (qup w 75 s9 (qor (w 75 s9) (qshl 1 ((t9 : Nat) : Int))))) (n' := 142) rfl ?_
            refine qG.ar (P := 0 ≤ ((t9 : Nat) : Int) ∧ ((t9 : Nat) : Int) < ((16 : Nat) : Int)) (P2 := 0 < (75 : Int) ∧ (75 : Int) ≤ ((142 : Nat) : Int)) (pc' := 94) (ls' := [(2, 74), (0, ((s9 : Nat) : Int)), (0, ((t9 : Nat) : Int)), (0, b)]) (st' := []) (w' := (qup (qup w 75 s9 (qor (w 75 s9) (qshl 1 ((t9 : Nat) : Int)))) 75 t9 (qand ((qup w 75 s9 (qor (w 75 s9) (qshl 1 ((t9 : Nat) : Int)))) 75 t9) (qxor (qshl 1 ((s9 : Nat) : Int)) (-1))))) (n' := 142) rfl (by omega) (by decide) ?_
            refine qG.blk 5 (pc' := 101) (ls' := [(2, 74), (0, ((s9 : Nat) : Int)), (0, ((t9 : Nat) : Int)), (0, b)]) (st' := [(0, wrp ((w 74 1) + 1)), (2, 74)]) (w' := (qup (qup w 75 s9 (qor (w 75 s9) (qshl 1 ((t9 : Nat) : Int)))) 75 t9 (qand ((qup w 75 s9 (qor (w 75 s9) (qshl 1 ((t9 : Nat) : Int)))) 75 t9) (qxor (qshl 1 ((s9 : Nat) : Int)) (-1))))) (n' := 142) rfl ?_
            refine qG.blk 2 (pc' := 105) (ls' := [(2, 74), (0, ((s9 : Nat) : Int)), (0, ((t9 : Nat) : Int)), (0, b)]) (st' := [(0, 1)]) (w' := (qup (qup (qup w 75 s9 (qor (w 75 s9) (qshl 1 ((t9 : Nat) : Int)))) 75 t9 (qand ((qup w 75 s9 (qor (w 75 s9) (qshl 1 ((t9 : Nat) : Int)))) 75 t9) (qxor (qshl 1 ((s9 : Nat) : Int)) (-1)))) 74 1 (wrp ((w 74 1) + 1)))) (n' := 142) rfl ?_
            refine qG.ret rfl (by first | rfl | exact decide_eq_true (by omega)) ?_
            subst hQ9
            exact ⟨(by unfold pwV; first | (rw [if_pos hs0]; done) | (rw [if_neg hs0, if_pos ht0]; done) | (rw [if_neg hs0, if_neg ht0, Int.toNat_natCast, Int.toNat_natCast, if_neg (ite01.mp hnb)]; done) | (rw [if_neg hs0, if_neg ht0, Int.toNat_natCast, Int.toNat_natCast, if_pos (Decidable.of_not_not (fun z => hnb (ite01.mpr z)))]; done)), rfl⟩
        · skip
          refine qG.blk 2 (pc' := 37) (ls' := [(2, 74), (0, ((s9 : Nat) : Int)), (0, ((t9 : Nat) : Int)), (0, b)]) (st' := [(2, w 74 2), (0, ((s9 : Nat) : Int)), (2, 75)]) (w' := w) (n' := 142) rfl ?_
          rw [show w 74 2 = 75 from zref hI rfl rfl]
          refine qG.blk 1 (pc' := 38) (ls' := [(2, 74), (0, ((s9 : Nat) : Int)), (0, ((t9 : Nat) : Int)), (0, b)]) (st' := [(0, ((s9 : Nat) : Int)), (2, 75), (0, ((s9 : Nat) : Int)), (2, 75)]) (w' := w) (n' := 142) rfl ?_
          refine qG.ar (P := 0 ≤ ((s9 : Nat) : Int) ∧ ((s9 : Nat) : Int) < ((16 : Nat) : Int)) (P2 := 0 < (75 : Int) ∧ (75 : Int) ≤ ((142 : Nat) : Int)) (pc' := 39) (ls' := [(2, 74), (0, ((s9 : Nat) : Int)), (0, ((t9 : Nat) : Int)), (0, b)]) (st' := [(0, w 75 s9), (0, ((s9 : Nat) : Int)), (2, 75)]) (w' := w) (n' := 142) rfl (by omega) (by decide) ?_
          refine qG.blk 7 (pc' := 58) (ls' := [(2, 74), (0, ((s9 : Nat) : Int)), (0, ((t9 : Nat) : Int)), (0, b)]) (st' := [(0, qand (w 75 s9) (qxor (qshl 1 ((t9 : Nat) : Int)) (-1))), (0, ((s9 : Nat) : Int)), (2, 75)]) (w' := w) (n' := 142) rfl ?_
          refine qG.ar (P := 0 ≤ ((s9 : Nat) : Int) ∧ ((s9 : Nat) : Int) < ((16 : Nat) : Int)) (P2 := 0 < (75 : Int) ∧ (75 : Int) ≤ ((142 : Nat) : Int)) (pc' := 59) (ls' := [(2, 74), (0, ((s9 : Nat) : Int)), (0, ((t9 : Nat) : Int)), (0, b)]) (st' := []) (w' := (qup w 75 s9 (qand (w 75 s9) (qxor (qshl 1 ((t9 : Nat) : Int)) (-1))))) (n' := 142) rfl (by omega) (by decide) ?_
          refine qG.blk 2 (pc' := 63) (ls' := [(2, 74), (0, ((s9 : Nat) : Int)), (0, ((t9 : Nat) : Int)), (0, b)]) (st' := [(2, w 74 2)]) (w' := (qup w 75 s9 (qand (w 75 s9) (qxor (qshl 1 ((t9 : Nat) : Int)) (-1))))) (n' := 142) rfl ?_
          rw [show w 74 2 = 75 from zref hI rfl rfl]
          refine qG.blk 2 (pc' := 65) (ls' := [(2, 74), (0, ((s9 : Nat) : Int)), (0, ((t9 : Nat) : Int)), (0, b)]) (st' := [(0, b), (0, ((t9 : Nat) : Int)), (2, 75)]) (w' := (qup w 75 s9 (qand (w 75 s9) (qxor (qshl 1 ((t9 : Nat) : Int)) (-1))))) (n' := 142) rfl ?_
          refine qG.br (P := b = 0) (pc1 := 83) (pc2 := 68) (st1 := [(0, ((t9 : Nat) : Int)), (2, 75)]) rfl (fun h3 => ?_) (fun h3 => ?_)
          · skip
            refine qG.blk 2 (pc' := 87) (ls' := [(2, 74), (0, ((s9 : Nat) : Int)), (0, ((t9 : Nat) : Int)), (0, b)]) (st' := [(2, w 74 2), (0, ((t9 : Nat) : Int)), (2, 75)]) (w' := (qup w 75 s9 (qand (w 75 s9) (qxor (qshl 1 ((t9 : Nat) : Int)) (-1))))) (n' := 142) rfl ?_
            rw [show w 74 2 = 75 from zref hI rfl rfl]
            refine qG.blk 1 (pc' := 88) (ls' := [(2, 74), (0, ((s9 : Nat) : Int)), (0, ((t9 : Nat) : Int)), (0, b)]) (st' := [(0, ((t9 : Nat) : Int)), (2, 75), (0, ((t9 : Nat) : Int)), (2, 75)]) (w' := (qup w 75 s9 (qand (w 75 s9) (qxor (qshl 1 ((t9 : Nat) : Int)) (-1))))) (n' := 142) rfl ?_
            refine qG.ar (P := 0 ≤ ((t9 : Nat) : Int) ∧ ((t9 : Nat) : Int) < ((16 : Nat) : Int)) (P2 := 0 < (75 : Int) ∧ (75 : Int) ≤ ((142 : Nat) : Int)) (pc' := 89) (ls' := [(2, 74), (0, ((s9 : Nat) : Int)), (0, ((t9 : Nat) : Int)), (0, b)]) (st' := [(0, (qup w 75 s9 (qand (w 75 s9) (qxor (qshl 1 ((t9 : Nat) : Int)) (-1)))) 75 t9), (0, ((t9 : Nat) : Int)), (2, 75)]) (w' := (qup w 75 s9 (qand (w 75 s9) (qxor (qshl 1 ((t9 : Nat) : Int)) (-1))))) (n' := 142) rfl (by omega) (by decide) ?_
            refine qG.blk 4 (pc' := 93) (ls' := [(2, 74), (0, ((s9 : Nat) : Int)), (0, ((t9 : Nat) : Int)), (0, b)]) (st' := [(0, qor ((qup w 75 s9 (qand (w 75 s9) (qxor (qshl 1 ((t9 : Nat) : Int)) (-1)))) 75 t9) (qshl 1 ((s9 : Nat) : Int))), (0, ((t9 : Nat) : Int)), (2, 75)]) (w' := (qup w 75 s9 (qand (w 75 s9) (qxor (qshl 1 ((t9 : Nat) : Int)) (-1))))) (n' := 142) rfl ?_
            refine qG.ar (P := 0 ≤ ((t9 : Nat) : Int) ∧ ((t9 : Nat) : Int) < ((16 : Nat) : Int)) (P2 := 0 < (75 : Int) ∧ (75 : Int) ≤ ((142 : Nat) : Int)) (pc' := 94) (ls' := [(2, 74), (0, ((s9 : Nat) : Int)), (0, ((t9 : Nat) : Int)), (0, b)]) (st' := []) (w' := (qup (qup w 75 s9 (qand (w 75 s9) (qxor (qshl 1 ((t9 : Nat) : Int)) (-1)))) 75 t9 (qor ((qup w 75 s9 (qand (w 75 s9) (qxor (qshl 1 ((t9 : Nat) : Int)) (-1)))) 75 t9) (qshl 1 ((s9 : Nat) : Int))))) (n' := 142) rfl (by omega) (by decide) ?_
            refine qG.blk 5 (pc' := 101) (ls' := [(2, 74), (0, ((s9 : Nat) : Int)), (0, ((t9 : Nat) : Int)), (0, b)]) (st' := [(0, wrp ((w 74 1) + 1)), (2, 74)]) (w' := (qup (qup w 75 s9 (qand (w 75 s9) (qxor (qshl 1 ((t9 : Nat) : Int)) (-1)))) 75 t9 (qor ((qup w 75 s9 (qand (w 75 s9) (qxor (qshl 1 ((t9 : Nat) : Int)) (-1)))) 75 t9) (qshl 1 ((s9 : Nat) : Int))))) (n' := 142) rfl ?_
            refine qG.blk 2 (pc' := 105) (ls' := [(2, 74), (0, ((s9 : Nat) : Int)), (0, ((t9 : Nat) : Int)), (0, b)]) (st' := [(0, 1)]) (w' := (qup (qup (qup w 75 s9 (qand (w 75 s9) (qxor (qshl 1 ((t9 : Nat) : Int)) (-1)))) 75 t9 (qor ((qup w 75 s9 (qand (w 75 s9) (qxor (qshl 1 ((t9 : Nat) : Int)) (-1)))) 75 t9) (qshl 1 ((s9 : Nat) : Int)))) 74 1 (wrp ((w 74 1) + 1)))) (n' := 142) rfl ?_
            refine qG.ret rfl (by first | rfl | exact decide_eq_true (by omega)) ?_
            subst hQ9
            exact ⟨(by unfold pwV; first | (rw [if_pos hs0]; done) | (rw [if_neg hs0, if_pos ht0]; done) | (rw [if_neg hs0, if_neg ht0, Int.toNat_natCast, Int.toNat_natCast, if_neg (ite01.mp hnb)]; done) | (rw [if_neg hs0, if_neg ht0, Int.toNat_natCast, Int.toNat_natCast, if_pos (Decidable.of_not_not (fun z => hnb (ite01.mpr z)))]; done)), rfl⟩
          · skip
            refine qG.blk 2 (pc' := 72) (ls' := [(2, 74), (0, ((s9 : Nat) : Int)), (0, ((t9 : Nat) : Int)), (0, b)]) (st' := [(2, w 74 2), (0, ((t9 : Nat) : Int)), (2, 75)]) (w' := (qup w 75 s9 (qand (w 75 s9) (qxor (qshl 1 ((t9 : Nat) : Int)) (-1))))) (n' := 142) rfl ?_
            rw [show w 74 2 = 75 from zref hI rfl rfl]
            refine qG.blk 1 (pc' := 73) (ls' := [(2, 74), (0, ((s9 : Nat) : Int)), (0, ((t9 : Nat) : Int)), (0, b)]) (st' := [(0, ((t9 : Nat) : Int)), (2, 75), (0, ((t9 : Nat) : Int)), (2, 75)]) (w' := (qup w 75 s9 (qand (w 75 s9) (qxor (qshl 1 ((t9 : Nat) : Int)) (-1))))) (n' := 142) rfl ?_
            refine qG.ar (P := 0 ≤ ((t9 : Nat) : Int) ∧ ((t9 : Nat) : Int) < ((16 : Nat) : Int)) (P2 := 0 < (75 : Int) ∧ (75 : Int) ≤ ((142 : Nat) : Int)) (pc' := 74) (ls' := [(2, 74), (0, ((s9 : Nat) : Int)), (0, ((t9 : Nat) : Int)), (0, b)]) (st' := [(0, (qup w 75 s9 (qand (w 75 s9) (qxor (qshl 1 ((t9 : Nat) : Int)) (-1)))) 75 t9), (0, ((t9 : Nat) : Int)), (2, 75)]) (w' := (qup w 75 s9 (qand (w 75 s9) (qxor (qshl 1 ((t9 : Nat) : Int)) (-1))))) (n' := 142) rfl (by omega) (by decide) ?_
            refine qG.blk 7 (pc' := 93) (ls' := [(2, 74), (0, ((s9 : Nat) : Int)), (0, ((t9 : Nat) : Int)), (0, b)]) (st' := [(0, qand ((qup w 75 s9 (qand (w 75 s9) (qxor (qshl 1 ((t9 : Nat) : Int)) (-1)))) 75 t9) (qxor (qshl 1 ((s9 : Nat) : Int)) (-1))), (0, ((t9 : Nat) : Int)), (2, 75)]) (w' := (qup w 75 s9 (qand (w 75 s9) (qxor (qshl 1 ((t9 : Nat) : Int)) (-1))))) (n' := 142) rfl ?_
            refine qG.ar (P := 0 ≤ ((t9 : Nat) : Int) ∧ ((t9 : Nat) : Int) < ((16 : Nat) : Int)) (P2 := 0 < (75 : Int) ∧ (75 : Int) ≤ ((142 : Nat) : Int)) (pc' := 94) (ls' := [(2, 74), (0, ((s9 : Nat) : Int)), (0, ((t9 : Nat) : Int)), (0, b)]) (st' := []) (w' := (qup (qup w 75 s9 (qand (w 75 s9) (qxor (qshl 1 ((t9 : Nat) : Int)) (-1)))) 75 t9 (qand ((qup w 75 s9 (qand (w 75 s9) (qxor (qshl 1 ((t9 : Nat) : Int)) (-1)))) 75 t9) (qxor (qshl 1 ((s9 : Nat) : Int)) (-1))))) (n' := 142) rfl (by omega) (by decide) ?_
            refine qG.blk 5 (pc' := 101) (ls' := [(2, 74), (0, ((s9 : Nat) : Int)), (0, ((t9 : Nat) : Int)), (0, b)]) (st' := [(0, wrp ((w 74 1) + 1)), (2, 74)]) (w' := (qup (qup w 75 s9 (qand (w 75 s9) (qxor (qshl 1 ((t9 : Nat) : Int)) (-1)))) 75 t9 (qand ((qup w 75 s9 (qand (w 75 s9) (qxor (qshl 1 ((t9 : Nat) : Int)) (-1)))) 75 t9) (qxor (qshl 1 ((s9 : Nat) : Int)) (-1))))) (n' := 142) rfl ?_
            refine qG.blk 2 (pc' := 105) (ls' := [(2, 74), (0, ((s9 : Nat) : Int)), (0, ((t9 : Nat) : Int)), (0, b)]) (st' := [(0, 1)]) (w' := (qup (qup (qup w 75 s9 (qand (w 75 s9) (qxor (qshl 1 ((t9 : Nat) : Int)) (-1)))) 75 t9 (qand ((qup w 75 s9 (qand (w 75 s9) (qxor (qshl 1 ((t9 : Nat) : Int)) (-1)))) 75 t9) (qxor (qshl 1 ((s9 : Nat) : Int)) (-1)))) 74 1 (wrp ((w 74 1) + 1)))) (n' := 142) rfl ?_
            refine qG.ret rfl (by first | rfl | exact decide_eq_true (by omega)) ?_
            subst hQ9
            exact ⟨(by unfold pwV; first | (rw [if_pos hs0]; done) | (rw [if_neg hs0, if_pos ht0]; done) | (rw [if_neg hs0, if_neg ht0, Int.toNat_natCast, Int.toNat_natCast, if_neg (ite01.mp hnb)]; done) | (rw [if_neg hs0, if_neg ht0, Int.toNat_natCast, Int.toNat_natCast, if_pos (Decidable.of_not_not (fun z => hnb (ite01.mpr z)))]; done)), rfl⟩
theorem K_X11_wall_0 {d : Nat} (hd : 3 ≤ d) (s t b : Int) (w : qW) (hI : yInv zgf zga zra zSp w) : qG none d 165 0 [(2, 1), (0, 0), (0, s), (0, t), (0, b)] [] w 142 (fun (r : qV) (_ : qW) (_ : Nat) => r = (0, pwV s t)) := by
  generalize hQ9 : (fun (r : qV) (_ : qW) (_ : Nat) => r = (0, pwV s t)) = Q9
  obtain ⟨d, rfl⟩ : ∃ d9, d = d9 + 1 := ⟨d - 1, by omega⟩
  refine qG.blk 1 (pc' := 1) (ls' := [(2, 1), (0, 0), (0, s), (0, t), (0, b)]) (st' := [(0, 0)]) (w' := w) (n' := 142) rfl ?_
  refine qG.call (t := 198) (na := 1) (sk := 0) (md := 0) (ls1 := [(0, 0)]) (r1 := []) rfl rfl rfl rfl rfl (K_X11_isChest (Nat.zero_le _) _ _) ?_
  rintro _ w7 _ ⟨rfl, hw7, rfl⟩
  rw [hw7, show isInV 0 0 2 = 1 from by decide]
  show qG none (d + 1) 165 4 [(2, 1), (0, 0), (0, s), (0, t), (0, b)] [(0, 1)] w 142 Q9
  refine qG.br (P := (1 : Int) = 0) (pc1 := 27) (pc2 := 7) (st1 := []) rfl (fun h1 => ?_) (fun h1 => ?_)
  · exact absurd h1 (by decide)
  · skip
    refine qG.blk 2 (pc' := 11) (ls' := [(2, 1), (0, 0), (0, s), (0, t), (0, b)]) (st' := [(2, w 1 0)]) (w' := w) (n' := 142) rfl ?_
    rw [show w 1 0 = 2 from zref hI rfl rfl]
    refine qG.blk 1 (pc' := 12) (ls' := [(2, 1), (0, 0), (0, s), (0, t), (0, b)]) (st' := [(0, 0), (2, 2)]) (w' := w) (n' := 142) rfl ?_
    refine qG.ar (P := 0 ≤ 0 ∧ 0 < ((3 : Nat) : Int)) (P2 := 0 < (2 : Int) ∧ (2 : Int) ≤ ((142 : Nat) : Int)) (pc' := 13) (ls' := [(2, 1), (0, 0), (0, s), (0, t), (0, b)]) (st' := [(2, w 2 0)]) (w' := w) (n' := 142) rfl (by omega) (by decide) ?_
    rw [show w 2 0 = 64 from zref hI rfl rfl]
    refine qG.blk 3 (pc' := 17) (ls' := [(2, 1), (0, 0), (0, s), (0, t), (0, b)]) (st' := [(0, b), (0, t), (0, s), (2, 64)]) (w' := w) (n' := 142) rfl ?_
    refine qG.call (t := 21) (na := 4) (sk := 1) (md := 1) (ls1 := [(2, 64), (0, s), (0, t), (0, b)]) (r1 := []) rfl rfl rfl rfl rfl (K_putWall64 (by omega) s t b w hI) ?_
    rintro _ w8 _ ⟨rfl, rfl⟩
    show qG none (d + 1) 165 20 [(2, 1), (0, 0), (0, s), (0, t), (0, b)] [(0, pwV s t)] w8 142 Q9
    refine qG.br (P := pwV s t = 0) (pc1 := 27) (pc2 := 23) (st1 := []) rfl (fun hpw => ?_) (fun hpw => ?_)
    · skip
      refine qG.blk 1 (pc' := 28) (ls' := [(2, 1), (0, 0), (0, s), (0, t), (0, b)]) (st' := [(0, 0)]) (w' := w8) (n' := 142) rfl ?_
      refine qG.ret rfl (by first | rfl | exact decide_eq_true (by omega)) ?_
      subst hQ9
      exact (by have q := pwV_01 s t; first | (rw [show pwV s t = 0 by omega]; done) | (rw [show pwV s t = 1 by omega]; done))
    · skip
      refine qG.blk 2 (pc' := 28) (ls' := [(2, 1), (0, 0), (0, s), (0, t), (0, b)]) (st' := [(0, 1)]) (w' := w8) (n' := 142) rfl ?_
      refine qG.ret rfl (by first | rfl | exact decide_eq_true (by omega)) ?_
      subst hQ9
      exact (by have q := pwV_01 s t; first | (rw [show pwV s t = 0 by omega]; done) | (rw [show pwV s t = 1 by omega]; done))
theorem K_X11_wall_1 {d : Nat} (hd : 3 ≤ d) (s t b : Int) (w : qW) (hI : yInv zgf zga zra zSp w) : qG none d 165 0 [(2, 1), (0, 1), (0, s), (0, t), (0, b)] [] w 142 (fun (r : qV) (_ : qW) (_ : Nat) => r = (0, pwV s t)) := by
  generalize hQ9 : (fun (r : qV) (_ : qW) (_ : Nat) => r = (0, pwV s t)) = Q9
  obtain ⟨d, rfl⟩ : ∃ d9, d = d9 + 1 := ⟨d - 1, by omega⟩
  refine qG.blk 1 (pc' := 1) (ls' := [(2, 1), (0, 1), (0, s), (0, t), (0, b)]) (st' := [(0, 1)]) (w' := w) (n' := 142) rfl ?_
  refine qG.call (t := 198) (na := 1) (sk := 0) (md := 0) (ls1 := [(0, 1)]) (r1 := []) rfl rfl rfl rfl rfl (K_X11_isChest (Nat.zero_le _) _ _) ?_
  rintro _ w7 _ ⟨rfl, hw7, rfl⟩
  rw [hw7, show isInV 1 0 2 = 1 from by decide]
  show qG none (d + 1) 165 4 [(2, 1), (0, 1), (0, s), (0, t), (0, b)] [(0, 1)] w 142 Q9
  refine qG.br (P := (1 : Int) = 0) (pc1 := 27) (pc2 := 7) (st1 := []) rfl (fun h1 => ?_) (fun h1 => ?_)
  · exact absurd h1 (by decide)
  · skip
    refine qG.blk 2 (pc' := 11) (ls' := [(2, 1), (0, 1), (0, s), (0, t), (0, b)]) (st' := [(2, w 1 0)]) (w' := w) (n' := 142) rfl ?_
    rw [show w 1 0 = 2 from zref hI rfl rfl]
    refine qG.blk 1 (pc' := 12) (ls' := [(2, 1), (0, 1), (0, s), (0, t), (0, b)]) (st' := [(0, 1), (2, 2)]) (w' := w) (n' := 142) rfl ?_
    refine qG.ar (P := 0 ≤ 1 ∧ 1 < ((3 : Nat) : Int)) (P2 := 0 < (2 : Int) ∧ (2 : Int) ≤ ((142 : Nat) : Int)) (pc' := 13) (ls' := [(2, 1), (0, 1), (0, s), (0, t), (0, b)]) (st' := [(2, w 2 1)]) (w' := w) (n' := 142) rfl (by omega) (by decide) ?_
    rw [show w 2 1 = 69 from zref hI rfl rfl]
    refine qG.blk 3 (pc' := 17) (ls' := [(2, 1), (0, 1), (0, s), (0, t), (0, b)]) (st' := [(0, b), (0, t), (0, s), (2, 69)]) (w' := w) (n' := 142) rfl ?_
    refine qG.call (t := 21) (na := 4) (sk := 1) (md := 1) (ls1 := [(2, 69), (0, s), (0, t), (0, b)]) (r1 := []) rfl rfl rfl rfl rfl (K_putWall69 (by omega) s t b w hI) ?_
    rintro _ w8 _ ⟨rfl, rfl⟩
    show qG none (d + 1) 165 20 [(2, 1), (0, 1), (0, s), (0, t), (0, b)] [(0, pwV s t)] w8 142 Q9
    refine qG.br (P := pwV s t = 0) (pc1 := 27) (pc2 := 23) (st1 := []) rfl (fun hpw => ?_) (fun hpw => ?_)
    · skip
      refine qG.blk 1 (pc' := 28) (ls' := [(2, 1), (0, 1), (0, s), (0, t), (0, b)]) (st' := [(0, 0)]) (w' := w8) (n' := 142) rfl ?_
      refine qG.ret rfl (by first | rfl | exact decide_eq_true (by omega)) ?_
      subst hQ9
      exact (by have q := pwV_01 s t; first | (rw [show pwV s t = 0 by omega]; done) | (rw [show pwV s t = 1 by omega]; done))
    · skip
      refine qG.blk 2 (pc' := 28) (ls' := [(2, 1), (0, 1), (0, s), (0, t), (0, b)]) (st' := [(0, 1)]) (w' := w8) (n' := 142) rfl ?_
      refine qG.ret rfl (by first | rfl | exact decide_eq_true (by omega)) ?_
      subst hQ9
      exact (by have q := pwV_01 s t; first | (rw [show pwV s t = 0 by omega]; done) | (rw [show pwV s t = 1 by omega]; done))
theorem K_X11_wall_2 {d : Nat} (hd : 3 ≤ d) (s t b : Int) (w : qW) (hI : yInv zgf zga zra zSp w) : qG none d 165 0 [(2, 1), (0, 2), (0, s), (0, t), (0, b)] [] w 142 (fun (r : qV) (_ : qW) (_ : Nat) => r = (0, pwV s t)) := by
  generalize hQ9 : (fun (r : qV) (_ : qW) (_ : Nat) => r = (0, pwV s t)) = Q9
  obtain ⟨d, rfl⟩ : ∃ d9, d = d9 + 1 := ⟨d - 1, by omega⟩
  refine qG.blk 1 (pc' := 1) (ls' := [(2, 1), (0, 2), (0, s), (0, t), (0, b)]) (st' := [(0, 2)]) (w' := w) (n' := 142) rfl ?_
  refine qG.call (t := 198) (na := 1) (sk := 0) (md := 0) (ls1 := [(0, 2)]) (r1 := []) rfl rfl rfl rfl rfl (K_X11_isChest (Nat.zero_le _) _ _) ?_
  rintro _ w7 _ ⟨rfl, hw7, rfl⟩
  rw [hw7, show isInV 2 0 2 = 1 from by decide]
  show qG none (d + 1) 165 4 [(2, 1), (0, 2), (0, s), (0, t), (0, b)] [(0, 1)] w 142 Q9
  refine qG.br (P := (1 : Int) = 0) (pc1 := 27) (pc2 := 7) (st1 := []) rfl (fun h1 => ?_) (fun h1 => ?_)
  · exact absurd h1 (by decide)
  · skip
    refine qG.blk 2 (pc' := 11) (ls' := [(2, 1), (0, 2), (0, s), (0, t), (0, b)]) (st' := [(2, w 1 0)]) (w' := w) (n' := 142) rfl ?_
    rw [show w 1 0 = 2 from zref hI rfl rfl]
    refine qG.blk 1 (pc' := 12) (ls' := [(2, 1), (0, 2), (0, s), (0, t), (0, b)]) (st' := [(0, 2), (2, 2)]) (w' := w) (n' := 142) rfl ?_
    refine qG.ar (P := 0 ≤ 2 ∧ 2 < ((3 : Nat) : Int)) (P2 := 0 < (2 : Int) ∧ (2 : Int) ≤ ((142 : Nat) : Int)) (pc' := 13) (ls' := [(2, 1), (0, 2), (0, s), (0, t), (0, b)]) (st' := [(2, w 2 2)]) (w' := w) (n' := 142) rfl (by omega) (by decide) ?_
    rw [show w 2 2 = 74 from zref hI rfl rfl]
    refine qG.blk 3 (pc' := 17) (ls' := [(2, 1), (0, 2), (0, s), (0, t), (0, b)]) (st' := [(0, b), (0, t), (0, s), (2, 74)]) (w' := w) (n' := 142) rfl ?_
    refine qG.call (t := 21) (na := 4) (sk := 1) (md := 1) (ls1 := [(2, 74), (0, s), (0, t), (0, b)]) (r1 := []) rfl rfl rfl rfl rfl (K_putWall74 (by omega) s t b w hI) ?_
    rintro _ w8 _ ⟨rfl, rfl⟩
    show qG none (d + 1) 165 20 [(2, 1), (0, 2), (0, s), (0, t), (0, b)] [(0, pwV s t)] w8 142 Q9
    refine qG.br (P := pwV s t = 0) (pc1 := 27) (pc2 := 23) (st1 := []) rfl (fun hpw => ?_) (fun hpw => ?_)
    · skip
      refine qG.blk 1 (pc' := 28) (ls' := [(2, 1), (0, 2), (0, s), (0, t), (0, b)]) (st' := [(0, 0)]) (w' := w8) (n' := 142) rfl ?_
      refine qG.ret rfl (by first | rfl | exact decide_eq_true (by omega)) ?_
      subst hQ9
      exact (by have q := pwV_01 s t; first | (rw [show pwV s t = 0 by omega]; done) | (rw [show pwV s t = 1 by omega]; done))
    · skip
      refine qG.blk 2 (pc' := 28) (ls' := [(2, 1), (0, 2), (0, s), (0, t), (0, b)]) (st' := [(0, 1)]) (w' := w8) (n' := 142) rfl ?_
      refine qG.ret rfl (by first | rfl | exact decide_eq_true (by omega)) ?_
      subst hQ9
      exact (by have q := pwV_01 s t; first | (rw [show pwV s t = 0 by omega]; done) | (rw [show pwV s t = 1 by omega]; done))
theorem K_X11_wall_n {d : Nat} (hd : 3 ≤ d) (c s t b : Int) (hc : isInV c 0 2 = 0) (w : qW) (hI : yInv zgf zga zra zSp w) : qG none d 165 0 [(2, 1), (0, c), (0, s), (0, t), (0, b)] [] w 142 (fun (r : qV) (_ : qW) (_ : Nat) => r = (0, 0)) := by
  generalize hQ9 : (fun (r : qV) (_ : qW) (_ : Nat) => r = (0, 0)) = Q9
  obtain ⟨d, rfl⟩ : ∃ d9, d = d9 + 1 := ⟨d - 1, by omega⟩
  refine qG.blk 1 (pc' := 1) (ls' := [(2, 1), (0, c), (0, s), (0, t), (0, b)]) (st' := [(0, c)]) (w' := w) (n' := 142) rfl ?_
  refine qG.call (t := 198) (na := 1) (sk := 0) (md := 0) (ls1 := [(0, c)]) (r1 := []) rfl rfl rfl rfl rfl (K_X11_isChest (Nat.zero_le _) _ _) ?_
  rintro _ w7 _ ⟨rfl, hw7, rfl⟩
  rw [hw7]
  show qG none (d + 1) 165 4 [(2, 1), (0, c), (0, s), (0, t), (0, b)] [(0, isInV c 0 2)] w 142 Q9
  refine qG.br (P := isInV c 0 2 = 0) (pc1 := 27) (pc2 := 7) (st1 := []) rfl (fun hc0 => ?_) (fun hc0 => ?_)
  · skip
    refine qG.blk 1 (pc' := 28) (ls' := [(2, 1), (0, c), (0, s), (0, t), (0, b)]) (st' := [(0, 0)]) (w' := w) (n' := 142) rfl ?_
    refine qG.ret rfl (by first | rfl | exact decide_eq_true (by omega)) ?_
    subst hQ9
    exact rfl
  · exfalso; exact hc0 hc
theorem K_X11_wall {d : Nat} (hd : 3 ≤ d) (c s t b : Int) (w : qW) (hI : yInv zgf zga zra zSp w) : qG none d 165 0 [(2, 1), (0, c), (0, s), (0, t), (0, b)] [] w 142 (fun (r : qV) (_ : qW) (_ : Nat) => r = (0, wallV c s t)) := by
  unfold wallV
  by_cases h : isInV c 0 2 = 0
  · rw [if_pos h]; exact K_X11_wall_n hd c s t b h w hI
  · rw [if_neg h]
    obtain ⟨n, rfl, h1, h2⟩ := isIn_n (by decide) h
    rcases (show n = 0 ∨ n = 1 ∨ n = 2 by omega) with rfl | rfl | rfl
    · exact K_X11_wall_0 hd s t b w hI
    · exact K_X11_wall_1 hd s t b w hI
    · exact K_X11_wall_2 hd s t b w hI
theorem K_X12_wall {d : Nat} (hd : 2 ≤ d) (c s t b : Int) (w : qW) (hI : yInv zgf zga zra zSp w) : qG none d 215 0 [(2, 95), (0, c), (0, s), (0, t), (0, b), (9, 0), (9, 0)] [] w 142 (fun (r : qV) (_ : qW) (_ : Nat) => r = (0, wallV c s t)) := by
  generalize hQ9 : (fun (r : qV) (_ : qW) (_ : Nat) => r = (0, wallV c s t)) = Q9
  obtain ⟨d, rfl⟩ : ∃ d9, d = d9 + 1 := ⟨d - 1, by omega⟩
  refine qG.blk 1 (pc' := 1) (ls' := [(2, 95), (0, c), (0, s), (0, t), (0, b), (9, 0), (9, 0)]) (st' := [(0, c)]) (w' := w) (n' := 142) rfl ?_
  refine qG.call (t := 207) (na := 1) (sk := 0) (md := 0) (ls1 := [(0, c)]) (r1 := []) rfl rfl rfl rfl rfl (K_isChest (by omega) _ _) ?_
  rintro _ w7 _ ⟨rfl, hw7, rfl⟩
  rw [hw7]
  show qG none (d + 1) 215 4 [(2, 95), (0, c), (0, s), (0, t), (0, b), (9, 0), (9, 0)] [(0, isInV c 0 2)] w 142 Q9
  refine qG.br (P := isInV c 0 2 = 0) (pc1 := 29) (pc2 := 7) (st1 := []) rfl (fun hc0 => ?_) (fun hc0 => ?_)
  · skip
    refine qG.blk 1 (pc' := 30) (ls' := [(2, 95), (0, c), (0, s), (0, t), (0, b), (9, 0), (9, 0)]) (st' := [(0, 0)]) (w' := w) (n' := 142) rfl ?_
    refine qG.ret rfl (by first | rfl | exact decide_eq_true (by omega)) ?_
    subst hQ9
    exact (by unfold wallV pwV; first | (rw [if_pos hc0]; done) | (rw [if_neg hc0, if_pos hs0]; done) | (rw [if_neg hc0, if_neg hs0, if_pos ht0]; done) | (rw [if_neg hc0, if_neg hs0, if_neg ht0, Int.toNat_natCast, Int.toNat_natCast, if_neg (ite01.mp hnb)]; done) | (rw [if_neg hc0, if_neg hs0, if_neg ht0, Int.toNat_natCast, Int.toNat_natCast, if_pos (Decidable.of_not_not (fun z => hnb (ite01.mpr z)))]; done))
  · skip
    obtain ⟨c9, rfl, hlc9, huc9⟩ := isIn_n (by decide) hc0
    refine qG.blk 1 (pc' := 8) (ls' := [(2, 95), (0, ((c9 : Nat) : Int)), (0, s), (0, t), (0, b), (9, 0), (9, 0)]) (st' := [(0, s)]) (w' := w) (n' := 142) rfl ?_
    refine qG.call (t := 208) (na := 1) (sk := 0) (md := 0) (ls1 := [(0, s)]) (r1 := []) rfl rfl rfl rfl rfl (K_X12_isSpace (by omega) _ _) ?_
    rintro _ w7 _ ⟨rfl, hw7, rfl⟩
    rw [hw7]
    show qG none (d + 1) 215 11 [(2, 95), (0, ((c9 : Nat) : Int)), (0, s), (0, t), (0, b), (9, 0), (9, 0)] [(0, isInV s 0 15)] w 142 Q9
    refine qG.br (P := isInV s 0 15 = 0) (pc1 := 29) (pc2 := 14) (st1 := []) rfl (fun hs0 => ?_) (fun hs0 => ?_)
    · skip
      refine qG.blk 1 (pc' := 30) (ls' := [(2, 95), (0, ((c9 : Nat) : Int)), (0, s), (0, t), (0, b), (9, 0), (9, 0)]) (st' := [(0, 0)]) (w' := w) (n' := 142) rfl ?_
      refine qG.ret rfl (by first | rfl | exact decide_eq_true (by omega)) ?_
      subst hQ9
      exact (by unfold wallV pwV; first | (rw [if_pos hc0]; done) | (rw [if_neg hc0, if_pos hs0]; done) | (rw [if_neg hc0, if_neg hs0, if_pos ht0]; done) | (rw [if_neg hc0, if_neg hs0, if_neg ht0, Int.toNat_natCast, Int.toNat_natCast, if_neg (ite01.mp hnb)]; done) | (rw [if_neg hc0, if_neg hs0, if_neg ht0, Int.toNat_natCast, Int.toNat_natCast, if_pos (Decidable.of_not_not (fun z => hnb (ite01.mpr z)))]; done))
    · skip
      obtain ⟨s9, rfl, hls9, hus9⟩ := isIn_n (by decide) hs0
      refine qG.blk 1 (pc' := 15) (ls' := [(2, 95), (0, ((c9 : Nat) : Int)), (0, ((s9 : Nat) : Int)), (0, t), (0, b), (9, 0), (9, 0)]) (st' := [(0, t)]) (w' := w) (n' := 142) rfl ?_
      refine qG.call (t := 208) (na := 1) (sk := 0) (md := 0) (ls1 := [(0, t)]) (r1 := []) rfl rfl rfl rfl rfl (K_X12_isSpace (by omega) _ _) ?_
      rintro _ w7 _ ⟨rfl, hw7, rfl⟩
      rw [hw7]
      show qG none (d + 1) 215 18 [(2, 95), (0, ((c9 : Nat) : Int)), (0, ((s9 : Nat) : Int)), (0, t), (0, b), (9, 0), (9, 0)] [(0, isInV t 0 15)] w 142 Q9
      refine qG.br (P := isInV t 0 15 = 0) (pc1 := 29) (pc2 := 21) (st1 := []) rfl (fun ht0 => ?_) (fun ht0 => ?_)
      · skip
        refine qG.blk 1 (pc' := 30) (ls' := [(2, 95), (0, ((c9 : Nat) : Int)), (0, ((s9 : Nat) : Int)), (0, t), (0, b), (9, 0), (9, 0)]) (st' := [(0, 0)]) (w' := w) (n' := 142) rfl ?_
        refine qG.ret rfl (by first | rfl | exact decide_eq_true (by omega)) ?_
        subst hQ9
        exact (by unfold wallV pwV; first | (rw [if_pos hc0]; done) | (rw [if_neg hc0, if_pos hs0]; done) | (rw [if_neg hc0, if_neg hs0, if_pos ht0]; done) | (rw [if_neg hc0, if_neg hs0, if_neg ht0, Int.toNat_natCast, Int.toNat_natCast, if_neg (ite01.mp hnb)]; done) | (rw [if_neg hc0, if_neg hs0, if_neg ht0, Int.toNat_natCast, Int.toNat_natCast, if_pos (Decidable.of_not_not (fun z => hnb (ite01.mpr z)))]; done))
      · skip
        obtain ⟨t9, rfl, hlt9, hut9⟩ := isIn_n (by decide) ht0
        refine qG.blk 2 (pc' := 23) (ls' := [(2, 95), (0, ((c9 : Nat) : Int)), (0, ((s9 : Nat) : Int)), (0, ((t9 : Nat) : Int)), (0, b), (9, 0), (9, 0)]) (st' := [(0, ((t9 : Nat) : Int)), (0, ((s9 : Nat) : Int))]) (w' := w) (n' := 142) rfl ?_
        refine qG.call (t := 213) (na := 2) (sk := 0) (md := 0) (ls1 := [(0, ((s9 : Nat) : Int)), (0, ((t9 : Nat) : Int))]) (r1 := []) rfl rfl rfl rfl rfl (K_areNm (by omega) s9 t9 (by omega) (by omega) w hI) ?_
        rintro _ w7 _ ⟨rfl, hw7, rfl⟩
        rw [hw7]
        show qG none (d + 1) 215 26 [(2, 95), (0, ((c9 : Nat) : Int)), (0, ((s9 : Nat) : Int)), (0, ((t9 : Nat) : Int)), (0, b), (9, 0), (9, 0)] [(0, (if nbB s9 t9 = true then 1 else 0))] w 142 Q9
        refine qG.br (P := (if nbB s9 t9 = true then 1 else 0) = 0) (pc1 := 29) (pc2 := 31) (st1 := []) rfl (fun hnb => ?_) (fun hnb => ?_)
        · skip
          refine qG.blk 1 (pc' := 30) (ls' := [(2, 95), (0, ((c9 : Nat) : Int)), (0, ((s9 : Nat) : Int)), (0, ((t9 : Nat) : Int)), (0, b), (9, 0), (9, 0)]) (st' := [(0, 0)]) (w' := w) (n' := 142) rfl ?_
          refine qG.ret rfl (by first | rfl | exact decide_eq_true (by omega)) ?_
          subst hQ9
          exact (by unfold wallV pwV; first | (rw [if_pos hc0]; done) | (rw [if_neg hc0, if_pos hs0]; done) | (rw [if_neg hc0, if_neg hs0, if_pos ht0]; done) | (rw [if_neg hc0, if_neg hs0, if_neg ht0, Int.toNat_natCast, Int.toNat_natCast, if_neg (ite01.mp hnb)]; done) | (rw [if_neg hc0, if_neg hs0, if_neg ht0, Int.toNat_natCast, Int.toNat_natCast, if_pos (Decidable.of_not_not (fun z => hnb (ite01.mpr z)))]; done))
        · skip
          refine qG.blk 3 (pc' := 35) (ls' := [(2, 95), (0, ((c9 : Nat) : Int)), (0, ((s9 : Nat) : Int)), (0, ((t9 : Nat) : Int)), (0, b), (9, 0), (9, 0)]) (st' := [(0, wrp (16 * ((c9 : Nat) : Int)))]) (w' := w) (n' := 142) rfl ?_
          rw [show wrp (16 * ((c9 : Nat) : Int)) = ((16 * c9 : Nat) : Int) from by rw [wrp_id (by omega) (by omega)]; omega]
          refine qG.blk 2 (pc' := 37) (ls' := [(2, 95), (0, ((c9 : Nat) : Int)), (0, ((s9 : Nat) : Int)), (0, ((t9 : Nat) : Int)), (0, b), (9, 0), (9, 0)]) (st' := [(0, wrp (((16 * c9 : Nat) : Int) + ((s9 : Nat) : Int)))]) (w' := w) (n' := 142) rfl ?_
          rw [show wrp (((16 * c9 : Nat) : Int) + ((s9 : Nat) : Int)) = ((16 * c9 + s9 : Nat) : Int) from by rw [wrp_id (by omega) (by omega)]; omega]
          refine qG.blk 4 (pc' := 43) (ls' := [(2, 95), (0, ((c9 : Nat) : Int)), (0, ((s9 : Nat) : Int)), (0, ((t9 : Nat) : Int)), (0, b), (0, ((16 * c9 + s9 : Nat) : Int)), (9, 0)]) (st' := [(0, wrp (16 * ((c9 : Nat) : Int)))]) (w' := w) (n' := 142) rfl ?_
          rw [show wrp (16 * ((c9 : Nat) : Int)) = ((16 * c9 : Nat) : Int) from by rw [wrp_id (by omega) (by omega)]; omega]
          refine qG.blk 2 (pc' := 45) (ls' := [(2, 95), (0, ((c9 : Nat) : Int)), (0, ((s9 : Nat) : Int)), (0, ((t9 : Nat) : Int)), (0, b), (0, ((16 * c9 + s9 : Nat) : Int)), (9, 0)]) (st' := [(0, wrp (((16 * c9 : Nat) : Int) + ((t9 : Nat) : Int)))]) (w' := w) (n' := 142) rfl ?_
          rw [show wrp (((16 * c9 : Nat) : Int) + ((t9 : Nat) : Int)) = ((16 * c9 + t9 : Nat) : Int) from by rw [wrp_id (by omega) (by omega)]; omega]
          refine qG.blk 6 (pc' := 56) (ls' := [(2, 95), (0, ((c9 : Nat) : Int)), (0, ((s9 : Nat) : Int)), (0, ((t9 : Nat) : Int)), (0, b), (0, ((16 * c9 + s9 : Nat) : Int)), (0, ((16 * c9 + t9 : Nat) : Int))]) (st' := [(2, w 95 3)]) (w' := (qup w 95 9 (-1))) (n' := 142) rfl ?_
          rw [show w 95 3 = 99 from zref hI rfl rfl]
          refine qG.blk 2 (pc' := 60) (ls' := [(2, 95), (0, ((c9 : Nat) : Int)), (0, ((s9 : Nat) : Int)), (0, ((t9 : Nat) : Int)), (0, b), (0, ((16 * c9 + s9 : Nat) : Int)), (0, ((16 * c9 + t9 : Nat) : Int))]) (st' := [(0, b), (0, ((16 * c9 + s9 : Nat) : Int)), (2, 99)]) (w' := (qup w 95 9 (-1))) (n' := 142) rfl ?_
          refine qG.br (P := b = 0) (pc1 := 77) (pc2 := 63) (st1 := [(0, ((16 * c9 + s9 : Nat) : Int)), (2, 99)]) rfl (fun h1 => ?_) (fun h1 => ?_)
          · skip
            refine qG.blk 2 (pc' := 81) (ls' := [(2, 95), (0, ((c9 : Nat) : Int)), (0, ((s9 : Nat) : Int)), (0, ((t9 : Nat) : Int)), (0, b), (0, ((16 * c9 + s9 : Nat) : Int)), (0, ((16 * c9 + t9 : Nat) : Int))]) (st' := [(2, w 95 3), (0, ((16 * c9 + s9 : Nat) : Int)), (2, 99)]) (w' := (qup w 95 9 (-1))) (n' := 142) rfl ?_
            rw [show w 95 3 = 99 from zref hI rfl rfl]
            refine qG.blk 1 (pc' := 83) (ls' := [(2, 95), (0, ((c9 : Nat) : Int)), (0, ((s9 : Nat) : Int)), (0, ((t9 : Nat) : Int)), (0, b), (0, ((16 * c9 + s9 : Nat) : Int)), (0, ((16 * c9 + t9 : Nat) : Int))]) (st' := [(0, ((16 * c9 + s9 : Nat) : Int)), (2, 99), (0, ((16 * c9 + s9 : Nat) : Int)), (2, 99)]) (w' := (qup w 95 9 (-1))) (n' := 142) rfl ?_
            refine qG.ar (P := 0 ≤ ((16 * c9 + s9 : Nat) : Int) ∧ ((16 * c9 + s9 : Nat) : Int) < ((48 : Nat) : Int)) (P2 := 0 < (99 : Int) ∧ (99 : Int) ≤ ((142 : Nat) : Int)) (pc' := 84) (ls' := [(2, 95), (0, ((c9 : Nat) : Int)), (0, ((s9 : Nat) : Int)), (0, ((t9 : Nat) : Int)), (0, b), (0, ((16 * c9 + s9 : Nat) : Int)), (0, ((16 * c9 + t9 : Nat) : Int))]) (st' := [(0, w 99 (16 * c9 + s9)), (0, ((16 * c9 + s9 : Nat) : Int)), (2, 99)]) (w' := (qup w 95 9 (-1))) (n' := 142) rfl (by omega) (by decide) ?_
            refine qG.blk 6 (pc' := 90) (ls' := [(2, 95), (0, ((c9 : Nat) : Int)), (0, ((s9 : Nat) : Int)), (0, ((t9 : Nat) : Int)), (0, b), (0, ((16 * c9 + s9 : Nat) : Int)), (0, ((16 * c9 + t9 : Nat) : Int))]) (st' := [(0, qand (w 99 (16 * c9 + s9)) (qxor (qshl 1 ((t9 : Nat) : Int)) (-1))), (0, ((16 * c9 + s9 : Nat) : Int)), (2, 99)]) (w' := (qup w 95 9 (-1))) (n' := 142) rfl ?_
            refine qG.ar (P := 0 ≤ ((16 * c9 + s9 : Nat) : Int) ∧ ((16 * c9 + s9 : Nat) : Int) < ((48 : Nat) : Int)) (P2 := 0 < (99 : Int) ∧ (99 : Int) ≤ ((142 : Nat) : Int)) (pc' := 91) (ls' := [(2, 95), (0, ((c9 : Nat) : Int)), (0, ((s9 : Nat) : Int)), (0, ((t9 : Nat) : Int)), (0, b), (0, ((16 * c9 + s9 : Nat) : Int)), (0, ((16 * c9 + t9 : Nat) : Int))]) (st' := []) (w' := (qup (qup w 95 9 (-1)) 99 (16 * c9 + s9) (qand (w 99 (16 * c9 + s9)) (qxor (qshl 1 ((t9 : Nat) : Int)) (-1))))) (n' := 142) rfl (by omega) (by decide) ?_
            refine qG.blk 2 (pc' := 95) (ls' := [(2, 95), (0, ((c9 : Nat) : Int)), (0, ((s9 : Nat) : Int)), (0, ((t9 : Nat) : Int)), (0, b), (0, ((16 * c9 + s9 : Nat) : Int)), (0, ((16 * c9 + t9 : Nat) : Int))]) (st' := [(2, w 95 3)]) (w' := (qup (qup w 95 9 (-1)) 99 (16 * c9 + s9) (qand (w 99 (16 * c9 + s9)) (qxor (qshl 1 ((t9 : Nat) : Int)) (-1))))) (n' := 142) rfl ?_
            rw [show w 95 3 = 99 from zref hI rfl rfl]
            refine qG.blk 2 (pc' := 99) (ls' := [(2, 95), (0, ((c9 : Nat) : Int)), (0, ((s9 : Nat) : Int)), (0, ((t9 : Nat) : Int)), (0, b), (0, ((16 * c9 + s9 : Nat) : Int)), (0, ((16 * c9 + t9 : Nat) : Int))]) (st' := [(0, b), (0, ((16 * c9 + t9 : Nat) : Int)), (2, 99)]) (w' := (qup (qup w 95 9 (-1)) 99 (16 * c9 + s9) (qand (w 99 (16 * c9 + s9)) (qxor (qshl 1 ((t9 : Nat) : Int)) (-1))))) (n' := 142) rfl ?_
            refine qG.br (P := b = 0) (pc1 := 116) (pc2 := 102) (st1 := [(0, ((16 * c9 + t9 : Nat) : Int)), (2, 99)]) rfl (fun h2 => ?_) (fun h2 => ?_)
            · skip
              refine qG.blk 2 (pc' := 120) (ls' := [(2, 95), (0, ((c9 : Nat) : Int)), (0, ((s9 : Nat) : Int)), (0, ((t9 : Nat) : Int)), (0, b), (0, ((16 * c9 + s9 : Nat) : Int)), (0, ((16 * c9 + t9 : Nat) : Int))]) (st' := [(2, w 95 3), (0, ((16 * c9 + t9 : Nat) : Int)), (2, 99)]) (w' := (qup (qup w 95 9 (-1)) 99 (16 * c9 + s9) (qand (w 99 (16 * c9 + s9)) (qxor (qshl 1 ((t9 : Nat) : Int)) (-1))))) (n' := 142) rfl ?_
              rw [show w 95 3 = 99 from zref hI rfl rfl]
              refine qG.blk 1 (pc' := 122) (ls' := [(2, 95), (0, ((c9 : Nat) : Int)), (0, ((s9 : Nat) : Int)), (0, ((t9 : Nat) : Int)), (0, b), (0, ((16 * c9 + s9 : Nat) : Int)), (0, ((16 * c9 + t9 : Nat) : Int))]) (st' := [(0, ((16 * c9 + t9 : Nat) : Int)), (2, 99), (0, ((16 * c9 + t9 : Nat) : Int)), (2, 99)]) (w' := (qup (qup w 95 9 (-1)) 99 (16 * c9 + s9) (qand (w 99 (16 * c9 + s9)) (qxor (qshl 1 ((t9 : Nat) : Int)) (-1))))) (n' := 142) rfl ?_
              refine qG.ar (P := 0 ≤ ((16 * c9 + t9 : Nat) : Int) ∧ ((16 * c9 + t9 : Nat) : Int) < ((48 : Nat) : Int)) (P2 := 0 < (99 : Int) ∧ (99 : Int) ≤ ((142 : Nat) : Int)) (pc' := 123) (ls' := [(2, 95), (0, ((c9 : Nat) : Int)), (0, ((s9 : Nat) : Int)), (0, ((t9 : Nat) : Int)), (0, b), (0, ((16 * c9 + s9 : Nat) : Int)), (0, ((16 * c9 + t9 : Nat) : Int))]) (st' := [(0, (qup (qup w 95 9 (-1)) 99 (16 * c9 + s9) (qand (w 99 (16 * c9 + s9)) (qxor (qshl 1 ((t9 : Nat) : Int)) (-1)))) 99 (16 * c9 + t9)), (0, ((16 * c9 + t9 : Nat) : Int)), (2, 99)]) (w' := (qup (qup w 95 9 (-1)) 99 (16 * c9 + s9) (qand (w 99 (16 * c9 + s9)) (qxor (qshl 1 ((t9 : Nat) : Int)) (-1))))) (n' := 142) rfl (by omega) (by decide) ?_
              refine qG.blk 6 (pc' := 129) (ls' := [(2, 95), (0, ((c9 : Nat) : Int)), (0, ((s9 : Nat) : Int)), (0, ((t9 : Nat) : Int)), (0, b), (0, ((16 * c9 + s9 : Nat) : Int)), (0, ((16 * c9 + t9 : Nat) : Int))]) (st' := [(0, qand ((qup (qup w 95 9 (-1)) 99 (16 * c9 + s9) (qand (w 99 (16 * c9 + s9)) (qxor (qshl 1 ((t9 : Nat) : Int)) (-1)))) 99 (16 * c9 + t9)) (qxor (qshl 1 ((s9 : Nat) : Int)) (-1))), (0, ((16 * c9 + t9 : Nat) : Int)), (2, 99)]) (w' := (qup (qup w 95 9 (-1)) 99 (16 * c9 + s9) (qand (w 99 (16 * c9 + s9)) (qxor (qshl 1 ((t9 : Nat) : Int)) (-1))))) (n' := 142) rfl ?_
              refine qG.ar (P := 0 ≤ ((16 * c9 + t9 : Nat) : Int) ∧ ((16 * c9 + t9 : Nat) : Int) < ((48 : Nat) : Int)) (P2 := 0 < (99 : Int) ∧ (99 : Int) ≤ ((142 : Nat) : Int)) (pc' := 130) (ls' := [(2, 95), (0, ((c9 : Nat) : Int)), (0, ((s9 : Nat) : Int)), (0, ((t9 : Nat) : Int)), (0, b), (0, ((16 * c9 + s9 : Nat) : Int)), (0, ((16 * c9 + t9 : Nat) : Int))]) (st' := []) (w' := (qup (qup (qup w 95 9 (-1)) 99 (16 * c9 + s9) (qand (w 99 (16 * c9 + s9)) (qxor (qshl 1 ((t9 : Nat) : Int)) (-1)))) 99 (16 * c9 + t9) (qand ((qup (qup w 95 9 (-1)) 99 (16 * c9 + s9) (qand (w 99 (16 * c9 + s9)) (qxor (qshl 1 ((t9 : Nat) : Int)) (-1)))) 99 (16 * c9 + t9)) (qxor (qshl 1 ((s9 : Nat) : Int)) (-1))))) (n' := 142) rfl (by omega) (by decide) ?_
              refine qG.blk 1 (pc' := 131) (ls' := [(2, 95), (0, ((c9 : Nat) : Int)), (0, ((s9 : Nat) : Int)), (0, ((t9 : Nat) : Int)), (0, b), (0, ((16 * c9 + s9 : Nat) : Int)), (0, ((16 * c9 + t9 : Nat) : Int))]) (st' := [(0, 1)]) (w' := (qup (qup (qup w 95 9 (-1)) 99 (16 * c9 + s9) (qand (w 99 (16 * c9 + s9)) (qxor (qshl 1 ((t9 : Nat) : Int)) (-1)))) 99 (16 * c9 + t9) (qand ((qup (qup w 95 9 (-1)) 99 (16 * c9 + s9) (qand (w 99 (16 * c9 + s9)) (qxor (qshl 1 ((t9 : Nat) : Int)) (-1)))) 99 (16 * c9 + t9)) (qxor (qshl 1 ((s9 : Nat) : Int)) (-1))))) (n' := 142) rfl ?_
              refine qG.ret rfl (by first | rfl | exact decide_eq_true (by omega)) ?_
              subst hQ9
              exact (by unfold wallV pwV; first | (rw [if_pos hc0]; done) | (rw [if_neg hc0, if_pos hs0]; done) | (rw [if_neg hc0, if_neg hs0, if_pos ht0]; done) | (rw [if_neg hc0, if_neg hs0, if_neg ht0, Int.toNat_natCast, Int.toNat_natCast, if_neg (ite01.mp hnb)]; done) | (rw [if_neg hc0, if_neg hs0, if_neg ht0, Int.toNat_natCast, Int.toNat_natCast, if_pos (Decidable.of_not_not (fun z => hnb (ite01.mpr z)))]; done))
            · skip
              refine qG.blk 2 (pc' := 106) (ls' := [(2, 95), (0, ((c9 : Nat) : Int)), (0, ((s9 : Nat) : Int)), (0, ((t9 : Nat) : Int)), (0, b), (0, ((16 * c9 + s9 : Nat) : Int)), (0, ((16 * c9 + t9 : Nat) : Int))]) (st' := [(2, w 95 3), (0, ((16 * c9 + t9 : Nat) : Int)), (2, 99)]) (w' := (qup (qup w 95 9 (-1)) 99 (16 * c9 + s9) (qand (w 99 (16 * c9 + s9)) (qxor (qshl 1 ((t9 : Nat) : Int)) (-1))))) (n' := 142) rfl ?_
              rw [show w 95 3 = 99 from zref hI rfl rfl]
              refine qG.blk 1 (pc' := 108) (ls' := [(2, 95), (0, ((c9 : Nat) : Int)), (0, ((s9 : Nat) : Int)), (0, ((t9 : Nat) : Int)), (0, b), (0, ((16 * c9 + s9 : Nat) : Int)), (0, ((16 * c9 + t9 : Nat) : Int))]) (st' := [(0, ((16 * c9 + t9 : Nat) : Int)), (2, 99), (0, ((16 * c9 + t9 : Nat) : Int)), (2, 99)]) (w' := (qup (qup w 95 9 (-1)) 99 (16 * c9 + s9) (qand (w 99 (16 * c9 + s9)) (qxor (qshl 1 ((t9 : Nat) : Int)) (-1))))) (n' := 142) rfl ?_
              refine qG.ar (P := 0 ≤ ((16 * c9 + t9 : Nat) : Int) ∧ ((16 * c9 + t9 : Nat) : Int) < ((48 : Nat) : Int)) (P2 := 0 < (99 : Int) ∧ (99 : Int) ≤ ((142 : Nat) : Int)) (pc' := 109) (ls' := [(2, 95), (0, ((c9 : Nat) : Int)), (0, ((s9 : Nat) : Int)), (0, ((t9 : Nat) : Int)), (0, b), (0, ((16 * c9 + s9 : Nat) : Int)), (0, ((16 * c9 + t9 : Nat) : Int))]) (st' := [(0, (qup (qup w 95 9 (-1)) 99 (16 * c9 + s9) (qand (w 99 (16 * c9 + s9)) (qxor (qshl 1 ((t9 : Nat) : Int)) (-1)))) 99 (16 * c9 + t9)), (0, ((16 * c9 + t9 : Nat) : Int)), (2, 99)]) (w' := (qup (qup w 95 9 (-1)) 99 (16 * c9 + s9) (qand (w 99 (16 * c9 + s9)) (qxor (qshl 1 ((t9 : Nat) : Int)) (-1))))) (n' := 142) rfl (by omega) (by decide) ?_
              refine qG.blk 5 (pc' := 129) (ls' := [(2, 95), (0, ((c9 : Nat) : Int)), (0, ((s9 : Nat) : Int)), (0, ((t9 : Nat) : Int)), (0, b), (0, ((16 * c9 + s9 : Nat) : Int)), (0, ((16 * c9 + t9 : Nat) : Int))]) (st' := [(0, qor ((qup (qup w 95 9 (-1)) 99 (16 * c9 + s9) (qand (w 99 (16 * c9 + s9)) (qxor (qshl 1 ((t9 : Nat) : Int)) (-1)))) 99 (16 * c9 + t9)) (qshl 1 ((s9 : Nat) : Int))), (0, ((16 * c9 + t9 : Nat) : Int)), (2, 99)]) (w' := (qup (qup w 95 9 (-1)) 99 (16 * c9 + s9) (qand (w 99 (16 * c9 + s9)) (qxor (qshl 1 ((t9 : Nat) : Int)) (-1))))) (n' := 142) rfl ?_
              refine qG.ar (P := 0 ≤ ((16 * c9 + t9 : Nat) : Int) ∧ ((16 * c9 + t9 : Nat) : Int) < ((48 : Nat) : Int)) (P2 := 0 < (99 : Int) ∧ (99 : Int) ≤ ((142 : Nat) : Int)) (pc' := 130) (ls' := [(2, 95), (0, ((c9 : Nat) : Int)), (0, ((s9 : Nat) : Int)), (0, ((t9 : Nat) : Int)), (0, b), (0, ((16 * c9 + s9 : Nat) : Int)), (0, ((16 * c9 + t9 : Nat) : Int))]) (st' := []) (w' := (qup (qup (qup w 95 9 (-1)) 99 (16 * c9 + s9) (qand (w 99 (16 * c9 + s9)) (qxor (qshl 1 ((t9 : Nat) : Int)) (-1)))) 99 (16 * c9 + t9) (qor ((qup (qup w 95 9 (-1)) 99 (16 * c9 + s9) (qand (w 99 (16 * c9 + s9)) (qxor (qshl 1 ((t9 : Nat) : Int)) (-1)))) 99 (16 * c9 + t9)) (qshl 1 ((s9 : Nat) : Int))))) (n' := 142) rfl (by omega) (by decide) ?_
              refine qG.blk 1 (pc' := 131) (ls' := [(2, 95), (0, ((c9 : Nat) : Int)), (0, ((s9 : Nat) : Int)), (0, ((t9 : Nat) : Int)), (0, b), (0, ((16 * c9 + s9 : Nat) : Int)), (0, ((16 * c9 + t9 : Nat) : Int))]) (st' := [(0, 1)]) (w' := (qup (qup (qup w 95 9 (-1)) 99 (16 * c9 + s9) (qand (w 99 (16 * c9 + s9)) (qxor (qshl 1 ((t9 : Nat) : Int)) (-1)))) 99 (16 * c9 + t9) (qor ((qup (qup w 95 9 (-1)) 99 (16 * c9 + s9) (qand (w 99 (16 * c9 + s9)) (qxor (qshl 1 ((t9 : Nat) : Int)) (-1)))) 99 (16 * c9 + t9)) (qshl 1 ((s9 : Nat) : Int))))) (n' := 142) rfl ?_
              refine qG.ret rfl (by first | rfl | exact decide_eq_true (by omega)) ?_
              subst hQ9
              exact (by unfold wallV pwV; first | (rw [if_pos hc0]; done) | (rw [if_neg hc0, if_pos hs0]; done) | (rw [if_neg hc0, if_neg hs0, if_pos ht0]; done) | (rw [if_neg hc0, if_neg hs0, if_neg ht0, Int.toNat_natCast, Int.toNat_natCast, if_neg (ite01.mp hnb)]; done) | (rw [if_neg hc0, if_neg hs0, if_neg ht0, Int.toNat_natCast, Int.toNat_natCast, if_pos (Decidable.of_not_not (fun z => hnb (ite01.mpr z)))]; done))
          · skip
            refine qG.blk 2 (pc' := 67) (ls' := [(2, 95), (0, ((c9 : Nat) : Int)), (0, ((s9 : Nat) : Int)), (0, ((t9 : Nat) : Int)), (0, b), (0, ((16 * c9 + s9 : Nat) : Int)), (0, ((16 * c9 + t9 : Nat) : Int))]) (st' := [(2, w 95 3), (0, ((16 * c9 + s9 : Nat) : Int)), (2, 99)]) (w' := (qup w 95 9 (-1))) (n' := 142) rfl ?_
            rw [show w 95 3 = 99 from zref hI rfl rfl]
            refine qG.blk 1 (pc' := 69) (ls' := [(2, 95), (0, ((c9 : Nat) : Int)), (0, ((s9 : Nat) : Int)), (0, ((t9 : Nat) : Int)), (0, b), (0, ((16 * c9 + s9 : Nat) : Int)), (0, ((16 * c9 + t9 : Nat) : Int))]) (st' := [(0, ((16 * c9 + s9 : Nat) : Int)), (2, 99), (0, ((16 * c9 + s9 : Nat) : Int)), (2, 99)]) (w' := (qup w 95 9 (-1))) (n' := 142) rfl ?_
            refine qG.ar (P := 0 ≤ ((16 * c9 + s9 : Nat) : Int) ∧ ((16 * c9 + s9 : Nat) : Int) < ((48 : Nat) : Int)) (P2 := 0 < (99 : Int) ∧ (99 : Int) ≤ ((142 : Nat) : Int)) (pc' := 70) (ls' := [(2, 95), (0, ((c9 : Nat) : Int)), (0, ((s9 : Nat) : Int)), (0, ((t9 : Nat) : Int)), (0, b), (0, ((16 * c9 + s9 : Nat) : Int)), (0, ((16 * c9 + t9 : Nat) : Int))]) (st' := [(0, w 99 (16 * c9 + s9)), (0, ((16 * c9 + s9 : Nat) : Int)), (2, 99)]) (w' := (qup w 95 9 (-1))) (n' := 142) rfl (by omega) (by decide) ?_
            refine qG.blk 5 (pc' := 90) (ls' := [(2, 95), (0, ((c9 : Nat) : Int)), (0, ((s9 : Nat) : Int)), (0, ((t9 : Nat) : Int)), (0, b), (0, ((16 * c9 + s9 : Nat) : Int)), (0, ((16 * c9 + t9 : Nat) : Int))]) (st' := [(0, qor (w 99 (16 * c9 + s9)) (qshl 1 ((t9 : Nat) : Int))), (0, ((16 * c9 + s9 : Nat) : Int)), (2, 99)]) (w' := (qup w 95 9 (-1))) (n' := 142) rfl ?_
            refine qG.ar (P := 0 ≤ ((16 * c9 + s9 : Nat) : Int) ∧ ((16 * c9 + s9 : Nat) : Int) < ((48 : Nat) : Int)) (P2 := 0 < (99 : Int) ∧ (99 : Int) ≤ ((142 : Nat) : Int)) (pc' := 91) (ls' := [(2, 95), (0, ((c9 : Nat) : Int)), (0, ((s9 : Nat) : Int)), (0, ((t9 : Nat) : Int)), (0, b), (0, ((16 * c9 + s9 : Nat) : Int)), (0, ((16 * c9 + t9 : Nat) : Int))]) (st' := []) (w' := (qup (qup w 95 9 (-1)) 99 (16 * c9 + s9) (qor (w 99 (16 * c9 + s9)) (qshl 1 ((t9 : Nat) : Int))))) (n' := 142) rfl (by omega) (by decide) ?_
            refine qG.blk 2 (pc' := 95) (ls' := [(2, 95), (0, ((c9 : Nat) : Int)), (0, ((s9 : Nat) : Int)), (0, ((t9 : Nat) : Int)), (0, b), (0, ((16 * c9 + s9 : Nat) : Int)), (0, ((16 * c9 + t9 : Nat) : Int))]) (st' := [(2, w 95 3)]) (w' := (qup (qup w 95 9 (-1)) 99 (16 * c9 + s9) (qor (w 99 (16 * c9 + s9)) (qshl 1 ((t9 : Nat) : Int))))) (n' := 142) rfl ?_
            rw [show w 95 3 = 99 from zref hI rfl rfl]
            refine qG.blk 2 (pc' := 99) (ls' := [(2, 95), (0, ((c9 : Nat) : Int)), (0, ((s9 : Nat) : Int)), (0, ((t9 : Nat) : Int)), (0, b), (0, ((16 * c9 + s9 : Nat) : Int)), (0, ((16 * c9 + t9 : Nat) : Int))]) (st' := [(0, b), (0, ((16 * c9 + t9 : Nat) : Int)), (2, 99)]) (w' := (qup (qup w 95 9 (-1)) 99 (16 * c9 + s9) (qor (w 99 (16 * c9 + s9)) (qshl 1 ((t9 : Nat) : Int))))) (n' := 142) rfl ?_
            refine qG.br (P := b = 0) (pc1 := 116) (pc2 := 102) (st1 := [(0, ((16 * c9 + t9 : Nat) : Int)), (2, 99)]) rfl (fun h3 => ?_) (fun h3 => ?_)
            · skip
              refine qG.blk 2 (pc' := 120) (ls' := [(2, 95), (0, ((c9 : Nat) : Int)), (0, ((s9 : Nat) : Int)), (0, ((t9 : Nat) : Int)), (0, b), (0, ((16 * c9 + s9 : Nat) : Int)), (0, ((16 * c9 + t9 : Nat) : Int))]) (st' := [(2, w 95 3), (0, ((16 * c9 + t9 : Nat) : Int)), (2, 99)]) (w' := (qup (qup w 95 9 (-1)) 99 (16 * c9 + s9) (qor (w 99 (16 * c9 + s9)) (qshl 1 ((t9 : Nat) : Int))))) (n' := 142) rfl ?_
              rw [show w 95 3 = 99 from zref hI rfl rfl]
              refine qG.blk 1 (pc' := 122) (ls' := [(2, 95), (0, ((c9 : Nat) : Int)), (0, ((s9 : Nat) : Int)), (0, ((t9 : Nat) : Int)), (0, b), (0, ((16 * c9 + s9 : Nat) : Int)), (0, ((16 * c9 + t9 : Nat) : Int))]) (st' := [(0, ((16 * c9 + t9 : Nat) : Int)), (2, 99), (0, ((16 * c9 + t9 : Nat) : Int)), (2, 99)]) (w' := (qup (qup w 95 9 (-1)) 99 (16 * c9 + s9) (qor (w 99 (16 * c9 + s9)) (qshl 1 ((t9 : Nat) : Int))))) (n' := 142) rfl ?_
              refine qG.ar (P := 0 ≤ ((16 * c9 + t9 : Nat) : Int) ∧ ((16 * c9 + t9 : Nat) : Int) < ((48 : Nat) : Int)) (P2 := 0 < (99 : Int) ∧ (99 : Int) ≤ ((142 : Nat) : Int)) (pc' := 123) (ls' := [(2, 95), (0, ((c9 : Nat) : Int)), (0, ((s9 : Nat) : Int)), (0, ((t9 : Nat) : Int)), (0, b), (0, ((16 * c9 + s9 : Nat) : Int)), (0, ((16 * c9 + t9 : Nat) : Int))]) (st' := [(0, (qup (qup w 95 9 (-1)) 99 (16 * c9 + s9) (qor (w 99 (16 * c9 + s9)) (qshl 1 ((t9 : Nat) : Int)))) 99 (16 * c9 + t9)), (0, ((16 * c9 + t9 : Nat) : Int)), (2, 99)]) (w' := (qup (qup w 95 9 (-1)) 99 (16 * c9 + s9) (qor (w 99 (16 * c9 + s9)) (qshl 1 ((t9 : Nat) : Int))))) (n' := 142) rfl (by omega) (by decide) ?_
              refine qG.blk 6 (pc' := 129) (ls' := [(2, 95), (0, ((c9 : Nat) : Int)), (0, ((s9 : Nat) : Int)), (0, ((t9 : Nat) : Int)), (0, b), (0, ((16 * c9 + s9 : Nat) : Int)), (0, ((16 * c9 + t9 : Nat) : Int))]) (st' := [(0, qand ((qup (qup w 95 9 (-1)) 99 (16 * c9 + s9) (qor (w 99 (16 * c9 + s9)) (qshl 1 ((t9 : Nat) : Int)))) 99 (16 * c9 + t9)) (qxor (qshl 1 ((s9 : Nat) : Int)) (-1))), (0, ((16 * c9 + t9 : Nat) : Int)), (2, 99)]) (w' := (qup (qup w 95 9 (-1)) 99 (16 * c9 + s9) (qor (w 99 (16 * c9 + s9)) (qshl 1 ((t9 : Nat) : Int))))) (n' := 142) rfl ?_
              refine qG.ar (P := 0 ≤ ((16 * c9 + t9 : Nat) : Int) ∧ ((16 * c9 + t9 : Nat) : Int) < ((48 : Nat) : Int)) (P2 := 0 < (99 : Int) ∧ (99 : Int) ≤ ((142 : Nat) : Int)) (pc' := 130) (ls' := [(2, 95), (0, ((c9 : Nat) : Int)), (0, ((s9 : Nat) : Int)), (0, ((t9 : Nat) : Int)), (0, b), (0, ((16 * c9 + s9 : Nat) : Int)), (0, ((16 * c9 + t9 : Nat) : Int))]) (st' := []) (w' := (qup (qup (qup w 95 9 (-1)) 99 (16 * c9 + s9) (qor (w 99 (16 * c9 + s9)) (qshl 1 ((t9 : Nat) : Int)))) 99 (16 * c9 + t9) (qand ((qup (qup w 95 9 (-1)) 99 (16 * c9 + s9) (qor (w 99 (16 * c9 + s9)) (qshl 1 ((t9 : Nat) : Int)))) 99 (16 * c9 + t9)) (qxor (qshl 1 ((s9 : Nat) : Int)) (-1))))) (n' := 142) rfl (by omega) (by decide) ?_
              refine qG.blk 1 (pc' := 131) (ls' := [(2, 95), (0, ((c9 : Nat) : Int)), (0, ((s9 : Nat) : Int)), (0, ((t9 : Nat) : Int)), (0, b), (0, ((16 * c9 + s9 : Nat) : Int)), (0, ((16 * c9 + t9 : Nat) : Int))]) (st' := [(0, 1)]) (w' := (qup (qup (qup w 95 9 (-1)) 99 (16 * c9 + s9) (qor (w 99 (16 * c9 + s9)) (qshl 1 ((t9 : Nat) : Int)))) 99 (16 * c9 + t9) (qand ((qup (qup w 95 9 (-1)) 99 (16 * c9 + s9) (qor (w 99 (16 * c9 + s9)) (qshl 1 ((t9 : Nat) : Int)))) 99 (16 * c9 + t9)) (qxor (qshl 1 ((s9 : Nat) : Int)) (-1))))) (n' := 142) rfl ?_
              refine qG.ret rfl (by first | rfl | exact decide_eq_true (by omega)) ?_
              subst hQ9
              exact (by unfold wallV pwV; first | (rw [if_pos hc0]; done) | (rw [if_neg hc0, if_pos hs0]; done) | (rw [if_neg hc0, if_neg hs0, if_pos ht0]; done) | (rw [if_neg hc0, if_neg hs0, if_neg ht0, Int.toNat_natCast, Int.toNat_natCast, if_neg (ite01.mp hnb)]; done) | (rw [if_neg hc0, if_neg hs0, if_neg ht0, Int.toNat_natCast, Int.toNat_natCast, if_pos (Decidable.of_not_not (fun z => hnb (ite01.mpr z)))]; done))
            · skip
              refine qG.blk 2 (pc' := 106) (ls' := [(2, 95), (0, ((c9 : Nat) : Int)), (0, ((s9 : Nat) : Int)), (0, ((t9 : Nat) : Int)), (0, b), (0, ((16 * c9 + s9 : Nat) : Int)), (0, ((16 * c9 + t9 : Nat) : Int))]) (st' := [(2, w 95 3), (0, ((16 * c9 + t9 : Nat) : Int)), (2, 99)]) (w' := (qup (qup w 95 9 (-1)) 99 (16 * c9 + s9) (qor (w 99 (16 * c9 + s9)) (qshl 1 ((t9 : Nat) : Int))))) (n' := 142) rfl ?_
              rw [show w 95 3 = 99 from zref hI rfl rfl]
              refine qG.blk 1 (pc' := 108) (ls' := [(2, 95), (0, ((c9 : Nat) : Int)), (0, ((s9 : Nat) : Int)), (0, ((t9 : Nat) : Int)), (0, b), (0, ((16 * c9 + s9 : Nat) : Int)), (0, ((16 * c9 + t9 : Nat) : Int))]) (st' := [(0, ((16 * c9 + t9 : Nat) : Int)), (2, 99), (0, ((16 * c9 + t9 : Nat) : Int)), (2, 99)]) (w' := (qup (qup w 95 9 (-1)) 99 (16 * c9 + s9) (qor (w 99 (16 * c9 + s9)) (qshl 1 ((t9 : Nat) : Int))))) (n' := 142) rfl ?_
              refine qG.ar (P := 0 ≤ ((16 * c9 + t9 : Nat) : Int) ∧ ((16 * c9 + t9 : Nat) : Int) < ((48 : Nat) : Int)) (P2 := 0 < (99 : Int) ∧ (99 : Int) ≤ ((142 : Nat) : Int)) (pc' := 109) (ls' := [(2, 95), (0, ((c9 : Nat) : Int)), (0, ((s9 : Nat) : Int)), (0, ((t9 : Nat) : Int)), (0, b), (0, ((16 * c9 + s9 : Nat) : Int)), (0, ((16 * c9 + t9 : Nat) : Int))]) (st' := [(0, (qup (qup w 95 9 (-1)) 99 (16 * c9 + s9) (qor (w 99 (16 * c9 + s9)) (qshl 1 ((t9 : Nat) : Int)))) 99 (16 * c9 + t9)), (0, ((16 * c9 + t9 : Nat) : Int)), (2, 99)]) (w' := (qup (qup w 95 9 (-1)) 99 (16 * c9 + s9) (qor (w 99 (16 * c9 + s9)) (qshl 1 ((t9 : Nat) : Int))))) (n' := 142) rfl (by omega) (by decide) ?_
              refine qG.blk 5 (pc' := 129) (ls' := [(2, 95), (0, ((c9 : Nat) : Int)), (0, ((s9 : Nat) : Int)), (0, ((t9 : Nat) : Int)), (0, b), (0, ((16 * c9 + s9 : Nat) : Int)), (0, ((16 * c9 + t9 : Nat) : Int))]) (st' := [(0, qor ((qup (qup w 95 9 (-1)) 99 (16 * c9 + s9) (qor (w 99 (16 * c9 + s9)) (qshl 1 ((t9 : Nat) : Int)))) 99 (16 * c9 + t9)) (qshl 1 ((s9 : Nat) : Int))), (0, ((16 * c9 + t9 : Nat) : Int)), (2, 99)]) (w' := (qup (qup w 95 9 (-1)) 99 (16 * c9 + s9) (qor (w 99 (16 * c9 + s9)) (qshl 1 ((t9 : Nat) : Int))))) (n' := 142) rfl ?_
              refine qG.ar (P := 0 ≤ ((16 * c9 + t9 : Nat) : Int) ∧ ((16 * c9 + t9 : Nat) : Int) < ((48 : Nat) : Int)) (P2 := 0 < (99 : Int) ∧ (99 : Int) ≤ ((142 : Nat) : Int)) (pc' := 130) (ls' := [(2, 95), (0, ((c9 : Nat) : Int)), (0, ((s9 : Nat) : Int)), (0, ((t9 : Nat) : Int)), (0, b), (0, ((16 * c9 + s9 : Nat) : Int)), (0, ((16 * c9 + t9 : Nat) : Int))]) (st' := []) (w' := (qup (qup (qup w 95 9 (-1)) 99 (16 * c9 + s9) (qor (w 99 (16 * c9 + s9)) (qshl 1 ((t9 : Nat) : Int)))) 99 (16 * c9 + t9) (qor ((qup (qup w 95 9 (-1)) 99 (16 * c9 + s9) (qor (w 99 (16 * c9 + s9)) (qshl 1 ((t9 : Nat) : Int)))) 99 (16 * c9 + t9)) (qshl 1 ((s9 : Nat) : Int))))) (n' := 142) rfl (by omega) (by decide) ?_
              refine qG.blk 1 (pc' := 131) (ls' := [(2, 95), (0, ((c9 : Nat) : Int)), (0, ((s9 : Nat) : Int)), (0, ((t9 : Nat) : Int)), (0, b), (0, ((16 * c9 + s9 : Nat) : Int)), (0, ((16 * c9 + t9 : Nat) : Int))]) (st' := [(0, 1)]) (w' := (qup (qup (qup w 95 9 (-1)) 99 (16 * c9 + s9) (qor (w 99 (16 * c9 + s9)) (qshl 1 ((t9 : Nat) : Int)))) 99 (16 * c9 + t9) (qor ((qup (qup w 95 9 (-1)) 99 (16 * c9 + s9) (qor (w 99 (16 * c9 + s9)) (qshl 1 ((t9 : Nat) : Int)))) 99 (16 * c9 + t9)) (qshl 1 ((s9 : Nat) : Int))))) (n' := 142) rfl ?_
              refine qG.ret rfl (by first | rfl | exact decide_eq_true (by omega)) ?_
              subst hQ9
              exact (by unfold wallV pwV; first | (rw [if_pos hc0]; done) | (rw [if_neg hc0, if_pos hs0]; done) | (rw [if_neg hc0, if_neg hs0, if_pos ht0]; done) | (rw [if_neg hc0, if_neg hs0, if_neg ht0, Int.toNat_natCast, Int.toNat_natCast, if_neg (ite01.mp hnb)]; done) | (rw [if_neg hc0, if_neg hs0, if_neg ht0, Int.toNat_natCast, Int.toNat_natCast, if_pos (Decidable.of_not_not (fun z => hnb (ite01.mpr z)))]; done))
