/-! works and walls: what they change on both sides, with the shape's number -/
/-- a passage's bit of the class's row: off where there is a wall -/
noncomputable def wlX (v t b : Int) : Int := if b = 0 then qor v (qshl 1 t) else qand v (qxor (qshl 1 t) (-1))
theorem nb_irr : ∀ s : Nat, s < 16 → nbB s s = false := by decide +kernel
theorem nb_sym : ∀ s : Nat, s < 16 → ∀ t : Nat, t < 16 → (!nbB s t || nbB t s) = true := by decide +kernel
theorem hbit_n1 : ∀ r : Nat, r < 32 → ∀ s : Nat, s < 32 → hbit (qxor (qshl 1 (r : Int)) (-1)) s = !decide (r = s) := by decide +kernel
theorem wlX_b {v b : Int} {t u : Nat} (ht : t < 16) (hu : u < 16) : hbit (wlX v (t : Int) b) u = if u = t then decide (b = 0) else hbit v u := by
  unfold wlX
  by_cases hb : b = 0
  · rw [if_pos hb, hbit_or (by omega), hbit_1 t (by omega) u (by omega)]
    by_cases e : u = t
    · rw [if_pos e, decide_eq_true hb, decide_eq_true e.symm, Bool.or_true]
    · rw [if_neg e, decide_eq_false (fun z => e z.symm), Bool.or_false]
  · rw [if_neg hb, hbit_and (by omega), hbit_n1 t (by omega) u (by omega)]
    by_cases e : u = t
    · rw [if_pos e, decide_eq_false hb, decide_eq_true e.symm]; exact Bool.and_false _
    · rw [if_neg e, decide_eq_false (fun z => e z.symm)]; exact Bool.and_true _
theorem wkN_b {v b : Int} {t u : Nat} (ht : t < 16) (hu : u < 16) : hbit (wkN v (t : Int) b) u = if u = t then !decide (b = 0) else hbit v u := by
  unfold wkN
  by_cases hb : b = 0
  · rw [if_pos hb, hbit_and (by omega), hbit_n1 t (by omega) u (by omega)]
    by_cases e : u = t
    · rw [if_pos e, decide_eq_true hb, decide_eq_true e.symm]; exact Bool.and_false _
    · rw [if_neg e, decide_eq_false (fun z => e z.symm)]; exact Bool.and_true _
  · rw [if_neg hb, hbit_or (by omega), hbit_1 t (by omega) u (by omega)]
    by_cases e : u = t
    · rw [if_pos e, decide_eq_false hb, decide_eq_true e.symm, Bool.or_true]; rfl
    · rw [if_neg e, decide_eq_false (fun z => e z.symm), Bool.or_false]
theorem and1_z {x : Int} {t : Nat} : decide (qand (qshr x (t : Int)) 1 = 0) = !hbit x t := by
  unfold hbit
  have h := qand_hi (x := qshr x (t : Int)) (y := 1) (d := 1) (by decide) (by decide) (by decide)
  have h0 : (0 : Int) ≤ qand (qshr x (t : Int)) 1 := h.1
  have h1 : qand (qshr x (t : Int)) 1 ≤ (1 : Int) := h.2
  by_cases e : qand (qshr x (t : Int)) 1 = 0
  · rw [decide_eq_true e, decide_eq_false (by omega)]; rfl
  · rw [decide_eq_false e, decide_eq_true (by omega)]; rfl
theorem pas_h {w : qW} {c s t : Nat} : pasB w c s t = (nbB s t && !hbit (w 99 (16 * c + s)) t) := by unfold pasB; rw [and1_z]
/-- the class's walls are the reference's -/
noncomputable def JVo (w : qW) : Prop := ∀ c : Nat, c < 3 → ∀ s t : Nat, s < 16 → t < 16 → hbit (w (65 + 5 * c) s) t = pasB w c s t
noncomputable def JK (w : qW) : Prop := ∀ c : Nat, c < 3 → w (64 + 5 * c) 0 = w 96 c
noncomputable def pw2E (p : Nat) (s b : Int) (w : qW) (r : qV) (w1 : qW) : Prop := (r = (0, 0) ∧ w1 = w) ∨ (r = (0, 1) ∧ w1 p 1 = wrp (w p 1 + 1) ∧ ∀ q k, ¬ (q = p ∧ (k = 0 ∨ k = 1)) → w1 q k = w q k)
noncomputable def wk2X (c : Int) (w : qW) (r : qV) (w1 : qW) : Prop := (r = (0, 0) ∧ w1 = w) ∨ (r = (0, 1) ∧ ∃ c9 : Nat, c = (c9 : Int) ∧ c9 < 3 ∧ w1 (64 + 5 * c9) 1 = wrp (w (64 + 5 * c9) 1 + 1) ∧ ∀ q k, ¬ (q = 64 + 5 * c9 ∧ (k = 0 ∨ k = 1)) → w1 q k = w q k)
noncomputable def wk2R (w : qW) (r : qV) (w1 : qW) : Prop := (r = (0, 0) ∧ w1 = w) ∨ (r = (0, 1) ∧ w1 95 9 = -1)
noncomputable def wlE (p : Nat) (s t b : Int) (w : qW) (r : qV) (w1 : qW) : Prop := (pwV s t = 0 ∧ r = (0, 0) ∧ w1 = w) ∨ (pwV s t = 1 ∧ r = (0, 1) ∧ ∃ s9 t9 : Nat, s = (s9 : Int) ∧ t = (t9 : Int) ∧ s9 < 16 ∧ t9 < 16 ∧ nbB s9 t9 = true ∧ w1 (p + 1) s9 = wlX (w (p + 1) s9) (t9 : Int) b ∧ w1 (p + 1) t9 = wlX (w (p + 1) t9) (s9 : Int) b ∧ w1 p 1 = wrp (w p 1 + 1) ∧ ∀ q k, ¬ (q = p + 1 ∧ (k = s9 ∨ k = t9)) → ¬ (q = p ∧ k = 1) → w1 q k = w q k)
noncomputable def wlXE (c s t b : Int) (w : qW) (r : qV) (w1 : qW) : Prop := (wallV c s t = 0 ∧ r = (0, 0) ∧ w1 = w) ∨ (wallV c s t = 1 ∧ r = (0, 1) ∧ ∃ c9 s9 t9 : Nat, c = (c9 : Int) ∧ c9 < 3 ∧ s = (s9 : Int) ∧ t = (t9 : Int) ∧ s9 < 16 ∧ t9 < 16 ∧ nbB s9 t9 = true ∧ w1 (65 + 5 * c9) s9 = wlX (w (65 + 5 * c9) s9) (t9 : Int) b ∧ w1 (65 + 5 * c9) t9 = wlX (w (65 + 5 * c9) t9) (s9 : Int) b ∧ w1 (64 + 5 * c9) 1 = wrp (w (64 + 5 * c9) 1 + 1) ∧ ∀ q k, ¬ (q = 65 + 5 * c9 ∧ (k = s9 ∨ k = t9)) → ¬ (q = 64 + 5 * c9 ∧ k = 1) → w1 q k = w q k)
noncomputable def wlRE (c s t b : Int) (w : qW) (r : qV) (w1 : qW) : Prop := (wallV c s t = 0 ∧ r = (0, 0) ∧ w1 = w) ∨ (wallV c s t = 1 ∧ r = (0, 1) ∧ ∃ c9 s9 t9 : Nat, c = (c9 : Int) ∧ c9 < 3 ∧ s = (s9 : Int) ∧ t = (t9 : Int) ∧ s9 < 16 ∧ t9 < 16 ∧ nbB s9 t9 = true ∧ w1 99 (16 * c9 + s9) = wkN (w 99 (16 * c9 + s9)) (t9 : Int) b ∧ w1 99 (16 * c9 + t9) = wkN (w 99 (16 * c9 + t9)) (s9 : Int) b ∧ w1 95 9 = -1 ∧ ∀ q k, ¬ (q = 99 ∧ (k = 16 * c9 + s9 ∨ k = 16 * c9 + t9)) → ¬ (q = 95 ∧ k = 9) → w1 q k = w q k)
theorem nb_ne {s t : Nat} (hs : s < 16) (h : nbB s t = true) : t ≠ s := fun e => by rw [e, nb_irr s hs] at h; cases h
theorem K_putWorks264 {d : Nat} (hd : 1 ≤ d) (s b : Int) (w : qW) (hI : yInv zgf zga zra zSp w) : qG none d 20 0 [(2, 64), (0, s), (0, b)] [] w 142 (fun (r : qV) (w1 : qW) (n1 : Nat) => n1 = 142 ∧ pw2E 64 s b w r w1) := by
  generalize hQ9 : (fun (r : qV) (w1 : qW) (n1 : Nat) => n1 = 142 ∧ pw2E 64 s b w r w1) = Q9
  obtain ⟨d, rfl⟩ : ∃ d9, d = d9 + 1 := ⟨d - 1, by omega⟩
  refine qG.blk 1 (pc' := 1) (ls' := [(2, 64), (0, s), (0, b)]) (st' := [(0, s)]) (w' := w) (n' := 142) rfl ?_
  refine qG.call (t := 19) (na := 1) (sk := 0) (md := 0) (ls1 := [(0, s)]) (r1 := []) rfl rfl rfl rfl rfl (K_X2_isSpace (Nat.zero_le _) _ _) ?_
  rintro _ w7 _ ⟨rfl, hw7, rfl⟩
  rw [hw7]
  show qG none (d + 1) 20 4 [(2, 64), (0, s), (0, b)] [(0, isInV s 0 15)] w 142 Q9
  refine qG.br (P := isInV s 0 15 = 0) (pc1 := 7) (pc2 := 9) (st1 := []) rfl (fun h1 => ?_) (fun h1 => ?_)
  · skip
    rw [isIn_b] at h1
    refine qG.blk 1 (pc' := 8) (ls' := [(2, 64), (0, s), (0, b)]) (st' := [(0, 0)]) (w' := w) (n' := 142) rfl ?_
    refine qG.ret rfl (by first | rfl | exact decide_eq_true (by omega)) ?_
    subst hQ9
    refine ⟨rfl, ?_⟩; first | exact .inl ⟨rfl, rfl⟩ | exact .inr ⟨rfl, (by simp (disch := decide) only [qup_j, qup_k]), (fun q k h => by first | (rw [qup_f (fun z => h ⟨z.1, .inr z.2⟩), qup_f (fun z => h ⟨z.1, .inl z.2⟩)]; done))⟩
  · skip
    rw [isIn_p] at h1
    refine qG.blk 2 (pc' := 11) (ls' := [(2, 64), (0, s), (0, b)]) (st' := [(0, b), (2, 64)]) (w' := w) (n' := 142) rfl ?_
    refine qG.br (P := b = 0) (pc1 := 25) (pc2 := 14) (st1 := [(2, 64)]) rfl (fun hb0 => ?_) (fun hb0 => ?_)
    · skip
      refine qG.blk 12 (pc' := 43) (ls' := [(2, 64), (0, s), (0, b)]) (st' := [(0, w 64 1), (2, 64)]) (w' := (qup w 64 0 (qand (w 64 0) (qxor (qshl 1 s) (-1))))) (n' := 142) rfl ?_
      refine qG.blk 2 (pc' := 45) (ls' := [(2, 64), (0, s), (0, b)]) (st' := [(0, wrp ((w 64 1) + 1)), (2, 64)]) (w' := (qup w 64 0 (qand (w 64 0) (qxor (qshl 1 s) (-1))))) (n' := 142) rfl ?_
      refine qG.blk 2 (pc' := 49) (ls' := [(2, 64), (0, s), (0, b)]) (st' := [(0, 1)]) (w' := (qup (qup w 64 0 (qand (w 64 0) (qxor (qshl 1 s) (-1)))) 64 1 (wrp ((w 64 1) + 1)))) (n' := 142) rfl ?_
      refine qG.ret rfl (by first | rfl | exact decide_eq_true (by omega)) ?_
      subst hQ9
      refine ⟨rfl, ?_⟩; first | exact .inl ⟨rfl, rfl⟩ | exact .inr ⟨rfl, (by simp (disch := decide) only [qup_j, qup_k]), (fun q k h => by first | (rw [qup_f (fun z => h ⟨z.1, .inr z.2⟩), qup_f (fun z => h ⟨z.1, .inl z.2⟩)]; done))⟩
    · skip
      refine qG.blk 12 (pc' := 44) (ls' := [(2, 64), (0, s), (0, b)]) (st' := [(0, 1), (0, w 64 1), (2, 64)]) (w' := (qup w 64 0 (qor (w 64 0) (qshl 1 s)))) (n' := 142) rfl ?_
      refine qG.blk 1 (pc' := 45) (ls' := [(2, 64), (0, s), (0, b)]) (st' := [(0, wrp ((w 64 1) + 1)), (2, 64)]) (w' := (qup w 64 0 (qor (w 64 0) (qshl 1 s)))) (n' := 142) rfl ?_
      refine qG.blk 2 (pc' := 49) (ls' := [(2, 64), (0, s), (0, b)]) (st' := [(0, 1)]) (w' := (qup (qup w 64 0 (qor (w 64 0) (qshl 1 s))) 64 1 (wrp ((w 64 1) + 1)))) (n' := 142) rfl ?_
      refine qG.ret rfl (by first | rfl | exact decide_eq_true (by omega)) ?_
      subst hQ9
      refine ⟨rfl, ?_⟩; first | exact .inl ⟨rfl, rfl⟩ | exact .inr ⟨rfl, (by simp (disch := decide) only [qup_j, qup_k]), (fun q k h => by first | (rw [qup_f (fun z => h ⟨z.1, .inr z.2⟩), qup_f (fun z => h ⟨z.1, .inl z.2⟩)]; done))⟩
theorem K_putWorks269 {d : Nat} (hd : 1 ≤ d) (s b : Int) (w : qW) (hI : yInv zgf zga zra zSp w) : qG none d 20 0 [(2, 69), (0, s), (0, b)] [] w 142 (fun (r : qV) (w1 : qW) (n1 : Nat) => n1 = 142 ∧ pw2E 69 s b w r w1) := by
  generalize hQ9 : (fun (r : qV) (w1 : qW) (n1 : Nat) => n1 = 142 ∧ pw2E 69 s b w r w1) = Q9
  obtain ⟨d, rfl⟩ : ∃ d9, d = d9 + 1 := ⟨d - 1, by omega⟩
  refine qG.blk 1 (pc' := 1) (ls' := [(2, 69), (0, s), (0, b)]) (st' := [(0, s)]) (w' := w) (n' := 142) rfl ?_
  refine qG.call (t := 19) (na := 1) (sk := 0) (md := 0) (ls1 := [(0, s)]) (r1 := []) rfl rfl rfl rfl rfl (K_X2_isSpace (Nat.zero_le _) _ _) ?_
  rintro _ w7 _ ⟨rfl, hw7, rfl⟩
  rw [hw7]
  show qG none (d + 1) 20 4 [(2, 69), (0, s), (0, b)] [(0, isInV s 0 15)] w 142 Q9
  refine qG.br (P := isInV s 0 15 = 0) (pc1 := 7) (pc2 := 9) (st1 := []) rfl (fun h1 => ?_) (fun h1 => ?_)
  · skip
    rw [isIn_b] at h1
    refine qG.blk 1 (pc' := 8) (ls' := [(2, 69), (0, s), (0, b)]) (st' := [(0, 0)]) (w' := w) (n' := 142) rfl ?_
    refine qG.ret rfl (by first | rfl | exact decide_eq_true (by omega)) ?_
    subst hQ9
    refine ⟨rfl, ?_⟩; first | exact .inl ⟨rfl, rfl⟩ | exact .inr ⟨rfl, (by simp (disch := decide) only [qup_j, qup_k]), (fun q k h => by first | (rw [qup_f (fun z => h ⟨z.1, .inr z.2⟩), qup_f (fun z => h ⟨z.1, .inl z.2⟩)]; done))⟩
  · skip
    rw [isIn_p] at h1
    refine qG.blk 2 (pc' := 11) (ls' := [(2, 69), (0, s), (0, b)]) (st' := [(0, b), (2, 69)]) (w' := w) (n' := 142) rfl ?_
    refine qG.br (P := b = 0) (pc1 := 25) (pc2 := 14) (st1 := [(2, 69)]) rfl (fun hb0 => ?_) (fun hb0 => ?_)
    · skip
      refine qG.blk 12 (pc' := 43) (ls' := [(2, 69), (0, s), (0, b)]) (st' := [(0, w 69 1), (2, 69)]) (w' := (qup w 69 0 (qand (w 69 0) (qxor (qshl 1 s) (-1))))) (n' := 142) rfl ?_
      refine qG.blk 2 (pc' := 45) (ls' := [(2, 69), (0, s), (0, b)]) (st' := [(0, wrp ((w 69 1) + 1)), (2, 69)]) (w' := (qup w 69 0 (qand (w 69 0) (qxor (qshl 1 s) (-1))))) (n' := 142) rfl ?_
      refine qG.blk 2 (pc' := 49) (ls' := [(2, 69), (0, s), (0, b)]) (st' := [(0, 1)]) (w' := (qup (qup w 69 0 (qand (w 69 0) (qxor (qshl 1 s) (-1)))) 69 1 (wrp ((w 69 1) + 1)))) (n' := 142) rfl ?_
      refine qG.ret rfl (by first | rfl | exact decide_eq_true (by omega)) ?_
      subst hQ9
      refine ⟨rfl, ?_⟩; first | exact .inl ⟨rfl, rfl⟩ | exact .inr ⟨rfl, (by simp (disch := decide) only [qup_j, qup_k]), (fun q k h => by first | (rw [qup_f (fun z => h ⟨z.1, .inr z.2⟩), qup_f (fun z => h ⟨z.1, .inl z.2⟩)]; done))⟩
    · skip
      refine qG.blk 12 (pc' := 44) (ls' := [(2, 69), (0, s), (0, b)]) (st' := [(0, 1), (0, w 69 1), (2, 69)]) (w' := (qup w 69 0 (qor (w 69 0) (qshl 1 s)))) (n' := 142) rfl ?_
      refine qG.blk 1 (pc' := 45) (ls' := [(2, 69), (0, s), (0, b)]) (st' := [(0, wrp ((w 69 1) + 1)), (2, 69)]) (w' := (qup w 69 0 (qor (w 69 0) (qshl 1 s)))) (n' := 142) rfl ?_
      refine qG.blk 2 (pc' := 49) (ls' := [(2, 69), (0, s), (0, b)]) (st' := [(0, 1)]) (w' := (qup (qup w 69 0 (qor (w 69 0) (qshl 1 s))) 69 1 (wrp ((w 69 1) + 1)))) (n' := 142) rfl ?_
      refine qG.ret rfl (by first | rfl | exact decide_eq_true (by omega)) ?_
      subst hQ9
      refine ⟨rfl, ?_⟩; first | exact .inl ⟨rfl, rfl⟩ | exact .inr ⟨rfl, (by simp (disch := decide) only [qup_j, qup_k]), (fun q k h => by first | (rw [qup_f (fun z => h ⟨z.1, .inr z.2⟩), qup_f (fun z => h ⟨z.1, .inl z.2⟩)]; done))⟩
theorem K_putWorks274 {d : Nat} (hd : 1 ≤ d) (s b : Int) (w : qW) (hI : yInv zgf zga zra zSp w) : qG none d 20 0 [(2, 74), (0, s), (0, b)] [] w 142 (fun (r : qV) (w1 : qW) (n1 : Nat) => n1 = 142 ∧ pw2E 74 s b w r w1) := by
  generalize hQ9 : (fun (r : qV) (w1 : qW) (n1 : Nat) => n1 = 142 ∧ pw2E 74 s b w r w1) = Q9
  obtain ⟨d, rfl⟩ : ∃ d9, d = d9 + 1 := ⟨d - 1, by omega⟩
  refine qG.blk 1 (pc' := 1) (ls' := [(2, 74), (0, s), (0, b)]) (st' := [(0, s)]) (w' := w) (n' := 142) rfl ?_
  refine qG.call (t := 19) (na := 1) (sk := 0) (md := 0) (ls1 := [(0, s)]) (r1 := []) rfl rfl rfl rfl rfl (K_X2_isSpace (Nat.zero_le _) _ _) ?_
  rintro _ w7 _ ⟨rfl, hw7, rfl⟩
  rw [hw7]
  show qG none (d + 1) 20 4 [(2, 74), (0, s), (0, b)] [(0, isInV s 0 15)] w 142 Q9
  refine qG.br (P := isInV s 0 15 = 0) (pc1 := 7) (pc2 := 9) (st1 := []) rfl (fun h1 => ?_) (fun h1 => ?_)
  · skip
    rw [isIn_b] at h1
    refine qG.blk 1 (pc' := 8) (ls' := [(2, 74), (0, s), (0, b)]) (st' := [(0, 0)]) (w' := w) (n' := 142) rfl ?_
    refine qG.ret rfl (by first | rfl | exact decide_eq_true (by omega)) ?_
    subst hQ9
    refine ⟨rfl, ?_⟩; first | exact .inl ⟨rfl, rfl⟩ | exact .inr ⟨rfl, (by simp (disch := decide) only [qup_j, qup_k]), (fun q k h => by first | (rw [qup_f (fun z => h ⟨z.1, .inr z.2⟩), qup_f (fun z => h ⟨z.1, .inl z.2⟩)]; done))⟩
  · skip
    rw [isIn_p] at h1
    refine qG.blk 2 (pc' := 11) (ls' := [(2, 74), (0, s), (0, b)]) (st' := [(0, b), (2, 74)]) (w' := w) (n' := 142) rfl ?_
    refine qG.br (P := b = 0) (pc1 := 25) (pc2 := 14) (st1 := [(2, 74)]) rfl (fun hb0 => ?_) (fun hb0 => ?_)
    · skip
      refine qG.blk 12 (pc' := 43) (ls' := [(2, 74), (0, s), (0, b)]) (st' := [(0, w 74 1), (2, 74)]) (w' := (qup w 74 0 (qand (w 74 0) (qxor (qshl 1 s) (-1))))) (n' := 142) rfl ?_
      refine qG.blk 2 (pc' := 45) (ls' := [(2, 74), (0, s), (0, b)]) (st' := [(0, wrp ((w 74 1) + 1)), (2, 74)]) (w' := (qup w 74 0 (qand (w 74 0) (qxor (qshl 1 s) (-1))))) (n' := 142) rfl ?_
      refine qG.blk 2 (pc' := 49) (ls' := [(2, 74), (0, s), (0, b)]) (st' := [(0, 1)]) (w' := (qup (qup w 74 0 (qand (w 74 0) (qxor (qshl 1 s) (-1)))) 74 1 (wrp ((w 74 1) + 1)))) (n' := 142) rfl ?_
      refine qG.ret rfl (by first | rfl | exact decide_eq_true (by omega)) ?_
      subst hQ9
      refine ⟨rfl, ?_⟩; first | exact .inl ⟨rfl, rfl⟩ | exact .inr ⟨rfl, (by simp (disch := decide) only [qup_j, qup_k]), (fun q k h => by first | (rw [qup_f (fun z => h ⟨z.1, .inr z.2⟩), qup_f (fun z => h ⟨z.1, .inl z.2⟩)]; done))⟩
    · skip
      refine qG.blk 12 (pc' := 44) (ls' := [(2, 74), (0, s), (0, b)]) (st' := [(0, 1), (0, w 74 1), (2, 74)]) (w' := (qup w 74 0 (qor (w 74 0) (qshl 1 s)))) (n' := 142) rfl ?_
      refine qG.blk 1 (pc' := 45) (ls' := [(2, 74), (0, s), (0, b)]) (st' := [(0, wrp ((w 74 1) + 1)), (2, 74)]) (w' := (qup w 74 0 (qor (w 74 0) (qshl 1 s)))) (n' := 142) rfl ?_
      refine qG.blk 2 (pc' := 49) (ls' := [(2, 74), (0, s), (0, b)]) (st' := [(0, 1)]) (w' := (qup (qup w 74 0 (qor (w 74 0) (qshl 1 s))) 74 1 (wrp ((w 74 1) + 1)))) (n' := 142) rfl ?_
      refine qG.ret rfl (by first | rfl | exact decide_eq_true (by omega)) ?_
      subst hQ9
      refine ⟨rfl, ?_⟩; first | exact .inl ⟨rfl, rfl⟩ | exact .inr ⟨rfl, (by simp (disch := decide) only [qup_j, qup_k]), (fun q k h => by first | (rw [qup_f (fun z => h ⟨z.1, .inr z.2⟩), qup_f (fun z => h ⟨z.1, .inl z.2⟩)]; done))⟩
theorem K_X11_works2_0 {d : Nat} (hd : 2 ≤ d) (s b : Int) (w : qW) (hI : yInv zgf zga zra zSp w) : qG none d 164 0 [(2, 1), (0, 0), (0, s), (0, b)] [] w 142 (fun (r : qV) (w1 : qW) (_ : Nat) => wk2X 0 w r w1) := by
  generalize hQ9 : (fun (r : qV) (w1 : qW) (_ : Nat) => wk2X 0 w r w1) = Q9
  obtain ⟨d, rfl⟩ : ∃ d9, d = d9 + 1 := ⟨d - 1, by omega⟩
  refine qG.blk 1 (pc' := 1) (ls' := [(2, 1), (0, 0), (0, s), (0, b)]) (st' := [(0, 0)]) (w' := w) (n' := 142) rfl ?_
  refine qG.call (t := 198) (na := 1) (sk := 0) (md := 0) (ls1 := [(0, 0)]) (r1 := []) rfl rfl rfl rfl rfl (K_X11_isChest (Nat.zero_le _) _ _) ?_
  rintro _ w7 _ ⟨rfl, hw7, rfl⟩
  rw [hw7, show isInV 0 0 2 = 1 from by decide]
  show qG none (d + 1) 164 4 [(2, 1), (0, 0), (0, s), (0, b)] [(0, 1)] w 142 Q9
  refine qG.br (P := (1 : Int) = 0) (pc1 := 25) (pc2 := 7) (st1 := []) rfl (fun h1 => ?_) (fun h1 => ?_)
  · exact absurd h1 (by decide)
  · skip
    refine qG.blk 2 (pc' := 11) (ls' := [(2, 1), (0, 0), (0, s), (0, b)]) (st' := [(2, w 1 0)]) (w' := w) (n' := 142) rfl ?_
    rw [show w 1 0 = 2 from zref hI rfl rfl]
    refine qG.blk 1 (pc' := 12) (ls' := [(2, 1), (0, 0), (0, s), (0, b)]) (st' := [(0, 0), (2, 2)]) (w' := w) (n' := 142) rfl ?_
    refine qG.ar (P := 0 ≤ 0 ∧ 0 < ((3 : Nat) : Int)) (P2 := 0 < (2 : Int) ∧ (2 : Int) ≤ ((142 : Nat) : Int)) (pc' := 13) (ls' := [(2, 1), (0, 0), (0, s), (0, b)]) (st' := [(2, w 2 0)]) (w' := w) (n' := 142) rfl (by omega) (by decide) ?_
    rw [show w 2 0 = 64 from zref hI rfl rfl]
    refine qG.blk 2 (pc' := 15) (ls' := [(2, 1), (0, 0), (0, s), (0, b)]) (st' := [(0, b), (0, s), (2, 64)]) (w' := w) (n' := 142) rfl ?_
    refine qG.call (t := 20) (na := 3) (sk := 1) (md := 1) (ls1 := [(2, 64), (0, s), (0, b)]) (r1 := []) rfl rfl rfl rfl rfl (K_putWorks264 (by omega) s b w hI) ?_
    rintro ⟨_, x9⟩ w1 _ ⟨rfl, hE⟩; rcases hE with ⟨hx9, hw1⟩ | ⟨hx9, hE⟩ <;> obtain ⟨rfl, rfl⟩ := Prod.mk.inj hx9
    · skip
      show qG none (d + 1) 164 18 [(2, 1), (0, 0), (0, s), (0, b)] [(0, 0)] w1 142 Q9
      refine qG.br (P := (0 : Int) = 0) (pc1 := 25) (pc2 := 21) (st1 := []) rfl (fun h2 => ?_) (fun h2 => ?_)
      · skip
        refine qG.blk 1 (pc' := 26) (ls' := [(2, 1), (0, 0), (0, s), (0, b)]) (st' := [(0, 0)]) (w' := w1) (n' := 142) rfl ?_
        refine qG.ret rfl (by first | rfl | exact decide_eq_true (by omega)) ?_
        subst hQ9
        first | exact .inl ⟨rfl, hw1⟩ | exact .inr ⟨rfl, 0, rfl, by decide, hE⟩
      · exact absurd h2 (by decide)
    · skip
      show qG none (d + 1) 164 18 [(2, 1), (0, 0), (0, s), (0, b)] [(0, 1)] w1 142 Q9
      refine qG.br (P := (1 : Int) = 0) (pc1 := 25) (pc2 := 21) (st1 := []) rfl (fun h3 => ?_) (fun h3 => ?_)
      · exact absurd h3 (by decide)
      · skip
        refine qG.blk 2 (pc' := 26) (ls' := [(2, 1), (0, 0), (0, s), (0, b)]) (st' := [(0, 1)]) (w' := w1) (n' := 142) rfl ?_
        refine qG.ret rfl (by first | rfl | exact decide_eq_true (by omega)) ?_
        subst hQ9
        first | exact .inl ⟨rfl, hw1⟩ | exact .inr ⟨rfl, 0, rfl, by decide, hE⟩
theorem K_X11_works2_1 {d : Nat} (hd : 2 ≤ d) (s b : Int) (w : qW) (hI : yInv zgf zga zra zSp w) : qG none d 164 0 [(2, 1), (0, 1), (0, s), (0, b)] [] w 142 (fun (r : qV) (w1 : qW) (_ : Nat) => wk2X 1 w r w1) := by
  generalize hQ9 : (fun (r : qV) (w1 : qW) (_ : Nat) => wk2X 1 w r w1) = Q9
  obtain ⟨d, rfl⟩ : ∃ d9, d = d9 + 1 := ⟨d - 1, by omega⟩
  refine qG.blk 1 (pc' := 1) (ls' := [(2, 1), (0, 1), (0, s), (0, b)]) (st' := [(0, 1)]) (w' := w) (n' := 142) rfl ?_
  refine qG.call (t := 198) (na := 1) (sk := 0) (md := 0) (ls1 := [(0, 1)]) (r1 := []) rfl rfl rfl rfl rfl (K_X11_isChest (Nat.zero_le _) _ _) ?_
  rintro _ w7 _ ⟨rfl, hw7, rfl⟩
  rw [hw7, show isInV 1 0 2 = 1 from by decide]
  show qG none (d + 1) 164 4 [(2, 1), (0, 1), (0, s), (0, b)] [(0, 1)] w 142 Q9
  refine qG.br (P := (1 : Int) = 0) (pc1 := 25) (pc2 := 7) (st1 := []) rfl (fun h1 => ?_) (fun h1 => ?_)
  · exact absurd h1 (by decide)
  · skip
    refine qG.blk 2 (pc' := 11) (ls' := [(2, 1), (0, 1), (0, s), (0, b)]) (st' := [(2, w 1 0)]) (w' := w) (n' := 142) rfl ?_
    rw [show w 1 0 = 2 from zref hI rfl rfl]
    refine qG.blk 1 (pc' := 12) (ls' := [(2, 1), (0, 1), (0, s), (0, b)]) (st' := [(0, 1), (2, 2)]) (w' := w) (n' := 142) rfl ?_
    refine qG.ar (P := 0 ≤ 1 ∧ 1 < ((3 : Nat) : Int)) (P2 := 0 < (2 : Int) ∧ (2 : Int) ≤ ((142 : Nat) : Int)) (pc' := 13) (ls' := [(2, 1), (0, 1), (0, s), (0, b)]) (st' := [(2, w 2 1)]) (w' := w) (n' := 142) rfl (by omega) (by decide) ?_
    rw [show w 2 1 = 69 from zref hI rfl rfl]
    refine qG.blk 2 (pc' := 15) (ls' := [(2, 1), (0, 1), (0, s), (0, b)]) (st' := [(0, b), (0, s), (2, 69)]) (w' := w) (n' := 142) rfl ?_
    refine qG.call (t := 20) (na := 3) (sk := 1) (md := 1) (ls1 := [(2, 69), (0, s), (0, b)]) (r1 := []) rfl rfl rfl rfl rfl (K_putWorks269 (by omega) s b w hI) ?_
    rintro ⟨_, x9⟩ w1 _ ⟨rfl, hE⟩; rcases hE with ⟨hx9, hw1⟩ | ⟨hx9, hE⟩ <;> obtain ⟨rfl, rfl⟩ := Prod.mk.inj hx9
    · skip
      show qG none (d + 1) 164 18 [(2, 1), (0, 1), (0, s), (0, b)] [(0, 0)] w1 142 Q9
      refine qG.br (P := (0 : Int) = 0) (pc1 := 25) (pc2 := 21) (st1 := []) rfl (fun h2 => ?_) (fun h2 => ?_)
      · skip
        refine qG.blk 1 (pc' := 26) (ls' := [(2, 1), (0, 1), (0, s), (0, b)]) (st' := [(0, 0)]) (w' := w1) (n' := 142) rfl ?_
        refine qG.ret rfl (by first | rfl | exact decide_eq_true (by omega)) ?_
        subst hQ9
        first | exact .inl ⟨rfl, hw1⟩ | exact .inr ⟨rfl, 1, rfl, by decide, hE⟩
      · exact absurd h2 (by decide)
    · skip
      show qG none (d + 1) 164 18 [(2, 1), (0, 1), (0, s), (0, b)] [(0, 1)] w1 142 Q9
      refine qG.br (P := (1 : Int) = 0) (pc1 := 25) (pc2 := 21) (st1 := []) rfl (fun h3 => ?_) (fun h3 => ?_)
      · exact absurd h3 (by decide)
      · skip
        refine qG.blk 2 (pc' := 26) (ls' := [(2, 1), (0, 1), (0, s), (0, b)]) (st' := [(0, 1)]) (w' := w1) (n' := 142) rfl ?_
        refine qG.ret rfl (by first | rfl | exact decide_eq_true (by omega)) ?_
        subst hQ9
        first | exact .inl ⟨rfl, hw1⟩ | exact .inr ⟨rfl, 1, rfl, by decide, hE⟩
theorem K_X11_works2_2 {d : Nat} (hd : 2 ≤ d) (s b : Int) (w : qW) (hI : yInv zgf zga zra zSp w) : qG none d 164 0 [(2, 1), (0, 2), (0, s), (0, b)] [] w 142 (fun (r : qV) (w1 : qW) (_ : Nat) => wk2X 2 w r w1) := by
  generalize hQ9 : (fun (r : qV) (w1 : qW) (_ : Nat) => wk2X 2 w r w1) = Q9
  obtain ⟨d, rfl⟩ : ∃ d9, d = d9 + 1 := ⟨d - 1, by omega⟩
  refine qG.blk 1 (pc' := 1) (ls' := [(2, 1), (0, 2), (0, s), (0, b)]) (st' := [(0, 2)]) (w' := w) (n' := 142) rfl ?_
  refine qG.call (t := 198) (na := 1) (sk := 0) (md := 0) (ls1 := [(0, 2)]) (r1 := []) rfl rfl rfl rfl rfl (K_X11_isChest (Nat.zero_le _) _ _) ?_
  rintro _ w7 _ ⟨rfl, hw7, rfl⟩
  rw [hw7, show isInV 2 0 2 = 1 from by decide]
  show qG none (d + 1) 164 4 [(2, 1), (0, 2), (0, s), (0, b)] [(0, 1)] w 142 Q9
  refine qG.br (P := (1 : Int) = 0) (pc1 := 25) (pc2 := 7) (st1 := []) rfl (fun h1 => ?_) (fun h1 => ?_)
  · exact absurd h1 (by decide)
  · skip
    refine qG.blk 2 (pc' := 11) (ls' := [(2, 1), (0, 2), (0, s), (0, b)]) (st' := [(2, w 1 0)]) (w' := w) (n' := 142) rfl ?_
    rw [show w 1 0 = 2 from zref hI rfl rfl]
    refine qG.blk 1 (pc' := 12) (ls' := [(2, 1), (0, 2), (0, s), (0, b)]) (st' := [(0, 2), (2, 2)]) (w' := w) (n' := 142) rfl ?_
    refine qG.ar (P := 0 ≤ 2 ∧ 2 < ((3 : Nat) : Int)) (P2 := 0 < (2 : Int) ∧ (2 : Int) ≤ ((142 : Nat) : Int)) (pc' := 13) (ls' := [(2, 1), (0, 2), (0, s), (0, b)]) (st' := [(2, w 2 2)]) (w' := w) (n' := 142) rfl (by omega) (by decide) ?_
    rw [show w 2 2 = 74 from zref hI rfl rfl]
    refine qG.blk 2 (pc' := 15) (ls' := [(2, 1), (0, 2), (0, s), (0, b)]) (st' := [(0, b), (0, s), (2, 74)]) (w' := w) (n' := 142) rfl ?_
    refine qG.call (t := 20) (na := 3) (sk := 1) (md := 1) (ls1 := [(2, 74), (0, s), (0, b)]) (r1 := []) rfl rfl rfl rfl rfl (K_putWorks274 (by omega) s b w hI) ?_
    rintro ⟨_, x9⟩ w1 _ ⟨rfl, hE⟩; rcases hE with ⟨hx9, hw1⟩ | ⟨hx9, hE⟩ <;> obtain ⟨rfl, rfl⟩ := Prod.mk.inj hx9
    · skip
      show qG none (d + 1) 164 18 [(2, 1), (0, 2), (0, s), (0, b)] [(0, 0)] w1 142 Q9
      refine qG.br (P := (0 : Int) = 0) (pc1 := 25) (pc2 := 21) (st1 := []) rfl (fun h2 => ?_) (fun h2 => ?_)
      · skip
        refine qG.blk 1 (pc' := 26) (ls' := [(2, 1), (0, 2), (0, s), (0, b)]) (st' := [(0, 0)]) (w' := w1) (n' := 142) rfl ?_
        refine qG.ret rfl (by first | rfl | exact decide_eq_true (by omega)) ?_
        subst hQ9
        first | exact .inl ⟨rfl, hw1⟩ | exact .inr ⟨rfl, 2, rfl, by decide, hE⟩
      · exact absurd h2 (by decide)
    · skip
      show qG none (d + 1) 164 18 [(2, 1), (0, 2), (0, s), (0, b)] [(0, 1)] w1 142 Q9
      refine qG.br (P := (1 : Int) = 0) (pc1 := 25) (pc2 := 21) (st1 := []) rfl (fun h3 => ?_) (fun h3 => ?_)
      · exact absurd h3 (by decide)
      · skip
        refine qG.blk 2 (pc' := 26) (ls' := [(2, 1), (0, 2), (0, s), (0, b)]) (st' := [(0, 1)]) (w' := w1) (n' := 142) rfl ?_
        refine qG.ret rfl (by first | rfl | exact decide_eq_true (by omega)) ?_
        subst hQ9
        first | exact .inl ⟨rfl, hw1⟩ | exact .inr ⟨rfl, 2, rfl, by decide, hE⟩
theorem K_X11_works2_n {d : Nat} (hd : 2 ≤ d) (c s b : Int) (hc : isInV c 0 2 = 0) (w : qW) (hI : yInv zgf zga zra zSp w) : qG none d 164 0 [(2, 1), (0, c), (0, s), (0, b)] [] w 142 (fun (r : qV) (w1 : qW) (_ : Nat) => wk2X c w r w1) := by
  generalize hQ9 : (fun (r : qV) (w1 : qW) (_ : Nat) => wk2X c w r w1) = Q9
  obtain ⟨d, rfl⟩ : ∃ d9, d = d9 + 1 := ⟨d - 1, by omega⟩
  refine qG.blk 1 (pc' := 1) (ls' := [(2, 1), (0, c), (0, s), (0, b)]) (st' := [(0, c)]) (w' := w) (n' := 142) rfl ?_
  refine qG.call (t := 198) (na := 1) (sk := 0) (md := 0) (ls1 := [(0, c)]) (r1 := []) rfl rfl rfl rfl rfl (K_X11_isChest (Nat.zero_le _) _ _) ?_
  rintro _ w7 _ ⟨rfl, hw7, rfl⟩
  rw [hw7]
  show qG none (d + 1) 164 4 [(2, 1), (0, c), (0, s), (0, b)] [(0, isInV c 0 2)] w 142 Q9
  refine qG.br (P := isInV c 0 2 = 0) (pc1 := 25) (pc2 := 7) (st1 := []) rfl (fun hc0 => ?_) (fun hc0 => ?_)
  · skip
    refine qG.blk 1 (pc' := 26) (ls' := [(2, 1), (0, c), (0, s), (0, b)]) (st' := [(0, 0)]) (w' := w) (n' := 142) rfl ?_
    refine qG.ret rfl (by first | rfl | exact decide_eq_true (by omega)) ?_
    subst hQ9
    exact .inl ⟨rfl, rfl⟩
  · exfalso; exact hc0 hc
theorem K_X11_works2 {d : Nat} (hd : 2 ≤ d) (c s b : Int) (w : qW) (hI : yInv zgf zga zra zSp w) : qG none d 164 0 (qini 164 [(2, 1), (0, c), (0, s), (0, b)]) [] w 142 (fun (r : qV) (w1 : qW) (_ : Nat) => wk2X c w r w1) := by
  by_cases h : isInV c 0 2 = 0
  · exact K_X11_works2_n hd c s b h w hI
  · obtain ⟨n, rfl, h1, h2⟩ := isIn_n (by decide) h
    rcases (show n = 0 ∨ n = 1 ∨ n = 2 by omega) with rfl | rfl | rfl
    · exact K_X11_works2_0 hd s b w hI
    · exact K_X11_works2_1 hd s b w hI
    · exact K_X11_works2_2 hd s b w hI
theorem K_X12_works2 {d : Nat} (hd : 2 ≤ d) (c s b : Int) (w : qW) (hI : yInv zgf zga zra zSp w) : qG none d 214 0 [(2, 95), (0, c), (0, s), (0, b)] [] w 142 (fun (r : qV) (w1 : qW) (_ : Nat) => wk2R w r w1) := by
  generalize hQ9 : (fun (r : qV) (w1 : qW) (_ : Nat) => wk2R w r w1) = Q9
  obtain ⟨d, rfl⟩ : ∃ d9, d = d9 + 1 := ⟨d - 1, by omega⟩
  refine qG.blk 1 (pc' := 1) (ls' := [(2, 95), (0, c), (0, s), (0, b)]) (st' := [(0, c)]) (w' := w) (n' := 142) rfl ?_
  refine qG.call (t := 207) (na := 1) (sk := 0) (md := 0) (ls1 := [(0, c)]) (r1 := []) rfl rfl rfl rfl rfl (K_isChest (by omega) _ _) ?_
  rintro _ w7 _ ⟨rfl, hw7, rfl⟩
  rw [hw7]
  show qG none (d + 1) 214 4 [(2, 95), (0, c), (0, s), (0, b)] [(0, isInV c 0 2)] w 142 Q9
  refine qG.br (P := isInV c 0 2 = 0) (pc1 := 14) (pc2 := 7) (st1 := []) rfl (fun h1 => ?_) (fun h1 => ?_)
  · skip
    rw [isIn_b] at h1
    refine qG.blk 1 (pc' := 15) (ls' := [(2, 95), (0, c), (0, s), (0, b)]) (st' := [(0, 0)]) (w' := w) (n' := 142) rfl ?_
    refine qG.ret rfl (by first | rfl | exact decide_eq_true (by omega)) ?_
    subst hQ9
    first | exact .inl ⟨rfl, rfl⟩ | exact .inr ⟨rfl, by simp (disch := decide) only [qup_ne, qup_k]⟩
  · skip
    rw [isIn_p] at h1
    obtain ⟨c9, rfl⟩ : ∃ q : Nat, c = (q : Int) := ⟨c.toNat, by omega⟩
    refine qG.blk 1 (pc' := 8) (ls' := [(2, 95), (0, ((c9 : Nat) : Int)), (0, s), (0, b)]) (st' := [(0, s)]) (w' := w) (n' := 142) rfl ?_
    refine qG.call (t := 208) (na := 1) (sk := 0) (md := 0) (ls1 := [(0, s)]) (r1 := []) rfl rfl rfl rfl rfl (K_X12_isSpace (by omega) _ _) ?_
    rintro _ w7 _ ⟨rfl, hw7, rfl⟩
    rw [hw7]
    show qG none (d + 1) 214 11 [(2, 95), (0, ((c9 : Nat) : Int)), (0, s), (0, b)] [(0, isInV s 0 15)] w 142 Q9
    refine qG.br (P := isInV s 0 15 = 0) (pc1 := 14) (pc2 := 16) (st1 := []) rfl (fun h2 => ?_) (fun h2 => ?_)
    · skip
      rw [isIn_b] at h2
      refine qG.blk 1 (pc' := 15) (ls' := [(2, 95), (0, ((c9 : Nat) : Int)), (0, s), (0, b)]) (st' := [(0, 0)]) (w' := w) (n' := 142) rfl ?_
      refine qG.ret rfl (by first | rfl | exact decide_eq_true (by omega)) ?_
      subst hQ9
      first | exact .inl ⟨rfl, rfl⟩ | exact .inr ⟨rfl, by simp (disch := decide) only [qup_ne, qup_k]⟩
    · skip
      rw [isIn_p] at h2
      refine qG.blk 5 (pc' := 25) (ls' := [(2, 95), (0, ((c9 : Nat) : Int)), (0, s), (0, b)]) (st' := [(2, w 95 0)]) (w' := (qup w 95 9 (-1))) (n' := 142) rfl ?_
      rw [show w 95 0 = 96 from zref hI rfl rfl]
      refine qG.blk 2 (pc' := 27) (ls' := [(2, 95), (0, ((c9 : Nat) : Int)), (0, s), (0, b)]) (st' := [(0, b), (0, ((c9 : Nat) : Int)), (2, 96)]) (w' := (qup w 95 9 (-1))) (n' := 142) rfl ?_
      refine qG.br (P := b = 0) (pc1 := 43) (pc2 := 30) (st1 := [(0, ((c9 : Nat) : Int)), (2, 96)]) rfl (fun hb0 => ?_) (fun hb0 => ?_)
      · skip
        refine qG.blk 2 (pc' := 47) (ls' := [(2, 95), (0, ((c9 : Nat) : Int)), (0, s), (0, b)]) (st' := [(2, w 95 0), (0, ((c9 : Nat) : Int)), (2, 96)]) (w' := (qup w 95 9 (-1))) (n' := 142) rfl ?_
        rw [show w 95 0 = 96 from zref hI rfl rfl]
        refine qG.blk 1 (pc' := 48) (ls' := [(2, 95), (0, ((c9 : Nat) : Int)), (0, s), (0, b)]) (st' := [(0, ((c9 : Nat) : Int)), (2, 96), (0, ((c9 : Nat) : Int)), (2, 96)]) (w' := (qup w 95 9 (-1))) (n' := 142) rfl ?_
        refine qG.ar (P := 0 ≤ ((c9 : Nat) : Int) ∧ ((c9 : Nat) : Int) < ((3 : Nat) : Int)) (P2 := 0 < (96 : Int) ∧ (96 : Int) ≤ ((142 : Nat) : Int)) (pc' := 49) (ls' := [(2, 95), (0, ((c9 : Nat) : Int)), (0, s), (0, b)]) (st' := [(0, w 96 c9), (0, ((c9 : Nat) : Int)), (2, 96)]) (w' := (qup w 95 9 (-1))) (n' := 142) rfl (by omega) (by decide) ?_
        refine qG.blk 6 (pc' := 55) (ls' := [(2, 95), (0, ((c9 : Nat) : Int)), (0, s), (0, b)]) (st' := [(0, qand (w 96 c9) (qxor (qshl 1 s) (-1))), (0, ((c9 : Nat) : Int)), (2, 96)]) (w' := (qup w 95 9 (-1))) (n' := 142) rfl ?_
        refine qG.ar (P := 0 ≤ ((c9 : Nat) : Int) ∧ ((c9 : Nat) : Int) < ((3 : Nat) : Int)) (P2 := 0 < (96 : Int) ∧ (96 : Int) ≤ ((142 : Nat) : Int)) (pc' := 56) (ls' := [(2, 95), (0, ((c9 : Nat) : Int)), (0, s), (0, b)]) (st' := []) (w' := (qup (qup w 95 9 (-1)) 96 c9 (qand (w 96 c9) (qxor (qshl 1 s) (-1))))) (n' := 142) rfl (by omega) (by decide) ?_
        refine qG.blk 1 (pc' := 57) (ls' := [(2, 95), (0, ((c9 : Nat) : Int)), (0, s), (0, b)]) (st' := [(0, 1)]) (w' := (qup (qup w 95 9 (-1)) 96 c9 (qand (w 96 c9) (qxor (qshl 1 s) (-1))))) (n' := 142) rfl ?_
        refine qG.ret rfl (by first | rfl | exact decide_eq_true (by omega)) ?_
        subst hQ9
        first | exact .inl ⟨rfl, rfl⟩ | exact .inr ⟨rfl, by simp (disch := decide) only [qup_ne, qup_k]⟩
      · skip
        refine qG.blk 2 (pc' := 34) (ls' := [(2, 95), (0, ((c9 : Nat) : Int)), (0, s), (0, b)]) (st' := [(2, w 95 0), (0, ((c9 : Nat) : Int)), (2, 96)]) (w' := (qup w 95 9 (-1))) (n' := 142) rfl ?_
        rw [show w 95 0 = 96 from zref hI rfl rfl]
        refine qG.blk 1 (pc' := 35) (ls' := [(2, 95), (0, ((c9 : Nat) : Int)), (0, s), (0, b)]) (st' := [(0, ((c9 : Nat) : Int)), (2, 96), (0, ((c9 : Nat) : Int)), (2, 96)]) (w' := (qup w 95 9 (-1))) (n' := 142) rfl ?_
        refine qG.ar (P := 0 ≤ ((c9 : Nat) : Int) ∧ ((c9 : Nat) : Int) < ((3 : Nat) : Int)) (P2 := 0 < (96 : Int) ∧ (96 : Int) ≤ ((142 : Nat) : Int)) (pc' := 36) (ls' := [(2, 95), (0, ((c9 : Nat) : Int)), (0, s), (0, b)]) (st' := [(0, w 96 c9), (0, ((c9 : Nat) : Int)), (2, 96)]) (w' := (qup w 95 9 (-1))) (n' := 142) rfl (by omega) (by decide) ?_
        refine qG.blk 5 (pc' := 55) (ls' := [(2, 95), (0, ((c9 : Nat) : Int)), (0, s), (0, b)]) (st' := [(0, qor (w 96 c9) (qshl 1 s)), (0, ((c9 : Nat) : Int)), (2, 96)]) (w' := (qup w 95 9 (-1))) (n' := 142) rfl ?_
        refine qG.ar (P := 0 ≤ ((c9 : Nat) : Int) ∧ ((c9 : Nat) : Int) < ((3 : Nat) : Int)) (P2 := 0 < (96 : Int) ∧ (96 : Int) ≤ ((142 : Nat) : Int)) (pc' := 56) (ls' := [(2, 95), (0, ((c9 : Nat) : Int)), (0, s), (0, b)]) (st' := []) (w' := (qup (qup w 95 9 (-1)) 96 c9 (qor (w 96 c9) (qshl 1 s)))) (n' := 142) rfl (by omega) (by decide) ?_
        refine qG.blk 1 (pc' := 57) (ls' := [(2, 95), (0, ((c9 : Nat) : Int)), (0, s), (0, b)]) (st' := [(0, 1)]) (w' := (qup (qup w 95 9 (-1)) 96 c9 (qor (w 96 c9) (qshl 1 s)))) (n' := 142) rfl ?_
        refine qG.ret rfl (by first | rfl | exact decide_eq_true (by omega)) ?_
        subst hQ9
        first | exact .inl ⟨rfl, rfl⟩ | exact .inr ⟨rfl, by simp (disch := decide) only [qup_ne, qup_k]⟩
theorem K_putWallE64 {d : Nat} (hd : 2 ≤ d) (s t b : Int) (w : qW) (hI : yInv zgf zga zra zSp w) : qG none d 21 0 [(2, 64), (0, s), (0, t), (0, b)] [] w 142 (fun (r : qV) (w1 : qW) (n1 : Nat) => n1 = 142 ∧ wlE 64 s t b w r w1) := by
  generalize hQ9 : (fun (r : qV) (w1 : qW) (n1 : Nat) => n1 = 142 ∧ wlE 64 s t b w r w1) = Q9
  obtain ⟨d, rfl⟩ : ∃ d9, d = d9 + 1 := ⟨d - 1, by omega⟩
  refine qG.blk 1 (pc' := 1) (ls' := [(2, 64), (0, s), (0, t), (0, b)]) (st' := [(0, s)]) (w' := w) (n' := 142) rfl ?_
  refine qG.call (t := 19) (na := 1) (sk := 0) (md := 0) (ls1 := [(0, s)]) (r1 := []) rfl rfl rfl rfl rfl (K_X2_isSpace (Nat.zero_le _) _ _) ?_
  rintro _ w7 _ ⟨rfl, hw7, rfl⟩
  rw [hw7]
  show qG none (d + 1) 21 4 [(2, 64), (0, s), (0, t), (0, b)] [(0, isInV s 0 15)] w 142 Q9
  refine qG.br (P := isInV s 0 15 = 0) (pc1 := 22) (pc2 := 7) (st1 := []) rfl (fun hs0 => ?_) (fun hs0 => ?_)
  · skip
    refine qG.blk 1 (pc' := 23) (ls' := [(2, 64), (0, s), (0, t), (0, b)]) (st' := [(0, 0)]) (w' := w) (n' := 142) rfl ?_
    refine qG.ret rfl (by first | rfl | exact decide_eq_true (by omega)) ?_
    subst hQ9
    refine ⟨rfl, ?_⟩; first | exact .inl ⟨(by unfold pwV; first | (rw [if_pos hs0]; done) | (rw [if_neg hs0, if_pos ht0]; done) | (rw [if_neg hs0, if_neg ht0, Int.toNat_natCast, Int.toNat_natCast, if_neg (ite01.mp hnb)]; done)), rfl, rfl⟩ | (exfalso; exact hb1 hb0) | (exfalso; exact hb0 hb1) | exact .inr ⟨(by unfold pwV; rw [if_neg hs0, if_neg ht0, Int.toNat_natCast, Int.toNat_natCast, if_pos hnb1]), rfl, s9, t9, rfl, rfl, by omega, by omega, hnb1, (by unfold wlX; first | (rw [if_pos hb0]; done) | (rw [if_neg hb0]; done) | (simp (disch := first | decide | omega) only [qup_ne, qup_j, qup_k]; first | (rw [if_pos hb0]; done) | (rw [if_neg hb0]; done))), (by unfold wlX; simp (disch := first | decide | omega) only [qup_ne, qup_j, qup_k]; first | (rw [if_pos hb0]; done) | (rw [if_neg hb0]; done)), (by simp (disch := decide) only [qup_ne, qup_k]), fun q k h h2 => by rw [qup_f h2, qup_f (fun z => h ⟨z.1, .inr z.2⟩), qup_f (fun z => h ⟨z.1, .inl z.2⟩)]⟩
  · skip
    obtain ⟨s9, rfl, hls9, hus9⟩ := isIn_n (by decide) hs0
    refine qG.blk 1 (pc' := 8) (ls' := [(2, 64), (0, ((s9 : Nat) : Int)), (0, t), (0, b)]) (st' := [(0, t)]) (w' := w) (n' := 142) rfl ?_
    refine qG.call (t := 19) (na := 1) (sk := 0) (md := 0) (ls1 := [(0, t)]) (r1 := []) rfl rfl rfl rfl rfl (K_X2_isSpace (Nat.zero_le _) _ _) ?_
    rintro _ w7 _ ⟨rfl, hw7, rfl⟩
    rw [hw7]
    show qG none (d + 1) 21 11 [(2, 64), (0, ((s9 : Nat) : Int)), (0, t), (0, b)] [(0, isInV t 0 15)] w 142 Q9
    refine qG.br (P := isInV t 0 15 = 0) (pc1 := 22) (pc2 := 14) (st1 := []) rfl (fun ht0 => ?_) (fun ht0 => ?_)
    · skip
      refine qG.blk 1 (pc' := 23) (ls' := [(2, 64), (0, ((s9 : Nat) : Int)), (0, t), (0, b)]) (st' := [(0, 0)]) (w' := w) (n' := 142) rfl ?_
      refine qG.ret rfl (by first | rfl | exact decide_eq_true (by omega)) ?_
      subst hQ9
      refine ⟨rfl, ?_⟩; first | exact .inl ⟨(by unfold pwV; first | (rw [if_pos hs0]; done) | (rw [if_neg hs0, if_pos ht0]; done) | (rw [if_neg hs0, if_neg ht0, Int.toNat_natCast, Int.toNat_natCast, if_neg (ite01.mp hnb)]; done)), rfl, rfl⟩ | (exfalso; exact hb1 hb0) | (exfalso; exact hb0 hb1) | exact .inr ⟨(by unfold pwV; rw [if_neg hs0, if_neg ht0, Int.toNat_natCast, Int.toNat_natCast, if_pos hnb1]), rfl, s9, t9, rfl, rfl, by omega, by omega, hnb1, (by unfold wlX; first | (rw [if_pos hb0]; done) | (rw [if_neg hb0]; done) | (simp (disch := first | decide | omega) only [qup_ne, qup_j, qup_k]; first | (rw [if_pos hb0]; done) | (rw [if_neg hb0]; done))), (by unfold wlX; simp (disch := first | decide | omega) only [qup_ne, qup_j, qup_k]; first | (rw [if_pos hb0]; done) | (rw [if_neg hb0]; done)), (by simp (disch := decide) only [qup_ne, qup_k]), fun q k h h2 => by rw [qup_f h2, qup_f (fun z => h ⟨z.1, .inr z.2⟩), qup_f (fun z => h ⟨z.1, .inl z.2⟩)]⟩
    · skip
      obtain ⟨t9, rfl, hlt9, hut9⟩ := isIn_n (by decide) ht0
      refine qG.blk 2 (pc' := 16) (ls' := [(2, 64), (0, ((s9 : Nat) : Int)), (0, ((t9 : Nat) : Int)), (0, b)]) (st' := [(0, ((t9 : Nat) : Int)), (0, ((s9 : Nat) : Int))]) (w' := w) (n' := 142) rfl ?_
      refine qG.call (t := 18) (na := 2) (sk := 0) (md := 0) (ls1 := [(0, ((s9 : Nat) : Int)), (0, ((t9 : Nat) : Int)), (9, 0), (9, 0), (9, 0)]) (r1 := []) rfl rfl rfl rfl rfl (K_X2_areN (by omega) s9 t9 (by omega) (by omega) _ _) ?_
      rintro _ w7 _ ⟨rfl, hw7, rfl⟩
      rw [hw7]
      show qG none (d + 1) 21 19 [(2, 64), (0, ((s9 : Nat) : Int)), (0, ((t9 : Nat) : Int)), (0, b)] [(0, (if nbB s9 t9 = true then 1 else 0))] w 142 Q9
      refine qG.br (P := (if nbB s9 t9 = true then 1 else 0) = 0) (pc1 := 22) (pc2 := 24) (st1 := []) rfl (fun hnb => ?_) (fun hnb => ?_)
      · skip
        refine qG.blk 1 (pc' := 23) (ls' := [(2, 64), (0, ((s9 : Nat) : Int)), (0, ((t9 : Nat) : Int)), (0, b)]) (st' := [(0, 0)]) (w' := w) (n' := 142) rfl ?_
        refine qG.ret rfl (by first | rfl | exact decide_eq_true (by omega)) ?_
        subst hQ9
        refine ⟨rfl, ?_⟩; first | exact .inl ⟨(by unfold pwV; first | (rw [if_pos hs0]; done) | (rw [if_neg hs0, if_pos ht0]; done) | (rw [if_neg hs0, if_neg ht0, Int.toNat_natCast, Int.toNat_natCast, if_neg (ite01.mp hnb)]; done)), rfl, rfl⟩ | (exfalso; exact hb1 hb0) | (exfalso; exact hb0 hb1) | exact .inr ⟨(by unfold pwV; rw [if_neg hs0, if_neg ht0, Int.toNat_natCast, Int.toNat_natCast, if_pos hnb1]), rfl, s9, t9, rfl, rfl, by omega, by omega, hnb1, (by unfold wlX; first | (rw [if_pos hb0]; done) | (rw [if_neg hb0]; done) | (simp (disch := first | decide | omega) only [qup_ne, qup_j, qup_k]; first | (rw [if_pos hb0]; done) | (rw [if_neg hb0]; done))), (by unfold wlX; simp (disch := first | decide | omega) only [qup_ne, qup_j, qup_k]; first | (rw [if_pos hb0]; done) | (rw [if_neg hb0]; done)), (by simp (disch := decide) only [qup_ne, qup_k]), fun q k h h2 => by rw [qup_f h2, qup_f (fun z => h ⟨z.1, .inr z.2⟩), qup_f (fun z => h ⟨z.1, .inl z.2⟩)]⟩
      · skip
        have hnb1 : nbB s9 t9 = true := Decidable.of_not_not (fun z => hnb (ite01.mpr z))
        have hne : t9 ≠ s9 := nb_ne (by omega) hnb1
        refine qG.blk 2 (pc' := 28) (ls' := [(2, 64), (0, ((s9 : Nat) : Int)), (0, ((t9 : Nat) : Int)), (0, b)]) (st' := [(2, w 64 2)]) (w' := w) (n' := 142) rfl ?_
        rw [show w 64 2 = 65 from zref hI rfl rfl]
        refine qG.blk 2 (pc' := 30) (ls' := [(2, 64), (0, ((s9 : Nat) : Int)), (0, ((t9 : Nat) : Int)), (0, b)]) (st' := [(0, b), (0, ((s9 : Nat) : Int)), (2, 65)]) (w' := w) (n' := 142) rfl ?_
        refine qG.br (P := b = 0) (pc1 := 48) (pc2 := 33) (st1 := [(0, ((s9 : Nat) : Int)), (2, 65)]) rfl (fun hb0 => ?_) (fun hb0 => ?_)
        · skip
          refine qG.blk 2 (pc' := 52) (ls' := [(2, 64), (0, ((s9 : Nat) : Int)), (0, ((t9 : Nat) : Int)), (0, b)]) (st' := [(2, w 64 2), (0, ((s9 : Nat) : Int)), (2, 65)]) (w' := w) (n' := 142) rfl ?_
          rw [show w 64 2 = 65 from zref hI rfl rfl]
          refine qG.blk 1 (pc' := 53) (ls' := [(2, 64), (0, ((s9 : Nat) : Int)), (0, ((t9 : Nat) : Int)), (0, b)]) (st' := [(0, ((s9 : Nat) : Int)), (2, 65), (0, ((s9 : Nat) : Int)), (2, 65)]) (w' := w) (n' := 142) rfl ?_
          refine qG.ar (P := 0 ≤ ((s9 : Nat) : Int) ∧ ((s9 : Nat) : Int) < ((16 : Nat) : Int)) (P2 := 0 < (65 : Int) ∧ (65 : Int) ≤ ((142 : Nat) : Int)) (pc' := 54) (ls' := [(2, 64), (0, ((s9 : Nat) : Int)), (0, ((t9 : Nat) : Int)), (0, b)]) (st' := [(0, w 65 s9), (0, ((s9 : Nat) : Int)), (2, 65)]) (w' := w) (n' := 142) rfl (by omega) (by decide) ?_
          refine qG.blk 4 (pc' := 58) (ls' := [(2, 64), (0, ((s9 : Nat) : Int)), (0, ((t9 : Nat) : Int)), (0, b)]) (st' := [(0, qor (w 65 s9) (qshl 1 ((t9 : Nat) : Int))), (0, ((s9 : Nat) : Int)), (2, 65)]) (w' := w) (n' := 142) rfl ?_
          refine qG.ar (P := 0 ≤ ((s9 : Nat) : Int) ∧ ((s9 : Nat) : Int) < ((16 : Nat) : Int)) (P2 := 0 < (65 : Int) ∧ (65 : Int) ≤ ((142 : Nat) : Int)) (pc' := 59) (ls' := [(2, 64), (0, ((s9 : Nat) : Int)), (0, ((t9 : Nat) : Int)), (0, b)]) (st' := []) (w' := (qup w 65 s9 (qor (w 65 s9) (qshl 1 ((t9 : Nat) : Int))))) (n' := 142) rfl (by omega) (by decide) ?_
          refine qG.blk 2 (pc' := 63) (ls' := [(2, 64), (0, ((s9 : Nat) : Int)), (0, ((t9 : Nat) : Int)), (0, b)]) (st' := [(2, w 64 2)]) (w' := (qup w 65 s9 (qor (w 65 s9) (qshl 1 ((t9 : Nat) : Int))))) (n' := 142) rfl ?_
          rw [show w 64 2 = 65 from zref hI rfl rfl]
          refine qG.blk 2 (pc' := 65) (ls' := [(2, 64), (0, ((s9 : Nat) : Int)), (0, ((t9 : Nat) : Int)), (0, b)]) (st' := [(0, b), (0, ((t9 : Nat) : Int)), (2, 65)]) (w' := (qup w 65 s9 (qor (w 65 s9) (qshl 1 ((t9 : Nat) : Int))))) (n' := 142) rfl ?_
          refine qG.br (P := b = 0) (pc1 := 83) (pc2 := 68) (st1 := [(0, ((t9 : Nat) : Int)), (2, 65)]) rfl (fun hb1 => ?_) (fun hb1 => ?_)
          · skip
            refine qG.blk 2 (pc' := 87) (ls' := [(2, 64), (0, ((s9 : Nat) : Int)), (0, ((t9 : Nat) : Int)), (0, b)]) (st' := [(2, w 64 2), (0, ((t9 : Nat) : Int)), (2, 65)]) (w' := (qup w 65 s9 (qor (w 65 s9) (qshl 1 ((t9 : Nat) : Int))))) (n' := 142) rfl ?_
            rw [show w 64 2 = 65 from zref hI rfl rfl]
            refine qG.blk 1 (pc' := 88) (ls' := [(2, 64), (0, ((s9 : Nat) : Int)), (0, ((t9 : Nat) : Int)), (0, b)]) (st' := [(0, ((t9 : Nat) : Int)), (2, 65), (0, ((t9 : Nat) : Int)), (2, 65)]) (w' := (qup w 65 s9 (qor (w 65 s9) (qshl 1 ((t9 : Nat) : Int))))) (n' := 142) rfl ?_
            refine qG.ar (P := 0 ≤ ((t9 : Nat) : Int) ∧ ((t9 : Nat) : Int) < ((16 : Nat) : Int)) (P2 := 0 < (65 : Int) ∧ (65 : Int) ≤ ((142 : Nat) : Int)) (pc' := 89) (ls' := [(2, 64), (0, ((s9 : Nat) : Int)), (0, ((t9 : Nat) : Int)), (0, b)]) (st' := [(0, (qup w 65 s9 (qor (w 65 s9) (qshl 1 ((t9 : Nat) : Int)))) 65 t9), (0, ((t9 : Nat) : Int)), (2, 65)]) (w' := (qup w 65 s9 (qor (w 65 s9) (qshl 1 ((t9 : Nat) : Int))))) (n' := 142) rfl (by omega) (by decide) ?_
            refine qG.blk 4 (pc' := 93) (ls' := [(2, 64), (0, ((s9 : Nat) : Int)), (0, ((t9 : Nat) : Int)), (0, b)]) (st' := [(0, qor ((qup w 65 s9 (qor (w 65 s9) (qshl 1 ((t9 : Nat) : Int)))) 65 t9) (qshl 1 ((s9 : Nat) : Int))), (0, ((t9 : Nat) : Int)), (2, 65)]) (w' := (qup w 65 s9 (qor (w 65 s9) (qshl 1 ((t9 : Nat) : Int))))) (n' := 142) rfl ?_
            refine qG.ar (P := 0 ≤ ((t9 : Nat) : Int) ∧ ((t9 : Nat) : Int) < ((16 : Nat) : Int)) (P2 := 0 < (65 : Int) ∧ (65 : Int) ≤ ((142 : Nat) : Int)) (pc' := 94) (ls' := [(2, 64), (0, ((s9 : Nat) : Int)), (0, ((t9 : Nat) : Int)), (0, b)]) (st' := []) (w' := (qup (qup w 65 s9 (qor (w 65 s9) (qshl 1 ((t9 : Nat) : Int)))) 65 t9 (qor ((qup w 65 s9 (qor (w 65 s9) (qshl 1 ((t9 : Nat) : Int)))) 65 t9) (qshl 1 ((s9 : Nat) : Int))))) (n' := 142) rfl (by omega) (by decide) ?_
            refine qG.blk 5 (pc' := 101) (ls' := [(2, 64), (0, ((s9 : Nat) : Int)), (0, ((t9 : Nat) : Int)), (0, b)]) (st' := [(0, wrp ((w 64 1) + 1)), (2, 64)]) (w' := (qup (qup w 65 s9 (qor (w 65 s9) (qshl 1 ((t9 : Nat) : Int)))) 65 t9 (qor ((qup w 65 s9 (qor (w 65 s9) (qshl 1 ((t9 : Nat) : Int)))) 65 t9) (qshl 1 ((s9 : Nat) : Int))))) (n' := 142) rfl ?_
            refine qG.blk 2 (pc' := 105) (ls' := [(2, 64), (0, ((s9 : Nat) : Int)), (0, ((t9 : Nat) : Int)), (0, b)]) (st' := [(0, 1)]) (w' := (qup (qup (qup w 65 s9 (qor (w 65 s9) (qshl 1 ((t9 : Nat) : Int)))) 65 t9 (qor ((qup w 65 s9 (qor (w 65 s9) (qshl 1 ((t9 : Nat) : Int)))) 65 t9) (qshl 1 ((s9 : Nat) : Int)))) 64 1 (wrp ((w 64 1) + 1)))) (n' := 142) rfl ?_
            refine qG.ret rfl (by first | rfl | exact decide_eq_true (by omega)) ?_
            subst hQ9
            refine ⟨rfl, ?_⟩; first | exact .inl ⟨(by unfold pwV; first | (rw [if_pos hs0]; done) | (rw [if_neg hs0, if_pos ht0]; done) | (rw [if_neg hs0, if_neg ht0, Int.toNat_natCast, Int.toNat_natCast, if_neg (ite01.mp hnb)]; done)), rfl, rfl⟩ | (exfalso; exact hb1 hb0) | (exfalso; exact hb0 hb1) | exact .inr ⟨(by unfold pwV; rw [if_neg hs0, if_neg ht0, Int.toNat_natCast, Int.toNat_natCast, if_pos hnb1]), rfl, s9, t9, rfl, rfl, by omega, by omega, hnb1, (by unfold wlX; first | (rw [if_pos hb0]; done) | (rw [if_neg hb0]; done) | (simp (disch := first | decide | omega) only [qup_ne, qup_j, qup_k]; first | (rw [if_pos hb0]; done) | (rw [if_neg hb0]; done))), (by unfold wlX; simp (disch := first | decide | omega) only [qup_ne, qup_j, qup_k]; first | (rw [if_pos hb0]; done) | (rw [if_neg hb0]; done)), (by simp (disch := decide) only [qup_ne, qup_k]), fun q k h h2 => by rw [qup_f h2, qup_f (fun z => h ⟨z.1, .inr z.2⟩), qup_f (fun z => h ⟨z.1, .inl z.2⟩)]⟩
          · skip
            refine qG.blk 2 (pc' := 72) (ls' := [(2, 64), (0, ((s9 : Nat) : Int)), (0, ((t9 : Nat) : Int)), (0, b)]) (st' := [(2, w 64 2), (0, ((t9 : Nat) : Int)), (2, 65)]) (w' := (qup w 65 s9 (qor (w 65 s9) (qshl 1 ((t9 : Nat) : Int))))) (n' := 142) rfl ?_
            rw [show w 64 2 = 65 from zref hI rfl rfl]
            refine qG.blk 1 (pc' := 73) (ls' := [(2, 64), (0, ((s9 : Nat) : Int)), (0, ((t9 : Nat) : Int)), (0, b)]) (st' := [(0, ((t9 : Nat) : Int)), (2, 65), (0, ((t9 : Nat) : Int)), (2, 65)]) (w' := (qup w 65 s9 (qor (w 65 s9) (qshl 1 ((t9 : Nat) : Int))))) (n' := 142) rfl ?_
            refine qG.ar (P := 0 ≤ ((t9 : Nat) : Int) ∧ ((t9 : Nat) : Int) < ((16 : Nat) : Int)) (P2 := 0 < (65 : Int) ∧ (65 : Int) ≤ ((142 : Nat) : Int)) (pc' := 74) (ls' := [(2, 64), (0, ((s9 : Nat) : Int)), (0, ((t9 : Nat) : Int)), (0, b)]) (st' := [(0, (qup w 65 s9 (qor (w 65 s9) (qshl 1 ((t9 : Nat) : Int)))) 65 t9), (0, ((t9 : Nat) : Int)), (2, 65)]) (w' := (qup w 65 s9 (qor (w 65 s9) (qshl 1 ((t9 : Nat) : Int))))) (n' := 142) rfl (by omega) (by decide) ?_
            refine qG.blk 7 (pc' := 93) (ls' := [(2, 64), (0, ((s9 : Nat) : Int)), (0, ((t9 : Nat) : Int)), (0, b)]) (st' := [(0, qand ((qup w 65 s9 (qor (w 65 s9) (qshl 1 ((t9 : Nat) : Int)))) 65 t9) (qxor (qshl 1 ((s9 : Nat) : Int)) (-1))), (0, ((t9 : Nat) : Int)), (2, 65)]) (w' := (qup w 65 s9 (qor (w 65 s9) (qshl 1 ((t9 : Nat) : Int))))) (n' := 142) rfl ?_
            refine qG.ar (P := 0 ≤ ((t9 : Nat) : Int) ∧ ((t9 : Nat) : Int) < ((16 : Nat) : Int)) (P2 := 0 < (65 : Int) ∧ (65 : Int) ≤ ((142 : Nat) : Int)) (pc' := 94) (ls' := [(2, 64), (0, ((s9 : Nat) : Int)), (0, ((t9 : Nat) : Int)), (0, b)]) (st' := []) (w' := (qup (qup w 65 s9 (qor (w 65 s9) (qshl 1 ((t9 : Nat) : Int)))) 65 t9 (qand ((qup w 65 s9 (qor (w 65 s9) (qshl 1 ((t9 : Nat) : Int)))) 65 t9) (qxor (qshl 1 ((s9 : Nat) : Int)) (-1))))) (n' := 142) rfl (by omega) (by decide) ?_
            refine qG.blk 5 (pc' := 101) (ls' := [(2, 64), (0, ((s9 : Nat) : Int)), (0, ((t9 : Nat) : Int)), (0, b)]) (st' := [(0, wrp ((w 64 1) + 1)), (2, 64)]) (w' := (qup (qup w 65 s9 (qor (w 65 s9) (qshl 1 ((t9 : Nat) : Int)))) 65 t9 (qand ((qup w 65 s9 (qor (w 65 s9) (qshl 1 ((t9 : Nat) : Int)))) 65 t9) (qxor (qshl 1 ((s9 : Nat) : Int)) (-1))))) (n' := 142) rfl ?_
            refine qG.blk 2 (pc' := 105) (ls' := [(2, 64), (0, ((s9 : Nat) : Int)), (0, ((t9 : Nat) : Int)), (0, b)]) (st' := [(0, 1)]) (w' := (qup (qup (qup w 65 s9 (qor (w 65 s9) (qshl 1 ((t9 : Nat) : Int)))) 65 t9 (qand ((qup w 65 s9 (qor (w 65 s9) (qshl 1 ((t9 : Nat) : Int)))) 65 t9) (qxor (qshl 1 ((s9 : Nat) : Int)) (-1)))) 64 1 (wrp ((w 64 1) + 1)))) (n' := 142) rfl ?_
            refine qG.ret rfl (by first | rfl | exact decide_eq_true (by omega)) ?_
            subst hQ9
            refine ⟨rfl, ?_⟩; first | exact .inl ⟨(by unfold pwV; first | (rw [if_pos hs0]; done) | (rw [if_neg hs0, if_pos ht0]; done) | (rw [if_neg hs0, if_neg ht0, Int.toNat_natCast, Int.toNat_natCast, if_neg (ite01.mp hnb)]; done)), rfl, rfl⟩ | (exfalso; exact hb1 hb0) | (exfalso; exact hb0 hb1) | exact .inr ⟨(by unfold pwV; rw [if_neg hs0, if_neg ht0, Int.toNat_natCast, Int.toNat_natCast, if_pos hnb1]), rfl, s9, t9, rfl, rfl, by omega, by omega, hnb1, (by unfold wlX; first | (rw [if_pos hb0]; done) | (rw [if_neg hb0]; done) | (simp (disch := first | decide | omega) only [qup_ne, qup_j, qup_k]; first | (rw [if_pos hb0]; done) | (rw [if_neg hb0]; done))), (by unfold wlX; simp (disch := first | decide | omega) only [qup_ne, qup_j, qup_k]; first | (rw [if_pos hb0]; done) | (rw [if_neg hb0]; done)), (by simp (disch := decide) only [qup_ne, qup_k]), fun q k h h2 => by rw [qup_f h2, qup_f (fun z => h ⟨z.1, .inr z.2⟩), qup_f (fun z => h ⟨z.1, .inl z.2⟩)]⟩
        · skip
          refine qG.blk 2 (pc' := 37) (ls' := [(2, 64), (0, ((s9 : Nat) : Int)), (0, ((t9 : Nat) : Int)), (0, b)]) (st' := [(2, w 64 2), (0, ((s9 : Nat) : Int)), (2, 65)]) (w' := w) (n' := 142) rfl ?_
          rw [show w 64 2 = 65 from zref hI rfl rfl]
          refine qG.blk 1 (pc' := 38) (ls' := [(2, 64), (0, ((s9 : Nat) : Int)), (0, ((t9 : Nat) : Int)), (0, b)]) (st' := [(0, ((s9 : Nat) : Int)), (2, 65), (0, ((s9 : Nat) : Int)), (2, 65)]) (w' := w) (n' := 142) rfl ?_
          refine qG.ar (P := 0 ≤ ((s9 : Nat) : Int) ∧ ((s9 : Nat) : Int) < ((16 : Nat) : Int)) (P2 := 0 < (65 : Int) ∧ (65 : Int) ≤ ((142 : Nat) : Int)) (pc' := 39) (ls' := [(2, 64), (0, ((s9 : Nat) : Int)), (0, ((t9 : Nat) : Int)), (0, b)]) (st' := [(0, w 65 s9), (0, ((s9 : Nat) : Int)), (2, 65)]) (w' := w) (n' := 142) rfl (by omega) (by decide) ?_
          refine qG.blk 7 (pc' := 58) (ls' := [(2, 64), (0, ((s9 : Nat) : Int)), (0, ((t9 : Nat) : Int)), (0, b)]) (st' := [(0, qand (w 65 s9) (qxor (qshl 1 ((t9 : Nat) : Int)) (-1))), (0, ((s9 : Nat) : Int)), (2, 65)]) (w' := w) (n' := 142) rfl ?_
          refine qG.ar (P := 0 ≤ ((s9 : Nat) : Int) ∧ ((s9 : Nat) : Int) < ((16 : Nat) : Int)) (P2 := 0 < (65 : Int) ∧ (65 : Int) ≤ ((142 : Nat) : Int)) (pc' := 59) (ls' := [(2, 64), (0, ((s9 : Nat) : Int)), (0, ((t9 : Nat) : Int)), (0, b)]) (st' := []) (w' := (qup w 65 s9 (qand (w 65 s9) (qxor (qshl 1 ((t9 : Nat) : Int)) (-1))))) (n' := 142) rfl (by omega) (by decide) ?_
          refine qG.blk 2 (pc' := 63) (ls' := [(2, 64), (0, ((s9 : Nat) : Int)), (0, ((t9 : Nat) : Int)), (0, b)]) (st' := [(2, w 64 2)]) (w' := (qup w 65 s9 (qand (w 65 s9) (qxor (qshl 1 ((t9 : Nat) : Int)) (-1))))) (n' := 142) rfl ?_
          rw [show w 64 2 = 65 from zref hI rfl rfl]
          refine qG.blk 2 (pc' := 65) (ls' := [(2, 64), (0, ((s9 : Nat) : Int)), (0, ((t9 : Nat) : Int)), (0, b)]) (st' := [(0, b), (0, ((t9 : Nat) : Int)), (2, 65)]) (w' := (qup w 65 s9 (qand (w 65 s9) (qxor (qshl 1 ((t9 : Nat) : Int)) (-1))))) (n' := 142) rfl ?_
          refine qG.br (P := b = 0) (pc1 := 83) (pc2 := 68) (st1 := [(0, ((t9 : Nat) : Int)), (2, 65)]) rfl (fun hb1 => ?_) (fun hb1 => ?_)
          · skip
            refine qG.blk 2 (pc' := 87) (ls' := [(2, 64), (0, ((s9 : Nat) : Int)), (0, ((t9 : Nat) : Int)), (0, b)]) (st' := [(2, w 64 2), (0, ((t9 : Nat) : Int)), (2, 65)]) (w' := (qup w 65 s9 (qand (w 65 s9) (qxor (qshl 1 ((t9 : Nat) : Int)) (-1))))) (n' := 142) rfl ?_
            rw [show w 64 2 = 65 from zref hI rfl rfl]
            refine qG.blk 1 (pc' := 88) (ls' := [(2, 64), (0, ((s9 : Nat) : Int)), (0, ((t9 : Nat) : Int)), (0, b)]) (st' := [(0, ((t9 : Nat) : Int)), (2, 65), (0, ((t9 : Nat) : Int)), (2, 65)]) (w' := (qup w 65 s9 (qand (w 65 s9) (qxor (qshl 1 ((t9 : Nat) : Int)) (-1))))) (n' := 142) rfl ?_
            refine qG.ar (P := 0 ≤ ((t9 : Nat) : Int) ∧ ((t9 : Nat) : Int) < ((16 : Nat) : Int)) (P2 := 0 < (65 : Int) ∧ (65 : Int) ≤ ((142 : Nat) : Int)) (pc' := 89) (ls' := [(2, 64), (0, ((s9 : Nat) : Int)), (0, ((t9 : Nat) : Int)), (0, b)]) (st' := [(0, (qup w 65 s9 (qand (w 65 s9) (qxor (qshl 1 ((t9 : Nat) : Int)) (-1)))) 65 t9), (0, ((t9 : Nat) : Int)), (2, 65)]) (w' := (qup w 65 s9 (qand (w 65 s9) (qxor (qshl 1 ((t9 : Nat) : Int)) (-1))))) (n' := 142) rfl (by omega) (by decide) ?_
            refine qG.blk 4 (pc' := 93) (ls' := [(2, 64), (0, ((s9 : Nat) : Int)), (0, ((t9 : Nat) : Int)), (0, b)]) (st' := [(0, qor ((qup w 65 s9 (qand (w 65 s9) (qxor (qshl 1 ((t9 : Nat) : Int)) (-1)))) 65 t9) (qshl 1 ((s9 : Nat) : Int))), (0, ((t9 : Nat) : Int)), (2, 65)]) (w' := (qup w 65 s9 (qand (w 65 s9) (qxor (qshl 1 ((t9 : Nat) : Int)) (-1))))) (n' := 142) rfl ?_
            refine qG.ar (P := 0 ≤ ((t9 : Nat) : Int) ∧ ((t9 : Nat) : Int) < ((16 : Nat) : Int)) (P2 := 0 < (65 : Int) ∧ (65 : Int) ≤ ((142 : Nat) : Int)) (pc' := 94) (ls' := [(2, 64), (0, ((s9 : Nat) : Int)), (0, ((t9 : Nat) : Int)), (0, b)]) (st' := []) (w' := (qup (qup w 65 s9 (qand (w 65 s9) (qxor (qshl 1 ((t9 : Nat) : Int)) (-1)))) 65 t9 (qor ((qup w 65 s9 (qand (w 65 s9) (qxor (qshl 1 ((t9 : Nat) : Int)) (-1)))) 65 t9) (qshl 1 ((s9 : Nat) : Int))))) (n' := 142) rfl (by omega) (by decide) ?_
            refine qG.blk 5 (pc' := 101) (ls' := [(2, 64), (0, ((s9 : Nat) : Int)), (0, ((t9 : Nat) : Int)), (0, b)]) (st' := [(0, wrp ((w 64 1) + 1)), (2, 64)]) (w' := (qup (qup w 65 s9 (qand (w 65 s9) (qxor (qshl 1 ((t9 : Nat) : Int)) (-1)))) 65 t9 (qor ((qup w 65 s9 (qand (w 65 s9) (qxor (qshl 1 ((t9 : Nat) : Int)) (-1)))) 65 t9) (qshl 1 ((s9 : Nat) : Int))))) (n' := 142) rfl ?_
            refine qG.blk 2 (pc' := 105) (ls' := [(2, 64), (0, ((s9 : Nat) : Int)), (0, ((t9 : Nat) : Int)), (0, b)]) (st' := [(0, 1)]) (w' := (qup (qup (qup w 65 s9 (qand (w 65 s9) (qxor (qshl 1 ((t9 : Nat) : Int)) (-1)))) 65 t9 (qor ((qup w 65 s9 (qand (w 65 s9) (qxor (qshl 1 ((t9 : Nat) : Int)) (-1)))) 65 t9) (qshl 1 ((s9 : Nat) : Int)))) 64 1 (wrp ((w 64 1) + 1)))) (n' := 142) rfl ?_
            refine qG.ret rfl (by first | rfl | exact decide_eq_true (by omega)) ?_
            subst hQ9
            refine ⟨rfl, ?_⟩; first | exact .inl ⟨(by unfold pwV; first | (rw [if_pos hs0]; done) | (rw [if_neg hs0, if_pos ht0]; done) | (rw [if_neg hs0, if_neg ht0, Int.toNat_natCast, Int.toNat_natCast, if_neg (ite01.mp hnb)]; done)), rfl, rfl⟩ | (exfalso; exact hb1 hb0) | (exfalso; exact hb0 hb1) | exact .inr ⟨(by unfold pwV; rw [if_neg hs0, if_neg ht0, Int.toNat_natCast, Int.toNat_natCast, if_pos hnb1]), rfl, s9, t9, rfl, rfl, by omega, by omega, hnb1, (by unfold wlX; first | (rw [if_pos hb0]; done) | (rw [if_neg hb0]; done) | (simp (disch := first | decide | omega) only [qup_ne, qup_j, qup_k]; first | (rw [if_pos hb0]; done) | (rw [if_neg hb0]; done))), (by unfold wlX; simp (disch := first | decide | omega) only [qup_ne, qup_j, qup_k]; first | (rw [if_pos hb0]; done) | (rw [if_neg hb0]; done)), (by simp (disch := decide) only [qup_ne, qup_k]), fun q k h h2 => by rw [qup_f h2, qup_f (fun z => h ⟨z.1, .inr z.2⟩), qup_f (fun z => h ⟨z.1, .inl z.2⟩)]⟩
          · skip
            refine qG.blk 2 (pc' := 72) (ls' := [(2, 64), (0, ((s9 : Nat) : Int)), (0, ((t9 : Nat) : Int)), (0, b)]) (st' := [(2, w 64 2), (0, ((t9 : Nat) : Int)), (2, 65)]) (w' := (qup w 65 s9 (qand (w 65 s9) (qxor (qshl 1 ((t9 : Nat) : Int)) (-1))))) (n' := 142) rfl ?_
            rw [show w 64 2 = 65 from zref hI rfl rfl]
            refine qG.blk 1 (pc' := 73) (ls' := [(2, 64), (0, ((s9 : Nat) : Int)), (0, ((t9 : Nat) : Int)), (0, b)]) (st' := [(0, ((t9 : Nat) : Int)), (2, 65), (0, ((t9 : Nat) : Int)), (2, 65)]) (w' := (qup w 65 s9 (qand (w 65 s9) (qxor (qshl 1 ((t9 : Nat) : Int)) (-1))))) (n' := 142) rfl ?_
            refine qG.ar (P := 0 ≤ ((t9 : Nat) : Int) ∧ ((t9 : Nat) : Int) < ((16 : Nat) : Int)) (P2 := 0 < (65 : Int) ∧ (65 : Int) ≤ ((142 : Nat) : Int)) (pc' := 74) (ls' := [(2, 64), (0, ((s9 : Nat) : Int)), (0, ((t9 : Nat) : Int)), (0, b)]) (st' := [(0, (qup w 65 s9 (qand (w 65 s9) (qxor (qshl 1 ((t9 : Nat) : Int)) (-1)))) 65 t9), (0, ((t9 : Nat) : Int)), (2, 65)]) (w' := (qup w 65 s9 (qand (w 65 s9) (qxor (qshl 1 ((t9 : Nat) : Int)) (-1))))) (n' := 142) rfl (by omega) (by decide) ?_
            refine qG.blk 7 (pc' := 93) (ls' := [(2, 64), (0, ((s9 : Nat) : Int)), (0, ((t9 : Nat) : Int)), (0, b)]) (st' := [(0, qand ((qup w 65 s9 (qand (w 65 s9) (qxor (qshl 1 ((t9 : Nat) : Int)) (-1)))) 65 t9) (qxor (qshl 1 ((s9 : Nat) : Int)) (-1))), (0, ((t9 : Nat) : Int)), (2, 65)]) (w' := (qup w 65 s9 (qand (w 65 s9) (qxor (qshl 1 ((t9 : Nat) : Int)) (-1))))) (n' := 142) rfl ?_
            refine qG.ar (P := 0 ≤ ((t9 : Nat) : Int) ∧ ((t9 : Nat) : Int) < ((16 : Nat) : Int)) (P2 := 0 < (65 : Int) ∧ (65 : Int) ≤ ((142 : Nat) : Int)) (pc' := 94) (ls' := [(2, 64), (0, ((s9 : Nat) : Int)), (0, ((t9 : Nat) : Int)), (0, b)]) (st' := []) (w' := (qup (qup w 65 s9 (qand (w 65 s9) (qxor (qshl 1 ((t9 : Nat) : Int)) (-1)))) 65 t9 (qand ((qup w 65 s9 (qand (w 65 s9) (qxor (qshl 1 ((t9 : Nat) : Int)) (-1)))) 65 t9) (qxor (qshl 1 ((s9 : Nat) : Int)) (-1))))) (n' := 142) rfl (by omega) (by decide) ?_
            refine qG.blk 5 (pc' := 101) (ls' := [(2, 64), (0, ((s9 : Nat) : Int)), (0, ((t9 : Nat) : Int)), (0, b)]) (st' := [(0, wrp ((w 64 1) + 1)), (2, 64)]) (w' := (qup (qup w 65 s9 (qand (w 65 s9) (qxor (qshl 1 ((t9 : Nat) : Int)) (-1)))) 65 t9 (qand ((qup w 65 s9 (qand (w 65 s9) (qxor (qshl 1 ((t9 : Nat) : Int)) (-1)))) 65 t9) (qxor (qshl 1 ((s9 : Nat) : Int)) (-1))))) (n' := 142) rfl ?_
            refine qG.blk 2 (pc' := 105) (ls' := [(2, 64), (0, ((s9 : Nat) : Int)), (0, ((t9 : Nat) : Int)), (0, b)]) (st' := [(0, 1)]) (w' := (qup (qup (qup w 65 s9 (qand (w 65 s9) (qxor (qshl 1 ((t9 : Nat) : Int)) (-1)))) 65 t9 (qand ((qup w 65 s9 (qand (w 65 s9) (qxor (qshl 1 ((t9 : Nat) : Int)) (-1)))) 65 t9) (qxor (qshl 1 ((s9 : Nat) : Int)) (-1)))) 64 1 (wrp ((w 64 1) + 1)))) (n' := 142) rfl ?_
            refine qG.ret rfl (by first | rfl | exact decide_eq_true (by omega)) ?_
            subst hQ9
            refine ⟨rfl, ?_⟩; first | exact .inl ⟨(by unfold pwV; first | (rw [if_pos hs0]; done) | (rw [if_neg hs0, if_pos ht0]; done) | (rw [if_neg hs0, if_neg ht0, Int.toNat_natCast, Int.toNat_natCast, if_neg (ite01.mp hnb)]; done)), rfl, rfl⟩ | (exfalso; exact hb1 hb0) | (exfalso; exact hb0 hb1) | exact .inr ⟨(by unfold pwV; rw [if_neg hs0, if_neg ht0, Int.toNat_natCast, Int.toNat_natCast, if_pos hnb1]), rfl, s9, t9, rfl, rfl, by omega, by omega, hnb1, (by unfold wlX; first | (rw [if_pos hb0]; done) | (rw [if_neg hb0]; done) | (simp (disch := first | decide | omega) only [qup_ne, qup_j, qup_k]; first | (rw [if_pos hb0]; done) | (rw [if_neg hb0]; done))), (by unfold wlX; simp (disch := first | decide | omega) only [qup_ne, qup_j, qup_k]; first | (rw [if_pos hb0]; done) | (rw [if_neg hb0]; done)), (by simp (disch := decide) only [qup_ne, qup_k]), fun q k h h2 => by rw [qup_f h2, qup_f (fun z => h ⟨z.1, .inr z.2⟩), qup_f (fun z => h ⟨z.1, .inl z.2⟩)]⟩
theorem K_putWallE69 {d : Nat} (hd : 2 ≤ d) (s t b : Int) (w : qW) (hI : yInv zgf zga zra zSp w) : qG none d 21 0 [(2, 69), (0, s), (0, t), (0, b)] [] w 142 (fun (r : qV) (w1 : qW) (n1 : Nat) => n1 = 142 ∧ wlE 69 s t b w r w1) := by
  generalize hQ9 : (fun (r : qV) (w1 : qW) (n1 : Nat) => n1 = 142 ∧ wlE 69 s t b w r w1) = Q9
  obtain ⟨d, rfl⟩ : ∃ d9, d = d9 + 1 := ⟨d - 1, by omega⟩
  refine qG.blk 1 (pc' := 1) (ls' := [(2, 69), (0, s), (0, t), (0, b)]) (st' := [(0, s)]) (w' := w) (n' := 142) rfl ?_
  refine qG.call (t := 19) (na := 1) (sk := 0) (md := 0) (ls1 := [(0, s)]) (r1 := []) rfl rfl rfl rfl rfl (K_X2_isSpace (Nat.zero_le _) _ _) ?_
  rintro _ w7 _ ⟨rfl, hw7, rfl⟩
  rw [hw7]
  show qG none (d + 1) 21 4 [(2, 69), (0, s), (0, t), (0, b)] [(0, isInV s 0 15)] w 142 Q9
  refine qG.br (P := isInV s 0 15 = 0) (pc1 := 22) (pc2 := 7) (st1 := []) rfl (fun hs0 => ?_) (fun hs0 => ?_)
  · skip
    refine qG.blk 1 (pc' := 23) (ls' := [(2, 69), (0, s), (0, t), (0, b)]) (st' := [(0, 0)]) (w' := w) (n' := 142) rfl ?_
    refine qG.ret rfl (by first | rfl | exact decide_eq_true (by omega)) ?_
    subst hQ9
    refine ⟨rfl, ?_⟩; first | exact .inl ⟨(by unfold pwV; first | (rw [if_pos hs0]; done) | (rw [if_neg hs0, if_pos ht0]; done) | (rw [if_neg hs0, if_neg ht0, Int.toNat_natCast, Int.toNat_natCast, if_neg (ite01.mp hnb)]; done)), rfl, rfl⟩ | (exfalso; exact hb1 hb0) | (exfalso; exact hb0 hb1) | exact .inr ⟨(by unfold pwV; rw [if_neg hs0, if_neg ht0, Int.toNat_natCast, Int.toNat_natCast, if_pos hnb1]), rfl, s9, t9, rfl, rfl, by omega, by omega, hnb1, (by unfold wlX; first | (rw [if_pos hb0]; done) | (rw [if_neg hb0]; done) | (simp (disch := first | decide | omega) only [qup_ne, qup_j, qup_k]; first | (rw [if_pos hb0]; done) | (rw [if_neg hb0]; done))), (by unfold wlX; simp (disch := first | decide | omega) only [qup_ne, qup_j, qup_k]; first | (rw [if_pos hb0]; done) | (rw [if_neg hb0]; done)), (by simp (disch := decide) only [qup_ne, qup_k]), fun q k h h2 => by rw [qup_f h2, qup_f (fun z => h ⟨z.1, .inr z.2⟩), qup_f (fun z => h ⟨z.1, .inl z.2⟩)]⟩
  · skip
    obtain ⟨s9, rfl, hls9, hus9⟩ := isIn_n (by decide) hs0
    refine qG.blk 1 (pc' := 8) (ls' := [(2, 69), (0, ((s9 : Nat) : Int)), (0, t), (0, b)]) (st' := [(0, t)]) (w' := w) (n' := 142) rfl ?_
    refine qG.call (t := 19) (na := 1) (sk := 0) (md := 0) (ls1 := [(0, t)]) (r1 := []) rfl rfl rfl rfl rfl (K_X2_isSpace (Nat.zero_le _) _ _) ?_
    rintro _ w7 _ ⟨rfl, hw7, rfl⟩
    rw [hw7]
    show qG none (d + 1) 21 11 [(2, 69), (0, ((s9 : Nat) : Int)), (0, t), (0, b)] [(0, isInV t 0 15)] w 142 Q9
    refine qG.br (P := isInV t 0 15 = 0) (pc1 := 22) (pc2 := 14) (st1 := []) rfl (fun ht0 => ?_) (fun ht0 => ?_)
    · skip
      refine qG.blk 1 (pc' := 23) (ls' := [(2, 69), (0, ((s9 : Nat) : Int)), (0, t), (0, b)]) (st' := [(0, 0)]) (w' := w) (n' := 142) rfl ?_
      refine qG.ret rfl (by first | rfl | exact decide_eq_true (by omega)) ?_
      subst hQ9
      refine ⟨rfl, ?_⟩; first | exact .inl ⟨(by unfold pwV; first | (rw [if_pos hs0]; done) | (rw [if_neg hs0, if_pos ht0]; done) | (rw [if_neg hs0, if_neg ht0, Int.toNat_natCast, Int.toNat_natCast, if_neg (ite01.mp hnb)]; done)), rfl, rfl⟩ | (exfalso; exact hb1 hb0) | (exfalso; exact hb0 hb1) | exact .inr ⟨(by unfold pwV; rw [if_neg hs0, if_neg ht0, Int.toNat_natCast, Int.toNat_natCast, if_pos hnb1]), rfl, s9, t9, rfl, rfl, by omega, by omega, hnb1, (by unfold wlX; first | (rw [if_pos hb0]; done) | (rw [if_neg hb0]; done) | (simp (disch := first | decide | omega) only [qup_ne, qup_j, qup_k]; first | (rw [if_pos hb0]; done) | (rw [if_neg hb0]; done))), (by unfold wlX; simp (disch := first | decide | omega) only [qup_ne, qup_j, qup_k]; first | (rw [if_pos hb0]; done) | (rw [if_neg hb0]; done)), (by simp (disch := decide) only [qup_ne, qup_k]), fun q k h h2 => by rw [qup_f h2, qup_f (fun z => h ⟨z.1, .inr z.2⟩), qup_f (fun z => h ⟨z.1, .inl z.2⟩)]⟩
    · skip
      obtain ⟨t9, rfl, hlt9, hut9⟩ := isIn_n (by decide) ht0
      refine qG.blk 2 (pc' := 16) (ls' := [(2, 69), (0, ((s9 : Nat) : Int)), (0, ((t9 : Nat) : Int)), (0, b)]) (st' := [(0, ((t9 : Nat) : Int)), (0, ((s9 : Nat) : Int))]) (w' := w) (n' := 142) rfl ?_
      refine qG.call (t := 18) (na := 2) (sk := 0) (md := 0) (ls1 := [(0, ((s9 : Nat) : Int)), (0, ((t9 : Nat) : Int)), (9, 0), (9, 0), (9, 0)]) (r1 := []) rfl rfl rfl rfl rfl (K_X2_areN (by omega) s9 t9 (by omega) (by omega) _ _) ?_
      rintro _ w7 _ ⟨rfl, hw7, rfl⟩
      rw [hw7]
      show qG none (d + 1) 21 19 [(2, 69), (0, ((s9 : Nat) : Int)), (0, ((t9 : Nat) : Int)), (0, b)] [(0, (if nbB s9 t9 = true then 1 else 0))] w 142 Q9
      refine qG.br (P := (if nbB s9 t9 = true then 1 else 0) = 0) (pc1 := 22) (pc2 := 24) (st1 := []) rfl (fun hnb => ?_) (fun hnb => ?_)
      · skip
        refine qG.blk 1 (pc' := 23) (ls' := [(2, 69), (0, ((s9 : Nat) : Int)), (0, ((t9 : Nat) : Int)), (0, b)]) (st' := [(0, 0)]) (w' := w) (n' := 142) rfl ?_
        refine qG.ret rfl (by first | rfl | exact decide_eq_true (by omega)) ?_
        subst hQ9
        refine ⟨rfl, ?_⟩; first | exact .inl ⟨(by unfold pwV; first | (rw [if_pos hs0]; done) | (rw [if_neg hs0, if_pos ht0]; done) | (rw [if_neg hs0, if_neg ht0, Int.toNat_natCast, Int.toNat_natCast, if_neg (ite01.mp hnb)]; done)), rfl, rfl⟩ | (exfalso; exact hb1 hb0) | (exfalso; exact hb0 hb1) | exact .inr ⟨(by unfold pwV; rw [if_neg hs0, if_neg ht0, Int.toNat_natCast, Int.toNat_natCast, if_pos hnb1]), rfl, s9, t9, rfl, rfl, by omega, by omega, hnb1, (by unfold wlX; first | (rw [if_pos hb0]; done) | (rw [if_neg hb0]; done) | (simp (disch := first | decide | omega) only [qup_ne, qup_j, qup_k]; first | (rw [if_pos hb0]; done) | (rw [if_neg hb0]; done))), (by unfold wlX; simp (disch := first | decide | omega) only [qup_ne, qup_j, qup_k]; first | (rw [if_pos hb0]; done) | (rw [if_neg hb0]; done)), (by simp (disch := decide) only [qup_ne, qup_k]), fun q k h h2 => by rw [qup_f h2, qup_f (fun z => h ⟨z.1, .inr z.2⟩), qup_f (fun z => h ⟨z.1, .inl z.2⟩)]⟩
      · skip
        have hnb1 : nbB s9 t9 = true := Decidable.of_not_not (fun z => hnb (ite01.mpr z))
        have hne : t9 ≠ s9 := nb_ne (by omega) hnb1
        refine qG.blk 2 (pc' := 28) (ls' := [(2, 69), (0, ((s9 : Nat) : Int)), (0, ((t9 : Nat) : Int)), (0, b)]) (st' := [(2, w 69 2)]) (w' := w) (n' := 142) rfl ?_
        rw [show w 69 2 = 70 from zref hI rfl rfl]
        refine qG.blk 2 (pc' := 30) (ls' := [(2, 69), (0, ((s9 : Nat) : Int)), (0, ((t9 : Nat) : Int)), (0, b)]) (st' := [(0, b), (0, ((s9 : Nat) : Int)), (2, 70)]) (w' := w) (n' := 142) rfl ?_
        refine qG.br (P := b = 0) (pc1 := 48) (pc2 := 33) (st1 := [(0, ((s9 : Nat) : Int)), (2, 70)]) rfl (fun hb0 => ?_) (fun hb0 => ?_)
        · skip
          refine qG.blk 2 (pc' := 52) (ls' := [(2, 69), (0, ((s9 : Nat) : Int)), (0, ((t9 : Nat) : Int)), (0, b)]) (st' := [(2, w 69 2), (0, ((s9 : Nat) : Int)), (2, 70)]) (w' := w) (n' := 142) rfl ?_
          rw [show w 69 2 = 70 from zref hI rfl rfl]
          refine qG.blk 1 (pc' := 53) (ls' := [(2, 69), (0, ((s9 : Nat) : Int)), (0, ((t9 : Nat) : Int)), (0, b)]) (st' := [(0, ((s9 : Nat) : Int)), (2, 70), (0, ((s9 : Nat) : Int)), (2, 70)]) (w' := w) (n' := 142) rfl ?_
          refine qG.ar (P := 0 ≤ ((s9 : Nat) : Int) ∧ ((s9 : Nat) : Int) < ((16 : Nat) : Int)) (P2 := 0 < (70 : Int) ∧ (70 : Int) ≤ ((142 : Nat) : Int)) (pc' := 54) (ls' := [(2, 69), (0, ((s9 : Nat) : Int)), (0, ((t9 : Nat) : Int)), (0, b)]) (st' := [(0, w 70 s9), (0, ((s9 : Nat) : Int)), (2, 70)]) (w' := w) (n' := 142) rfl (by omega) (by decide) ?_
          refine qG.blk 4 (pc' := 58) (ls' := [(2, 69), (0, ((s9 : Nat) : Int)), (0, ((t9 : Nat) : Int)), (0, b)]) (st' := [(0, qor (w 70 s9) (qshl 1 ((t9 : Nat) : Int))), (0, ((s9 : Nat) : Int)), (2, 70)]) (w' := w) (n' := 142) rfl ?_
          refine qG.ar (P := 0 ≤ ((s9 : Nat) : Int) ∧ ((s9 : Nat) : Int) < ((16 : Nat) : Int)) (P2 := 0 < (70 : Int) ∧ (70 : Int) ≤ ((142 : Nat) : Int)) (pc' := 59) (ls' := [(2, 69), (0, ((s9 : Nat) : Int)), (0, ((t9 : Nat) : Int)), (0, b)]) (st' := []) (w' := (qup w 70 s9 (qor (w 70 s9) (qshl 1 ((t9 : Nat) : Int))))) (n' := 142) rfl (by omega) (by decide) ?_
          refine qG.blk 2 (pc' := 63) (ls' := [(2, 69), (0, ((s9 : Nat) : Int)), (0, ((t9 : Nat) : Int)), (0, b)]) (st' := [(2, w 69 2)]) (w' := (qup w 70 s9 (qor (w 70 s9) (qshl 1 ((t9 : Nat) : Int))))) (n' := 142) rfl ?_
          rw [show w 69 2 = 70 from zref hI rfl rfl]
          refine qG.blk 2 (pc' := 65) (ls' := [(2, 69), (0, ((s9 : Nat) : Int)), (0, ((t9 : Nat) : Int)), (0, b)]) (st' := [(0, b), (0, ((t9 : Nat) : Int)), (2, 70)]) (w' := (qup w 70 s9 (qor (w 70 s9) (qshl 1 ((t9 : Nat) : Int))))) (n' := 142) rfl ?_
          refine qG.br (P := b = 0) (pc1 := 83) (pc2 := 68) (st1 := [(0, ((t9 : Nat) : Int)), (2, 70)]) rfl (fun hb1 => ?_) (fun hb1 => ?_)
          · skip
            refine qG.blk 2 (pc' := 87) (ls' := [(2, 69), (0, ((s9 : Nat) : Int)), (0, ((t9 : Nat) : Int)), (0, b)]) (st' := [(2, w 69 2), (0, ((t9 : Nat) : Int)), (2, 70)]) (w' := (qup w 70 s9 (qor (w 70 s9) (qshl 1 ((t9 : Nat) : Int))))) (n' := 142) rfl ?_
            rw [show w 69 2 = 70 from zref hI rfl rfl]
            refine qG.blk 1 (pc' := 88) (ls' := [(2, 69), (0, ((s9 : Nat) : Int)), (0, ((t9 : Nat) : Int)), (0, b)]) (st' := [(0, ((t9 : Nat) : Int)), (2, 70), (0, ((t9 : Nat) : Int)), (2, 70)]) (w' := (qup w 70 s9 (qor (w 70 s9) (qshl 1 ((t9 : Nat) : Int))))) (n' := 142) rfl ?_
            refine qG.ar (P := 0 ≤ ((t9 : Nat) : Int) ∧ ((t9 : Nat) : Int) < ((16 : Nat) : Int)) (P2 := 0 < (70 : Int) ∧ (70 : Int) ≤ ((142 : Nat) : Int)) (pc' := 89) (ls' := [(2, 69), (0, ((s9 : Nat) : Int)), (0, ((t9 : Nat) : Int)), (0, b)]) (st' := [(0, (qup w 70 s9 (qor (w 70 s9) (qshl 1 ((t9 : Nat) : Int)))) 70 t9), (0, ((t9 : Nat) : Int)), (2, 70)]) (w' := (qup w 70 s9 (qor (w 70 s9) (qshl 1 ((t9 : Nat) : Int))))) (n' := 142) rfl (by omega) (by decide) ?_
            refine qG.blk 4 (pc' := 93) (ls' := [(2, 69), (0, ((s9 : Nat) : Int)), (0, ((t9 : Nat) : Int)), (0, b)]) (st' := [(0, qor ((qup w 70 s9 (qor (w 70 s9) (qshl 1 ((t9 : Nat) : Int)))) 70 t9) (qshl 1 ((s9 : Nat) : Int))), (0, ((t9 : Nat) : Int)), (2, 70)]) (w' := (qup w 70 s9 (qor (w 70 s9) (qshl 1 ((t9 : Nat) : Int))))) (n' := 142) rfl ?_
            refine qG.ar (P := 0 ≤ ((t9 : Nat) : Int) ∧ ((t9 : Nat) : Int) < ((16 : Nat) : Int)) (P2 := 0 < (70 : Int) ∧ (70 : Int) ≤ ((142 : Nat) : Int)) (pc' := 94) (ls' := [(2, 69), (0, ((s9 : Nat) : Int)), (0, ((t9 : Nat) : Int)), (0, b)]) (st' := []) (w' := (qup (qup w 70 s9 (qor (w 70 s9) (qshl 1 ((t9 : Nat) : Int)))) 70 t9 (qor ((qup w 70 s9 (qor (w 70 s9) (qshl 1 ((t9 : Nat) : Int)))) 70 t9) (qshl 1 ((s9 : Nat) : Int))))) (n' := 142) rfl (by omega) (by decide) ?_
            refine qG.blk 5 (pc' := 101) (ls' := [(2, 69), (0, ((s9 : Nat) : Int)), (0, ((t9 : Nat) : Int)), (0, b)]) (st' := [(0, wrp ((w 69 1) + 1)), (2, 69)]) (w' := (qup (qup w 70 s9 (qor (w 70 s9) (qshl 1 ((t9 : Nat) : Int)))) 70 t9 (qor ((qup w 70 s9 (qor (w 70 s9) (qshl 1 ((t9 : Nat) : Int)))) 70 t9) (qshl 1 ((s9 : Nat) : Int))))) (n' := 142) rfl ?_
            refine qG.blk 2 (pc' := 105) (ls' := [(2, 69), (0, ((s9 : Nat) : Int)), (0, ((t9 : Nat) : Int)), (0, b)]) (st' := [(0, 1)]) (w' := (qup (qup (qup w 70 s9 (qor (w 70 s9) (qshl 1 ((t9 : Nat) : Int)))) 70 t9 (qor ((qup w 70 s9 (qor (w 70 s9) (qshl 1 ((t9 : Nat) : Int)))) 70 t9) (qshl 1 ((s9 : Nat) : Int)))) 69 1 (wrp ((w 69 1) + 1)))) (n' := 142) rfl ?_
            refine qG.ret rfl (by first | rfl | exact decide_eq_true (by omega)) ?_
            subst hQ9
            refine ⟨rfl, ?_⟩; first | exact .inl ⟨(by unfold pwV; first | (rw [if_pos hs0]; done) | (rw [if_neg hs0, if_pos ht0]; done) | (rw [if_neg hs0, if_neg ht0, Int.toNat_natCast, Int.toNat_natCast, if_neg (ite01.mp hnb)]; done)), rfl, rfl⟩ | (exfalso; exact hb1 hb0) | (exfalso; exact hb0 hb1) | exact .inr ⟨(by unfold pwV; rw [if_neg hs0, if_neg ht0, Int.toNat_natCast, Int.toNat_natCast, if_pos hnb1]), rfl, s9, t9, rfl, rfl, by omega, by omega, hnb1, (by unfold wlX; first | (rw [if_pos hb0]; done) | (rw [if_neg hb0]; done) | (simp (disch := first | decide | omega) only [qup_ne, qup_j, qup_k]; first | (rw [if_pos hb0]; done) | (rw [if_neg hb0]; done))), (by unfold wlX; simp (disch := first | decide | omega) only [qup_ne, qup_j, qup_k]; first | (rw [if_pos hb0]; done) | (rw [if_neg hb0]; done)), (by simp (disch := decide) only [qup_ne, qup_k]), fun q k h h2 => by rw [qup_f h2, qup_f (fun z => h ⟨z.1, .inr z.2⟩), qup_f (fun z => h ⟨z.1, .inl z.2⟩)]⟩
          · skip
            refine qG.blk 2 (pc' := 72) (ls' := [(2, 69), (0, ((s9 : Nat) : Int)), (0, ((t9 : Nat) : Int)), (0, b)]) (st' := [(2, w 69 2), (0, ((t9 : Nat) : Int)), (2, 70)]) (w' := (qup w 70 s9 (qor (w 70 s9) (qshl 1 ((t9 : Nat) : Int))))) (n' := 142) rfl ?_
            rw [show w 69 2 = 70 from zref hI rfl rfl]
            refine qG.blk 1 (pc' := 73) (ls' := [(2, 69), (0, ((s9 : Nat) : Int)), (0, ((t9 : Nat) : Int)), (0, b)]) (st' := [(0, ((t9 : Nat) : Int)), (2, 70), (0, ((t9 : Nat) : Int)), (2, 70)]) (w' := (qup w 70 s9 (qor (w 70 s9) (qshl 1 ((t9 : Nat) : Int))))) (n' := 142) rfl ?_
            refine qG.ar (P := 0 ≤ ((t9 : Nat) : Int) ∧ ((t9 : Nat) : Int) < ((16 : Nat) : Int)) (P2 := 0 < (70 : Int) ∧ (70 : Int) ≤ ((142 : Nat) : Int)) (pc' := 74) (ls' := [(2, 69), (0, ((s9 : Nat) : Int)), (0, ((t9 : Nat) : Int)), (0, b)]) (st' := [(0, (qup w 70 s9 (qor (w 70 s9) (qshl 1 ((t9 : Nat) : Int)))) 70 t9), (0, ((t9 : Nat) : Int)), (2, 70)]) (w' := (qup w 70 s9 (qor (w 70 s9) (qshl 1 ((t9 : Nat) : Int))))) (n' := 142) rfl (by omega) (by decide) ?_
            refine qG.blk 7 (pc' := 93) (ls' := [(2, 69), (0, ((s9 : Nat) : Int)), (0, ((t9 : Nat) : Int)), (0, b)]) (st' := [(0, qand ((qup w 70 s9 (qor (w 70 s9) (qshl 1 ((t9 : Nat) : Int)))) 70 t9) (qxor (qshl 1 ((s9 : Nat) : Int)) (-1))), (0, ((t9 : Nat) : Int)), (2, 70)]) (w' := (qup w 70 s9 (qor (w 70 s9) (qshl 1 ((t9 : Nat) : Int))))) (n' := 142) rfl ?_
            refine qG.ar (P := 0 ≤ ((t9 : Nat) : Int) ∧ ((t9 : Nat) : Int) < ((16 : Nat) : Int)) (P2 := 0 < (70 : Int) ∧ (70 : Int) ≤ ((142 : Nat) : Int)) (pc' := 94) (ls' := [(2, 69), (0, ((s9 : Nat) : Int)), (0, ((t9 : Nat) : Int)), (0, b)]) (st' := []) (w' := (qup (qup w 70 s9 (qor (w 70 s9) (qshl 1 ((t9 : Nat) : Int)))) 70 t9 (qand ((qup w 70 s9 (qor (w 70 s9) (qshl 1 ((t9 : Nat) : Int)))) 70 t9) (qxor (qshl 1 ((s9 : Nat) : Int)) (-1))))) (n' := 142) rfl (by omega) (by decide) ?_
            refine qG.blk 5 (pc' := 101) (ls' := [(2, 69), (0, ((s9 : Nat) : Int)), (0, ((t9 : Nat) : Int)), (0, b)]) (st' := [(0, wrp ((w 69 1) + 1)), (2, 69)]) (w' := (qup (qup w 70 s9 (qor (w 70 s9) (qshl 1 ((t9 : Nat) : Int)))) 70 t9 (qand ((qup w 70 s9 (qor (w 70 s9) (qshl 1 ((t9 : Nat) : Int)))) 70 t9) (qxor (qshl 1 ((s9 : Nat) : Int)) (-1))))) (n' := 142) rfl ?_
            refine qG.blk 2 (pc' := 105) (ls' := [(2, 69), (0, ((s9 : Nat) : Int)), (0, ((t9 : Nat) : Int)), (0, b)]) (st' := [(0, 1)]) (w' := (qup (qup (qup w 70 s9 (qor (w 70 s9) (qshl 1 ((t9 : Nat) : Int)))) 70 t9 (qand ((qup w 70 s9 (qor (w 70 s9) (qshl 1 ((t9 : Nat) : Int)))) 70 t9) (qxor (qshl 1 ((s9 : Nat) : Int)) (-1)))) 69 1 (wrp ((w 69 1) + 1)))) (n' := 142) rfl ?_
            refine qG.ret rfl (by first | rfl | exact decide_eq_true (by omega)) ?_
            subst hQ9
            refine ⟨rfl, ?_⟩; first | exact .inl ⟨(by unfold pwV; first | (rw [if_pos hs0]; done) | (rw [if_neg hs0, if_pos ht0]; done) | (rw [if_neg hs0, if_neg ht0, Int.toNat_natCast, Int.toNat_natCast, if_neg (ite01.mp hnb)]; done)), rfl, rfl⟩ | (exfalso; exact hb1 hb0) | (exfalso; exact hb0 hb1) | exact .inr ⟨(by unfold pwV; rw [if_neg hs0, if_neg ht0, Int.toNat_natCast, Int.toNat_natCast, if_pos hnb1]), rfl, s9, t9, rfl, rfl, by omega, by omega, hnb1, (by unfold wlX; first | (rw [if_pos hb0]; done) | (rw [if_neg hb0]; done) | (simp (disch := first | decide | omega) only [qup_ne, qup_j, qup_k]; first | (rw [if_pos hb0]; done) | (rw [if_neg hb0]; done))), (by unfold wlX; simp (disch := first | decide | omega) only [qup_ne, qup_j, qup_k]; first | (rw [if_pos hb0]; done) | (rw [if_neg hb0]; done)), (by simp (disch := decide) only [qup_ne, qup_k]), fun q k h h2 => by rw [qup_f h2, qup_f (fun z => h ⟨z.1, .inr z.2⟩), qup_f (fun z => h ⟨z.1, .inl z.2⟩)]⟩
        · skip
          refine qG.blk 2 (pc' := 37) (ls' := [(2, 69), (0, ((s9 : Nat) : Int)), (0, ((t9 : Nat) : Int)), (0, b)]) (st' := [(2, w 69 2), (0, ((s9 : Nat) : Int)), (2, 70)]) (w' := w) (n' := 142) rfl ?_
          rw [show w 69 2 = 70 from zref hI rfl rfl]
          refine qG.blk 1 (pc' := 38) (ls' := [(2, 69), (0, ((s9 : Nat) : Int)), (0, ((t9 : Nat) : Int)), (0, b)]) (st' := [(0, ((s9 : Nat) : Int)), (2, 70), (0, ((s9 : Nat) : Int)), (2, 70)]) (w' := w) (n' := 142) rfl ?_
          refine qG.ar (P := 0 ≤ ((s9 : Nat) : Int) ∧ ((s9 : Nat) : Int) < ((16 : Nat) : Int)) (P2 := 0 < (70 : Int) ∧ (70 : Int) ≤ ((142 : Nat) : Int)) (pc' := 39) (ls' := [(2, 69), (0, ((s9 : Nat) : Int)), (0, ((t9 : Nat) : Int)), (0, b)]) (st' := [(0, w 70 s9), (0, ((s9 : Nat) : Int)), (2, 70)]) (w' := w) (n' := 142) rfl (by omega) (by decide) ?_
          refine qG.blk 7 (pc' := 58) (ls' := [(2, 69), (0, ((s9 : Nat) : Int)), (0, ((t9 : Nat) : Int)), (0, b)]) (st' := [(0, qand (w 70 s9) (qxor (qshl 1 ((t9 : Nat) : Int)) (-1))), (0, ((s9 : Nat) : Int)), (2, 70)]) (w' := w) (n' := 142) rfl ?_
          refine qG.ar (P := 0 ≤ ((s9 : Nat) : Int) ∧ ((s9 : Nat) : Int) < ((16 : Nat) : Int)) (P2 := 0 < (70 : Int) ∧ (70 : Int) ≤ ((142 : Nat) : Int)) (pc' := 59) (ls' := [(2, 69), (0, ((s9 : Nat) : Int)), (0, ((t9 : Nat) : Int)), (0, b)]) (st' := []) (w' := (qup w 70 s9 (qand (w 70 s9) (qxor (qshl 1 ((t9 : Nat) : Int)) (-1))))) (n' := 142) rfl (by omega) (by decide) ?_
          refine qG.blk 2 (pc' := 63) (ls' := [(2, 69), (0, ((s9 : Nat) : Int)), (0, ((t9 : Nat) : Int)), (0, b)]) (st' := [(2, w 69 2)]) (w' := (qup w 70 s9 (qand (w 70 s9) (qxor (qshl 1 ((t9 : Nat) : Int)) (-1))))) (n' := 142) rfl ?_
          rw [show w 69 2 = 70 from zref hI rfl rfl]
          refine qG.blk 2 (pc' := 65) (ls' := [(2, 69), (0, ((s9 : Nat) : Int)), (0, ((t9 : Nat) : Int)), (0, b)]) (st' := [(0, b), (0, ((t9 : Nat) : Int)), (2, 70)]) (w' := (qup w 70 s9 (qand (w 70 s9) (qxor (qshl 1 ((t9 : Nat) : Int)) (-1))))) (n' := 142) rfl ?_
          refine qG.br (P := b = 0) (pc1 := 83) (pc2 := 68) (st1 := [(0, ((t9 : Nat) : Int)), (2, 70)]) rfl (fun hb1 => ?_) (fun hb1 => ?_)
          · skip
            refine qG.blk 2 (pc' := 87) (ls' := [(2, 69), (0, ((s9 : Nat) : Int)), (0, ((t9 : Nat) : Int)), (0, b)]) (st' := [(2, w 69 2), (0, ((t9 : Nat) : Int)), (2, 70)]) (w' := (qup w 70 s9 (qand (w 70 s9) (qxor (qshl 1 ((t9 : Nat) : Int)) (-1))))) (n' := 142) rfl ?_
            rw [show w 69 2 = 70 from zref hI rfl rfl]
            refine qG.blk 1 (pc' := 88) (ls' := [(2, 69), (0, ((s9 : Nat) : Int)), (0, ((t9 : Nat) : Int)), (0, b)]) (st' := [(0, ((t9 : Nat) : Int)), (2, 70), (0, ((t9 : Nat) : Int)), (2, 70)]) (w' := (qup w 70 s9 (qand (w 70 s9) (qxor (qshl 1 ((t9 : Nat) : Int)) (-1))))) (n' := 142) rfl ?_
            refine qG.ar (P := 0 ≤ ((t9 : Nat) : Int) ∧ ((t9 : Nat) : Int) < ((16 : Nat) : Int)) (P2 := 0 < (70 : Int) ∧ (70 : Int) ≤ ((142 : Nat) : Int)) (pc' := 89) (ls' := [(2, 69), (0, ((s9 : Nat) : Int)), (0, ((t9 : Nat) : Int)), (0, b)]) (st' := [(0, (qup w 70 s9 (qand (w 70 s9) (qxor (qshl 1 ((t9 : Nat) : Int)) (-1)))) 70 t9), (0, ((t9 : Nat) : Int)), (2, 70)]) (w' := (qup w 70 s9 (qand (w 70 s9) (qxor (qshl 1 ((t9 : Nat) : Int)) (-1))))) (n' := 142) rfl (by omega) (by decide) ?_
            refine qG.blk 4 (pc' := 93) (ls' := [(2, 69), (0, ((s9 : Nat) : Int)), (0, ((t9 : Nat) : Int)), (0, b)]) (st' := [(0, qor ((qup w 70 s9 (qand (w 70 s9) (qxor (qshl 1 ((t9 : Nat) : Int)) (-1)))) 70 t9) (qshl 1 ((s9 : Nat) : Int))), (0, ((t9 : Nat) : Int)), (2, 70)]) (w' := (qup w 70 s9 (qand (w 70 s9) (qxor (qshl 1 ((t9 : Nat) : Int)) (-1))))) (n' := 142) rfl ?_
            refine qG.ar (P := 0 ≤ ((t9 : Nat) : Int) ∧ ((t9 : Nat) : Int) < ((16 : Nat) : Int)) (P2 := 0 < (70 : Int) ∧ (70 : Int) ≤ ((142 : Nat) : Int)) (pc' := 94) (ls' := [(2, 69), (0, ((s9 : Nat) : Int)), (0, ((t9 : Nat) : Int)), (0, b)]) (st' := []) (w' := (qup (qup w 70 s9 (qand (w 70 s9) (qxor (qshl 1 ((t9 : Nat) : Int)) (-1)))) 70 t9 (qor ((qup w 70 s9 (qand (w 70 s9) (qxor (qshl 1 ((t9 : Nat) : Int)) (-1)))) 70 t9) (qshl 1 ((s9 : Nat) : Int))))) (n' := 142) rfl (by omega) (by decide) ?_
            refine qG.blk 5 (pc' := 101) (ls' := [(2, 69), (0, ((s9 : Nat) : Int)), (0, ((t9 : Nat) : Int)), (0, b)]) (st' := [(0, wrp ((w 69 1) + 1)), (2, 69)]) (w' := (qup (qup w 70 s9 (qand (w 70 s9) (qxor (qshl 1 ((t9 : Nat) : Int)) (-1)))) 70 t9 (qor ((qup w 70 s9 (qand (w 70 s9) (qxor (qshl 1 ((t9 : Nat) : Int)) (-1)))) 70 t9) (qshl 1 ((s9 : Nat) : Int))))) (n' := 142) rfl ?_
            refine qG.blk 2 (pc' := 105) (ls' := [(2, 69), (0, ((s9 : Nat) : Int)), (0, ((t9 : Nat) : Int)), (0, b)]) (st' := [(0, 1)]) (w' := (qup (qup (qup w 70 s9 (qand (w 70 s9) (qxor (qshl 1 ((t9 : Nat) : Int)) (-1)))) 70 t9 (qor ((qup w 70 s9 (qand (w 70 s9) (qxor (qshl 1 ((t9 : Nat) : Int)) (-1)))) 70 t9) (qshl 1 ((s9 : Nat) : Int)))) 69 1 (wrp ((w 69 1) + 1)))) (n' := 142) rfl ?_
            refine qG.ret rfl (by first | rfl | exact decide_eq_true (by omega)) ?_
            subst hQ9
            refine ⟨rfl, ?_⟩; first | exact .inl ⟨(by unfold pwV; first | (rw [if_pos hs0]; done) | (rw [if_neg hs0, if_pos ht0]; done) | (rw [if_neg hs0, if_neg ht0, Int.toNat_natCast, Int.toNat_natCast, if_neg (ite01.mp hnb)]; done)), rfl, rfl⟩ | (exfalso; exact hb1 hb0) | (exfalso; exact hb0 hb1) | exact .inr ⟨(by unfold pwV; rw [if_neg hs0, if_neg ht0, Int.toNat_natCast, Int.toNat_natCast, if_pos hnb1]), rfl, s9, t9, rfl, rfl, by omega, by omega, hnb1, (by unfold wlX; first | (rw [if_pos hb0]; done) | (rw [if_neg hb0]; done) | (simp (disch := first | decide | omega) only [qup_ne, qup_j, qup_k]; first | (rw [if_pos hb0]; done) | (rw [if_neg hb0]; done))), (by unfold wlX; simp (disch := first | decide | omega) only [qup_ne, qup_j, qup_k]; first | (rw [if_pos hb0]; done) | (rw [if_neg hb0]; done)), (by simp (disch := decide) only [qup_ne, qup_k]), fun q k h h2 => by rw [qup_f h2, qup_f (fun z => h ⟨z.1, .inr z.2⟩), qup_f (fun z => h ⟨z.1, .inl z.2⟩)]⟩
          · skip
            refine qG.blk 2 (pc' := 72) (ls' := [(2, 69), (0, ((s9 : Nat) : Int)), (0, ((t9 : Nat) : Int)), (0, b)]) (st' := [(2, w 69 2), (0, ((t9 : Nat) : Int)), (2, 70)]) (w' := (qup w 70 s9 (qand (w 70 s9) (qxor (qshl 1 ((t9 : Nat) : Int)) (-1))))) (n' := 142) rfl ?_
            rw [show w 69 2 = 70 from zref hI rfl rfl]
            refine qG.blk 1 (pc' := 73) (ls' := [(2, 69), (0, ((s9 : Nat) : Int)), (0, ((t9 : Nat) : Int)), (0, b)]) (st' := [(0, ((t9 : Nat) : Int)), (2, 70), (0, ((t9 : Nat) : Int)), (2, 70)]) (w' := (qup w 70 s9 (qand (w 70 s9) (qxor (qshl 1 ((t9 : Nat) : Int)) (-1))))) (n' := 142) rfl ?_
            refine qG.ar (P := 0 ≤ ((t9 : Nat) : Int) ∧ ((t9 : Nat) : Int) < ((16 : Nat) : Int)) (P2 := 0 < (70 : Int) ∧ (70 : Int) ≤ ((142 : Nat) : Int)) (pc' := 74) (ls' := [(2, 69), (0, ((s9 : Nat) : Int)), (0, ((t9 : Nat) : Int)), (0, b)]) (st' := [(0, (qup w 70 s9 (qand (w 70 s9) (qxor (qshl 1 ((t9 : Nat) : Int)) (-1)))) 70 t9), (0, ((t9 : Nat) : Int)), (2, 70)]) (w' := (qup w 70 s9 (qand (w 70 s9) (qxor (qshl 1 ((t9 : Nat) : Int)) (-1))))) (n' := 142) rfl (by omega) (by decide) ?_
            refine qG.blk 7 (pc' := 93) (ls' := [(2, 69), (0, ((s9 : Nat) : Int)), (0, ((t9 : Nat) : Int)), (0, b)]) (st' := [(0, qand ((qup w 70 s9 (qand (w 70 s9) (qxor (qshl 1 ((t9 : Nat) : Int)) (-1)))) 70 t9) (qxor (qshl 1 ((s9 : Nat) : Int)) (-1))), (0, ((t9 : Nat) : Int)), (2, 70)]) (w' := (qup w 70 s9 (qand (w 70 s9) (qxor (qshl 1 ((t9 : Nat) : Int)) (-1))))) (n' := 142) rfl ?_
            refine qG.ar (P := 0 ≤ ((t9 : Nat) : Int) ∧ ((t9 : Nat) : Int) < ((16 : Nat) : Int)) (P2 := 0 < (70 : Int) ∧ (70 : Int) ≤ ((142 : Nat) : Int)) (pc' := 94) (ls' := [(2, 69), (0, ((s9 : Nat) : Int)), (0, ((t9 : Nat) : Int)), (0, b)]) (st' := []) (w' := (qup (qup w 70 s9 (qand (w 70 s9) (qxor (qshl 1 ((t9 : Nat) : Int)) (-1)))) 70 t9 (qand ((qup w 70 s9 (qand (w 70 s9) (qxor (qshl 1 ((t9 : Nat) : Int)) (-1)))) 70 t9) (qxor (qshl 1 ((s9 : Nat) : Int)) (-1))))) (n' := 142) rfl (by omega) (by decide) ?_
            refine qG.blk 5 (pc' := 101) (ls' := [(2, 69), (0, ((s9 : Nat) : Int)), (0, ((t9 : Nat) : Int)), (0, b)]) (st' := [(0, wrp ((w 69 1) + 1)), (2, 69)]) (w' := (qup (qup w 70 s9 (qand (w 70 s9) (qxor (qshl 1 ((t9 : Nat) : Int)) (-1)))) 70 t9 (qand ((qup w 70 s9 (qand (w 70 s9) (qxor (qshl 1 ((t9 : Nat) : Int)) (-1)))) 70 t9) (qxor (qshl 1 ((s9 : Nat) : Int)) (-1))))) (n' := 142) rfl ?_
            refine qG.blk 2 (pc' := 105) (ls' := [(2, 69), (0, ((s9 : Nat) : Int)), (0, ((t9 : Nat) : Int)), (0, b)]) (st' := [(0, 1)]) (w' := (qup (qup (qup w 70 s9 (qand (w 70 s9) (qxor (qshl 1 ((t9 : Nat) : Int)) (-1)))) 70 t9 (qand ((qup w 70 s9 (qand (w 70 s9) (qxor (qshl 1 ((t9 : Nat) : Int)) (-1)))) 70 t9) (qxor (qshl 1 ((s9 : Nat) : Int)) (-1)))) 69 1 (wrp ((w 69 1) + 1)))) (n' := 142) rfl ?_
            refine qG.ret rfl (by first | rfl | exact decide_eq_true (by omega)) ?_
            subst hQ9
            refine ⟨rfl, ?_⟩; first | exact .inl ⟨(by unfold pwV; first | (rw [if_pos hs0]; done) | (rw [if_neg hs0, if_pos ht0]; done) | (rw [if_neg hs0, if_neg ht0, Int.toNat_natCast, Int.toNat_natCast, if_neg (ite01.mp hnb)]; done)), rfl, rfl⟩ | (exfalso; exact hb1 hb0) | (exfalso; exact hb0 hb1) | exact .inr ⟨(by unfold pwV; rw [if_neg hs0, if_neg ht0, Int.toNat_natCast, Int.toNat_natCast, if_pos hnb1]), rfl, s9, t9, rfl, rfl, by omega, by omega, hnb1, (by unfold wlX; first | (rw [if_pos hb0]; done) | (rw [if_neg hb0]; done) | (simp (disch := first | decide | omega) only [qup_ne, qup_j, qup_k]; first | (rw [if_pos hb0]; done) | (rw [if_neg hb0]; done))), (by unfold wlX; simp (disch := first | decide | omega) only [qup_ne, qup_j, qup_k]; first | (rw [if_pos hb0]; done) | (rw [if_neg hb0]; done)), (by simp (disch := decide) only [qup_ne, qup_k]), fun q k h h2 => by rw [qup_f h2, qup_f (fun z => h ⟨z.1, .inr z.2⟩), qup_f (fun z => h ⟨z.1, .inl z.2⟩)]⟩
theorem K_putWallE74 {d : Nat} (hd : 2 ≤ d) (s t b : Int) (w : qW) (hI : yInv zgf zga zra zSp w) : qG none d 21 0 [(2, 74), (0, s), (0, t), (0, b)] [] w 142 (fun (r : qV) (w1 : qW) (n1 : Nat) => n1 = 142 ∧ wlE 74 s t b w r w1) := by
  generalize hQ9 : (fun (r : qV) (w1 : qW) (n1 : Nat) => n1 = 142 ∧ wlE 74 s t b w r w1) = Q9
  obtain ⟨d, rfl⟩ : ∃ d9, d = d9 + 1 := ⟨d - 1, by omega⟩
  refine qG.blk 1 (pc' := 1) (ls' := [(2, 74), (0, s), (0, t), (0, b)]) (st' := [(0, s)]) (w' := w) (n' := 142) rfl ?_
  refine qG.call (t := 19) (na := 1) (sk := 0) (md := 0) (ls1 := [(0, s)]) (r1 := []) rfl rfl rfl rfl rfl (K_X2_isSpace (Nat.zero_le _) _ _) ?_
  rintro _ w7 _ ⟨rfl, hw7, rfl⟩
  rw [hw7]
  show qG none (d + 1) 21 4 [(2, 74), (0, s), (0, t), (0, b)] [(0, isInV s 0 15)] w 142 Q9
  refine qG.br (P := isInV s 0 15 = 0) (pc1 := 22) (pc2 := 7) (st1 := []) rfl (fun hs0 => ?_) (fun hs0 => ?_)
  · skip
    refine qG.blk 1 (pc' := 23) (ls' := [(2, 74), (0, s), (0, t), (0, b)]) (st' := [(0, 0)]) (w' := w) (n' := 142) rfl ?_
    refine qG.ret rfl (by first | rfl | exact decide_eq_true (by omega)) ?_
    subst hQ9
    refine ⟨rfl, ?_⟩; first | exact .inl ⟨(by unfold pwV; first | (rw [if_pos hs0]; done) | (rw [if_neg hs0, if_pos ht0]; done) | (rw [if_neg hs0, if_neg ht0, Int.toNat_natCast, Int.toNat_natCast, if_neg (ite01.mp hnb)]; done)), rfl, rfl⟩ | (exfalso; exact hb1 hb0) | (exfalso; exact hb0 hb1) | exact .inr ⟨(by unfold pwV; rw [if_neg hs0, if_neg ht0, Int.toNat_natCast, Int.toNat_natCast, if_pos hnb1]), rfl, s9, t9, rfl, rfl, by omega, by omega, hnb1, (by unfold wlX; first | (rw [if_pos hb0]; done) | (rw [if_neg hb0]; done) | (simp (disch := first | decide | omega) only [qup_ne, qup_j, qup_k]; first | (rw [if_pos hb0]; done) | (rw [if_neg hb0]; done))), (by unfold wlX; simp (disch := first | decide | omega) only [qup_ne, qup_j, qup_k]; first | (rw [if_pos hb0]; done) | (rw [if_neg hb0]; done)), (by simp (disch := decide) only [qup_ne, qup_k]), fun q k h h2 => by rw [qup_f h2, qup_f (fun z => h ⟨z.1, .inr z.2⟩), qup_f (fun z => h ⟨z.1, .inl z.2⟩)]⟩
  · skip
    obtain ⟨s9, rfl, hls9, hus9⟩ := isIn_n (by decide) hs0
    refine qG.blk 1 (pc' := 8) (ls' := [(2, 74), (0, ((s9 : Nat) : Int)), (0, t), (0, b)]) (st' := [(0, t)]) (w' := w) (n' := 142) rfl ?_
    refine qG.call (t := 19) (na := 1) (sk := 0) (md := 0) (ls1 := [(0, t)]) (r1 := []) rfl rfl rfl rfl rfl (K_X2_isSpace (Nat.zero_le _) _ _) ?_
    rintro _ w7 _ ⟨rfl, hw7, rfl⟩
    rw [hw7]
    show qG none (d + 1) 21 11 [(2, 74), (0, ((s9 : Nat) : Int)), (0, t), (0, b)] [(0, isInV t 0 15)] w 142 Q9
    refine qG.br (P := isInV t 0 15 = 0) (pc1 := 22) (pc2 := 14) (st1 := []) rfl (fun ht0 => ?_) (fun ht0 => ?_)
    · skip
      refine qG.blk 1 (pc' := 23) (ls' := [(2, 74), (0, ((s9 : Nat) : Int)), (0, t), (0, b)]) (st' := [(0, 0)]) (w' := w) (n' := 142) rfl ?_
      refine qG.ret rfl (by first | rfl | exact decide_eq_true (by omega)) ?_
      subst hQ9
      refine ⟨rfl, ?_⟩; first | exact .inl ⟨(by unfold pwV; first | (rw [if_pos hs0]; done) | (rw [if_neg hs0, if_pos ht0]; done) | (rw [if_neg hs0, if_neg ht0, Int.toNat_natCast, Int.toNat_natCast, if_neg (ite01.mp hnb)]; done)), rfl, rfl⟩ | (exfalso; exact hb1 hb0) | (exfalso; exact hb0 hb1) | exact .inr ⟨(by unfold pwV; rw [if_neg hs0, if_neg ht0, Int.toNat_natCast, Int.toNat_natCast, if_pos hnb1]), rfl, s9, t9, rfl, rfl, by omega, by omega, hnb1, (by unfold wlX; first | (rw [if_pos hb0]; done) | (rw [if_neg hb0]; done) | (simp (disch := first | decide | omega) only [qup_ne, qup_j, qup_k]; first | (rw [if_pos hb0]; done) | (rw [if_neg hb0]; done))), (by unfold wlX; simp (disch := first | decide | omega) only [qup_ne, qup_j, qup_k]; first | (rw [if_pos hb0]; done) | (rw [if_neg hb0]; done)), (by simp (disch := decide) only [qup_ne, qup_k]), fun q k h h2 => by rw [qup_f h2, qup_f (fun z => h ⟨z.1, .inr z.2⟩), qup_f (fun z => h ⟨z.1, .inl z.2⟩)]⟩
    · skip
      obtain ⟨t9, rfl, hlt9, hut9⟩ := isIn_n (by decide) ht0
      refine qG.blk 2 (pc' := 16) (ls' := [(2, 74), (0, ((s9 : Nat) : Int)), (0, ((t9 : Nat) : Int)), (0, b)]) (st' := [(0, ((t9 : Nat) : Int)), (0, ((s9 : Nat) : Int))]) (w' := w) (n' := 142) rfl ?_
      refine qG.call (t := 18) (na := 2) (sk := 0) (md := 0) (ls1 := [(0, ((s9 : Nat) : Int)), (0, ((t9 : Nat) : Int)), (9, 0), (9, 0), (9, 0)]) (r1 := []) rfl rfl rfl rfl rfl (K_X2_areN (by omega) s9 t9 (by omega) (by omega) _ _) ?_
      rintro _ w7 _ ⟨rfl, hw7, rfl⟩
      rw [hw7]
      show qG none (d + 1) 21 19 [(2, 74), (0, ((s9 : Nat) : Int)), (0, ((t9 : Nat) : Int)), (0, b)] [(0, (if nbB s9 t9 = true then 1 else 0))] w 142 Q9
      refine qG.br (P := (if nbB s9 t9 = true then 1 else 0) = 0) (pc1 := 22) (pc2 := 24) (st1 := []) rfl (fun hnb => ?_) (fun hnb => ?_)
      · skip
        refine qG.blk 1 (pc' := 23) (ls' := [(2, 74), (0, ((s9 : Nat) : Int)), (0, ((t9 : Nat) : Int)), (0, b)]) (st' := [(0, 0)]) (w' := w) (n' := 142) rfl ?_
        refine qG.ret rfl (by first | rfl | exact decide_eq_true (by omega)) ?_
        subst hQ9
        refine ⟨rfl, ?_⟩; first | exact .inl ⟨(by unfold pwV; first | (rw [if_pos hs0]; done) | (rw [if_neg hs0, if_pos ht0]; done) | (rw [if_neg hs0, if_neg ht0, Int.toNat_natCast, Int.toNat_natCast, if_neg (ite01.mp hnb)]; done)), rfl, rfl⟩ | (exfalso; exact hb1 hb0) | (exfalso; exact hb0 hb1) | exact .inr ⟨(by unfold pwV; rw [if_neg hs0, if_neg ht0, Int.toNat_natCast, Int.toNat_natCast, if_pos hnb1]), rfl, s9, t9, rfl, rfl, by omega, by omega, hnb1, (by unfold wlX; first | (rw [if_pos hb0]; done) | (rw [if_neg hb0]; done) | (simp (disch := first | decide | omega) only [qup_ne, qup_j, qup_k]; first | (rw [if_pos hb0]; done) | (rw [if_neg hb0]; done))), (by unfold wlX; simp (disch := first | decide | omega) only [qup_ne, qup_j, qup_k]; first | (rw [if_pos hb0]; done) | (rw [if_neg hb0]; done)), (by simp (disch := decide) only [qup_ne, qup_k]), fun q k h h2 => by rw [qup_f h2, qup_f (fun z => h ⟨z.1, .inr z.2⟩), qup_f (fun z => h ⟨z.1, .inl z.2⟩)]⟩
      · skip
        have hnb1 : nbB s9 t9 = true := Decidable.of_not_not (fun z => hnb (ite01.mpr z))
        have hne : t9 ≠ s9 := nb_ne (by omega) hnb1
        refine qG.blk 2 (pc' := 28) (ls' := [(2, 74), (0, ((s9 : Nat) : Int)), (0, ((t9 : Nat) : Int)), (0, b)]) (st' := [(2, w 74 2)]) (w' := w) (n' := 142) rfl ?_
        rw [show w 74 2 = 75 from zref hI rfl rfl]
        refine qG.blk 2 (pc' := 30) (ls' := [(2, 74), (0, ((s9 : Nat) : Int)), (0, ((t9 : Nat) : Int)), (0, b)]) (st' := [(0, b), (0, ((s9 : Nat) : Int)), (2, 75)]) (w' := w) (n' := 142) rfl ?_
        refine qG.br (P := b = 0) (pc1 := 48) (pc2 := 33) (st1 := [(0, ((s9 : Nat) : Int)), (2, 75)]) rfl (fun hb0 => ?_) (fun hb0 => ?_)
        · skip
          refine qG.blk 2 (pc' := 52) (ls' := [(2, 74), (0, ((s9 : Nat) : Int)), (0, ((t9 : Nat) : Int)), (0, b)]) (st' := [(2, w 74 2), (0, ((s9 : Nat) : Int)), (2, 75)]) (w' := w) (n' := 142) rfl ?_
          rw [show w 74 2 = 75 from zref hI rfl rfl]
          refine qG.blk 1 (pc' := 53) (ls' := [(2, 74), (0, ((s9 : Nat) : Int)), (0, ((t9 : Nat) : Int)), (0, b)]) (st' := [(0, ((s9 : Nat) : Int)), (2, 75), (0, ((s9 : Nat) : Int)), (2, 75)]) (w' := w) (n' := 142) rfl ?_
          refine qG.ar (P := 0 ≤ ((s9 : Nat) : Int) ∧ ((s9 : Nat) : Int) < ((16 : Nat) : Int)) (P2 := 0 < (75 : Int) ∧ (75 : Int) ≤ ((142 : Nat) : Int)) (pc' := 54) (ls' := [(2, 74), (0, ((s9 : Nat) : Int)), (0, ((t9 : Nat) : Int)), (0, b)]) (st' := [(0, w 75 s9), (0, ((s9 : Nat) : Int)), (2, 75)]) (w' := w) (n' := 142) rfl (by omega) (by decide) ?_
          refine qG.blk 4 (pc' := 58) (ls' := [(2, 74), (0, ((s9 : Nat) : Int)), (0, ((t9 : Nat) : Int)), (0, b)]) (st' := [(0, qor (w 75 s9) (qshl 1 ((t9 : Nat) : Int))), (0, ((s9 : Nat) : Int)), (2, 75)]) (w' := w) (n' := 142) rfl ?_
          refine qG.ar (P := 0 ≤ ((s9 : Nat) : Int) ∧ ((s9 : Nat) : Int) < ((16 : Nat) : Int)) (P2 := 0 < (75 : Int) ∧ (75 : Int) ≤ ((142 : Nat) : Int)) (pc' := 59) (ls' := [(2, 74), (0, ((s9 : Nat) : Int)), (0, ((t9 : Nat) : Int)), (0, b)]) (st' := []) (w' := (qup w 75 s9 (qor (w 75 s9) (qshl 1 ((t9 : Nat) : Int))))) (n' := 142) rfl (by omega) (by decide) ?_
          refine qG.blk 2 (pc' := 63) (ls' := [(2, 74), (0, ((s9 : Nat) : Int)), (0, ((t9 : Nat) : Int)), (0, b)]) (st' := [(2, w 74 2)]) (w' := (qup w 75 s9 (qor (w 75 s9) (qshl 1 ((t9 : Nat) : Int))))) (n' := 142) rfl ?_
          rw [show w 74 2 = 75 from zref hI rfl rfl]
          refine qG.blk 2 (pc' := 65) (ls' := [(2, 74), (0, ((s9 : Nat) : Int)), (0, ((t9 : Nat) : Int)), (0, b)]) (st' := [(0, b), (0, ((t9 : Nat) : Int)), (2, 75)]) (w' := (qup w 75 s9 (qor (w 75 s9) (qshl 1 ((t9 : Nat) : Int))))) (n' := 142) rfl ?_
          refine qG.br (P := b = 0) (pc1 := 83) (pc2 := 68) (st1 := [(0, ((t9 : Nat) : Int)), (2, 75)]) rfl (fun hb1 => ?_) (fun hb1 => ?_)
          · skip
            refine qG.blk 2 (pc' := 87) (ls' := [(2, 74), (0, ((s9 : Nat) : Int)), (0, ((t9 : Nat) : Int)), (0, b)]) (st' := [(2, w 74 2), (0, ((t9 : Nat) : Int)), (2, 75)]) (w' := (qup w 75 s9 (qor (w 75 s9) (qshl 1 ((t9 : Nat) : Int))))) (n' := 142) rfl ?_
            rw [show w 74 2 = 75 from zref hI rfl rfl]
            refine qG.blk 1 (pc' := 88) (ls' := [(2, 74), (0, ((s9 : Nat) : Int)), (0, ((t9 : Nat) : Int)), (0, b)]) (st' := [(0, ((t9 : Nat) : Int)), (2, 75), (0, ((t9 : Nat) : Int)), (2, 75)]) (w' := (qup w 75 s9 (qor (w 75 s9) (qshl 1 ((t9 : Nat) : Int))))) (n' := 142) rfl ?_
            refine qG.ar (P := 0 ≤ ((t9 : Nat) : Int) ∧ ((t9 : Nat) : Int) < ((16 : Nat) : Int)) (P2 := 0 < (75 : Int) ∧ (75 : Int) ≤ ((142 : Nat) : Int)) (pc' := 89) (ls' := [(2, 74), (0, ((s9 : Nat) : Int)), (0, ((t9 : Nat) : Int)), (0, b)]) (st' := [(0, (qup w 75 s9 (qor (w 75 s9) (qshl 1 ((t9 : Nat) : Int)))) 75 t9), (0, ((t9 : Nat) : Int)), (2, 75)]) (w' := (qup w 75 s9 (qor (w 75 s9) (qshl 1 ((t9 : Nat) : Int))))) (n' := 142) rfl (by omega) (by decide) ?_
            refine qG.blk 4 (pc' := 93) (ls' := [(2, 74), (0, ((s9 : Nat) : Int)), (0, ((t9 : Nat) : Int)), (0, b)]) (st' := [(0, qor ((qup w 75 s9 (qor (w 75 s9) (qshl 1 ((t9 : Nat) : Int)))) 75 t9) (qshl 1 ((s9 : Nat) : Int))), (0, ((t9 : Nat) : Int)), (2, 75)]) (w' := (qup w 75 s9 (qor (w 75 s9) (qshl 1 ((t9 : Nat) : Int))))) (n' := 142) rfl ?_
            refine qG.ar (P := 0 ≤ ((t9 : Nat) : Int) ∧ ((t9 : Nat) : Int) < ((16 : Nat) : Int)) (P2 := 0 < (75 : Int) ∧ (75 : Int) ≤ ((142 : Nat) : Int)) (pc' := 94) (ls' := [(2, 74), (0, ((s9 : Nat) : Int)), (0, ((t9 : Nat) : Int)), (0, b)]) (st' := []) (w' := (qup (qup w 75 s9 (qor (w 75 s9) (qshl 1 ((t9 : Nat) : Int)))) 75 t9 (qor ((qup w 75 s9 (qor (w 75 s9) (qshl 1 ((t9 : Nat) : Int)))) 75 t9) (qshl 1 ((s9 : Nat) : Int))))) (n' := 142) rfl (by omega) (by decide) ?_
            refine qG.blk 5 (pc' := 101) (ls' := [(2, 74), (0, ((s9 : Nat) : Int)), (0, ((t9 : Nat) : Int)), (0, b)]) (st' := [(0, wrp ((w 74 1) + 1)), (2, 74)]) (w' := (qup (qup w 75 s9 (qor (w 75 s9) (qshl 1 ((t9 : Nat) : Int)))) 75 t9 (qor ((qup w 75 s9 (qor (w 75 s9) (qshl 1 ((t9 : Nat) : Int)))) 75 t9) (qshl 1 ((s9 : Nat) : Int))))) (n' := 142) rfl ?_
            refine qG.blk 2 (pc' := 105) (ls' := [(2, 74), (0, ((s9 : Nat) : Int)), (0, ((t9 : Nat) : Int)), (0, b)]) (st' := [(0, 1)]) (w' := (qup (qup (qup w 75 s9 (qor (w 75 s9) (qshl 1 ((t9 : Nat) : Int)))) 75 t9 (qor ((qup w 75 s9 (qor (w 75 s9) (qshl 1 ((t9 : Nat) : Int)))) 75 t9) (qshl 1 ((s9 : Nat) : Int)))) 74 1 (wrp ((w 74 1) + 1)))) (n' := 142) rfl ?_
            refine qG.ret rfl (by first | rfl | exact decide_eq_true (by omega)) ?_
            subst hQ9
            refine ⟨rfl, ?_⟩; first | exact .inl ⟨(by unfold pwV; first | (rw [if_pos hs0]; done) | (rw [if_neg hs0, if_pos ht0]; done) | (rw [if_neg hs0, if_neg ht0, Int.toNat_natCast, Int.toNat_natCast, if_neg (ite01.mp hnb)]; done)), rfl, rfl⟩ | (exfalso; exact hb1 hb0) | (exfalso; exact hb0 hb1) | exact .inr ⟨(by unfold pwV; rw [if_neg hs0, if_neg ht0, Int.toNat_natCast, Int.toNat_natCast, if_pos hnb1]), rfl, s9, t9, rfl, rfl, by omega, by omega, hnb1, (by unfold wlX; first | (rw [if_pos hb0]; done) | (rw [if_neg hb0]; done) | (simp (disch := first | decide | omega) only [qup_ne, qup_j, qup_k]; first | (rw [if_pos hb0]; done) | (rw [if_neg hb0]; done))), (by unfold wlX; simp (disch := first | decide | omega) only [qup_ne, qup_j, qup_k]; first | (rw [if_pos hb0]; done) | (rw [if_neg hb0]; done)), (by simp (disch := decide) only [qup_ne, qup_k]), fun q k h h2 => by rw [qup_f h2, qup_f (fun z => h ⟨z.1, .inr z.2⟩), qup_f (fun z => h ⟨z.1, .inl z.2⟩)]⟩
          · skip
            refine qG.blk 2 (pc' := 72) (ls' := [(2, 74), (0, ((s9 : Nat) : Int)), (0, ((t9 : Nat) : Int)), (0, b)]) (st' := [(2, w 74 2), (0, ((t9 : Nat) : Int)), (2, 75)]) (w' := (qup w 75 s9 (qor (w 75 s9) (qshl 1 ((t9 : Nat) : Int))))) (n' := 142) rfl ?_
            rw [show w 74 2 = 75 from zref hI rfl rfl]
            refine qG.blk 1 (pc' := 73) (ls' := [(2, 74), (0, ((s9 : Nat) : Int)), (0, ((t9 : Nat) : Int)), (0, b)]) (st' := [(0, ((t9 : Nat) : Int)), (2, 75), (0, ((t9 : Nat) : Int)), (2, 75)]) (w' := (qup w 75 s9 (qor (w 75 s9) (qshl 1 ((t9 : Nat) : Int))))) (n' := 142) rfl ?_
            refine qG.ar (P := 0 ≤ ((t9 : Nat) : Int) ∧ ((t9 : Nat) : Int) < ((16 : Nat) : Int)) (P2 := 0 < (75 : Int) ∧ (75 : Int) ≤ ((142 : Nat) : Int)) (pc' := 74) (ls' := [(2, 74), (0, ((s9 : Nat) : Int)), (0, ((t9 : Nat) : Int)), (0, b)]) (st' := [(0, (qup w 75 s9 (qor (w 75 s9) (qshl 1 ((t9 : Nat) : Int)))) 75 t9), (0, ((t9 : Nat) : Int)), (2, 75)]) (w' := (qup w 75 s9 (qor (w 75 s9) (qshl 1 ((t9 : Nat) : Int))))) (n' := 142) rfl (by omega) (by decide) ?_
            refine qG.blk 7 (pc' := 93) (ls' := [(2, 74), (0, ((s9 : Nat) : Int)), (0, ((t9 : Nat) : Int)), (0, b)]) (st' := [(0, qand ((qup w 75 s9 (qor (w 75 s9) (qshl 1 ((t9 : Nat) : Int)))) 75 t9) (qxor (qshl 1 ((s9 : Nat) : Int)) (-1))), (0, ((t9 : Nat) : Int)), (2, 75)]) (w' := (qup w 75 s9 (qor (w 75 s9) (qshl 1 ((t9 : Nat) : Int))))) (n' := 142) rfl ?_
            refine qG.ar (P := 0 ≤ ((t9 : Nat) : Int) ∧ ((t9 : Nat) : Int) < ((16 : Nat) : Int)) (P2 := 0 < (75 : Int) ∧ (75 : Int) ≤ ((142 : Nat) : Int)) (pc' := 94) (ls' := [(2, 74), (0, ((s9 : Nat) : Int)), (0, ((t9 : Nat) : Int)), (0, b)]) (st' := []) (w' := (qup (qup w 75 s9 (qor (w 75 s9) (qshl 1 ((t9 : Nat) : Int)))) 75 t9 (qand ((qup w 75 s9 (qor (w 75 s9) (qshl 1 ((t9 : Nat) : Int)))) 75 t9) (qxor (qshl 1 ((s9 : Nat) : Int)) (-1))))) (n' := 142) rfl (by omega) (by decide) ?_
            refine qG.blk 5 (pc' := 101) (ls' := [(2, 74), (0, ((s9 : Nat) : Int)), (0, ((t9 : Nat) : Int)), (0, b)]) (st' := [(0, wrp ((w 74 1) + 1)), (2, 74)]) (w' := (qup (qup w 75 s9 (qor (w 75 s9) (qshl 1 ((t9 : Nat) : Int)))) 75 t9 (qand ((qup w 75 s9 (qor (w 75 s9) (qshl 1 ((t9 : Nat) : Int)))) 75 t9) (qxor (qshl 1 ((s9 : Nat) : Int)) (-1))))) (n' := 142) rfl ?_
            refine qG.blk 2 (pc' := 105) (ls' := [(2, 74), (0, ((s9 : Nat) : Int)), (0, ((t9 : Nat) : Int)), (0, b)]) (st' := [(0, 1)]) (w' := (qup (qup (qup w 75 s9 (qor (w 75 s9) (qshl 1 ((t9 : Nat) : Int)))) 75 t9 (qand ((qup w 75 s9 (qor (w 75 s9) (qshl 1 ((t9 : Nat) : Int)))) 75 t9) (qxor (qshl 1 ((s9 : Nat) : Int)) (-1)))) 74 1 (wrp ((w 74 1) + 1)))) (n' := 142) rfl ?_
            refine qG.ret rfl (by first | rfl | exact decide_eq_true (by omega)) ?_
            subst hQ9
            refine ⟨rfl, ?_⟩; first | exact .inl ⟨(by unfold pwV; first | (rw [if_pos hs0]; done) | (rw [if_neg hs0, if_pos ht0]; done) | (rw [if_neg hs0, if_neg ht0, Int.toNat_natCast, Int.toNat_natCast, if_neg (ite01.mp hnb)]; done)), rfl, rfl⟩ | (exfalso; exact hb1 hb0) | (exfalso; exact hb0 hb1) | exact .inr ⟨(by unfold pwV; rw [if_neg hs0, if_neg ht0, Int.toNat_natCast, Int.toNat_natCast, if_pos hnb1]), rfl, s9, t9, rfl, rfl, by omega, by omega, hnb1, (by unfold wlX; first | (rw [if_pos hb0]; done) | (rw [if_neg hb0]; done) | (simp (disch := first | decide | omega) only [qup_ne, qup_j, qup_k]; first | (rw [if_pos hb0]; done) | (rw [if_neg hb0]; done))), (by unfold wlX; simp (disch := first | decide | omega) only [qup_ne, qup_j, qup_k]; first | (rw [if_pos hb0]; done) | (rw [if_neg hb0]; done)), (by simp (disch := decide) only [qup_ne, qup_k]), fun q k h h2 => by rw [qup_f h2, qup_f (fun z => h ⟨z.1, .inr z.2⟩), qup_f (fun z => h ⟨z.1, .inl z.2⟩)]⟩
        · skip
          refine qG.blk 2 (pc' := 37) (ls' := [(2, 74), (0, ((s9 : Nat) : Int)), (0, ((t9 : Nat) : Int)), (0, b)]) (st' := [(2, w 74 2), (0, ((s9 : Nat) : Int)), (2, 75)]) (w' := w) (n' := 142) rfl ?_
          rw [show w 74 2 = 75 from zref hI rfl rfl]
          refine qG.blk 1 (pc' := 38) (ls' := [(2, 74), (0, ((s9 : Nat) : Int)), (0, ((t9 : Nat) : Int)), (0, b)]) (st' := [(0, ((s9 : Nat) : Int)), (2, 75), (0, ((s9 : Nat) : Int)), (2, 75)]) (w' := w) (n' := 142) rfl ?_
          refine qG.ar (P := 0 ≤ ((s9 : Nat) : Int) ∧ ((s9 : Nat) : Int) < ((16 : Nat) : Int)) (P2 := 0 < (75 : Int) ∧ (75 : Int) ≤ ((142 : Nat) : Int)) (pc' := 39) (ls' := [(2, 74), (0, ((s9 : Nat) : Int)), (0, ((t9 : Nat) : Int)), (0, b)]) (st' := [(0, w 75 s9), (0, ((s9 : Nat) : Int)), (2, 75)]) (w' := w) (n' := 142) rfl (by omega) (by decide) ?_
          refine qG.blk 7 (pc' := 58) (ls' := [(2, 74), (0, ((s9 : Nat) : Int)), (0, ((t9 : Nat) : Int)), (0, b)]) (st' := [(0, qand (w 75 s9) (qxor (qshl 1 ((t9 : Nat) : Int)) (-1))), (0, ((s9 : Nat) : Int)), (2, 75)]) (w' := w) (n' := 142) rfl ?_
          refine qG.ar (P := 0 ≤ ((s9 : Nat) : Int) ∧ ((s9 : Nat) : Int) < ((16 : Nat) : Int)) (P2 := 0 < (75 : Int) ∧ (75 : Int) ≤ ((142 : Nat) : Int)) (pc' := 59) (ls' := [(2, 74), (0, ((s9 : Nat) : Int)), (0, ((t9 : Nat) : Int)), (0, b)]) (st' := []) (w' := (qup w 75 s9 (qand (w 75 s9) (qxor (qshl 1 ((t9 : Nat) : Int)) (-1))))) (n' := 142) rfl (by omega) (by decide) ?_
          refine qG.blk 2 (pc' := 63) (ls' := [(2, 74), (0, ((s9 : Nat) : Int)), (0, ((t9 : Nat) : Int)), (0, b)]) (st' := [(2, w 74 2)]) (w' := (qup w 75 s9 (qand (w 75 s9) (qxor (qshl 1 ((t9 : Nat) : Int)) (-1))))) (n' := 142) rfl ?_
          rw [show w 74 2 = 75 from zref hI rfl rfl]
          refine qG.blk 2 (pc' := 65) (ls' := [(2, 74), (0, ((s9 : Nat) : Int)), (0, ((t9 : Nat) : Int)), (0, b)]) (st' := [(0, b), (0, ((t9 : Nat) : Int)), (2, 75)]) (w' := (qup w 75 s9 (qand (w 75 s9) (qxor (qshl 1 ((t9 : Nat) : Int)) (-1))))) (n' := 142) rfl ?_
          refine qG.br (P := b = 0) (pc1 := 83) (pc2 := 68) (st1 := [(0, ((t9 : Nat) : Int)), (2, 75)]) rfl (fun hb1 => ?_) (fun hb1 => ?_)
          · skip
            refine qG.blk 2 (pc' := 87) (ls' := [(2, 74), (0, ((s9 : Nat) : Int)), (0, ((t9 : Nat) : Int)), (0, b)]) (st' := [(2, w 74 2), (0, ((t9 : Nat) : Int)), (2, 75)]) (w' := (qup w 75 s9 (qand (w 75 s9) (qxor (qshl 1 ((t9 : Nat) : Int)) (-1))))) (n' := 142) rfl ?_
            rw [show w 74 2 = 75 from zref hI rfl rfl]
            refine qG.blk 1 (pc' := 88) (ls' := [(2, 74), (0, ((s9 : Nat) : Int)), (0, ((t9 : Nat) : Int)), (0, b)]) (st' := [(0, ((t9 : Nat) : Int)), (2, 75), (0, ((t9 : Nat) : Int)), (2, 75)]) (w' := (qup w 75 s9 (qand (w 75 s9) (qxor (qshl 1 ((t9 : Nat) : Int)) (-1))))) (n' := 142) rfl ?_
            refine qG.ar (P := 0 ≤ ((t9 : Nat) : Int) ∧ ((t9 : Nat) : Int) < ((16 : Nat) : Int)) (P2 := 0 < (75 : Int) ∧ (75 : Int) ≤ ((142 : Nat) : Int)) (pc' := 89) (ls' := [(2, 74), (0, ((s9 : Nat) : Int)), (0, ((t9 : Nat) : Int)), (0, b)]) (st' := [(0, (qup w 75 s9 (qand (w 75 s9) (qxor (qshl 1 ((t9 : Nat) : Int)) (-1)))) 75 t9), (0, ((t9 : Nat) : Int)), (2, 75)]) (w' := (qup w 75 s9 (qand (w 75 s9) (qxor (qshl 1 ((t9 : Nat) : Int)) (-1))))) (n' := 142) rfl (by omega) (by decide) ?_
            refine qG.blk 4 (pc' := 93) (ls' := [(2, 74), (0, ((s9 : Nat) : Int)), (0, ((t9 : Nat) : Int)), (0, b)]) (st' := [(0, qor ((qup w 75 s9 (qand (w 75 s9) (qxor (qshl 1 ((t9 : Nat) : Int)) (-1)))) 75 t9) (qshl 1 ((s9 : Nat) : Int))), (0, ((t9 : Nat) : Int)), (2, 75)]) (w' := (qup w 75 s9 (qand (w 75 s9) (qxor (qshl 1 ((t9 : Nat) : Int)) (-1))))) (n' := 142) rfl ?_
            refine qG.ar (P := 0 ≤ ((t9 : Nat) : Int) ∧ ((t9 : Nat) : Int) < ((16 : Nat) : Int)) (P2 := 0 < (75 : Int) ∧ (75 : Int) ≤ ((142 : Nat) : Int)) (pc' := 94) (ls' := [(2, 74), (0, ((s9 : Nat) : Int)), (0, ((t9 : Nat) : Int)), (0, b)]) (st' := []) (w' := (qup (qup w 75 s9 (qand (w 75 s9) (qxor (qshl 1 ((t9 : Nat) : Int)) (-1)))) 75 t9 (qor ((qup w 75 s9 (qand (w 75 s9) (qxor (qshl 1 ((t9 : Nat) : Int)) (-1)))) 75 t9) (qshl 1 ((s9 : Nat) : Int))))) (n' := 142) rfl (by omega) (by decide) ?_
            refine qG.blk 5 (pc' := 101) (ls' := [(2, 74), (0, ((s9 : Nat) : Int)), (0, ((t9 : Nat) : Int)), (0, b)]) (st' := [(0, wrp ((w 74 1) + 1)), (2, 74)]) (w' := (qup (qup w 75 s9 (qand (w 75 s9) (qxor (qshl 1 ((t9 : Nat) : Int)) (-1)))) 75 t9 (qor ((qup w 75 s9 (qand (w 75 s9) (qxor (qshl 1 ((t9 : Nat) : Int)) (-1)))) 75 t9) (qshl 1 ((s9 : Nat) : Int))))) (n' := 142) rfl ?_
            refine qG.blk 2 (pc' := 105) (ls' := [(2, 74), (0, ((s9 : Nat) : Int)), (0, ((t9 : Nat) : Int)), (0, b)]) (st' := [(0, 1)]) (w' := (qup (qup (qup w 75 s9 (qand (w 75 s9) (qxor (qshl 1 ((t9 : Nat) : Int)) (-1)))) 75 t9 (qor ((qup w 75 s9 (qand (w 75 s9) (qxor (qshl 1 ((t9 : Nat) : Int)) (-1)))) 75 t9) (qshl 1 ((s9 : Nat) : Int)))) 74 1 (wrp ((w 74 1) + 1)))) (n' := 142) rfl ?_
            refine qG.ret rfl (by first | rfl | exact decide_eq_true (by omega)) ?_
            subst hQ9
            refine ⟨rfl, ?_⟩; first | exact .inl ⟨(by unfold pwV; first | (rw [if_pos hs0]; done) | (rw [if_neg hs0, if_pos ht0]; done) | (rw [if_neg hs0, if_neg ht0, Int.toNat_natCast, Int.toNat_natCast, if_neg (ite01.mp hnb)]; done)), rfl, rfl⟩ | (exfalso; exact hb1 hb0) | (exfalso; exact hb0 hb1) | exact .inr ⟨(by unfold pwV; rw [if_neg hs0, if_neg ht0, Int.toNat_natCast, Int.toNat_natCast, if_pos hnb1]), rfl, s9, t9, rfl, rfl, by omega, by omega, hnb1, (by unfold wlX; first | (rw [if_pos hb0]; done) | (rw [if_neg hb0]; done) | (simp (disch := first | decide | omega) only [qup_ne, qup_j, qup_k]; first | (rw [if_pos hb0]; done) | (rw [if_neg hb0]; done))), (by unfold wlX; simp (disch := first | decide | omega) only [qup_ne, qup_j, qup_k]; first | (rw [if_pos hb0]; done) | (rw [if_neg hb0]; done)), (by simp (disch := decide) only [qup_ne, qup_k]), fun q k h h2 => by rw [qup_f h2, qup_f (fun z => h ⟨z.1, .inr z.2⟩), qup_f (fun z => h ⟨z.1, .inl z.2⟩)]⟩
          · skip
            refine qG.blk 2 (pc' := 72) (ls' := [(2, 74), (0, ((s9 : Nat) : Int)), (0, ((t9 : Nat) : Int)), (0, b)]) (st' := [(2, w 74 2), (0, ((t9 : Nat) : Int)), (2, 75)]) (w' := (qup w 75 s9 (qand (w 75 s9) (qxor (qshl 1 ((t9 : Nat) : Int)) (-1))))) (n' := 142) rfl ?_
            rw [show w 74 2 = 75 from zref hI rfl rfl]
            refine qG.blk 1 (pc' := 73) (ls' := [(2, 74), (0, ((s9 : Nat) : Int)), (0, ((t9 : Nat) : Int)), (0, b)]) (st' := [(0, ((t9 : Nat) : Int)), (2, 75), (0, ((t9 : Nat) : Int)), (2, 75)]) (w' := (qup w 75 s9 (qand (w 75 s9) (qxor (qshl 1 ((t9 : Nat) : Int)) (-1))))) (n' := 142) rfl ?_
            refine qG.ar (P := 0 ≤ ((t9 : Nat) : Int) ∧ ((t9 : Nat) : Int) < ((16 : Nat) : Int)) (P2 := 0 < (75 : Int) ∧ (75 : Int) ≤ ((142 : Nat) : Int)) (pc' := 74) (ls' := [(2, 74), (0, ((s9 : Nat) : Int)), (0, ((t9 : Nat) : Int)), (0, b)]) (st' := [(0, (qup w 75 s9 (qand (w 75 s9) (qxor (qshl 1 ((t9 : Nat) : Int)) (-1)))) 75 t9), (0, ((t9 : Nat) : Int)), (2, 75)]) (w' := (qup w 75 s9 (qand (w 75 s9) (qxor (qshl 1 ((t9 : Nat) : Int)) (-1))))) (n' := 142) rfl (by omega) (by decide) ?_
            refine qG.blk 7 (pc' := 93) (ls' := [(2, 74), (0, ((s9 : Nat) : Int)), (0, ((t9 : Nat) : Int)), (0, b)]) (st' := [(0, qand ((qup w 75 s9 (qand (w 75 s9) (qxor (qshl 1 ((t9 : Nat) : Int)) (-1)))) 75 t9) (qxor (qshl 1 ((s9 : Nat) : Int)) (-1))), (0, ((t9 : Nat) : Int)), (2, 75)]) (w' := (qup w 75 s9 (qand (w 75 s9) (qxor (qshl 1 ((t9 : Nat) : Int)) (-1))))) (n' := 142) rfl ?_
            refine qG.ar (P := 0 ≤ ((t9 : Nat) : Int) ∧ ((t9 : Nat) : Int) < ((16 : Nat) : Int)) (P2 := 0 < (75 : Int) ∧ (75 : Int) ≤ ((142 : Nat) : Int)) (pc' := 94) (ls' := [(2, 74), (0, ((s9 : Nat) : Int)), (0, ((t9 : Nat) : Int)), (0, b)]) (st' := []) (w' := (qup (qup w 75 s9 (qand (w 75 s9) (qxor (qshl 1 ((t9 : Nat) : Int)) (-1)))) 75 t9 (qand ((qup w 75 s9 (qand (w 75 s9) (qxor (qshl 1 ((t9 : Nat) : Int)) (-1)))) 75 t9) (qxor (qshl 1 ((s9 : Nat) : Int)) (-1))))) (n' := 142) rfl (by omega) (by decide) ?_
            refine qG.blk 5 (pc' := 101) (ls' := [(2, 74), (0, ((s9 : Nat) : Int)), (0, ((t9 : Nat) : Int)), (0, b)]) (st' := [(0, wrp ((w 74 1) + 1)), (2, 74)]) (w' := (qup (qup w 75 s9 (qand (w 75 s9) (qxor (qshl 1 ((t9 : Nat) : Int)) (-1)))) 75 t9 (qand ((qup w 75 s9 (qand (w 75 s9) (qxor (qshl 1 ((t9 : Nat) : Int)) (-1)))) 75 t9) (qxor (qshl 1 ((s9 : Nat) : Int)) (-1))))) (n' := 142) rfl ?_
            refine qG.blk 2 (pc' := 105) (ls' := [(2, 74), (0, ((s9 : Nat) : Int)), (0, ((t9 : Nat) : Int)), (0, b)]) (st' := [(0, 1)]) (w' := (qup (qup (qup w 75 s9 (qand (w 75 s9) (qxor (qshl 1 ((t9 : Nat) : Int)) (-1)))) 75 t9 (qand ((qup w 75 s9 (qand (w 75 s9) (qxor (qshl 1 ((t9 : Nat) : Int)) (-1)))) 75 t9) (qxor (qshl 1 ((s9 : Nat) : Int)) (-1)))) 74 1 (wrp ((w 74 1) + 1)))) (n' := 142) rfl ?_
            refine qG.ret rfl (by first | rfl | exact decide_eq_true (by omega)) ?_
            subst hQ9
            refine ⟨rfl, ?_⟩; first | exact .inl ⟨(by unfold pwV; first | (rw [if_pos hs0]; done) | (rw [if_neg hs0, if_pos ht0]; done) | (rw [if_neg hs0, if_neg ht0, Int.toNat_natCast, Int.toNat_natCast, if_neg (ite01.mp hnb)]; done)), rfl, rfl⟩ | (exfalso; exact hb1 hb0) | (exfalso; exact hb0 hb1) | exact .inr ⟨(by unfold pwV; rw [if_neg hs0, if_neg ht0, Int.toNat_natCast, Int.toNat_natCast, if_pos hnb1]), rfl, s9, t9, rfl, rfl, by omega, by omega, hnb1, (by unfold wlX; first | (rw [if_pos hb0]; done) | (rw [if_neg hb0]; done) | (simp (disch := first | decide | omega) only [qup_ne, qup_j, qup_k]; first | (rw [if_pos hb0]; done) | (rw [if_neg hb0]; done))), (by unfold wlX; simp (disch := first | decide | omega) only [qup_ne, qup_j, qup_k]; first | (rw [if_pos hb0]; done) | (rw [if_neg hb0]; done)), (by simp (disch := decide) only [qup_ne, qup_k]), fun q k h h2 => by rw [qup_f h2, qup_f (fun z => h ⟨z.1, .inr z.2⟩), qup_f (fun z => h ⟨z.1, .inl z.2⟩)]⟩
theorem K_X11_wallE_0 {d : Nat} (hd : 3 ≤ d) (s t b : Int) (w : qW) (hI : yInv zgf zga zra zSp w) : qG none d 165 0 [(2, 1), (0, 0), (0, s), (0, t), (0, b)] [] w 142 (fun (r : qV) (w1 : qW) (_ : Nat) => wlXE 0 s t b w r w1) := by
  generalize hQ9 : (fun (r : qV) (w1 : qW) (_ : Nat) => wlXE 0 s t b w r w1) = Q9
  obtain ⟨d, rfl⟩ : ∃ d9, d = d9 + 1 := ⟨d - 1, by omega⟩
  refine qG.blk 1 (pc' := 1) (ls' := [(2, 1), (0, 0), (0, s), (0, t), (0, b)]) (st' := [(0, 0)]) (w' := w) (n' := 142) rfl ?_
  refine qG.call (t := 198) (na := 1) (sk := 0) (md := 0) (ls1 := [(0, 0)]) (r1 := []) rfl rfl rfl rfl rfl (K_X11_isChest (Nat.zero_le _) _ _) ?_
  rintro _ w7 _ ⟨rfl, hw7, rfl⟩
  rw [hw7, show isInV 0 0 2 = 1 from by decide]
  show qG none (d + 1) 165 4 [(2, 1), (0, 0), (0, s), (0, t), (0, b)] [(0, 1)] w 142 Q9
  refine qG.br (P := (1 : Int) = 0) (pc1 := 27) (pc2 := 7) (st1 := []) rfl (fun h1 => ?_) (fun h1 => ?_)
  · exact absurd h1 (by decide)
  · skip
    refine qG.blk 2 (pc' := 11) (ls' := [(2, 1), (0, 0), (0, s), (0, t), (0, b)]) (st' := [(2, w 1 0)]) (w' := w) (n' := 142) rfl ?_
    rw [show w 1 0 = 2 from zref hI rfl rfl]
    refine qG.blk 1 (pc' := 12) (ls' := [(2, 1), (0, 0), (0, s), (0, t), (0, b)]) (st' := [(0, 0), (2, 2)]) (w' := w) (n' := 142) rfl ?_
    refine qG.ar (P := 0 ≤ 0 ∧ 0 < ((3 : Nat) : Int)) (P2 := 0 < (2 : Int) ∧ (2 : Int) ≤ ((142 : Nat) : Int)) (pc' := 13) (ls' := [(2, 1), (0, 0), (0, s), (0, t), (0, b)]) (st' := [(2, w 2 0)]) (w' := w) (n' := 142) rfl (by omega) (by decide) ?_
    rw [show w 2 0 = 64 from zref hI rfl rfl]
    refine qG.blk 3 (pc' := 17) (ls' := [(2, 1), (0, 0), (0, s), (0, t), (0, b)]) (st' := [(0, b), (0, t), (0, s), (2, 64)]) (w' := w) (n' := 142) rfl ?_
    refine qG.call (t := 21) (na := 4) (sk := 1) (md := 1) (ls1 := [(2, 64), (0, s), (0, t), (0, b)]) (r1 := []) rfl rfl rfl rfl rfl (K_putWallE64 (by omega) s t b w hI) ?_
    rintro ⟨_, x9⟩ w1 _ ⟨rfl, hE⟩; rcases hE with ⟨h9, hx9, hw1⟩ | ⟨h9, hx9, hE⟩ <;> obtain ⟨rfl, rfl⟩ := Prod.mk.inj hx9
    · skip
      show qG none (d + 1) 165 20 [(2, 1), (0, 0), (0, s), (0, t), (0, b)] [(0, 0)] w1 142 Q9
      refine qG.br (P := (0 : Int) = 0) (pc1 := 27) (pc2 := 23) (st1 := []) rfl (fun h2 => ?_) (fun h2 => ?_)
      · skip
        refine qG.blk 1 (pc' := 28) (ls' := [(2, 1), (0, 0), (0, s), (0, t), (0, b)]) (st' := [(0, 0)]) (w' := w1) (n' := 142) rfl ?_
        refine qG.ret rfl (by first | rfl | exact decide_eq_true (by omega)) ?_
        subst hQ9
        first | exact .inl ⟨(if_neg (by decide : ¬ isInV 0 0 2 = 0)).trans h9, rfl, hw1⟩ | (obtain ⟨s9, t9, e1, e2, e3⟩ := hE; exact .inr ⟨(if_neg (by decide : ¬ isInV 0 0 2 = 0)).trans h9, rfl, 0, s9, t9, rfl, by decide, e1, e2, e3⟩)
      · exact absurd h2 (by decide)
    · skip
      show qG none (d + 1) 165 20 [(2, 1), (0, 0), (0, s), (0, t), (0, b)] [(0, 1)] w1 142 Q9
      refine qG.br (P := (1 : Int) = 0) (pc1 := 27) (pc2 := 23) (st1 := []) rfl (fun h3 => ?_) (fun h3 => ?_)
      · exact absurd h3 (by decide)
      · skip
        refine qG.blk 2 (pc' := 28) (ls' := [(2, 1), (0, 0), (0, s), (0, t), (0, b)]) (st' := [(0, 1)]) (w' := w1) (n' := 142) rfl ?_
        refine qG.ret rfl (by first | rfl | exact decide_eq_true (by omega)) ?_
        subst hQ9
        first | exact .inl ⟨(if_neg (by decide : ¬ isInV 0 0 2 = 0)).trans h9, rfl, hw1⟩ | (obtain ⟨s9, t9, e1, e2, e3⟩ := hE; exact .inr ⟨(if_neg (by decide : ¬ isInV 0 0 2 = 0)).trans h9, rfl, 0, s9, t9, rfl, by decide, e1, e2, e3⟩)
theorem K_X11_wallE_1 {d : Nat} (hd : 3 ≤ d) (s t b : Int) (w : qW) (hI : yInv zgf zga zra zSp w) : qG none d 165 0 [(2, 1), (0, 1), (0, s), (0, t), (0, b)] [] w 142 (fun (r : qV) (w1 : qW) (_ : Nat) => wlXE 1 s t b w r w1) := by
  generalize hQ9 : (fun (r : qV) (w1 : qW) (_ : Nat) => wlXE 1 s t b w r w1) = Q9
  obtain ⟨d, rfl⟩ : ∃ d9, d = d9 + 1 := ⟨d - 1, by omega⟩
  refine qG.blk 1 (pc' := 1) (ls' := [(2, 1), (0, 1), (0, s), (0, t), (0, b)]) (st' := [(0, 1)]) (w' := w) (n' := 142) rfl ?_
  refine qG.call (t := 198) (na := 1) (sk := 0) (md := 0) (ls1 := [(0, 1)]) (r1 := []) rfl rfl rfl rfl rfl (K_X11_isChest (Nat.zero_le _) _ _) ?_
  rintro _ w7 _ ⟨rfl, hw7, rfl⟩
  rw [hw7, show isInV 1 0 2 = 1 from by decide]
  show qG none (d + 1) 165 4 [(2, 1), (0, 1), (0, s), (0, t), (0, b)] [(0, 1)] w 142 Q9
  refine qG.br (P := (1 : Int) = 0) (pc1 := 27) (pc2 := 7) (st1 := []) rfl (fun h1 => ?_) (fun h1 => ?_)
  · exact absurd h1 (by decide)
  · skip
    refine qG.blk 2 (pc' := 11) (ls' := [(2, 1), (0, 1), (0, s), (0, t), (0, b)]) (st' := [(2, w 1 0)]) (w' := w) (n' := 142) rfl ?_
    rw [show w 1 0 = 2 from zref hI rfl rfl]
    refine qG.blk 1 (pc' := 12) (ls' := [(2, 1), (0, 1), (0, s), (0, t), (0, b)]) (st' := [(0, 1), (2, 2)]) (w' := w) (n' := 142) rfl ?_
    refine qG.ar (P := 0 ≤ 1 ∧ 1 < ((3 : Nat) : Int)) (P2 := 0 < (2 : Int) ∧ (2 : Int) ≤ ((142 : Nat) : Int)) (pc' := 13) (ls' := [(2, 1), (0, 1), (0, s), (0, t), (0, b)]) (st' := [(2, w 2 1)]) (w' := w) (n' := 142) rfl (by omega) (by decide) ?_
    rw [show w 2 1 = 69 from zref hI rfl rfl]
    refine qG.blk 3 (pc' := 17) (ls' := [(2, 1), (0, 1), (0, s), (0, t), (0, b)]) (st' := [(0, b), (0, t), (0, s), (2, 69)]) (w' := w) (n' := 142) rfl ?_
    refine qG.call (t := 21) (na := 4) (sk := 1) (md := 1) (ls1 := [(2, 69), (0, s), (0, t), (0, b)]) (r1 := []) rfl rfl rfl rfl rfl (K_putWallE69 (by omega) s t b w hI) ?_
    rintro ⟨_, x9⟩ w1 _ ⟨rfl, hE⟩; rcases hE with ⟨h9, hx9, hw1⟩ | ⟨h9, hx9, hE⟩ <;> obtain ⟨rfl, rfl⟩ := Prod.mk.inj hx9
    · skip
      show qG none (d + 1) 165 20 [(2, 1), (0, 1), (0, s), (0, t), (0, b)] [(0, 0)] w1 142 Q9
      refine qG.br (P := (0 : Int) = 0) (pc1 := 27) (pc2 := 23) (st1 := []) rfl (fun h2 => ?_) (fun h2 => ?_)
      · skip
        refine qG.blk 1 (pc' := 28) (ls' := [(2, 1), (0, 1), (0, s), (0, t), (0, b)]) (st' := [(0, 0)]) (w' := w1) (n' := 142) rfl ?_
        refine qG.ret rfl (by first | rfl | exact decide_eq_true (by omega)) ?_
        subst hQ9
        first | exact .inl ⟨(if_neg (by decide : ¬ isInV 1 0 2 = 0)).trans h9, rfl, hw1⟩ | (obtain ⟨s9, t9, e1, e2, e3⟩ := hE; exact .inr ⟨(if_neg (by decide : ¬ isInV 1 0 2 = 0)).trans h9, rfl, 1, s9, t9, rfl, by decide, e1, e2, e3⟩)
      · exact absurd h2 (by decide)
    · skip
      show qG none (d + 1) 165 20 [(2, 1), (0, 1), (0, s), (0, t), (0, b)] [(0, 1)] w1 142 Q9
      refine qG.br (P := (1 : Int) = 0) (pc1 := 27) (pc2 := 23) (st1 := []) rfl (fun h3 => ?_) (fun h3 => ?_)
      · exact absurd h3 (by decide)
      · skip
        refine qG.blk 2 (pc' := 28) (ls' := [(2, 1), (0, 1), (0, s), (0, t), (0, b)]) (st' := [(0, 1)]) (w' := w1) (n' := 142) rfl ?_
        refine qG.ret rfl (by first | rfl | exact decide_eq_true (by omega)) ?_
        subst hQ9
        first | exact .inl ⟨(if_neg (by decide : ¬ isInV 1 0 2 = 0)).trans h9, rfl, hw1⟩ | (obtain ⟨s9, t9, e1, e2, e3⟩ := hE; exact .inr ⟨(if_neg (by decide : ¬ isInV 1 0 2 = 0)).trans h9, rfl, 1, s9, t9, rfl, by decide, e1, e2, e3⟩)
theorem K_X11_wallE_2 {d : Nat} (hd : 3 ≤ d) (s t b : Int) (w : qW) (hI : yInv zgf zga zra zSp w) : qG none d 165 0 [(2, 1), (0, 2), (0, s), (0, t), (0, b)] [] w 142 (fun (r : qV) (w1 : qW) (_ : Nat) => wlXE 2 s t b w r w1) := by
  generalize hQ9 : (fun (r : qV) (w1 : qW) (_ : Nat) => wlXE 2 s t b w r w1) = Q9
  obtain ⟨d, rfl⟩ : ∃ d9, d = d9 + 1 := ⟨d - 1, by omega⟩
  refine qG.blk 1 (pc' := 1) (ls' := [(2, 1), (0, 2), (0, s), (0, t), (0, b)]) (st' := [(0, 2)]) (w' := w) (n' := 142) rfl ?_
  refine qG.call (t := 198) (na := 1) (sk := 0) (md := 0) (ls1 := [(0, 2)]) (r1 := []) rfl rfl rfl rfl rfl (K_X11_isChest (Nat.zero_le _) _ _) ?_
  rintro _ w7 _ ⟨rfl, hw7, rfl⟩
  rw [hw7, show isInV 2 0 2 = 1 from by decide]
  show qG none (d + 1) 165 4 [(2, 1), (0, 2), (0, s), (0, t), (0, b)] [(0, 1)] w 142 Q9
  refine qG.br (P := (1 : Int) = 0) (pc1 := 27) (pc2 := 7) (st1 := []) rfl (fun h1 => ?_) (fun h1 => ?_)
  · exact absurd h1 (by decide)
  · skip
    refine qG.blk 2 (pc' := 11) (ls' := [(2, 1), (0, 2), (0, s), (0, t), (0, b)]) (st' := [(2, w 1 0)]) (w' := w) (n' := 142) rfl ?_
    rw [show w 1 0 = 2 from zref hI rfl rfl]
    refine qG.blk 1 (pc' := 12) (ls' := [(2, 1), (0, 2), (0, s), (0, t), (0, b)]) (st' := [(0, 2), (2, 2)]) (w' := w) (n' := 142) rfl ?_
    refine qG.ar (P := 0 ≤ 2 ∧ 2 < ((3 : Nat) : Int)) (P2 := 0 < (2 : Int) ∧ (2 : Int) ≤ ((142 : Nat) : Int)) (pc' := 13) (ls' := [(2, 1), (0, 2), (0, s), (0, t), (0, b)]) (st' := [(2, w 2 2)]) (w' := w) (n' := 142) rfl (by omega) (by decide) ?_
    rw [show w 2 2 = 74 from zref hI rfl rfl]
    refine qG.blk 3 (pc' := 17) (ls' := [(2, 1), (0, 2), (0, s), (0, t), (0, b)]) (st' := [(0, b), (0, t), (0, s), (2, 74)]) (w' := w) (n' := 142) rfl ?_
    refine qG.call (t := 21) (na := 4) (sk := 1) (md := 1) (ls1 := [(2, 74), (0, s), (0, t), (0, b)]) (r1 := []) rfl rfl rfl rfl rfl (K_putWallE74 (by omega) s t b w hI) ?_
    rintro ⟨_, x9⟩ w1 _ ⟨rfl, hE⟩; rcases hE with ⟨h9, hx9, hw1⟩ | ⟨h9, hx9, hE⟩ <;> obtain ⟨rfl, rfl⟩ := Prod.mk.inj hx9
    · skip
      show qG none (d + 1) 165 20 [(2, 1), (0, 2), (0, s), (0, t), (0, b)] [(0, 0)] w1 142 Q9
      refine qG.br (P := (0 : Int) = 0) (pc1 := 27) (pc2 := 23) (st1 := []) rfl (fun h2 => ?_) (fun h2 => ?_)
      · skip
        refine qG.blk 1 (pc' := 28) (ls' := [(2, 1), (0, 2), (0, s), (0, t), (0, b)]) (st' := [(0, 0)]) (w' := w1) (n' := 142) rfl ?_
        refine qG.ret rfl (by first | rfl | exact decide_eq_true (by omega)) ?_
        subst hQ9
        first | exact .inl ⟨(if_neg (by decide : ¬ isInV 2 0 2 = 0)).trans h9, rfl, hw1⟩ | (obtain ⟨s9, t9, e1, e2, e3⟩ := hE; exact .inr ⟨(if_neg (by decide : ¬ isInV 2 0 2 = 0)).trans h9, rfl, 2, s9, t9, rfl, by decide, e1, e2, e3⟩)
      · exact absurd h2 (by decide)
    · skip
      show qG none (d + 1) 165 20 [(2, 1), (0, 2), (0, s), (0, t), (0, b)] [(0, 1)] w1 142 Q9
      refine qG.br (P := (1 : Int) = 0) (pc1 := 27) (pc2 := 23) (st1 := []) rfl (fun h3 => ?_) (fun h3 => ?_)
      · exact absurd h3 (by decide)
      · skip
        refine qG.blk 2 (pc' := 28) (ls' := [(2, 1), (0, 2), (0, s), (0, t), (0, b)]) (st' := [(0, 1)]) (w' := w1) (n' := 142) rfl ?_
        refine qG.ret rfl (by first | rfl | exact decide_eq_true (by omega)) ?_
        subst hQ9
        first | exact .inl ⟨(if_neg (by decide : ¬ isInV 2 0 2 = 0)).trans h9, rfl, hw1⟩ | (obtain ⟨s9, t9, e1, e2, e3⟩ := hE; exact .inr ⟨(if_neg (by decide : ¬ isInV 2 0 2 = 0)).trans h9, rfl, 2, s9, t9, rfl, by decide, e1, e2, e3⟩)
theorem K_X11_wallE_n {d : Nat} (hd : 3 ≤ d) (c s t b : Int) (hc : isInV c 0 2 = 0) (w : qW) (hI : yInv zgf zga zra zSp w) : qG none d 165 0 [(2, 1), (0, c), (0, s), (0, t), (0, b)] [] w 142 (fun (r : qV) (w1 : qW) (_ : Nat) => wlXE c s t b w r w1) := by
  generalize hQ9 : (fun (r : qV) (w1 : qW) (_ : Nat) => wlXE c s t b w r w1) = Q9
  obtain ⟨d, rfl⟩ : ∃ d9, d = d9 + 1 := ⟨d - 1, by omega⟩
  refine qG.blk 1 (pc' := 1) (ls' := [(2, 1), (0, c), (0, s), (0, t), (0, b)]) (st' := [(0, c)]) (w' := w) (n' := 142) rfl ?_
  refine qG.call (t := 198) (na := 1) (sk := 0) (md := 0) (ls1 := [(0, c)]) (r1 := []) rfl rfl rfl rfl rfl (K_X11_isChest (Nat.zero_le _) _ _) ?_
  rintro _ w7 _ ⟨rfl, hw7, rfl⟩
  rw [hw7]
  show qG none (d + 1) 165 4 [(2, 1), (0, c), (0, s), (0, t), (0, b)] [(0, isInV c 0 2)] w 142 Q9
  refine qG.br (P := isInV c 0 2 = 0) (pc1 := 27) (pc2 := 7) (st1 := []) rfl (fun hc0 => ?_) (fun hc0 => ?_)
  · skip
    refine qG.blk 1 (pc' := 28) (ls' := [(2, 1), (0, c), (0, s), (0, t), (0, b)]) (st' := [(0, 0)]) (w' := w) (n' := 142) rfl ?_
    refine qG.ret rfl (by first | rfl | exact decide_eq_true (by omega)) ?_
    subst hQ9
    exact .inl ⟨if_pos hc, rfl, rfl⟩
  · exfalso; exact hc0 hc
theorem K_X11_wallE {d : Nat} (hd : 3 ≤ d) (c s t b : Int) (w : qW) (hI : yInv zgf zga zra zSp w) : qG none d 165 0 (qini 165 [(2, 1), (0, c), (0, s), (0, t), (0, b)]) [] w 142 (fun (r : qV) (w1 : qW) (_ : Nat) => wlXE c s t b w r w1) := by
  by_cases h : isInV c 0 2 = 0
  · exact K_X11_wallE_n hd c s t b h w hI
  · obtain ⟨n, rfl, h1, h2⟩ := isIn_n (by decide) h
    rcases (show n = 0 ∨ n = 1 ∨ n = 2 by omega) with rfl | rfl | rfl
    · exact K_X11_wallE_0 hd s t b w hI
    · exact K_X11_wallE_1 hd s t b w hI
    · exact K_X11_wallE_2 hd s t b w hI
theorem K_X12_wallE {d : Nat} (hd : 2 ≤ d) (c s t b : Int) (w : qW) (hI : yInv zgf zga zra zSp w) : qG none d 215 0 [(2, 95), (0, c), (0, s), (0, t), (0, b), (9, 0), (9, 0)] [] w 142 (fun (r : qV) (w1 : qW) (_ : Nat) => wlRE c s t b w r w1) := by
  generalize hQ9 : (fun (r : qV) (w1 : qW) (_ : Nat) => wlRE c s t b w r w1) = Q9
  obtain ⟨d, rfl⟩ : ∃ d9, d = d9 + 1 := ⟨d - 1, by omega⟩
  refine qG.blk 1 (pc' := 1) (ls' := [(2, 95), (0, c), (0, s), (0, t), (0, b), (9, 0), (9, 0)]) (st' := [(0, c)]) (w' := w) (n' := 142) rfl ?_
  refine qG.call (t := 207) (na := 1) (sk := 0) (md := 0) (ls1 := [(0, c)]) (r1 := []) rfl rfl rfl rfl rfl (K_isChest (by omega) _ _) ?_
  rintro _ w7 _ ⟨rfl, hw7, rfl⟩
  rw [hw7]
  show qG none (d + 1) 215 4 [(2, 95), (0, c), (0, s), (0, t), (0, b), (9, 0), (9, 0)] [(0, isInV c 0 2)] w 142 Q9
  refine qG.br (P := isInV c 0 2 = 0) (pc1 := 29) (pc2 := 7) (st1 := []) rfl (fun hc0 => ?_) (fun hc0 => ?_)
  · skip
    refine qG.blk 1 (pc' := 30) (ls' := [(2, 95), (0, c), (0, s), (0, t), (0, b), (9, 0), (9, 0)]) (st' := [(0, 0)]) (w' := w) (n' := 142) rfl ?_
    refine qG.ret rfl (by first | rfl | exact decide_eq_true (by omega)) ?_
    subst hQ9
    first | exact .inl ⟨(by unfold wallV pwV; first | (rw [if_pos hc0]; done) | (rw [if_neg hc0, if_pos hs0]; done) | (rw [if_neg hc0, if_neg hs0, if_pos ht0]; done) | (rw [if_neg hc0, if_neg hs0, if_neg ht0, Int.toNat_natCast, Int.toNat_natCast, if_neg (ite01.mp hnb)]; done)), rfl, rfl⟩ | (exfalso; exact hb1 hb0) | (exfalso; exact hb0 hb1) | exact .inr ⟨(by unfold wallV pwV; rw [if_neg hc0, if_neg hs0, if_neg ht0, Int.toNat_natCast, Int.toNat_natCast, if_pos hnb1]), rfl, c9, s9, t9, rfl, by omega, rfl, rfl, by omega, by omega, hnb1, (by unfold wkN; simp (disch := first | decide | omega) only [qup_ne, qup_j, qup_k]; first | (rw [if_pos hb0]; done) | (rw [if_neg hb0]; done)), (by unfold wkN; simp (disch := first | decide | omega) only [qup_ne, qup_j, qup_k]; first | (rw [if_pos hb0]; done) | (rw [if_neg hb0]; done)), (by simp (disch := decide) only [qup_ne, qup_k]), fun q k h h2 => by rw [qup_f (fun z => h ⟨z.1, .inr z.2⟩), qup_f (fun z => h ⟨z.1, .inl z.2⟩), qup_f h2]⟩
  · skip
    obtain ⟨c9, rfl, hlc9, huc9⟩ := isIn_n (by decide) hc0
    refine qG.blk 1 (pc' := 8) (ls' := [(2, 95), (0, ((c9 : Nat) : Int)), (0, s), (0, t), (0, b), (9, 0), (9, 0)]) (st' := [(0, s)]) (w' := w) (n' := 142) rfl ?_
    refine qG.call (t := 208) (na := 1) (sk := 0) (md := 0) (ls1 := [(0, s)]) (r1 := []) rfl rfl rfl rfl rfl (K_X12_isSpace (by omega) _ _) ?_
    rintro _ w7 _ ⟨rfl, hw7, rfl⟩
    rw [hw7]
    show qG none (d + 1) 215 11 [(2, 95), (0, ((c9 : Nat) : Int)), (0, s), (0, t), (0, b), (9, 0), (9, 0)] [(0, isInV s 0 15)] w 142 Q9
    refine qG.br (P := isInV s 0 15 = 0) (pc1 := 29) (pc2 := 14) (st1 := []) rfl (fun hs0 => ?_) (fun hs0 => ?_)
    · skip
      refine qG.blk 1 (pc' := 30) (ls' := [(2, 95), (0, ((c9 : Nat) : Int)), (0, s), (0, t), (0, b), (9, 0), (9, 0)]) (st' := [(0, 0)]) (w' := w) (n' := 142) rfl ?_
      refine qG.ret rfl (by first | rfl | exact decide_eq_true (by omega)) ?_
      subst hQ9
      first | exact .inl ⟨(by unfold wallV pwV; first | (rw [if_pos hc0]; done) | (rw [if_neg hc0, if_pos hs0]; done) | (rw [if_neg hc0, if_neg hs0, if_pos ht0]; done) | (rw [if_neg hc0, if_neg hs0, if_neg ht0, Int.toNat_natCast, Int.toNat_natCast, if_neg (ite01.mp hnb)]; done)), rfl, rfl⟩ | (exfalso; exact hb1 hb0) | (exfalso; exact hb0 hb1) | exact .inr ⟨(by unfold wallV pwV; rw [if_neg hc0, if_neg hs0, if_neg ht0, Int.toNat_natCast, Int.toNat_natCast, if_pos hnb1]), rfl, c9, s9, t9, rfl, by omega, rfl, rfl, by omega, by omega, hnb1, (by unfold wkN; simp (disch := first | decide | omega) only [qup_ne, qup_j, qup_k]; first | (rw [if_pos hb0]; done) | (rw [if_neg hb0]; done)), (by unfold wkN; simp (disch := first | decide | omega) only [qup_ne, qup_j, qup_k]; first | (rw [if_pos hb0]; done) | (rw [if_neg hb0]; done)), (by simp (disch := decide) only [qup_ne, qup_k]), fun q k h h2 => by rw [qup_f (fun z => h ⟨z.1, .inr z.2⟩), qup_f (fun z => h ⟨z.1, .inl z.2⟩), qup_f h2]⟩
    · skip
      obtain ⟨s9, rfl, hls9, hus9⟩ := isIn_n (by decide) hs0
      refine qG.blk 1 (pc' := 15) (ls' := [(2, 95), (0, ((c9 : Nat) : Int)), (0, ((s9 : Nat) : Int)), (0, t), (0, b), (9, 0), (9, 0)]) (st' := [(0, t)]) (w' := w) (n' := 142) rfl ?_
      refine qG.call (t := 208) (na := 1) (sk := 0) (md := 0) (ls1 := [(0, t)]) (r1 := []) rfl rfl rfl rfl rfl (K_X12_isSpace (by omega) _ _) ?_
      rintro _ w7 _ ⟨rfl, hw7, rfl⟩
      rw [hw7]
      show qG none (d + 1) 215 18 [(2, 95), (0, ((c9 : Nat) : Int)), (0, ((s9 : Nat) : Int)), (0, t), (0, b), (9, 0), (9, 0)] [(0, isInV t 0 15)] w 142 Q9
      refine qG.br (P := isInV t 0 15 = 0) (pc1 := 29) (pc2 := 21) (st1 := []) rfl (fun ht0 => ?_) (fun ht0 => ?_)
      · skip
        refine qG.blk 1 (pc' := 30) (ls' := [(2, 95), (0, ((c9 : Nat) : Int)), (0, ((s9 : Nat) : Int)), (0, t), (0, b), (9, 0), (9, 0)]) (st' := [(0, 0)]) (w' := w) (n' := 142) rfl ?_
        refine qG.ret rfl (by first | rfl | exact decide_eq_true (by omega)) ?_
        subst hQ9
        first | exact .inl ⟨(by unfold wallV pwV; first | (rw [if_pos hc0]; done) | (rw [if_neg hc0, if_pos hs0]; done) | (rw [if_neg hc0, if_neg hs0, if_pos ht0]; done) | (rw [if_neg hc0, if_neg hs0, if_neg ht0, Int.toNat_natCast, Int.toNat_natCast, if_neg (ite01.mp hnb)]; done)), rfl, rfl⟩ | (exfalso; exact hb1 hb0) | (exfalso; exact hb0 hb1) | exact .inr ⟨(by unfold wallV pwV; rw [if_neg hc0, if_neg hs0, if_neg ht0, Int.toNat_natCast, Int.toNat_natCast, if_pos hnb1]), rfl, c9, s9, t9, rfl, by omega, rfl, rfl, by omega, by omega, hnb1, (by unfold wkN; simp (disch := first | decide | omega) only [qup_ne, qup_j, qup_k]; first | (rw [if_pos hb0]; done) | (rw [if_neg hb0]; done)), (by unfold wkN; simp (disch := first | decide | omega) only [qup_ne, qup_j, qup_k]; first | (rw [if_pos hb0]; done) | (rw [if_neg hb0]; done)), (by simp (disch := decide) only [qup_ne, qup_k]), fun q k h h2 => by rw [qup_f (fun z => h ⟨z.1, .inr z.2⟩), qup_f (fun z => h ⟨z.1, .inl z.2⟩), qup_f h2]⟩
      · skip
        obtain ⟨t9, rfl, hlt9, hut9⟩ := isIn_n (by decide) ht0
        refine qG.blk 2 (pc' := 23) (ls' := [(2, 95), (0, ((c9 : Nat) : Int)), (0, ((s9 : Nat) : Int)), (0, ((t9 : Nat) : Int)), (0, b), (9, 0), (9, 0)]) (st' := [(0, ((t9 : Nat) : Int)), (0, ((s9 : Nat) : Int))]) (w' := w) (n' := 142) rfl ?_
        refine qG.call (t := 213) (na := 2) (sk := 0) (md := 0) (ls1 := [(0, ((s9 : Nat) : Int)), (0, ((t9 : Nat) : Int))]) (r1 := []) rfl rfl rfl rfl rfl (K_areNm (by omega) s9 t9 (by omega) (by omega) w hI) ?_
        rintro _ w7 _ ⟨rfl, hw7, rfl⟩
        rw [hw7]
        show qG none (d + 1) 215 26 [(2, 95), (0, ((c9 : Nat) : Int)), (0, ((s9 : Nat) : Int)), (0, ((t9 : Nat) : Int)), (0, b), (9, 0), (9, 0)] [(0, (if nbB s9 t9 = true then 1 else 0))] w 142 Q9
        refine qG.br (P := (if nbB s9 t9 = true then 1 else 0) = 0) (pc1 := 29) (pc2 := 31) (st1 := []) rfl (fun hnb => ?_) (fun hnb => ?_)
        · skip
          refine qG.blk 1 (pc' := 30) (ls' := [(2, 95), (0, ((c9 : Nat) : Int)), (0, ((s9 : Nat) : Int)), (0, ((t9 : Nat) : Int)), (0, b), (9, 0), (9, 0)]) (st' := [(0, 0)]) (w' := w) (n' := 142) rfl ?_
          refine qG.ret rfl (by first | rfl | exact decide_eq_true (by omega)) ?_
          subst hQ9
          first | exact .inl ⟨(by unfold wallV pwV; first | (rw [if_pos hc0]; done) | (rw [if_neg hc0, if_pos hs0]; done) | (rw [if_neg hc0, if_neg hs0, if_pos ht0]; done) | (rw [if_neg hc0, if_neg hs0, if_neg ht0, Int.toNat_natCast, Int.toNat_natCast, if_neg (ite01.mp hnb)]; done)), rfl, rfl⟩ | (exfalso; exact hb1 hb0) | (exfalso; exact hb0 hb1) | exact .inr ⟨(by unfold wallV pwV; rw [if_neg hc0, if_neg hs0, if_neg ht0, Int.toNat_natCast, Int.toNat_natCast, if_pos hnb1]), rfl, c9, s9, t9, rfl, by omega, rfl, rfl, by omega, by omega, hnb1, (by unfold wkN; simp (disch := first | decide | omega) only [qup_ne, qup_j, qup_k]; first | (rw [if_pos hb0]; done) | (rw [if_neg hb0]; done)), (by unfold wkN; simp (disch := first | decide | omega) only [qup_ne, qup_j, qup_k]; first | (rw [if_pos hb0]; done) | (rw [if_neg hb0]; done)), (by simp (disch := decide) only [qup_ne, qup_k]), fun q k h h2 => by rw [qup_f (fun z => h ⟨z.1, .inr z.2⟩), qup_f (fun z => h ⟨z.1, .inl z.2⟩), qup_f h2]⟩
        · skip
          have hnb1 : nbB s9 t9 = true := Decidable.of_not_not (fun z => hnb (ite01.mpr z))
          have hne : t9 ≠ s9 := nb_ne (by omega) hnb1
          refine qG.blk 3 (pc' := 35) (ls' := [(2, 95), (0, ((c9 : Nat) : Int)), (0, ((s9 : Nat) : Int)), (0, ((t9 : Nat) : Int)), (0, b), (9, 0), (9, 0)]) (st' := [(0, wrp (16 * ((c9 : Nat) : Int)))]) (w' := w) (n' := 142) rfl ?_
          rw [show wrp (16 * ((c9 : Nat) : Int)) = ((16 * c9 : Nat) : Int) from by rw [wrp_id (by omega) (by omega)]; omega]
          refine qG.blk 2 (pc' := 37) (ls' := [(2, 95), (0, ((c9 : Nat) : Int)), (0, ((s9 : Nat) : Int)), (0, ((t9 : Nat) : Int)), (0, b), (9, 0), (9, 0)]) (st' := [(0, wrp (((16 * c9 : Nat) : Int) + ((s9 : Nat) : Int)))]) (w' := w) (n' := 142) rfl ?_
          rw [show wrp (((16 * c9 : Nat) : Int) + ((s9 : Nat) : Int)) = ((16 * c9 + s9 : Nat) : Int) from by rw [wrp_id (by omega) (by omega)]; omega]
          refine qG.blk 4 (pc' := 43) (ls' := [(2, 95), (0, ((c9 : Nat) : Int)), (0, ((s9 : Nat) : Int)), (0, ((t9 : Nat) : Int)), (0, b), (0, ((16 * c9 + s9 : Nat) : Int)), (9, 0)]) (st' := [(0, wrp (16 * ((c9 : Nat) : Int)))]) (w' := w) (n' := 142) rfl ?_
          rw [show wrp (16 * ((c9 : Nat) : Int)) = ((16 * c9 : Nat) : Int) from by rw [wrp_id (by omega) (by omega)]; omega]
          refine qG.blk 2 (pc' := 45) (ls' := [(2, 95), (0, ((c9 : Nat) : Int)), (0, ((s9 : Nat) : Int)), (0, ((t9 : Nat) : Int)), (0, b), (0, ((16 * c9 + s9 : Nat) : Int)), (9, 0)]) (st' := [(0, wrp (((16 * c9 : Nat) : Int) + ((t9 : Nat) : Int)))]) (w' := w) (n' := 142) rfl ?_
          rw [show wrp (((16 * c9 : Nat) : Int) + ((t9 : Nat) : Int)) = ((16 * c9 + t9 : Nat) : Int) from by rw [wrp_id (by omega) (by omega)]; omega]
          refine qG.blk 6 (pc' := 56) (ls' := [(2, 95), (0, ((c9 : Nat) : Int)), (0, ((s9 : Nat) : Int)), (0, ((t9 : Nat) : Int)), (0, b), (0, ((16 * c9 + s9 : Nat) : Int)), (0, ((16 * c9 + t9 : Nat) : Int))]) (st' := [(2, w 95 3)]) (w' := (qup w 95 9 (-1))) (n' := 142) rfl ?_
          rw [show w 95 3 = 99 from zref hI rfl rfl]
          refine qG.blk 2 (pc' := 60) (ls' := [(2, 95), (0, ((c9 : Nat) : Int)), (0, ((s9 : Nat) : Int)), (0, ((t9 : Nat) : Int)), (0, b), (0, ((16 * c9 + s9 : Nat) : Int)), (0, ((16 * c9 + t9 : Nat) : Int))]) (st' := [(0, b), (0, ((16 * c9 + s9 : Nat) : Int)), (2, 99)]) (w' := (qup w 95 9 (-1))) (n' := 142) rfl ?_
          refine qG.br (P := b = 0) (pc1 := 77) (pc2 := 63) (st1 := [(0, ((16 * c9 + s9 : Nat) : Int)), (2, 99)]) rfl (fun hb0 => ?_) (fun hb0 => ?_)
          · skip
            refine qG.blk 2 (pc' := 81) (ls' := [(2, 95), (0, ((c9 : Nat) : Int)), (0, ((s9 : Nat) : Int)), (0, ((t9 : Nat) : Int)), (0, b), (0, ((16 * c9 + s9 : Nat) : Int)), (0, ((16 * c9 + t9 : Nat) : Int))]) (st' := [(2, w 95 3), (0, ((16 * c9 + s9 : Nat) : Int)), (2, 99)]) (w' := (qup w 95 9 (-1))) (n' := 142) rfl ?_
            rw [show w 95 3 = 99 from zref hI rfl rfl]
            refine qG.blk 1 (pc' := 83) (ls' := [(2, 95), (0, ((c9 : Nat) : Int)), (0, ((s9 : Nat) : Int)), (0, ((t9 : Nat) : Int)), (0, b), (0, ((16 * c9 + s9 : Nat) : Int)), (0, ((16 * c9 + t9 : Nat) : Int))]) (st' := [(0, ((16 * c9 + s9 : Nat) : Int)), (2, 99), (0, ((16 * c9 + s9 : Nat) : Int)), (2, 99)]) (w' := (qup w 95 9 (-1))) (n' := 142) rfl ?_
            refine qG.ar (P := 0 ≤ ((16 * c9 + s9 : Nat) : Int) ∧ ((16 * c9 + s9 : Nat) : Int) < ((48 : Nat) : Int)) (P2 := 0 < (99 : Int) ∧ (99 : Int) ≤ ((142 : Nat) : Int)) (pc' := 84) (ls' := [(2, 95), (0, ((c9 : Nat) : Int)), (0, ((s9 : Nat) : Int)), (0, ((t9 : Nat) : Int)), (0, b), (0, ((16 * c9 + s9 : Nat) : Int)), (0, ((16 * c9 + t9 : Nat) : Int))]) (st' := [(0, w 99 (16 * c9 + s9)), (0, ((16 * c9 + s9 : Nat) : Int)), (2, 99)]) (w' := (qup w 95 9 (-1))) (n' := 142) rfl (by omega) (by decide) ?_
            refine qG.blk 6 (pc' := 90) (ls' := [(2, 95), (0, ((c9 : Nat) : Int)), (0, ((s9 : Nat) : Int)), (0, ((t9 : Nat) : Int)), (0, b), (0, ((16 * c9 + s9 : Nat) : Int)), (0, ((16 * c9 + t9 : Nat) : Int))]) (st' := [(0, qand (w 99 (16 * c9 + s9)) (qxor (qshl 1 ((t9 : Nat) : Int)) (-1))), (0, ((16 * c9 + s9 : Nat) : Int)), (2, 99)]) (w' := (qup w 95 9 (-1))) (n' := 142) rfl ?_
            refine qG.ar (P := 0 ≤ ((16 * c9 + s9 : Nat) : Int) ∧ ((16 * c9 + s9 : Nat) : Int) < ((48 : Nat) : Int)) (P2 := 0 < (99 : Int) ∧ (99 : Int) ≤ ((142 : Nat) : Int)) (pc' := 91) (ls' := [(2, 95), (0, ((c9 : Nat) : Int)), (0, ((s9 : Nat) : Int)), (0, ((t9 : Nat) : Int)), (0, b), (0, ((16 * c9 + s9 : Nat) : Int)), (0, ((16 * c9 + t9 : Nat) : Int))]) (st' := []) (w' := (qup (qup w 95 9 (-1)) 99 (16 * c9 + s9) (qand (w 99 (16 * c9 + s9)) (qxor (qshl 1 ((t9 : Nat) : Int)) (-1))))) (n' := 142) rfl (by omega) (by decide) ?_
            refine qG.blk 2 (pc' := 95) (ls' := [(2, 95), (0, ((c9 : Nat) : Int)), (0, ((s9 : Nat) : Int)), (0, ((t9 : Nat) : Int)), (0, b), (0, ((16 * c9 + s9 : Nat) : Int)), (0, ((16 * c9 + t9 : Nat) : Int))]) (st' := [(2, w 95 3)]) (w' := (qup (qup w 95 9 (-1)) 99 (16 * c9 + s9) (qand (w 99 (16 * c9 + s9)) (qxor (qshl 1 ((t9 : Nat) : Int)) (-1))))) (n' := 142) rfl ?_
            rw [show w 95 3 = 99 from zref hI rfl rfl]
            refine qG.blk 2 (pc' := 99) (ls' := [(2, 95), (0, ((c9 : Nat) : Int)), (0, ((s9 : Nat) : Int)), (0, ((t9 : Nat) : Int)), (0, b), (0, ((16 * c9 + s9 : Nat) : Int)), (0, ((16 * c9 + t9 : Nat) : Int))]) (st' := [(0, b), (0, ((16 * c9 + t9 : Nat) : Int)), (2, 99)]) (w' := (qup (qup w 95 9 (-1)) 99 (16 * c9 + s9) (qand (w 99 (16 * c9 + s9)) (qxor (qshl 1 ((t9 : Nat) : Int)) (-1))))) (n' := 142) rfl ?_
            refine qG.br (P := b = 0) (pc1 := 116) (pc2 := 102) (st1 := [(0, ((16 * c9 + t9 : Nat) : Int)), (2, 99)]) rfl (fun hb1 => ?_) (fun hb1 => ?_)
            · skip
              refine qG.blk 2 (pc' := 120) (ls' := [(2, 95), (0, ((c9 : Nat) : Int)), (0, ((s9 : Nat) : Int)), (0, ((t9 : Nat) : Int)), (0, b), (0, ((16 * c9 + s9 : Nat) : Int)), (0, ((16 * c9 + t9 : Nat) : Int))]) (st' := [(2, w 95 3), (0, ((16 * c9 + t9 : Nat) : Int)), (2, 99)]) (w' := (qup (qup w 95 9 (-1)) 99 (16 * c9 + s9) (qand (w 99 (16 * c9 + s9)) (qxor (qshl 1 ((t9 : Nat) : Int)) (-1))))) (n' := 142) rfl ?_
              rw [show w 95 3 = 99 from zref hI rfl rfl]
              refine qG.blk 1 (pc' := 122) (ls' := [(2, 95), (0, ((c9 : Nat) : Int)), (0, ((s9 : Nat) : Int)), (0, ((t9 : Nat) : Int)), (0, b), (0, ((16 * c9 + s9 : Nat) : Int)), (0, ((16 * c9 + t9 : Nat) : Int))]) (st' := [(0, ((16 * c9 + t9 : Nat) : Int)), (2, 99), (0, ((16 * c9 + t9 : Nat) : Int)), (2, 99)]) (w' := (qup (qup w 95 9 (-1)) 99 (16 * c9 + s9) (qand (w 99 (16 * c9 + s9)) (qxor (qshl 1 ((t9 : Nat) : Int)) (-1))))) (n' := 142) rfl ?_
              refine qG.ar (P := 0 ≤ ((16 * c9 + t9 : Nat) : Int) ∧ ((16 * c9 + t9 : Nat) : Int) < ((48 : Nat) : Int)) (P2 := 0 < (99 : Int) ∧ (99 : Int) ≤ ((142 : Nat) : Int)) (pc' := 123) (ls' := [(2, 95), (0, ((c9 : Nat) : Int)), (0, ((s9 : Nat) : Int)), (0, ((t9 : Nat) : Int)), (0, b), (0, ((16 * c9 + s9 : Nat) : Int)), (0, ((16 * c9 + t9 : Nat) : Int))]) (st' := [(0, (qup (qup w 95 9 (-1)) 99 (16 * c9 + s9) (qand (w 99 (16 * c9 + s9)) (qxor (qshl 1 ((t9 : Nat) : Int)) (-1)))) 99 (16 * c9 + t9)), (0, ((16 * c9 + t9 : Nat) : Int)), (2, 99)]) (w' := (qup (qup w 95 9 (-1)) 99 (16 * c9 + s9) (qand (w 99 (16 * c9 + s9)) (qxor (qshl 1 ((t9 : Nat) : Int)) (-1))))) (n' := 142) rfl (by omega) (by decide) ?_
              refine qG.blk 6 (pc' := 129) (ls' := [(2, 95), (0, ((c9 : Nat) : Int)), (0, ((s9 : Nat) : Int)), (0, ((t9 : Nat) : Int)), (0, b), (0, ((16 * c9 + s9 : Nat) : Int)), (0, ((16 * c9 + t9 : Nat) : Int))]) (st' := [(0, qand ((qup (qup w 95 9 (-1)) 99 (16 * c9 + s9) (qand (w 99 (16 * c9 + s9)) (qxor (qshl 1 ((t9 : Nat) : Int)) (-1)))) 99 (16 * c9 + t9)) (qxor (qshl 1 ((s9 : Nat) : Int)) (-1))), (0, ((16 * c9 + t9 : Nat) : Int)), (2, 99)]) (w' := (qup (qup w 95 9 (-1)) 99 (16 * c9 + s9) (qand (w 99 (16 * c9 + s9)) (qxor (qshl 1 ((t9 : Nat) : Int)) (-1))))) (n' := 142) rfl ?_
              refine qG.ar (P := 0 ≤ ((16 * c9 + t9 : Nat) : Int) ∧ ((16 * c9 + t9 : Nat) : Int) < ((48 : Nat) : Int)) (P2 := 0 < (99 : Int) ∧ (99 : Int) ≤ ((142 : Nat) : Int)) (pc' := 130) (ls' := [(2, 95), (0, ((c9 : Nat) : Int)), (0, ((s9 : Nat) : Int)), (0, ((t9 : Nat) : Int)), (0, b), (0, ((16 * c9 + s9 : Nat) : Int)), (0, ((16 * c9 + t9 : Nat) : Int))]) (st' := []) (w' := (qup (qup (qup w 95 9 (-1)) 99 (16 * c9 + s9) (qand (w 99 (16 * c9 + s9)) (qxor (qshl 1 ((t9 : Nat) : Int)) (-1)))) 99 (16 * c9 + t9) (qand ((qup (qup w 95 9 (-1)) 99 (16 * c9 + s9) (qand (w 99 (16 * c9 + s9)) (qxor (qshl 1 ((t9 : Nat) : Int)) (-1)))) 99 (16 * c9 + t9)) (qxor (qshl 1 ((s9 : Nat) : Int)) (-1))))) (n' := 142) rfl (by omega) (by decide) ?_
              refine qG.blk 1 (pc' := 131) (ls' := [(2, 95), (0, ((c9 : Nat) : Int)), (0, ((s9 : Nat) : Int)), (0, ((t9 : Nat) : Int)), (0, b), (0, ((16 * c9 + s9 : Nat) : Int)), (0, ((16 * c9 + t9 : Nat) : Int))]) (st' := [(0, 1)]) (w' := (qup (qup (qup w 95 9 (-1)) 99 (16 * c9 + s9) (qand (w 99 (16 * c9 + s9)) (qxor (qshl 1 ((t9 : Nat) : Int)) (-1)))) 99 (16 * c9 + t9) (qand ((qup (qup w 95 9 (-1)) 99 (16 * c9 + s9) (qand (w 99 (16 * c9 + s9)) (qxor (qshl 1 ((t9 : Nat) : Int)) (-1)))) 99 (16 * c9 + t9)) (qxor (qshl 1 ((s9 : Nat) : Int)) (-1))))) (n' := 142) rfl ?_
              refine qG.ret rfl (by first | rfl | exact decide_eq_true (by omega)) ?_
              subst hQ9
              first | exact .inl ⟨(by unfold wallV pwV; first | (rw [if_pos hc0]; done) | (rw [if_neg hc0, if_pos hs0]; done) | (rw [if_neg hc0, if_neg hs0, if_pos ht0]; done) | (rw [if_neg hc0, if_neg hs0, if_neg ht0, Int.toNat_natCast, Int.toNat_natCast, if_neg (ite01.mp hnb)]; done)), rfl, rfl⟩ | (exfalso; exact hb1 hb0) | (exfalso; exact hb0 hb1) | exact .inr ⟨(by unfold wallV pwV; rw [if_neg hc0, if_neg hs0, if_neg ht0, Int.toNat_natCast, Int.toNat_natCast, if_pos hnb1]), rfl, c9, s9, t9, rfl, by omega, rfl, rfl, by omega, by omega, hnb1, (by unfold wkN; simp (disch := first | decide | omega) only [qup_ne, qup_j, qup_k]; first | (rw [if_pos hb0]; done) | (rw [if_neg hb0]; done)), (by unfold wkN; simp (disch := first | decide | omega) only [qup_ne, qup_j, qup_k]; first | (rw [if_pos hb0]; done) | (rw [if_neg hb0]; done)), (by simp (disch := decide) only [qup_ne, qup_k]), fun q k h h2 => by rw [qup_f (fun z => h ⟨z.1, .inr z.2⟩), qup_f (fun z => h ⟨z.1, .inl z.2⟩), qup_f h2]⟩
            · skip
              refine qG.blk 2 (pc' := 106) (ls' := [(2, 95), (0, ((c9 : Nat) : Int)), (0, ((s9 : Nat) : Int)), (0, ((t9 : Nat) : Int)), (0, b), (0, ((16 * c9 + s9 : Nat) : Int)), (0, ((16 * c9 + t9 : Nat) : Int))]) (st' := [(2, w 95 3), (0, ((16 * c9 + t9 : Nat) : Int)), (2, 99)]) (w' := (qup (qup w 95 9 (-1)) 99 (16 * c9 + s9) (qand (w 99 (16 * c9 + s9)) (qxor (qshl 1 ((t9 : Nat) : Int)) (-1))))) (n' := 142) rfl ?_
              rw [show w 95 3 = 99 from zref hI rfl rfl]
              refine qG.blk 1 (pc' := 108) (ls' := [(2, 95), (0, ((c9 : Nat) : Int)), (0, ((s9 : Nat) : Int)), (0, ((t9 : Nat) : Int)), (0, b), (0, ((16 * c9 + s9 : Nat) : Int)), (0, ((16 * c9 + t9 : Nat) : Int))]) (st' := [(0, ((16 * c9 + t9 : Nat) : Int)), (2, 99), (0, ((16 * c9 + t9 : Nat) : Int)), (2, 99)]) (w' := (qup (qup w 95 9 (-1)) 99 (16 * c9 + s9) (qand (w 99 (16 * c9 + s9)) (qxor (qshl 1 ((t9 : Nat) : Int)) (-1))))) (n' := 142) rfl ?_
              refine qG.ar (P := 0 ≤ ((16 * c9 + t9 : Nat) : Int) ∧ ((16 * c9 + t9 : Nat) : Int) < ((48 : Nat) : Int)) (P2 := 0 < (99 : Int) ∧ (99 : Int) ≤ ((142 : Nat) : Int)) (pc' := 109) (ls' := [(2, 95), (0, ((c9 : Nat) : Int)), (0, ((s9 : Nat) : Int)), (0, ((t9 : Nat) : Int)), (0, b), (0, ((16 * c9 + s9 : Nat) : Int)), (0, ((16 * c9 + t9 : Nat) : Int))]) (st' := [(0, (qup (qup w 95 9 (-1)) 99 (16 * c9 + s9) (qand (w 99 (16 * c9 + s9)) (qxor (qshl 1 ((t9 : Nat) : Int)) (-1)))) 99 (16 * c9 + t9)), (0, ((16 * c9 + t9 : Nat) : Int)), (2, 99)]) (w' := (qup (qup w 95 9 (-1)) 99 (16 * c9 + s9) (qand (w 99 (16 * c9 + s9)) (qxor (qshl 1 ((t9 : Nat) : Int)) (-1))))) (n' := 142) rfl (by omega) (by decide) ?_
              refine qG.blk 5 (pc' := 129) (ls' := [(2, 95), (0, ((c9 : Nat) : Int)), (0, ((s9 : Nat) : Int)), (0, ((t9 : Nat) : Int)), (0, b), (0, ((16 * c9 + s9 : Nat) : Int)), (0, ((16 * c9 + t9 : Nat) : Int))]) (st' := [(0, qor ((qup (qup w 95 9 (-1)) 99 (16 * c9 + s9) (qand (w 99 (16 * c9 + s9)) (qxor (qshl 1 ((t9 : Nat) : Int)) (-1)))) 99 (16 * c9 + t9)) (qshl 1 ((s9 : Nat) : Int))), (0, ((16 * c9 + t9 : Nat) : Int)), (2, 99)]) (w' := (qup (qup w 95 9 (-1)) 99 (16 * c9 + s9) (qand (w 99 (16 * c9 + s9)) (qxor (qshl 1 ((t9 : Nat) : Int)) (-1))))) (n' := 142) rfl ?_
              refine qG.ar (P := 0 ≤ ((16 * c9 + t9 : Nat) : Int) ∧ ((16 * c9 + t9 : Nat) : Int) < ((48 : Nat) : Int)) (P2 := 0 < (99 : Int) ∧ (99 : Int) ≤ ((142 : Nat) : Int)) (pc' := 130) (ls' := [(2, 95), (0, ((c9 : Nat) : Int)), (0, ((s9 : Nat) : Int)), (0, ((t9 : Nat) : Int)), (0, b), (0, ((16 * c9 + s9 : Nat) : Int)), (0, ((16 * c9 + t9 : Nat) : Int))]) (st' := []) (w' := (qup (qup (qup w 95 9 (-1)) 99 (16 * c9 + s9) (qand (w 99 (16 * c9 + s9)) (qxor (qshl 1 ((t9 : Nat) : Int)) (-1)))) 99 (16 * c9 + t9) (qor ((qup (qup w 95 9 (-1)) 99 (16 * c9 + s9) (qand (w 99 (16 * c9 + s9)) (qxor (qshl 1 ((t9 : Nat) : Int)) (-1)))) 99 (16 * c9 + t9)) (qshl 1 ((s9 : Nat) : Int))))) (n' := 142) rfl (by omega) (by decide) ?_
              refine qG.blk 1 (pc' := 131) (ls' := [(2, 95), (0, ((c9 : Nat) : Int)), (0, ((s9 : Nat) : Int)), (0, ((t9 : Nat) : Int)), (0, b), (0, ((16 * c9 + s9 : Nat) : Int)), (0, ((16 * c9 + t9 : Nat) : Int))]) (st' := [(0, 1)]) (w' := (qup (qup (qup w 95 9 (-1)) 99 (16 * c9 + s9) (qand (w 99 (16 * c9 + s9)) (qxor (qshl 1 ((t9 : Nat) : Int)) (-1)))) 99 (16 * c9 + t9) (qor ((qup (qup w 95 9 (-1)) 99 (16 * c9 + s9) (qand (w 99 (16 * c9 + s9)) (qxor (qshl 1 ((t9 : Nat) : Int)) (-1)))) 99 (16 * c9 + t9)) (qshl 1 ((s9 : Nat) : Int))))) (n' := 142) rfl ?_
              refine qG.ret rfl (by first | rfl | exact decide_eq_true (by omega)) ?_
              subst hQ9
              first | exact .inl ⟨(by unfold wallV pwV; first | (rw [if_pos hc0]; done) | (rw [if_neg hc0, if_pos hs0]; done) | (rw [if_neg hc0, if_neg hs0, if_pos ht0]; done) | (rw [if_neg hc0, if_neg hs0, if_neg ht0, Int.toNat_natCast, Int.toNat_natCast, if_neg (ite01.mp hnb)]; done)), rfl, rfl⟩ | (exfalso; exact hb1 hb0) | (exfalso; exact hb0 hb1) | exact .inr ⟨(by unfold wallV pwV; rw [if_neg hc0, if_neg hs0, if_neg ht0, Int.toNat_natCast, Int.toNat_natCast, if_pos hnb1]), rfl, c9, s9, t9, rfl, by omega, rfl, rfl, by omega, by omega, hnb1, (by unfold wkN; simp (disch := first | decide | omega) only [qup_ne, qup_j, qup_k]; first | (rw [if_pos hb0]; done) | (rw [if_neg hb0]; done)), (by unfold wkN; simp (disch := first | decide | omega) only [qup_ne, qup_j, qup_k]; first | (rw [if_pos hb0]; done) | (rw [if_neg hb0]; done)), (by simp (disch := decide) only [qup_ne, qup_k]), fun q k h h2 => by rw [qup_f (fun z => h ⟨z.1, .inr z.2⟩), qup_f (fun z => h ⟨z.1, .inl z.2⟩), qup_f h2]⟩
          · skip
            refine qG.blk 2 (pc' := 67) (ls' := [(2, 95), (0, ((c9 : Nat) : Int)), (0, ((s9 : Nat) : Int)), (0, ((t9 : Nat) : Int)), (0, b), (0, ((16 * c9 + s9 : Nat) : Int)), (0, ((16 * c9 + t9 : Nat) : Int))]) (st' := [(2, w 95 3), (0, ((16 * c9 + s9 : Nat) : Int)), (2, 99)]) (w' := (qup w 95 9 (-1))) (n' := 142) rfl ?_
            rw [show w 95 3 = 99 from zref hI rfl rfl]
            refine qG.blk 1 (pc' := 69) (ls' := [(2, 95), (0, ((c9 : Nat) : Int)), (0, ((s9 : Nat) : Int)), (0, ((t9 : Nat) : Int)), (0, b), (0, ((16 * c9 + s9 : Nat) : Int)), (0, ((16 * c9 + t9 : Nat) : Int))]) (st' := [(0, ((16 * c9 + s9 : Nat) : Int)), (2, 99), (0, ((16 * c9 + s9 : Nat) : Int)), (2, 99)]) (w' := (qup w 95 9 (-1))) (n' := 142) rfl ?_
            refine qG.ar (P := 0 ≤ ((16 * c9 + s9 : Nat) : Int) ∧ ((16 * c9 + s9 : Nat) : Int) < ((48 : Nat) : Int)) (P2 := 0 < (99 : Int) ∧ (99 : Int) ≤ ((142 : Nat) : Int)) (pc' := 70) (ls' := [(2, 95), (0, ((c9 : Nat) : Int)), (0, ((s9 : Nat) : Int)), (0, ((t9 : Nat) : Int)), (0, b), (0, ((16 * c9 + s9 : Nat) : Int)), (0, ((16 * c9 + t9 : Nat) : Int))]) (st' := [(0, w 99 (16 * c9 + s9)), (0, ((16 * c9 + s9 : Nat) : Int)), (2, 99)]) (w' := (qup w 95 9 (-1))) (n' := 142) rfl (by omega) (by decide) ?_
            refine qG.blk 5 (pc' := 90) (ls' := [(2, 95), (0, ((c9 : Nat) : Int)), (0, ((s9 : Nat) : Int)), (0, ((t9 : Nat) : Int)), (0, b), (0, ((16 * c9 + s9 : Nat) : Int)), (0, ((16 * c9 + t9 : Nat) : Int))]) (st' := [(0, qor (w 99 (16 * c9 + s9)) (qshl 1 ((t9 : Nat) : Int))), (0, ((16 * c9 + s9 : Nat) : Int)), (2, 99)]) (w' := (qup w 95 9 (-1))) (n' := 142) rfl ?_
            refine qG.ar (P := 0 ≤ ((16 * c9 + s9 : Nat) : Int) ∧ ((16 * c9 + s9 : Nat) : Int) < ((48 : Nat) : Int)) (P2 := 0 < (99 : Int) ∧ (99 : Int) ≤ ((142 : Nat) : Int)) (pc' := 91) (ls' := [(2, 95), (0, ((c9 : Nat) : Int)), (0, ((s9 : Nat) : Int)), (0, ((t9 : Nat) : Int)), (0, b), (0, ((16 * c9 + s9 : Nat) : Int)), (0, ((16 * c9 + t9 : Nat) : Int))]) (st' := []) (w' := (qup (qup w 95 9 (-1)) 99 (16 * c9 + s9) (qor (w 99 (16 * c9 + s9)) (qshl 1 ((t9 : Nat) : Int))))) (n' := 142) rfl (by omega) (by decide) ?_
            refine qG.blk 2 (pc' := 95) (ls' := [(2, 95), (0, ((c9 : Nat) : Int)), (0, ((s9 : Nat) : Int)), (0, ((t9 : Nat) : Int)), (0, b), (0, ((16 * c9 + s9 : Nat) : Int)), (0, ((16 * c9 + t9 : Nat) : Int))]) (st' := [(2, w 95 3)]) (w' := (qup (qup w 95 9 (-1)) 99 (16 * c9 + s9) (qor (w 99 (16 * c9 + s9)) (qshl 1 ((t9 : Nat) : Int))))) (n' := 142) rfl ?_
            rw [show w 95 3 = 99 from zref hI rfl rfl]
            refine qG.blk 2 (pc' := 99) (ls' := [(2, 95), (0, ((c9 : Nat) : Int)), (0, ((s9 : Nat) : Int)), (0, ((t9 : Nat) : Int)), (0, b), (0, ((16 * c9 + s9 : Nat) : Int)), (0, ((16 * c9 + t9 : Nat) : Int))]) (st' := [(0, b), (0, ((16 * c9 + t9 : Nat) : Int)), (2, 99)]) (w' := (qup (qup w 95 9 (-1)) 99 (16 * c9 + s9) (qor (w 99 (16 * c9 + s9)) (qshl 1 ((t9 : Nat) : Int))))) (n' := 142) rfl ?_
            refine qG.br (P := b = 0) (pc1 := 116) (pc2 := 102) (st1 := [(0, ((16 * c9 + t9 : Nat) : Int)), (2, 99)]) rfl (fun hb1 => ?_) (fun hb1 => ?_)
            · skip
              refine qG.blk 2 (pc' := 120) (ls' := [(2, 95), (0, ((c9 : Nat) : Int)), (0, ((s9 : Nat) : Int)), (0, ((t9 : Nat) : Int)), (0, b), (0, ((16 * c9 + s9 : Nat) : Int)), (0, ((16 * c9 + t9 : Nat) : Int))]) (st' := [(2, w 95 3), (0, ((16 * c9 + t9 : Nat) : Int)), (2, 99)]) (w' := (qup (qup w 95 9 (-1)) 99 (16 * c9 + s9) (qor (w 99 (16 * c9 + s9)) (qshl 1 ((t9 : Nat) : Int))))) (n' := 142) rfl ?_
              rw [show w 95 3 = 99 from zref hI rfl rfl]
              refine qG.blk 1 (pc' := 122) (ls' := [(2, 95), (0, ((c9 : Nat) : Int)), (0, ((s9 : Nat) : Int)), (0, ((t9 : Nat) : Int)), (0, b), (0, ((16 * c9 + s9 : Nat) : Int)), (0, ((16 * c9 + t9 : Nat) : Int))]) (st' := [(0, ((16 * c9 + t9 : Nat) : Int)), (2, 99), (0, ((16 * c9 + t9 : Nat) : Int)), (2, 99)]) (w' := (qup (qup w 95 9 (-1)) 99 (16 * c9 + s9) (qor (w 99 (16 * c9 + s9)) (qshl 1 ((t9 : Nat) : Int))))) (n' := 142) rfl ?_
              refine qG.ar (P := 0 ≤ ((16 * c9 + t9 : Nat) : Int) ∧ ((16 * c9 + t9 : Nat) : Int) < ((48 : Nat) : Int)) (P2 := 0 < (99 : Int) ∧ (99 : Int) ≤ ((142 : Nat) : Int)) (pc' := 123) (ls' := [(2, 95), (0, ((c9 : Nat) : Int)), (0, ((s9 : Nat) : Int)), (0, ((t9 : Nat) : Int)), (0, b), (0, ((16 * c9 + s9 : Nat) : Int)), (0, ((16 * c9 + t9 : Nat) : Int))]) (st' := [(0, (qup (qup w 95 9 (-1)) 99 (16 * c9 + s9) (qor (w 99 (16 * c9 + s9)) (qshl 1 ((t9 : Nat) : Int)))) 99 (16 * c9 + t9)), (0, ((16 * c9 + t9 : Nat) : Int)), (2, 99)]) (w' := (qup (qup w 95 9 (-1)) 99 (16 * c9 + s9) (qor (w 99 (16 * c9 + s9)) (qshl 1 ((t9 : Nat) : Int))))) (n' := 142) rfl (by omega) (by decide) ?_
              refine qG.blk 6 (pc' := 129) (ls' := [(2, 95), (0, ((c9 : Nat) : Int)), (0, ((s9 : Nat) : Int)), (0, ((t9 : Nat) : Int)), (0, b), (0, ((16 * c9 + s9 : Nat) : Int)), (0, ((16 * c9 + t9 : Nat) : Int))]) (st' := [(0, qand ((qup (qup w 95 9 (-1)) 99 (16 * c9 + s9) (qor (w 99 (16 * c9 + s9)) (qshl 1 ((t9 : Nat) : Int)))) 99 (16 * c9 + t9)) (qxor (qshl 1 ((s9 : Nat) : Int)) (-1))), (0, ((16 * c9 + t9 : Nat) : Int)), (2, 99)]) (w' := (qup (qup w 95 9 (-1)) 99 (16 * c9 + s9) (qor (w 99 (16 * c9 + s9)) (qshl 1 ((t9 : Nat) : Int))))) (n' := 142) rfl ?_
              refine qG.ar (P := 0 ≤ ((16 * c9 + t9 : Nat) : Int) ∧ ((16 * c9 + t9 : Nat) : Int) < ((48 : Nat) : Int)) (P2 := 0 < (99 : Int) ∧ (99 : Int) ≤ ((142 : Nat) : Int)) (pc' := 130) (ls' := [(2, 95), (0, ((c9 : Nat) : Int)), (0, ((s9 : Nat) : Int)), (0, ((t9 : Nat) : Int)), (0, b), (0, ((16 * c9 + s9 : Nat) : Int)), (0, ((16 * c9 + t9 : Nat) : Int))]) (st' := []) (w' := (qup (qup (qup w 95 9 (-1)) 99 (16 * c9 + s9) (qor (w 99 (16 * c9 + s9)) (qshl 1 ((t9 : Nat) : Int)))) 99 (16 * c9 + t9) (qand ((qup (qup w 95 9 (-1)) 99 (16 * c9 + s9) (qor (w 99 (16 * c9 + s9)) (qshl 1 ((t9 : Nat) : Int)))) 99 (16 * c9 + t9)) (qxor (qshl 1 ((s9 : Nat) : Int)) (-1))))) (n' := 142) rfl (by omega) (by decide) ?_
              refine qG.blk 1 (pc' := 131) (ls' := [(2, 95), (0, ((c9 : Nat) : Int)), (0, ((s9 : Nat) : Int)), (0, ((t9 : Nat) : Int)), (0, b), (0, ((16 * c9 + s9 : Nat) : Int)), (0, ((16 * c9 + t9 : Nat) : Int))]) (st' := [(0, 1)]) (w' := (qup (qup (qup w 95 9 (-1)) 99 (16 * c9 + s9) (qor (w 99 (16 * c9 + s9)) (qshl 1 ((t9 : Nat) : Int)))) 99 (16 * c9 + t9) (qand ((qup (qup w 95 9 (-1)) 99 (16 * c9 + s9) (qor (w 99 (16 * c9 + s9)) (qshl 1 ((t9 : Nat) : Int)))) 99 (16 * c9 + t9)) (qxor (qshl 1 ((s9 : Nat) : Int)) (-1))))) (n' := 142) rfl ?_
              refine qG.ret rfl (by first | rfl | exact decide_eq_true (by omega)) ?_
              subst hQ9
              first | exact .inl ⟨(by unfold wallV pwV; first | (rw [if_pos hc0]; done) | (rw [if_neg hc0, if_pos hs0]; done) | (rw [if_neg hc0, if_neg hs0, if_pos ht0]; done) | (rw [if_neg hc0, if_neg hs0, if_neg ht0, Int.toNat_natCast, Int.toNat_natCast, if_neg (ite01.mp hnb)]; done)), rfl, rfl⟩ | (exfalso; exact hb1 hb0) | (exfalso; exact hb0 hb1) | exact .inr ⟨(by unfold wallV pwV; rw [if_neg hc0, if_neg hs0, if_neg ht0, Int.toNat_natCast, Int.toNat_natCast, if_pos hnb1]), rfl, c9, s9, t9, rfl, by omega, rfl, rfl, by omega, by omega, hnb1, (by unfold wkN; simp (disch := first | decide | omega) only [qup_ne, qup_j, qup_k]; first | (rw [if_pos hb0]; done) | (rw [if_neg hb0]; done)), (by unfold wkN; simp (disch := first | decide | omega) only [qup_ne, qup_j, qup_k]; first | (rw [if_pos hb0]; done) | (rw [if_neg hb0]; done)), (by simp (disch := decide) only [qup_ne, qup_k]), fun q k h h2 => by rw [qup_f (fun z => h ⟨z.1, .inr z.2⟩), qup_f (fun z => h ⟨z.1, .inl z.2⟩), qup_f h2]⟩
            · skip
              refine qG.blk 2 (pc' := 106) (ls' := [(2, 95), (0, ((c9 : Nat) : Int)), (0, ((s9 : Nat) : Int)), (0, ((t9 : Nat) : Int)), (0, b), (0, ((16 * c9 + s9 : Nat) : Int)), (0, ((16 * c9 + t9 : Nat) : Int))]) (st' := [(2, w 95 3), (0, ((16 * c9 + t9 : Nat) : Int)), (2, 99)]) (w' := (qup (qup w 95 9 (-1)) 99 (16 * c9 + s9) (qor (w 99 (16 * c9 + s9)) (qshl 1 ((t9 : Nat) : Int))))) (n' := 142) rfl ?_
              rw [show w 95 3 = 99 from zref hI rfl rfl]
              refine qG.blk 1 (pc' := 108) (ls' := [(2, 95), (0, ((c9 : Nat) : Int)), (0, ((s9 : Nat) : Int)), (0, ((t9 : Nat) : Int)), (0, b), (0, ((16 * c9 + s9 : Nat) : Int)), (0, ((16 * c9 + t9 : Nat) : Int))]) (st' := [(0, ((16 * c9 + t9 : Nat) : Int)), (2, 99), (0, ((16 * c9 + t9 : Nat) : Int)), (2, 99)]) (w' := (qup (qup w 95 9 (-1)) 99 (16 * c9 + s9) (qor (w 99 (16 * c9 + s9)) (qshl 1 ((t9 : Nat) : Int))))) (n' := 142) rfl ?_
              refine qG.ar (P := 0 ≤ ((16 * c9 + t9 : Nat) : Int) ∧ ((16 * c9 + t9 : Nat) : Int) < ((48 : Nat) : Int)) (P2 := 0 < (99 : Int) ∧ (99 : Int) ≤ ((142 : Nat) : Int)) (pc' := 109) (ls' := [(2, 95), (0, ((c9 : Nat) : Int)), (0, ((s9 : Nat) : Int)), (0, ((t9 : Nat) : Int)), (0, b), (0, ((16 * c9 + s9 : Nat) : Int)), (0, ((16 * c9 + t9 : Nat) : Int))]) (st' := [(0, (qup (qup w 95 9 (-1)) 99 (16 * c9 + s9) (qor (w 99 (16 * c9 + s9)) (qshl 1 ((t9 : Nat) : Int)))) 99 (16 * c9 + t9)), (0, ((16 * c9 + t9 : Nat) : Int)), (2, 99)]) (w' := (qup (qup w 95 9 (-1)) 99 (16 * c9 + s9) (qor (w 99 (16 * c9 + s9)) (qshl 1 ((t9 : Nat) : Int))))) (n' := 142) rfl (by omega) (by decide) ?_
              refine qG.blk 5 (pc' := 129) (ls' := [(2, 95), (0, ((c9 : Nat) : Int)), (0, ((s9 : Nat) : Int)), (0, ((t9 : Nat) : Int)), (0, b), (0, ((16 * c9 + s9 : Nat) : Int)), (0, ((16 * c9 + t9 : Nat) : Int))]) (st' := [(0, qor ((qup (qup w 95 9 (-1)) 99 (16 * c9 + s9) (qor (w 99 (16 * c9 + s9)) (qshl 1 ((t9 : Nat) : Int)))) 99 (16 * c9 + t9)) (qshl 1 ((s9 : Nat) : Int))), (0, ((16 * c9 + t9 : Nat) : Int)), (2, 99)]) (w' := (qup (qup w 95 9 (-1)) 99 (16 * c9 + s9) (qor (w 99 (16 * c9 + s9)) (qshl 1 ((t9 : Nat) : Int))))) (n' := 142) rfl ?_
              refine qG.ar (P := 0 ≤ ((16 * c9 + t9 : Nat) : Int) ∧ ((16 * c9 + t9 : Nat) : Int) < ((48 : Nat) : Int)) (P2 := 0 < (99 : Int) ∧ (99 : Int) ≤ ((142 : Nat) : Int)) (pc' := 130) (ls' := [(2, 95), (0, ((c9 : Nat) : Int)), (0, ((s9 : Nat) : Int)), (0, ((t9 : Nat) : Int)), (0, b), (0, ((16 * c9 + s9 : Nat) : Int)), (0, ((16 * c9 + t9 : Nat) : Int))]) (st' := []) (w' := (qup (qup (qup w 95 9 (-1)) 99 (16 * c9 + s9) (qor (w 99 (16 * c9 + s9)) (qshl 1 ((t9 : Nat) : Int)))) 99 (16 * c9 + t9) (qor ((qup (qup w 95 9 (-1)) 99 (16 * c9 + s9) (qor (w 99 (16 * c9 + s9)) (qshl 1 ((t9 : Nat) : Int)))) 99 (16 * c9 + t9)) (qshl 1 ((s9 : Nat) : Int))))) (n' := 142) rfl (by omega) (by decide) ?_
              refine qG.blk 1 (pc' := 131) (ls' := [(2, 95), (0, ((c9 : Nat) : Int)), (0, ((s9 : Nat) : Int)), (0, ((t9 : Nat) : Int)), (0, b), (0, ((16 * c9 + s9 : Nat) : Int)), (0, ((16 * c9 + t9 : Nat) : Int))]) (st' := [(0, 1)]) (w' := (qup (qup (qup w 95 9 (-1)) 99 (16 * c9 + s9) (qor (w 99 (16 * c9 + s9)) (qshl 1 ((t9 : Nat) : Int)))) 99 (16 * c9 + t9) (qor ((qup (qup w 95 9 (-1)) 99 (16 * c9 + s9) (qor (w 99 (16 * c9 + s9)) (qshl 1 ((t9 : Nat) : Int)))) 99 (16 * c9 + t9)) (qshl 1 ((s9 : Nat) : Int))))) (n' := 142) rfl ?_
              refine qG.ret rfl (by first | rfl | exact decide_eq_true (by omega)) ?_
              subst hQ9
              first | exact .inl ⟨(by unfold wallV pwV; first | (rw [if_pos hc0]; done) | (rw [if_neg hc0, if_pos hs0]; done) | (rw [if_neg hc0, if_neg hs0, if_pos ht0]; done) | (rw [if_neg hc0, if_neg hs0, if_neg ht0, Int.toNat_natCast, Int.toNat_natCast, if_neg (ite01.mp hnb)]; done)), rfl, rfl⟩ | (exfalso; exact hb1 hb0) | (exfalso; exact hb0 hb1) | exact .inr ⟨(by unfold wallV pwV; rw [if_neg hc0, if_neg hs0, if_neg ht0, Int.toNat_natCast, Int.toNat_natCast, if_pos hnb1]), rfl, c9, s9, t9, rfl, by omega, rfl, rfl, by omega, by omega, hnb1, (by unfold wkN; simp (disch := first | decide | omega) only [qup_ne, qup_j, qup_k]; first | (rw [if_pos hb0]; done) | (rw [if_neg hb0]; done)), (by unfold wkN; simp (disch := first | decide | omega) only [qup_ne, qup_j, qup_k]; first | (rw [if_pos hb0]; done) | (rw [if_neg hb0]; done)), (by simp (disch := decide) only [qup_ne, qup_k]), fun q k h h2 => by rw [qup_f (fun z => h ⟨z.1, .inr z.2⟩), qup_f (fun z => h ⟨z.1, .inl z.2⟩), qup_f h2]⟩
theorem JVo.cg {w w1 : qW} (h : JVo w) (h1 : ∀ c k : Nat, c < 3 → w1 (65 + 5 * c) k = w (65 + 5 * c) k) (h2 : ∀ k, w1 99 k = w 99 k) : JVo w1 := fun c hc s t hs ht => by
  rw [h1 c s hc, pas_h, h2, ← pas_h]
  exact h c hc s t hs ht
/-- one chest's row and column change alike on both sides -/
theorem JVo.wall {w w1 w2 : qW} {c s t b : Int} {r r2 : qV} (h : JVo w) (hX : wlXE c s t b w r w1) (hR : wlRE c s t b w1 r2 w2) : JVo w2 ∧ r = r2 := by
  rcases hX with ⟨c1, rfl, rfl⟩ | ⟨c1, rfl, c9, s9, t9, ec, hc9, es, et, hs9, ht9, hnb, x1, x2, -, x4⟩
  · rcases hR with ⟨c2, rfl, rfl⟩ | ⟨c2, -⟩
    · exact ⟨h, rfl⟩
    · omega
  · rcases hR with ⟨c2, -⟩ | ⟨-, rfl, c8, s8, t8, ec2, -, es2, et2, -, -, -, y1, y2, -, y4⟩
    · omega
    · obtain rfl : c8 = c9 := by omega
      obtain rfl : s8 = s9 := by omega
      obtain rfl : t8 = t9 := by omega
      have hne : t8 ≠ s8 := nb_ne hs9 hnb
      have hnb2 : nbB t8 s8 = true := by have q := nb_sym s8 hs9 t8 ht9; rw [hnb] at q; exact q
      refine ⟨fun c hc a u ha hu => ?_, rfl⟩
      have h0 := h c hc a u ha hu
      rw [pas_h] at h0 ⊢
      have e1 : w2 (65 + 5 * c) a = w1 (65 + 5 * c) a := y4 _ _ (by omega) (by omega)
      have e2 : w1 99 (16 * c + a) = w 99 (16 * c + a) := x4 _ _ (by omega) (by omega)
      rw [e1]
      by_cases k1 : c = c8 ∧ a = s8
      · obtain ⟨rfl, rfl⟩ := k1
        rw [x1, y1, e2, wlX_b ht9 hu, wkN_b ht9 hu]
        by_cases k : u = t8
        · rw [if_pos k, if_pos k, k, hnb, Bool.not_not, Bool.true_and]
        · rw [if_neg k, if_neg k]; exact h0
      · by_cases k2 : c = c8 ∧ a = t8
        · obtain ⟨rfl, rfl⟩ := k2
          rw [x2, y2, e2, wlX_b hs9 hu, wkN_b hs9 hu]
          by_cases k : u = s8
          · rw [if_pos k, if_pos k, k, hnb2, Bool.not_not, Bool.true_and]
          · rw [if_neg k, if_neg k]; exact h0
        · rw [x4 _ _ (by omega) (by omega), y4 99 _ (by omega) (by omega), e2]
          exact h0
/-- walls lie on both sides -/
noncomputable def SYM (w : qW) : Prop := ∀ c : Nat, c < 3 → ∀ s t : Nat, s < 16 → t < 16 → pasB w c s t = pasB w c t s
noncomputable def JV (w : qW) : Prop := JVo w ∧ SYM w
theorem SYM.cg {w w1 : qW} (h : SYM w) (h2 : ∀ k, w1 99 k = w 99 k) : SYM w1 := fun c hc s t hs ht => by
  rw [pas_h, pas_h, h2, h2, ← pas_h, ← pas_h]; exact h c hc s t hs ht
theorem nb_com {a u : Nat} (ha : a < 16) (hu : u < 16) : nbB a u = nbB u a := by
  have q := nb_sym a ha u hu
  have q2 := nb_sym u hu a ha
  cases h : nbB a u <;> cases h2 : nbB u a <;> rw [h, h2] at q q2 <;> first | rfl | (cases q; done) | (cases q2; done)
theorem SYM.wall {w w1 w2 : qW} {c s t b : Int} {r r2 : qV} (h : SYM w) (hX : wlXE c s t b w r w1) (hR : wlRE c s t b w1 r2 w2) : SYM w2 := by
  have h1 : SYM w1 := by
    rcases hX with ⟨-, -, e⟩ | ⟨-, -, c9, s9, t9, -, hc39, -, -, -, -, -, -, -, -, x4⟩
    · rw [e]; exact h
    · exact h.cg (fun k => x4 99 k (by omega) (by omega))
  rcases hR with ⟨-, -, e⟩ | ⟨-, -, c8, s8, t8, -, hc8, -, -, hs8, ht8, hnb, y1, y2, -, y4⟩
  · rw [e]; exact h1
  have hne : t8 ≠ s8 := nb_ne hs8 hnb
  have key : ∀ c a u : Nat, a < 16 → u < 16 → hbit (w2 99 (16 * c + a)) u = if c = c8 ∧ ((a = s8 ∧ u = t8) ∨ (a = t8 ∧ u = s8)) then !decide (b = 0) else hbit (w1 99 (16 * c + a)) u := fun c a u ha hu => by
    by_cases k1 : c = c8 ∧ a = s8
    · obtain ⟨rfl, rfl⟩ := k1
      rw [y1, wkN_b ht8 hu]
      by_cases k : u = t8
      · rw [if_pos k, if_pos ⟨rfl, .inl ⟨rfl, k⟩⟩]
      · rw [if_neg k, if_neg (fun z => z.2.elim (fun q => k q.2) (fun q => hne q.1.symm))]
    · by_cases k2 : c = c8 ∧ a = t8
      · obtain ⟨rfl, rfl⟩ := k2
        rw [y2, wkN_b hs8 hu]
        by_cases k : u = s8
        · rw [if_pos k, if_pos ⟨rfl, .inr ⟨rfl, k⟩⟩]
        · rw [if_neg k, if_neg (fun z => z.2.elim (fun q => hne q.1) (fun q => k q.2))]
      · rw [y4 99 _ (by omega) (by omega), if_neg (fun z => z.2.elim (fun q => k1 ⟨z.1, q.1⟩) (fun q => k2 ⟨z.1, q.1⟩))]
  refine fun c hc a u ha hu => ?_
  have h0 := h1 c hc a u ha hu
  rw [pas_h, pas_h] at h0 ⊢
  rw [key c a u ha hu, key c u a hu ha, nb_com ha hu] at *
  by_cases q : c = c8 ∧ ((a = s8 ∧ u = t8) ∨ (a = t8 ∧ u = s8))
  · rw [if_pos q, if_pos ⟨q.1, q.2.elim (fun z => .inr ⟨z.2, z.1⟩) (fun z => .inl ⟨z.2, z.1⟩)⟩]
  · rw [if_neg q, if_neg (fun z => q ⟨z.1, z.2.elim (fun y => .inr ⟨y.2, y.1⟩) (fun y => .inl ⟨y.2, y.1⟩)⟩)]
    exact h0
theorem JV.cg {w w1 : qW} (h : JV w) (h1 : ∀ c k : Nat, c < 3 → w1 (65 + 5 * c) k = w (65 + 5 * c) k) (h2 : ∀ k, w1 99 k = w 99 k) : JV w1 := ⟨h.1.cg h1 h2, h.2.cg h2⟩
theorem JV.wall {w w1 w2 : qW} {c s t b : Int} {r r2 : qV} (h : JV w) (hX : wlXE c s t b w r w1) (hR : wlRE c s t b w1 r2 w2) : JV w2 ∧ r = r2 := ⟨⟨(h.1.wall hX hR).1, h.2.wall hX hR⟩, (h.1.wall hX hR).2⟩
