/-! the chests' works and doors on both sides; air -/
noncomputable def wkN (v s b : Int) : Int := if b = 0 then qand v (qxor (qshl 1 s) (-1)) else qor v (qshl 1 s)
noncomputable def isWk (c s : Int) : Prop := (0 ≤ c ∧ c ≤ 2) ∧ 0 ≤ s ∧ s ≤ 15
noncomputable def pwE (p : Nat) (s b : Int) (w : qW) (r : qV) (w1 : qW) : Prop := (¬ (0 ≤ s ∧ s ≤ 15) ∧ r = (0, 0) ∧ w1 = w) ∨ ((0 ≤ s ∧ s ≤ 15) ∧ r = (0, 1) ∧ w1 p 0 = wkN (w p 0) s b ∧ ∀ q k, ¬ (q = p ∧ (k = 0 ∨ k = 1)) → w1 q k = w q k)
noncomputable def wkX (c s b : Int) (w : qW) (r : qV) (w1 : qW) : Prop := (¬ isWk c s ∧ r = (0, 0) ∧ w1 = w) ∨ (isWk c s ∧ ∃ c9 : Nat, c = (c9 : Int) ∧ r = (0, 1) ∧ w1 (64 + 5 * c9) 0 = wkN (w (64 + 5 * c9) 0) s b ∧ ∀ q k, ¬ (q = 64 + 5 * c9 ∧ (k = 0 ∨ k = 1)) → w1 q k = w q k)
noncomputable def wkR (c s b : Int) (w : qW) (r : qV) (w1 : qW) : Prop := (¬ isWk c s ∧ r = (0, 0) ∧ w1 = w) ∨ (isWk c s ∧ ∃ c9 : Nat, c = (c9 : Int) ∧ r = (0, 1) ∧ w1 96 c9 = wkN (w 96 c9) s b ∧ ∀ q k, ¬ (q = 96 ∧ k = c9) → ¬ (q = 95 ∧ k = 9) → w1 q k = w q k)
theorem K_putWorks64 {d : Nat} (hd : 1 ≤ d) (s b : Int) (hb : b = 0 ∨ b = 1) (w : qW) (hI : yInv zgf zga zra zSp w) : qG none d 20 0 [(2, 64), (0, s), (0, b)] [] w 142 (fun (r : qV) (w1 : qW) (n1 : Nat) => n1 = 142 ∧ pwE 64 s b w r w1) := by
  generalize hQ9 : (fun (r : qV) (w1 : qW) (n1 : Nat) => n1 = 142 ∧ pwE 64 s b w r w1) = Q9
  obtain ⟨d, rfl⟩ : ∃ d9, d = d9 + 1 := ⟨d - 1, by omega⟩
  refine qG.blk 1 (pc' := 1) (ls' := [(2, 64), (0, s), (0, b)]) (st' := [(0, s)]) (w' := w) (n' := 142) rfl ?_
  refine qG.call (t := 19) (na := 1) (sk := 0) (md := 0) (ls1 := [(0, s)]) (r1 := []) rfl rfl rfl rfl rfl (K_X2_isSpace (Nat.zero_le _) _ _) ?_
  rintro _ w7 _ ⟨rfl, hw7, rfl⟩
  rw [hw7]
  show qG none (d + 1) 20 4 [(2, 64), (0, s), (0, b)] [(0, isInV s 0 15)] w 142 Q9
  refine qG.br (P := isInV s 0 15 = 0) (pc1 := 7) (pc2 := 9) (st1 := []) rfl (fun h1 => ?_) (fun h1 => ?_)
  · skip
    rw [isIn_b] at h1
    refine qG.blk 1 (pc' := 8) (ls' := [(2, 64), (0, s), (0, b)]) (st' := [(0, 0)]) (w' := w) (n' := 142) rfl ?_
    refine qG.ret rfl (by first | rfl | exact decide_eq_true (by omega)) ?_
    subst hQ9
    refine ⟨rfl, ?_⟩; first | exact .inl ⟨h1, rfl, rfl⟩ | exact .inr ⟨h1, rfl, (by unfold wkN; simp (disch := decide) only [qup_j, qup_k]; first | (rw [if_pos hb0]; done) | (rw [if_neg hb0]; done)), (fun q k h => by first | (rw [qup_f (fun z => h ⟨z.1, .inr z.2⟩), qup_f (fun z => h ⟨z.1, .inl z.2⟩)]; done))⟩
  · skip
    rw [isIn_p] at h1
    refine qG.blk 2 (pc' := 11) (ls' := [(2, 64), (0, s), (0, b)]) (st' := [(0, b), (2, 64)]) (w' := w) (n' := 142) rfl ?_
    refine qG.br (P := b = 0) (pc1 := 25) (pc2 := 14) (st1 := [(2, 64)]) rfl (fun hb0 => ?_) (fun hb0 => ?_)
    · skip
      refine qG.blk 12 (pc' := 43) (ls' := [(2, 64), (0, s), (0, b)]) (st' := [(0, w 64 1), (2, 64)]) (w' := (qup w 64 0 (qand (w 64 0) (qxor (qshl 1 s) (-1))))) (n' := 142) rfl ?_
      refine qG.blk 2 (pc' := 45) (ls' := [(2, 64), (0, s), (0, b)]) (st' := [(0, wrp ((w 64 1) + 1)), (2, 64)]) (w' := (qup w 64 0 (qand (w 64 0) (qxor (qshl 1 s) (-1))))) (n' := 142) rfl ?_
      refine qG.blk 2 (pc' := 49) (ls' := [(2, 64), (0, s), (0, b)]) (st' := [(0, 1)]) (w' := (qup (qup w 64 0 (qand (w 64 0) (qxor (qshl 1 s) (-1)))) 64 1 (wrp ((w 64 1) + 1)))) (n' := 142) rfl ?_
      refine qG.ret rfl (by first | rfl | exact decide_eq_true (by omega)) ?_
      subst hQ9
      refine ⟨rfl, ?_⟩; first | exact .inl ⟨h1, rfl, rfl⟩ | exact .inr ⟨h1, rfl, (by unfold wkN; simp (disch := decide) only [qup_j, qup_k]; first | (rw [if_pos hb0]; done) | (rw [if_neg hb0]; done)), (fun q k h => by first | (rw [qup_f (fun z => h ⟨z.1, .inr z.2⟩), qup_f (fun z => h ⟨z.1, .inl z.2⟩)]; done))⟩
    · skip
      refine qG.blk 12 (pc' := 44) (ls' := [(2, 64), (0, s), (0, b)]) (st' := [(0, 1), (0, w 64 1), (2, 64)]) (w' := (qup w 64 0 (qor (w 64 0) (qshl 1 s)))) (n' := 142) rfl ?_
      refine qG.blk 1 (pc' := 45) (ls' := [(2, 64), (0, s), (0, b)]) (st' := [(0, wrp ((w 64 1) + 1)), (2, 64)]) (w' := (qup w 64 0 (qor (w 64 0) (qshl 1 s)))) (n' := 142) rfl ?_
      refine qG.blk 2 (pc' := 49) (ls' := [(2, 64), (0, s), (0, b)]) (st' := [(0, 1)]) (w' := (qup (qup w 64 0 (qor (w 64 0) (qshl 1 s))) 64 1 (wrp ((w 64 1) + 1)))) (n' := 142) rfl ?_
      refine qG.ret rfl (by first | rfl | exact decide_eq_true (by omega)) ?_
      subst hQ9
      refine ⟨rfl, ?_⟩; first | exact .inl ⟨h1, rfl, rfl⟩ | exact .inr ⟨h1, rfl, (by unfold wkN; simp (disch := decide) only [qup_j, qup_k]; first | (rw [if_pos hb0]; done) | (rw [if_neg hb0]; done)), (fun q k h => by first | (rw [qup_f (fun z => h ⟨z.1, .inr z.2⟩), qup_f (fun z => h ⟨z.1, .inl z.2⟩)]; done))⟩
theorem K_putWorks69 {d : Nat} (hd : 1 ≤ d) (s b : Int) (hb : b = 0 ∨ b = 1) (w : qW) (hI : yInv zgf zga zra zSp w) : qG none d 20 0 [(2, 69), (0, s), (0, b)] [] w 142 (fun (r : qV) (w1 : qW) (n1 : Nat) => n1 = 142 ∧ pwE 69 s b w r w1) := by
  generalize hQ9 : (fun (r : qV) (w1 : qW) (n1 : Nat) => n1 = 142 ∧ pwE 69 s b w r w1) = Q9
  obtain ⟨d, rfl⟩ : ∃ d9, d = d9 + 1 := ⟨d - 1, by omega⟩
  refine qG.blk 1 (pc' := 1) (ls' := [(2, 69), (0, s), (0, b)]) (st' := [(0, s)]) (w' := w) (n' := 142) rfl ?_
  refine qG.call (t := 19) (na := 1) (sk := 0) (md := 0) (ls1 := [(0, s)]) (r1 := []) rfl rfl rfl rfl rfl (K_X2_isSpace (Nat.zero_le _) _ _) ?_
  rintro _ w7 _ ⟨rfl, hw7, rfl⟩
  rw [hw7]
  show qG none (d + 1) 20 4 [(2, 69), (0, s), (0, b)] [(0, isInV s 0 15)] w 142 Q9
  refine qG.br (P := isInV s 0 15 = 0) (pc1 := 7) (pc2 := 9) (st1 := []) rfl (fun h1 => ?_) (fun h1 => ?_)
  · skip
    rw [isIn_b] at h1
    refine qG.blk 1 (pc' := 8) (ls' := [(2, 69), (0, s), (0, b)]) (st' := [(0, 0)]) (w' := w) (n' := 142) rfl ?_
    refine qG.ret rfl (by first | rfl | exact decide_eq_true (by omega)) ?_
    subst hQ9
    refine ⟨rfl, ?_⟩; first | exact .inl ⟨h1, rfl, rfl⟩ | exact .inr ⟨h1, rfl, (by unfold wkN; simp (disch := decide) only [qup_j, qup_k]; first | (rw [if_pos hb0]; done) | (rw [if_neg hb0]; done)), (fun q k h => by first | (rw [qup_f (fun z => h ⟨z.1, .inr z.2⟩), qup_f (fun z => h ⟨z.1, .inl z.2⟩)]; done))⟩
  · skip
    rw [isIn_p] at h1
    refine qG.blk 2 (pc' := 11) (ls' := [(2, 69), (0, s), (0, b)]) (st' := [(0, b), (2, 69)]) (w' := w) (n' := 142) rfl ?_
    refine qG.br (P := b = 0) (pc1 := 25) (pc2 := 14) (st1 := [(2, 69)]) rfl (fun hb0 => ?_) (fun hb0 => ?_)
    · skip
      refine qG.blk 12 (pc' := 43) (ls' := [(2, 69), (0, s), (0, b)]) (st' := [(0, w 69 1), (2, 69)]) (w' := (qup w 69 0 (qand (w 69 0) (qxor (qshl 1 s) (-1))))) (n' := 142) rfl ?_
      refine qG.blk 2 (pc' := 45) (ls' := [(2, 69), (0, s), (0, b)]) (st' := [(0, wrp ((w 69 1) + 1)), (2, 69)]) (w' := (qup w 69 0 (qand (w 69 0) (qxor (qshl 1 s) (-1))))) (n' := 142) rfl ?_
      refine qG.blk 2 (pc' := 49) (ls' := [(2, 69), (0, s), (0, b)]) (st' := [(0, 1)]) (w' := (qup (qup w 69 0 (qand (w 69 0) (qxor (qshl 1 s) (-1)))) 69 1 (wrp ((w 69 1) + 1)))) (n' := 142) rfl ?_
      refine qG.ret rfl (by first | rfl | exact decide_eq_true (by omega)) ?_
      subst hQ9
      refine ⟨rfl, ?_⟩; first | exact .inl ⟨h1, rfl, rfl⟩ | exact .inr ⟨h1, rfl, (by unfold wkN; simp (disch := decide) only [qup_j, qup_k]; first | (rw [if_pos hb0]; done) | (rw [if_neg hb0]; done)), (fun q k h => by first | (rw [qup_f (fun z => h ⟨z.1, .inr z.2⟩), qup_f (fun z => h ⟨z.1, .inl z.2⟩)]; done))⟩
    · skip
      refine qG.blk 12 (pc' := 44) (ls' := [(2, 69), (0, s), (0, b)]) (st' := [(0, 1), (0, w 69 1), (2, 69)]) (w' := (qup w 69 0 (qor (w 69 0) (qshl 1 s)))) (n' := 142) rfl ?_
      refine qG.blk 1 (pc' := 45) (ls' := [(2, 69), (0, s), (0, b)]) (st' := [(0, wrp ((w 69 1) + 1)), (2, 69)]) (w' := (qup w 69 0 (qor (w 69 0) (qshl 1 s)))) (n' := 142) rfl ?_
      refine qG.blk 2 (pc' := 49) (ls' := [(2, 69), (0, s), (0, b)]) (st' := [(0, 1)]) (w' := (qup (qup w 69 0 (qor (w 69 0) (qshl 1 s))) 69 1 (wrp ((w 69 1) + 1)))) (n' := 142) rfl ?_
      refine qG.ret rfl (by first | rfl | exact decide_eq_true (by omega)) ?_
      subst hQ9
      refine ⟨rfl, ?_⟩; first | exact .inl ⟨h1, rfl, rfl⟩ | exact .inr ⟨h1, rfl, (by unfold wkN; simp (disch := decide) only [qup_j, qup_k]; first | (rw [if_pos hb0]; done) | (rw [if_neg hb0]; done)), (fun q k h => by first | (rw [qup_f (fun z => h ⟨z.1, .inr z.2⟩), qup_f (fun z => h ⟨z.1, .inl z.2⟩)]; done))⟩
theorem K_putWorks74 {d : Nat} (hd : 1 ≤ d) (s b : Int) (hb : b = 0 ∨ b = 1) (w : qW) (hI : yInv zgf zga zra zSp w) : qG none d 20 0 [(2, 74), (0, s), (0, b)] [] w 142 (fun (r : qV) (w1 : qW) (n1 : Nat) => n1 = 142 ∧ pwE 74 s b w r w1) := by
  generalize hQ9 : (fun (r : qV) (w1 : qW) (n1 : Nat) => n1 = 142 ∧ pwE 74 s b w r w1) = Q9
  obtain ⟨d, rfl⟩ : ∃ d9, d = d9 + 1 := ⟨d - 1, by omega⟩
  refine qG.blk 1 (pc' := 1) (ls' := [(2, 74), (0, s), (0, b)]) (st' := [(0, s)]) (w' := w) (n' := 142) rfl ?_
  refine qG.call (t := 19) (na := 1) (sk := 0) (md := 0) (ls1 := [(0, s)]) (r1 := []) rfl rfl rfl rfl rfl (K_X2_isSpace (Nat.zero_le _) _ _) ?_
  rintro _ w7 _ ⟨rfl, hw7, rfl⟩
  rw [hw7]
  show qG none (d + 1) 20 4 [(2, 74), (0, s), (0, b)] [(0, isInV s 0 15)] w 142 Q9
  refine qG.br (P := isInV s 0 15 = 0) (pc1 := 7) (pc2 := 9) (st1 := []) rfl (fun h1 => ?_) (fun h1 => ?_)
  · skip
    rw [isIn_b] at h1
    refine qG.blk 1 (pc' := 8) (ls' := [(2, 74), (0, s), (0, b)]) (st' := [(0, 0)]) (w' := w) (n' := 142) rfl ?_
    refine qG.ret rfl (by first | rfl | exact decide_eq_true (by omega)) ?_
    subst hQ9
    refine ⟨rfl, ?_⟩; first | exact .inl ⟨h1, rfl, rfl⟩ | exact .inr ⟨h1, rfl, (by unfold wkN; simp (disch := decide) only [qup_j, qup_k]; first | (rw [if_pos hb0]; done) | (rw [if_neg hb0]; done)), (fun q k h => by first | (rw [qup_f (fun z => h ⟨z.1, .inr z.2⟩), qup_f (fun z => h ⟨z.1, .inl z.2⟩)]; done))⟩
  · skip
    rw [isIn_p] at h1
    refine qG.blk 2 (pc' := 11) (ls' := [(2, 74), (0, s), (0, b)]) (st' := [(0, b), (2, 74)]) (w' := w) (n' := 142) rfl ?_
    refine qG.br (P := b = 0) (pc1 := 25) (pc2 := 14) (st1 := [(2, 74)]) rfl (fun hb0 => ?_) (fun hb0 => ?_)
    · skip
      refine qG.blk 12 (pc' := 43) (ls' := [(2, 74), (0, s), (0, b)]) (st' := [(0, w 74 1), (2, 74)]) (w' := (qup w 74 0 (qand (w 74 0) (qxor (qshl 1 s) (-1))))) (n' := 142) rfl ?_
      refine qG.blk 2 (pc' := 45) (ls' := [(2, 74), (0, s), (0, b)]) (st' := [(0, wrp ((w 74 1) + 1)), (2, 74)]) (w' := (qup w 74 0 (qand (w 74 0) (qxor (qshl 1 s) (-1))))) (n' := 142) rfl ?_
      refine qG.blk 2 (pc' := 49) (ls' := [(2, 74), (0, s), (0, b)]) (st' := [(0, 1)]) (w' := (qup (qup w 74 0 (qand (w 74 0) (qxor (qshl 1 s) (-1)))) 74 1 (wrp ((w 74 1) + 1)))) (n' := 142) rfl ?_
      refine qG.ret rfl (by first | rfl | exact decide_eq_true (by omega)) ?_
      subst hQ9
      refine ⟨rfl, ?_⟩; first | exact .inl ⟨h1, rfl, rfl⟩ | exact .inr ⟨h1, rfl, (by unfold wkN; simp (disch := decide) only [qup_j, qup_k]; first | (rw [if_pos hb0]; done) | (rw [if_neg hb0]; done)), (fun q k h => by first | (rw [qup_f (fun z => h ⟨z.1, .inr z.2⟩), qup_f (fun z => h ⟨z.1, .inl z.2⟩)]; done))⟩
    · skip
      refine qG.blk 12 (pc' := 44) (ls' := [(2, 74), (0, s), (0, b)]) (st' := [(0, 1), (0, w 74 1), (2, 74)]) (w' := (qup w 74 0 (qor (w 74 0) (qshl 1 s)))) (n' := 142) rfl ?_
      refine qG.blk 1 (pc' := 45) (ls' := [(2, 74), (0, s), (0, b)]) (st' := [(0, wrp ((w 74 1) + 1)), (2, 74)]) (w' := (qup w 74 0 (qor (w 74 0) (qshl 1 s)))) (n' := 142) rfl ?_
      refine qG.blk 2 (pc' := 49) (ls' := [(2, 74), (0, s), (0, b)]) (st' := [(0, 1)]) (w' := (qup (qup w 74 0 (qor (w 74 0) (qshl 1 s))) 74 1 (wrp ((w 74 1) + 1)))) (n' := 142) rfl ?_
      refine qG.ret rfl (by first | rfl | exact decide_eq_true (by omega)) ?_
      subst hQ9
      refine ⟨rfl, ?_⟩; first | exact .inl ⟨h1, rfl, rfl⟩ | exact .inr ⟨h1, rfl, (by unfold wkN; simp (disch := decide) only [qup_j, qup_k]; first | (rw [if_pos hb0]; done) | (rw [if_neg hb0]; done)), (fun q k h => by first | (rw [qup_f (fun z => h ⟨z.1, .inr z.2⟩), qup_f (fun z => h ⟨z.1, .inl z.2⟩)]; done))⟩
theorem K_X11_works_0 {d : Nat} (hd : 2 ≤ d) (s b : Int) (hb : b = 0 ∨ b = 1) (w : qW) (hI : yInv zgf zga zra zSp w) : qG none d 164 0 [(2, 1), (0, 0), (0, s), (0, b)] [] w 142 (fun (r : qV) (w1 : qW) (_ : Nat) => wkX 0 s b w r w1) := by
  generalize hQ9 : (fun (r : qV) (w1 : qW) (_ : Nat) => wkX 0 s b w r w1) = Q9
  obtain ⟨d, rfl⟩ : ∃ d9, d = d9 + 1 := ⟨d - 1, by omega⟩
  refine qG.blk 1 (pc' := 1) (ls' := [(2, 1), (0, 0), (0, s), (0, b)]) (st' := [(0, 0)]) (w' := w) (n' := 142) rfl ?_
  refine qG.call (t := 198) (na := 1) (sk := 0) (md := 0) (ls1 := [(0, 0)]) (r1 := []) rfl rfl rfl rfl rfl (K_X11_isChest (Nat.zero_le _) _ _) ?_
  rintro _ w7 _ ⟨rfl, hw7, rfl⟩
  rw [hw7, show isInV 0 0 2 = 1 from by decide]
  show qG none (d + 1) 164 4 [(2, 1), (0, 0), (0, s), (0, b)] [(0, 1)] w 142 Q9
  refine qG.br (P := (1 : Int) = 0) (pc1 := 25) (pc2 := 7) (st1 := []) rfl (fun h1 => ?_) (fun h1 => ?_)
  · exact absurd h1 (by decide)
  · skip
    refine qG.blk 2 (pc' := 11) (ls' := [(2, 1), (0, 0), (0, s), (0, b)]) (st' := [(2, w 1 0)]) (w' := w) (n' := 142) rfl ?_
    rw [show w 1 0 = 2 from zref hI rfl rfl]
    refine qG.blk 1 (pc' := 12) (ls' := [(2, 1), (0, 0), (0, s), (0, b)]) (st' := [(0, 0), (2, 2)]) (w' := w) (n' := 142) rfl ?_
    refine qG.ar (P := 0 ≤ 0 ∧ 0 < ((3 : Nat) : Int)) (P2 := 0 < (2 : Int) ∧ (2 : Int) ≤ ((142 : Nat) : Int)) (pc' := 13) (ls' := [(2, 1), (0, 0), (0, s), (0, b)]) (st' := [(2, w 2 0)]) (w' := w) (n' := 142) rfl (by omega) (by decide) ?_
    rw [show w 2 0 = 64 from zref hI rfl rfl]
    refine qG.blk 2 (pc' := 15) (ls' := [(2, 1), (0, 0), (0, s), (0, b)]) (st' := [(0, b), (0, s), (2, 64)]) (w' := w) (n' := 142) rfl ?_
    refine qG.call (t := 20) (na := 3) (sk := 1) (md := 1) (ls1 := [(2, 64), (0, s), (0, b)]) (r1 := []) rfl rfl rfl rfl rfl (K_putWorks64 (by omega) s b hb w hI) ?_
    rintro ⟨_, x9⟩ w1 _ ⟨rfl, hE⟩; rcases hE with ⟨h9, hx9, hw1⟩ | ⟨h9, hx9, hE⟩ <;> obtain ⟨rfl, rfl⟩ := Prod.mk.inj hx9
    · skip
      show qG none (d + 1) 164 18 [(2, 1), (0, 0), (0, s), (0, b)] [(0, 0)] w1 142 Q9
      refine qG.br (P := (0 : Int) = 0) (pc1 := 25) (pc2 := 21) (st1 := []) rfl (fun h2 => ?_) (fun h2 => ?_)
      · skip
        refine qG.blk 1 (pc' := 26) (ls' := [(2, 1), (0, 0), (0, s), (0, b)]) (st' := [(0, 0)]) (w' := w1) (n' := 142) rfl ?_
        refine qG.ret rfl (by first | rfl | exact decide_eq_true (by omega)) ?_
        subst hQ9
        first | exact .inl ⟨fun z => h9 z.2, rfl, hw1⟩ | exact .inr ⟨⟨by decide, h9⟩, 0, rfl, rfl, hE⟩
      · exact absurd h2 (by decide)
    · skip
      show qG none (d + 1) 164 18 [(2, 1), (0, 0), (0, s), (0, b)] [(0, 1)] w1 142 Q9
      refine qG.br (P := (1 : Int) = 0) (pc1 := 25) (pc2 := 21) (st1 := []) rfl (fun h3 => ?_) (fun h3 => ?_)
      · exact absurd h3 (by decide)
      · skip
        refine qG.blk 2 (pc' := 26) (ls' := [(2, 1), (0, 0), (0, s), (0, b)]) (st' := [(0, 1)]) (w' := w1) (n' := 142) rfl ?_
        refine qG.ret rfl (by first | rfl | exact decide_eq_true (by omega)) ?_
        subst hQ9
        first | exact .inl ⟨fun z => h9 z.2, rfl, hw1⟩ | exact .inr ⟨⟨by decide, h9⟩, 0, rfl, rfl, hE⟩
theorem K_X11_works_1 {d : Nat} (hd : 2 ≤ d) (s b : Int) (hb : b = 0 ∨ b = 1) (w : qW) (hI : yInv zgf zga zra zSp w) : qG none d 164 0 [(2, 1), (0, 1), (0, s), (0, b)] [] w 142 (fun (r : qV) (w1 : qW) (_ : Nat) => wkX 1 s b w r w1) := by
  generalize hQ9 : (fun (r : qV) (w1 : qW) (_ : Nat) => wkX 1 s b w r w1) = Q9
  obtain ⟨d, rfl⟩ : ∃ d9, d = d9 + 1 := ⟨d - 1, by omega⟩
  refine qG.blk 1 (pc' := 1) (ls' := [(2, 1), (0, 1), (0, s), (0, b)]) (st' := [(0, 1)]) (w' := w) (n' := 142) rfl ?_
  refine qG.call (t := 198) (na := 1) (sk := 0) (md := 0) (ls1 := [(0, 1)]) (r1 := []) rfl rfl rfl rfl rfl (K_X11_isChest (Nat.zero_le _) _ _) ?_
  rintro _ w7 _ ⟨rfl, hw7, rfl⟩
  rw [hw7, show isInV 1 0 2 = 1 from by decide]
  show qG none (d + 1) 164 4 [(2, 1), (0, 1), (0, s), (0, b)] [(0, 1)] w 142 Q9
  refine qG.br (P := (1 : Int) = 0) (pc1 := 25) (pc2 := 7) (st1 := []) rfl (fun h1 => ?_) (fun h1 => ?_)
  · exact absurd h1 (by decide)
  · skip
    refine qG.blk 2 (pc' := 11) (ls' := [(2, 1), (0, 1), (0, s), (0, b)]) (st' := [(2, w 1 0)]) (w' := w) (n' := 142) rfl ?_
    rw [show w 1 0 = 2 from zref hI rfl rfl]
    refine qG.blk 1 (pc' := 12) (ls' := [(2, 1), (0, 1), (0, s), (0, b)]) (st' := [(0, 1), (2, 2)]) (w' := w) (n' := 142) rfl ?_
    refine qG.ar (P := 0 ≤ 1 ∧ 1 < ((3 : Nat) : Int)) (P2 := 0 < (2 : Int) ∧ (2 : Int) ≤ ((142 : Nat) : Int)) (pc' := 13) (ls' := [(2, 1), (0, 1), (0, s), (0, b)]) (st' := [(2, w 2 1)]) (w' := w) (n' := 142) rfl (by omega) (by decide) ?_
    rw [show w 2 1 = 69 from zref hI rfl rfl]
    refine qG.blk 2 (pc' := 15) (ls' := [(2, 1), (0, 1), (0, s), (0, b)]) (st' := [(0, b), (0, s), (2, 69)]) (w' := w) (n' := 142) rfl ?_
    refine qG.call (t := 20) (na := 3) (sk := 1) (md := 1) (ls1 := [(2, 69), (0, s), (0, b)]) (r1 := []) rfl rfl rfl rfl rfl (K_putWorks69 (by omega) s b hb w hI) ?_
    rintro ⟨_, x9⟩ w1 _ ⟨rfl, hE⟩; rcases hE with ⟨h9, hx9, hw1⟩ | ⟨h9, hx9, hE⟩ <;> obtain ⟨rfl, rfl⟩ := Prod.mk.inj hx9
    · skip
      show qG none (d + 1) 164 18 [(2, 1), (0, 1), (0, s), (0, b)] [(0, 0)] w1 142 Q9
      refine qG.br (P := (0 : Int) = 0) (pc1 := 25) (pc2 := 21) (st1 := []) rfl (fun h2 => ?_) (fun h2 => ?_)
      · skip
        refine qG.blk 1 (pc' := 26) (ls' := [(2, 1), (0, 1), (0, s), (0, b)]) (st' := [(0, 0)]) (w' := w1) (n' := 142) rfl ?_
        refine qG.ret rfl (by first | rfl | exact decide_eq_true (by omega)) ?_
        subst hQ9
        first | exact .inl ⟨fun z => h9 z.2, rfl, hw1⟩ | exact .inr ⟨⟨by decide, h9⟩, 1, rfl, rfl, hE⟩
      · exact absurd h2 (by decide)
    · skip
      show qG none (d + 1) 164 18 [(2, 1), (0, 1), (0, s), (0, b)] [(0, 1)] w1 142 Q9
      refine qG.br (P := (1 : Int) = 0) (pc1 := 25) (pc2 := 21) (st1 := []) rfl (fun h3 => ?_) (fun h3 => ?_)
      · exact absurd h3 (by decide)
      · skip
        refine qG.blk 2 (pc' := 26) (ls' := [(2, 1), (0, 1), (0, s), (0, b)]) (st' := [(0, 1)]) (w' := w1) (n' := 142) rfl ?_
        refine qG.ret rfl (by first | rfl | exact decide_eq_true (by omega)) ?_
        subst hQ9
        first | exact .inl ⟨fun z => h9 z.2, rfl, hw1⟩ | exact .inr ⟨⟨by decide, h9⟩, 1, rfl, rfl, hE⟩
theorem K_X11_works_2 {d : Nat} (hd : 2 ≤ d) (s b : Int) (hb : b = 0 ∨ b = 1) (w : qW) (hI : yInv zgf zga zra zSp w) : qG none d 164 0 [(2, 1), (0, 2), (0, s), (0, b)] [] w 142 (fun (r : qV) (w1 : qW) (_ : Nat) => wkX 2 s b w r w1) := by
  generalize hQ9 : (fun (r : qV) (w1 : qW) (_ : Nat) => wkX 2 s b w r w1) = Q9
  obtain ⟨d, rfl⟩ : ∃ d9, d = d9 + 1 := ⟨d - 1, by omega⟩
  refine qG.blk 1 (pc' := 1) (ls' := [(2, 1), (0, 2), (0, s), (0, b)]) (st' := [(0, 2)]) (w' := w) (n' := 142) rfl ?_
  refine qG.call (t := 198) (na := 1) (sk := 0) (md := 0) (ls1 := [(0, 2)]) (r1 := []) rfl rfl rfl rfl rfl (K_X11_isChest (Nat.zero_le _) _ _) ?_
  rintro _ w7 _ ⟨rfl, hw7, rfl⟩
  rw [hw7, show isInV 2 0 2 = 1 from by decide]
  show qG none (d + 1) 164 4 [(2, 1), (0, 2), (0, s), (0, b)] [(0, 1)] w 142 Q9
  refine qG.br (P := (1 : Int) = 0) (pc1 := 25) (pc2 := 7) (st1 := []) rfl (fun h1 => ?_) (fun h1 => ?_)
  · exact absurd h1 (by decide)
  · skip
    refine qG.blk 2 (pc' := 11) (ls' := [(2, 1), (0, 2), (0, s), (0, b)]) (st' := [(2, w 1 0)]) (w' := w) (n' := 142) rfl ?_
    rw [show w 1 0 = 2 from zref hI rfl rfl]
    refine qG.blk 1 (pc' := 12) (ls' := [(2, 1), (0, 2), (0, s), (0, b)]) (st' := [(0, 2), (2, 2)]) (w' := w) (n' := 142) rfl ?_
    refine qG.ar (P := 0 ≤ 2 ∧ 2 < ((3 : Nat) : Int)) (P2 := 0 < (2 : Int) ∧ (2 : Int) ≤ ((142 : Nat) : Int)) (pc' := 13) (ls' := [(2, 1), (0, 2), (0, s), (0, b)]) (st' := [(2, w 2 2)]) (w' := w) (n' := 142) rfl (by omega) (by decide) ?_
    rw [show w 2 2 = 74 from zref hI rfl rfl]
    refine qG.blk 2 (pc' := 15) (ls' := [(2, 1), (0, 2), (0, s), (0, b)]) (st' := [(0, b), (0, s), (2, 74)]) (w' := w) (n' := 142) rfl ?_
    refine qG.call (t := 20) (na := 3) (sk := 1) (md := 1) (ls1 := [(2, 74), (0, s), (0, b)]) (r1 := []) rfl rfl rfl rfl rfl (K_putWorks74 (by omega) s b hb w hI) ?_
    rintro ⟨_, x9⟩ w1 _ ⟨rfl, hE⟩; rcases hE with ⟨h9, hx9, hw1⟩ | ⟨h9, hx9, hE⟩ <;> obtain ⟨rfl, rfl⟩ := Prod.mk.inj hx9
    · skip
      show qG none (d + 1) 164 18 [(2, 1), (0, 2), (0, s), (0, b)] [(0, 0)] w1 142 Q9
      refine qG.br (P := (0 : Int) = 0) (pc1 := 25) (pc2 := 21) (st1 := []) rfl (fun h2 => ?_) (fun h2 => ?_)
      · skip
        refine qG.blk 1 (pc' := 26) (ls' := [(2, 1), (0, 2), (0, s), (0, b)]) (st' := [(0, 0)]) (w' := w1) (n' := 142) rfl ?_
        refine qG.ret rfl (by first | rfl | exact decide_eq_true (by omega)) ?_
        subst hQ9
        first | exact .inl ⟨fun z => h9 z.2, rfl, hw1⟩ | exact .inr ⟨⟨by decide, h9⟩, 2, rfl, rfl, hE⟩
      · exact absurd h2 (by decide)
    · skip
      show qG none (d + 1) 164 18 [(2, 1), (0, 2), (0, s), (0, b)] [(0, 1)] w1 142 Q9
      refine qG.br (P := (1 : Int) = 0) (pc1 := 25) (pc2 := 21) (st1 := []) rfl (fun h3 => ?_) (fun h3 => ?_)
      · exact absurd h3 (by decide)
      · skip
        refine qG.blk 2 (pc' := 26) (ls' := [(2, 1), (0, 2), (0, s), (0, b)]) (st' := [(0, 1)]) (w' := w1) (n' := 142) rfl ?_
        refine qG.ret rfl (by first | rfl | exact decide_eq_true (by omega)) ?_
        subst hQ9
        first | exact .inl ⟨fun z => h9 z.2, rfl, hw1⟩ | exact .inr ⟨⟨by decide, h9⟩, 2, rfl, rfl, hE⟩
theorem K_X11_works_n {d : Nat} (hd : 2 ≤ d) (c s b : Int) (hc : isInV c 0 2 = 0) (w : qW) (hI : yInv zgf zga zra zSp w) : qG none d 164 0 [(2, 1), (0, c), (0, s), (0, b)] [] w 142 (fun (r : qV) (w1 : qW) (_ : Nat) => wkX c s b w r w1) := by
  generalize hQ9 : (fun (r : qV) (w1 : qW) (_ : Nat) => wkX c s b w r w1) = Q9
  obtain ⟨d, rfl⟩ : ∃ d9, d = d9 + 1 := ⟨d - 1, by omega⟩
  refine qG.blk 1 (pc' := 1) (ls' := [(2, 1), (0, c), (0, s), (0, b)]) (st' := [(0, c)]) (w' := w) (n' := 142) rfl ?_
  refine qG.call (t := 198) (na := 1) (sk := 0) (md := 0) (ls1 := [(0, c)]) (r1 := []) rfl rfl rfl rfl rfl (K_X11_isChest (Nat.zero_le _) _ _) ?_
  rintro _ w7 _ ⟨rfl, hw7, rfl⟩
  rw [hw7]
  show qG none (d + 1) 164 4 [(2, 1), (0, c), (0, s), (0, b)] [(0, isInV c 0 2)] w 142 Q9
  refine qG.br (P := isInV c 0 2 = 0) (pc1 := 25) (pc2 := 7) (st1 := []) rfl (fun hc0 => ?_) (fun hc0 => ?_)
  · skip
    refine qG.blk 1 (pc' := 26) (ls' := [(2, 1), (0, c), (0, s), (0, b)]) (st' := [(0, 0)]) (w' := w) (n' := 142) rfl ?_
    refine qG.ret rfl (by first | rfl | exact decide_eq_true (by omega)) ?_
    subst hQ9
    exact .inl ⟨fun z => isIn_b.mp hc z.1, rfl, rfl⟩
  · exfalso; exact hc0 hc
theorem K_X11_worksE {d : Nat} (hd : 2 ≤ d) (c s b : Int) (hb : 0 ≤ b ∧ b ≤ 1) (w : qW) (hI : yInv zgf zga zra zSp w) : qG none d 164 0 (qini 164 [(2, 1), (0, c), (0, s), (0, b)]) [] w 142 (fun (r : qV) (w1 : qW) (_ : Nat) => wkX c s b w r w1) := by
  have hb : b = 0 ∨ b = 1 := by omega
  by_cases h : isInV c 0 2 = 0
  · exact K_X11_works_n hd c s b h w hI
  · obtain ⟨n, rfl, h1, h2⟩ := isIn_n (by decide) h
    rcases (show n = 0 ∨ n = 1 ∨ n = 2 by omega) with rfl | rfl | rfl
    · exact K_X11_works_0 hd s b hb w hI
    · exact K_X11_works_1 hd s b hb w hI
    · exact K_X11_works_2 hd s b hb w hI
theorem K_X12_worksE {d : Nat} (hd : 2 ≤ d) (c s b : Int) (hb : 0 ≤ b ∧ b ≤ 1) (w : qW) (hI : yInv zgf zga zra zSp w) : qG none d 214 0 [(2, 95), (0, c), (0, s), (0, b)] [] w 142 (fun (r : qV) (w1 : qW) (_ : Nat) => wkR c s b w r w1) := by
  generalize hQ9 : (fun (r : qV) (w1 : qW) (_ : Nat) => wkR c s b w r w1) = Q9
  obtain ⟨d, rfl⟩ : ∃ d9, d = d9 + 1 := ⟨d - 1, by omega⟩
  refine qG.blk 1 (pc' := 1) (ls' := [(2, 95), (0, c), (0, s), (0, b)]) (st' := [(0, c)]) (w' := w) (n' := 142) rfl ?_
  refine qG.call (t := 207) (na := 1) (sk := 0) (md := 0) (ls1 := [(0, c)]) (r1 := []) rfl rfl rfl rfl rfl (K_isChest (by omega) _ _) ?_
  rintro _ w7 _ ⟨rfl, hw7, rfl⟩
  rw [hw7]
  show qG none (d + 1) 214 4 [(2, 95), (0, c), (0, s), (0, b)] [(0, isInV c 0 2)] w 142 Q9
  refine qG.br (P := isInV c 0 2 = 0) (pc1 := 14) (pc2 := 7) (st1 := []) rfl (fun h1 => ?_) (fun h1 => ?_)
  · skip
    rw [isIn_b] at h1
    refine qG.blk 1 (pc' := 15) (ls' := [(2, 95), (0, c), (0, s), (0, b)]) (st' := [(0, 0)]) (w' := w) (n' := 142) rfl ?_
    refine qG.ret rfl (by first | rfl | exact decide_eq_true (by omega)) ?_
    subst hQ9
    first | exact .inl ⟨fun z => by unfold isWk at z; omega, rfl, rfl⟩ | exact .inr ⟨⟨by omega, by omega⟩, c9, rfl, rfl, (by unfold wkN; simp (disch := decide) only [qup_ne, qup_k]; first | (rw [if_pos hb0]; done) | (rw [if_neg hb0]; done)), fun q k h h2 => by rw [qup_f h, qup_f h2]⟩
  · skip
    rw [isIn_p] at h1
    obtain ⟨c9, rfl⟩ : ∃ q : Nat, c = (q : Int) := ⟨c.toNat, by omega⟩
    refine qG.blk 1 (pc' := 8) (ls' := [(2, 95), (0, ((c9 : Nat) : Int)), (0, s), (0, b)]) (st' := [(0, s)]) (w' := w) (n' := 142) rfl ?_
    refine qG.call (t := 208) (na := 1) (sk := 0) (md := 0) (ls1 := [(0, s)]) (r1 := []) rfl rfl rfl rfl rfl (K_X12_isSpace (by omega) _ _) ?_
    rintro _ w7 _ ⟨rfl, hw7, rfl⟩
    rw [hw7]
    show qG none (d + 1) 214 11 [(2, 95), (0, ((c9 : Nat) : Int)), (0, s), (0, b)] [(0, isInV s 0 15)] w 142 Q9
    refine qG.br (P := isInV s 0 15 = 0) (pc1 := 14) (pc2 := 16) (st1 := []) rfl (fun h2 => ?_) (fun h2 => ?_)
    · skip
      rw [isIn_b] at h2
      refine qG.blk 1 (pc' := 15) (ls' := [(2, 95), (0, ((c9 : Nat) : Int)), (0, s), (0, b)]) (st' := [(0, 0)]) (w' := w) (n' := 142) rfl ?_
      refine qG.ret rfl (by first | rfl | exact decide_eq_true (by omega)) ?_
      subst hQ9
      first | exact .inl ⟨fun z => by unfold isWk at z; omega, rfl, rfl⟩ | exact .inr ⟨⟨by omega, by omega⟩, c9, rfl, rfl, (by unfold wkN; simp (disch := decide) only [qup_ne, qup_k]; first | (rw [if_pos hb0]; done) | (rw [if_neg hb0]; done)), fun q k h h2 => by rw [qup_f h, qup_f h2]⟩
    · skip
      rw [isIn_p] at h2
      refine qG.blk 5 (pc' := 25) (ls' := [(2, 95), (0, ((c9 : Nat) : Int)), (0, s), (0, b)]) (st' := [(2, w 95 0)]) (w' := (qup w 95 9 (-1))) (n' := 142) rfl ?_
      rw [show w 95 0 = 96 from zref hI rfl rfl]
      refine qG.blk 2 (pc' := 27) (ls' := [(2, 95), (0, ((c9 : Nat) : Int)), (0, s), (0, b)]) (st' := [(0, b), (0, ((c9 : Nat) : Int)), (2, 96)]) (w' := (qup w 95 9 (-1))) (n' := 142) rfl ?_
      refine qG.br (P := b = 0) (pc1 := 43) (pc2 := 30) (st1 := [(0, ((c9 : Nat) : Int)), (2, 96)]) rfl (fun hb0 => ?_) (fun hb0 => ?_)
      · skip
        refine qG.blk 2 (pc' := 47) (ls' := [(2, 95), (0, ((c9 : Nat) : Int)), (0, s), (0, b)]) (st' := [(2, w 95 0), (0, ((c9 : Nat) : Int)), (2, 96)]) (w' := (qup w 95 9 (-1))) (n' := 142) rfl ?_
        rw [show w 95 0 = 96 from zref hI rfl rfl]
        refine qG.blk 1 (pc' := 48) (ls' := [(2, 95), (0, ((c9 : Nat) : Int)), (0, s), (0, b)]) (st' := [(0, ((c9 : Nat) : Int)), (2, 96), (0, ((c9 : Nat) : Int)), (2, 96)]) (w' := (qup w 95 9 (-1))) (n' := 142) rfl ?_
        refine qG.ar (P := 0 ≤ ((c9 : Nat) : Int) ∧ ((c9 : Nat) : Int) < ((3 : Nat) : Int)) (P2 := 0 < (96 : Int) ∧ (96 : Int) ≤ ((142 : Nat) : Int)) (pc' := 49) (ls' := [(2, 95), (0, ((c9 : Nat) : Int)), (0, s), (0, b)]) (st' := [(0, w 96 c9), (0, ((c9 : Nat) : Int)), (2, 96)]) (w' := (qup w 95 9 (-1))) (n' := 142) rfl (by omega) (by decide) ?_
        refine qG.blk 6 (pc' := 55) (ls' := [(2, 95), (0, ((c9 : Nat) : Int)), (0, s), (0, b)]) (st' := [(0, qand (w 96 c9) (qxor (qshl 1 s) (-1))), (0, ((c9 : Nat) : Int)), (2, 96)]) (w' := (qup w 95 9 (-1))) (n' := 142) rfl ?_
        refine qG.ar (P := 0 ≤ ((c9 : Nat) : Int) ∧ ((c9 : Nat) : Int) < ((3 : Nat) : Int)) (P2 := 0 < (96 : Int) ∧ (96 : Int) ≤ ((142 : Nat) : Int)) (pc' := 56) (ls' := [(2, 95), (0, ((c9 : Nat) : Int)), (0, s), (0, b)]) (st' := []) (w' := (qup (qup w 95 9 (-1)) 96 c9 (qand (w 96 c9) (qxor (qshl 1 s) (-1))))) (n' := 142) rfl (by omega) (by decide) ?_
        refine qG.blk 1 (pc' := 57) (ls' := [(2, 95), (0, ((c9 : Nat) : Int)), (0, s), (0, b)]) (st' := [(0, 1)]) (w' := (qup (qup w 95 9 (-1)) 96 c9 (qand (w 96 c9) (qxor (qshl 1 s) (-1))))) (n' := 142) rfl ?_
        refine qG.ret rfl (by first | rfl | exact decide_eq_true (by omega)) ?_
        subst hQ9
        first | exact .inl ⟨fun z => by unfold isWk at z; omega, rfl, rfl⟩ | exact .inr ⟨⟨by omega, by omega⟩, c9, rfl, rfl, (by unfold wkN; simp (disch := decide) only [qup_ne, qup_k]; first | (rw [if_pos hb0]; done) | (rw [if_neg hb0]; done)), fun q k h h2 => by rw [qup_f h, qup_f h2]⟩
      · skip
        refine qG.blk 2 (pc' := 34) (ls' := [(2, 95), (0, ((c9 : Nat) : Int)), (0, s), (0, b)]) (st' := [(2, w 95 0), (0, ((c9 : Nat) : Int)), (2, 96)]) (w' := (qup w 95 9 (-1))) (n' := 142) rfl ?_
        rw [show w 95 0 = 96 from zref hI rfl rfl]
        refine qG.blk 1 (pc' := 35) (ls' := [(2, 95), (0, ((c9 : Nat) : Int)), (0, s), (0, b)]) (st' := [(0, ((c9 : Nat) : Int)), (2, 96), (0, ((c9 : Nat) : Int)), (2, 96)]) (w' := (qup w 95 9 (-1))) (n' := 142) rfl ?_
        refine qG.ar (P := 0 ≤ ((c9 : Nat) : Int) ∧ ((c9 : Nat) : Int) < ((3 : Nat) : Int)) (P2 := 0 < (96 : Int) ∧ (96 : Int) ≤ ((142 : Nat) : Int)) (pc' := 36) (ls' := [(2, 95), (0, ((c9 : Nat) : Int)), (0, s), (0, b)]) (st' := [(0, w 96 c9), (0, ((c9 : Nat) : Int)), (2, 96)]) (w' := (qup w 95 9 (-1))) (n' := 142) rfl (by omega) (by decide) ?_
        refine qG.blk 5 (pc' := 55) (ls' := [(2, 95), (0, ((c9 : Nat) : Int)), (0, s), (0, b)]) (st' := [(0, qor (w 96 c9) (qshl 1 s)), (0, ((c9 : Nat) : Int)), (2, 96)]) (w' := (qup w 95 9 (-1))) (n' := 142) rfl ?_
        refine qG.ar (P := 0 ≤ ((c9 : Nat) : Int) ∧ ((c9 : Nat) : Int) < ((3 : Nat) : Int)) (P2 := 0 < (96 : Int) ∧ (96 : Int) ≤ ((142 : Nat) : Int)) (pc' := 56) (ls' := [(2, 95), (0, ((c9 : Nat) : Int)), (0, s), (0, b)]) (st' := []) (w' := (qup (qup w 95 9 (-1)) 96 c9 (qor (w 96 c9) (qshl 1 s)))) (n' := 142) rfl (by omega) (by decide) ?_
        refine qG.blk 1 (pc' := 57) (ls' := [(2, 95), (0, ((c9 : Nat) : Int)), (0, s), (0, b)]) (st' := [(0, 1)]) (w' := (qup (qup w 95 9 (-1)) 96 c9 (qor (w 96 c9) (qshl 1 s)))) (n' := 142) rfl ?_
        refine qG.ret rfl (by first | rfl | exact decide_eq_true (by omega)) ?_
        subst hQ9
        first | exact .inl ⟨fun z => by unfold isWk at z; omega, rfl, rfl⟩ | exact .inr ⟨⟨by omega, by omega⟩, c9, rfl, rfl, (by unfold wkN; simp (disch := decide) only [qup_ne, qup_k]; first | (rw [if_pos hb0]; done) | (rw [if_neg hb0]; done)), fun q k h h2 => by rw [qup_f h, qup_f h2]⟩
noncomputable def drX (c d1 s v b : Int) (w : qW) (r : qV) (w1 : qW) : Prop := (doorV c d1 s v = 0 ∧ r = (0, 0) ∧ w1 = w) ∨ (doorV c d1 s v = 1 ∧ r = (0, 1) ∧ ∃ c9 d9 : Nat, c = (c9 : Int) ∧ d1 = (d9 : Int) ∧ c9 < 3 ∧ d9 < 10 ∧ (∀ k, w1 (67 + 5 * c9) k = if k = d9 then v else w (67 + 5 * c9) k) ∧ (∀ k, w1 (68 + 5 * c9) k = if k = d9 then b else w (68 + 5 * c9) k) ∧ ∀ q k, q ≠ 66 + 5 * c9 → q ≠ 67 + 5 * c9 → q ≠ 68 + 5 * c9 → w1 q k = w q k)
noncomputable def drR (c d1 s v b : Int) (w : qW) (r : qV) (w1 : qW) : Prop := (doorV c d1 s v = 0 ∧ r = (0, 0) ∧ w1 = w) ∨ (doorV c d1 s v = 1 ∧ r = (0, 1) ∧ ∃ c9 d9 : Nat, c = (c9 : Int) ∧ d1 = (d9 : Int) ∧ c9 < 3 ∧ d9 < 10 ∧ (∀ k, w1 98 k = if k = 10 * c9 + d9 then v else w 98 k) ∧ (∀ k, w1 100 k = if k = 10 * c9 + d9 then b else w 100 k) ∧ ∀ q k, q ≠ 97 → q ≠ 98 → q ≠ 100 → w1 q k = w q k)
noncomputable def JD (w : qW) : Prop := ∀ c : Nat, c < 3 → w (64 + 5 * c) 0 = w 96 c ∧ ∀ d : Nat, d < 10 → w (67 + 5 * c) d = w 98 (10 * c + d) ∧ w (68 + 5 * c) d = w 100 (10 * c + d)
noncomputable def jdM (m : List Nat) : Bool := spo m 67 && (spo m 68 && (spo m 72 && (spo m 73 && (spo m 77 && (spo m 78 && (spo m 96 && (spo m 98 && (spo m 100 && (!ymo 64 0 m && (!ymo 69 0 m && !ymo 74 0 m))))))))))
theorem JD.aw {m : List Nat} {w w1 : qW} (h : JD w) (a : AW m w w1) (hm : jdM m = true) : JD w1 := by
  unfold jdM at hm
  simp only [Bool.and_eq_true, Bool.not_eq_true'] at hm
  obtain ⟨m67, m68, m72, m73, m77, m78, m96, m98, m100, n64, n69, n74⟩ := hm
  intro c hc
  have h0 := h c hc
  rw [a.a (by decide) m96]
  refine ⟨?_, fun d hd => ?_⟩
  · rw [← h0.1]
    rcases (show c = 0 ∨ c = 1 ∨ c = 2 by omega) with rfl | rfl | rfl
    · exact a.2 64 0 (fun _ => n64)
    · exact a.2 69 0 (fun _ => n69)
    · exact a.2 74 0 (fun _ => n74)
  · rw [a.a (by decide) m98, a.a (by decide) m100, ← (h0.2 d hd).1, ← (h0.2 d hd).2]
    rcases (show c = 0 ∨ c = 1 ∨ c = 2 by omega) with rfl | rfl | rfl
    · exact ⟨a.a (p := 67) (by decide) m67 d, a.a (p := 68) (by decide) m68 d⟩
    · exact ⟨a.a (p := 72) (by decide) m72 d, a.a (p := 73) (by decide) m73 d⟩
    · exact ⟨a.a (p := 77) (by decide) m77 d, a.a (p := 78) (by decide) m78 d⟩
theorem JD.works {w w1 w2 : qW} {c s b : Int} {r r2 : qV} (h : JD w) (hX : wkX c s b w r w1) (hR : wkR c s b w1 r2 w2) : JD w2 ∧ r = r2 := by
  rcases hX with ⟨c1, rfl, rfl⟩ | ⟨c1, c9, ec, rfl, x1, x2⟩
  · rcases hR with ⟨c2, rfl, rfl⟩ | ⟨c2, -⟩
    · exact ⟨h, rfl⟩
    · exact absurd c2 c1
  · rcases hR with ⟨c2, -⟩ | ⟨-, c8, ec2, rfl, y1, y2⟩
    · exact absurd c1 c2
    · obtain rfl : c8 = c9 := by omega
      unfold isWk at c1
      refine ⟨fun c' hc' => ?_, rfl⟩
      have h0 := h c' hc'
      have e64 : w2 (64 + 5 * c') 0 = w1 (64 + 5 * c') 0 := y2 _ _ (by omega) (by omega)
      have e96 : w1 96 c' = w 96 c' := x2 _ _ (by omega)
      refine ⟨?_, fun d hd => ?_⟩
      · rw [e64]
        by_cases e : c' = c8
        · subst e
          rw [x1, y1, e96, h0.1]
        · rw [x2 _ _ (by omega), y2 96 c' (by omega) (by omega), e96]
          exact h0.1
      · rw [y2 (67 + 5 * c') d (by omega) (by omega), x2 (67 + 5 * c') d (by omega), y2 98 _ (by omega) (by omega), x2 98 _ (by omega), y2 (68 + 5 * c') d (by omega) (by omega), x2 (68 + 5 * c') d (by omega), y2 100 _ (by omega) (by omega), x2 100 _ (by omega)]
        exact h0.2 d hd
theorem JD.door {w w1 w2 : qW} {c d1 s v b : Int} {r r2 : qV} (h : JD w) (hX : drX c d1 s v b w r w1) (hR : drR c d1 s v b w1 r2 w2) : JD w2 ∧ r = r2 := by
  rcases hX with ⟨c1, rfl, rfl⟩ | ⟨c1, rfl, c9, d9, ec, ed, hc9, hd9, x1, x2, x3⟩
  · rcases hR with ⟨c2, rfl, rfl⟩ | ⟨c2, -⟩
    · exact ⟨h, rfl⟩
    · omega
  · rcases hR with ⟨c2, -⟩ | ⟨-, rfl, c8, d8, ec2, ed2, -, -, y1, y2, y3⟩
    · omega
    · obtain rfl : c8 = c9 := by omega
      obtain rfl : d8 = d9 := by omega
      refine ⟨fun c' hc' => ?_, rfl⟩
      have h0 := h c' hc'
      refine ⟨?_, fun d hd => ?_⟩
      · rw [y3 (64 + 5 * c') 0 (by omega) (by omega) (by omega), x3 (64 + 5 * c') 0 (by omega) (by omega) (by omega), y3 96 c' (by decide) (by decide) (by decide), x3 96 c' (by omega) (by omega) (by omega)]
        exact h0.1
      · have z := h0.2 d hd
        rw [y3 (67 + 5 * c') d (by omega) (by omega) (by omega), y3 (68 + 5 * c') d (by omega) (by omega) (by omega), y1, y2, x3 98 _ (by omega) (by omega) (by omega), x3 100 _ (by omega) (by omega) (by omega)]
        by_cases e : c' = c8
        · subst e
          rw [x1, x2]
          by_cases e2 : d = d8
          · rw [if_pos e2, if_pos e2, if_pos (by omega), if_pos (by omega)]; exact ⟨rfl, rfl⟩
          · rw [if_neg e2, if_neg e2, if_neg (by omega), if_neg (by omega)]; exact z
        · rw [x3 (67 + 5 * c') d (by omega) (by omega) (by omega), x3 (68 + 5 * c') d (by omega) (by omega) (by omega), if_neg (by omega), if_neg (by omega)]
          exact z
