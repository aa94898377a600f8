/-! the chests' works and doors on both sides; air -/
def wkN (v s b : Int) : Int := if b = 0 then qand v (qxor (qshl 1 s) (-1)) else qor v (qshl 1 s)
def isWk (c s : Int) : Prop := (0 ≤ c ∧ c ≤ 2) ∧ 0 ≤ s ∧ s ≤ 15
def pwE (p : Nat) (s b : Int) (w : qW) (r : qV) (w1 : qW) : Prop := (¬ (0 ≤ s ∧ s ≤ 15) ∧ r = (0, 0) ∧ w1 = w) ∨ ((0 ≤ s ∧ s ≤ 15) ∧ r = (0, 1) ∧ w1 p 0 = wkN (w p 0) s b ∧ ∀ q k, ¬ (q = p ∧ (k = 0 ∨ k = 1)) → w1 q k = w q k)
def wkX (c s b : Int) (w : qW) (r : qV) (w1 : qW) : Prop := (¬ isWk c s ∧ r = (0, 0) ∧ w1 = w) ∨ (isWk c s ∧ ∃ c9 : Nat, c = (c9 : Int) ∧ r = (0, 1) ∧ w1 (64 + 5 * c9) 0 = wkN (w (64 + 5 * c9) 0) s b ∧ ∀ q k, ¬ (q = 64 + 5 * c9 ∧ (k = 0 ∨ k = 1)) → w1 q k = w q k)
def wkR (c s b : Int) (w : qW) (r : qV) (w1 : qW) : Prop := (¬ isWk c s ∧ r = (0, 0) ∧ w1 = w) ∨ (isWk c s ∧ ∃ c9 : Nat, c = (c9 : Int) ∧ r = (0, 1) ∧ w1 96 c9 = wkN (w 96 c9) s b ∧ ∀ q k, ¬ (q = 96 ∧ k = c9) → ¬ (q = 95 ∧ k = 9) → w1 q k = w q k)
theorem K_putWorks64 {d : Nat} (hd : 1 ≤ d) (s b : Int) (hb : b = 0 ∨ b = 1) (w : qW) (hI : yInv zgf zga zra zSp w) : qG none d 20 0 [(2, 64), (0, s), (0, b)] [] w 142 (fun (r : qV) (w1 : qW) (n1 : Nat) => n1 = 142 ∧ pwE 64 s b w r w1) := by
  generalize hQ9 : (fun (r : qV) (w1 : qW) (n1 : Nat) => n1 = 142 ∧ pwE 64 s b w r w1) = Q9
  obtain ⟨d, rfl⟩ : ∃ d9, d = d9 + 1 := ⟨d - 1, by omega⟩
  refine qG.blk 1 (pc' := 1) (ls' := [(2, 64), (0, s), (0, b)]) (st' := [(0, s)]) (w' := w) (n' := 142) rfl ?_
  refine qG.call (t := 19) (na := 1) (sk := 0) (md := 0) (ls1 := [(0, s)]) (r1 := []) rfl rfl rfl rfl rfl (K_X2_isSpace (Nat.zero_le _) _ _) ?_
  rintro _ w7 _ ⟨rfl, hw7, rfl⟩
  rw [hw7]
  show qG none (d + 1) 20 4 [(2, 64), (0, s), (0, b)] [(0, isInV s 0 15)] w 142 Q9
  refine qG.br (P := isInV s 0 15 = 0) (pc1 := 7) (pc2 := 9) (st1 := []) rfl (fun h1 => ?_) (fun h1 => ?_)
  · skip
    rw [isIn_b] at h1
    refine qG.blk 1 (pc' := 8) (ls' := [(2, 64), (0, s), (0, b)]) (st' := [(0, 0)]) (w' := w) (n' := 142) rfl ?_
    refine qG.ret rfl (by first | rfl | exact decide_eq_true (by omega)) ?_
    subst hQ9
    refine ⟨rfl, ?_⟩; first | exact .inl ⟨h1, rfl, rfl⟩ | exact .inr ⟨h1, rfl, (by unfold wkN; simp (disch := decide) only [qup_j, qup_k]; first | (rw [if_pos hb0]; done) | (rw [if_neg hb0]; done)), (fun q k h => by first | (rw [qup_f (fun z => h ⟨z.1, .inr z.2⟩), qup_f (fun z => h ⟨z.1, .inl z.2⟩)]; done))⟩
  · skip
    rw [isIn_p] at h1
    refine qG.blk 2 (pc' := 11) (ls' := [(2, 64), (0, s), (0, b)]) (st' := [(0, b), (2, 64)]) (w' := w) (n' := 142) rfl ?_
    refine qG.br (P := b = 0) (pc1 := 25) (pc2 := 14) (st1 := [(2, 64)]) rfl (fun hb0 => ?_) (fun hb0 => ?_)
    · skip
      refine qG.blk 12 (pc' := 43) (ls' := [(2, 64), (0, s), (0, b)]) (st' := [(0, w 64 1), (2, 64)]) (w' := (qup w 64 0 (qand (w 64 0) (qxor (qshl 1 s) (-1))))) (n' := 142) rfl ?_
      refine qG.blk 2 (pc' := 45) (ls' := [(2, 64), (0, s), (0, b)]) (st' := [(0, wrp ((w 64 1) + 1)), (2, 64)]) (w' := (qup w 64 0 (qand (w 64 0) (qxor (qshl 1 s) (-1))))) (n' := 142) rfl ?_
      refine qG.blk 2 (pc' := 49) (ls' := [(2, 64), (0, s), (0, b)]) (st' := [(0, 1)]) (w' := (qup (qup w 64 0 (qand (w 64 0) (qxor (qshl 1 s) (-1)))) 64 1 (wrp ((w 64 1) + 1)))) (n' := 142) rfl ?_
      refine qG.ret rfl (by first | rfl | exact decide_eq_true (by omega)) ?_
      subst hQ9
      refine ⟨rfl, ?_⟩; first | exact .inl ⟨h1, rfl, rfl⟩ | exact .inr ⟨h1, rfl, (by unfold wkN; simp (disch := decide) only [qup_j, qup_k]; first | (rw [if_pos hb0]; done) | (rw [if_neg hb0]; done)), (fun q k h => by first | (rw [qup_f (fun z => h ⟨z.1, .inr z.2⟩), qup_f (fun z => h ⟨z.1, .inl z.2⟩)]; done))⟩
    · skip
      refine qG.blk 12 (pc' := 44) (ls' := [(2, 64), (0, s), (0, b)]) (st' := [(0, 1), (0, w 64 1), (2, 64)]) (w' := (qup w 64 0 (qor (w 64 0) (qshl 1 s)))) (n' := 142) rfl ?_
      refine qG.blk 1 (pc' := 45) (ls' := [(2, 64), (0, s), (0, b)]) (st' := [(0, wrp ((w 64 1) + 1)), (2, 64)]) (w' := (qup w 64 0 (qor (w 64 0) (qshl 1 s)))) (n' := 142) rfl ?_
      refine qG.blk 2 (pc' := 49) (ls' := [(2, 64), (0, s), (0, b)]) (st' := [(0, 1)]) (w' := (qup (qup w 64 0 (qor (w 64 0) (qshl 1 s))) 64 1 (wrp ((w 64 1) + 1)))) (n' := 142) rfl ?_
      refine qG.ret rfl (by first | rfl | exact decide_eq_true (by omega)) ?_
      subst hQ9
      refine ⟨rfl, ?_⟩; first | exact .inl ⟨h1, rfl, rfl⟩ | exact .inr ⟨h1, rfl, (by unfold wkN; simp (disch := decide) only [qup_j, qup_k]; first | (rw [if_pos hb0]; done) | (rw [if_neg hb0]; done)), (fun q k h => by first | (rw [qup_f (fun z => h ⟨z.1, .inr z.2⟩), qup_f (fun z => h ⟨z.1, .inl z.2⟩)]; done))⟩
theorem K_putWorks69 {d : Nat} (hd : 1 ≤ d) (s b : Int) (hb : b = 0 ∨ b = 1) (w : qW) (hI : yInv zgf zga zra zSp w) : qG none d 20 0 [(2, 69), (0, s), (0, b)] [] w 142 (fun (r : qV) (w1 : qW) (n1 : Nat) => n1 = 142 ∧ pwE 69 s b w r w1) := by
  generalize hQ9 : (fun (r : qV) (w1 : qW) (n1 : Nat) => n1 = 142 ∧ pwE 69 s b w r w1) = Q9
  obtain ⟨d, rfl⟩ : ∃ d9, d = d9 + 1 := ⟨d - 1, by omega⟩
  refine qG.blk 1 (pc' := 1) (ls' := [(2, 69), (0, s), (0, b)]) (st' := [(0, s)]) (w' := w) (n' := 142) rfl ?_
  refine qG.call (t := 19) (na := 1) (sk := 0) (md := 0) (ls1 := [(0, s)]) (r1 := []) rfl rfl rfl rfl rfl (K_X2_isSpace (Nat.zero_le _) _ _) ?_
  rintro _ w7 _ ⟨rfl, hw7, rfl⟩
  rw [hw7]
  show qG none (d + 1) 20 4 [(2, 69), (0, s), (0, b)] [(0, isInV s 0 15)] w 142 Q9
  refine qG.br (P := isInV s 0 15 = 0) (pc1 := 7) (pc2 := 9) (st1 := []) rfl (fun h1 => ?_) (fun h1 => ?_)
  · skip
    rw [isIn_b] at h1
    refine qG.blk 1 (pc' := 8) (ls' := [(2, 69), (0, s), (0, b)]) (st' := [(0, 0)]) (w' := w) (n' := 142) rfl ?_
    refine qG.ret rfl (by first | rfl | exact decide_eq_true (by omega)) ?_
    subst hQ9
    refine ⟨rfl, ?_⟩; first | exact .inl ⟨h1, rfl, rfl⟩ | exact .inr ⟨h1, rfl, (by unfold wkN; simp (disch := decide) only [qup_j, qup_k]; first | (rw [if_pos hb0]; done) | (rw [if_neg hb0]; done)), (fun q k h => by first | (rw [qup_f (fun z => h ⟨z.1, .inr z.2⟩), qup_f (fun z => h ⟨z.1, .inl z.2⟩)]; done))⟩
  · skip
    rw [isIn_p] at h1
    refine qG.blk 2 (pc' := 11) (ls' := [(2, 69), (0, s), (0, b)]) (st' := [(0, b), (2, 69)]) (w' := w) (n' := 142) rfl ?_
    refine qG.br (P := b = 0) (pc1 := 25) (pc2 := 14) (st1 := [(2, 69)]) rfl (fun hb0 => ?_) (fun hb0 => ?_)
    · skip
      refine qG.blk 12 (pc' := 43) (ls' := [(2, 69), (0, s), (0, b)]) (st' := [(0, w 69 1), (2, 69)]) (w' := (qup w 69 0 (qand (w 69 0) (qxor (qshl 1 s) (-1))))) (n' := 142) rfl ?_
      refine qG.blk 2 (pc' := 45) (ls' := [(2, 69), (0, s), (0, b)]) (st' := [(0, wrp ((w 69 1) + 1)), (2, 69)]) (w' := (qup w 69 0 (qand (w 69 0) (qxor (qshl 1 s) (-1))))) (n' := 142) rfl ?_
      refine qG.blk 2 (pc' := 49) (ls' := [(2, 69), (0, s), (0, b)]) (st' := [(0, 1)]) (w' := (qup (qup w 69 0 (qand (w 69 0) (qxor (qshl 1 s) (-1)))) 69 1 (wrp ((w 69 1) + 1)))) (n' := 142) rfl ?_
      refine qG.ret rfl (by first | rfl | exact decide_eq_true (by omega)) ?_
      subst hQ9
      refine ⟨rfl, ?_⟩; first | exact .inl ⟨h1, rfl, rfl⟩ | exact .inr ⟨h1, rfl, (by unfold wkN; simp (disch := decide) only [qup_j, qup_k]; first | (rw [if_pos hb0]; done) | (rw [if_neg hb0]; done)), (fun q k h => by first | (rw [qup_f (fun z => h ⟨z.1, .inr z.2⟩), qup_f (fun z => h ⟨z.1, .inl z.2⟩)]; done))⟩
    · skip
      refine qG.blk 12 (pc' := 44) (ls' := [(2, 69), (0, s), (0, b)]) (st' := [(0, 1), (0, w 69 1), (2, 69)]) (w' := (qup w 69 0 (qor (w 69 0) (qshl 1 s)))) (n' := 142) rfl ?_
      refine qG.blk 1 (pc' := 45) (ls' := [(2, 69), (0, s), (0, b)]) (st' := [(0, wrp ((w 69 1) + 1)), (2, 69)]) (w' := (qup w 69 0 (qor (w 69 0) (qshl 1 s)))) (n' := 142) rfl ?_
      refine qG.blk 2 (pc' := 49) (ls' := [(2, 69), (0, s), (0, b)]) (st' := [(0, 1)]) (w' := (qup (qup w 69 0 (qor (w 69 0) (qshl 1 s))) 69 1 (wrp ((w 69 1) + 1)))) (n' := 142) rfl ?_
      refine qG.ret rfl (by first | rfl | exact decide_eq_true (by omega)) ?_
      subst hQ9
      refine ⟨rfl, ?_⟩; first | exact .inl ⟨h1, rfl, rfl⟩ | exact .inr ⟨h1, rfl, (by unfold wkN; simp (disch := decide) only [qup_j, qup_k]; first | (rw [if_pos hb0]; done) | (rw [if_neg hb0]; done)), (fun q k h => by first | (rw [qup_f (fun z => h ⟨z.1, .inr z.2⟩), qup_f (fun z => h ⟨z.1, .inl z.2⟩)]; done))⟩
theorem K_putWorks74 {d : Nat} (hd : 1 ≤ d) (s b : Int) (hb : b = 0 ∨ b = 1) (w : qW) (hI : yInv zgf zga zra zSp w) : qG none d 20 0 [(2, 74), (0, s), (0, b)] [] w 142 (fun (r : qV) (w1 : qW) (n1 : Nat) => n1 = 142 ∧ pwE 74 s b w r w1) := by
  generalize hQ9 : (fun (r : qV) (w1 : qW) (n1 : Nat) => n1 = 142 ∧ pwE 74 s b w r w1) = Q9
  obtain ⟨d, rfl⟩ : ∃ d9, d = d9 + 1 := ⟨d - 1, by omega⟩
  refine qG.blk 1 (pc' := 1) (ls' := [(2, 74), (0, s), (0, b)]) (st' := [(0, s)]) (w' := w) (n' := 142) rfl ?_
  refine qG.call (t := 19) (na := 1) (sk := 0) (md := 0) (ls1 := [(0, s)]) (r1 := []) rfl rfl rfl rfl rfl (K_X2_isSpace (Nat.zero_le _) _ _) ?_
  rintro _ w7 _ ⟨rfl, hw7, rfl⟩
  rw [hw7]
  show qG none (d + 1) 20 4 [(2, 74), (0, s), (0, b)] [(0, isInV s 0 15)] w 142 Q9
  refine qG.br (P := isInV s 0 15 = 0) (pc1 := 7) (pc2 := 9) (st1 := []) rfl (fun h1 => ?_) (fun h1 => ?_)
  · skip
    rw [isIn_b] at h1
    refine qG.blk 1 (pc' := 8) (ls' := [(2, 74), (0, s), (0, b)]) (st' := [(0, 0)]) (w' := w) (n' := 142) rfl ?_
    refine qG.ret rfl (by first | rfl | exact decide_eq_true (by omega)) ?_
    subst hQ9
    refine ⟨rfl, ?_⟩; first | exact .inl ⟨h1, rfl, rfl⟩ | exact .inr ⟨h1, rfl, (by unfold wkN; simp (disch := decide) only [qup_j, qup_k]; first | (rw [if_pos hb0]; done) | (rw [if_neg hb0]; done)), (fun q k h => by first | (rw [qup_f (fun z => h ⟨z.1, .inr z.2⟩), qup_f (fun z => h ⟨z.1, .inl z.2⟩)]; done))⟩
  · skip
    rw [isIn_p] at h1
    refine qG.blk 2 (pc' := 11) (ls' := [(2, 74), (0, s), (0, b)]) (st' := [(0, b), (2, 74)]) (w' := w) (n' := 142) rfl ?_
    refine qG.br (P := b = 0) (pc1 := 25) (pc2 := 14) (st1 := [(2, 74)]) rfl (fun hb0 => ?_) (fun hb0 => ?_)
    · skip
      refine qG.blk 12 (pc' := 43) (ls' := [(2, 74), (0, s), (0, b)]) (st' := [(0, w 74 1), (2, 74)]) (w' := (qup w 74 0 (qand (w 74 0) (qxor (qshl 1 s) (-1))))) (n' := 142) rfl ?_
      refine qG.blk 2 (pc' := 45) (ls' := [(2, 74), (0, s), (0, b)]) (st' := [(0, wrp ((w 74 1) + 1)), (2, 74)]) (w' := (qup w 74 0 (qand (w 74 0) (qxor (qshl 1 s) (-1))))) (n' := 142) rfl ?_
      refine qG.blk 2 (pc' := 49) (ls' := [(2, 74), (0, s), (0, b)]) (st' := [(0, 1)]) (w' := (qup (qup w 74 0 (qand (w 74 0) (qxor (qshl 1 s) (-1)))) 74 1 (wrp ((w 74 1) + 1)))) (n' := 142) rfl ?_
      refine qG.ret rfl (by first | rfl | exact decide_eq_true (by omega)) ?_
      subst hQ9
      refine ⟨rfl, ?_⟩; first | exact .inl ⟨h1, rfl, rfl⟩ | exact .inr ⟨h1, rfl, (by unfold wkN; simp (disch := decide) only [qup_j, qup_k]; first | (rw [if_pos hb0]; done) | (rw [if_neg hb0]; done)), (fun q k h => by first | (rw [qup_f (fun z => h ⟨z.1, .inr z.2⟩), qup_f (fun z => h ⟨z.1, .inl z.2⟩)]; done))⟩
    · skip
      refine qG.blk 12 (pc' := 44) (ls' := [(2, 74), (0, s), (0, b)]) (st' := [(0, 1), (0, w 74 1), (2, 74)]) (w' := (qup w 74 0 (qor (w 74 0) (qshl 1 s)))) (n' := 142) rfl ?_
      refine qG.blk 1 (pc' := 45) (ls' := [(2, 74), (0, s), (0, b)]) (st' := [(0, wrp ((w 74 1) + 1)), (2, 74)]) (w' := (qup w 74 0 (qor (w 74 0) (qshl 1 s)))) (n' := 142) rfl ?_
      refine qG.blk 2 (pc' := 49) (ls' := [(2, 74), (0, s), (0, b)]) (st' := [(0, 1)]) (w' := (qup (qup w 74 0 (qor (w 74 0) (qshl 1 s))) 74 1 (wrp ((w 74 1) + 1)))) (n' := 142) rfl ?_
      refine qG.ret rfl (by first | rfl | exact decide_eq_true (by omega)) ?_
      subst hQ9
      refine ⟨rfl, ?_⟩; first | exact .inl ⟨h1, rfl, rfl⟩ | exact .inr ⟨h1, rfl, (by unfold wkN; simp (disch := decide) only [qup_j, qup_k]; first | (rw [if_pos hb0]; done) | (rw [if_neg hb0]; done)), (fun q k h => by first | (rw [qup_f (fun z => h ⟨z.1, .inr z.2⟩), qup_f (fun z => h ⟨z.1, .inl z.2⟩)]; done))⟩
theorem K_X11_works_0 {d : Nat} (hd : 2 ≤ d) (s b : Int) (hb : b = 0 ∨ b = 1) (w : qW) (hI : yInv zgf zga zra zSp w) : qG none d 164 0 [(2, 1), (0, 0), (0, s), (0, b)] [] w 142 (fun (r : qV) (w1 : qW) (_ : Nat) => wkX 0 s b w r w1) := by
  generalize hQ9 : (fun (r : qV) (w1 : qW) (_ : Nat) => wkX 0 s b w r w1) = Q9
  obtain ⟨d, rfl⟩ : ∃ d9, d = d9 + 1 := ⟨d - 1, by omega⟩
  refine qG.blk 1 (pc' := 1) (ls' := [(2, 1), (0, 0), (0, s), (0, b)]) (st' := [(0, 0)]) (w' := w) (n' := 142) rfl ?_
  refine qG.call (t := 198) (na := 1) (sk := 0) (md := 0) (ls1 := [(0, 0)]) (r1 := []) rfl rfl rfl rfl rfl (K_X11_isChest (Nat.zero_le _) _ _) ?_
  rintro _ w7 _ ⟨rfl, hw7, rfl⟩
  rw [hw7, show isInV 0 0 2 = 1 from by decide]
  show qG none (d + 1) 164 4 [(2, 1), (0, 0), (0, s), (0, b)] [(0, 1)] w 142 Q9
  refine qG.br (P := (1 : Int) = 0) (pc1 := 25) (pc2 := 7) (st1 := []) rfl (fun h1 => ?_) (fun h1 => ?_)
  · exact absurd h1 (by decide)
  · skip
    refine qG.blk 2 (pc' := 11) (ls' := [(2, 1), (0, 0), (0, s), (0, b)]) (st' := [(2, w 1 0)]) (w' := w) (n' := 142) rfl ?_
    rw [show w 1 0 = 2 from zref hI rfl rfl]
    refine qG.blk 1 (pc' := 12) (ls' := [(2, 1), (0, 0), (0, s), (0, b)]) (st' := [(0, 0), (2, 2)]) (w' := w) (n' := 142) rfl ?_
    refine qG.ar (P := 0 ≤ 0 ∧ 0 < ((3 : Nat) : Int)) (P2 := 0 < (2 : Int) ∧ (2 : Int) ≤ ((142 : Nat) : Int)) (pc' := 13) (ls' := [(2, 1), (0, 0), (0, s), (0, b)]) (st' := [(2, w 2 0)]) (w' := w) (n' := 142) rfl (by omega) (by decide) ?_
    rw [show w 2 0 = 64 from zref hI rfl rfl]
    refine qG.blk 2 (pc' := 15) (ls' := [(2, 1), (0, 0), (0, s), (0, b)]) (st' := [(0, b), (0, s), (2, 64)]) (w' := w) (n' := 142) rfl ?_
    refine qG.call (t := 20) (na := 3) (sk := 1) (md := 1) (ls1 := [(2, 64), (0, s), (0, b)]) (r1 := []) rfl rfl rfl rfl rfl (K_putWorks64 (by omega) s b hb w hI) ?_
    rintro ⟨_, x9⟩ w1 _ ⟨rfl, hE⟩; rcases hE with ⟨h9, hx9, hw1⟩ | ⟨h9, hx9, hE⟩ <;> obtain ⟨rfl, rfl⟩ := Prod.mk.inj hx9
    · skip
      show qG none (d + 1) 164 18 [(2, 1), (0, 0), (0, s), (0, b)] [(0, 0)] w1 142 Q9
      refine qG.br (P := (0 : Int) = 0) (pc1 := 25) (pc2 := 21) (st1 := []) rfl (fun h2 => ?_) (fun h2 => ?_)
      · skip
        refine qG.blk 1 (pc' := 26) (ls' := [(2, 1), (0, 0), (0, s), (0, b)]) (st' := [(0, 0)]) (w' := w1) (n' := 142) rfl ?_
        refine qG.ret rfl (by first | rfl | exact decide_eq_true (by omega)) ?_
        subst hQ9
        first | exact .inl ⟨fun z => h9 z.2, rfl, hw1⟩ | exact .inr ⟨⟨by decide, h9⟩, 0, rfl, rfl, hE⟩
      · exact absurd h2 (by decide)
    · skip
      show qG none (d + 1) 164 18 [(2, 1), (0, 0), (0, s), (0, b)] [(0, 1)] w1 142 Q9
      refine qG.br (P := (1 : Int) = 0) (pc1 := 25) (pc2 := 21) (st1 := []) rfl (fun h3 => ?_) (fun h3 => ?_)
      · exact absurd h3 (by decide)
      · skip
        refine qG.blk 2 (pc' := 26) (ls' := [(2, 1), (0, 0), (0, s), (0, b)]) (st' := [(0, 1)]) (w' := w1) (n' := 142) rfl ?_
        refine qG.ret rfl (by first | rfl | exact decide_eq_true (by omega)) ?_
        subst hQ9
        first | exact .inl ⟨fun z => h9 z.2, rfl, hw1⟩ | exact .inr ⟨⟨by decide, h9⟩, 0, rfl, rfl, hE⟩
theorem K_X11_works_1 {d : Nat} (hd : 2 ≤ d) (s b : Int) (hb : b = 0 ∨ b = 1) (w : qW) (hI : yInv zgf zga zra zSp w) : qG none d 164 0 [(2, 1), (0, 1), (0, s), (0, b)] [] w 142 (fun (r : qV) (w1 : qW) (_ : Nat) => wkX 1 s b w r w1) := by
  generalize hQ9 : (fun (r : qV) (w1 : qW) (_ : Nat) => wkX 1 s b w r w1) = Q9
  obtain ⟨d, rfl⟩ : ∃ d9, d = d9 + 1 := ⟨d - 1, by omega⟩
  refine qG.blk 1 (pc' := 1) (ls' := [(2, 1), (0, 1), (0, s), (0, b)]) (st' := [(0, 1)]) (w' := w) (n' := 142) rfl ?_
  refine qG.call (t := 198) (na := 1) (sk := 0) (md := 0) (ls1 := [(0, 1)]) (r1 := []) rfl rfl rfl rfl rfl (K_X11_isChest (Nat.zero_le _) _ _) ?_
  rintro _ w7 _ ⟨rfl, hw7, rfl⟩
  rw [hw7, show isInV 1 0 2 = 1 from by decide]
  show qG none (d + 1) 164 4 [(2, 1), (0, 1), (0, s), (0, b)] [(0, 1)] w 142 Q9
  refine qG.br (P := (1 : Int) = 0) (pc1 := 25) (pc2 := 7) (st1 := []) rfl (fun h1 => ?_) (fun h1 => ?_)
  · exact absurd h1 (by decide)
  · skip
    refine qG.blk 2 (pc' := 11) (ls' := [(2, 1), (0, 1), (0, s), (0, b)]) (st' := [(2, w 1 0)]) (w' := w) (n' := 142) rfl ?_
    rw [show w 1 0 = 2 from zref hI rfl rfl]
    refine qG.blk 1 (pc' := 12) (ls' := [(2, 1), (0, 1), (0, s), (0, b)]) (st' := [(0, 1), (2, 2)]) (w' := w) (n' := 142) rfl ?_
    refine qG.ar (P := 0 ≤ 1 ∧ 1 < ((3 : Nat) : Int)) (P2 := 0 < (2 : Int) ∧ (2 : Int) ≤ ((142 : Nat) : Int)) (pc' := 13) (ls' := [(2, 1), (0, 1), (0, s), (0, b)]) (st' := [(2, w 2 1)]) (w' := w) (n' := 142) rfl (by omega) (by decide) ?_
    rw [show w 2 1 = 69 from zref hI rfl rfl]
    refine qG.blk 2 (pc' := 15) (ls' := [(2, 1), (0, 1), (0, s), (0, b)]) (st' := [(0, b), (0, s), (2, 69)]) (w' := w) (n' := 142) rfl ?_
    refine qG.call (t := 20) (na := 3) (sk := 1) (md := 1) (ls1 := [(2, 69), (0, s), (0, b)]) (r1 := []) rfl rfl rfl rfl rfl (K_putWorks69 (by omega) s b hb w hI) ?_
    rintro ⟨_, x9⟩ w1 _ ⟨rfl, hE⟩; rcases hE with ⟨h9, hx9, hw1⟩ | ⟨h9, hx9, hE⟩ <;> obtain ⟨rfl, rfl⟩ := Prod.mk.inj hx9
    · skip
      show qG none (d + 1) 164 18 [(2, 1), (0, 1), (0, s), (0, b)] [(0, 0)] w1 142 Q9
      refine qG.br (P := (0 : Int) = 0) (pc1 := 25) (pc2 := 21) (st1 := []) rfl (fun h2 => ?_) (fun h2 => ?_)
      · skip
        refine qG.blk 1 (pc' := 26) (ls' := [(2, 1), (0, 1), (0, s), (0, b)]) (st' := [(0, 0)]) (w' := w1) (n' := 142) rfl ?_
        refine qG.ret rfl (by first | rfl | exact decide_eq_true (by omega)) ?_
        subst hQ9
        first | exact .inl ⟨fun z => h9 z.2, rfl, hw1⟩ | exact .inr ⟨⟨by decide, h9⟩, 1, rfl, rfl, hE⟩
      · exact absurd h2 (by decide)
    · skip
      show qG none (d + 1) 164 18 [(2, 1), (0, 1), (0, s), (0, b)] [(0, 1)] w1 142 Q9
      refine qG.br (P := (1 : Int) = 0) (pc1 := 25) (pc2 := 21) (st1 := []) rfl (fun h3 => ?_) (fun h3 => ?_)
      · exact absurd h3 (by decide)
      · skip
        refine qG.blk 2 (pc' := 26) (ls' := [(2, 1), (0, 1), (0, s), (0, b)]) (st' := [(0, 1)]) (w' := w1) (n' := 142) rfl ?_
        refine qG.ret rfl (by first | rfl | exact decide_eq_true (by omega)) ?_
        subst hQ9
        first | exact .inl ⟨fun z => h9 z.2, rfl, hw1⟩ | exact .inr ⟨⟨by decide, h9⟩, 1, rfl, rfl, hE⟩
theorem K_X11_works_2 {d : Nat} (hd : 2 ≤ d) (s b : Int) (hb : b = 0 ∨ b = 1) (w : qW) (hI : yInv zgf zga zra zSp w) : qG none d 164 0 [(2, 1), (0, 2), (0, s), (0, b)] [] w 142 (fun (r : qV) (w1 : qW) (_ : Nat) => wkX 2 s b w r w1) := by
  generalize hQ9 : (fun (r : qV) (w1 : qW) (_ : Nat) => wkX 2 s b w r w1) = Q9
  obtain ⟨d, rfl⟩ : ∃ d9, d = d9 + 1 := ⟨d - 1, by omega⟩
  refine qG.blk 1 (pc' := 1) (ls' := [(2, 1), (0, 2), (0, s), (0, b)]) (st' := [(0, 2)]) (w' := w) (n' := 142) rfl ?_
  refine qG.call (t := 198) (na := 1) (sk := 0) (md := 0) (ls1 := [(0, 2)]) (r1 := []) rfl rfl rfl rfl rfl (K_X11_isChest (Nat.zero_le _) _ _) ?_
  rintro _ w7 _ ⟨rfl, hw7, rfl⟩
  rw [hw7, show isInV 2 0 2 = 1 from by decide]
  show qG none (d + 1) 164 4 [(2, 1), (0, 2), (0, s), (0, b)] [(0, 1)] w 142 Q9
  refine qG.br (P := (1 : Int) = 0) (pc1 := 25) (pc2 := 7) (st1 := []) rfl (fun h1 => ?_) (fun h1 => ?_)
  · exact absurd h1 (by decide)
  · skip
    refine qG.blk 2 (pc' := 11) (ls' := [(2, 1), (0, 2), (0, s), (0, b)]) (st' := [(2, w 1 0)]) (w' := w) (n' := 142) rfl ?_
    rw [show w 1 0 = 2 from zref hI rfl rfl]
    refine qG.blk 1 (pc' := 12) (ls' := [(2, 1), (0, 2), (0, s), (0, b)]) (st' := [(0, 2), (2, 2)]) (w' := w) (n' := 142) rfl ?_
    refine qG.ar (P := 0 ≤ 2 ∧ 2 < ((3 : Nat) : Int)) (P2 := 0 < (2 : Int) ∧ (2 : Int) ≤ ((142 : Nat) : Int)) (pc' := 13) (ls' := [(2, 1), (0, 2), (0, s), (0, b)]) (st' := [(2, w 2 2)]) (w' := w) (n' := 142) rfl (by omega) (by decide) ?_
    rw [show w 2 2 = 74 from zref hI rfl rfl]
    refine qG.blk 2 (pc' := 15) (ls' := [(2, 1), (0, 2), (0, s), (0, b)]) (st' := [(0, b), (0, s), (2, 74)]) (w' := w) (n' := 142) rfl ?_
    refine qG.call (t := 20) (na := 3) (sk := 1) (md := 1) (ls1 := [(2, 74), (0, s), (0, b)]) (r1 := []) rfl rfl rfl rfl rfl (K_putWorks74 (by omega) s b hb w hI) ?_
    rintro ⟨_, x9⟩ w1 _ ⟨rfl, hE⟩; rcases hE with ⟨h9, hx9, hw1⟩ | ⟨h9, hx9, hE⟩ <;> obtain ⟨rfl, rfl⟩ := Prod.mk.inj hx9
    · skip
      show qG none (d + 1) 164 18 [(2, 1), (0, 2), (0, s), (0, b)] [(0, 0)] w1 142 Q9
      refine qG.br (P := (0 : Int) = 0) (pc1 := 25) (pc2 := 21) (st1 := []) rfl (fun h2 => ?_) (fun h2 => ?_)
      · skip
        refine qG.blk 1 (pc' := 26) (ls' := [(2, 1), (0, 2), (0, s), (0, b)]) (st' := [(0, 0)]) (w' := w1) (n' := 142) rfl ?_
        refine qG.ret rfl (by first | rfl | exact decide_eq_true (by omega)) ?_
        subst hQ9
        first | exact .inl ⟨fun z => h9 z.2, rfl, hw1⟩ | exact .inr ⟨⟨by decide, h9⟩, 2, rfl, rfl, hE⟩
      · exact absurd h2 (by decide)
    · skip
      show qG none (d + 1) 164 18 [(2, 1), (0, 2), (0, s), (0, b)] [(0, 1)] w1 142 Q9
      refine qG.br (P := (1 : Int) = 0) (pc1 := 25) (pc2 := 21) (st1 := []) rfl (fun h3 => ?_) (fun h3 => ?_)
      · exact absurd h3 (by decide)
      · skip
        refine qG.blk 2 (pc' := 26) (ls' := [(2, 1), (0, 2), (0, s), (0, b)]) (st' := [(0, 1)]) (w' := w1) (n' := 142) rfl ?_
        refine qG.ret rfl (by first | rfl | exact decide_eq_true (by omega)) ?_
        subst hQ9
        first | exact .inl ⟨fun z => h9 z.2, rfl, hw1⟩ | exact .inr ⟨⟨by decide, h9⟩, 2, rfl, rfl, hE⟩
theorem K_X11_works_n {d : Nat} (hd : 2 ≤ d) (c s b : Int) (hc : isInV c 0 2 = 0) (w : qW) (hI : yInv zgf zga zra zSp w) : qG none d 164 0 [(2, 1), (0, c), (0, s), (0, b)] [] w 142 (fun (r : qV) (w1 : qW) (_ : Nat) => wkX c s b w r w1) := by
  generalize hQ9 : (fun (r : qV) (w1 : qW) (_ : Nat) => wkX c s b w r w1) = Q9
  obtain ⟨d, rfl⟩ : ∃ d9, d = d9 + 1 := ⟨d - 1, by omega⟩
  refine qG.blk 1 (pc' := 1) (ls' := [(2, 1), (0, c), (0, s), (0, b)]) (st' := [(0, c)]) (w' := w) (n' := 142) rfl ?_
  refine qG.call (t := 198) (na := 1) (sk := 0) (md := 0) (ls1 := [(0, c)]) (r1 := []) rfl rfl rfl rfl rfl (K_X11_isChest (Nat.zero_le _) _ _) ?_
  rintro _ w7 _ ⟨rfl, hw7, rfl⟩
  rw [hw7]
  show qG none (d + 1) 164 4 [(2, 1), (0, c), (0, s), (0, b)] [(0, isInV c 0 2)] w 142 Q9
  refine qG.br (P := isInV c 0 2 = 0) (pc1 := 25) (pc2 := 7) (st1 := []) rfl (fun hc0 => ?_) (fun hc0 => ?_)
  · skip
    refine qG.blk 1 (pc' := 26) (ls' := [(2, 1), (0, c), (0, s), (0, b)]) (st' := [(0, 0)]) (w' := w) (n' := 142) rfl ?_
    refine qG.ret rfl (by first | rfl | exact decide_eq_true (by omega)) ?_
    subst hQ9
    exact .inl ⟨fun z => isIn_b.mp hc z.1, rfl, rfl⟩
  · exfalso; exact hc0 hc
theorem K_X11_worksE {d : Nat} (hd : 2 ≤ d) (c s b : Int) (hb : 0 ≤ b ∧ b ≤ 1) (w : qW) (hI : yInv zgf zga zra zSp w) : qG none d 164 0 (qini 164 [(2, 1), (0, c), (0, s), (0, b)]) [] w 142 (fun (r : qV) (w1 : qW) (_ : Nat) => wkX c s b w r w1) := by
  have hb : b = 0 ∨ b = 1 := by omega
  by_cases h : isInV c 0 2 = 0
  · exact K_X11_works_n hd c s b h w hI
  · obtain ⟨n, rfl, h1, h2⟩ := isIn_n (by decide) h
    rcases (show n = 0 ∨ n = 1 ∨ n = 2 by omega) with rfl | rfl | rfl
    · exact K_X11_works_0 hd s b hb w hI
    · exact K_X11_works_1 hd s b hb w hI
    · exact K_X11_works_2 hd s b hb w hI
theorem K_X12_worksE {d : Nat} (hd : 2 ≤ d) (c s b : Int) (hb : 0 ≤ b ∧ b ≤ 1) (w : qW) (hI : yInv zgf zga zra zSp w) : qG none d 214 0 [(2, 95), (0, c), (0, s), (0, b)] [] w 142 (fun (r : qV) (w1 : qW) (_ : Nat) => wkR c s b w r w1) := by
  generalize hQ9 : (fun (r : qV) (w1 : qW) (_ : Nat) => wkR c s b w r w1) = Q9
  obtain ⟨d, rfl⟩ : ∃ d9, d = d9 + 1 := ⟨d - 1, by omega⟩
  refine qG.blk 1 (pc' := 1) (ls' := [(2, 95), (0, c), (0, s), (0, b)]) (st' := [(0, c)]) (w' := w) (n' := 142) rfl ?_
  refine qG.call (t := 207) (na := 1) (sk := 0) (md := 0) (ls1 := [(0, c)]) (r1 := []) rfl rfl rfl rfl rfl (K_isChest (by omega) _ _) ?_
  rintro _ w7 _ ⟨rfl, hw7, rfl⟩
  rw [hw7]
  show qG none (d + 1) 214 4 [(2, 95), (0, c), (0, s), (0, b)] [(0, isInV c 0 2)] w 142 Q9
  refine qG.br (P := isInV c 0 2 = 0) (pc1 := 14) (pc2 := 7) (st1 := []) rfl (fun h1 => ?_) (fun h1 => ?_)
  · skip
    rw [isIn_b] at h1
    refine qG.blk 1 (pc' := 15) (ls' := [(2, 95), (0, c), (0, s), (0, b)]) (st' := [(0, 0)]) (w' := w) (n' := 142) rfl ?_
    refine qG.ret rfl (by first | rfl | exact decide_eq_true (by omega)) ?_
    subst hQ9
    first | exact .inl ⟨fun z => by unfold isWk at z; omega, rfl, rfl⟩ | exact .inr ⟨⟨by omega, by omega⟩, c9, rfl, rfl, (by unfold wkN; simp (disch := decide) only [qup_ne, qup_k]; first | (rw [if_pos hb0]; done) | (rw [if_neg hb0]; done)), fun q k h h2 => by rw [qup_f h, qup_f h2]⟩
  · skip
    rw [isIn_p] at h1
    obtain ⟨c9, rfl⟩ : ∃ q : Nat, c = (q : Int) := ⟨c.toNat, by omega⟩
    refine qG.blk 1 (pc' := 8) (ls' := [(2, 95), (0, ((c9 : Nat) : Int)), (0, s), (0, b)]) (st' := [(0, s)]) (w' := w) (n' := 142) rfl ?_
    refine qG.call (t := 208) (na := 1) (sk := 0) (md := 0) (ls1 := [(0, s)]) (r1 := []) rfl rfl rfl rfl rfl (K_X12_isSpace (by omega) _ _) ?_
    rintro _ w7 _ ⟨rfl, hw7, rfl⟩
    rw [hw7]
    show qG none (d + 1) 214 11 [(2, 95), (0, ((c9 : Nat) : Int)), (0, s), (0, b)] [(0, isInV s 0 15)] w 142 Q9
    refine qG.br (P := isInV s 0 15 = 0) (pc1 := 14) (pc2 := 16) (st1 := []) rfl (fun h2 => ?_) (fun h2 => ?_)
    · skip
      rw [isIn_b] at h2
      refine qG.blk 1 (pc' := 15) (ls' := [(2, 95), (0, ((c9 : Nat) : Int)), (0, s), (0, b)]) (st' := [(0, 0)]) (w' := w) (n' := 142) rfl ?_
      refine qG.ret rfl (by first | rfl | exact decide_eq_true (by omega)) ?_
      subst hQ9
      first | exact .inl ⟨fun z => by unfold isWk at z; omega, rfl, rfl⟩ | exact .inr ⟨⟨by omega, by omega⟩, c9, rfl, rfl, (by unfold wkN; simp (disch := decide) only [qup_ne, qup_k]; first | (rw [if_pos hb0]; done) | (rw [if_neg hb0]; done)), fun q k h h2 => by rw [qup_f h, qup_f h2]⟩
    · skip
      rw [isIn_p] at h2
      refine qG.blk 5 (pc' := 25) (ls' := [(2, 95), (0, ((c9 : Nat) : Int)), (0, s), (0, b)]) (st' := [(2, w 95 0)]) (w' := (qup w 95 9 (-1))) (n' := 142) rfl ?_
      rw [show w 95 0 = 96 from zref hI rfl rfl]
      refine qG.blk 2 (pc' := 27) (ls' := [(2, 95), (0, ((c9 : Nat) : Int)), (0, s), (0, b)]) (st' := [(0, b), (0, ((c9 : Nat) : Int)), (2, 96)]) (w' := (qup w 95 9 (-1))) (n' := 142) rfl ?_
      refine qG.br (P := b = 0) (pc1 := 43) (pc2 := 30) (st1 := [(0, ((c9 : Nat) : Int)), (2, 96)]) rfl (fun hb0 => ?_) (fun hb0 => ?_)
      · skip
        refine qG.blk 2 (pc' := 47) (ls' := [(2, 95), (0, ((c9 : Nat) : Int)), (0, s), (0, b)]) (st' := [(2, w 95 0), (0, ((c9 : Nat) : Int)), (2, 96)]) (w' := (qup w 95 9 (-1))) (n' := 142) rfl ?_
        rw [show w 95 0 = 96 from zref hI rfl rfl]
        refine qG.blk 1 (pc' := 48) (ls' := [(2, 95), (0, ((c9 : Nat) : Int)), (0, s), (0, b)]) (st' := [(0, ((c9 : Nat) : Int)), (2, 96), (0, ((c9 : Nat) : Int)), (2, 96)]) (w' := (qup w 95 9 (-1))) (n' := 142) rfl ?_
        refine qG.ar (P := 0 ≤ ((c9 : Nat) : Int) ∧ ((c9 : Nat) : Int) < ((3 : Nat) : Int)) (P2 := 0 < (96 : Int) ∧ (96 : Int) ≤ ((142 : Nat) : Int)) (pc' := 49) (ls' := [(2, 95), (0, ((c9 : Nat) : Int)), (0, s), (0, b)]) (st' := [(0, w 96 c9), (0, ((c9 : Nat) : Int)), (2, 96)]) (w' := (qup w 95 9 (-1))) (n' := 142) rfl (by omega) (by decide) ?_
        refine qG.blk 6 (pc' := 55) (ls' := [(2, 95), (0, ((c9 : Nat) : Int)), (0, s), (0, b)]) (st' := [(0, qand (w 96 c9) (qxor (qshl 1 s) (-1))), (0, ((c9 : Nat) : Int)), (2, 96)]) (w' := (qup w 95 9 (-1))) (n' := 142) rfl ?_
        refine qG.ar (P := 0 ≤ ((c9 : Nat) : Int) ∧ ((c9 : Nat) : Int) < ((3 : Nat) : Int)) (P2 := 0 < (96 : Int) ∧ (96 : Int) ≤ ((142 : Nat) : Int)) (pc' := 56) (ls' := [(2, 95), (0, ((c9 : Nat) : Int)), (0, s), (0, b)]) (st' := []) (w' := (qup (qup w 95 9 (-1)) 96 c9 (qand (w 96 c9) (qxor (qshl 1 s) (-1))))) (n' := 142) rfl (by omega) (by decide) ?_
        refine qG.blk 1 (pc' := 57) (ls' := [(2, 95), (0, ((c9 : Nat) : Int)), (0, s), (0, b)]) (st' := [(0, 1)]) (w' := (qup (qup w 95 9 (-1)) 96 c9 (qand (w 96 c9) (qxor (qshl 1 s) (-1))))) (n' := 142) rfl ?_
        refine qG.ret rfl (by first | rfl | exact decide_eq_true (by omega)) ?_
        subst hQ9
        first | exact .inl ⟨fun z => by unfold isWk at z; omega, rfl, rfl⟩ | exact .inr ⟨⟨by omega, by omega⟩, c9, rfl, rfl, (by unfold wkN; simp (disch := decide) only [qup_ne, qup_k]; first | (rw [if_pos hb0]; done) | (rw [if_neg hb0]; done)), fun q k h h2 => by rw [qup_f h, qup_f h2]⟩
      · skip
        refine qG.blk 2 (pc' := 34) (ls' := [(2, 95), (0, ((c9 : Nat) : Int)), (0, s), (0, b)]) (st' := [(2, w 95 0), (0, ((c9 : Nat) : Int)), (2, 96)]) (w' := (qup w 95 9 (-1))) (n' := 142) rfl ?_
        rw [show w 95 0 = 96 from zref hI rfl rfl]
        refine qG.blk 1 (pc' := 35) (ls' := [(2, 95), (0, ((c9 : Nat) : Int)), (0, s), (0, b)]) (st' := [(0, ((c9 : Nat) : Int)), (2, 96), (0, ((c9 : Nat) : Int)), (2, 96)]) (w' := (qup w 95 9 (-1))) (n' := 142) rfl ?_
        refine qG.ar (P := 0 ≤ ((c9 : Nat) : Int) ∧ ((c9 : Nat) : Int) < ((3 : Nat) : Int)) (P2 := 0 < (96 : Int) ∧ (96 : Int) ≤ ((142 : Nat) : Int)) (pc' := 36) (ls' := [(2, 95), (0, ((c9 : Nat) : Int)), (0, s), (0, b)]) (st' := [(0, w 96 c9), (0, ((c9 : Nat) : Int)), (2, 96)]) (w' := (qup w 95 9 (-1))) (n' := 142) rfl (by omega) (by decide) ?_
        refine qG.blk 5 (pc' := 55) (ls' := [(2, 95), (0, ((c9 : Nat) : Int)), (0, s), (0, b)]) (st' := [(0, qor (w 96 c9) (qshl 1 s)), (0, ((c9 : Nat) : Int)), (2, 96)]) (w' := (qup w 95 9 (-1))) (n' := 142) rfl ?_
        refine qG.ar (P := 0 ≤ ((c9 : Nat) : Int) ∧ ((c9 : Nat) : Int) < ((3 : Nat) : Int)) (P2 := 0 < (96 : Int) ∧ (96 : Int) ≤ ((142 : Nat) : Int)) (pc' := 56) (ls' := [(2, 95), (0, ((c9 : Nat) : Int)), (0, s), (0, b)]) (st' := []) (w' := (qup (qup w 95 9 (-1)) 96 c9 (qor (w 96 c9) (qshl 1 s)))) (n' := 142) rfl (by omega) (by decide) ?_
        refine qG.blk 1 (pc' := 57) (ls' := [(2, 95), (0, ((c9 : Nat) : Int)), (0, s), (0, b)]) (st' := [(0, 1)]) (w' := (qup (qup w 95 9 (-1)) 96 c9 (qor (w 96 c9) (qshl 1 s)))) (n' := 142) rfl ?_
        refine qG.ret rfl (by first | rfl | exact decide_eq_true (by omega)) ?_
        subst hQ9
        first | exact .inl ⟨fun z => by unfold isWk at z; omega, rfl, rfl⟩ | exact .inr ⟨⟨by omega, by omega⟩, c9, rfl, rfl, (by unfold wkN; simp (disch := decide) only [qup_ne, qup_k]; first | (rw [if_pos hb0]; done) | (rw [if_neg hb0]; done)), fun q k h h2 => by rw [qup_f h, qup_f h2]⟩
def drX (c d1 s v b : Int) (w : qW) (r : qV) (w1 : qW) : Prop := (doorV c d1 s v = 0 ∧ r = (0, 0) ∧ w1 = w) ∨ (doorV c d1 s v = 1 ∧ r = (0, 1) ∧ ∃ c9 d9 : Nat, c = (c9 : Int) ∧ d1 = (d9 : Int) ∧ c9 < 3 ∧ d9 < 10 ∧ (∀ k, w1 (67 + 5 * c9) k = if k = d9 then v else w (67 + 5 * c9) k) ∧ (∀ k, w1 (68 + 5 * c9) k = if k = d9 then b else w (68 + 5 * c9) k) ∧ ∀ q k, q ≠ 66 + 5 * c9 → q ≠ 67 + 5 * c9 → q ≠ 68 + 5 * c9 → w1 q k = w q k)
def drR (c d1 s v b : Int) (w : qW) (r : qV) (w1 : qW) : Prop := (doorV c d1 s v = 0 ∧ r = (0, 0) ∧ w1 = w) ∨ (doorV c d1 s v = 1 ∧ r = (0, 1) ∧ ∃ c9 d9 : Nat, c = (c9 : Int) ∧ d1 = (d9 : Int) ∧ c9 < 3 ∧ d9 < 10 ∧ (∀ k, w1 98 k = if k = 10 * c9 + d9 then v else w 98 k) ∧ (∀ k, w1 100 k = if k = 10 * c9 + d9 then b else w 100 k) ∧ ∀ q k, q ≠ 97 → q ≠ 98 → q ≠ 100 → w1 q k = w q k)
def pdE (p : Nat) (d1 s v b : Int) (w : qW) (r : qV) (w1 : qW) : Prop := (pdV d1 s v = 0 ∧ r = (0, 0) ∧ w1 = w) ∨ (pdV d1 s v = 1 ∧ r = (0, 1) ∧ ∃ d9 : Nat, d1 = (d9 : Int) ∧ d9 < 10 ∧ (∀ k, w1 (p + 3) k = if k = d9 then v else w (p + 3) k) ∧ (∀ k, w1 (p + 4) k = if k = d9 then b else w (p + 4) k) ∧ ∀ q k, q ≠ p + 2 → q ≠ p + 3 → q ≠ p + 4 → w1 q k = w q k)
theorem K_putDoorE64 {d : Nat} (hd : 0 ≤ d) (d1 s v b : Int) (hv1 : -2147483648 ≤ v) (hv2 : v ≤ 2147483647) (hb : 0 ≤ b ∧ b ≤ 1) (w : qW) (hI : yInv zgf zga zra zSp w) : qG none d 22 0 [(2, 64), (0, d1), (0, s), (0, v), (0, b), (9, 0)] [] w 142 (fun (r : qV) (w1 : qW) (n1 : Nat) => n1 = 142 ∧ pdE 64 d1 s v b w r w1) := by
  generalize hQ9 : (fun (r : qV) (w1 : qW) (n1 : Nat) => n1 = 142 ∧ pdE 64 d1 s v b w r w1) = Q9
  refine qG.blk 1 (pc' := 1) (ls' := [(2, 64), (0, d1), (0, s), (0, v), (0, b), (9, 0)]) (st' := [(0, d1)]) (w' := w) (n' := 142) rfl ?_
  refine qG.br (P := d1 < 0) (pc1 := 19) (pc2 := 4) (st1 := []) rfl (fun h1 => ?_) (fun h1 => ?_)
  · skip
    refine qG.blk 1 (pc' := 20) (ls' := [(2, 64), (0, d1), (0, s), (0, v), (0, b), (9, 0)]) (st' := [(0, 0)]) (w' := w) (n' := 142) rfl ?_
    refine qG.ret rfl (by first | rfl | exact decide_eq_true (by omega)) ?_
    subst hQ9
    refine ⟨rfl, ?_⟩; first | exact .inl ⟨(by first | exact (pdV_r (by omega)) | exact (pdV_0n hz (fun z => hm ((mk0 hv1 hv2).mpr z))) | exact (pdV_1n hz (fun z => hm ((mk1 hv1 hv2).mpr z)))), rfl, rfl⟩ | exact .inr ⟨(by first | exact (pdV_0 (by omega) hz ((mk0 hv1 hv2).mp hm)) | exact (pdV_1 (by omega) hz (by omega) ((mk1 hv1 hv2).mp hm))), rfl, d9, rfl, by omega, (fun k => by simp (disch := decide) only [qup_ne, qup_if]), (fun k => by simp (disch := decide) only [qup_ne, qup_if]), fun q k h2 h3 h4 => by simp only [qup_ne h2, qup_ne h3, qup_ne h4]⟩
  · skip
    refine qG.blk 2 (pc' := 7) (ls' := [(2, 64), (0, d1), (0, s), (0, v), (0, b), (9, 0)]) (st' := [(0, 10), (0, d1)]) (w' := w) (n' := 142) rfl ?_
    refine qG.br (P := d1 < 10) (pc1 := 10) (pc2 := 19) (st1 := []) rfl (fun h2 => ?_) (fun h2 => ?_)
    · skip
      refine qG.blk 1 (pc' := 11) (ls' := [(2, 64), (0, d1), (0, s), (0, v), (0, b), (9, 0)]) (st' := [(0, s)]) (w' := w) (n' := 142) rfl ?_
      refine qG.br (P := s < 0) (pc1 := 19) (pc2 := 14) (st1 := []) rfl (fun h3 => ?_) (fun h3 => ?_)
      · skip
        refine qG.blk 1 (pc' := 20) (ls' := [(2, 64), (0, d1), (0, s), (0, v), (0, b), (9, 0)]) (st' := [(0, 0)]) (w' := w) (n' := 142) rfl ?_
        refine qG.ret rfl (by first | rfl | exact decide_eq_true (by omega)) ?_
        subst hQ9
        refine ⟨rfl, ?_⟩; first | exact .inl ⟨(by first | exact (pdV_r (by omega)) | exact (pdV_0n hz (fun z => hm ((mk0 hv1 hv2).mpr z))) | exact (pdV_1n hz (fun z => hm ((mk1 hv1 hv2).mpr z)))), rfl, rfl⟩ | exact .inr ⟨(by first | exact (pdV_0 (by omega) hz ((mk0 hv1 hv2).mp hm)) | exact (pdV_1 (by omega) hz (by omega) ((mk1 hv1 hv2).mp hm))), rfl, d9, rfl, by omega, (fun k => by simp (disch := decide) only [qup_ne, qup_if]), (fun k => by simp (disch := decide) only [qup_ne, qup_if]), fun q k h2 h3 h4 => by simp only [qup_ne h2, qup_ne h3, qup_ne h4]⟩
      · skip
        refine qG.blk 2 (pc' := 16) (ls' := [(2, 64), (0, d1), (0, s), (0, v), (0, b), (9, 0)]) (st' := [(0, 1), (0, s)]) (w' := w) (n' := 142) rfl ?_
        refine qG.br (P := 1 < s) (pc1 := 19) (pc2 := 21) (st1 := []) rfl (fun h4 => ?_) (fun h4 => ?_)
        · skip
          refine qG.blk 1 (pc' := 20) (ls' := [(2, 64), (0, d1), (0, s), (0, v), (0, b), (9, 0)]) (st' := [(0, 0)]) (w' := w) (n' := 142) rfl ?_
          refine qG.ret rfl (by first | rfl | exact decide_eq_true (by omega)) ?_
          subst hQ9
          refine ⟨rfl, ?_⟩; first | exact .inl ⟨(by first | exact (pdV_r (by omega)) | exact (pdV_0n hz (fun z => hm ((mk0 hv1 hv2).mpr z))) | exact (pdV_1n hz (fun z => hm ((mk1 hv1 hv2).mpr z)))), rfl, rfl⟩ | exact .inr ⟨(by first | exact (pdV_0 (by omega) hz ((mk0 hv1 hv2).mp hm)) | exact (pdV_1 (by omega) hz (by omega) ((mk1 hv1 hv2).mp hm))), rfl, d9, rfl, by omega, (fun k => by simp (disch := decide) only [qup_ne, qup_if]), (fun k => by simp (disch := decide) only [qup_ne, qup_if]), fun q k h2 h3 h4 => by simp only [qup_ne h2, qup_ne h3, qup_ne h4]⟩
        · skip
          refine qG.blk 1 (pc' := 22) (ls' := [(2, 64), (0, d1), (0, s), (0, v), (0, b), (9, 0)]) (st' := [(0, s)]) (w' := w) (n' := 142) rfl ?_
          obtain ⟨d9, rfl⟩ : ∃ n : Nat, d1 = (n : Int) := ⟨d1.toNat, by omega⟩
          refine qG.br (P := s = 0) (pc1 := 25) (pc2 := 31) (st1 := []) rfl (fun hz => ?_) (fun hz => ?_)
          · skip
            refine qG.blk 8 (pc' := 41) (ls' := [(2, 64), (0, ((d9 : Nat) : Int)), (0, s), (0, v), (0, b), (0, 255)]) (st' := [(0, qand v (qxor 255 (-1)))]) (w' := w) (n' := 142) rfl ?_
            refine qG.br (P := qand v (qxor 255 (-1)) = 0) (pc1 := 46) (pc2 := 44) (st1 := []) rfl (fun hm => ?_) (fun hm => ?_)
            · skip
              refine qG.blk 2 (pc' := 50) (ls' := [(2, 64), (0, ((d9 : Nat) : Int)), (0, s), (0, v), (0, b), (0, 255)]) (st' := [(2, w 64 3)]) (w' := w) (n' := 142) rfl ?_
              rw [show w 64 3 = 66 from zref hI rfl rfl]
              refine qG.blk 2 (pc' := 52) (ls' := [(2, 64), (0, ((d9 : Nat) : Int)), (0, s), (0, v), (0, b), (0, 255)]) (st' := [(0, s), (0, ((d9 : Nat) : Int)), (2, 66)]) (w' := w) (n' := 142) rfl ?_
              refine qG.ar (P := 0 ≤ ((d9 : Nat) : Int) ∧ ((d9 : Nat) : Int) < ((10 : Nat) : Int)) (P2 := 0 < (66 : Int) ∧ (66 : Int) ≤ ((142 : Nat) : Int)) (pc' := 53) (ls' := [(2, 64), (0, ((d9 : Nat) : Int)), (0, s), (0, v), (0, b), (0, 255)]) (st' := []) (w' := (qup w 66 d9 s)) (n' := 142) rfl (by omega) (by decide) ?_
              refine qG.blk 2 (pc' := 57) (ls' := [(2, 64), (0, ((d9 : Nat) : Int)), (0, s), (0, v), (0, b), (0, 255)]) (st' := [(2, w 64 4)]) (w' := (qup w 66 d9 s)) (n' := 142) rfl ?_
              rw [show w 64 4 = 67 from zref hI rfl rfl]
              refine qG.blk 2 (pc' := 59) (ls' := [(2, 64), (0, ((d9 : Nat) : Int)), (0, s), (0, v), (0, b), (0, 255)]) (st' := [(0, v), (0, ((d9 : Nat) : Int)), (2, 67)]) (w' := (qup w 66 d9 s)) (n' := 142) rfl ?_
              refine qG.ar (P := 0 ≤ ((d9 : Nat) : Int) ∧ ((d9 : Nat) : Int) < ((10 : Nat) : Int)) (P2 := 0 < (67 : Int) ∧ (67 : Int) ≤ ((142 : Nat) : Int)) (pc' := 60) (ls' := [(2, 64), (0, ((d9 : Nat) : Int)), (0, s), (0, v), (0, b), (0, 255)]) (st' := []) (w' := (qup (qup w 66 d9 s) 67 d9 v)) (n' := 142) rfl (by omega) (by decide) ?_
              refine qG.blk 2 (pc' := 64) (ls' := [(2, 64), (0, ((d9 : Nat) : Int)), (0, s), (0, v), (0, b), (0, 255)]) (st' := [(2, w 64 5)]) (w' := (qup (qup w 66 d9 s) 67 d9 v)) (n' := 142) rfl ?_
              rw [show w 64 5 = 68 from zref hI rfl rfl]
              refine qG.blk 2 (pc' := 67) (ls' := [(2, 64), (0, ((d9 : Nat) : Int)), (0, s), (0, v), (0, b), (0, 255)]) (st' := [(0, b), (0, ((d9 : Nat) : Int)), (2, 68)]) (w' := (qup (qup w 66 d9 s) 67 d9 v)) (n' := 142) rfl ?_
              refine qG.ar (P := (0 ≤ ((d9 : Nat) : Int) ∧ ((d9 : Nat) : Int) < ((10 : Nat) : Int)) ∧ 0 ≤ b ∧ b ≤ 1) (P2 := 0 < (68 : Int) ∧ (68 : Int) ≤ ((142 : Nat) : Int)) (pc' := 68) (ls' := [(2, 64), (0, ((d9 : Nat) : Int)), (0, s), (0, v), (0, b), (0, 255)]) (st' := []) (w' := (qup (qup (qup w 66 d9 s) 67 d9 v) 68 d9 b)) (n' := 142) rfl (by exact ⟨⟨by omega, by omega⟩, hb⟩) (by decide) ?_
              refine qG.blk 1 (pc' := 69) (ls' := [(2, 64), (0, ((d9 : Nat) : Int)), (0, s), (0, v), (0, b), (0, 255)]) (st' := [(0, 1)]) (w' := (qup (qup (qup w 66 d9 s) 67 d9 v) 68 d9 b)) (n' := 142) rfl ?_
              refine qG.ret rfl (by first | rfl | exact decide_eq_true (by omega)) ?_
              subst hQ9
              refine ⟨rfl, ?_⟩; first | exact .inl ⟨(by first | exact (pdV_r (by omega)) | exact (pdV_0n hz (fun z => hm ((mk0 hv1 hv2).mpr z))) | exact (pdV_1n hz (fun z => hm ((mk1 hv1 hv2).mpr z)))), rfl, rfl⟩ | exact .inr ⟨(by first | exact (pdV_0 (by omega) hz ((mk0 hv1 hv2).mp hm)) | exact (pdV_1 (by omega) hz (by omega) ((mk1 hv1 hv2).mp hm))), rfl, d9, rfl, by omega, (fun k => by simp (disch := decide) only [qup_ne, qup_if]), (fun k => by simp (disch := decide) only [qup_ne, qup_if]), fun q k h2 h3 h4 => by simp only [qup_ne h2, qup_ne h3, qup_ne h4]⟩
            · skip
              refine qG.blk 1 (pc' := 45) (ls' := [(2, 64), (0, ((d9 : Nat) : Int)), (0, s), (0, v), (0, b), (0, 255)]) (st' := [(0, 0)]) (w' := w) (n' := 142) rfl ?_
              refine qG.ret rfl (by first | rfl | exact decide_eq_true (by omega)) ?_
              subst hQ9
              refine ⟨rfl, ?_⟩; first | exact .inl ⟨(by first | exact (pdV_r (by omega)) | exact (pdV_0n hz (fun z => hm ((mk0 hv1 hv2).mpr z))) | exact (pdV_1n hz (fun z => hm ((mk1 hv1 hv2).mpr z)))), rfl, rfl⟩ | exact .inr ⟨(by first | exact (pdV_0 (by omega) hz ((mk0 hv1 hv2).mp hm)) | exact (pdV_1 (by omega) hz (by omega) ((mk1 hv1 hv2).mp hm))), rfl, d9, rfl, by omega, (fun k => by simp (disch := decide) only [qup_ne, qup_if]), (fun k => by simp (disch := decide) only [qup_ne, qup_if]), fun q k h2 h3 h4 => by simp only [qup_ne h2, qup_ne h3, qup_ne h4]⟩
          · skip
            refine qG.blk 7 (pc' := 41) (ls' := [(2, 64), (0, ((d9 : Nat) : Int)), (0, s), (0, v), (0, b), (0, 65280)]) (st' := [(0, qand v (qxor 65280 (-1)))]) (w' := w) (n' := 142) rfl ?_
            refine qG.br (P := qand v (qxor 65280 (-1)) = 0) (pc1 := 46) (pc2 := 44) (st1 := []) rfl (fun hm => ?_) (fun hm => ?_)
            · skip
              refine qG.blk 2 (pc' := 50) (ls' := [(2, 64), (0, ((d9 : Nat) : Int)), (0, s), (0, v), (0, b), (0, 65280)]) (st' := [(2, w 64 3)]) (w' := w) (n' := 142) rfl ?_
              rw [show w 64 3 = 66 from zref hI rfl rfl]
              refine qG.blk 2 (pc' := 52) (ls' := [(2, 64), (0, ((d9 : Nat) : Int)), (0, s), (0, v), (0, b), (0, 65280)]) (st' := [(0, s), (0, ((d9 : Nat) : Int)), (2, 66)]) (w' := w) (n' := 142) rfl ?_
              refine qG.ar (P := 0 ≤ ((d9 : Nat) : Int) ∧ ((d9 : Nat) : Int) < ((10 : Nat) : Int)) (P2 := 0 < (66 : Int) ∧ (66 : Int) ≤ ((142 : Nat) : Int)) (pc' := 53) (ls' := [(2, 64), (0, ((d9 : Nat) : Int)), (0, s), (0, v), (0, b), (0, 65280)]) (st' := []) (w' := (qup w 66 d9 s)) (n' := 142) rfl (by omega) (by decide) ?_
              refine qG.blk 2 (pc' := 57) (ls' := [(2, 64), (0, ((d9 : Nat) : Int)), (0, s), (0, v), (0, b), (0, 65280)]) (st' := [(2, w 64 4)]) (w' := (qup w 66 d9 s)) (n' := 142) rfl ?_
              rw [show w 64 4 = 67 from zref hI rfl rfl]
              refine qG.blk 2 (pc' := 59) (ls' := [(2, 64), (0, ((d9 : Nat) : Int)), (0, s), (0, v), (0, b), (0, 65280)]) (st' := [(0, v), (0, ((d9 : Nat) : Int)), (2, 67)]) (w' := (qup w 66 d9 s)) (n' := 142) rfl ?_
              refine qG.ar (P := 0 ≤ ((d9 : Nat) : Int) ∧ ((d9 : Nat) : Int) < ((10 : Nat) : Int)) (P2 := 0 < (67 : Int) ∧ (67 : Int) ≤ ((142 : Nat) : Int)) (pc' := 60) (ls' := [(2, 64), (0, ((d9 : Nat) : Int)), (0, s), (0, v), (0, b), (0, 65280)]) (st' := []) (w' := (qup (qup w 66 d9 s) 67 d9 v)) (n' := 142) rfl (by omega) (by decide) ?_
              refine qG.blk 2 (pc' := 64) (ls' := [(2, 64), (0, ((d9 : Nat) : Int)), (0, s), (0, v), (0, b), (0, 65280)]) (st' := [(2, w 64 5)]) (w' := (qup (qup w 66 d9 s) 67 d9 v)) (n' := 142) rfl ?_
              rw [show w 64 5 = 68 from zref hI rfl rfl]
              refine qG.blk 2 (pc' := 67) (ls' := [(2, 64), (0, ((d9 : Nat) : Int)), (0, s), (0, v), (0, b), (0, 65280)]) (st' := [(0, b), (0, ((d9 : Nat) : Int)), (2, 68)]) (w' := (qup (qup w 66 d9 s) 67 d9 v)) (n' := 142) rfl ?_
              refine qG.ar (P := (0 ≤ ((d9 : Nat) : Int) ∧ ((d9 : Nat) : Int) < ((10 : Nat) : Int)) ∧ 0 ≤ b ∧ b ≤ 1) (P2 := 0 < (68 : Int) ∧ (68 : Int) ≤ ((142 : Nat) : Int)) (pc' := 68) (ls' := [(2, 64), (0, ((d9 : Nat) : Int)), (0, s), (0, v), (0, b), (0, 65280)]) (st' := []) (w' := (qup (qup (qup w 66 d9 s) 67 d9 v) 68 d9 b)) (n' := 142) rfl (by exact ⟨⟨by omega, by omega⟩, hb⟩) (by decide) ?_
              refine qG.blk 1 (pc' := 69) (ls' := [(2, 64), (0, ((d9 : Nat) : Int)), (0, s), (0, v), (0, b), (0, 65280)]) (st' := [(0, 1)]) (w' := (qup (qup (qup w 66 d9 s) 67 d9 v) 68 d9 b)) (n' := 142) rfl ?_
              refine qG.ret rfl (by first | rfl | exact decide_eq_true (by omega)) ?_
              subst hQ9
              refine ⟨rfl, ?_⟩; first | exact .inl ⟨(by first | exact (pdV_r (by omega)) | exact (pdV_0n hz (fun z => hm ((mk0 hv1 hv2).mpr z))) | exact (pdV_1n hz (fun z => hm ((mk1 hv1 hv2).mpr z)))), rfl, rfl⟩ | exact .inr ⟨(by first | exact (pdV_0 (by omega) hz ((mk0 hv1 hv2).mp hm)) | exact (pdV_1 (by omega) hz (by omega) ((mk1 hv1 hv2).mp hm))), rfl, d9, rfl, by omega, (fun k => by simp (disch := decide) only [qup_ne, qup_if]), (fun k => by simp (disch := decide) only [qup_ne, qup_if]), fun q k h2 h3 h4 => by simp only [qup_ne h2, qup_ne h3, qup_ne h4]⟩
            · skip
              refine qG.blk 1 (pc' := 45) (ls' := [(2, 64), (0, ((d9 : Nat) : Int)), (0, s), (0, v), (0, b), (0, 65280)]) (st' := [(0, 0)]) (w' := w) (n' := 142) rfl ?_
              refine qG.ret rfl (by first | rfl | exact decide_eq_true (by omega)) ?_
              subst hQ9
              refine ⟨rfl, ?_⟩; first | exact .inl ⟨(by first | exact (pdV_r (by omega)) | exact (pdV_0n hz (fun z => hm ((mk0 hv1 hv2).mpr z))) | exact (pdV_1n hz (fun z => hm ((mk1 hv1 hv2).mpr z)))), rfl, rfl⟩ | exact .inr ⟨(by first | exact (pdV_0 (by omega) hz ((mk0 hv1 hv2).mp hm)) | exact (pdV_1 (by omega) hz (by omega) ((mk1 hv1 hv2).mp hm))), rfl, d9, rfl, by omega, (fun k => by simp (disch := decide) only [qup_ne, qup_if]), (fun k => by simp (disch := decide) only [qup_ne, qup_if]), fun q k h2 h3 h4 => by simp only [qup_ne h2, qup_ne h3, qup_ne h4]⟩
    · skip
      refine qG.blk 1 (pc' := 20) (ls' := [(2, 64), (0, d1), (0, s), (0, v), (0, b), (9, 0)]) (st' := [(0, 0)]) (w' := w) (n' := 142) rfl ?_
      refine qG.ret rfl (by first | rfl | exact decide_eq_true (by omega)) ?_
      subst hQ9
      refine ⟨rfl, ?_⟩; first | exact .inl ⟨(by first | exact (pdV_r (by omega)) | exact (pdV_0n hz (fun z => hm ((mk0 hv1 hv2).mpr z))) | exact (pdV_1n hz (fun z => hm ((mk1 hv1 hv2).mpr z)))), rfl, rfl⟩ | exact .inr ⟨(by first | exact (pdV_0 (by omega) hz ((mk0 hv1 hv2).mp hm)) | exact (pdV_1 (by omega) hz (by omega) ((mk1 hv1 hv2).mp hm))), rfl, d9, rfl, by omega, (fun k => by simp (disch := decide) only [qup_ne, qup_if]), (fun k => by simp (disch := decide) only [qup_ne, qup_if]), fun q k h2 h3 h4 => by simp only [qup_ne h2, qup_ne h3, qup_ne h4]⟩
theorem K_putDoorE69 {d : Nat} (hd : 0 ≤ d) (d1 s v b : Int) (hv1 : -2147483648 ≤ v) (hv2 : v ≤ 2147483647) (hb : 0 ≤ b ∧ b ≤ 1) (w : qW) (hI : yInv zgf zga zra zSp w) : qG none d 22 0 [(2, 69), (0, d1), (0, s), (0, v), (0, b), (9, 0)] [] w 142 (fun (r : qV) (w1 : qW) (n1 : Nat) => n1 = 142 ∧ pdE 69 d1 s v b w r w1) := by
  generalize hQ9 : (fun (r : qV) (w1 : qW) (n1 : Nat) => n1 = 142 ∧ pdE 69 d1 s v b w r w1) = Q9
  refine qG.blk 1 (pc' := 1) (ls' := [(2, 69), (0, d1), (0, s), (0, v), (0, b), (9, 0)]) (st' := [(0, d1)]) (w' := w) (n' := 142) rfl ?_
  refine qG.br (P := d1 < 0) (pc1 := 19) (pc2 := 4) (st1 := []) rfl (fun h1 => ?_) (fun h1 => ?_)
  · skip
    refine qG.blk 1 (pc' := 20) (ls' := [(2, 69), (0, d1), (0, s), (0, v), (0, b), (9, 0)]) (st' := [(0, 0)]) (w' := w) (n' := 142) rfl ?_
    refine qG.ret rfl (by first | rfl | exact decide_eq_true (by omega)) ?_
    subst hQ9
    refine ⟨rfl, ?_⟩; first | exact .inl ⟨(by first | exact (pdV_r (by omega)) | exact (pdV_0n hz (fun z => hm ((mk0 hv1 hv2).mpr z))) | exact (pdV_1n hz (fun z => hm ((mk1 hv1 hv2).mpr z)))), rfl, rfl⟩ | exact .inr ⟨(by first | exact (pdV_0 (by omega) hz ((mk0 hv1 hv2).mp hm)) | exact (pdV_1 (by omega) hz (by omega) ((mk1 hv1 hv2).mp hm))), rfl, d9, rfl, by omega, (fun k => by simp (disch := decide) only [qup_ne, qup_if]), (fun k => by simp (disch := decide) only [qup_ne, qup_if]), fun q k h2 h3 h4 => by simp only [qup_ne h2, qup_ne h3, qup_ne h4]⟩
  · skip
    refine qG.blk 2 (pc' := 7) (ls' := [(2, 69), (0, d1), (0, s), (0, v), (0, b), (9, 0)]) (st' := [(0, 10), (0, d1)]) (w' := w) (n' := 142) rfl ?_
    refine qG.br (P := d1 < 10) (pc1 := 10) (pc2 := 19) (st1 := []) rfl (fun h2 => ?_) (fun h2 => ?_)
    · skip
      refine qG.blk 1 (pc' := 11) (ls' := [(2, 69), (0, d1), (0, s), (0, v), (0, b), (9, 0)]) (st' := [(0, s)]) (w' := w) (n' := 142) rfl ?_
      refine qG.br (P := s < 0) (pc1 := 19) (pc2 := 14) (st1 := []) rfl (fun h3 => ?_) (fun h3 => ?_)
      · skip
        refine qG.blk 1 (pc' := 20) (ls' := [(2, 69), (0, d1), (0, s), (0, v), (0, b), (9, 0)]) (st' := [(0, 0)]) (w' := w) (n' := 142) rfl ?_
        refine qG.ret rfl (by first | rfl | exact decide_eq_true (by omega)) ?_
        subst hQ9
        refine ⟨rfl, ?_⟩; first | exact .inl ⟨(by first | exact (pdV_r (by omega)) | exact (pdV_0n hz (fun z => hm ((mk0 hv1 hv2).mpr z))) | exact (pdV_1n hz (fun z => hm ((mk1 hv1 hv2).mpr z)))), rfl, rfl⟩ | exact .inr ⟨(by first | exact (pdV_0 (by omega) hz ((mk0 hv1 hv2).mp hm)) | exact (pdV_1 (by omega) hz (by omega) ((mk1 hv1 hv2).mp hm))), rfl, d9, rfl, by omega, (fun k => by simp (disch := decide) only [qup_ne, qup_if]), (fun k => by simp (disch := decide) only [qup_ne, qup_if]), fun q k h2 h3 h4 => by simp only [qup_ne h2, qup_ne h3, qup_ne h4]⟩
      · skip
        refine qG.blk 2 (pc' := 16) (ls' := [(2, 69), (0, d1), (0, s), (0, v), (0, b), (9, 0)]) (st' := [(0, 1), (0, s)]) (w' := w) (n' := 142) rfl ?_
        refine qG.br (P := 1 < s) (pc1 := 19) (pc2 := 21) (st1 := []) rfl (fun h4 => ?_) (fun h4 => ?_)
        · skip
          refine qG.blk 1 (pc' := 20) (ls' := [(2, 69), (0, d1), (0, s), (0, v), (0, b), (9, 0)]) (st' := [(0, 0)]) (w' := w) (n' := 142) rfl ?_
          refine qG.ret rfl (by first | rfl | exact decide_eq_true (by omega)) ?_
          subst hQ9
          refine ⟨rfl, ?_⟩; first | exact .inl ⟨(by first | exact (pdV_r (by omega)) | exact (pdV_0n hz (fun z => hm ((mk0 hv1 hv2).mpr z))) | exact (pdV_1n hz (fun z => hm ((mk1 hv1 hv2).mpr z)))), rfl, rfl⟩ | exact .inr ⟨(by first | exact (pdV_0 (by omega) hz ((mk0 hv1 hv2).mp hm)) | exact (pdV_1 (by omega) hz (by omega) ((mk1 hv1 hv2).mp hm))), rfl, d9, rfl, by omega, (fun k => by simp (disch := decide) only [qup_ne, qup_if]), (fun k => by simp (disch := decide) only [qup_ne, qup_if]), fun q k h2 h3 h4 => by simp only [qup_ne h2, qup_ne h3, qup_ne h4]⟩
        · skip
          refine qG.blk 1 (pc' := 22) (ls' := [(2, 69), (0, d1), (0, s), (0, v), (0, b), (9, 0)]) (st' := [(0, s)]) (w' := w) (n' := 142) rfl ?_
          obtain ⟨d9, rfl⟩ : ∃ n : Nat, d1 = (n : Int) := ⟨d1.toNat, by omega⟩
          refine qG.br (P := s = 0) (pc1 := 25) (pc2 := 31) (st1 := []) rfl (fun hz => ?_) (fun hz => ?_)
          · skip
            refine qG.blk 8 (pc' := 41) (ls' := [(2, 69), (0, ((d9 : Nat) : Int)), (0, s), (0, v), (0, b), (0, 255)]) (st' := [(0, qand v (qxor 255 (-1)))]) (w' := w) (n' := 142) rfl ?_
            refine qG.br (P := qand v (qxor 255 (-1)) = 0) (pc1 := 46) (pc2 := 44) (st1 := []) rfl (fun hm => ?_) (fun hm => ?_)
            · skip
              refine qG.blk 2 (pc' := 50) (ls' := [(2, 69), (0, ((d9 : Nat) : Int)), (0, s), (0, v), (0, b), (0, 255)]) (st' := [(2, w 69 3)]) (w' := w) (n' := 142) rfl ?_
              rw [show w 69 3 = 71 from zref hI rfl rfl]
              refine qG.blk 2 (pc' := 52) (ls' := [(2, 69), (0, ((d9 : Nat) : Int)), (0, s), (0, v), (0, b), (0, 255)]) (st' := [(0, s), (0, ((d9 : Nat) : Int)), (2, 71)]) (w' := w) (n' := 142) rfl ?_
              refine qG.ar (P := 0 ≤ ((d9 : Nat) : Int) ∧ ((d9 : Nat) : Int) < ((10 : Nat) : Int)) (P2 := 0 < (71 : Int) ∧ (71 : Int) ≤ ((142 : Nat) : Int)) (pc' := 53) (ls' := [(2, 69), (0, ((d9 : Nat) : Int)), (0, s), (0, v), (0, b), (0, 255)]) (st' := []) (w' := (qup w 71 d9 s)) (n' := 142) rfl (by omega) (by decide) ?_
              refine qG.blk 2 (pc' := 57) (ls' := [(2, 69), (0, ((d9 : Nat) : Int)), (0, s), (0, v), (0, b), (0, 255)]) (st' := [(2, w 69 4)]) (w' := (qup w 71 d9 s)) (n' := 142) rfl ?_
              rw [show w 69 4 = 72 from zref hI rfl rfl]
              refine qG.blk 2 (pc' := 59) (ls' := [(2, 69), (0, ((d9 : Nat) : Int)), (0, s), (0, v), (0, b), (0, 255)]) (st' := [(0, v), (0, ((d9 : Nat) : Int)), (2, 72)]) (w' := (qup w 71 d9 s)) (n' := 142) rfl ?_
              refine qG.ar (P := 0 ≤ ((d9 : Nat) : Int) ∧ ((d9 : Nat) : Int) < ((10 : Nat) : Int)) (P2 := 0 < (72 : Int) ∧ (72 : Int) ≤ ((142 : Nat) : Int)) (pc' := 60) (ls' := [(2, 69), (0, ((d9 : Nat) : Int)), (0, s), (0, v), (0, b), (0, 255)]) (st' := []) (w' := (qup (qup w 71 d9 s) 72 d9 v)) (n' := 142) rfl (by omega) (by decide) ?_
              refine qG.blk 2 (pc' := 64) (ls' := [(2, 69), (0, ((d9 : Nat) : Int)), (0, s), (0, v), (0, b), (0, 255)]) (st' := [(2, w 69 5)]) (w' := (qup (qup w 71 d9 s) 72 d9 v)) (n' := 142) rfl ?_
              rw [show w 69 5 = 73 from zref hI rfl rfl]
              refine qG.blk 2 (pc' := 67) (ls' := [(2, 69), (0, ((d9 : Nat) : Int)), (0, s), (0, v), (0, b), (0, 255)]) (st' := [(0, b), (0, ((d9 : Nat) : Int)), (2, 73)]) (w' := (qup (qup w 71 d9 s) 72 d9 v)) (n' := 142) rfl ?_
              refine qG.ar (P := (0 ≤ ((d9 : Nat) : Int) ∧ ((d9 : Nat) : Int) < ((10 : Nat) : Int)) ∧ 0 ≤ b ∧ b ≤ 1) (P2 := 0 < (73 : Int) ∧ (73 : Int) ≤ ((142 : Nat) : Int)) (pc' := 68) (ls' := [(2, 69), (0, ((d9 : Nat) : Int)), (0, s), (0, v), (0, b), (0, 255)]) (st' := []) (w' := (qup (qup (qup w 71 d9 s) 72 d9 v) 73 d9 b)) (n' := 142) rfl (by exact ⟨⟨by omega, by omega⟩, hb⟩) (by decide) ?_
              refine qG.blk 1 (pc' := 69) (ls' := [(2, 69), (0, ((d9 : Nat) : Int)), (0, s), (0, v), (0, b), (0, 255)]) (st' := [(0, 1)]) (w' := (qup (qup (qup w 71 d9 s) 72 d9 v) 73 d9 b)) (n' := 142) rfl ?_
              refine qG.ret rfl (by first | rfl | exact decide_eq_true (by omega)) ?_
              subst hQ9
              refine ⟨rfl, ?_⟩; first | exact .inl ⟨(by first | exact (pdV_r (by omega)) | exact (pdV_0n hz (fun z => hm ((mk0 hv1 hv2).mpr z))) | exact (pdV_1n hz (fun z => hm ((mk1 hv1 hv2).mpr z)))), rfl, rfl⟩ | exact .inr ⟨(by first | exact (pdV_0 (by omega) hz ((mk0 hv1 hv2).mp hm)) | exact (pdV_1 (by omega) hz (by omega) ((mk1 hv1 hv2).mp hm))), rfl, d9, rfl, by omega, (fun k => by simp (disch := decide) only [qup_ne, qup_if]), (fun k => by simp (disch := decide) only [qup_ne, qup_if]), fun q k h2 h3 h4 => by simp only [qup_ne h2, qup_ne h3, qup_ne h4]⟩
            · skip
              refine qG.blk 1 (pc' := 45) (ls' := [(2, 69), (0, ((d9 : Nat) : Int)), (0, s), (0, v), (0, b), (0, 255)]) (st' := [(0, 0)]) (w' := w) (n' := 142) rfl ?_
              refine qG.ret rfl (by first | rfl | exact decide_eq_true (by omega)) ?_
              subst hQ9
              refine ⟨rfl, ?_⟩; first | exact .inl ⟨(by first | exact (pdV_r (by omega)) | exact (pdV_0n hz (fun z => hm ((mk0 hv1 hv2).mpr z))) | exact (pdV_1n hz (fun z => hm ((mk1 hv1 hv2).mpr z)))), rfl, rfl⟩ | exact .inr ⟨(by first | exact (pdV_0 (by omega) hz ((mk0 hv1 hv2).mp hm)) | exact (pdV_1 (by omega) hz (by omega) ((mk1 hv1 hv2).mp hm))), rfl, d9, rfl, by omega, (fun k => by simp (disch := decide) only [qup_ne, qup_if]), (fun k => by simp (disch := decide) only [qup_ne, qup_if]), fun q k h2 h3 h4 => by simp only [qup_ne h2, qup_ne h3, qup_ne h4]⟩
          · skip
            refine qG.blk 7 (pc' := 41) (ls' := [(2, 69), (0, ((d9 : Nat) : Int)), (0, s), (0, v), (0, b), (0, 65280)]) (st' := [(0, qand v (qxor 65280 (-1)))]) (w' := w) (n' := 142) rfl ?_
            refine qG.br (P := qand v (qxor 65280 (-1)) = 0) (pc1 := 46) (pc2 := 44) (st1 := []) rfl (fun hm => ?_) (fun hm => ?_)
            · skip
              refine qG.blk 2 (pc' := 50) (ls' := [(2, 69), (0, ((d9 : Nat) : Int)), (0, s), (0, v), (0, b), (0, 65280)]) (st' := [(2, w 69 3)]) (w' := w) (n' := 142) rfl ?_
              rw [show w 69 3 = 71 from zref hI rfl rfl]
              refine qG.blk 2 (pc' := 52) (ls' := [(2, 69), (0, ((d9 : Nat) : Int)), (0, s), (0, v), (0, b), (0, 65280)]) (st' := [(0, s), (0, ((d9 : Nat) : Int)), (2, 71)]) (w' := w) (n' := 142) rfl ?_
              refine qG.ar (P := 0 ≤ ((d9 : Nat) : Int) ∧ ((d9 : Nat) : Int) < ((10 : Nat) : Int)) (P2 := 0 < (71 : Int) ∧ (71 : Int) ≤ ((142 : Nat) : Int)) (pc' := 53) (ls' := [(2, 69), (0, ((d9 : Nat) : Int)), (0, s), (0, v), (0, b), (0, 65280)]) (st' := []) (w' := (qup w 71 d9 s)) (n' := 142) rfl (by omega) (by decide) ?_
              refine qG.blk 2 (pc' := 57) (ls' := [(2, 69), (0, ((d9 : Nat) : Int)), (0, s), (0, v), (0, b), (0, 65280)]) (st' := [(2, w 69 4)]) (w' := (qup w 71 d9 s)) (n' := 142) rfl ?_
              rw [show w 69 4 = 72 from zref hI rfl rfl]
              refine qG.blk 2 (pc' := 59) (ls' := [(2, 69), (0, ((d9 : Nat) : Int)), (0, s), (0, v), (0, b), (0, 65280)]) (st' := [(0, v), (0, ((d9 : Nat) : Int)), (2, 72)]) (w' := (qup w 71 d9 s)) (n' := 142) rfl ?_
              refine qG.ar (P := 0 ≤ ((d9 : Nat) : Int) ∧ ((d9 : Nat) : Int) < ((10 : Nat) : Int)) (P2 := 0 < (72 : Int) ∧ (72 : Int) ≤ ((142 : Nat) : Int)) (pc' := 60) (ls' := [(2, 69), (0, ((d9 : Nat) : Int)), (0, s), (0, v), (0, b), (0, 65280)]) (st' := []) (w' := (qup (qup w 71 d9 s) 72 d9 v)) (n' := 142) rfl (by omega) (by decide) ?_
              refine qG.blk 2 (pc' := 64) (ls' := [(2, 69), (0, ((d9 : Nat) : Int)), (0, s), (0, v), (0, b), (0, 65280)]) (st' := [(2, w 69 5)]) (w' := (qup (qup w 71 d9 s) 72 d9 v)) (n' := 142) rfl ?_
              rw [show w 69 5 = 73 from zref hI rfl rfl]
              refine qG.blk 2 (pc' := 67) (ls' := [(2, 69), (0, ((d9 : Nat) : Int)), (0, s), (0, v), (0, b), (0, 65280)]) (st' := [(0, b), (0, ((d9 : Nat) : Int)), (2, 73)]) (w' := (qup (qup w 71 d9 s) 72 d9 v)) (n' := 142) rfl ?_
              refine qG.ar (P := (0 ≤ ((d9 : Nat) : Int) ∧ ((d9 : Nat) : Int) < ((10 : Nat) : Int)) ∧ 0 ≤ b ∧ b ≤ 1) (P2 := 0 < (73 : Int) ∧ (73 : Int) ≤ ((142 : Nat) : Int)) (pc' := 68) (ls' := [(2, 69), (0, ((d9 : Nat) : Int)), (0, s), (0, v), (0, b), (0, 65280)]) (st' := []) (w' := (qup (qup (qup w 71 d9 s) 72 d9 v) 73 d9 b)) (n' := 142) rfl (by exact ⟨⟨by omega, by omega⟩, hb⟩) (by decide) ?_
              refine qG.blk 1 (pc' := 69) (ls' := [(2, 69), (0, ((d9 : Nat) : Int)), (0, s), (0, v), (0, b), (0, 65280)]) (st' := [(0, 1)]) (w' := (qup (qup (qup w 71 d9 s) 72 d9 v) 73 d9 b)) (n' := 142) rfl ?_
              refine qG.ret rfl (by first | rfl | exact decide_eq_true (by omega)) ?_
              subst hQ9
              refine ⟨rfl, ?_⟩; first | exact .inl ⟨(by first | exact (pdV_r (by omega)) | exact (pdV_0n hz (fun z => hm ((mk0 hv1 hv2).mpr z))) | exact (pdV_1n hz (fun z => hm ((mk1 hv1 hv2).mpr z)))), rfl, rfl⟩ | exact .inr ⟨(by first | exact (pdV_0 (by omega) hz ((mk0 hv1 hv2).mp hm)) | exact (pdV_1 (by omega) hz (by omega) ((mk1 hv1 hv2).mp hm))), rfl, d9, rfl, by omega, (fun k => by simp (disch := decide) only [qup_ne, qup_if]), (fun k => by simp (disch := decide) only [qup_ne, qup_if]), fun q k h2 h3 h4 => by simp only [qup_ne h2, qup_ne h3, qup_ne h4]⟩
            · skip
              refine qG.blk 1 (pc' := 45) (ls' := [(2, 69), (0, ((d9 : Nat) : Int)), (0, s), (0, v), (0, b), (0, 65280)]) (st' := [(0, 0)]) (w' := w) (n' := 142) rfl ?_
              refine qG.ret rfl (by first | rfl | exact decide_eq_true (by omega)) ?_
              subst hQ9
              refine ⟨rfl, ?_⟩; first | exact .inl ⟨(by first | exact (pdV_r (by omega)) | exact (pdV_0n hz (fun z => hm ((mk0 hv1 hv2).mpr z))) | exact (pdV_1n hz (fun z => hm ((mk1 hv1 hv2).mpr z)))), rfl, rfl⟩ | exact .inr ⟨(by first | exact (pdV_0 (by omega) hz ((mk0 hv1 hv2).mp hm)) | exact (pdV_1 (by omega) hz (by omega) ((mk1 hv1 hv2).mp hm))), rfl, d9, rfl, by omega, (fun k => by simp (disch := decide) only [qup_ne, qup_if]), (fun k => by simp (disch := decide) only [qup_ne, qup_if]), fun q k h2 h3 h4 => by simp only [qup_ne h2, qup_ne h3, qup_ne h4]⟩
    · skip
      refine qG.blk 1 (pc' := 20) (ls' := [(2, 69), (0, d1), (0, s), (0, v), (0, b), (9, 0)]) (st' := [(0, 0)]) (w' := w) (n' := 142) rfl ?_
      refine qG.ret rfl (by first | rfl | exact decide_eq_true (by omega)) ?_
      subst hQ9
      refine ⟨rfl, ?_⟩; first | exact .inl ⟨(by first | exact (pdV_r (by omega)) | exact (pdV_0n hz (fun z => hm ((mk0 hv1 hv2).mpr z))) | exact (pdV_1n hz (fun z => hm ((mk1 hv1 hv2).mpr z)))), rfl, rfl⟩ | exact .inr ⟨(by first | exact (pdV_0 (by omega) hz ((mk0 hv1 hv2).mp hm)) | exact (pdV_1 (by omega) hz (by omega) ((mk1 hv1 hv2).mp hm))), rfl, d9, rfl, by omega, (fun k => by simp (disch := decide) only [qup_ne, qup_if]), (fun k => by simp (disch := decide) only [qup_ne, qup_if]), fun q k h2 h3 h4 => by simp only [qup_ne h2, qup_ne h3, qup_ne h4]⟩
theorem K_putDoorE74 {d : Nat} (hd : 0 ≤ d) (d1 s v b : Int) (hv1 : -2147483648 ≤ v) (hv2 : v ≤ 2147483647) (hb : 0 ≤ b ∧ b ≤ 1) (w : qW) (hI : yInv zgf zga zra zSp w) : qG none d 22 0 [(2, 74), (0, d1), (0, s), (0, v), (0, b), (9, 0)] [] w 142 (fun (r : qV) (w1 : qW) (n1 : Nat) => n1 = 142 ∧ pdE 74 d1 s v b w r w1) := by
  generalize hQ9 : (fun (r : qV) (w1 : qW) (n1 : Nat) => n1 = 142 ∧ pdE 74 d1 s v b w r w1) = Q9
  refine qG.blk 1 (pc' := 1) (ls' := [(2, 74), (0, d1), (0, s), (0, v), (0, b), (9, 0)]) (st' := [(0, d1)]) (w' := w) (n' := 142) rfl ?_
  refine qG.br (P := d1 < 0) (pc1 := 19) (pc2 := 4) (st1 := []) rfl (fun h1 => ?_) (fun h1 => ?_)
  · skip
    refine qG.blk 1 (pc' := 20) (ls' := [(2, 74), (0, d1), (0, s), (0, v), (0, b), (9, 0)]) (st' := [(0, 0)]) (w' := w) (n' := 142) rfl ?_
    refine qG.ret rfl (by first | rfl | exact decide_eq_true (by omega)) ?_
    subst hQ9
    refine ⟨rfl, ?_⟩; first | exact .inl ⟨(by first | exact (pdV_r (by omega)) | exact (pdV_0n hz (fun z => hm ((mk0 hv1 hv2).mpr z))) | exact (pdV_1n hz (fun z => hm ((mk1 hv1 hv2).mpr z)))), rfl, rfl⟩ | exact .inr ⟨(by first | exact (pdV_0 (by omega) hz ((mk0 hv1 hv2).mp hm)) | exact (pdV_1 (by omega) hz (by omega) ((mk1 hv1 hv2).mp hm))), rfl, d9, rfl, by omega, (fun k => by simp (disch := decide) only [qup_ne, qup_if]), (fun k => by simp (disch := decide) only [qup_ne, qup_if]), fun q k h2 h3 h4 => by simp only [qup_ne h2, qup_ne h3, qup_ne h4]⟩
  · skip
    refine qG.blk 2 (pc' := 7) (ls' := [(2, 74), (0, d1), (0, s), (0, v), (0, b), (9, 0)]) (st' := [(0, 10), (0, d1)]) (w' := w) (n' := 142) rfl ?_
    refine qG.br (P := d1 < 10) (pc1 := 10) (pc2 := 19) (st1 := []) rfl (fun h2 => ?_) (fun h2 => ?_)
    · skip
      refine qG.blk 1 (pc' := 11) (ls' := [(2, 74), (0, d1), (0, s), (0, v), (0, b), (9, 0)]) (st' := [(0, s)]) (w' := w) (n' := 142) rfl ?_
      refine qG.br (P := s < 0) (pc1 := 19) (pc2 := 14) (st1 := []) rfl (fun h3 => ?_) (fun h3 => ?_)
      · skip
        refine qG.blk 1 (pc' := 20) (ls' := [(2, 74), (0, d1), (0, s), (0, v), (0, b), (9, 0)]) (st' := [(0, 0)]) (w' := w) (n' := 142) rfl ?_
        refine qG.ret rfl (by first | rfl | exact decide_eq_true (by omega)) ?_
        subst hQ9
        refine ⟨rfl, ?_⟩; first | exact .inl ⟨(by first | exact (pdV_r (by omega)) | exact (pdV_0n hz (fun z => hm ((mk0 hv1 hv2).mpr z))) | exact (pdV_1n hz (fun z => hm ((mk1 hv1 hv2).mpr z)))), rfl, rfl⟩ | exact .inr ⟨(by first | exact (pdV_0 (by omega) hz ((mk0 hv1 hv2).mp hm)) | exact (pdV_1 (by omega) hz (by omega) ((mk1 hv1 hv2).mp hm))), rfl, d9, rfl, by omega, (fun k => by simp (disch := decide) only [qup_ne, qup_if]), (fun k => by simp (disch := decide) only [qup_ne, qup_if]), fun q k h2 h3 h4 => by simp only [qup_ne h2, qup_ne h3, qup_ne h4]⟩
      · skip
        refine qG.blk 2 (pc' := 16) (ls' := [(2, 74), (0, d1), (0, s), (0, v), (0, b), (9, 0)]) (st' := [(0, 1), (0, s)]) (w' := w) (n' := 142) rfl ?_
        refine qG.br (P := 1 < s) (pc1 := 19) (pc2 := 21) (st1 := []) rfl (fun h4 => ?_) (fun h4 => ?_)
        · skip
          refine qG.blk 1 (pc' := 20) (ls' := [(2, 74), (0, d1), (0, s), (0, v), (0, b), (9, 0)]) (st' := [(0, 0)]) (w' := w) (n' := 142) rfl ?_
          refine qG.ret rfl (by first | rfl | exact decide_eq_true (by omega)) ?_
          subst hQ9
          refine ⟨rfl, ?_⟩; first | exact .inl ⟨(by first | exact (pdV_r (by omega)) | exact (pdV_0n hz (fun z => hm ((mk0 hv1 hv2).mpr z))) | exact (pdV_1n hz (fun z => hm ((mk1 hv1 hv2).mpr z)))), rfl, rfl⟩ | exact .inr ⟨(by first | exact (pdV_0 (by omega) hz ((mk0 hv1 hv2).mp hm)) | exact (pdV_1 (by omega) hz (by omega) ((mk1 hv1 hv2).mp hm))), rfl, d9, rfl, by omega, (fun k => by simp (disch := decide) only [qup_ne, qup_if]), (fun k => by simp (disch := decide) only [qup_ne, qup_if]), fun q k h2 h3 h4 => by simp only [qup_ne h2, qup_ne h3, qup_ne h4]⟩
        · skip
          refine qG.blk 1 (pc' := 22) (ls' := [(2, 74), (0, d1), (0, s), (0, v), (0, b), (9, 0)]) (st' := [(0, s)]) (w' := w) (n' := 142) rfl ?_
          obtain ⟨d9, rfl⟩ : ∃ n : Nat, d1 = (n : Int) := ⟨d1.toNat, by omega⟩
          refine qG.br (P := s = 0) (pc1 := 25) (pc2 := 31) (st1 := []) rfl (fun hz => ?_) (fun hz => ?_)
          · skip
            refine qG.blk 8 (pc' := 41) (ls' := [(2, 74), (0, ((d9 : Nat) : Int)), (0, s), (0, v), (0, b), (0, 255)]) (st' := [(0, qand v (qxor 255 (-1)))]) (w' := w) (n' := 142) rfl ?_
            refine qG.br (P := qand v (qxor 255 (-1)) = 0) (pc1 := 46) (pc2 := 44) (st1 := []) rfl (fun hm => ?_) (fun hm => ?_)
            · skip
              refine qG.blk 2 (pc' := 50) (ls' := [(2, 74), (0, ((d9 : Nat) : Int)), (0, s), (0, v), (0, b), (0, 255)]) (st' := [(2, w 74 3)]) (w' := w) (n' := 142) rfl ?_
              rw [show w 74 3 = 76 from zref hI rfl rfl]
              refine qG.blk 2 (pc' := 52) (ls' := [(2, 74), (0, ((d9 : Nat) : Int)), (0, s), (0, v), (0, b), (0, 255)]) (st' := [(0, s), (0, ((d9 : Nat) : Int)), (2, 76)]) (w' := w) (n' := 142) rfl ?_
              refine qG.ar (P := 0 ≤ ((d9 : Nat) : Int) ∧ ((d9 : Nat) : Int) < ((10 : Nat) : Int)) (P2 := 0 < (76 : Int) ∧ (76 : Int) ≤ ((142 : Nat) : Int)) (pc' := 53) (ls' := [(2, 74), (0, ((d9 : Nat) : Int)), (0, s), (0, v), (0, b), (0, 255)]) (st' := []) (w' := (qup w 76 d9 s)) (n' := 142) rfl (by omega) (by decide) ?_
              refine qG.blk 2 (pc' := 57) (ls' := [(2, 74), (0, ((d9 : Nat) : Int)), (0, s), (0, v), (0, b), (0, 255)]) (st' := [(2, w 74 4)]) (w' := (qup w 76 d9 s)) (n' := 142) rfl ?_
              rw [show w 74 4 = 77 from zref hI rfl rfl]
              refine qG.blk 2 (pc' := 59) (ls' := [(2, 74), (0, ((d9 : Nat) : Int)), (0, s), (0, v), (0, b), (0, 255)]) (st' := [(0, v), (0, ((d9 : Nat) : Int)), (2, 77)]) (w' := (qup w 76 d9 s)) (n' := 142) rfl ?_
              refine qG.ar (P := 0 ≤ ((d9 : Nat) : Int) ∧ ((d9 : Nat) : Int) < ((10 : Nat) : Int)) (P2 := 0 < (77 : Int) ∧ (77 : Int) ≤ ((142 : Nat) : Int)) (pc' := 60) (ls' := [(2, 74), (0, ((d9 : Nat) : Int)), (0, s), (0, v), (0, b), (0, 255)]) (st' := []) (w' := (qup (qup w 76 d9 s) 77 d9 v)) (n' := 142) rfl (by omega) (by decide) ?_
              refine qG.blk 2 (pc' := 64) (ls' := [(2, 74), (0, ((d9 : Nat) : Int)), (0, s), (0, v), (0, b), (0, 255)]) (st' := [(2, w 74 5)]) (w' := (qup (qup w 76 d9 s) 77 d9 v)) (n' := 142) rfl ?_
              rw [show w 74 5 = 78 from zref hI rfl rfl]
              refine qG.blk 2 (pc' := 67) (ls' := [(2, 74), (0, ((d9 : Nat) : Int)), (0, s), (0, v), (0, b), (0, 255)]) (st' := [(0, b), (0, ((d9 : Nat) : Int)), (2, 78)]) (w' := (qup (qup w 76 d9 s) 77 d9 v)) (n' := 142) rfl ?_
              refine qG.ar (P := (0 ≤ ((d9 : Nat) : Int) ∧ ((d9 : Nat) : Int) < ((10 : Nat) : Int)) ∧ 0 ≤ b ∧ b ≤ 1) (P2 := 0 < (78 : Int) ∧ (78 : Int) ≤ ((142 : Nat) : Int)) (pc' := 68) (ls' := [(2, 74), (0, ((d9 : Nat) : Int)), (0, s), (0, v), (0, b), (0, 255)]) (st' := []) (w' := (qup (qup (qup w 76 d9 s) 77 d9 v) 78 d9 b)) (n' := 142) rfl (by exact ⟨⟨by omega, by omega⟩, hb⟩) (by decide) ?_
              refine qG.blk 1 (pc' := 69) (ls' := [(2, 74), (0, ((d9 : Nat) : Int)), (0, s), (0, v), (0, b), (0, 255)]) (st' := [(0, 1)]) (w' := (qup (qup (qup w 76 d9 s) 77 d9 v) 78 d9 b)) (n' := 142) rfl ?_
              refine qG.ret rfl (by first | rfl | exact decide_eq_true (by omega)) ?_
              subst hQ9
              refine ⟨rfl, ?_⟩; first | exact .inl ⟨(by first | exact (pdV_r (by omega)) | exact (pdV_0n hz (fun z => hm ((mk0 hv1 hv2).mpr z))) | exact (pdV_1n hz (fun z => hm ((mk1 hv1 hv2).mpr z)))), rfl, rfl⟩ | exact .inr ⟨(by first | exact (pdV_0 (by omega) hz ((mk0 hv1 hv2).mp hm)) | exact (pdV_1 (by omega) hz (by omega) ((mk1 hv1 hv2).mp hm))), rfl, d9, rfl, by omega, (fun k => by simp (disch := decide) only [qup_ne, qup_if]), (fun k => by simp (disch := decide) only [qup_ne, qup_if]), fun q k h2 h3 h4 => by simp only [qup_ne h2, qup_ne h3, qup_ne h4]⟩
            · skip
              refine qG.blk 1 (pc' := 45) (ls' := [(2, 74), (0, ((d9 : Nat) : Int)), (0, s), (0, v), (0, b), (0, 255)]) (st' := [(0, 0)]) (w' := w) (n' := 142) rfl ?_
              refine qG.ret rfl (by first | rfl | exact decide_eq_true (by omega)) ?_
              subst hQ9
              refine ⟨rfl, ?_⟩; first | exact .inl ⟨(by first | exact (pdV_r (by omega)) | exact (pdV_0n hz (fun z => hm ((mk0 hv1 hv2).mpr z))) | exact (pdV_1n hz (fun z => hm ((mk1 hv1 hv2).mpr z)))), rfl, rfl⟩ | exact .inr ⟨(by first | exact (pdV_0 (by omega) hz ((mk0 hv1 hv2).mp hm)) | exact (pdV_1 (by omega) hz (by omega) ((mk1 hv1 hv2).mp hm))), rfl, d9, rfl, by omega, (fun k => by simp (disch := decide) only [qup_ne, qup_if]), (fun k => by simp (disch := decide) only [qup_ne, qup_if]), fun q k h2 h3 h4 => by simp only [qup_ne h2, qup_ne h3, qup_ne h4]⟩
          · skip
            refine qG.blk 7 (pc' := 41) (ls' := [(2, 74), (0, ((d9 : Nat) : Int)), (0, s), (0, v), (0, b), (0, 65280)]) (st' := [(0, qand v (qxor 65280 (-1)))]) (w' := w) (n' := 142) rfl ?_
            refine qG.br (P := qand v (qxor 65280 (-1)) = 0) (pc1 := 46) (pc2 := 44) (st1 := []) rfl (fun hm => ?_) (fun hm => ?_)
            · skip
              refine qG.blk 2 (pc' := 50) (ls' := [(2, 74), (0, ((d9 : Nat) : Int)), (0, s), (0, v), (0, b), (0, 65280)]) (st' := [(2, w 74 3)]) (w' := w) (n' := 142) rfl ?_
              rw [show w 74 3 = 76 from zref hI rfl rfl]
              refine qG.blk 2 (pc' := 52) (ls' := [(2, 74), (0, ((d9 : Nat) : Int)), (0, s), (0, v), (0, b), (0, 65280)]) (st' := [(0, s), (0, ((d9 : Nat) : Int)), (2, 76)]) (w' := w) (n' := 142) rfl ?_
              refine qG.ar (P := 0 ≤ ((d9 : Nat) : Int) ∧ ((d9 : Nat) : Int) < ((10 : Nat) : Int)) (P2 := 0 < (76 : Int) ∧ (76 : Int) ≤ ((142 : Nat) : Int)) (pc' := 53) (ls' := [(2, 74), (0, ((d9 : Nat) : Int)), (0, s), (0, v), (0, b), (0, 65280)]) (st' := []) (w' := (qup w 76 d9 s)) (n' := 142) rfl (by omega) (by decide) ?_
              refine qG.blk 2 (pc' := 57) (ls' := [(2, 74), (0, ((d9 : Nat) : Int)), (0, s), (0, v), (0, b), (0, 65280)]) (st' := [(2, w 74 4)]) (w' := (qup w 76 d9 s)) (n' := 142) rfl ?_
              rw [show w 74 4 = 77 from zref hI rfl rfl]
              refine qG.blk 2 (pc' := 59) (ls' := [(2, 74), (0, ((d9 : Nat) : Int)), (0, s), (0, v), (0, b), (0, 65280)]) (st' := [(0, v), (0, ((d9 : Nat) : Int)), (2, 77)]) (w' := (qup w 76 d9 s)) (n' := 142) rfl ?_
              refine qG.ar (P := 0 ≤ ((d9 : Nat) : Int) ∧ ((d9 : Nat) : Int) < ((10 : Nat) : Int)) (P2 := 0 < (77 : Int) ∧ (77 : Int) ≤ ((142 : Nat) : Int)) (pc' := 60) (ls' := [(2, 74), (0, ((d9 : Nat) : Int)), (0, s), (0, v), (0, b), (0, 65280)]) (st' := []) (w' := (qup (qup w 76 d9 s) 77 d9 v)) (n' := 142) rfl (by omega) (by decide) ?_
              refine qG.blk 2 (pc' := 64) (ls' := [(2, 74), (0, ((d9 : Nat) : Int)), (0, s), (0, v), (0, b), (0, 65280)]) (st' := [(2, w 74 5)]) (w' := (qup (qup w 76 d9 s) 77 d9 v)) (n' := 142) rfl ?_
              rw [show w 74 5 = 78 from zref hI rfl rfl]
              refine qG.blk 2 (pc' := 67) (ls' := [(2, 74), (0, ((d9 : Nat) : Int)), (0, s), (0, v), (0, b), (0, 65280)]) (st' := [(0, b), (0, ((d9 : Nat) : Int)), (2, 78)]) (w' := (qup (qup w 76 d9 s) 77 d9 v)) (n' := 142) rfl ?_
              refine qG.ar (P := (0 ≤ ((d9 : Nat) : Int) ∧ ((d9 : Nat) : Int) < ((10 : Nat) : Int)) ∧ 0 ≤ b ∧ b ≤ 1) (P2 := 0 < (78 : Int) ∧ (78 : Int) ≤ ((142 : Nat) : Int)) (pc' := 68) (ls' := [(2, 74), (0, ((d9 : Nat) : Int)), (0, s), (0, v), (0, b), (0, 65280)]) (st' := []) (w' := (qup (qup (qup w 76 d9 s) 77 d9 v) 78 d9 b)) (n' := 142) rfl (by exact ⟨⟨by omega, by omega⟩, hb⟩) (by decide) ?_
              refine qG.blk 1 (pc' := 69) (ls' := [(2, 74), (0, ((d9 : Nat) : Int)), (0, s), (0, v), (0, b), (0, 65280)]) (st' := [(0, 1)]) (w' := (qup (qup (qup w 76 d9 s) 77 d9 v) 78 d9 b)) (n' := 142) rfl ?_
              refine qG.ret rfl (by first | rfl | exact decide_eq_true (by omega)) ?_
              subst hQ9
              refine ⟨rfl, ?_⟩; first | exact .inl ⟨(by first | exact (pdV_r (by omega)) | exact (pdV_0n hz (fun z => hm ((mk0 hv1 hv2).mpr z))) | exact (pdV_1n hz (fun z => hm ((mk1 hv1 hv2).mpr z)))), rfl, rfl⟩ | exact .inr ⟨(by first | exact (pdV_0 (by omega) hz ((mk0 hv1 hv2).mp hm)) | exact (pdV_1 (by omega) hz (by omega) ((mk1 hv1 hv2).mp hm))), rfl, d9, rfl, by omega, (fun k => by simp (disch := decide) only [qup_ne, qup_if]), (fun k => by simp (disch := decide) only [qup_ne, qup_if]), fun q k h2 h3 h4 => by simp only [qup_ne h2, qup_ne h3, qup_ne h4]⟩
            · skip
              refine qG.blk 1 (pc' := 45) (ls' := [(2, 74), (0, ((d9 : Nat) : Int)), (0, s), (0, v), (0, b), (0, 65280)]) (st' := [(0, 0)]) (w' := w) (n' := 142) rfl ?_
              refine qG.ret rfl (by first | rfl | exact decide_eq_true (by omega)) ?_
              subst hQ9
              refine ⟨rfl, ?_⟩; first | exact .inl ⟨(by first | exact (pdV_r (by omega)) | exact (pdV_0n hz (fun z => hm ((mk0 hv1 hv2).mpr z))) | exact (pdV_1n hz (fun z => hm ((mk1 hv1 hv2).mpr z)))), rfl, rfl⟩ | exact .inr ⟨(by first | exact (pdV_0 (by omega) hz ((mk0 hv1 hv2).mp hm)) | exact (pdV_1 (by omega) hz (by omega) ((mk1 hv1 hv2).mp hm))), rfl, d9, rfl, by omega, (fun k => by simp (disch := decide) only [qup_ne, qup_if]), (fun k => by simp (disch := decide) only [qup_ne, qup_if]), fun q k h2 h3 h4 => by simp only [qup_ne h2, qup_ne h3, qup_ne h4]⟩
    · skip
      refine qG.blk 1 (pc' := 20) (ls' := [(2, 74), (0, d1), (0, s), (0, v), (0, b), (9, 0)]) (st' := [(0, 0)]) (w' := w) (n' := 142) rfl ?_
      refine qG.ret rfl (by first | rfl | exact decide_eq_true (by omega)) ?_
      subst hQ9
      refine ⟨rfl, ?_⟩; first | exact .inl ⟨(by first | exact (pdV_r (by omega)) | exact (pdV_0n hz (fun z => hm ((mk0 hv1 hv2).mpr z))) | exact (pdV_1n hz (fun z => hm ((mk1 hv1 hv2).mpr z)))), rfl, rfl⟩ | exact .inr ⟨(by first | exact (pdV_0 (by omega) hz ((mk0 hv1 hv2).mp hm)) | exact (pdV_1 (by omega) hz (by omega) ((mk1 hv1 hv2).mp hm))), rfl, d9, rfl, by omega, (fun k => by simp (disch := decide) only [qup_ne, qup_if]), (fun k => by simp (disch := decide) only [qup_ne, qup_if]), fun q k h2 h3 h4 => by simp only [qup_ne h2, qup_ne h3, qup_ne h4]⟩
theorem K_X11_doorE_0 {d : Nat} (hd : 1 ≤ d) (d1 s v b : Int) (hv1 : -2147483648 ≤ v) (hv2 : v ≤ 2147483647) (hb : 0 ≤ b ∧ b ≤ 1) (w : qW) (hI : yInv zgf zga zra zSp w) : qG none d 166 0 [(2, 1), (0, 0), (0, d1), (0, s), (0, v), (0, b)] [] w 142 (fun (r : qV) (w1 : qW) (_ : Nat) => drX 0 d1 s v b w r w1) := by
  generalize hQ9 : (fun (r : qV) (w1 : qW) (_ : Nat) => drX 0 d1 s v b w r w1) = Q9
  obtain ⟨d, rfl⟩ : ∃ d9, d = d9 + 1 := ⟨d - 1, by omega⟩
  refine qG.blk 1 (pc' := 1) (ls' := [(2, 1), (0, 0), (0, d1), (0, s), (0, v), (0, b)]) (st' := [(0, 0)]) (w' := w) (n' := 142) rfl ?_
  refine qG.call (t := 198) (na := 1) (sk := 0) (md := 0) (ls1 := [(0, 0)]) (r1 := []) rfl rfl rfl rfl rfl (K_X11_isChest (Nat.zero_le _) _ _) ?_
  rintro _ w7 _ ⟨rfl, hw7, rfl⟩
  rw [hw7, show isInV 0 0 2 = 1 from by decide]
  show qG none (d + 1) 166 4 [(2, 1), (0, 0), (0, d1), (0, s), (0, v), (0, b)] [(0, 1)] w 142 Q9
  refine qG.br (P := (1 : Int) = 0) (pc1 := 29) (pc2 := 7) (st1 := []) rfl (fun h1 => ?_) (fun h1 => ?_)
  · exact absurd h1 (by decide)
  · skip
    refine qG.blk 2 (pc' := 11) (ls' := [(2, 1), (0, 0), (0, d1), (0, s), (0, v), (0, b)]) (st' := [(2, w 1 0)]) (w' := w) (n' := 142) rfl ?_
    rw [show w 1 0 = 2 from zref hI rfl rfl]
    refine qG.blk 1 (pc' := 12) (ls' := [(2, 1), (0, 0), (0, d1), (0, s), (0, v), (0, b)]) (st' := [(0, 0), (2, 2)]) (w' := w) (n' := 142) rfl ?_
    refine qG.ar (P := 0 ≤ 0 ∧ 0 < ((3 : Nat) : Int)) (P2 := 0 < (2 : Int) ∧ (2 : Int) ≤ ((142 : Nat) : Int)) (pc' := 13) (ls' := [(2, 1), (0, 0), (0, d1), (0, s), (0, v), (0, b)]) (st' := [(2, w 2 0)]) (w' := w) (n' := 142) rfl (by omega) (by decide) ?_
    rw [show w 2 0 = 64 from zref hI rfl rfl]
    refine qG.blk 4 (pc' := 19) (ls' := [(2, 1), (0, 0), (0, d1), (0, s), (0, v), (0, b)]) (st' := [(0, b), (0, v), (0, s), (0, d1), (2, 64)]) (w' := w) (n' := 142) rfl ?_
    refine qG.call (t := 22) (na := 5) (sk := 1) (md := 1) (ls1 := [(2, 64), (0, d1), (0, s), (0, v), (0, b), (9, 0)]) (r1 := []) rfl rfl rfl rfl rfl (K_putDoorE64 (Nat.zero_le _) d1 s v b hv1 hv2 hb w hI) ?_
    rintro ⟨_, x9⟩ w1 _ ⟨rfl, hE⟩; rcases hE with ⟨h9, hx9, hw1⟩ | ⟨h9, hx9, hE⟩ <;> obtain ⟨rfl, rfl⟩ := Prod.mk.inj hx9
    · skip
      show qG none (d + 1) 166 22 [(2, 1), (0, 0), (0, d1), (0, s), (0, v), (0, b)] [(0, 0)] w1 142 Q9
      refine qG.br (P := (0 : Int) = 0) (pc1 := 29) (pc2 := 25) (st1 := []) rfl (fun h2 => ?_) (fun h2 => ?_)
      · skip
        refine qG.blk 1 (pc' := 30) (ls' := [(2, 1), (0, 0), (0, d1), (0, s), (0, v), (0, b)]) (st' := [(0, 0)]) (w' := w1) (n' := 142) rfl ?_
        refine qG.ret rfl (by first | rfl | exact decide_eq_true (by omega)) ?_
        subst hQ9
        first | exact .inl ⟨h9, rfl, hw1⟩ | (obtain ⟨d9, e1, e2, e3, e4, e5⟩ := hE; exact .inr ⟨h9, rfl, 0, d9, rfl, e1, by decide, e2, e3, e4, e5⟩)
      · exact absurd h2 (by decide)
    · skip
      show qG none (d + 1) 166 22 [(2, 1), (0, 0), (0, d1), (0, s), (0, v), (0, b)] [(0, 1)] w1 142 Q9
      refine qG.br (P := (1 : Int) = 0) (pc1 := 29) (pc2 := 25) (st1 := []) rfl (fun h3 => ?_) (fun h3 => ?_)
      · exact absurd h3 (by decide)
      · skip
        refine qG.blk 2 (pc' := 30) (ls' := [(2, 1), (0, 0), (0, d1), (0, s), (0, v), (0, b)]) (st' := [(0, 1)]) (w' := w1) (n' := 142) rfl ?_
        refine qG.ret rfl (by first | rfl | exact decide_eq_true (by omega)) ?_
        subst hQ9
        first | exact .inl ⟨h9, rfl, hw1⟩ | (obtain ⟨d9, e1, e2, e3, e4, e5⟩ := hE; exact .inr ⟨h9, rfl, 0, d9, rfl, e1, by decide, e2, e3, e4, e5⟩)
theorem K_X11_doorE_1 {d : Nat} (hd : 1 ≤ d) (d1 s v b : Int) (hv1 : -2147483648 ≤ v) (hv2 : v ≤ 2147483647) (hb : 0 ≤ b ∧ b ≤ 1) (w : qW) (hI : yInv zgf zga zra zSp w) : qG none d 166 0 [(2, 1), (0, 1), (0, d1), (0, s), (0, v), (0, b)] [] w 142 (fun (r : qV) (w1 : qW) (_ : Nat) => drX 1 d1 s v b w r w1) := by
  generalize hQ9 : (fun (r : qV) (w1 : qW) (_ : Nat) => drX 1 d1 s v b w r w1) = Q9
  obtain ⟨d, rfl⟩ : ∃ d9, d = d9 + 1 := ⟨d - 1, by omega⟩
  refine qG.blk 1 (pc' := 1) (ls' := [(2, 1), (0, 1), (0, d1), (0, s), (0, v), (0, b)]) (st' := [(0, 1)]) (w' := w) (n' := 142) rfl ?_
  refine qG.call (t := 198) (na := 1) (sk := 0) (md := 0) (ls1 := [(0, 1)]) (r1 := []) rfl rfl rfl rfl rfl (K_X11_isChest (Nat.zero_le _) _ _) ?_
  rintro _ w7 _ ⟨rfl, hw7, rfl⟩
  rw [hw7, show isInV 1 0 2 = 1 from by decide]
  show qG none (d + 1) 166 4 [(2, 1), (0, 1), (0, d1), (0, s), (0, v), (0, b)] [(0, 1)] w 142 Q9
  refine qG.br (P := (1 : Int) = 0) (pc1 := 29) (pc2 := 7) (st1 := []) rfl (fun h1 => ?_) (fun h1 => ?_)
  · exact absurd h1 (by decide)
  · skip
    refine qG.blk 2 (pc' := 11) (ls' := [(2, 1), (0, 1), (0, d1), (0, s), (0, v), (0, b)]) (st' := [(2, w 1 0)]) (w' := w) (n' := 142) rfl ?_
    rw [show w 1 0 = 2 from zref hI rfl rfl]
    refine qG.blk 1 (pc' := 12) (ls' := [(2, 1), (0, 1), (0, d1), (0, s), (0, v), (0, b)]) (st' := [(0, 1), (2, 2)]) (w' := w) (n' := 142) rfl ?_
    refine qG.ar (P := 0 ≤ 1 ∧ 1 < ((3 : Nat) : Int)) (P2 := 0 < (2 : Int) ∧ (2 : Int) ≤ ((142 : Nat) : Int)) (pc' := 13) (ls' := [(2, 1), (0, 1), (0, d1), (0, s), (0, v), (0, b)]) (st' := [(2, w 2 1)]) (w' := w) (n' := 142) rfl (by omega) (by decide) ?_
    rw [show w 2 1 = 69 from zref hI rfl rfl]
    refine qG.blk 4 (pc' := 19) (ls' := [(2, 1), (0, 1), (0, d1), (0, s), (0, v), (0, b)]) (st' := [(0, b), (0, v), (0, s), (0, d1), (2, 69)]) (w' := w) (n' := 142) rfl ?_
    refine qG.call (t := 22) (na := 5) (sk := 1) (md := 1) (ls1 := [(2, 69), (0, d1), (0, s), (0, v), (0, b), (9, 0)]) (r1 := []) rfl rfl rfl rfl rfl (K_putDoorE69 (Nat.zero_le _) d1 s v b hv1 hv2 hb w hI) ?_
    rintro ⟨_, x9⟩ w1 _ ⟨rfl, hE⟩; rcases hE with ⟨h9, hx9, hw1⟩ | ⟨h9, hx9, hE⟩ <;> obtain ⟨rfl, rfl⟩ := Prod.mk.inj hx9
    · skip
      show qG none (d + 1) 166 22 [(2, 1), (0, 1), (0, d1), (0, s), (0, v), (0, b)] [(0, 0)] w1 142 Q9
      refine qG.br (P := (0 : Int) = 0) (pc1 := 29) (pc2 := 25) (st1 := []) rfl (fun h2 => ?_) (fun h2 => ?_)
      · skip
        refine qG.blk 1 (pc' := 30) (ls' := [(2, 1), (0, 1), (0, d1), (0, s), (0, v), (0, b)]) (st' := [(0, 0)]) (w' := w1) (n' := 142) rfl ?_
        refine qG.ret rfl (by first | rfl | exact decide_eq_true (by omega)) ?_
        subst hQ9
        first | exact .inl ⟨h9, rfl, hw1⟩ | (obtain ⟨d9, e1, e2, e3, e4, e5⟩ := hE; exact .inr ⟨h9, rfl, 1, d9, rfl, e1, by decide, e2, e3, e4, e5⟩)
      · exact absurd h2 (by decide)
    · skip
      show qG none (d + 1) 166 22 [(2, 1), (0, 1), (0, d1), (0, s), (0, v), (0, b)] [(0, 1)] w1 142 Q9
      refine qG.br (P := (1 : Int) = 0) (pc1 := 29) (pc2 := 25) (st1 := []) rfl (fun h3 => ?_) (fun h3 => ?_)
      · exact absurd h3 (by decide)
      · skip
        refine qG.blk 2 (pc' := 30) (ls' := [(2, 1), (0, 1), (0, d1), (0, s), (0, v), (0, b)]) (st' := [(0, 1)]) (w' := w1) (n' := 142) rfl ?_
        refine qG.ret rfl (by first | rfl | exact decide_eq_true (by omega)) ?_
        subst hQ9
        first | exact .inl ⟨h9, rfl, hw1⟩ | (obtain ⟨d9, e1, e2, e3, e4, e5⟩ := hE; exact .inr ⟨h9, rfl, 1, d9, rfl, e1, by decide, e2, e3, e4, e5⟩)
theorem K_X11_doorE_2 {d : Nat} (hd : 1 ≤ d) (d1 s v b : Int) (hv1 : -2147483648 ≤ v) (hv2 : v ≤ 2147483647) (hb : 0 ≤ b ∧ b ≤ 1) (w : qW) (hI : yInv zgf zga zra zSp w) : qG none d 166 0 [(2, 1), (0, 2), (0, d1), (0, s), (0, v), (0, b)] [] w 142 (fun (r : qV) (w1 : qW) (_ : Nat) => drX 2 d1 s v b w r w1) := by
  generalize hQ9 : (fun (r : qV) (w1 : qW) (_ : Nat) => drX 2 d1 s v b w r w1) = Q9
  obtain ⟨d, rfl⟩ : ∃ d9, d = d9 + 1 := ⟨d - 1, by omega⟩
  refine qG.blk 1 (pc' := 1) (ls' := [(2, 1), (0, 2), (0, d1), (0, s), (0, v), (0, b)]) (st' := [(0, 2)]) (w' := w) (n' := 142) rfl ?_
  refine qG.call (t := 198) (na := 1) (sk := 0) (md := 0) (ls1 := [(0, 2)]) (r1 := []) rfl rfl rfl rfl rfl (K_X11_isChest (Nat.zero_le _) _ _) ?_
  rintro _ w7 _ ⟨rfl, hw7, rfl⟩
  rw [hw7, show isInV 2 0 2 = 1 from by decide]
  show qG none (d + 1) 166 4 [(2, 1), (0, 2), (0, d1), (0, s), (0, v), (0, b)] [(0, 1)] w 142 Q9
  refine qG.br (P := (1 : Int) = 0) (pc1 := 29) (pc2 := 7) (st1 := []) rfl (fun h1 => ?_) (fun h1 => ?_)
  · exact absurd h1 (by decide)
  · skip
    refine qG.blk 2 (pc' := 11) (ls' := [(2, 1), (0, 2), (0, d1), (0, s), (0, v), (0, b)]) (st' := [(2, w 1 0)]) (w' := w) (n' := 142) rfl ?_
    rw [show w 1 0 = 2 from zref hI rfl rfl]
    refine qG.blk 1 (pc' := 12) (ls' := [(2, 1), (0, 2), (0, d1), (0, s), (0, v), (0, b)]) (st' := [(0, 2), (2, 2)]) (w' := w) (n' := 142) rfl ?_
    refine qG.ar (P := 0 ≤ 2 ∧ 2 < ((3 : Nat) : Int)) (P2 := 0 < (2 : Int) ∧ (2 : Int) ≤ ((142 : Nat) : Int)) (pc' := 13) (ls' := [(2, 1), (0, 2), (0, d1), (0, s), (0, v), (0, b)]) (st' := [(2, w 2 2)]) (w' := w) (n' := 142) rfl (by omega) (by decide) ?_
    rw [show w 2 2 = 74 from zref hI rfl rfl]
    refine qG.blk 4 (pc' := 19) (ls' := [(2, 1), (0, 2), (0, d1), (0, s), (0, v), (0, b)]) (st' := [(0, b), (0, v), (0, s), (0, d1), (2, 74)]) (w' := w) (n' := 142) rfl ?_
    refine qG.call (t := 22) (na := 5) (sk := 1) (md := 1) (ls1 := [(2, 74), (0, d1), (0, s), (0, v), (0, b), (9, 0)]) (r1 := []) rfl rfl rfl rfl rfl (K_putDoorE74 (Nat.zero_le _) d1 s v b hv1 hv2 hb w hI) ?_
    rintro ⟨_, x9⟩ w1 _ ⟨rfl, hE⟩; rcases hE with ⟨h9, hx9, hw1⟩ | ⟨h9, hx9, hE⟩ <;> obtain ⟨rfl, rfl⟩ := Prod.mk.inj hx9
    · skip
      show qG none (d + 1) 166 22 [(2, 1), (0, 2), (0, d1), (0, s), (0, v), (0, b)] [(0, 0)] w1 142 Q9
      refine qG.br (P := (0 : Int) = 0) (pc1 := 29) (pc2 := 25) (st1 := []) rfl (fun h2 => ?_) (fun h2 => ?_)
      · skip
        refine qG.blk 1 (pc' := 30) (ls' := [(2, 1), (0, 2), (0, d1), (0, s), (0, v), (0, b)]) (st' := [(0, 0)]) (w' := w1) (n' := 142) rfl ?_
        refine qG.ret rfl (by first | rfl | exact decide_eq_true (by omega)) ?_
        subst hQ9
        first | exact .inl ⟨h9, rfl, hw1⟩ | (obtain ⟨d9, e1, e2, e3, e4, e5⟩ := hE; exact .inr ⟨h9, rfl, 2, d9, rfl, e1, by decide, e2, e3, e4, e5⟩)
      · exact absurd h2 (by decide)
    · skip
      show qG none (d + 1) 166 22 [(2, 1), (0, 2), (0, d1), (0, s), (0, v), (0, b)] [(0, 1)] w1 142 Q9
      refine qG.br (P := (1 : Int) = 0) (pc1 := 29) (pc2 := 25) (st1 := []) rfl (fun h3 => ?_) (fun h3 => ?_)
      · exact absurd h3 (by decide)
      · skip
        refine qG.blk 2 (pc' := 30) (ls' := [(2, 1), (0, 2), (0, d1), (0, s), (0, v), (0, b)]) (st' := [(0, 1)]) (w' := w1) (n' := 142) rfl ?_
        refine qG.ret rfl (by first | rfl | exact decide_eq_true (by omega)) ?_
        subst hQ9
        first | exact .inl ⟨h9, rfl, hw1⟩ | (obtain ⟨d9, e1, e2, e3, e4, e5⟩ := hE; exact .inr ⟨h9, rfl, 2, d9, rfl, e1, by decide, e2, e3, e4, e5⟩)
theorem K_X11_doorE_n {d : Nat} (hd : 1 ≤ d) (c d1 s v b : Int) (hc : isInV c 0 2 = 0) (hv1 : -2147483648 ≤ v) (hv2 : v ≤ 2147483647) (hb : 0 ≤ b ∧ b ≤ 1) (w : qW) (hI : yInv zgf zga zra zSp w) : qG none d 166 0 [(2, 1), (0, c), (0, d1), (0, s), (0, v), (0, b)] [] w 142 (fun (r : qV) (w1 : qW) (_ : Nat) => drX c d1 s v b w r w1) := by
  generalize hQ9 : (fun (r : qV) (w1 : qW) (_ : Nat) => drX c d1 s v b w r w1) = Q9
  obtain ⟨d, rfl⟩ : ∃ d9, d = d9 + 1 := ⟨d - 1, by omega⟩
  refine qG.blk 1 (pc' := 1) (ls' := [(2, 1), (0, c), (0, d1), (0, s), (0, v), (0, b)]) (st' := [(0, c)]) (w' := w) (n' := 142) rfl ?_
  refine qG.call (t := 198) (na := 1) (sk := 0) (md := 0) (ls1 := [(0, c)]) (r1 := []) rfl rfl rfl rfl rfl (K_X11_isChest (Nat.zero_le _) _ _) ?_
  rintro _ w7 _ ⟨rfl, hw7, rfl⟩
  rw [hw7]
  show qG none (d + 1) 166 4 [(2, 1), (0, c), (0, d1), (0, s), (0, v), (0, b)] [(0, isInV c 0 2)] w 142 Q9
  refine qG.br (P := isInV c 0 2 = 0) (pc1 := 29) (pc2 := 7) (st1 := []) rfl (fun hc0 => ?_) (fun hc0 => ?_)
  · skip
    refine qG.blk 1 (pc' := 30) (ls' := [(2, 1), (0, c), (0, d1), (0, s), (0, v), (0, b)]) (st' := [(0, 0)]) (w' := w) (n' := 142) rfl ?_
    refine qG.ret rfl (by first | rfl | exact decide_eq_true (by omega)) ?_
    subst hQ9
    exact .inl ⟨if_pos hc, rfl, rfl⟩
  · exfalso; exact hc0 hc
theorem K_X11_doorE {d : Nat} (hd : 1 ≤ d) (c d1 s v b : Int) (hv1 : -2147483648 ≤ v) (hv2 : v ≤ 2147483647) (hb : 0 ≤ b ∧ b ≤ 1) (w : qW) (hI : yInv zgf zga zra zSp w) : qG none d 166 0 (qini 166 [(2, 1), (0, c), (0, d1), (0, s), (0, v), (0, b)]) [] w 142 (fun (r : qV) (w1 : qW) (_ : Nat) => drX c d1 s v b w r w1) := by
  by_cases h : isInV c 0 2 = 0
  · exact K_X11_doorE_n hd c d1 s v b h hv1 hv2 hb w hI
  · obtain ⟨n, rfl, h1, h2⟩ := isIn_n (by decide) h
    rcases (show n = 0 ∨ n = 1 ∨ n = 2 by omega) with rfl | rfl | rfl
    · exact K_X11_doorE_0 hd d1 s v b hv1 hv2 hb w hI
    · exact K_X11_doorE_1 hd d1 s v b hv1 hv2 hb w hI
    · exact K_X11_doorE_2 hd d1 s v b hv1 hv2 hb w hI
theorem K_X12_doorE {d : Nat} (hd : 2 ≤ d) (c d1 s v b : Int) (hv1 : -2147483648 ≤ v) (hv2 : v ≤ 2147483647) (hb : 0 ≤ b ∧ b ≤ 1) (w : qW) (hI : yInv zgf zga zra zSp w) : qG none d 217 0 [(2, 95), (0, c), (0, d1), (0, s), (0, v), (0, b)] [] w 142 (fun (r : qV) (w1 : qW) (_ : Nat) => drR c d1 s v b w r w1) := by
  generalize hQ9 : (fun (r : qV) (w1 : qW) (_ : Nat) => drR c d1 s v b w r w1) = Q9
  obtain ⟨d, rfl⟩ : ∃ d9, d = d9 + 1 := ⟨d - 1, by omega⟩
  refine qG.blk 1 (pc' := 1) (ls' := [(2, 95), (0, c), (0, d1), (0, s), (0, v), (0, b)]) (st' := [(0, c)]) (w' := w) (n' := 142) rfl ?_
  refine qG.call (t := 207) (na := 1) (sk := 0) (md := 0) (ls1 := [(0, c)]) (r1 := []) rfl rfl rfl rfl rfl (K_isChest (by omega) _ _) ?_
  rintro _ w7 _ ⟨rfl, hw7, rfl⟩
  rw [hw7]
  show qG none (d + 1) 217 4 [(2, 95), (0, c), (0, d1), (0, s), (0, v), (0, b)] [(0, isInV c 0 2)] w 142 Q9
  refine qG.br (P := isInV c 0 2 = 0) (pc1 := 52) (pc2 := 7) (st1 := []) rfl (fun hc0 => ?_) (fun hc0 => ?_)
  · skip
    refine qG.blk 1 (pc' := 53) (ls' := [(2, 95), (0, c), (0, d1), (0, s), (0, v), (0, b)]) (st' := [(0, 0)]) (w' := w) (n' := 142) rfl ?_
    refine qG.ret rfl (by first | rfl | exact decide_eq_true (by omega)) ?_
    subst hQ9
    first | exact .inl ⟨(by unfold doorV; first | (rw [if_pos hc0]; done) | (rw [if_neg hc0, pdV_r (by rw [isIn_b] at hd0; omega)]; done) | (rw [if_neg hc0, pdV_r (by rw [isIn_b] at hs0; omega)]; done) | (rw [if_neg hc0]; rw [isIn_b] at hv0; by_cases q : s = 0; exact (pdV_0n q (fun z => hv0 z.1)); exact (pdV_1n q (fun z => hv0 z.1))) | (rw [if_neg hc0]; rw [isIn_b] at hs0 hv0; first | exact (pdV_0n hz (fun z => hm z.2)) | exact (pdV_1n hz (fun z => hm z.2)))), rfl, rfl⟩ | exact .inr ⟨(by unfold doorV; rw [if_neg hc0]; rw [isIn_b] at hs0 hv0; first | exact (pdV_0 (by omega) hz ⟨by omega, hm⟩) | exact (pdV_1 (by omega) hz (by omega) ⟨by omega, hm⟩)), rfl, c9, d9, rfl, rfl, by omega, by omega, (fun k => by simp (disch := decide) only [qup_ne, qup_if]), (fun k => by simp (disch := decide) only [qup_ne, qup_if]), fun q k h2 h3 h4 => by simp only [qup_ne h2, qup_ne h3, qup_ne h4]⟩
  · skip
    obtain ⟨c9, rfl, hlc9, huc9⟩ := isIn_n (by decide) hc0
    refine qG.blk 3 (pc' := 11) (ls' := [(2, 95), (0, ((c9 : Nat) : Int)), (0, d1), (0, s), (0, v), (0, b)]) (st' := [(0, 9), (0, 0), (0, d1)]) (w' := w) (n' := 142) rfl ?_
    refine qG.call (t := 206) (na := 3) (sk := 0) (md := 0) (ls1 := [(0, d1), (0, 0), (0, 9)]) (r1 := []) rfl rfl rfl rfl rfl (K_isIn (Nat.zero_le _) _ _ _ _) ?_
    rintro _ w7 _ ⟨rfl, hw7, rfl⟩
    rw [hw7]
    show qG none (d + 1) 217 14 [(2, 95), (0, ((c9 : Nat) : Int)), (0, d1), (0, s), (0, v), (0, b)] [(0, isInV (d1) (0) (9))] w 142 Q9
    refine qG.br (P := isInV (d1) (0) (9) = 0) (pc1 := 52) (pc2 := 17) (st1 := []) rfl (fun hd0 => ?_) (fun hd0 => ?_)
    · skip
      refine qG.blk 1 (pc' := 53) (ls' := [(2, 95), (0, ((c9 : Nat) : Int)), (0, d1), (0, s), (0, v), (0, b)]) (st' := [(0, 0)]) (w' := w) (n' := 142) rfl ?_
      refine qG.ret rfl (by first | rfl | exact decide_eq_true (by omega)) ?_
      subst hQ9
      first | exact .inl ⟨(by unfold doorV; first | (rw [if_pos hc0]; done) | (rw [if_neg hc0, pdV_r (by rw [isIn_b] at hd0; omega)]; done) | (rw [if_neg hc0, pdV_r (by rw [isIn_b] at hs0; omega)]; done) | (rw [if_neg hc0]; rw [isIn_b] at hv0; by_cases q : s = 0; exact (pdV_0n q (fun z => hv0 z.1)); exact (pdV_1n q (fun z => hv0 z.1))) | (rw [if_neg hc0]; rw [isIn_b] at hs0 hv0; first | exact (pdV_0n hz (fun z => hm z.2)) | exact (pdV_1n hz (fun z => hm z.2)))), rfl, rfl⟩ | exact .inr ⟨(by unfold doorV; rw [if_neg hc0]; rw [isIn_b] at hs0 hv0; first | exact (pdV_0 (by omega) hz ⟨by omega, hm⟩) | exact (pdV_1 (by omega) hz (by omega) ⟨by omega, hm⟩)), rfl, c9, d9, rfl, rfl, by omega, by omega, (fun k => by simp (disch := decide) only [qup_ne, qup_if]), (fun k => by simp (disch := decide) only [qup_ne, qup_if]), fun q k h2 h3 h4 => by simp only [qup_ne h2, qup_ne h3, qup_ne h4]⟩
    · skip
      obtain ⟨d9, rfl, hld9, hud9⟩ := isIn_n (by decide) hd0
      refine qG.blk 3 (pc' := 20) (ls' := [(2, 95), (0, ((c9 : Nat) : Int)), (0, ((d9 : Nat) : Int)), (0, s), (0, v), (0, b)]) (st' := [(0, 1), (0, 0), (0, s)]) (w' := w) (n' := 142) rfl ?_
      refine qG.call (t := 206) (na := 3) (sk := 0) (md := 0) (ls1 := [(0, s), (0, 0), (0, 1)]) (r1 := []) rfl rfl rfl rfl rfl (K_isIn (Nat.zero_le _) _ _ _ _) ?_
      rintro _ w7 _ ⟨rfl, hw7, rfl⟩
      rw [hw7]
      show qG none (d + 1) 217 23 [(2, 95), (0, ((c9 : Nat) : Int)), (0, ((d9 : Nat) : Int)), (0, s), (0, v), (0, b)] [(0, isInV (s) (0) (1))] w 142 Q9
      refine qG.br (P := isInV (s) (0) (1) = 0) (pc1 := 52) (pc2 := 26) (st1 := []) rfl (fun hs0 => ?_) (fun hs0 => ?_)
      · skip
        refine qG.blk 1 (pc' := 53) (ls' := [(2, 95), (0, ((c9 : Nat) : Int)), (0, ((d9 : Nat) : Int)), (0, s), (0, v), (0, b)]) (st' := [(0, 0)]) (w' := w) (n' := 142) rfl ?_
        refine qG.ret rfl (by first | rfl | exact decide_eq_true (by omega)) ?_
        subst hQ9
        first | exact .inl ⟨(by unfold doorV; first | (rw [if_pos hc0]; done) | (rw [if_neg hc0, pdV_r (by rw [isIn_b] at hd0; omega)]; done) | (rw [if_neg hc0, pdV_r (by rw [isIn_b] at hs0; omega)]; done) | (rw [if_neg hc0]; rw [isIn_b] at hv0; by_cases q : s = 0; exact (pdV_0n q (fun z => hv0 z.1)); exact (pdV_1n q (fun z => hv0 z.1))) | (rw [if_neg hc0]; rw [isIn_b] at hs0 hv0; first | exact (pdV_0n hz (fun z => hm z.2)) | exact (pdV_1n hz (fun z => hm z.2)))), rfl, rfl⟩ | exact .inr ⟨(by unfold doorV; rw [if_neg hc0]; rw [isIn_b] at hs0 hv0; first | exact (pdV_0 (by omega) hz ⟨by omega, hm⟩) | exact (pdV_1 (by omega) hz (by omega) ⟨by omega, hm⟩)), rfl, c9, d9, rfl, rfl, by omega, by omega, (fun k => by simp (disch := decide) only [qup_ne, qup_if]), (fun k => by simp (disch := decide) only [qup_ne, qup_if]), fun q k h2 h3 h4 => by simp only [qup_ne h2, qup_ne h3, qup_ne h4]⟩
      · skip
        refine qG.blk 1 (pc' := 28) (ls' := [(2, 95), (0, ((c9 : Nat) : Int)), (0, ((d9 : Nat) : Int)), (0, s), (0, v), (0, b)]) (st' := [(0, v)]) (w' := w) (n' := 142) rfl ?_
        refine qG.call (t := 216) (na := 1) (sk := 0) (md := 0) (ls1 := [(0, v)]) (r1 := []) rfl rfl rfl rfl rfl (K_X12_isSet (by omega) _ _) ?_
        rintro _ w7 _ ⟨rfl, hw7, rfl⟩
        rw [hw7]
        show qG none (d + 1) 217 31 [(2, 95), (0, ((c9 : Nat) : Int)), (0, ((d9 : Nat) : Int)), (0, s), (0, v), (0, b)] [(0, isInV v 0 65535)] w 142 Q9
        refine qG.br (P := isInV v 0 65535 = 0) (pc1 := 52) (pc2 := 34) (st1 := []) rfl (fun hv0 => ?_) (fun hv0 => ?_)
        · skip
          refine qG.blk 1 (pc' := 53) (ls' := [(2, 95), (0, ((c9 : Nat) : Int)), (0, ((d9 : Nat) : Int)), (0, s), (0, v), (0, b)]) (st' := [(0, 0)]) (w' := w) (n' := 142) rfl ?_
          refine qG.ret rfl (by first | rfl | exact decide_eq_true (by omega)) ?_
          subst hQ9
          first | exact .inl ⟨(by unfold doorV; first | (rw [if_pos hc0]; done) | (rw [if_neg hc0, pdV_r (by rw [isIn_b] at hd0; omega)]; done) | (rw [if_neg hc0, pdV_r (by rw [isIn_b] at hs0; omega)]; done) | (rw [if_neg hc0]; rw [isIn_b] at hv0; by_cases q : s = 0; exact (pdV_0n q (fun z => hv0 z.1)); exact (pdV_1n q (fun z => hv0 z.1))) | (rw [if_neg hc0]; rw [isIn_b] at hs0 hv0; first | exact (pdV_0n hz (fun z => hm z.2)) | exact (pdV_1n hz (fun z => hm z.2)))), rfl, rfl⟩ | exact .inr ⟨(by unfold doorV; rw [if_neg hc0]; rw [isIn_b] at hs0 hv0; first | exact (pdV_0 (by omega) hz ⟨by omega, hm⟩) | exact (pdV_1 (by omega) hz (by omega) ⟨by omega, hm⟩)), rfl, c9, d9, rfl, rfl, by omega, by omega, (fun k => by simp (disch := decide) only [qup_ne, qup_if]), (fun k => by simp (disch := decide) only [qup_ne, qup_if]), fun q k h2 h3 h4 => by simp only [qup_ne h2, qup_ne h3, qup_ne h4]⟩
        · skip
          refine qG.blk 2 (pc' := 37) (ls' := [(2, 95), (0, ((c9 : Nat) : Int)), (0, ((d9 : Nat) : Int)), (0, s), (0, v), (0, b)]) (st' := [(0, s), (0, v)]) (w' := w) (n' := 142) rfl ?_
          refine qG.br (P := s = 0) (pc1 := 40) (pc2 := 45) (st1 := [(0, v)]) rfl (fun hz => ?_) (fun hz => ?_)
          · skip
            refine qG.blk 3 (pc' := 49) (ls' := [(2, 95), (0, ((c9 : Nat) : Int)), (0, ((d9 : Nat) : Int)), (0, s), (0, v), (0, b)]) (st' := [(0, qand v 65280)]) (w' := w) (n' := 142) rfl ?_
            refine qG.br (P := qand v 65280 = 0) (pc1 := 54) (pc2 := 52) (st1 := []) rfl (fun hm => ?_) (fun hm => ?_)
            · skip
              refine qG.blk 2 (pc' := 58) (ls' := [(2, 95), (0, ((c9 : Nat) : Int)), (0, ((d9 : Nat) : Int)), (0, s), (0, v), (0, b)]) (st' := [(2, w 95 1)]) (w' := w) (n' := 142) rfl ?_
              rw [show w 95 1 = 97 from zref hI rfl rfl]
              refine qG.blk 3 (pc' := 62) (ls' := [(2, 95), (0, ((c9 : Nat) : Int)), (0, ((d9 : Nat) : Int)), (0, s), (0, v), (0, b)]) (st' := [(0, wrp (10 * ((c9 : Nat) : Int))), (2, 97)]) (w' := w) (n' := 142) rfl ?_
              rw [show wrp (10 * ((c9 : Nat) : Int)) = ((10 * c9 : Nat) : Int) from by rw [wrp_id (by omega) (by omega)]; omega]
              refine qG.blk 2 (pc' := 64) (ls' := [(2, 95), (0, ((c9 : Nat) : Int)), (0, ((d9 : Nat) : Int)), (0, s), (0, v), (0, b)]) (st' := [(0, wrp (((10 * c9 : Nat) : Int) + ((d9 : Nat) : Int))), (2, 97)]) (w' := w) (n' := 142) rfl ?_
              rw [show wrp (((10 * c9 : Nat) : Int) + ((d9 : Nat) : Int)) = ((10 * c9 + d9 : Nat) : Int) from by rw [wrp_id (by omega) (by omega)]; omega]
              refine qG.blk 1 (pc' := 65) (ls' := [(2, 95), (0, ((c9 : Nat) : Int)), (0, ((d9 : Nat) : Int)), (0, s), (0, v), (0, b)]) (st' := [(0, s), (0, ((10 * c9 + d9 : Nat) : Int)), (2, 97)]) (w' := w) (n' := 142) rfl ?_
              refine qG.ar (P := 0 ≤ ((10 * c9 + d9 : Nat) : Int) ∧ ((10 * c9 + d9 : Nat) : Int) < ((30 : Nat) : Int)) (P2 := 0 < (97 : Int) ∧ (97 : Int) ≤ ((142 : Nat) : Int)) (pc' := 66) (ls' := [(2, 95), (0, ((c9 : Nat) : Int)), (0, ((d9 : Nat) : Int)), (0, s), (0, v), (0, b)]) (st' := []) (w' := (qup w 97 (10 * c9 + d9) s)) (n' := 142) rfl (by omega) (by decide) ?_
              refine qG.blk 2 (pc' := 70) (ls' := [(2, 95), (0, ((c9 : Nat) : Int)), (0, ((d9 : Nat) : Int)), (0, s), (0, v), (0, b)]) (st' := [(2, w 95 2)]) (w' := (qup w 97 (10 * c9 + d9) s)) (n' := 142) rfl ?_
              rw [show w 95 2 = 98 from zref hI rfl rfl]
              refine qG.blk 3 (pc' := 74) (ls' := [(2, 95), (0, ((c9 : Nat) : Int)), (0, ((d9 : Nat) : Int)), (0, s), (0, v), (0, b)]) (st' := [(0, wrp (10 * ((c9 : Nat) : Int))), (2, 98)]) (w' := (qup w 97 (10 * c9 + d9) s)) (n' := 142) rfl ?_
              rw [show wrp (10 * ((c9 : Nat) : Int)) = ((10 * c9 : Nat) : Int) from by rw [wrp_id (by omega) (by omega)]; omega]
              refine qG.blk 2 (pc' := 76) (ls' := [(2, 95), (0, ((c9 : Nat) : Int)), (0, ((d9 : Nat) : Int)), (0, s), (0, v), (0, b)]) (st' := [(0, wrp (((10 * c9 : Nat) : Int) + ((d9 : Nat) : Int))), (2, 98)]) (w' := (qup w 97 (10 * c9 + d9) s)) (n' := 142) rfl ?_
              rw [show wrp (((10 * c9 : Nat) : Int) + ((d9 : Nat) : Int)) = ((10 * c9 + d9 : Nat) : Int) from by rw [wrp_id (by omega) (by omega)]; omega]
              refine qG.blk 1 (pc' := 78) (ls' := [(2, 95), (0, ((c9 : Nat) : Int)), (0, ((d9 : Nat) : Int)), (0, s), (0, v), (0, b)]) (st' := [(0, v), (0, ((10 * c9 + d9 : Nat) : Int)), (2, 98)]) (w' := (qup w 97 (10 * c9 + d9) s)) (n' := 142) rfl ?_
              refine qG.ar (P := 0 ≤ ((10 * c9 + d9 : Nat) : Int) ∧ ((10 * c9 + d9 : Nat) : Int) < ((30 : Nat) : Int)) (P2 := 0 < (98 : Int) ∧ (98 : Int) ≤ ((142 : Nat) : Int)) (pc' := 79) (ls' := [(2, 95), (0, ((c9 : Nat) : Int)), (0, ((d9 : Nat) : Int)), (0, s), (0, v), (0, b)]) (st' := []) (w' := (qup (qup w 97 (10 * c9 + d9) s) 98 (10 * c9 + d9) v)) (n' := 142) rfl (by omega) (by decide) ?_
              refine qG.blk 2 (pc' := 83) (ls' := [(2, 95), (0, ((c9 : Nat) : Int)), (0, ((d9 : Nat) : Int)), (0, s), (0, v), (0, b)]) (st' := [(2, w 95 4)]) (w' := (qup (qup w 97 (10 * c9 + d9) s) 98 (10 * c9 + d9) v)) (n' := 142) rfl ?_
              rw [show w 95 4 = 100 from zref hI rfl rfl]
              refine qG.blk 3 (pc' := 87) (ls' := [(2, 95), (0, ((c9 : Nat) : Int)), (0, ((d9 : Nat) : Int)), (0, s), (0, v), (0, b)]) (st' := [(0, wrp (10 * ((c9 : Nat) : Int))), (2, 100)]) (w' := (qup (qup w 97 (10 * c9 + d9) s) 98 (10 * c9 + d9) v)) (n' := 142) rfl ?_
              rw [show wrp (10 * ((c9 : Nat) : Int)) = ((10 * c9 : Nat) : Int) from by rw [wrp_id (by omega) (by omega)]; omega]
              refine qG.blk 2 (pc' := 89) (ls' := [(2, 95), (0, ((c9 : Nat) : Int)), (0, ((d9 : Nat) : Int)), (0, s), (0, v), (0, b)]) (st' := [(0, wrp (((10 * c9 : Nat) : Int) + ((d9 : Nat) : Int))), (2, 100)]) (w' := (qup (qup w 97 (10 * c9 + d9) s) 98 (10 * c9 + d9) v)) (n' := 142) rfl ?_
              rw [show wrp (((10 * c9 : Nat) : Int) + ((d9 : Nat) : Int)) = ((10 * c9 + d9 : Nat) : Int) from by rw [wrp_id (by omega) (by omega)]; omega]
              refine qG.blk 1 (pc' := 91) (ls' := [(2, 95), (0, ((c9 : Nat) : Int)), (0, ((d9 : Nat) : Int)), (0, s), (0, v), (0, b)]) (st' := [(0, b), (0, ((10 * c9 + d9 : Nat) : Int)), (2, 100)]) (w' := (qup (qup w 97 (10 * c9 + d9) s) 98 (10 * c9 + d9) v)) (n' := 142) rfl ?_
              refine qG.ar (P := (0 ≤ ((10 * c9 + d9 : Nat) : Int) ∧ ((10 * c9 + d9 : Nat) : Int) < ((30 : Nat) : Int)) ∧ 0 ≤ b ∧ b ≤ 1) (P2 := 0 < (100 : Int) ∧ (100 : Int) ≤ ((142 : Nat) : Int)) (pc' := 92) (ls' := [(2, 95), (0, ((c9 : Nat) : Int)), (0, ((d9 : Nat) : Int)), (0, s), (0, v), (0, b)]) (st' := []) (w' := (qup (qup (qup w 97 (10 * c9 + d9) s) 98 (10 * c9 + d9) v) 100 (10 * c9 + d9) b)) (n' := 142) rfl (by exact ⟨⟨by omega, by omega⟩, hb⟩) (by decide) ?_
              refine qG.blk 1 (pc' := 93) (ls' := [(2, 95), (0, ((c9 : Nat) : Int)), (0, ((d9 : Nat) : Int)), (0, s), (0, v), (0, b)]) (st' := [(0, 1)]) (w' := (qup (qup (qup w 97 (10 * c9 + d9) s) 98 (10 * c9 + d9) v) 100 (10 * c9 + d9) b)) (n' := 142) rfl ?_
              refine qG.ret rfl (by first | rfl | exact decide_eq_true (by omega)) ?_
              subst hQ9
              first | exact .inl ⟨(by unfold doorV; first | (rw [if_pos hc0]; done) | (rw [if_neg hc0, pdV_r (by rw [isIn_b] at hd0; omega)]; done) | (rw [if_neg hc0, pdV_r (by rw [isIn_b] at hs0; omega)]; done) | (rw [if_neg hc0]; rw [isIn_b] at hv0; by_cases q : s = 0; exact (pdV_0n q (fun z => hv0 z.1)); exact (pdV_1n q (fun z => hv0 z.1))) | (rw [if_neg hc0]; rw [isIn_b] at hs0 hv0; first | exact (pdV_0n hz (fun z => hm z.2)) | exact (pdV_1n hz (fun z => hm z.2)))), rfl, rfl⟩ | exact .inr ⟨(by unfold doorV; rw [if_neg hc0]; rw [isIn_b] at hs0 hv0; first | exact (pdV_0 (by omega) hz ⟨by omega, hm⟩) | exact (pdV_1 (by omega) hz (by omega) ⟨by omega, hm⟩)), rfl, c9, d9, rfl, rfl, by omega, by omega, (fun k => by simp (disch := decide) only [qup_ne, qup_if]), (fun k => by simp (disch := decide) only [qup_ne, qup_if]), fun q k h2 h3 h4 => by simp only [qup_ne h2, qup_ne h3, qup_ne h4]⟩
            · skip
              refine qG.blk 1 (pc' := 53) (ls' := [(2, 95), (0, ((c9 : Nat) : Int)), (0, ((d9 : Nat) : Int)), (0, s), (0, v), (0, b)]) (st' := [(0, 0)]) (w' := w) (n' := 142) rfl ?_
              refine qG.ret rfl (by first | rfl | exact decide_eq_true (by omega)) ?_
              subst hQ9
              first | exact .inl ⟨(by unfold doorV; first | (rw [if_pos hc0]; done) | (rw [if_neg hc0, pdV_r (by rw [isIn_b] at hd0; omega)]; done) | (rw [if_neg hc0, pdV_r (by rw [isIn_b] at hs0; omega)]; done) | (rw [if_neg hc0]; rw [isIn_b] at hv0; by_cases q : s = 0; exact (pdV_0n q (fun z => hv0 z.1)); exact (pdV_1n q (fun z => hv0 z.1))) | (rw [if_neg hc0]; rw [isIn_b] at hs0 hv0; first | exact (pdV_0n hz (fun z => hm z.2)) | exact (pdV_1n hz (fun z => hm z.2)))), rfl, rfl⟩ | exact .inr ⟨(by unfold doorV; rw [if_neg hc0]; rw [isIn_b] at hs0 hv0; first | exact (pdV_0 (by omega) hz ⟨by omega, hm⟩) | exact (pdV_1 (by omega) hz (by omega) ⟨by omega, hm⟩)), rfl, c9, d9, rfl, rfl, by omega, by omega, (fun k => by simp (disch := decide) only [qup_ne, qup_if]), (fun k => by simp (disch := decide) only [qup_ne, qup_if]), fun q k h2 h3 h4 => by simp only [qup_ne h2, qup_ne h3, qup_ne h4]⟩
          · skip
            refine qG.blk 2 (pc' := 49) (ls' := [(2, 95), (0, ((c9 : Nat) : Int)), (0, ((d9 : Nat) : Int)), (0, s), (0, v), (0, b)]) (st' := [(0, qand v 255)]) (w' := w) (n' := 142) rfl ?_
            refine qG.br (P := qand v 255 = 0) (pc1 := 54) (pc2 := 52) (st1 := []) rfl (fun hm => ?_) (fun hm => ?_)
            · skip
              refine qG.blk 2 (pc' := 58) (ls' := [(2, 95), (0, ((c9 : Nat) : Int)), (0, ((d9 : Nat) : Int)), (0, s), (0, v), (0, b)]) (st' := [(2, w 95 1)]) (w' := w) (n' := 142) rfl ?_
              rw [show w 95 1 = 97 from zref hI rfl rfl]
              refine qG.blk 3 (pc' := 62) (ls' := [(2, 95), (0, ((c9 : Nat) : Int)), (0, ((d9 : Nat) : Int)), (0, s), (0, v), (0, b)]) (st' := [(0, wrp (10 * ((c9 : Nat) : Int))), (2, 97)]) (w' := w) (n' := 142) rfl ?_
              rw [show wrp (10 * ((c9 : Nat) : Int)) = ((10 * c9 : Nat) : Int) from by rw [wrp_id (by omega) (by omega)]; omega]
              refine qG.blk 2 (pc' := 64) (ls' := [(2, 95), (0, ((c9 : Nat) : Int)), (0, ((d9 : Nat) : Int)), (0, s), (0, v), (0, b)]) (st' := [(0, wrp (((10 * c9 : Nat) : Int) + ((d9 : Nat) : Int))), (2, 97)]) (w' := w) (n' := 142) rfl ?_
              rw [show wrp (((10 * c9 : Nat) : Int) + ((d9 : Nat) : Int)) = ((10 * c9 + d9 : Nat) : Int) from by rw [wrp_id (by omega) (by omega)]; omega]
              refine qG.blk 1 (pc' := 65) (ls' := [(2, 95), (0, ((c9 : Nat) : Int)), (0, ((d9 : Nat) : Int)), (0, s), (0, v), (0, b)]) (st' := [(0, s), (0, ((10 * c9 + d9 : Nat) : Int)), (2, 97)]) (w' := w) (n' := 142) rfl ?_
              refine qG.ar (P := 0 ≤ ((10 * c9 + d9 : Nat) : Int) ∧ ((10 * c9 + d9 : Nat) : Int) < ((30 : Nat) : Int)) (P2 := 0 < (97 : Int) ∧ (97 : Int) ≤ ((142 : Nat) : Int)) (pc' := 66) (ls' := [(2, 95), (0, ((c9 : Nat) : Int)), (0, ((d9 : Nat) : Int)), (0, s), (0, v), (0, b)]) (st' := []) (w' := (qup w 97 (10 * c9 + d9) s)) (n' := 142) rfl (by omega) (by decide) ?_
              refine qG.blk 2 (pc' := 70) (ls' := [(2, 95), (0, ((c9 : Nat) : Int)), (0, ((d9 : Nat) : Int)), (0, s), (0, v), (0, b)]) (st' := [(2, w 95 2)]) (w' := (qup w 97 (10 * c9 + d9) s)) (n' := 142) rfl ?_
              rw [show w 95 2 = 98 from zref hI rfl rfl]
              refine qG.blk 3 (pc' := 74) (ls' := [(2, 95), (0, ((c9 : Nat) : Int)), (0, ((d9 : Nat) : Int)), (0, s), (0, v), (0, b)]) (st' := [(0, wrp (10 * ((c9 : Nat) : Int))), (2, 98)]) (w' := (qup w 97 (10 * c9 + d9) s)) (n' := 142) rfl ?_
              rw [show wrp (10 * ((c9 : Nat) : Int)) = ((10 * c9 : Nat) : Int) from by rw [wrp_id (by omega) (by omega)]; omega]
              refine qG.blk 2 (pc' := 76) (ls' := [(2, 95), (0, ((c9 : Nat) : Int)), (0, ((d9 : Nat) : Int)), (0, s), (0, v), (0, b)]) (st' := [(0, wrp (((10 * c9 : Nat) : Int) + ((d9 : Nat) : Int))), (2, 98)]) (w' := (qup w 97 (10 * c9 + d9) s)) (n' := 142) rfl ?_
              rw [show wrp (((10 * c9 : Nat) : Int) + ((d9 : Nat) : Int)) = ((10 * c9 + d9 : Nat) : Int) from by rw [wrp_id (by omega) (by omega)]; omega]
              refine qG.blk 1 (pc' := 78) (ls' := [(2, 95), (0, ((c9 : Nat) : Int)), (0, ((d9 : Nat) : Int)), (0, s), (0, v), (0, b)]) (st' := [(0, v), (0, ((10 * c9 + d9 : Nat) : Int)), (2, 98)]) (w' := (qup w 97 (10 * c9 + d9) s)) (n' := 142) rfl ?_
              refine qG.ar (P := 0 ≤ ((10 * c9 + d9 : Nat) : Int) ∧ ((10 * c9 + d9 : Nat) : Int) < ((30 : Nat) : Int)) (P2 := 0 < (98 : Int) ∧ (98 : Int) ≤ ((142 : Nat) : Int)) (pc' := 79) (ls' := [(2, 95), (0, ((c9 : Nat) : Int)), (0, ((d9 : Nat) : Int)), (0, s), (0, v), (0, b)]) (st' := []) (w' := (qup (qup w 97 (10 * c9 + d9) s) 98 (10 * c9 + d9) v)) (n' := 142) rfl (by omega) (by decide) ?_
              refine qG.blk 2 (pc' := 83) (ls' := [(2, 95), (0, ((c9 : Nat) : Int)), (0, ((d9 : Nat) : Int)), (0, s), (0, v), (0, b)]) (st' := [(2, w 95 4)]) (w' := (qup (qup w 97 (10 * c9 + d9) s) 98 (10 * c9 + d9) v)) (n' := 142) rfl ?_
              rw [show w 95 4 = 100 from zref hI rfl rfl]
              refine qG.blk 3 (pc' := 87) (ls' := [(2, 95), (0, ((c9 : Nat) : Int)), (0, ((d9 : Nat) : Int)), (0, s), (0, v), (0, b)]) (st' := [(0, wrp (10 * ((c9 : Nat) : Int))), (2, 100)]) (w' := (qup (qup w 97 (10 * c9 + d9) s) 98 (10 * c9 + d9) v)) (n' := 142) rfl ?_
              rw [show wrp (10 * ((c9 : Nat) : Int)) = ((10 * c9 : Nat) : Int) from by rw [wrp_id (by omega) (by omega)]; omega]
              refine qG.blk 2 (pc' := 89) (ls' := [(2, 95), (0, ((c9 : Nat) : Int)), (0, ((d9 : Nat) : Int)), (0, s), (0, v), (0, b)]) (st' := [(0, wrp (((10 * c9 : Nat) : Int) + ((d9 : Nat) : Int))), (2, 100)]) (w' := (qup (qup w 97 (10 * c9 + d9) s) 98 (10 * c9 + d9) v)) (n' := 142) rfl ?_
              rw [show wrp (((10 * c9 : Nat) : Int) + ((d9 : Nat) : Int)) = ((10 * c9 + d9 : Nat) : Int) from by rw [wrp_id (by omega) (by omega)]; omega]
              refine qG.blk 1 (pc' := 91) (ls' := [(2, 95), (0, ((c9 : Nat) : Int)), (0, ((d9 : Nat) : Int)), (0, s), (0, v), (0, b)]) (st' := [(0, b), (0, ((10 * c9 + d9 : Nat) : Int)), (2, 100)]) (w' := (qup (qup w 97 (10 * c9 + d9) s) 98 (10 * c9 + d9) v)) (n' := 142) rfl ?_
              refine qG.ar (P := (0 ≤ ((10 * c9 + d9 : Nat) : Int) ∧ ((10 * c9 + d9 : Nat) : Int) < ((30 : Nat) : Int)) ∧ 0 ≤ b ∧ b ≤ 1) (P2 := 0 < (100 : Int) ∧ (100 : Int) ≤ ((142 : Nat) : Int)) (pc' := 92) (ls' := [(2, 95), (0, ((c9 : Nat) : Int)), (0, ((d9 : Nat) : Int)), (0, s), (0, v), (0, b)]) (st' := []) (w' := (qup (qup (qup w 97 (10 * c9 + d9) s) 98 (10 * c9 + d9) v) 100 (10 * c9 + d9) b)) (n' := 142) rfl (by exact ⟨⟨by omega, by omega⟩, hb⟩) (by decide) ?_
              refine qG.blk 1 (pc' := 93) (ls' := [(2, 95), (0, ((c9 : Nat) : Int)), (0, ((d9 : Nat) : Int)), (0, s), (0, v), (0, b)]) (st' := [(0, 1)]) (w' := (qup (qup (qup w 97 (10 * c9 + d9) s) 98 (10 * c9 + d9) v) 100 (10 * c9 + d9) b)) (n' := 142) rfl ?_
              refine qG.ret rfl (by first | rfl | exact decide_eq_true (by omega)) ?_
              subst hQ9
              first | exact .inl ⟨(by unfold doorV; first | (rw [if_pos hc0]; done) | (rw [if_neg hc0, pdV_r (by rw [isIn_b] at hd0; omega)]; done) | (rw [if_neg hc0, pdV_r (by rw [isIn_b] at hs0; omega)]; done) | (rw [if_neg hc0]; rw [isIn_b] at hv0; by_cases q : s = 0; exact (pdV_0n q (fun z => hv0 z.1)); exact (pdV_1n q (fun z => hv0 z.1))) | (rw [if_neg hc0]; rw [isIn_b] at hs0 hv0; first | exact (pdV_0n hz (fun z => hm z.2)) | exact (pdV_1n hz (fun z => hm z.2)))), rfl, rfl⟩ | exact .inr ⟨(by unfold doorV; rw [if_neg hc0]; rw [isIn_b] at hs0 hv0; first | exact (pdV_0 (by omega) hz ⟨by omega, hm⟩) | exact (pdV_1 (by omega) hz (by omega) ⟨by omega, hm⟩)), rfl, c9, d9, rfl, rfl, by omega, by omega, (fun k => by simp (disch := decide) only [qup_ne, qup_if]), (fun k => by simp (disch := decide) only [qup_ne, qup_if]), fun q k h2 h3 h4 => by simp only [qup_ne h2, qup_ne h3, qup_ne h4]⟩
            · skip
              refine qG.blk 1 (pc' := 53) (ls' := [(2, 95), (0, ((c9 : Nat) : Int)), (0, ((d9 : Nat) : Int)), (0, s), (0, v), (0, b)]) (st' := [(0, 0)]) (w' := w) (n' := 142) rfl ?_
              refine qG.ret rfl (by first | rfl | exact decide_eq_true (by omega)) ?_
              subst hQ9
              first | exact .inl ⟨(by unfold doorV; first | (rw [if_pos hc0]; done) | (rw [if_neg hc0, pdV_r (by rw [isIn_b] at hd0; omega)]; done) | (rw [if_neg hc0, pdV_r (by rw [isIn_b] at hs0; omega)]; done) | (rw [if_neg hc0]; rw [isIn_b] at hv0; by_cases q : s = 0; exact (pdV_0n q (fun z => hv0 z.1)); exact (pdV_1n q (fun z => hv0 z.1))) | (rw [if_neg hc0]; rw [isIn_b] at hs0 hv0; first | exact (pdV_0n hz (fun z => hm z.2)) | exact (pdV_1n hz (fun z => hm z.2)))), rfl, rfl⟩ | exact .inr ⟨(by unfold doorV; rw [if_neg hc0]; rw [isIn_b] at hs0 hv0; first | exact (pdV_0 (by omega) hz ⟨by omega, hm⟩) | exact (pdV_1 (by omega) hz (by omega) ⟨by omega, hm⟩)), rfl, c9, d9, rfl, rfl, by omega, by omega, (fun k => by simp (disch := decide) only [qup_ne, qup_if]), (fun k => by simp (disch := decide) only [qup_ne, qup_if]), fun q k h2 h3 h4 => by simp only [qup_ne h2, qup_ne h3, qup_ne h4]⟩
def JD (w : qW) : Prop := ∀ c : Nat, c < 3 → w (64 + 5 * c) 0 = w 96 c ∧ ∀ d : Nat, d < 10 → w (67 + 5 * c) d = w 98 (10 * c + d) ∧ w (68 + 5 * c) d = w 100 (10 * c + d)
def jdM (m : List Nat) : Bool := spo m 67 && (spo m 68 && (spo m 72 && (spo m 73 && (spo m 77 && (spo m 78 && (spo m 96 && (spo m 98 && (spo m 100 && (!ymo 64 0 m && (!ymo 69 0 m && !ymo 74 0 m))))))))))
theorem JD.aw {m : List Nat} {w w1 : qW} (h : JD w) (a : AW m w w1) (hm : jdM m = true) : JD w1 := by
  unfold jdM at hm
  simp only [Bool.and_eq_true, Bool.not_eq_true'] at hm
  obtain ⟨m67, m68, m72, m73, m77, m78, m96, m98, m100, n64, n69, n74⟩ := hm
  intro c hc
  have h0 := h c hc
  rw [a.a (by decide) m96]
  refine ⟨?_, fun d hd => ?_⟩
  · rw [← h0.1]
    rcases (show c = 0 ∨ c = 1 ∨ c = 2 by omega) with rfl | rfl | rfl
    · exact a.2 64 0 (fun _ => n64)
    · exact a.2 69 0 (fun _ => n69)
    · exact a.2 74 0 (fun _ => n74)
  · rw [a.a (by decide) m98, a.a (by decide) m100, ← (h0.2 d hd).1, ← (h0.2 d hd).2]
    rcases (show c = 0 ∨ c = 1 ∨ c = 2 by omega) with rfl | rfl | rfl
    · exact ⟨a.a (p := 67) (by decide) m67 d, a.a (p := 68) (by decide) m68 d⟩
    · exact ⟨a.a (p := 72) (by decide) m72 d, a.a (p := 73) (by decide) m73 d⟩
    · exact ⟨a.a (p := 77) (by decide) m77 d, a.a (p := 78) (by decide) m78 d⟩
theorem JD.works {w w1 w2 : qW} {c s b : Int} {r r2 : qV} (h : JD w) (hX : wkX c s b w r w1) (hR : wkR c s b w1 r2 w2) : JD w2 ∧ r = r2 := by
  rcases hX with ⟨c1, rfl, rfl⟩ | ⟨c1, c9, ec, rfl, x1, x2⟩
  · rcases hR with ⟨c2, rfl, rfl⟩ | ⟨c2, -⟩
    · exact ⟨h, rfl⟩
    · exact absurd c2 c1
  · rcases hR with ⟨c2, -⟩ | ⟨-, c8, ec2, rfl, y1, y2⟩
    · exact absurd c1 c2
    · obtain rfl : c8 = c9 := by omega
      unfold isWk at c1
      refine ⟨fun c' hc' => ?_, rfl⟩
      have h0 := h c' hc'
      have e64 : w2 (64 + 5 * c') 0 = w1 (64 + 5 * c') 0 := y2 _ _ (by omega) (by omega)
      have e96 : w1 96 c' = w 96 c' := x2 _ _ (by omega)
      refine ⟨?_, fun d hd => ?_⟩
      · rw [e64]
        by_cases e : c' = c8
        · subst e
          rw [x1, y1, e96, h0.1]
        · rw [x2 _ _ (by omega), y2 96 c' (by omega) (by omega), e96]
          exact h0.1
      · rw [y2 (67 + 5 * c') d (by omega) (by omega), x2 (67 + 5 * c') d (by omega), y2 98 _ (by omega) (by omega), x2 98 _ (by omega), y2 (68 + 5 * c') d (by omega) (by omega), x2 (68 + 5 * c') d (by omega), y2 100 _ (by omega) (by omega), x2 100 _ (by omega)]
        exact h0.2 d hd
theorem JD.door {w w1 w2 : qW} {c d1 s v b : Int} {r r2 : qV} (h : JD w) (hX : drX c d1 s v b w r w1) (hR : drR c d1 s v b w1 r2 w2) : JD w2 ∧ r = r2 := by
  rcases hX with ⟨c1, rfl, rfl⟩ | ⟨c1, rfl, c9, d9, ec, ed, hc9, hd9, x1, x2, x3⟩
  · rcases hR with ⟨c2, rfl, rfl⟩ | ⟨c2, -⟩
    · exact ⟨h, rfl⟩
    · omega
  · rcases hR with ⟨c2, -⟩ | ⟨-, rfl, c8, d8, ec2, ed2, -, -, y1, y2, y3⟩
    · omega
    · obtain rfl : c8 = c9 := by omega
      obtain rfl : d8 = d9 := by omega
      refine ⟨fun c' hc' => ?_, rfl⟩
      have h0 := h c' hc'
      refine ⟨?_, fun d hd => ?_⟩
      · rw [y3 (64 + 5 * c') 0 (by omega) (by omega) (by omega), x3 (64 + 5 * c') 0 (by omega) (by omega) (by omega), y3 96 c' (by decide) (by decide) (by decide), x3 96 c' (by omega) (by omega) (by omega)]
        exact h0.1
      · have z := h0.2 d hd
        rw [y3 (67 + 5 * c') d (by omega) (by omega) (by omega), y3 (68 + 5 * c') d (by omega) (by omega) (by omega), y1, y2, x3 98 _ (by omega) (by omega) (by omega), x3 100 _ (by omega) (by omega) (by omega)]
        by_cases e : c' = c8
        · subst e
          rw [x1, x2]
          by_cases e2 : d = d8
          · rw [if_pos e2, if_pos e2, if_pos (by omega), if_pos (by omega)]; exact ⟨rfl, rfl⟩
          · rw [if_neg e2, if_neg e2, if_neg (by omega), if_neg (by omega)]; exact z
        · rw [x3 (67 + 5 * c') d (by omega) (by omega) (by omega), x3 (68 + 5 * c') d (by omega) (by omega) (by omega), if_neg (by omega), if_neg (by omega)]
          exact z
