/-! the masters and the nights on both sides -/
theorem qup_f {w : qW} {p j q i : Nat} {v : Int} (h : ¬ (q = p ∧ i = j)) : qup w p j v q i = w q i := by
  by_cases hp : q = p
  · subst hp; exact qup_j (fun z => h ⟨rfl, z⟩)
  · rw [qup_ne hp]
def masC (s g a b : Int) (n : Nat) : Prop := ((1 ≤ s ∧ s ≤ 4) ∧ (0 ≤ g ∧ g ≤ 99) ∧ (0 ≤ a ∧ a ≤ 99) ∧ a ≤ b ∧ b ≤ 99) ∧ n < 12
def masE (p j q1 q2 q3 : Nat) (L : List Nat) (s g a b : Int) (n : Nat) (w : qW) (r : qV) (w1 : qW) : Prop := (¬ masC s g a b n ∧ r = (0, -1) ∧ w1 = w) ∨ (masC s g a b n ∧ r = (0, ((n : Nat) : Int)) ∧ w1 p j = ((n + 1 : Nat) : Int) ∧ (∀ k, w1 q1 k = if k = n then g else w q1 k) ∧ (∀ k, w1 q2 k = if k = n then a else w q2 k) ∧ (∀ k, w1 q3 k = if k = n then b else w q3 k) ∧ ∀ q k, q ∉ L → ¬ (q = p ∧ k = j) → w1 q k = w q k)
def nigC (y t g e a : Int) (n : Nat) : Prop := ((0 ≤ y ∧ y ≤ 99) ∧ (0 ≤ t ∧ t ≤ 9) ∧ (0 ≤ g ∧ g ≤ 99) ∧ (0 ≤ e ∧ e ≤ 2) ∧ -1 ≤ a ∧ a ≤ 2) ∧ n < 60
def nigE (p j q1 q2 q3 q4 q5 : Nat) (y t g e a : Int) (n : Nat) (w : qW) (r : qV) (w1 : qW) : Prop := (¬ nigC y t g e a n ∧ r = (0, -1) ∧ w1 = w) ∨ (nigC y t g e a n ∧ r = (0, ((n : Nat) : Int)) ∧ w1 p j = ((n + 1 : Nat) : Int) ∧ (∀ k, w1 q1 k = if k = n then y else w q1 k) ∧ (∀ k, w1 q2 k = if k = n then t else w q2 k) ∧ (∀ k, w1 q3 k = if k = n then g else w q3 k) ∧ (∀ k, w1 q4 k = if k = n then e else w q4 k) ∧ (∀ k, w1 q5 k = if k = n then a else w q5 k) ∧ ∀ q k, q ∉ [q1, q2, q3, q4, q5] → ¬ (q = p ∧ k = j) → w1 q k = w q k)
theorem K_X4_isYear {d : Nat} (hd : 0 ≤ d) (c : Int) (w : qW) : qG none d 55 0 [(0, c)] [] w 142 (fun (r : qV) (w1 : qW) (n1 : Nat) => r = (0, isInV c 0 99) ∧ w1 = w ∧ n1 = 142) := by
  generalize hQ9 : (fun (r : qV) (w1 : qW) (n1 : Nat) => r = (0, isInV c 0 99) ∧ w1 = w ∧ n1 = 142) = Q9
  refine qG.blk 1 (pc' := 1) (ls' := [(0, c)]) (st' := [(0, c)]) (w' := w) (n' := 142) rfl ?_
  refine qG.br (P := c < 0) (pc1 := 14) (pc2 := 4) (st1 := []) rfl (fun h1 => ?_) (fun h1 => ?_)
  · skip
    refine qG.blk 1 (pc' := 15) (ls' := [(0, c)]) (st' := [(0, 0)]) (w' := w) (n' := 142) rfl ?_
    refine qG.ret rfl (by first | rfl | exact decide_eq_true (by omega)) ?_
    subst hQ9
    exact ⟨by unfold isInV; split <;> (try split) <;> first | rfl | (exfalso; omega), rfl, rfl⟩
  · skip
    refine qG.blk 2 (pc' := 7) (ls' := [(0, c)]) (st' := [(0, 100), (0, c)]) (w' := w) (n' := 142) rfl ?_
    refine qG.br (P := c < 100) (pc1 := 10) (pc2 := 14) (st1 := []) rfl (fun h2 => ?_) (fun h2 => ?_)
    · skip
      refine qG.blk 2 (pc' := 15) (ls' := [(0, c)]) (st' := [(0, 1)]) (w' := w) (n' := 142) rfl ?_
      refine qG.ret rfl (by first | rfl | exact decide_eq_true (by omega)) ?_
      subst hQ9
      exact ⟨by unfold isInV; split <;> (try split) <;> first | rfl | (exfalso; omega), rfl, rfl⟩
    · skip
      refine qG.blk 1 (pc' := 15) (ls' := [(0, c)]) (st' := [(0, 0)]) (w' := w) (n' := 142) rfl ?_
      refine qG.ret rfl (by first | rfl | exact decide_eq_true (by omega)) ?_
      subst hQ9
      exact ⟨by unfold isInV; split <;> (try split) <;> first | rfl | (exfalso; omega), rfl, rfl⟩
theorem K_X4_isStrength {d : Nat} (hd : 0 ≤ d) (c : Int) (w : qW) : qG none d 57 0 [(0, c)] [] w 142 (fun (r : qV) (w1 : qW) (n1 : Nat) => r = (0, isInV c 0 99) ∧ w1 = w ∧ n1 = 142) := by
  generalize hQ9 : (fun (r : qV) (w1 : qW) (n1 : Nat) => r = (0, isInV c 0 99) ∧ w1 = w ∧ n1 = 142) = Q9
  refine qG.blk 1 (pc' := 1) (ls' := [(0, c)]) (st' := [(0, c)]) (w' := w) (n' := 142) rfl ?_
  refine qG.br (P := c < 0) (pc1 := 14) (pc2 := 4) (st1 := []) rfl (fun h1 => ?_) (fun h1 => ?_)
  · skip
    refine qG.blk 1 (pc' := 15) (ls' := [(0, c)]) (st' := [(0, 0)]) (w' := w) (n' := 142) rfl ?_
    refine qG.ret rfl (by first | rfl | exact decide_eq_true (by omega)) ?_
    subst hQ9
    exact ⟨by unfold isInV; split <;> (try split) <;> first | rfl | (exfalso; omega), rfl, rfl⟩
  · skip
    refine qG.blk 2 (pc' := 7) (ls' := [(0, c)]) (st' := [(0, 99), (0, c)]) (w' := w) (n' := 142) rfl ?_
    refine qG.br (P := 99 < c) (pc1 := 14) (pc2 := 10) (st1 := []) rfl (fun h2 => ?_) (fun h2 => ?_)
    · skip
      refine qG.blk 1 (pc' := 15) (ls' := [(0, c)]) (st' := [(0, 0)]) (w' := w) (n' := 142) rfl ?_
      refine qG.ret rfl (by first | rfl | exact decide_eq_true (by omega)) ?_
      subst hQ9
      exact ⟨by unfold isInV; split <;> (try split) <;> first | rfl | (exfalso; omega), rfl, rfl⟩
    · skip
      refine qG.blk 2 (pc' := 15) (ls' := [(0, c)]) (st' := [(0, 1)]) (w' := w) (n' := 142) rfl ?_
      refine qG.ret rfl (by first | rfl | exact decide_eq_true (by omega)) ?_
      subst hQ9
      exact ⟨by unfold isInV; split <;> (try split) <;> first | rfl | (exfalso; omega), rfl, rfl⟩
theorem K_X4_isTown {d : Nat} (hd : 0 ≤ d) (c : Int) (w : qW) : qG none d 56 0 [(0, c)] [] w 142 (fun (r : qV) (w1 : qW) (n1 : Nat) => r = (0, isInV c 0 9) ∧ w1 = w ∧ n1 = 142) := by
  generalize hQ9 : (fun (r : qV) (w1 : qW) (n1 : Nat) => r = (0, isInV c 0 9) ∧ w1 = w ∧ n1 = 142) = Q9
  refine qG.blk 1 (pc' := 1) (ls' := [(0, c)]) (st' := [(0, c)]) (w' := w) (n' := 142) rfl ?_
  refine qG.br (P := c < 0) (pc1 := 14) (pc2 := 4) (st1 := []) rfl (fun h1 => ?_) (fun h1 => ?_)
  · skip
    refine qG.blk 1 (pc' := 15) (ls' := [(0, c)]) (st' := [(0, 0)]) (w' := w) (n' := 142) rfl ?_
    refine qG.ret rfl (by first | rfl | exact decide_eq_true (by omega)) ?_
    subst hQ9
    exact ⟨by unfold isInV; split <;> (try split) <;> first | rfl | (exfalso; omega), rfl, rfl⟩
  · skip
    refine qG.blk 2 (pc' := 7) (ls' := [(0, c)]) (st' := [(0, 10), (0, c)]) (w' := w) (n' := 142) rfl ?_
    refine qG.br (P := c < 10) (pc1 := 10) (pc2 := 14) (st1 := []) rfl (fun h2 => ?_) (fun h2 => ?_)
    · skip
      refine qG.blk 2 (pc' := 15) (ls' := [(0, c)]) (st' := [(0, 1)]) (w' := w) (n' := 142) rfl ?_
      refine qG.ret rfl (by first | rfl | exact decide_eq_true (by omega)) ?_
      subst hQ9
      exact ⟨by unfold isInV; split <;> (try split) <;> first | rfl | (exfalso; omega), rfl, rfl⟩
    · skip
      refine qG.blk 1 (pc' := 15) (ls' := [(0, c)]) (st' := [(0, 0)]) (w' := w) (n' := 142) rfl ?_
      refine qG.ret rfl (by first | rfl | exact decide_eq_true (by omega)) ?_
      subst hQ9
      exact ⟨by unfold isInV; split <;> (try split) <;> first | rfl | (exfalso; omega), rfl, rfl⟩
theorem K_X4_isAnswer {d : Nat} (hd : 0 ≤ d) (c : Int) (w : qW) : qG none d 58 0 [(0, c)] [] w 142 (fun (r : qV) (w1 : qW) (n1 : Nat) => r = (0, isInV c 0 2) ∧ w1 = w ∧ n1 = 142) := by
  generalize hQ9 : (fun (r : qV) (w1 : qW) (n1 : Nat) => r = (0, isInV c 0 2) ∧ w1 = w ∧ n1 = 142) = Q9
  refine qG.blk 1 (pc' := 1) (ls' := [(0, c)]) (st' := [(0, c)]) (w' := w) (n' := 142) rfl ?_
  refine qG.br (P := c < 0) (pc1 := 13) (pc2 := 4) (st1 := []) rfl (fun h1 => ?_) (fun h1 => ?_)
  · skip
    refine qG.blk 1 (pc' := 14) (ls' := [(0, c)]) (st' := [(0, 0)]) (w' := w) (n' := 142) rfl ?_
    refine qG.ret rfl (by first | rfl | exact decide_eq_true (by omega)) ?_
    subst hQ9
    exact ⟨by unfold isInV; split <;> (try split) <;> first | rfl | (exfalso; omega), rfl, rfl⟩
  · skip
    refine qG.blk 2 (pc' := 6) (ls' := [(0, c)]) (st' := [(0, 3), (0, c)]) (w' := w) (n' := 142) rfl ?_
    refine qG.br (P := c < 3) (pc1 := 9) (pc2 := 13) (st1 := []) rfl (fun h2 => ?_) (fun h2 => ?_)
    · skip
      refine qG.blk 2 (pc' := 14) (ls' := [(0, c)]) (st' := [(0, 1)]) (w' := w) (n' := 142) rfl ?_
      refine qG.ret rfl (by first | rfl | exact decide_eq_true (by omega)) ?_
      subst hQ9
      exact ⟨by unfold isInV; split <;> (try split) <;> first | rfl | (exfalso; omega), rfl, rfl⟩
    · skip
      refine qG.blk 1 (pc' := 14) (ls' := [(0, c)]) (st' := [(0, 0)]) (w' := w) (n' := 142) rfl ?_
      refine qG.ret rfl (by first | rfl | exact decide_eq_true (by omega)) ?_
      subst hQ9
      exact ⟨by unfold isInV; split <;> (try split) <;> first | rfl | (exfalso; omega), rfl, rfl⟩
theorem K_X11_isSize {d : Nat} (hd : 0 ≤ d) (c : Int) (w : qW) : qG none d 200 0 [(0, c)] [] w 142 (fun (r : qV) (w1 : qW) (n1 : Nat) => r = (0, isInV c 1 4) ∧ w1 = w ∧ n1 = 142) := by
  generalize hQ9 : (fun (r : qV) (w1 : qW) (n1 : Nat) => r = (0, isInV c 1 4) ∧ w1 = w ∧ n1 = 142) = Q9
  refine qG.blk 2 (pc' := 2) (ls' := [(0, c)]) (st' := [(0, 1), (0, c)]) (w' := w) (n' := 142) rfl ?_
  refine qG.br (P := c < 1) (pc1 := 14) (pc2 := 5) (st1 := []) rfl (fun h1 => ?_) (fun h1 => ?_)
  · skip
    refine qG.blk 1 (pc' := 15) (ls' := [(0, c)]) (st' := [(0, 0)]) (w' := w) (n' := 142) rfl ?_
    refine qG.ret rfl (by first | rfl | exact decide_eq_true (by omega)) ?_
    subst hQ9
    exact ⟨by unfold isInV; split <;> (try split) <;> first | rfl | (exfalso; omega), rfl, rfl⟩
  · skip
    refine qG.blk 2 (pc' := 7) (ls' := [(0, c)]) (st' := [(0, 4), (0, c)]) (w' := w) (n' := 142) rfl ?_
    refine qG.br (P := 4 < c) (pc1 := 14) (pc2 := 10) (st1 := []) rfl (fun h2 => ?_) (fun h2 => ?_)
    · skip
      refine qG.blk 1 (pc' := 15) (ls' := [(0, c)]) (st' := [(0, 0)]) (w' := w) (n' := 142) rfl ?_
      refine qG.ret rfl (by first | rfl | exact decide_eq_true (by omega)) ?_
      subst hQ9
      exact ⟨by unfold isInV; split <;> (try split) <;> first | rfl | (exfalso; omega), rfl, rfl⟩
    · skip
      refine qG.blk 2 (pc' := 15) (ls' := [(0, c)]) (st' := [(0, 1)]) (w' := w) (n' := 142) rfl ?_
      refine qG.ret rfl (by first | rfl | exact decide_eq_true (by omega)) ?_
      subst hQ9
      exact ⟨by unfold isInV; split <;> (try split) <;> first | rfl | (exfalso; omega), rfl, rfl⟩
theorem K_addMaster {d : Nat} (hd : 1 ≤ d) (s g a b : Int) (hs : 1 ≤ s ∧ s ≤ 4) (n : Nat) (hn9 : n ≤ 60) (w : qW) (hI : yInv zgf zga zra zSp w) (hn : w 45 0 = (n : Int)) : qG none d 61 0 [(2, 45), (0, g), (0, a), (0, b)] [] w 142 (fun (r : qV) (w1 : qW) (n1 : Nat) => n1 = 142 ∧ masE 45 0 46 47 48 [46, 47, 48] s g a b n w r w1) := by
  generalize hQ9 : (fun (r : qV) (w1 : qW) (n1 : Nat) => n1 = 142 ∧ masE 45 0 46 47 48 [46, 47, 48] s g a b n w r w1) = Q9
  obtain ⟨d, rfl⟩ : ∃ d9, d = d9 + 1 := ⟨d - 1, by omega⟩
  refine qG.blk 1 (pc' := 1) (ls' := [(2, 45), (0, g), (0, a), (0, b)]) (st' := [(0, g)]) (w' := w) (n' := 142) rfl ?_
  refine qG.call (t := 57) (na := 1) (sk := 0) (md := 0) (ls1 := [(0, g)]) (r1 := []) rfl rfl rfl rfl rfl (K_X4_isStrength (Nat.zero_le _) _ _) ?_
  rintro _ w7 _ ⟨rfl, hw7, rfl⟩
  rw [hw7]
  show qG none (d + 1) 61 4 [(2, 45), (0, g), (0, a), (0, b)] [(0, isInV g 0 99)] w 142 Q9
  refine qG.br (P := isInV g 0 99 = 0) (pc1 := 26) (pc2 := 7) (st1 := []) rfl (fun h1 => ?_) (fun h1 => ?_)
  · skip
    rw [isIn_b] at h1
    refine qG.blk 1 (pc' := 27) (ls' := [(2, 45), (0, g), (0, a), (0, b)]) (st' := [(0, (-1))]) (w' := w) (n' := 142) rfl ?_
    refine qG.ret rfl rfl ?_
    subst hQ9
    refine ⟨rfl, ?_⟩; first | exact .inl ⟨by unfold masC; omega, rfl, rfl⟩ | exact .inr ⟨by unfold masC; omega, rfl, by simp (disch := decide) only [qup_ne, qup_k], (fun k => by (try simp (disch := decide) only [qup_ne, qup_if]) <;> (try rfl)), (fun k => by (try simp (disch := decide) only [qup_ne, qup_if]) <;> (try rfl)), (fun k => by (try simp (disch := decide) only [qup_ne, qup_if]) <;> (try rfl)), (fun q k h hf => by simp only [List.mem_cons, List.not_mem_nil, or_false, not_or] at h; obtain ⟨h0, h1, h2⟩ := h; simp only [qup_ne h0, qup_ne h1, qup_ne h2, qup_f hf])⟩
  · skip
    rw [isIn_p] at h1
    refine qG.blk 1 (pc' := 8) (ls' := [(2, 45), (0, g), (0, a), (0, b)]) (st' := [(0, a)]) (w' := w) (n' := 142) rfl ?_
    refine qG.call (t := 55) (na := 1) (sk := 0) (md := 0) (ls1 := [(0, a)]) (r1 := []) rfl rfl rfl rfl rfl (K_X4_isYear (Nat.zero_le _) _ _) ?_
    rintro _ w7 _ ⟨rfl, hw7, rfl⟩
    rw [hw7]
    show qG none (d + 1) 61 11 [(2, 45), (0, g), (0, a), (0, b)] [(0, isInV a 0 99)] w 142 Q9
    refine qG.br (P := isInV a 0 99 = 0) (pc1 := 26) (pc2 := 14) (st1 := []) rfl (fun h2 => ?_) (fun h2 => ?_)
    · skip
      rw [isIn_b] at h2
      refine qG.blk 1 (pc' := 27) (ls' := [(2, 45), (0, g), (0, a), (0, b)]) (st' := [(0, (-1))]) (w' := w) (n' := 142) rfl ?_
      refine qG.ret rfl rfl ?_
      subst hQ9
      refine ⟨rfl, ?_⟩; first | exact .inl ⟨by unfold masC; omega, rfl, rfl⟩ | exact .inr ⟨by unfold masC; omega, rfl, by simp (disch := decide) only [qup_ne, qup_k], (fun k => by (try simp (disch := decide) only [qup_ne, qup_if]) <;> (try rfl)), (fun k => by (try simp (disch := decide) only [qup_ne, qup_if]) <;> (try rfl)), (fun k => by (try simp (disch := decide) only [qup_ne, qup_if]) <;> (try rfl)), (fun q k h hf => by simp only [List.mem_cons, List.not_mem_nil, or_false, not_or] at h; obtain ⟨h0, h1, h2⟩ := h; simp only [qup_ne h0, qup_ne h1, qup_ne h2, qup_f hf])⟩
    · skip
      rw [isIn_p] at h2
      refine qG.blk 1 (pc' := 15) (ls' := [(2, 45), (0, g), (0, a), (0, b)]) (st' := [(0, b)]) (w' := w) (n' := 142) rfl ?_
      refine qG.call (t := 55) (na := 1) (sk := 0) (md := 0) (ls1 := [(0, b)]) (r1 := []) rfl rfl rfl rfl rfl (K_X4_isYear (Nat.zero_le _) _ _) ?_
      rintro _ w7 _ ⟨rfl, hw7, rfl⟩
      rw [hw7]
      show qG none (d + 1) 61 18 [(2, 45), (0, g), (0, a), (0, b)] [(0, isInV b 0 99)] w 142 Q9
      refine qG.br (P := isInV b 0 99 = 0) (pc1 := 26) (pc2 := 21) (st1 := []) rfl (fun h3 => ?_) (fun h3 => ?_)
      · skip
        rw [isIn_b] at h3
        refine qG.blk 1 (pc' := 27) (ls' := [(2, 45), (0, g), (0, a), (0, b)]) (st' := [(0, (-1))]) (w' := w) (n' := 142) rfl ?_
        refine qG.ret rfl rfl ?_
        subst hQ9
        refine ⟨rfl, ?_⟩; first | exact .inl ⟨by unfold masC; omega, rfl, rfl⟩ | exact .inr ⟨by unfold masC; omega, rfl, by simp (disch := decide) only [qup_ne, qup_k], (fun k => by (try simp (disch := decide) only [qup_ne, qup_if]) <;> (try rfl)), (fun k => by (try simp (disch := decide) only [qup_ne, qup_if]) <;> (try rfl)), (fun k => by (try simp (disch := decide) only [qup_ne, qup_if]) <;> (try rfl)), (fun q k h hf => by simp only [List.mem_cons, List.not_mem_nil, or_false, not_or] at h; obtain ⟨h0, h1, h2⟩ := h; simp only [qup_ne h0, qup_ne h1, qup_ne h2, qup_f hf])⟩
      · skip
        rw [isIn_p] at h3
        refine qG.blk 2 (pc' := 23) (ls' := [(2, 45), (0, g), (0, a), (0, b)]) (st' := [(0, b), (0, a)]) (w' := w) (n' := 142) rfl ?_
        refine qG.br (P := b < a) (pc1 := 26) (pc2 := 28) (st1 := []) rfl (fun h4 => ?_) (fun h4 => ?_)
        · skip
          refine qG.blk 1 (pc' := 27) (ls' := [(2, 45), (0, g), (0, a), (0, b)]) (st' := [(0, (-1))]) (w' := w) (n' := 142) rfl ?_
          refine qG.ret rfl rfl ?_
          subst hQ9
          refine ⟨rfl, ?_⟩; first | exact .inl ⟨by unfold masC; omega, rfl, rfl⟩ | exact .inr ⟨by unfold masC; omega, rfl, by simp (disch := decide) only [qup_ne, qup_k], (fun k => by (try simp (disch := decide) only [qup_ne, qup_if]) <;> (try rfl)), (fun k => by (try simp (disch := decide) only [qup_ne, qup_if]) <;> (try rfl)), (fun k => by (try simp (disch := decide) only [qup_ne, qup_if]) <;> (try rfl)), (fun q k h hf => by simp only [List.mem_cons, List.not_mem_nil, or_false, not_or] at h; obtain ⟨h0, h1, h2⟩ := h; simp only [qup_ne h0, qup_ne h1, qup_ne h2, qup_f hf])⟩
        · skip
          refine qG.blk 2 (pc' := 32) (ls' := [(2, 45), (0, g), (0, a), (0, b)]) (st' := [(0, w 45 0)]) (w' := w) (n' := 142) rfl ?_
          rw [show w 45 0 = ((n : Nat) : Int) from hn]
          refine qG.blk 1 (pc' := 34) (ls' := [(2, 45), (0, g), (0, a), (0, b)]) (st' := [(0, 12), (0, ((n : Nat) : Int))]) (w' := w) (n' := 142) rfl ?_
          refine qG.br (P := ((n : Nat) : Int) < 12) (pc1 := 39) (pc2 := 37) (st1 := []) rfl (fun h5 => ?_) (fun h5 => ?_)
          · skip
            refine qG.blk 2 (pc' := 43) (ls' := [(2, 45), (0, g), (0, a), (0, b)]) (st' := [(2, w 45 1)]) (w' := w) (n' := 142) rfl ?_
            rw [show w 45 1 = 46 from zref hI rfl rfl]
            refine qG.blk 2 (pc' := 47) (ls' := [(2, 45), (0, g), (0, a), (0, b)]) (st' := [(0, w 45 0), (2, 46)]) (w' := w) (n' := 142) rfl ?_
            rw [show w 45 0 = ((n : Nat) : Int) from hn]
            refine qG.blk 1 (pc' := 48) (ls' := [(2, 45), (0, g), (0, a), (0, b)]) (st' := [(0, g), (0, ((n : Nat) : Int)), (2, 46)]) (w' := w) (n' := 142) rfl ?_
            refine qG.ar (P := 0 ≤ ((n : Nat) : Int) ∧ ((n : Nat) : Int) < ((12 : Nat) : Int)) (P2 := 0 < (46 : Int) ∧ (46 : Int) ≤ ((142 : Nat) : Int)) (pc' := 49) (ls' := [(2, 45), (0, g), (0, a), (0, b)]) (st' := []) (w' := (qup w 46 n g)) (n' := 142) rfl (by omega) (by decide) ?_
            refine qG.blk 2 (pc' := 53) (ls' := [(2, 45), (0, g), (0, a), (0, b)]) (st' := [(2, w 45 2)]) (w' := (qup w 46 n g)) (n' := 142) rfl ?_
            rw [show w 45 2 = 47 from zref hI rfl rfl]
            refine qG.blk 2 (pc' := 57) (ls' := [(2, 45), (0, g), (0, a), (0, b)]) (st' := [(0, w 45 0), (2, 47)]) (w' := (qup w 46 n g)) (n' := 142) rfl ?_
            rw [show w 45 0 = ((n : Nat) : Int) from hn]
            refine qG.blk 1 (pc' := 58) (ls' := [(2, 45), (0, g), (0, a), (0, b)]) (st' := [(0, a), (0, ((n : Nat) : Int)), (2, 47)]) (w' := (qup w 46 n g)) (n' := 142) rfl ?_
            refine qG.ar (P := 0 ≤ ((n : Nat) : Int) ∧ ((n : Nat) : Int) < ((12 : Nat) : Int)) (P2 := 0 < (47 : Int) ∧ (47 : Int) ≤ ((142 : Nat) : Int)) (pc' := 59) (ls' := [(2, 45), (0, g), (0, a), (0, b)]) (st' := []) (w' := (qup (qup w 46 n g) 47 n a)) (n' := 142) rfl (by omega) (by decide) ?_
            refine qG.blk 2 (pc' := 63) (ls' := [(2, 45), (0, g), (0, a), (0, b)]) (st' := [(2, w 45 3)]) (w' := (qup (qup w 46 n g) 47 n a)) (n' := 142) rfl ?_
            rw [show w 45 3 = 48 from zref hI rfl rfl]
            refine qG.blk 2 (pc' := 67) (ls' := [(2, 45), (0, g), (0, a), (0, b)]) (st' := [(0, w 45 0), (2, 48)]) (w' := (qup (qup w 46 n g) 47 n a)) (n' := 142) rfl ?_
            rw [show w 45 0 = ((n : Nat) : Int) from hn]
            refine qG.blk 1 (pc' := 68) (ls' := [(2, 45), (0, g), (0, a), (0, b)]) (st' := [(0, b), (0, ((n : Nat) : Int)), (2, 48)]) (w' := (qup (qup w 46 n g) 47 n a)) (n' := 142) rfl ?_
            refine qG.ar (P := 0 ≤ ((n : Nat) : Int) ∧ ((n : Nat) : Int) < ((12 : Nat) : Int)) (P2 := 0 < (48 : Int) ∧ (48 : Int) ≤ ((142 : Nat) : Int)) (pc' := 69) (ls' := [(2, 45), (0, g), (0, a), (0, b)]) (st' := []) (w' := (qup (qup (qup w 46 n g) 47 n a) 48 n b)) (n' := 142) rfl (by omega) (by decide) ?_
            refine qG.blk 3 (pc' := 74) (ls' := [(2, 45), (0, g), (0, a), (0, b)]) (st' := [(0, w 45 0), (2, 45)]) (w' := (qup (qup (qup w 46 n g) 47 n a) 48 n b)) (n' := 142) rfl ?_
            rw [show w 45 0 = ((n : Nat) : Int) from hn]
            refine qG.blk 2 (pc' := 76) (ls' := [(2, 45), (0, g), (0, a), (0, b)]) (st' := [(0, wrp (((n : Nat) : Int) + 1)), (2, 45)]) (w' := (qup (qup (qup w 46 n g) 47 n a) 48 n b)) (n' := 142) rfl ?_
            rw [show wrp (((n : Nat) : Int) + 1) = ((n + 1 : Nat) : Int) from by rw [wrp_id (by omega) (by omega)]; omega]
            refine qG.blk 5 (pc' := 85) (ls' := [(2, 45), (0, g), (0, a), (0, b)]) (st' := [(0, wrp (((n + 1 : Nat) : Int) - 1))]) (w' := (qup (qup (qup (qup w 46 n g) 47 n a) 48 n b) 45 0 ((n + 1 : Nat) : Int))) (n' := 142) rfl ?_
            rw [show wrp (((n + 1 : Nat) : Int) - 1) = ((n : Nat) : Int) from by rw [wrp_id (by omega) (by omega)]; omega]
            refine qG.ret rfl rfl ?_
            subst hQ9
            refine ⟨rfl, ?_⟩; first | exact .inl ⟨by unfold masC; omega, rfl, rfl⟩ | exact .inr ⟨by unfold masC; omega, rfl, by simp (disch := decide) only [qup_ne, qup_k], (fun k => by (try simp (disch := decide) only [qup_ne, qup_if]) <;> (try rfl)), (fun k => by (try simp (disch := decide) only [qup_ne, qup_if]) <;> (try rfl)), (fun k => by (try simp (disch := decide) only [qup_ne, qup_if]) <;> (try rfl)), (fun q k h hf => by simp only [List.mem_cons, List.not_mem_nil, or_false, not_or] at h; obtain ⟨h0, h1, h2⟩ := h; simp only [qup_ne h0, qup_ne h1, qup_ne h2, qup_f hf])⟩
          · skip
            refine qG.blk 1 (pc' := 38) (ls' := [(2, 45), (0, g), (0, a), (0, b)]) (st' := [(0, (-1))]) (w' := w) (n' := 142) rfl ?_
            refine qG.ret rfl rfl ?_
            subst hQ9
            refine ⟨rfl, ?_⟩; first | exact .inl ⟨by unfold masC; omega, rfl, rfl⟩ | exact .inr ⟨by unfold masC; omega, rfl, by simp (disch := decide) only [qup_ne, qup_k], (fun k => by (try simp (disch := decide) only [qup_ne, qup_if]) <;> (try rfl)), (fun k => by (try simp (disch := decide) only [qup_ne, qup_if]) <;> (try rfl)), (fun k => by (try simp (disch := decide) only [qup_ne, qup_if]) <;> (try rfl)), (fun q k h hf => by simp only [List.mem_cons, List.not_mem_nil, or_false, not_or] at h; obtain ⟨h0, h1, h2⟩ := h; simp only [qup_ne h0, qup_ne h1, qup_ne h2, qup_f hf])⟩
theorem K_X11_master {d : Nat} (hd : 2 ≤ d) (s g a b : Int) (n : Nat) (hn9 : n ≤ 60) (w : qW) (hI : yInv zgf zga zra zSp w) (hn : w 45 0 = (n : Int)) : qG none d 185 0 [(2, 1), (0, s), (0, g), (0, a), (0, b)] [] w 142 (fun (r : qV) (w1 : qW) (n1 : Nat) => n1 = 142 ∧ masE 45 0 46 47 48 [46, 47, 48] s g a b n w r w1) := by
  generalize hQ9 : (fun (r : qV) (w1 : qW) (n1 : Nat) => n1 = 142 ∧ masE 45 0 46 47 48 [46, 47, 48] s g a b n w r w1) = Q9
  obtain ⟨d, rfl⟩ : ∃ d9, d = d9 + 1 := ⟨d - 1, by omega⟩
  refine qG.blk 1 (pc' := 1) (ls' := [(2, 1), (0, s), (0, g), (0, a), (0, b)]) (st' := [(0, s)]) (w' := w) (n' := 142) rfl ?_
  refine qG.call (t := 200) (na := 1) (sk := 0) (md := 0) (ls1 := [(0, s)]) (r1 := []) rfl rfl rfl rfl rfl (K_X11_isSize (Nat.zero_le _) _ _) ?_
  rintro _ w7 _ ⟨rfl, hw7, rfl⟩
  rw [hw7]
  show qG none (d + 1) 185 4 [(2, 1), (0, s), (0, g), (0, a), (0, b)] [(0, isInV s 1 4)] w 142 Q9
  refine qG.br (P := isInV s 1 4 = 0) (pc1 := 21) (pc2 := 7) (st1 := []) rfl (fun h1 => ?_) (fun h1 => ?_)
  · skip
    rw [isIn_b] at h1
    refine qG.blk 1 (pc' := 22) (ls' := [(2, 1), (0, s), (0, g), (0, a), (0, b)]) (st' := [(0, (-1))]) (w' := w) (n' := 142) rfl ?_
    refine qG.ret rfl rfl ?_
    subst hQ9
    refine ⟨rfl, ?_⟩; first | exact hE | exact .inl ⟨by unfold masC; omega, rfl, rfl⟩
  · skip
    rw [isIn_p] at h1
    refine qG.blk 2 (pc' := 11) (ls' := [(2, 1), (0, s), (0, g), (0, a), (0, b)]) (st' := [(2, w 1 7)]) (w' := w) (n' := 142) rfl ?_
    rw [show w 1 7 = 45 from zref hI rfl rfl]
    refine qG.blk 3 (pc' := 15) (ls' := [(2, 1), (0, s), (0, g), (0, a), (0, b)]) (st' := [(0, b), (0, a), (0, g), (2, 45)]) (w' := w) (n' := 142) rfl ?_
    refine qG.call (t := 61) (na := 4) (sk := 1) (md := 1) (ls1 := [(2, 45), (0, g), (0, a), (0, b)]) (r1 := []) rfl rfl rfl rfl rfl (K_addMaster (by omega) s g a b h1 n hn9 w hI hn) ?_
    rintro ⟨_, x9⟩ w1 _ ⟨rfl, hE⟩
    have hk9 : ∃ y, ((_ : Nat), x9) = ((0 : Nat), y) := (by rcases hE with ⟨-, h, -⟩ | ⟨-, h, -⟩ <;> exact ⟨_, h⟩)
    obtain ⟨y9, hy9⟩ := hk9
    obtain ⟨rfl, rfl⟩ := Prod.mk.inj hy9
    show qG none (d + 1) 185 18 [(2, 1), (0, s), (0, g), (0, a), (0, b)] [(0, x9)] w1 142 Q9
    refine qG.blk 1 (pc' := 22) (ls' := [(2, 1), (0, s), (0, g), (0, a), (0, b)]) (st' := [(0, x9)]) (w' := w1) (n' := 142) rfl ?_
    refine qG.ret rfl rfl ?_
    subst hQ9
    refine ⟨rfl, ?_⟩; first | exact hE | exact .inl ⟨by unfold masC; omega, rfl, rfl⟩
theorem K_X12_master {d : Nat} (hd : 2 ≤ d) (s g a b : Int) (n : Nat) (hn9 : n ≤ 60) (w : qW) (hI : yInv zgf zga zra zSp w) (hn : w 95 55 = (n : Int)) : qG none d 280 0 [(2, 95), (0, s), (0, g), (0, a), (0, b), (9, 0)] [] w 142 (fun (r : qV) (w1 : qW) (n1 : Nat) => n1 = 142 ∧ masE 95 55 125 126 127 [125, 126, 127, 128] s g a b n w r w1) := by
  generalize hQ9 : (fun (r : qV) (w1 : qW) (n1 : Nat) => n1 = 142 ∧ masE 95 55 125 126 127 [125, 126, 127, 128] s g a b n w r w1) = Q9
  have h55 := zfld hI (j := 55) (b := (0, 12)) rfl
  have b55 : w 95 55 ≤ (12 : Int) := h55.2
  rw [hn] at b55
  obtain ⟨d, rfl⟩ : ∃ d9, d = d9 + 1 := ⟨d - 1, by omega⟩
  refine qG.blk 1 (pc' := 1) (ls' := [(2, 95), (0, s), (0, g), (0, a), (0, b), (9, 0)]) (st' := [(0, s)]) (w' := w) (n' := 142) rfl ?_
  refine qG.call (t := 210) (na := 1) (sk := 0) (md := 0) (ls1 := [(0, s)]) (r1 := []) rfl rfl rfl rfl rfl (K_isSize (by omega) _ _) ?_
  rintro _ w7 _ ⟨rfl, hw7, rfl⟩
  rw [hw7]
  show qG none (d + 1) 280 4 [(2, 95), (0, s), (0, g), (0, a), (0, b), (9, 0)] [(0, isInV s 1 4)] w 142 Q9
  refine qG.br (P := isInV s 1 4 = 0) (pc1 := 47) (pc2 := 7) (st1 := []) rfl (fun h1 => ?_) (fun h1 => ?_)
  · skip
    rw [isIn_b] at h1
    refine qG.blk 1 (pc' := 48) (ls' := [(2, 95), (0, s), (0, g), (0, a), (0, b), (9, 0)]) (st' := [(0, (-1))]) (w' := w) (n' := 142) rfl ?_
    refine qG.ret rfl rfl ?_
    subst hQ9
    refine ⟨rfl, ?_⟩; first | exact .inl ⟨by unfold masC; omega, rfl, rfl⟩ | exact .inr ⟨by unfold masC; omega, rfl, by simp (disch := decide) only [qup_ne, qup_k], (fun k => by (try simp (disch := decide) only [qup_ne, qup_if]) <;> (try rfl)), (fun k => by (try simp (disch := decide) only [qup_ne, qup_if]) <;> (try rfl)), (fun k => by (try simp (disch := decide) only [qup_ne, qup_if]) <;> (try rfl)), (fun q k h hf => by simp only [List.mem_cons, List.not_mem_nil, or_false, not_or] at h; obtain ⟨h0, h1, h2, h3⟩ := h; simp only [qup_ne h0, qup_ne h1, qup_ne h2, qup_ne h3, qup_f hf])⟩
  · skip
    rw [isIn_p] at h1
    refine qG.blk 3 (pc' := 11) (ls' := [(2, 95), (0, s), (0, g), (0, a), (0, b), (9, 0)]) (st' := [(0, 99), (0, 0), (0, g)]) (w' := w) (n' := 142) rfl ?_
    refine qG.call (t := 206) (na := 3) (sk := 0) (md := 0) (ls1 := [(0, g), (0, 0), (0, 99)]) (r1 := []) rfl rfl rfl rfl rfl (K_isIn (Nat.zero_le _) _ _ _ _) ?_
    rintro _ w7 _ ⟨rfl, hw7, rfl⟩
    rw [hw7]
    show qG none (d + 1) 280 14 [(2, 95), (0, s), (0, g), (0, a), (0, b), (9, 0)] [(0, isInV (g) (0) (99))] w 142 Q9
    refine qG.br (P := isInV (g) (0) (99) = 0) (pc1 := 47) (pc2 := 17) (st1 := []) rfl (fun h2 => ?_) (fun h2 => ?_)
    · skip
      rw [isIn_b] at h2
      refine qG.blk 1 (pc' := 48) (ls' := [(2, 95), (0, s), (0, g), (0, a), (0, b), (9, 0)]) (st' := [(0, (-1))]) (w' := w) (n' := 142) rfl ?_
      refine qG.ret rfl rfl ?_
      subst hQ9
      refine ⟨rfl, ?_⟩; first | exact .inl ⟨by unfold masC; omega, rfl, rfl⟩ | exact .inr ⟨by unfold masC; omega, rfl, by simp (disch := decide) only [qup_ne, qup_k], (fun k => by (try simp (disch := decide) only [qup_ne, qup_if]) <;> (try rfl)), (fun k => by (try simp (disch := decide) only [qup_ne, qup_if]) <;> (try rfl)), (fun k => by (try simp (disch := decide) only [qup_ne, qup_if]) <;> (try rfl)), (fun q k h hf => by simp only [List.mem_cons, List.not_mem_nil, or_false, not_or] at h; obtain ⟨h0, h1, h2, h3⟩ := h; simp only [qup_ne h0, qup_ne h1, qup_ne h2, qup_ne h3, qup_f hf])⟩
    · skip
      rw [isIn_p] at h2
      refine qG.blk 3 (pc' := 21) (ls' := [(2, 95), (0, s), (0, g), (0, a), (0, b), (9, 0)]) (st' := [(0, 99), (0, 0), (0, a)]) (w' := w) (n' := 142) rfl ?_
      refine qG.call (t := 206) (na := 3) (sk := 0) (md := 0) (ls1 := [(0, a), (0, 0), (0, 99)]) (r1 := []) rfl rfl rfl rfl rfl (K_isIn (Nat.zero_le _) _ _ _ _) ?_
      rintro _ w7 _ ⟨rfl, hw7, rfl⟩
      rw [hw7]
      show qG none (d + 1) 280 24 [(2, 95), (0, s), (0, g), (0, a), (0, b), (9, 0)] [(0, isInV (a) (0) (99))] w 142 Q9
      refine qG.br (P := isInV (a) (0) (99) = 0) (pc1 := 47) (pc2 := 27) (st1 := []) rfl (fun h3 => ?_) (fun h3 => ?_)
      · skip
        rw [isIn_b] at h3
        refine qG.blk 1 (pc' := 48) (ls' := [(2, 95), (0, s), (0, g), (0, a), (0, b), (9, 0)]) (st' := [(0, (-1))]) (w' := w) (n' := 142) rfl ?_
        refine qG.ret rfl rfl ?_
        subst hQ9
        refine ⟨rfl, ?_⟩; first | exact .inl ⟨by unfold masC; omega, rfl, rfl⟩ | exact .inr ⟨by unfold masC; omega, rfl, by simp (disch := decide) only [qup_ne, qup_k], (fun k => by (try simp (disch := decide) only [qup_ne, qup_if]) <;> (try rfl)), (fun k => by (try simp (disch := decide) only [qup_ne, qup_if]) <;> (try rfl)), (fun k => by (try simp (disch := decide) only [qup_ne, qup_if]) <;> (try rfl)), (fun q k h hf => by simp only [List.mem_cons, List.not_mem_nil, or_false, not_or] at h; obtain ⟨h0, h1, h2, h3⟩ := h; simp only [qup_ne h0, qup_ne h1, qup_ne h2, qup_ne h3, qup_f hf])⟩
      · skip
        rw [isIn_p] at h3
        refine qG.blk 3 (pc' := 32) (ls' := [(2, 95), (0, s), (0, g), (0, a), (0, b), (9, 0)]) (st' := [(0, 99), (0, a), (0, b)]) (w' := w) (n' := 142) rfl ?_
        refine qG.call (t := 206) (na := 3) (sk := 0) (md := 0) (ls1 := [(0, b), (0, a), (0, 99)]) (r1 := []) rfl rfl rfl rfl rfl (K_isIn (Nat.zero_le _) _ _ _ _) ?_
        rintro _ w7 _ ⟨rfl, hw7, rfl⟩
        rw [hw7]
        show qG none (d + 1) 280 35 [(2, 95), (0, s), (0, g), (0, a), (0, b), (9, 0)] [(0, isInV (b) (a) (99))] w 142 Q9
        refine qG.br (P := isInV (b) (a) (99) = 0) (pc1 := 47) (pc2 := 38) (st1 := []) rfl (fun h4 => ?_) (fun h4 => ?_)
        · skip
          rw [isIn_b] at h4
          refine qG.blk 1 (pc' := 48) (ls' := [(2, 95), (0, s), (0, g), (0, a), (0, b), (9, 0)]) (st' := [(0, (-1))]) (w' := w) (n' := 142) rfl ?_
          refine qG.ret rfl rfl ?_
          subst hQ9
          refine ⟨rfl, ?_⟩; first | exact .inl ⟨by unfold masC; omega, rfl, rfl⟩ | exact .inr ⟨by unfold masC; omega, rfl, by simp (disch := decide) only [qup_ne, qup_k], (fun k => by (try simp (disch := decide) only [qup_ne, qup_if]) <;> (try rfl)), (fun k => by (try simp (disch := decide) only [qup_ne, qup_if]) <;> (try rfl)), (fun k => by (try simp (disch := decide) only [qup_ne, qup_if]) <;> (try rfl)), (fun q k h hf => by simp only [List.mem_cons, List.not_mem_nil, or_false, not_or] at h; obtain ⟨h0, h1, h2, h3⟩ := h; simp only [qup_ne h0, qup_ne h1, qup_ne h2, qup_ne h3, qup_f hf])⟩
        · skip
          rw [isIn_p] at h4
          refine qG.blk 2 (pc' := 42) (ls' := [(2, 95), (0, s), (0, g), (0, a), (0, b), (9, 0)]) (st' := [(0, w 95 55)]) (w' := w) (n' := 142) rfl ?_
          rw [show w 95 55 = ((n : Nat) : Int) from hn]
          refine qG.blk 1 (pc' := 44) (ls' := [(2, 95), (0, s), (0, g), (0, a), (0, b), (9, 0)]) (st' := [(0, 12), (0, ((n : Nat) : Int))]) (w' := w) (n' := 142) rfl ?_
          refine qG.br (P := ((n : Nat) : Int) = 12) (pc1 := 47) (pc2 := 49) (st1 := []) rfl (fun h5 => ?_) (fun h5 => ?_)
          · skip
            refine qG.blk 1 (pc' := 48) (ls' := [(2, 95), (0, s), (0, g), (0, a), (0, b), (9, 0)]) (st' := [(0, (-1))]) (w' := w) (n' := 142) rfl ?_
            refine qG.ret rfl rfl ?_
            subst hQ9
            refine ⟨rfl, ?_⟩; first | exact .inl ⟨by unfold masC; omega, rfl, rfl⟩ | exact .inr ⟨by unfold masC; omega, rfl, by simp (disch := decide) only [qup_ne, qup_k], (fun k => by (try simp (disch := decide) only [qup_ne, qup_if]) <;> (try rfl)), (fun k => by (try simp (disch := decide) only [qup_ne, qup_if]) <;> (try rfl)), (fun k => by (try simp (disch := decide) only [qup_ne, qup_if]) <;> (try rfl)), (fun q k h hf => by simp only [List.mem_cons, List.not_mem_nil, or_false, not_or] at h; obtain ⟨h0, h1, h2, h3⟩ := h; simp only [qup_ne h0, qup_ne h1, qup_ne h2, qup_ne h3, qup_f hf])⟩
          · skip
            refine qG.blk 2 (pc' := 53) (ls' := [(2, 95), (0, s), (0, g), (0, a), (0, b), (9, 0)]) (st' := [(2, w 95 58)]) (w' := w) (n' := 142) rfl ?_
            rw [show w 95 58 = 125 from zref hI rfl rfl]
            refine qG.blk 2 (pc' := 57) (ls' := [(2, 95), (0, s), (0, g), (0, a), (0, b), (9, 0)]) (st' := [(0, w 95 55), (2, 125)]) (w' := w) (n' := 142) rfl ?_
            rw [show w 95 55 = ((n : Nat) : Int) from hn]
            refine qG.blk 1 (pc' := 58) (ls' := [(2, 95), (0, s), (0, g), (0, a), (0, b), (9, 0)]) (st' := [(0, g), (0, ((n : Nat) : Int)), (2, 125)]) (w' := w) (n' := 142) rfl ?_
            refine qG.ar (P := 0 ≤ ((n : Nat) : Int) ∧ ((n : Nat) : Int) < ((12 : Nat) : Int)) (P2 := 0 < (125 : Int) ∧ (125 : Int) ≤ ((142 : Nat) : Int)) (pc' := 59) (ls' := [(2, 95), (0, s), (0, g), (0, a), (0, b), (9, 0)]) (st' := []) (w' := (qup w 125 n g)) (n' := 142) rfl (by omega) (by decide) ?_
            refine qG.blk 2 (pc' := 63) (ls' := [(2, 95), (0, s), (0, g), (0, a), (0, b), (9, 0)]) (st' := [(2, w 95 59)]) (w' := (qup w 125 n g)) (n' := 142) rfl ?_
            rw [show w 95 59 = 126 from zref hI rfl rfl]
            refine qG.blk 2 (pc' := 67) (ls' := [(2, 95), (0, s), (0, g), (0, a), (0, b), (9, 0)]) (st' := [(0, w 95 55), (2, 126)]) (w' := (qup w 125 n g)) (n' := 142) rfl ?_
            rw [show w 95 55 = ((n : Nat) : Int) from hn]
            refine qG.blk 1 (pc' := 68) (ls' := [(2, 95), (0, s), (0, g), (0, a), (0, b), (9, 0)]) (st' := [(0, a), (0, ((n : Nat) : Int)), (2, 126)]) (w' := (qup w 125 n g)) (n' := 142) rfl ?_
            refine qG.ar (P := 0 ≤ ((n : Nat) : Int) ∧ ((n : Nat) : Int) < ((12 : Nat) : Int)) (P2 := 0 < (126 : Int) ∧ (126 : Int) ≤ ((142 : Nat) : Int)) (pc' := 69) (ls' := [(2, 95), (0, s), (0, g), (0, a), (0, b), (9, 0)]) (st' := []) (w' := (qup (qup w 125 n g) 126 n a)) (n' := 142) rfl (by omega) (by decide) ?_
            refine qG.blk 2 (pc' := 73) (ls' := [(2, 95), (0, s), (0, g), (0, a), (0, b), (9, 0)]) (st' := [(2, w 95 60)]) (w' := (qup (qup w 125 n g) 126 n a)) (n' := 142) rfl ?_
            rw [show w 95 60 = 127 from zref hI rfl rfl]
            refine qG.blk 2 (pc' := 77) (ls' := [(2, 95), (0, s), (0, g), (0, a), (0, b), (9, 0)]) (st' := [(0, w 95 55), (2, 127)]) (w' := (qup (qup w 125 n g) 126 n a)) (n' := 142) rfl ?_
            rw [show w 95 55 = ((n : Nat) : Int) from hn]
            refine qG.blk 1 (pc' := 79) (ls' := [(2, 95), (0, s), (0, g), (0, a), (0, b), (9, 0)]) (st' := [(0, b), (0, ((n : Nat) : Int)), (2, 127)]) (w' := (qup (qup w 125 n g) 126 n a)) (n' := 142) rfl ?_
            refine qG.ar (P := 0 ≤ ((n : Nat) : Int) ∧ ((n : Nat) : Int) < ((12 : Nat) : Int)) (P2 := 0 < (127 : Int) ∧ (127 : Int) ≤ ((142 : Nat) : Int)) (pc' := 80) (ls' := [(2, 95), (0, s), (0, g), (0, a), (0, b), (9, 0)]) (st' := []) (w' := (qup (qup (qup w 125 n g) 126 n a) 127 n b)) (n' := 142) rfl (by omega) (by decide) ?_
            refine qG.blk 4 (pc' := 86) (ls' := [(2, 95), (0, s), (0, g), (0, a), (0, b), (0, 0)]) (st' := [(0, 3), (0, 0)]) (w' := (qup (qup (qup w 125 n g) 126 n a) 127 n b)) (n' := 142) rfl ?_
            refine qG.br (P := (0 : Int) < 3) (pc1 := 89) (pc2 := 110) (st1 := []) rfl (fun h1 => ?_) (fun h1 => ?_)
            · skip
              refine qG.blk 2 (pc' := 93) (ls' := [(2, 95), (0, s), (0, g), (0, a), (0, b), (0, 0)]) (st' := [(2, w 95 61)]) (w' := (qup (qup (qup w 125 n g) 126 n a) 127 n b)) (n' := 142) rfl ?_
              rw [show w 95 61 = 128 from zref hI rfl rfl]
              refine qG.blk 3 (pc' := 98) (ls' := [(2, 95), (0, s), (0, g), (0, a), (0, b), (0, 0)]) (st' := [(0, w 95 55), (0, 3), (2, 128)]) (w' := (qup (qup (qup w 125 n g) 126 n a) 127 n b)) (n' := 142) rfl ?_
              rw [show w 95 55 = ((n : Nat) : Int) from hn]
              refine qG.blk 1 (pc' := 99) (ls' := [(2, 95), (0, s), (0, g), (0, a), (0, b), (0, 0)]) (st' := [(0, wrp (3 * ((n : Nat) : Int))), (2, 128)]) (w' := (qup (qup (qup w 125 n g) 126 n a) 127 n b)) (n' := 142) rfl ?_
              rw [show wrp (3 * ((n : Nat) : Int)) = ((3 * n : Nat) : Int) from by rw [wrp_id (by omega) (by omega)]; omega]
              refine qG.blk 2 (pc' := 102) (ls' := [(2, 95), (0, s), (0, g), (0, a), (0, b), (0, 0)]) (st' := [(0, wrp (((3 * n : Nat) : Int) + 0)), (2, 128)]) (w' := (qup (qup (qup w 125 n g) 126 n a) 127 n b)) (n' := 142) rfl ?_
              rw [show wrp (((3 * n : Nat) : Int) + 0) = ((3 * n + 0 : Nat) : Int) from by rw [wrp_id (by omega) (by omega)]; omega]
              refine qG.blk 1 (pc' := 103) (ls' := [(2, 95), (0, s), (0, g), (0, a), (0, b), (0, 0)]) (st' := [(0, 1), (0, ((3 * n + 0 : Nat) : Int)), (2, 128)]) (w' := (qup (qup (qup w 125 n g) 126 n a) 127 n b)) (n' := 142) rfl ?_
              refine qG.ar (P := 0 ≤ ((3 * n + 0 : Nat) : Int) ∧ ((3 * n + 0 : Nat) : Int) < ((36 : Nat) : Int)) (P2 := 0 < (128 : Int) ∧ (128 : Int) ≤ ((142 : Nat) : Int)) (pc' := 104) (ls' := [(2, 95), (0, s), (0, g), (0, a), (0, b), (0, 0)]) (st' := []) (w' := (qup (qup (qup (qup w 125 n g) 126 n a) 127 n b) 128 (3 * n + 0) 1)) (n' := 142) rfl (by omega) (by decide) ?_
              refine qG.blk 1 (pc' := 107) (ls' := [(2, 95), (0, s), (0, g), (0, a), (0, b), (0, wrp (0 + 1))]) (st' := []) (w' := (qup (qup (qup (qup w 125 n g) 126 n a) 127 n b) 128 (3 * n + 0) 1)) (n' := 142) rfl ?_
              rw [show wrp (0 + 1) = 1 from wrp_id (by omega) (by omega)]
              refine qG.blk 3 (pc' := 86) (ls' := [(2, 95), (0, s), (0, g), (0, a), (0, b), (0, 1)]) (st' := [(0, 3), (0, 1)]) (w' := (qup (qup (qup (qup w 125 n g) 126 n a) 127 n b) 128 (3 * n + 0) 1)) (n' := 142) rfl ?_
              refine qG.br (P := (1 : Int) < 3) (pc1 := 89) (pc2 := 110) (st1 := []) rfl (fun h2 => ?_) (fun h2 => ?_)
              · skip
                refine qG.blk 2 (pc' := 93) (ls' := [(2, 95), (0, s), (0, g), (0, a), (0, b), (0, 1)]) (st' := [(2, w 95 61)]) (w' := (qup (qup (qup (qup w 125 n g) 126 n a) 127 n b) 128 (3 * n + 0) 1)) (n' := 142) rfl ?_
                rw [show w 95 61 = 128 from zref hI rfl rfl]
                refine qG.blk 3 (pc' := 98) (ls' := [(2, 95), (0, s), (0, g), (0, a), (0, b), (0, 1)]) (st' := [(0, w 95 55), (0, 3), (2, 128)]) (w' := (qup (qup (qup (qup w 125 n g) 126 n a) 127 n b) 128 (3 * n + 0) 1)) (n' := 142) rfl ?_
                rw [show w 95 55 = ((n : Nat) : Int) from hn]
                refine qG.blk 1 (pc' := 99) (ls' := [(2, 95), (0, s), (0, g), (0, a), (0, b), (0, 1)]) (st' := [(0, wrp (3 * ((n : Nat) : Int))), (2, 128)]) (w' := (qup (qup (qup (qup w 125 n g) 126 n a) 127 n b) 128 (3 * n + 0) 1)) (n' := 142) rfl ?_
                rw [show wrp (3 * ((n : Nat) : Int)) = ((3 * n : Nat) : Int) from by rw [wrp_id (by omega) (by omega)]; omega]
                refine qG.blk 2 (pc' := 102) (ls' := [(2, 95), (0, s), (0, g), (0, a), (0, b), (0, 1)]) (st' := [(0, wrp (((3 * n : Nat) : Int) + 1)), (2, 128)]) (w' := (qup (qup (qup (qup w 125 n g) 126 n a) 127 n b) 128 (3 * n + 0) 1)) (n' := 142) rfl ?_
                rw [show wrp (((3 * n : Nat) : Int) + 1) = ((3 * n + 1 : Nat) : Int) from by rw [wrp_id (by omega) (by omega)]; omega]
                refine qG.blk 1 (pc' := 103) (ls' := [(2, 95), (0, s), (0, g), (0, a), (0, b), (0, 1)]) (st' := [(0, 1), (0, ((3 * n + 1 : Nat) : Int)), (2, 128)]) (w' := (qup (qup (qup (qup w 125 n g) 126 n a) 127 n b) 128 (3 * n + 0) 1)) (n' := 142) rfl ?_
                refine qG.ar (P := 0 ≤ ((3 * n + 1 : Nat) : Int) ∧ ((3 * n + 1 : Nat) : Int) < ((36 : Nat) : Int)) (P2 := 0 < (128 : Int) ∧ (128 : Int) ≤ ((142 : Nat) : Int)) (pc' := 104) (ls' := [(2, 95), (0, s), (0, g), (0, a), (0, b), (0, 1)]) (st' := []) (w' := (qup (qup (qup (qup (qup w 125 n g) 126 n a) 127 n b) 128 (3 * n + 0) 1) 128 (3 * n + 1) 1)) (n' := 142) rfl (by omega) (by decide) ?_
                refine qG.blk 1 (pc' := 107) (ls' := [(2, 95), (0, s), (0, g), (0, a), (0, b), (0, wrp (1 + 1))]) (st' := []) (w' := (qup (qup (qup (qup (qup w 125 n g) 126 n a) 127 n b) 128 (3 * n + 0) 1) 128 (3 * n + 1) 1)) (n' := 142) rfl ?_
                rw [show wrp (1 + 1) = 2 from wrp_id (by omega) (by omega)]
                refine qG.blk 3 (pc' := 86) (ls' := [(2, 95), (0, s), (0, g), (0, a), (0, b), (0, 2)]) (st' := [(0, 3), (0, 2)]) (w' := (qup (qup (qup (qup (qup w 125 n g) 126 n a) 127 n b) 128 (3 * n + 0) 1) 128 (3 * n + 1) 1)) (n' := 142) rfl ?_
                refine qG.br (P := (2 : Int) < 3) (pc1 := 89) (pc2 := 110) (st1 := []) rfl (fun h3 => ?_) (fun h3 => ?_)
                · skip
                  refine qG.blk 2 (pc' := 93) (ls' := [(2, 95), (0, s), (0, g), (0, a), (0, b), (0, 2)]) (st' := [(2, w 95 61)]) (w' := (qup (qup (qup (qup (qup w 125 n g) 126 n a) 127 n b) 128 (3 * n + 0) 1) 128 (3 * n + 1) 1)) (n' := 142) rfl ?_
                  rw [show w 95 61 = 128 from zref hI rfl rfl]
                  refine qG.blk 3 (pc' := 98) (ls' := [(2, 95), (0, s), (0, g), (0, a), (0, b), (0, 2)]) (st' := [(0, w 95 55), (0, 3), (2, 128)]) (w' := (qup (qup (qup (qup (qup w 125 n g) 126 n a) 127 n b) 128 (3 * n + 0) 1) 128 (3 * n + 1) 1)) (n' := 142) rfl ?_
                  rw [show w 95 55 = ((n : Nat) : Int) from hn]
                  refine qG.blk 1 (pc' := 99) (ls' := [(2, 95), (0, s), (0, g), (0, a), (0, b), (0, 2)]) (st' := [(0, wrp (3 * ((n : Nat) : Int))), (2, 128)]) (w' := (qup (qup (qup (qup (qup w 125 n g) 126 n a) 127 n b) 128 (3 * n + 0) 1) 128 (3 * n + 1) 1)) (n' := 142) rfl ?_
                  rw [show wrp (3 * ((n : Nat) : Int)) = ((3 * n : Nat) : Int) from by rw [wrp_id (by omega) (by omega)]; omega]
                  refine qG.blk 2 (pc' := 102) (ls' := [(2, 95), (0, s), (0, g), (0, a), (0, b), (0, 2)]) (st' := [(0, wrp (((3 * n : Nat) : Int) + 2)), (2, 128)]) (w' := (qup (qup (qup (qup (qup w 125 n g) 126 n a) 127 n b) 128 (3 * n + 0) 1) 128 (3 * n + 1) 1)) (n' := 142) rfl ?_
                  rw [show wrp (((3 * n : Nat) : Int) + 2) = ((3 * n + 2 : Nat) : Int) from by rw [wrp_id (by omega) (by omega)]; omega]
                  refine qG.blk 1 (pc' := 103) (ls' := [(2, 95), (0, s), (0, g), (0, a), (0, b), (0, 2)]) (st' := [(0, 1), (0, ((3 * n + 2 : Nat) : Int)), (2, 128)]) (w' := (qup (qup (qup (qup (qup w 125 n g) 126 n a) 127 n b) 128 (3 * n + 0) 1) 128 (3 * n + 1) 1)) (n' := 142) rfl ?_
                  refine qG.ar (P := 0 ≤ ((3 * n + 2 : Nat) : Int) ∧ ((3 * n + 2 : Nat) : Int) < ((36 : Nat) : Int)) (P2 := 0 < (128 : Int) ∧ (128 : Int) ≤ ((142 : Nat) : Int)) (pc' := 104) (ls' := [(2, 95), (0, s), (0, g), (0, a), (0, b), (0, 2)]) (st' := []) (w' := (qup (qup (qup (qup (qup (qup w 125 n g) 126 n a) 127 n b) 128 (3 * n + 0) 1) 128 (3 * n + 1) 1) 128 (3 * n + 2) 1)) (n' := 142) rfl (by omega) (by decide) ?_
                  refine qG.blk 1 (pc' := 107) (ls' := [(2, 95), (0, s), (0, g), (0, a), (0, b), (0, wrp (2 + 1))]) (st' := []) (w' := (qup (qup (qup (qup (qup (qup w 125 n g) 126 n a) 127 n b) 128 (3 * n + 0) 1) 128 (3 * n + 1) 1) 128 (3 * n + 2) 1)) (n' := 142) rfl ?_
                  rw [show wrp (2 + 1) = 3 from wrp_id (by omega) (by omega)]
                  refine qG.blk 3 (pc' := 86) (ls' := [(2, 95), (0, s), (0, g), (0, a), (0, b), (0, 3)]) (st' := [(0, 3), (0, 3)]) (w' := (qup (qup (qup (qup (qup (qup w 125 n g) 126 n a) 127 n b) 128 (3 * n + 0) 1) 128 (3 * n + 1) 1) 128 (3 * n + 2) 1)) (n' := 142) rfl ?_
                  refine qG.br (P := (3 : Int) < 3) (pc1 := 89) (pc2 := 110) (st1 := []) rfl (fun h4 => ?_) (fun h4 => ?_)
                  · exact absurd h4 (by decide)
                  · skip
                    refine qG.blk 3 (pc' := 115) (ls' := [(2, 95), (0, s), (0, g), (0, a), (0, b), (0, 3)]) (st' := [(0, w 95 55), (2, 95)]) (w' := (qup (qup (qup (qup (qup (qup w 125 n g) 126 n a) 127 n b) 128 (3 * n + 0) 1) 128 (3 * n + 1) 1) 128 (3 * n + 2) 1)) (n' := 142) rfl ?_
                    rw [show w 95 55 = ((n : Nat) : Int) from hn]
                    refine qG.blk 2 (pc' := 117) (ls' := [(2, 95), (0, s), (0, g), (0, a), (0, b), (0, 3)]) (st' := [(0, wrp (((n : Nat) : Int) + 1)), (2, 95)]) (w' := (qup (qup (qup (qup (qup (qup w 125 n g) 126 n a) 127 n b) 128 (3 * n + 0) 1) 128 (3 * n + 1) 1) 128 (3 * n + 2) 1)) (n' := 142) rfl ?_
                    rw [show wrp (((n : Nat) : Int) + 1) = ((n + 1 : Nat) : Int) from by rw [wrp_id (by omega) (by omega)]; omega]
                    refine qG.blk 5 (pc' := 126) (ls' := [(2, 95), (0, s), (0, g), (0, a), (0, b), (0, 3)]) (st' := [(0, wrp (((n + 1 : Nat) : Int) - 1))]) (w' := (qup (qup (qup (qup (qup (qup (qup w 125 n g) 126 n a) 127 n b) 128 (3 * n + 0) 1) 128 (3 * n + 1) 1) 128 (3 * n + 2) 1) 95 55 ((n + 1 : Nat) : Int))) (n' := 142) rfl ?_
                    rw [show wrp (((n + 1 : Nat) : Int) - 1) = ((n : Nat) : Int) from by rw [wrp_id (by omega) (by omega)]; omega]
                    refine qG.ret rfl rfl ?_
                    subst hQ9
                    refine ⟨rfl, ?_⟩; first | exact .inl ⟨by unfold masC; omega, rfl, rfl⟩ | exact .inr ⟨by unfold masC; omega, rfl, by simp (disch := decide) only [qup_ne, qup_k], (fun k => by (try simp (disch := decide) only [qup_ne, qup_if]) <;> (try rfl)), (fun k => by (try simp (disch := decide) only [qup_ne, qup_if]) <;> (try rfl)), (fun k => by (try simp (disch := decide) only [qup_ne, qup_if]) <;> (try rfl)), (fun q k h hf => by simp only [List.mem_cons, List.not_mem_nil, or_false, not_or] at h; obtain ⟨h0, h1, h2, h3⟩ := h; simp only [qup_ne h0, qup_ne h1, qup_ne h2, qup_ne h3, qup_f hf])⟩
                · exact absurd h3 (by decide)
              · exact absurd h2 (by decide)
            · exact absurd h1 (by decide)
theorem K_addNight {d : Nat} (hd : 1 ≤ d) (y t g e a : Int) (n : Nat) (hn9 : n ≤ 60) (w : qW) (hI : yInv zgf zga zra zSp w) (hn : w 45 7 = (n : Int)) : qG none d 64 0 [(2, 45), (0, y), (0, t), (0, g), (0, e), (0, a)] [] w 142 (fun (r : qV) (w1 : qW) (n1 : Nat) => n1 = 142 ∧ nigE 45 7 51 52 53 54 55 y t g e a n w r w1) := by
  generalize hQ9 : (fun (r : qV) (w1 : qW) (n1 : Nat) => n1 = 142 ∧ nigE 45 7 51 52 53 54 55 y t g e a n w r w1) = Q9
  obtain ⟨d, rfl⟩ : ∃ d9, d = d9 + 1 := ⟨d - 1, by omega⟩
  refine qG.blk 1 (pc' := 1) (ls' := [(2, 45), (0, y), (0, t), (0, g), (0, e), (0, a)]) (st' := [(0, y)]) (w' := w) (n' := 142) rfl ?_
  refine qG.call (t := 55) (na := 1) (sk := 0) (md := 0) (ls1 := [(0, y)]) (r1 := []) rfl rfl rfl rfl rfl (K_X4_isYear (Nat.zero_le _) _ _) ?_
  rintro _ w7 _ ⟨rfl, hw7, rfl⟩
  rw [hw7]
  show qG none (d + 1) 64 4 [(2, 45), (0, y), (0, t), (0, g), (0, e), (0, a)] [(0, isInV y 0 99)] w 142 Q9
  refine qG.br (P := isInV y 0 99 = 0) (pc1 := 32) (pc2 := 7) (st1 := []) rfl (fun h1 => ?_) (fun h1 => ?_)
  · skip
    rw [isIn_b] at h1
    refine qG.blk 1 (pc' := 33) (ls' := [(2, 45), (0, y), (0, t), (0, g), (0, e), (0, a)]) (st' := [(0, (-1))]) (w' := w) (n' := 142) rfl ?_
    refine qG.ret rfl rfl ?_
    subst hQ9
    refine ⟨rfl, ?_⟩; first | exact .inl ⟨by unfold nigC; omega, rfl, rfl⟩ | exact .inr ⟨by unfold nigC; omega, rfl, by simp (disch := decide) only [qup_ne, qup_k], (fun k => by (try simp (disch := decide) only [qup_ne, qup_if]) <;> (try rfl)), (fun k => by (try simp (disch := decide) only [qup_ne, qup_if]) <;> (try rfl)), (fun k => by (try simp (disch := decide) only [qup_ne, qup_if]) <;> (try rfl)), (fun k => by (try simp (disch := decide) only [qup_ne, qup_if]) <;> (try rfl)), (fun k => by (try simp (disch := decide) only [qup_ne, qup_if]) <;> (try rfl)), (fun q k h hf => by simp only [List.mem_cons, List.not_mem_nil, or_false, not_or] at h; obtain ⟨h0, h1, h2, h3, h4⟩ := h; simp only [qup_ne h0, qup_ne h1, qup_ne h2, qup_ne h3, qup_ne h4, qup_f hf])⟩
  · skip
    rw [isIn_p] at h1
    refine qG.blk 1 (pc' := 8) (ls' := [(2, 45), (0, y), (0, t), (0, g), (0, e), (0, a)]) (st' := [(0, t)]) (w' := w) (n' := 142) rfl ?_
    refine qG.call (t := 56) (na := 1) (sk := 0) (md := 0) (ls1 := [(0, t)]) (r1 := []) rfl rfl rfl rfl rfl (K_X4_isTown (Nat.zero_le _) _ _) ?_
    rintro _ w7 _ ⟨rfl, hw7, rfl⟩
    rw [hw7]
    show qG none (d + 1) 64 11 [(2, 45), (0, y), (0, t), (0, g), (0, e), (0, a)] [(0, isInV t 0 9)] w 142 Q9
    refine qG.br (P := isInV t 0 9 = 0) (pc1 := 32) (pc2 := 14) (st1 := []) rfl (fun h2 => ?_) (fun h2 => ?_)
    · skip
      rw [isIn_b] at h2
      refine qG.blk 1 (pc' := 33) (ls' := [(2, 45), (0, y), (0, t), (0, g), (0, e), (0, a)]) (st' := [(0, (-1))]) (w' := w) (n' := 142) rfl ?_
      refine qG.ret rfl rfl ?_
      subst hQ9
      refine ⟨rfl, ?_⟩; first | exact .inl ⟨by unfold nigC; omega, rfl, rfl⟩ | exact .inr ⟨by unfold nigC; omega, rfl, by simp (disch := decide) only [qup_ne, qup_k], (fun k => by (try simp (disch := decide) only [qup_ne, qup_if]) <;> (try rfl)), (fun k => by (try simp (disch := decide) only [qup_ne, qup_if]) <;> (try rfl)), (fun k => by (try simp (disch := decide) only [qup_ne, qup_if]) <;> (try rfl)), (fun k => by (try simp (disch := decide) only [qup_ne, qup_if]) <;> (try rfl)), (fun k => by (try simp (disch := decide) only [qup_ne, qup_if]) <;> (try rfl)), (fun q k h hf => by simp only [List.mem_cons, List.not_mem_nil, or_false, not_or] at h; obtain ⟨h0, h1, h2, h3, h4⟩ := h; simp only [qup_ne h0, qup_ne h1, qup_ne h2, qup_ne h3, qup_ne h4, qup_f hf])⟩
    · skip
      rw [isIn_p] at h2
      refine qG.blk 1 (pc' := 15) (ls' := [(2, 45), (0, y), (0, t), (0, g), (0, e), (0, a)]) (st' := [(0, g)]) (w' := w) (n' := 142) rfl ?_
      refine qG.call (t := 57) (na := 1) (sk := 0) (md := 0) (ls1 := [(0, g)]) (r1 := []) rfl rfl rfl rfl rfl (K_X4_isStrength (Nat.zero_le _) _ _) ?_
      rintro _ w7 _ ⟨rfl, hw7, rfl⟩
      rw [hw7]
      show qG none (d + 1) 64 18 [(2, 45), (0, y), (0, t), (0, g), (0, e), (0, a)] [(0, isInV g 0 99)] w 142 Q9
      refine qG.br (P := isInV g 0 99 = 0) (pc1 := 32) (pc2 := 21) (st1 := []) rfl (fun h3 => ?_) (fun h3 => ?_)
      · skip
        rw [isIn_b] at h3
        refine qG.blk 1 (pc' := 33) (ls' := [(2, 45), (0, y), (0, t), (0, g), (0, e), (0, a)]) (st' := [(0, (-1))]) (w' := w) (n' := 142) rfl ?_
        refine qG.ret rfl rfl ?_
        subst hQ9
        refine ⟨rfl, ?_⟩; first | exact .inl ⟨by unfold nigC; omega, rfl, rfl⟩ | exact .inr ⟨by unfold nigC; omega, rfl, by simp (disch := decide) only [qup_ne, qup_k], (fun k => by (try simp (disch := decide) only [qup_ne, qup_if]) <;> (try rfl)), (fun k => by (try simp (disch := decide) only [qup_ne, qup_if]) <;> (try rfl)), (fun k => by (try simp (disch := decide) only [qup_ne, qup_if]) <;> (try rfl)), (fun k => by (try simp (disch := decide) only [qup_ne, qup_if]) <;> (try rfl)), (fun k => by (try simp (disch := decide) only [qup_ne, qup_if]) <;> (try rfl)), (fun q k h hf => by simp only [List.mem_cons, List.not_mem_nil, or_false, not_or] at h; obtain ⟨h0, h1, h2, h3, h4⟩ := h; simp only [qup_ne h0, qup_ne h1, qup_ne h2, qup_ne h3, qup_ne h4, qup_f hf])⟩
      · skip
        rw [isIn_p] at h3
        refine qG.blk 1 (pc' := 23) (ls' := [(2, 45), (0, y), (0, t), (0, g), (0, e), (0, a)]) (st' := [(0, e)]) (w' := w) (n' := 142) rfl ?_
        refine qG.br (P := e < 0) (pc1 := 32) (pc2 := 26) (st1 := []) rfl (fun h1 => ?_) (fun h1 => ?_)
        · skip
          refine qG.blk 1 (pc' := 33) (ls' := [(2, 45), (0, y), (0, t), (0, g), (0, e), (0, a)]) (st' := [(0, (-1))]) (w' := w) (n' := 142) rfl ?_
          refine qG.ret rfl rfl ?_
          subst hQ9
          refine ⟨rfl, ?_⟩; first | exact .inl ⟨by unfold nigC; omega, rfl, rfl⟩ | exact .inr ⟨by unfold nigC; omega, rfl, by simp (disch := decide) only [qup_ne, qup_k], (fun k => by (try simp (disch := decide) only [qup_ne, qup_if]) <;> (try rfl)), (fun k => by (try simp (disch := decide) only [qup_ne, qup_if]) <;> (try rfl)), (fun k => by (try simp (disch := decide) only [qup_ne, qup_if]) <;> (try rfl)), (fun k => by (try simp (disch := decide) only [qup_ne, qup_if]) <;> (try rfl)), (fun k => by (try simp (disch := decide) only [qup_ne, qup_if]) <;> (try rfl)), (fun q k h hf => by simp only [List.mem_cons, List.not_mem_nil, or_false, not_or] at h; obtain ⟨h0, h1, h2, h3, h4⟩ := h; simp only [qup_ne h0, qup_ne h1, qup_ne h2, qup_ne h3, qup_ne h4, qup_f hf])⟩
        · skip
          refine qG.blk 2 (pc' := 29) (ls' := [(2, 45), (0, y), (0, t), (0, g), (0, e), (0, a)]) (st' := [(0, 2), (0, e)]) (w' := w) (n' := 142) rfl ?_
          refine qG.br (P := 2 < e) (pc1 := 32) (pc2 := 34) (st1 := []) rfl (fun h2 => ?_) (fun h2 => ?_)
          · skip
            refine qG.blk 1 (pc' := 33) (ls' := [(2, 45), (0, y), (0, t), (0, g), (0, e), (0, a)]) (st' := [(0, (-1))]) (w' := w) (n' := 142) rfl ?_
            refine qG.ret rfl rfl ?_
            subst hQ9
            refine ⟨rfl, ?_⟩; first | exact .inl ⟨by unfold nigC; omega, rfl, rfl⟩ | exact .inr ⟨by unfold nigC; omega, rfl, by simp (disch := decide) only [qup_ne, qup_k], (fun k => by (try simp (disch := decide) only [qup_ne, qup_if]) <;> (try rfl)), (fun k => by (try simp (disch := decide) only [qup_ne, qup_if]) <;> (try rfl)), (fun k => by (try simp (disch := decide) only [qup_ne, qup_if]) <;> (try rfl)), (fun k => by (try simp (disch := decide) only [qup_ne, qup_if]) <;> (try rfl)), (fun k => by (try simp (disch := decide) only [qup_ne, qup_if]) <;> (try rfl)), (fun q k h hf => by simp only [List.mem_cons, List.not_mem_nil, or_false, not_or] at h; obtain ⟨h0, h1, h2, h3, h4⟩ := h; simp only [qup_ne h0, qup_ne h1, qup_ne h2, qup_ne h3, qup_ne h4, qup_f hf])⟩
          · skip
            refine qG.blk 2 (pc' := 37) (ls' := [(2, 45), (0, y), (0, t), (0, g), (0, e), (0, a)]) (st' := [(0, (-1)), (0, a)]) (w' := w) (n' := 142) rfl ?_
            refine qG.br (P := a = (-1)) (pc1 := 48) (pc2 := 40) (st1 := []) rfl (fun h3 => ?_) (fun h3 => ?_)
            · skip
              refine qG.blk 2 (pc' := 52) (ls' := [(2, 45), (0, y), (0, t), (0, g), (0, e), (0, a)]) (st' := [(0, w 45 7)]) (w' := w) (n' := 142) rfl ?_
              rw [show w 45 7 = ((n : Nat) : Int) from hn]
              refine qG.blk 1 (pc' := 54) (ls' := [(2, 45), (0, y), (0, t), (0, g), (0, e), (0, a)]) (st' := [(0, 60), (0, ((n : Nat) : Int))]) (w' := w) (n' := 142) rfl ?_
              refine qG.br (P := ((n : Nat) : Int) < 60) (pc1 := 59) (pc2 := 57) (st1 := []) rfl (fun h4 => ?_) (fun h4 => ?_)
              · skip
                refine qG.blk 2 (pc' := 63) (ls' := [(2, 45), (0, y), (0, t), (0, g), (0, e), (0, a)]) (st' := [(2, w 45 8)]) (w' := w) (n' := 142) rfl ?_
                rw [show w 45 8 = 51 from zref hI rfl rfl]
                refine qG.blk 2 (pc' := 67) (ls' := [(2, 45), (0, y), (0, t), (0, g), (0, e), (0, a)]) (st' := [(0, w 45 7), (2, 51)]) (w' := w) (n' := 142) rfl ?_
                rw [show w 45 7 = ((n : Nat) : Int) from hn]
                refine qG.blk 1 (pc' := 68) (ls' := [(2, 45), (0, y), (0, t), (0, g), (0, e), (0, a)]) (st' := [(0, y), (0, ((n : Nat) : Int)), (2, 51)]) (w' := w) (n' := 142) rfl ?_
                refine qG.ar (P := 0 ≤ ((n : Nat) : Int) ∧ ((n : Nat) : Int) < ((60 : Nat) : Int)) (P2 := 0 < (51 : Int) ∧ (51 : Int) ≤ ((142 : Nat) : Int)) (pc' := 69) (ls' := [(2, 45), (0, y), (0, t), (0, g), (0, e), (0, a)]) (st' := []) (w' := (qup w 51 n y)) (n' := 142) rfl (by omega) (by decide) ?_
                refine qG.blk 2 (pc' := 73) (ls' := [(2, 45), (0, y), (0, t), (0, g), (0, e), (0, a)]) (st' := [(2, w 45 9)]) (w' := (qup w 51 n y)) (n' := 142) rfl ?_
                rw [show w 45 9 = 52 from zref hI rfl rfl]
                refine qG.blk 2 (pc' := 77) (ls' := [(2, 45), (0, y), (0, t), (0, g), (0, e), (0, a)]) (st' := [(0, w 45 7), (2, 52)]) (w' := (qup w 51 n y)) (n' := 142) rfl ?_
                rw [show w 45 7 = ((n : Nat) : Int) from hn]
                refine qG.blk 1 (pc' := 78) (ls' := [(2, 45), (0, y), (0, t), (0, g), (0, e), (0, a)]) (st' := [(0, t), (0, ((n : Nat) : Int)), (2, 52)]) (w' := (qup w 51 n y)) (n' := 142) rfl ?_
                refine qG.ar (P := 0 ≤ ((n : Nat) : Int) ∧ ((n : Nat) : Int) < ((60 : Nat) : Int)) (P2 := 0 < (52 : Int) ∧ (52 : Int) ≤ ((142 : Nat) : Int)) (pc' := 79) (ls' := [(2, 45), (0, y), (0, t), (0, g), (0, e), (0, a)]) (st' := []) (w' := (qup (qup w 51 n y) 52 n t)) (n' := 142) rfl (by omega) (by decide) ?_
                refine qG.blk 2 (pc' := 83) (ls' := [(2, 45), (0, y), (0, t), (0, g), (0, e), (0, a)]) (st' := [(2, w 45 10)]) (w' := (qup (qup w 51 n y) 52 n t)) (n' := 142) rfl ?_
                rw [show w 45 10 = 53 from zref hI rfl rfl]
                refine qG.blk 2 (pc' := 87) (ls' := [(2, 45), (0, y), (0, t), (0, g), (0, e), (0, a)]) (st' := [(0, w 45 7), (2, 53)]) (w' := (qup (qup w 51 n y) 52 n t)) (n' := 142) rfl ?_
                rw [show w 45 7 = ((n : Nat) : Int) from hn]
                refine qG.blk 1 (pc' := 88) (ls' := [(2, 45), (0, y), (0, t), (0, g), (0, e), (0, a)]) (st' := [(0, g), (0, ((n : Nat) : Int)), (2, 53)]) (w' := (qup (qup w 51 n y) 52 n t)) (n' := 142) rfl ?_
                refine qG.ar (P := 0 ≤ ((n : Nat) : Int) ∧ ((n : Nat) : Int) < ((60 : Nat) : Int)) (P2 := 0 < (53 : Int) ∧ (53 : Int) ≤ ((142 : Nat) : Int)) (pc' := 89) (ls' := [(2, 45), (0, y), (0, t), (0, g), (0, e), (0, a)]) (st' := []) (w' := (qup (qup (qup w 51 n y) 52 n t) 53 n g)) (n' := 142) rfl (by omega) (by decide) ?_
                refine qG.blk 2 (pc' := 93) (ls' := [(2, 45), (0, y), (0, t), (0, g), (0, e), (0, a)]) (st' := [(2, w 45 11)]) (w' := (qup (qup (qup w 51 n y) 52 n t) 53 n g)) (n' := 142) rfl ?_
                rw [show w 45 11 = 54 from zref hI rfl rfl]
                refine qG.blk 2 (pc' := 97) (ls' := [(2, 45), (0, y), (0, t), (0, g), (0, e), (0, a)]) (st' := [(0, w 45 7), (2, 54)]) (w' := (qup (qup (qup w 51 n y) 52 n t) 53 n g)) (n' := 142) rfl ?_
                rw [show w 45 7 = ((n : Nat) : Int) from hn]
                refine qG.blk 1 (pc' := 99) (ls' := [(2, 45), (0, y), (0, t), (0, g), (0, e), (0, a)]) (st' := [(0, e), (0, ((n : Nat) : Int)), (2, 54)]) (w' := (qup (qup (qup w 51 n y) 52 n t) 53 n g)) (n' := 142) rfl ?_
                refine qG.ar (P := 0 ≤ ((n : Nat) : Int) ∧ ((n : Nat) : Int) < ((60 : Nat) : Int)) (P2 := 0 < (54 : Int) ∧ (54 : Int) ≤ ((142 : Nat) : Int)) (pc' := 100) (ls' := [(2, 45), (0, y), (0, t), (0, g), (0, e), (0, a)]) (st' := []) (w' := (qup (qup (qup (qup w 51 n y) 52 n t) 53 n g) 54 n e)) (n' := 142) rfl (by omega) (by decide) ?_
                refine qG.blk 2 (pc' := 104) (ls' := [(2, 45), (0, y), (0, t), (0, g), (0, e), (0, a)]) (st' := [(2, w 45 12)]) (w' := (qup (qup (qup (qup w 51 n y) 52 n t) 53 n g) 54 n e)) (n' := 142) rfl ?_
                rw [show w 45 12 = 55 from zref hI rfl rfl]
                refine qG.blk 2 (pc' := 108) (ls' := [(2, 45), (0, y), (0, t), (0, g), (0, e), (0, a)]) (st' := [(0, w 45 7), (2, 55)]) (w' := (qup (qup (qup (qup w 51 n y) 52 n t) 53 n g) 54 n e)) (n' := 142) rfl ?_
                rw [show w 45 7 = ((n : Nat) : Int) from hn]
                refine qG.blk 1 (pc' := 110) (ls' := [(2, 45), (0, y), (0, t), (0, g), (0, e), (0, a)]) (st' := [(0, a), (0, ((n : Nat) : Int)), (2, 55)]) (w' := (qup (qup (qup (qup w 51 n y) 52 n t) 53 n g) 54 n e)) (n' := 142) rfl ?_
                refine qG.ar (P := 0 ≤ ((n : Nat) : Int) ∧ ((n : Nat) : Int) < ((60 : Nat) : Int)) (P2 := 0 < (55 : Int) ∧ (55 : Int) ≤ ((142 : Nat) : Int)) (pc' := 111) (ls' := [(2, 45), (0, y), (0, t), (0, g), (0, e), (0, a)]) (st' := []) (w' := (qup (qup (qup (qup (qup w 51 n y) 52 n t) 53 n g) 54 n e) 55 n a)) (n' := 142) rfl (by omega) (by decide) ?_
                refine qG.blk 3 (pc' := 116) (ls' := [(2, 45), (0, y), (0, t), (0, g), (0, e), (0, a)]) (st' := [(0, w 45 7), (2, 45)]) (w' := (qup (qup (qup (qup (qup w 51 n y) 52 n t) 53 n g) 54 n e) 55 n a)) (n' := 142) rfl ?_
                rw [show w 45 7 = ((n : Nat) : Int) from hn]
                refine qG.blk 2 (pc' := 118) (ls' := [(2, 45), (0, y), (0, t), (0, g), (0, e), (0, a)]) (st' := [(0, wrp (((n : Nat) : Int) + 1)), (2, 45)]) (w' := (qup (qup (qup (qup (qup w 51 n y) 52 n t) 53 n g) 54 n e) 55 n a)) (n' := 142) rfl ?_
                rw [show wrp (((n : Nat) : Int) + 1) = ((n + 1 : Nat) : Int) from by rw [wrp_id (by omega) (by omega)]; omega]
                refine qG.blk 5 (pc' := 127) (ls' := [(2, 45), (0, y), (0, t), (0, g), (0, e), (0, a)]) (st' := [(0, wrp (((n + 1 : Nat) : Int) - 1))]) (w' := (qup (qup (qup (qup (qup (qup w 51 n y) 52 n t) 53 n g) 54 n e) 55 n a) 45 7 ((n + 1 : Nat) : Int))) (n' := 142) rfl ?_
                rw [show wrp (((n + 1 : Nat) : Int) - 1) = ((n : Nat) : Int) from by rw [wrp_id (by omega) (by omega)]; omega]
                refine qG.ret rfl rfl ?_
                subst hQ9
                refine ⟨rfl, ?_⟩; first | exact .inl ⟨by unfold nigC; omega, rfl, rfl⟩ | exact .inr ⟨by unfold nigC; omega, rfl, by simp (disch := decide) only [qup_ne, qup_k], (fun k => by (try simp (disch := decide) only [qup_ne, qup_if]) <;> (try rfl)), (fun k => by (try simp (disch := decide) only [qup_ne, qup_if]) <;> (try rfl)), (fun k => by (try simp (disch := decide) only [qup_ne, qup_if]) <;> (try rfl)), (fun k => by (try simp (disch := decide) only [qup_ne, qup_if]) <;> (try rfl)), (fun k => by (try simp (disch := decide) only [qup_ne, qup_if]) <;> (try rfl)), (fun q k h hf => by simp only [List.mem_cons, List.not_mem_nil, or_false, not_or] at h; obtain ⟨h0, h1, h2, h3, h4⟩ := h; simp only [qup_ne h0, qup_ne h1, qup_ne h2, qup_ne h3, qup_ne h4, qup_f hf])⟩
              · skip
                refine qG.blk 1 (pc' := 58) (ls' := [(2, 45), (0, y), (0, t), (0, g), (0, e), (0, a)]) (st' := [(0, (-1))]) (w' := w) (n' := 142) rfl ?_
                refine qG.ret rfl rfl ?_
                subst hQ9
                refine ⟨rfl, ?_⟩; first | exact .inl ⟨by unfold nigC; omega, rfl, rfl⟩ | exact .inr ⟨by unfold nigC; omega, rfl, by simp (disch := decide) only [qup_ne, qup_k], (fun k => by (try simp (disch := decide) only [qup_ne, qup_if]) <;> (try rfl)), (fun k => by (try simp (disch := decide) only [qup_ne, qup_if]) <;> (try rfl)), (fun k => by (try simp (disch := decide) only [qup_ne, qup_if]) <;> (try rfl)), (fun k => by (try simp (disch := decide) only [qup_ne, qup_if]) <;> (try rfl)), (fun k => by (try simp (disch := decide) only [qup_ne, qup_if]) <;> (try rfl)), (fun q k h hf => by simp only [List.mem_cons, List.not_mem_nil, or_false, not_or] at h; obtain ⟨h0, h1, h2, h3, h4⟩ := h; simp only [qup_ne h0, qup_ne h1, qup_ne h2, qup_ne h3, qup_ne h4, qup_f hf])⟩
            · skip
              refine qG.blk 1 (pc' := 42) (ls' := [(2, 45), (0, y), (0, t), (0, g), (0, e), (0, a)]) (st' := [(0, a)]) (w' := w) (n' := 142) rfl ?_
              refine qG.call (t := 58) (na := 1) (sk := 0) (md := 0) (ls1 := [(0, a)]) (r1 := []) rfl rfl rfl rfl rfl (K_X4_isAnswer (Nat.zero_le _) _ _) ?_
              rintro _ w7 _ ⟨rfl, hw7, rfl⟩
              rw [hw7]
              show qG none (d + 1) 64 45 [(2, 45), (0, y), (0, t), (0, g), (0, e), (0, a)] [(0, isInV a 0 2)] w 142 Q9
              refine qG.br (P := isInV a 0 2 = 0) (pc1 := 57) (pc2 := 48) (st1 := []) rfl (fun h6 => ?_) (fun h6 => ?_)
              · skip
                rw [isIn_b] at h6
                refine qG.blk 1 (pc' := 58) (ls' := [(2, 45), (0, y), (0, t), (0, g), (0, e), (0, a)]) (st' := [(0, (-1))]) (w' := w) (n' := 142) rfl ?_
                refine qG.ret rfl rfl ?_
                subst hQ9
                refine ⟨rfl, ?_⟩; first | exact .inl ⟨by unfold nigC; omega, rfl, rfl⟩ | exact .inr ⟨by unfold nigC; omega, rfl, by simp (disch := decide) only [qup_ne, qup_k], (fun k => by (try simp (disch := decide) only [qup_ne, qup_if]) <;> (try rfl)), (fun k => by (try simp (disch := decide) only [qup_ne, qup_if]) <;> (try rfl)), (fun k => by (try simp (disch := decide) only [qup_ne, qup_if]) <;> (try rfl)), (fun k => by (try simp (disch := decide) only [qup_ne, qup_if]) <;> (try rfl)), (fun k => by (try simp (disch := decide) only [qup_ne, qup_if]) <;> (try rfl)), (fun q k h hf => by simp only [List.mem_cons, List.not_mem_nil, or_false, not_or] at h; obtain ⟨h0, h1, h2, h3, h4⟩ := h; simp only [qup_ne h0, qup_ne h1, qup_ne h2, qup_ne h3, qup_ne h4, qup_f hf])⟩
              · skip
                rw [isIn_p] at h6
                refine qG.blk 2 (pc' := 52) (ls' := [(2, 45), (0, y), (0, t), (0, g), (0, e), (0, a)]) (st' := [(0, w 45 7)]) (w' := w) (n' := 142) rfl ?_
                rw [show w 45 7 = ((n : Nat) : Int) from hn]
                refine qG.blk 1 (pc' := 54) (ls' := [(2, 45), (0, y), (0, t), (0, g), (0, e), (0, a)]) (st' := [(0, 60), (0, ((n : Nat) : Int))]) (w' := w) (n' := 142) rfl ?_
                refine qG.br (P := ((n : Nat) : Int) < 60) (pc1 := 59) (pc2 := 57) (st1 := []) rfl (fun h5 => ?_) (fun h5 => ?_)
                · skip
                  refine qG.blk 2 (pc' := 63) (ls' := [(2, 45), (0, y), (0, t), (0, g), (0, e), (0, a)]) (st' := [(2, w 45 8)]) (w' := w) (n' := 142) rfl ?_
                  rw [show w 45 8 = 51 from zref hI rfl rfl]
                  refine qG.blk 2 (pc' := 67) (ls' := [(2, 45), (0, y), (0, t), (0, g), (0, e), (0, a)]) (st' := [(0, w 45 7), (2, 51)]) (w' := w) (n' := 142) rfl ?_
                  rw [show w 45 7 = ((n : Nat) : Int) from hn]
                  refine qG.blk 1 (pc' := 68) (ls' := [(2, 45), (0, y), (0, t), (0, g), (0, e), (0, a)]) (st' := [(0, y), (0, ((n : Nat) : Int)), (2, 51)]) (w' := w) (n' := 142) rfl ?_
                  refine qG.ar (P := 0 ≤ ((n : Nat) : Int) ∧ ((n : Nat) : Int) < ((60 : Nat) : Int)) (P2 := 0 < (51 : Int) ∧ (51 : Int) ≤ ((142 : Nat) : Int)) (pc' := 69) (ls' := [(2, 45), (0, y), (0, t), (0, g), (0, e), (0, a)]) (st' := []) (w' := (qup w 51 n y)) (n' := 142) rfl (by omega) (by decide) ?_
                  refine qG.blk 2 (pc' := 73) (ls' := [(2, 45), (0, y), (0, t), (0, g), (0, e), (0, a)]) (st' := [(2, w 45 9)]) (w' := (qup w 51 n y)) (n' := 142) rfl ?_
                  rw [show w 45 9 = 52 from zref hI rfl rfl]
                  refine qG.blk 2 (pc' := 77) (ls' := [(2, 45), (0, y), (0, t), (0, g), (0, e), (0, a)]) (st' := [(0, w 45 7), (2, 52)]) (w' := (qup w 51 n y)) (n' := 142) rfl ?_
                  rw [show w 45 7 = ((n : Nat) : Int) from hn]
                  refine qG.blk 1 (pc' := 78) (ls' := [(2, 45), (0, y), (0, t), (0, g), (0, e), (0, a)]) (st' := [(0, t), (0, ((n : Nat) : Int)), (2, 52)]) (w' := (qup w 51 n y)) (n' := 142) rfl ?_
                  refine qG.ar (P := 0 ≤ ((n : Nat) : Int) ∧ ((n : Nat) : Int) < ((60 : Nat) : Int)) (P2 := 0 < (52 : Int) ∧ (52 : Int) ≤ ((142 : Nat) : Int)) (pc' := 79) (ls' := [(2, 45), (0, y), (0, t), (0, g), (0, e), (0, a)]) (st' := []) (w' := (qup (qup w 51 n y) 52 n t)) (n' := 142) rfl (by omega) (by decide) ?_
                  refine qG.blk 2 (pc' := 83) (ls' := [(2, 45), (0, y), (0, t), (0, g), (0, e), (0, a)]) (st' := [(2, w 45 10)]) (w' := (qup (qup w 51 n y) 52 n t)) (n' := 142) rfl ?_
                  rw [show w 45 10 = 53 from zref hI rfl rfl]
                  refine qG.blk 2 (pc' := 87) (ls' := [(2, 45), (0, y), (0, t), (0, g), (0, e), (0, a)]) (st' := [(0, w 45 7), (2, 53)]) (w' := (qup (qup w 51 n y) 52 n t)) (n' := 142) rfl ?_
                  rw [show w 45 7 = ((n : Nat) : Int) from hn]
                  refine qG.blk 1 (pc' := 88) (ls' := [(2, 45), (0, y), (0, t), (0, g), (0, e), (0, a)]) (st' := [(0, g), (0, ((n : Nat) : Int)), (2, 53)]) (w' := (qup (qup w 51 n y) 52 n t)) (n' := 142) rfl ?_
                  refine qG.ar (P := 0 ≤ ((n : Nat) : Int) ∧ ((n : Nat) : Int) < ((60 : Nat) : Int)) (P2 := 0 < (53 : Int) ∧ (53 : Int) ≤ ((142 : Nat) : Int)) (pc' := 89) (ls' := [(2, 45), (0, y), (0, t), (0, g), (0, e), (0, a)]) (st' := []) (w' := (qup (qup (qup w 51 n y) 52 n t) 53 n g)) (n' := 142) rfl (by omega) (by decide) ?_
                  refine qG.blk 2 (pc' := 93) (ls' := [(2, 45), (0, y), (0, t), (0, g), (0, e), (0, a)]) (st' := [(2, w 45 11)]) (w' := (qup (qup (qup w 51 n y) 52 n t) 53 n g)) (n' := 142) rfl ?_
                  rw [show w 45 11 = 54 from zref hI rfl rfl]
                  refine qG.blk 2 (pc' := 97) (ls' := [(2, 45), (0, y), (0, t), (0, g), (0, e), (0, a)]) (st' := [(0, w 45 7), (2, 54)]) (w' := (qup (qup (qup w 51 n y) 52 n t) 53 n g)) (n' := 142) rfl ?_
                  rw [show w 45 7 = ((n : Nat) : Int) from hn]
                  refine qG.blk 1 (pc' := 99) (ls' := [(2, 45), (0, y), (0, t), (0, g), (0, e), (0, a)]) (st' := [(0, e), (0, ((n : Nat) : Int)), (2, 54)]) (w' := (qup (qup (qup w 51 n y) 52 n t) 53 n g)) (n' := 142) rfl ?_
                  refine qG.ar (P := 0 ≤ ((n : Nat) : Int) ∧ ((n : Nat) : Int) < ((60 : Nat) : Int)) (P2 := 0 < (54 : Int) ∧ (54 : Int) ≤ ((142 : Nat) : Int)) (pc' := 100) (ls' := [(2, 45), (0, y), (0, t), (0, g), (0, e), (0, a)]) (st' := []) (w' := (qup (qup (qup (qup w 51 n y) 52 n t) 53 n g) 54 n e)) (n' := 142) rfl (by omega) (by decide) ?_
                  refine qG.blk 2 (pc' := 104) (ls' := [(2, 45), (0, y), (0, t), (0, g), (0, e), (0, a)]) (st' := [(2, w 45 12)]) (w' := (qup (qup (qup (qup w 51 n y) 52 n t) 53 n g) 54 n e)) (n' := 142) rfl ?_
                  rw [show w 45 12 = 55 from zref hI rfl rfl]
                  refine qG.blk 2 (pc' := 108) (ls' := [(2, 45), (0, y), (0, t), (0, g), (0, e), (0, a)]) (st' := [(0, w 45 7), (2, 55)]) (w' := (qup (qup (qup (qup w 51 n y) 52 n t) 53 n g) 54 n e)) (n' := 142) rfl ?_
                  rw [show w 45 7 = ((n : Nat) : Int) from hn]
                  refine qG.blk 1 (pc' := 110) (ls' := [(2, 45), (0, y), (0, t), (0, g), (0, e), (0, a)]) (st' := [(0, a), (0, ((n : Nat) : Int)), (2, 55)]) (w' := (qup (qup (qup (qup w 51 n y) 52 n t) 53 n g) 54 n e)) (n' := 142) rfl ?_
                  refine qG.ar (P := 0 ≤ ((n : Nat) : Int) ∧ ((n : Nat) : Int) < ((60 : Nat) : Int)) (P2 := 0 < (55 : Int) ∧ (55 : Int) ≤ ((142 : Nat) : Int)) (pc' := 111) (ls' := [(2, 45), (0, y), (0, t), (0, g), (0, e), (0, a)]) (st' := []) (w' := (qup (qup (qup (qup (qup w 51 n y) 52 n t) 53 n g) 54 n e) 55 n a)) (n' := 142) rfl (by omega) (by decide) ?_
                  refine qG.blk 3 (pc' := 116) (ls' := [(2, 45), (0, y), (0, t), (0, g), (0, e), (0, a)]) (st' := [(0, w 45 7), (2, 45)]) (w' := (qup (qup (qup (qup (qup w 51 n y) 52 n t) 53 n g) 54 n e) 55 n a)) (n' := 142) rfl ?_
                  rw [show w 45 7 = ((n : Nat) : Int) from hn]
                  refine qG.blk 2 (pc' := 118) (ls' := [(2, 45), (0, y), (0, t), (0, g), (0, e), (0, a)]) (st' := [(0, wrp (((n : Nat) : Int) + 1)), (2, 45)]) (w' := (qup (qup (qup (qup (qup w 51 n y) 52 n t) 53 n g) 54 n e) 55 n a)) (n' := 142) rfl ?_
                  rw [show wrp (((n : Nat) : Int) + 1) = ((n + 1 : Nat) : Int) from by rw [wrp_id (by omega) (by omega)]; omega]
                  refine qG.blk 5 (pc' := 127) (ls' := [(2, 45), (0, y), (0, t), (0, g), (0, e), (0, a)]) (st' := [(0, wrp (((n + 1 : Nat) : Int) - 1))]) (w' := (qup (qup (qup (qup (qup (qup w 51 n y) 52 n t) 53 n g) 54 n e) 55 n a) 45 7 ((n + 1 : Nat) : Int))) (n' := 142) rfl ?_
                  rw [show wrp (((n + 1 : Nat) : Int) - 1) = ((n : Nat) : Int) from by rw [wrp_id (by omega) (by omega)]; omega]
                  refine qG.ret rfl rfl ?_
                  subst hQ9
                  refine ⟨rfl, ?_⟩; first | exact .inl ⟨by unfold nigC; omega, rfl, rfl⟩ | exact .inr ⟨by unfold nigC; omega, rfl, by simp (disch := decide) only [qup_ne, qup_k], (fun k => by (try simp (disch := decide) only [qup_ne, qup_if]) <;> (try rfl)), (fun k => by (try simp (disch := decide) only [qup_ne, qup_if]) <;> (try rfl)), (fun k => by (try simp (disch := decide) only [qup_ne, qup_if]) <;> (try rfl)), (fun k => by (try simp (disch := decide) only [qup_ne, qup_if]) <;> (try rfl)), (fun k => by (try simp (disch := decide) only [qup_ne, qup_if]) <;> (try rfl)), (fun q k h hf => by simp only [List.mem_cons, List.not_mem_nil, or_false, not_or] at h; obtain ⟨h0, h1, h2, h3, h4⟩ := h; simp only [qup_ne h0, qup_ne h1, qup_ne h2, qup_ne h3, qup_ne h4, qup_f hf])⟩
                · skip
                  refine qG.blk 1 (pc' := 58) (ls' := [(2, 45), (0, y), (0, t), (0, g), (0, e), (0, a)]) (st' := [(0, (-1))]) (w' := w) (n' := 142) rfl ?_
                  refine qG.ret rfl rfl ?_
                  subst hQ9
                  refine ⟨rfl, ?_⟩; first | exact .inl ⟨by unfold nigC; omega, rfl, rfl⟩ | exact .inr ⟨by unfold nigC; omega, rfl, by simp (disch := decide) only [qup_ne, qup_k], (fun k => by (try simp (disch := decide) only [qup_ne, qup_if]) <;> (try rfl)), (fun k => by (try simp (disch := decide) only [qup_ne, qup_if]) <;> (try rfl)), (fun k => by (try simp (disch := decide) only [qup_ne, qup_if]) <;> (try rfl)), (fun k => by (try simp (disch := decide) only [qup_ne, qup_if]) <;> (try rfl)), (fun k => by (try simp (disch := decide) only [qup_ne, qup_if]) <;> (try rfl)), (fun q k h hf => by simp only [List.mem_cons, List.not_mem_nil, or_false, not_or] at h; obtain ⟨h0, h1, h2, h3, h4⟩ := h; simp only [qup_ne h0, qup_ne h1, qup_ne h2, qup_ne h3, qup_ne h4, qup_f hf])⟩
theorem K_X11_night {d : Nat} (hd : 2 ≤ d) (y t g e a : Int) (n : Nat) (hn9 : n ≤ 60) (w : qW) (hI : yInv zgf zga zra zSp w) (hn : w 45 7 = (n : Int)) : qG none d 188 0 [(2, 1), (0, y), (0, t), (0, g), (0, e), (0, a)] [] w 142 (fun (r : qV) (w1 : qW) (n1 : Nat) => n1 = 142 ∧ nigE 45 7 51 52 53 54 55 y t g e a n w r w1) := by
  generalize hQ9 : (fun (r : qV) (w1 : qW) (n1 : Nat) => n1 = 142 ∧ nigE 45 7 51 52 53 54 55 y t g e a n w r w1) = Q9
  obtain ⟨d, rfl⟩ : ∃ d9, d = d9 + 1 := ⟨d - 1, by omega⟩
  refine qG.blk 2 (pc' := 4) (ls' := [(2, 1), (0, y), (0, t), (0, g), (0, e), (0, a)]) (st' := [(2, w 1 7)]) (w' := w) (n' := 142) rfl ?_
  rw [show w 1 7 = 45 from zref hI rfl rfl]
  refine qG.blk 5 (pc' := 11) (ls' := [(2, 1), (0, y), (0, t), (0, g), (0, e), (0, a)]) (st' := [(0, a), (0, e), (0, g), (0, t), (0, y), (2, 45)]) (w' := w) (n' := 142) rfl ?_
  refine qG.call (t := 64) (na := 6) (sk := 1) (md := 1) (ls1 := [(2, 45), (0, y), (0, t), (0, g), (0, e), (0, a)]) (r1 := []) rfl rfl rfl rfl rfl (K_addNight (by omega) y t g e a n hn9 w hI hn) ?_
  rintro ⟨_, x9⟩ w1 _ ⟨rfl, hE⟩
  have hk9 : ∃ y, ((_ : Nat), x9) = ((0 : Nat), y) := (by rcases hE with ⟨-, h, -⟩ | ⟨-, h, -⟩ <;> exact ⟨_, h⟩)
  obtain ⟨y9, hy9⟩ := hk9
  obtain ⟨rfl, rfl⟩ := Prod.mk.inj hy9
  show qG none (d + 1) 188 14 [(2, 1), (0, y), (0, t), (0, g), (0, e), (0, a)] [(0, x9)] w1 142 Q9
  refine qG.ret rfl rfl ?_
  subst hQ9
  exact ⟨rfl, hE⟩
theorem K_X12_night {d : Nat} (hd : 2 ≤ d) (y t g e a : Int) (n : Nat) (hn9 : n ≤ 60) (w : qW) (hI : yInv zgf zga zra zSp w) (hn : w 95 57 = (n : Int)) : qG none d 283 0 [(2, 95), (0, y), (0, t), (0, g), (0, e), (0, a)] [] w 142 (fun (r : qV) (w1 : qW) (n1 : Nat) => n1 = 142 ∧ nigE 95 57 132 133 134 135 136 y t g e a n w r w1) := by
  generalize hQ9 : (fun (r : qV) (w1 : qW) (n1 : Nat) => n1 = 142 ∧ nigE 95 57 132 133 134 135 136 y t g e a n w r w1) = Q9
  obtain ⟨d, rfl⟩ : ∃ d9, d = d9 + 1 := ⟨d - 1, by omega⟩
  refine qG.blk 3 (pc' := 4) (ls' := [(2, 95), (0, y), (0, t), (0, g), (0, e), (0, a)]) (st' := [(0, 99), (0, 0), (0, y)]) (w' := w) (n' := 142) rfl ?_
  refine qG.call (t := 206) (na := 3) (sk := 0) (md := 0) (ls1 := [(0, y), (0, 0), (0, 99)]) (r1 := []) rfl rfl rfl rfl rfl (K_isIn (Nat.zero_le _) _ _ _ _) ?_
  rintro _ w7 _ ⟨rfl, hw7, rfl⟩
  rw [hw7]
  show qG none (d + 1) 283 7 [(2, 95), (0, y), (0, t), (0, g), (0, e), (0, a)] [(0, isInV (y) (0) (99))] w 142 Q9
  refine qG.br (P := isInV (y) (0) (99) = 0) (pc1 := 59) (pc2 := 10) (st1 := []) rfl (fun h1 => ?_) (fun h1 => ?_)
  · skip
    rw [isIn_b] at h1
    refine qG.blk 1 (pc' := 60) (ls' := [(2, 95), (0, y), (0, t), (0, g), (0, e), (0, a)]) (st' := [(0, (-1))]) (w' := w) (n' := 142) rfl ?_
    refine qG.ret rfl rfl ?_
    subst hQ9
    refine ⟨rfl, ?_⟩; first | exact .inl ⟨by unfold nigC; omega, rfl, rfl⟩ | exact .inr ⟨by unfold nigC; omega, rfl, by simp (disch := decide) only [qup_ne, qup_k], (fun k => by (try simp (disch := decide) only [qup_ne, qup_if]) <;> (try rfl)), (fun k => by (try simp (disch := decide) only [qup_ne, qup_if]) <;> (try rfl)), (fun k => by (try simp (disch := decide) only [qup_ne, qup_if]) <;> (try rfl)), (fun k => by (try simp (disch := decide) only [qup_ne, qup_if]) <;> (try rfl)), (fun k => by (try simp (disch := decide) only [qup_ne, qup_if]) <;> (try rfl)), (fun q k h hf => by simp only [List.mem_cons, List.not_mem_nil, or_false, not_or] at h; obtain ⟨h0, h1, h2, h3, h4⟩ := h; simp only [qup_ne h0, qup_ne h1, qup_ne h2, qup_ne h3, qup_ne h4, qup_f hf])⟩
  · skip
    rw [isIn_p] at h1
    refine qG.blk 3 (pc' := 14) (ls' := [(2, 95), (0, y), (0, t), (0, g), (0, e), (0, a)]) (st' := [(0, 9), (0, 0), (0, t)]) (w' := w) (n' := 142) rfl ?_
    refine qG.call (t := 206) (na := 3) (sk := 0) (md := 0) (ls1 := [(0, t), (0, 0), (0, 9)]) (r1 := []) rfl rfl rfl rfl rfl (K_isIn (Nat.zero_le _) _ _ _ _) ?_
    rintro _ w7 _ ⟨rfl, hw7, rfl⟩
    rw [hw7]
    show qG none (d + 1) 283 17 [(2, 95), (0, y), (0, t), (0, g), (0, e), (0, a)] [(0, isInV (t) (0) (9))] w 142 Q9
    refine qG.br (P := isInV (t) (0) (9) = 0) (pc1 := 59) (pc2 := 20) (st1 := []) rfl (fun h2 => ?_) (fun h2 => ?_)
    · skip
      rw [isIn_b] at h2
      refine qG.blk 1 (pc' := 60) (ls' := [(2, 95), (0, y), (0, t), (0, g), (0, e), (0, a)]) (st' := [(0, (-1))]) (w' := w) (n' := 142) rfl ?_
      refine qG.ret rfl rfl ?_
      subst hQ9
      refine ⟨rfl, ?_⟩; first | exact .inl ⟨by unfold nigC; omega, rfl, rfl⟩ | exact .inr ⟨by unfold nigC; omega, rfl, by simp (disch := decide) only [qup_ne, qup_k], (fun k => by (try simp (disch := decide) only [qup_ne, qup_if]) <;> (try rfl)), (fun k => by (try simp (disch := decide) only [qup_ne, qup_if]) <;> (try rfl)), (fun k => by (try simp (disch := decide) only [qup_ne, qup_if]) <;> (try rfl)), (fun k => by (try simp (disch := decide) only [qup_ne, qup_if]) <;> (try rfl)), (fun k => by (try simp (disch := decide) only [qup_ne, qup_if]) <;> (try rfl)), (fun q k h hf => by simp only [List.mem_cons, List.not_mem_nil, or_false, not_or] at h; obtain ⟨h0, h1, h2, h3, h4⟩ := h; simp only [qup_ne h0, qup_ne h1, qup_ne h2, qup_ne h3, qup_ne h4, qup_f hf])⟩
    · skip
      rw [isIn_p] at h2
      refine qG.blk 3 (pc' := 24) (ls' := [(2, 95), (0, y), (0, t), (0, g), (0, e), (0, a)]) (st' := [(0, 99), (0, 0), (0, g)]) (w' := w) (n' := 142) rfl ?_
      refine qG.call (t := 206) (na := 3) (sk := 0) (md := 0) (ls1 := [(0, g), (0, 0), (0, 99)]) (r1 := []) rfl rfl rfl rfl rfl (K_isIn (Nat.zero_le _) _ _ _ _) ?_
      rintro _ w7 _ ⟨rfl, hw7, rfl⟩
      rw [hw7]
      show qG none (d + 1) 283 27 [(2, 95), (0, y), (0, t), (0, g), (0, e), (0, a)] [(0, isInV (g) (0) (99))] w 142 Q9
      refine qG.br (P := isInV (g) (0) (99) = 0) (pc1 := 59) (pc2 := 30) (st1 := []) rfl (fun h3 => ?_) (fun h3 => ?_)
      · skip
        rw [isIn_b] at h3
        refine qG.blk 1 (pc' := 60) (ls' := [(2, 95), (0, y), (0, t), (0, g), (0, e), (0, a)]) (st' := [(0, (-1))]) (w' := w) (n' := 142) rfl ?_
        refine qG.ret rfl rfl ?_
        subst hQ9
        refine ⟨rfl, ?_⟩; first | exact .inl ⟨by unfold nigC; omega, rfl, rfl⟩ | exact .inr ⟨by unfold nigC; omega, rfl, by simp (disch := decide) only [qup_ne, qup_k], (fun k => by (try simp (disch := decide) only [qup_ne, qup_if]) <;> (try rfl)), (fun k => by (try simp (disch := decide) only [qup_ne, qup_if]) <;> (try rfl)), (fun k => by (try simp (disch := decide) only [qup_ne, qup_if]) <;> (try rfl)), (fun k => by (try simp (disch := decide) only [qup_ne, qup_if]) <;> (try rfl)), (fun k => by (try simp (disch := decide) only [qup_ne, qup_if]) <;> (try rfl)), (fun q k h hf => by simp only [List.mem_cons, List.not_mem_nil, or_false, not_or] at h; obtain ⟨h0, h1, h2, h3, h4⟩ := h; simp only [qup_ne h0, qup_ne h1, qup_ne h2, qup_ne h3, qup_ne h4, qup_f hf])⟩
      · skip
        rw [isIn_p] at h3
        refine qG.blk 3 (pc' := 34) (ls' := [(2, 95), (0, y), (0, t), (0, g), (0, e), (0, a)]) (st' := [(0, 2), (0, 0), (0, e)]) (w' := w) (n' := 142) rfl ?_
        refine qG.call (t := 206) (na := 3) (sk := 0) (md := 0) (ls1 := [(0, e), (0, 0), (0, 2)]) (r1 := []) rfl rfl rfl rfl rfl (K_isIn (Nat.zero_le _) _ _ _ _) ?_
        rintro _ w7 _ ⟨rfl, hw7, rfl⟩
        rw [hw7]
        show qG none (d + 1) 283 37 [(2, 95), (0, y), (0, t), (0, g), (0, e), (0, a)] [(0, isInV (e) (0) (2))] w 142 Q9
        refine qG.br (P := isInV (e) (0) (2) = 0) (pc1 := 59) (pc2 := 40) (st1 := []) rfl (fun h4 => ?_) (fun h4 => ?_)
        · skip
          rw [isIn_b] at h4
          refine qG.blk 1 (pc' := 60) (ls' := [(2, 95), (0, y), (0, t), (0, g), (0, e), (0, a)]) (st' := [(0, (-1))]) (w' := w) (n' := 142) rfl ?_
          refine qG.ret rfl rfl ?_
          subst hQ9
          refine ⟨rfl, ?_⟩; first | exact .inl ⟨by unfold nigC; omega, rfl, rfl⟩ | exact .inr ⟨by unfold nigC; omega, rfl, by simp (disch := decide) only [qup_ne, qup_k], (fun k => by (try simp (disch := decide) only [qup_ne, qup_if]) <;> (try rfl)), (fun k => by (try simp (disch := decide) only [qup_ne, qup_if]) <;> (try rfl)), (fun k => by (try simp (disch := decide) only [qup_ne, qup_if]) <;> (try rfl)), (fun k => by (try simp (disch := decide) only [qup_ne, qup_if]) <;> (try rfl)), (fun k => by (try simp (disch := decide) only [qup_ne, qup_if]) <;> (try rfl)), (fun q k h hf => by simp only [List.mem_cons, List.not_mem_nil, or_false, not_or] at h; obtain ⟨h0, h1, h2, h3, h4⟩ := h; simp only [qup_ne h0, qup_ne h1, qup_ne h2, qup_ne h3, qup_ne h4, qup_f hf])⟩
        · skip
          rw [isIn_p] at h4
          refine qG.blk 3 (pc' := 44) (ls' := [(2, 95), (0, y), (0, t), (0, g), (0, e), (0, a)]) (st' := [(0, 2), (0, (-1)), (0, a)]) (w' := w) (n' := 142) rfl ?_
          refine qG.call (t := 206) (na := 3) (sk := 0) (md := 0) (ls1 := [(0, a), (0, (-1)), (0, 2)]) (r1 := []) rfl rfl rfl rfl rfl (K_isIn (Nat.zero_le _) _ _ _ _) ?_
          rintro _ w7 _ ⟨rfl, hw7, rfl⟩
          rw [hw7]
          show qG none (d + 1) 283 47 [(2, 95), (0, y), (0, t), (0, g), (0, e), (0, a)] [(0, isInV (a) ((-1)) (2))] w 142 Q9
          refine qG.br (P := isInV (a) ((-1)) (2) = 0) (pc1 := 59) (pc2 := 50) (st1 := []) rfl (fun h6 => ?_) (fun h6 => ?_)
          · skip
            rw [isIn_b] at h6
            refine qG.blk 1 (pc' := 60) (ls' := [(2, 95), (0, y), (0, t), (0, g), (0, e), (0, a)]) (st' := [(0, (-1))]) (w' := w) (n' := 142) rfl ?_
            refine qG.ret rfl rfl ?_
            subst hQ9
            refine ⟨rfl, ?_⟩; first | exact .inl ⟨by unfold nigC; omega, rfl, rfl⟩ | exact .inr ⟨by unfold nigC; omega, rfl, by simp (disch := decide) only [qup_ne, qup_k], (fun k => by (try simp (disch := decide) only [qup_ne, qup_if]) <;> (try rfl)), (fun k => by (try simp (disch := decide) only [qup_ne, qup_if]) <;> (try rfl)), (fun k => by (try simp (disch := decide) only [qup_ne, qup_if]) <;> (try rfl)), (fun k => by (try simp (disch := decide) only [qup_ne, qup_if]) <;> (try rfl)), (fun k => by (try simp (disch := decide) only [qup_ne, qup_if]) <;> (try rfl)), (fun q k h hf => by simp only [List.mem_cons, List.not_mem_nil, or_false, not_or] at h; obtain ⟨h0, h1, h2, h3, h4⟩ := h; simp only [qup_ne h0, qup_ne h1, qup_ne h2, qup_ne h3, qup_ne h4, qup_f hf])⟩
          · skip
            rw [isIn_p] at h6
            refine qG.blk 2 (pc' := 54) (ls' := [(2, 95), (0, y), (0, t), (0, g), (0, e), (0, a)]) (st' := [(0, w 95 57)]) (w' := w) (n' := 142) rfl ?_
            rw [show w 95 57 = ((n : Nat) : Int) from hn]
            refine qG.blk 1 (pc' := 56) (ls' := [(2, 95), (0, y), (0, t), (0, g), (0, e), (0, a)]) (st' := [(0, 60), (0, ((n : Nat) : Int))]) (w' := w) (n' := 142) rfl ?_
            refine qG.br (P := ((n : Nat) : Int) = 60) (pc1 := 59) (pc2 := 61) (st1 := []) rfl (fun h5 => ?_) (fun h5 => ?_)
            · skip
              refine qG.blk 1 (pc' := 60) (ls' := [(2, 95), (0, y), (0, t), (0, g), (0, e), (0, a)]) (st' := [(0, (-1))]) (w' := w) (n' := 142) rfl ?_
              refine qG.ret rfl rfl ?_
              subst hQ9
              refine ⟨rfl, ?_⟩; first | exact .inl ⟨by unfold nigC; omega, rfl, rfl⟩ | exact .inr ⟨by unfold nigC; omega, rfl, by simp (disch := decide) only [qup_ne, qup_k], (fun k => by (try simp (disch := decide) only [qup_ne, qup_if]) <;> (try rfl)), (fun k => by (try simp (disch := decide) only [qup_ne, qup_if]) <;> (try rfl)), (fun k => by (try simp (disch := decide) only [qup_ne, qup_if]) <;> (try rfl)), (fun k => by (try simp (disch := decide) only [qup_ne, qup_if]) <;> (try rfl)), (fun k => by (try simp (disch := decide) only [qup_ne, qup_if]) <;> (try rfl)), (fun q k h hf => by simp only [List.mem_cons, List.not_mem_nil, or_false, not_or] at h; obtain ⟨h0, h1, h2, h3, h4⟩ := h; simp only [qup_ne h0, qup_ne h1, qup_ne h2, qup_ne h3, qup_ne h4, qup_f hf])⟩
            · skip
              refine qG.blk 2 (pc' := 65) (ls' := [(2, 95), (0, y), (0, t), (0, g), (0, e), (0, a)]) (st' := [(2, w 95 65)]) (w' := w) (n' := 142) rfl ?_
              rw [show w 95 65 = 132 from zref hI rfl rfl]
              refine qG.blk 2 (pc' := 69) (ls' := [(2, 95), (0, y), (0, t), (0, g), (0, e), (0, a)]) (st' := [(0, w 95 57), (2, 132)]) (w' := w) (n' := 142) rfl ?_
              rw [show w 95 57 = ((n : Nat) : Int) from hn]
              refine qG.blk 1 (pc' := 70) (ls' := [(2, 95), (0, y), (0, t), (0, g), (0, e), (0, a)]) (st' := [(0, y), (0, ((n : Nat) : Int)), (2, 132)]) (w' := w) (n' := 142) rfl ?_
              refine qG.ar (P := 0 ≤ ((n : Nat) : Int) ∧ ((n : Nat) : Int) < ((60 : Nat) : Int)) (P2 := 0 < (132 : Int) ∧ (132 : Int) ≤ ((142 : Nat) : Int)) (pc' := 71) (ls' := [(2, 95), (0, y), (0, t), (0, g), (0, e), (0, a)]) (st' := []) (w' := (qup w 132 n y)) (n' := 142) rfl (by omega) (by decide) ?_
              refine qG.blk 2 (pc' := 75) (ls' := [(2, 95), (0, y), (0, t), (0, g), (0, e), (0, a)]) (st' := [(2, w 95 66)]) (w' := (qup w 132 n y)) (n' := 142) rfl ?_
              rw [show w 95 66 = 133 from zref hI rfl rfl]
              refine qG.blk 2 (pc' := 79) (ls' := [(2, 95), (0, y), (0, t), (0, g), (0, e), (0, a)]) (st' := [(0, w 95 57), (2, 133)]) (w' := (qup w 132 n y)) (n' := 142) rfl ?_
              rw [show w 95 57 = ((n : Nat) : Int) from hn]
              refine qG.blk 1 (pc' := 80) (ls' := [(2, 95), (0, y), (0, t), (0, g), (0, e), (0, a)]) (st' := [(0, t), (0, ((n : Nat) : Int)), (2, 133)]) (w' := (qup w 132 n y)) (n' := 142) rfl ?_
              refine qG.ar (P := 0 ≤ ((n : Nat) : Int) ∧ ((n : Nat) : Int) < ((60 : Nat) : Int)) (P2 := 0 < (133 : Int) ∧ (133 : Int) ≤ ((142 : Nat) : Int)) (pc' := 81) (ls' := [(2, 95), (0, y), (0, t), (0, g), (0, e), (0, a)]) (st' := []) (w' := (qup (qup w 132 n y) 133 n t)) (n' := 142) rfl (by omega) (by decide) ?_
              refine qG.blk 2 (pc' := 85) (ls' := [(2, 95), (0, y), (0, t), (0, g), (0, e), (0, a)]) (st' := [(2, w 95 67)]) (w' := (qup (qup w 132 n y) 133 n t)) (n' := 142) rfl ?_
              rw [show w 95 67 = 134 from zref hI rfl rfl]
              refine qG.blk 2 (pc' := 89) (ls' := [(2, 95), (0, y), (0, t), (0, g), (0, e), (0, a)]) (st' := [(0, w 95 57), (2, 134)]) (w' := (qup (qup w 132 n y) 133 n t)) (n' := 142) rfl ?_
              rw [show w 95 57 = ((n : Nat) : Int) from hn]
              refine qG.blk 1 (pc' := 90) (ls' := [(2, 95), (0, y), (0, t), (0, g), (0, e), (0, a)]) (st' := [(0, g), (0, ((n : Nat) : Int)), (2, 134)]) (w' := (qup (qup w 132 n y) 133 n t)) (n' := 142) rfl ?_
              refine qG.ar (P := 0 ≤ ((n : Nat) : Int) ∧ ((n : Nat) : Int) < ((60 : Nat) : Int)) (P2 := 0 < (134 : Int) ∧ (134 : Int) ≤ ((142 : Nat) : Int)) (pc' := 91) (ls' := [(2, 95), (0, y), (0, t), (0, g), (0, e), (0, a)]) (st' := []) (w' := (qup (qup (qup w 132 n y) 133 n t) 134 n g)) (n' := 142) rfl (by omega) (by decide) ?_
              refine qG.blk 2 (pc' := 95) (ls' := [(2, 95), (0, y), (0, t), (0, g), (0, e), (0, a)]) (st' := [(2, w 95 68)]) (w' := (qup (qup (qup w 132 n y) 133 n t) 134 n g)) (n' := 142) rfl ?_
              rw [show w 95 68 = 135 from zref hI rfl rfl]
              refine qG.blk 2 (pc' := 99) (ls' := [(2, 95), (0, y), (0, t), (0, g), (0, e), (0, a)]) (st' := [(0, w 95 57), (2, 135)]) (w' := (qup (qup (qup w 132 n y) 133 n t) 134 n g)) (n' := 142) rfl ?_
              rw [show w 95 57 = ((n : Nat) : Int) from hn]
              refine qG.blk 1 (pc' := 101) (ls' := [(2, 95), (0, y), (0, t), (0, g), (0, e), (0, a)]) (st' := [(0, e), (0, ((n : Nat) : Int)), (2, 135)]) (w' := (qup (qup (qup w 132 n y) 133 n t) 134 n g)) (n' := 142) rfl ?_
              refine qG.ar (P := 0 ≤ ((n : Nat) : Int) ∧ ((n : Nat) : Int) < ((60 : Nat) : Int)) (P2 := 0 < (135 : Int) ∧ (135 : Int) ≤ ((142 : Nat) : Int)) (pc' := 102) (ls' := [(2, 95), (0, y), (0, t), (0, g), (0, e), (0, a)]) (st' := []) (w' := (qup (qup (qup (qup w 132 n y) 133 n t) 134 n g) 135 n e)) (n' := 142) rfl (by omega) (by decide) ?_
              refine qG.blk 2 (pc' := 106) (ls' := [(2, 95), (0, y), (0, t), (0, g), (0, e), (0, a)]) (st' := [(2, w 95 69)]) (w' := (qup (qup (qup (qup w 132 n y) 133 n t) 134 n g) 135 n e)) (n' := 142) rfl ?_
              rw [show w 95 69 = 136 from zref hI rfl rfl]
              refine qG.blk 2 (pc' := 110) (ls' := [(2, 95), (0, y), (0, t), (0, g), (0, e), (0, a)]) (st' := [(0, w 95 57), (2, 136)]) (w' := (qup (qup (qup (qup w 132 n y) 133 n t) 134 n g) 135 n e)) (n' := 142) rfl ?_
              rw [show w 95 57 = ((n : Nat) : Int) from hn]
              refine qG.blk 1 (pc' := 112) (ls' := [(2, 95), (0, y), (0, t), (0, g), (0, e), (0, a)]) (st' := [(0, a), (0, ((n : Nat) : Int)), (2, 136)]) (w' := (qup (qup (qup (qup w 132 n y) 133 n t) 134 n g) 135 n e)) (n' := 142) rfl ?_
              refine qG.ar (P := 0 ≤ ((n : Nat) : Int) ∧ ((n : Nat) : Int) < ((60 : Nat) : Int)) (P2 := 0 < (136 : Int) ∧ (136 : Int) ≤ ((142 : Nat) : Int)) (pc' := 113) (ls' := [(2, 95), (0, y), (0, t), (0, g), (0, e), (0, a)]) (st' := []) (w' := (qup (qup (qup (qup (qup w 132 n y) 133 n t) 134 n g) 135 n e) 136 n a)) (n' := 142) rfl (by omega) (by decide) ?_
              refine qG.blk 3 (pc' := 118) (ls' := [(2, 95), (0, y), (0, t), (0, g), (0, e), (0, a)]) (st' := [(0, w 95 57), (2, 95)]) (w' := (qup (qup (qup (qup (qup w 132 n y) 133 n t) 134 n g) 135 n e) 136 n a)) (n' := 142) rfl ?_
              rw [show w 95 57 = ((n : Nat) : Int) from hn]
              refine qG.blk 2 (pc' := 120) (ls' := [(2, 95), (0, y), (0, t), (0, g), (0, e), (0, a)]) (st' := [(0, wrp (((n : Nat) : Int) + 1)), (2, 95)]) (w' := (qup (qup (qup (qup (qup w 132 n y) 133 n t) 134 n g) 135 n e) 136 n a)) (n' := 142) rfl ?_
              rw [show wrp (((n : Nat) : Int) + 1) = ((n + 1 : Nat) : Int) from by rw [wrp_id (by omega) (by omega)]; omega]
              refine qG.blk 5 (pc' := 129) (ls' := [(2, 95), (0, y), (0, t), (0, g), (0, e), (0, a)]) (st' := [(0, wrp (((n + 1 : Nat) : Int) - 1))]) (w' := (qup (qup (qup (qup (qup (qup w 132 n y) 133 n t) 134 n g) 135 n e) 136 n a) 95 57 ((n + 1 : Nat) : Int))) (n' := 142) rfl ?_
              rw [show wrp (((n + 1 : Nat) : Int) - 1) = ((n : Nat) : Int) from by rw [wrp_id (by omega) (by omega)]; omega]
              refine qG.ret rfl rfl ?_
              subst hQ9
              refine ⟨rfl, ?_⟩; first | exact .inl ⟨by unfold nigC; omega, rfl, rfl⟩ | exact .inr ⟨by unfold nigC; omega, rfl, by simp (disch := decide) only [qup_ne, qup_k], (fun k => by (try simp (disch := decide) only [qup_ne, qup_if]) <;> (try rfl)), (fun k => by (try simp (disch := decide) only [qup_ne, qup_if]) <;> (try rfl)), (fun k => by (try simp (disch := decide) only [qup_ne, qup_if]) <;> (try rfl)), (fun k => by (try simp (disch := decide) only [qup_ne, qup_if]) <;> (try rfl)), (fun k => by (try simp (disch := decide) only [qup_ne, qup_if]) <;> (try rfl)), (fun q k h hf => by simp only [List.mem_cons, List.not_mem_nil, or_false, not_or] at h; obtain ⟨h0, h1, h2, h3, h4⟩ := h; simp only [qup_ne h0, qup_ne h1, qup_ne h2, qup_ne h3, qup_ne h4, qup_f hf])⟩
theorem K_X4_isMaster {d : Nat} (hd : 0 ≤ d) (m : Int) (w : qW) (hI : yInv zgf zga zra zSp w) : qG none d 59 0 [(2, 45), (0, m)] [] w 142 (fun (r : qV) (w1 : qW) (n1 : Nat) => r = (0, isInV m 0 (w 45 0 - 1)) ∧ w1 = w ∧ n1 = 142) := by
  generalize hQ9 : (fun (r : qV) (w1 : qW) (n1 : Nat) => r = (0, isInV m 0 (w 45 0 - 1)) ∧ w1 = w ∧ n1 = 142) = Q9
  have q12 := hI.1 45 0 (0, 12) rfl rfl
  have b12 : w 45 0 ≤ (12 : Int) := q12.2
  refine qG.blk 1 (pc' := 1) (ls' := [(2, 45), (0, m)]) (st' := [(0, m)]) (w' := w) (n' := 142) rfl ?_
  refine qG.br (P := m < 0) (pc1 := 22) (pc2 := 4) (st1 := []) rfl (fun h1 => ?_) (fun h1 => ?_)
  · skip
    refine qG.blk 1 (pc' := 23) (ls' := [(2, 45), (0, m)]) (st' := [(0, 0)]) (w' := w) (n' := 142) rfl ?_
    refine qG.ret rfl (by first | rfl | exact decide_eq_true (by omega)) ?_
    subst hQ9
    exact ⟨by unfold isInV; split <;> (try split) <;> first | rfl | (exfalso; omega), rfl, rfl⟩
  · skip
    refine qG.blk 3 (pc' := 9) (ls' := [(2, 45), (0, m)]) (st' := [(0, w 45 0), (0, m)]) (w' := w) (n' := 142) rfl ?_
    refine qG.br (P := m < w 45 0) (pc1 := 12) (pc2 := 22) (st1 := []) rfl (fun h2 => ?_) (fun h2 => ?_)
    · skip
      refine qG.blk 2 (pc' := 15) (ls' := [(2, 45), (0, m)]) (st' := [(0, 12), (0, m)]) (w' := w) (n' := 142) rfl ?_
      refine qG.br (P := m < 12) (pc1 := 18) (pc2 := 22) (st1 := []) rfl (fun h3 => ?_) (fun h3 => ?_)
      · skip
        refine qG.blk 2 (pc' := 23) (ls' := [(2, 45), (0, m)]) (st' := [(0, 1)]) (w' := w) (n' := 142) rfl ?_
        refine qG.ret rfl (by first | rfl | exact decide_eq_true (by omega)) ?_
        subst hQ9
        exact ⟨by unfold isInV; split <;> (try split) <;> first | rfl | (exfalso; omega), rfl, rfl⟩
      · skip
        refine qG.blk 1 (pc' := 23) (ls' := [(2, 45), (0, m)]) (st' := [(0, 0)]) (w' := w) (n' := 142) rfl ?_
        refine qG.ret rfl (by first | rfl | exact decide_eq_true (by omega)) ?_
        subst hQ9
        exact ⟨by unfold isInV; split <;> (try split) <;> first | rfl | (exfalso; omega), rfl, rfl⟩
    · skip
      refine qG.blk 1 (pc' := 23) (ls' := [(2, 45), (0, m)]) (st' := [(0, 0)]) (w' := w) (n' := 142) rfl ?_
      refine qG.ret rfl (by first | rfl | exact decide_eq_true (by omega)) ?_
      subst hQ9
      exact ⟨by unfold isInV; split <;> (try split) <;> first | rfl | (exfalso; omega), rfl, rfl⟩
def JN (w : qW) : Prop := w 45 0 = w 95 55 ∧ w 45 7 = w 95 57 ∧ (∀ k, w 46 k = w 125 k) ∧ (∀ k, w 47 k = w 126 k) ∧ (∀ k, w 48 k = w 127 k) ∧ (∀ k, w 51 k = w 132 k) ∧ (∀ k, w 52 k = w 133 k) ∧ (∀ k, w 53 k = w 134 k) ∧ (∀ k, w 54 k = w 135 k) ∧ (∀ k, w 55 k = w 136 k)
def jnM (m : List Nat) : Bool := spo m 46 && (spo m 47 && (spo m 48 && (spo m 51 && (spo m 52 && (spo m 53 && (spo m 54 && (spo m 55 && (spo m 125 && (spo m 126 && (spo m 127 && (spo m 132 && (spo m 133 && (spo m 134 && (spo m 135 && (spo m 136 && (!ymo 45 0 m && (!ymo 45 7 m && (!ymo 95 55 m && (!ymo 95 57 m)))))))))))))))))))
theorem JN.aw {m : List Nat} {w w1 : qW} (h : JN w) (a : AW m w w1) (hm : jnM m = true) : JN w1 := by
  unfold jnM at hm
  simp only [Bool.and_eq_true, Bool.not_eq_true'] at hm
  obtain ⟨m0, m1, m2, m3, m4, m5, m6, m7, m8, m9, m10, m11, m12, m13, m14, m15, m16, m17, m18, m19⟩ := hm
  refine ⟨?_, ?_, fun k => ?_, fun k => ?_, fun k => ?_, fun k => ?_, fun k => ?_, fun k => ?_, fun k => ?_, fun k => ?_⟩
  · rw [a.2 45 0 (fun _ => m16), a.2 95 55 (fun _ => m18)]; exact h.1
  · rw [a.2 45 7 (fun _ => m17), a.2 95 57 (fun _ => m19)]; exact h.2.1
  · rw [a.a (by decide) m0, a.a (by decide) m8]; exact h.2.2.1 k
  · rw [a.a (by decide) m1, a.a (by decide) m9]; exact h.2.2.2.1 k
  · rw [a.a (by decide) m2, a.a (by decide) m10]; exact h.2.2.2.2.1 k
  · rw [a.a (by decide) m3, a.a (by decide) m11]; exact h.2.2.2.2.2.1 k
  · rw [a.a (by decide) m4, a.a (by decide) m12]; exact h.2.2.2.2.2.2.1 k
  · rw [a.a (by decide) m5, a.a (by decide) m13]; exact h.2.2.2.2.2.2.2.1 k
  · rw [a.a (by decide) m6, a.a (by decide) m14]; exact h.2.2.2.2.2.2.2.2.1 k
  · rw [a.a (by decide) m7, a.a (by decide) m15]; exact h.2.2.2.2.2.2.2.2.2 k
theorem JN.master {w w1 w2 : qW} {s g a b : Int} {n : Nat} {r r2 : qV} (h : JN w) (hX : masE 45 0 46 47 48 [46, 47, 48] s g a b n w r w1) (hR : masE 95 55 125 126 127 [125, 126, 127, 128] s g a b n w1 r2 w2) : JN w2 ∧ r = r2 := by
  rcases hX with ⟨c1, rfl, rfl⟩ | ⟨c1, rfl, t1, x0, x1, x2, s1⟩ <;> rcases hR with ⟨c2, rfl, rfl⟩ | ⟨c2, rfl, t2, y0, y1, y2, s2⟩
  · exact ⟨h, rfl⟩
  · exact absurd c2 c1
  · exact absurd c1 c2
  · refine ⟨⟨?_, ?_, fun k => ?_, fun k => ?_, fun k => ?_, fun k => ?_, fun k => ?_, fun k => ?_, fun k => ?_, fun k => ?_⟩, rfl⟩
    · rw [s2 45 0 (by decide) (fun z => by cases z.1), t1, t2]
    · rw [s2 45 7 (by decide) (fun z => by cases z.1), s1 45 7 (by decide) (fun z => by cases z.2), s2 95 57 (by decide) (fun z => by cases z.2), s1 95 57 (by decide) (fun z => by cases z.1)]; exact h.2.1
    · rw [s2 46 k (by decide) (fun z => by cases z.1), x0 k, y0 k, s1 125 k (by decide) (fun z => by cases z.1), h.2.2.1 k]
    · rw [s2 47 k (by decide) (fun z => by cases z.1), x1 k, y1 k, s1 126 k (by decide) (fun z => by cases z.1), h.2.2.2.1 k]
    · rw [s2 48 k (by decide) (fun z => by cases z.1), x2 k, y2 k, s1 127 k (by decide) (fun z => by cases z.1), h.2.2.2.2.1 k]
    · rw [s2 51 k (by decide) (fun z => by cases z.1), s1 51 k (by decide) (fun z => by cases z.1), s2 132 k (by decide) (fun z => by cases z.1), s1 132 k (by decide) (fun z => by cases z.1)]; exact h.2.2.2.2.2.1 k
    · rw [s2 52 k (by decide) (fun z => by cases z.1), s1 52 k (by decide) (fun z => by cases z.1), s2 133 k (by decide) (fun z => by cases z.1), s1 133 k (by decide) (fun z => by cases z.1)]; exact h.2.2.2.2.2.2.1 k
    · rw [s2 53 k (by decide) (fun z => by cases z.1), s1 53 k (by decide) (fun z => by cases z.1), s2 134 k (by decide) (fun z => by cases z.1), s1 134 k (by decide) (fun z => by cases z.1)]; exact h.2.2.2.2.2.2.2.1 k
    · rw [s2 54 k (by decide) (fun z => by cases z.1), s1 54 k (by decide) (fun z => by cases z.1), s2 135 k (by decide) (fun z => by cases z.1), s1 135 k (by decide) (fun z => by cases z.1)]; exact h.2.2.2.2.2.2.2.2.1 k
    · rw [s2 55 k (by decide) (fun z => by cases z.1), s1 55 k (by decide) (fun z => by cases z.1), s2 136 k (by decide) (fun z => by cases z.1), s1 136 k (by decide) (fun z => by cases z.1)]; exact h.2.2.2.2.2.2.2.2.2 k
theorem JN.night {w w1 w2 : qW} {y t g e a : Int} {n : Nat} {r r2 : qV} (h : JN w) (hX : nigE 45 7 51 52 53 54 55 y t g e a n w r w1) (hR : nigE 95 57 132 133 134 135 136 y t g e a n w1 r2 w2) : JN w2 ∧ r = r2 := by
  rcases hX with ⟨c1, rfl, rfl⟩ | ⟨c1, rfl, t1, x0, x1, x2, x3, x4, s1⟩ <;> rcases hR with ⟨c2, rfl, rfl⟩ | ⟨c2, rfl, t2, y0, y1, y2, y3, y4, s2⟩
  · exact ⟨h, rfl⟩
  · exact absurd c2 c1
  · exact absurd c1 c2
  · refine ⟨⟨?_, ?_, fun k => ?_, fun k => ?_, fun k => ?_, fun k => ?_, fun k => ?_, fun k => ?_, fun k => ?_, fun k => ?_⟩, rfl⟩
    · rw [s2 45 0 (by decide) (fun z => by cases z.1), s1 45 0 (by decide) (fun z => by cases z.2), s2 95 55 (by decide) (fun z => by cases z.2), s1 95 55 (by decide) (fun z => by cases z.1)]; exact h.1
    · rw [s2 45 7 (by decide) (fun z => by cases z.1), t1, t2]
    · rw [s2 46 k (by decide) (fun z => by cases z.1), s1 46 k (by decide) (fun z => by cases z.1), s2 125 k (by decide) (fun z => by cases z.1), s1 125 k (by decide) (fun z => by cases z.1)]; exact h.2.2.1 k
    · rw [s2 47 k (by decide) (fun z => by cases z.1), s1 47 k (by decide) (fun z => by cases z.1), s2 126 k (by decide) (fun z => by cases z.1), s1 126 k (by decide) (fun z => by cases z.1)]; exact h.2.2.2.1 k
    · rw [s2 48 k (by decide) (fun z => by cases z.1), s1 48 k (by decide) (fun z => by cases z.1), s2 127 k (by decide) (fun z => by cases z.1), s1 127 k (by decide) (fun z => by cases z.1)]; exact h.2.2.2.2.1 k
    · rw [s2 51 k (by decide) (fun z => by cases z.1), x0 k, y0 k, s1 132 k (by decide) (fun z => by cases z.1), h.2.2.2.2.2.1 k]
    · rw [s2 52 k (by decide) (fun z => by cases z.1), x1 k, y1 k, s1 133 k (by decide) (fun z => by cases z.1), h.2.2.2.2.2.2.1 k]
    · rw [s2 53 k (by decide) (fun z => by cases z.1), x2 k, y2 k, s1 134 k (by decide) (fun z => by cases z.1), h.2.2.2.2.2.2.2.1 k]
    · rw [s2 54 k (by decide) (fun z => by cases z.1), x3 k, y3 k, s1 135 k (by decide) (fun z => by cases z.1), h.2.2.2.2.2.2.2.2.1 k]
    · rw [s2 55 k (by decide) (fun z => by cases z.1), x4 k, y4 k, s1 136 k (by decide) (fun z => by cases z.1), h.2.2.2.2.2.2.2.2.2 k]
