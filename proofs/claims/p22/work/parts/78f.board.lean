/-! the board on both sides -/
noncomputable def nbF (B : Nat → Int) (f t : Nat) (bc : Int) (j : Nat) : Int := if j = f then 0 else if j = t then (if bc = -1 then B f else bc) else B j
noncomputable def nkF (K S : Nat → Int) (f t : Nat) (j : Nat) : Int := if S t = 0 ∧ j = t then (if S f = 0 then (if K f = 0 then 13 else K f) else 13) else if S f = 0 ∧ j = f then 0 else K j
noncomputable def movC (B : Nat → Int) (f t bc : Int) : Prop := ((((0 ≤ f ∧ f ≤ 63) ∧ 0 ≤ t ∧ t ≤ 63) ∧ ¬ f = t) ∧ ¬ B f.toNat = 0) ∧ (bc = -1 ∨ (1 ≤ bc ∧ bc ≤ 12))
noncomputable def movE (a b c : Nat) (f t bc : Int) (w : qW) (r : qV) (w1 : qW) : Prop := (¬ movC (w a) f t bc ∧ r = (0, 0) ∧ w1 = w) ∨ (movC (w a) f t bc ∧ r = (0, 1) ∧ (∀ j, w1 a j = nbF (w a) f.toNat t.toNat bc j) ∧ (∀ j, w1 b j = nkF (w b) (w c) f.toNat t.toNat j) ∧ ∀ j, w1 c j = w c j)
noncomputable def pieE (a b c : Nat) (s p : Int) (w : qW) (r : qV) (w1 : qW) : Prop := (¬ ((0 ≤ s ∧ s ≤ 63) ∧ 0 ≤ p ∧ p ≤ 12) ∧ r = (0, 0) ∧ w1 = w) ∨ (((0 ≤ s ∧ s ≤ 63) ∧ 0 ≤ p ∧ p ≤ 12) ∧ r = (0, 1) ∧ (∀ j, w1 a j = if j = s.toNat then p else w a j) ∧ (∀ j, w1 b j = if j = s.toNat then p else w b j) ∧ ∀ j, w1 c j = w c j)
noncomputable def stiE (a b c : Nat) (s p : Int) (w : qW) (r : qV) (w1 : qW) : Prop := (¬ (0 ≤ s ∧ s ≤ 63) ∧ r = (0, 0) ∧ w1 = w) ∨ ((0 ≤ s ∧ s ≤ 63) ∧ r = (0, 1) ∧ (∀ j, w1 a j = w a j) ∧ (∀ j, w1 b j = w b j) ∧ ∀ j, w1 c j = if j = s.toNat then p else w c j)
theorem K_X1_putPiece {d : Nat} (hd : 1 ≤ d) (s p : Int) (w : qW) (hI : yInv zgf zga zra zSp w) : qG none d 11 0 [(2, 41), (0, s), (0, p)] [] w 142 (fun (r : qV) (w1 : qW) (n1 : Nat) => n1 = 142 ∧ pieE 42 43 44 s p w r w1) := by
  generalize hQ9 : (fun (r : qV) (w1 : qW) (n1 : Nat) => n1 = 142 ∧ pieE 42 43 44 s p w r w1) = Q9
  obtain ⟨d, rfl⟩ : ∃ d9, d = d9 + 1 := ⟨d - 1, by omega⟩
  refine qG.blk 1 (pc' := 1) (ls' := [(2, 41), (0, s), (0, p)]) (st' := [(0, s)]) (w' := w) (n' := 142) rfl ?_
  refine qG.call (t := 9) (na := 1) (sk := 0) (md := 0) (ls1 := [(0, s)]) (r1 := []) rfl rfl rfl rfl rfl (K_X1_isSquare (Nat.zero_le _) _ _) ?_
  rintro _ w7 _ ⟨rfl, hw7, rfl⟩
  rw [hw7]
  show qG none (d + 1) 11 4 [(2, 41), (0, s), (0, p)] [(0, isInV s 0 63)] w 142 Q9
  refine qG.br (P := isInV s 0 63 = 0) (pc1 := 17) (pc2 := 7) (st1 := []) rfl (fun h1 => ?_) (fun h1 => ?_)
  · skip
    rw [isIn_b] at h1
    refine qG.blk 1 (pc' := 18) (ls' := [(2, 41), (0, s), (0, p)]) (st' := [(0, 0)]) (w' := w) (n' := 142) rfl ?_
    refine qG.ret rfl (by first | rfl | exact decide_eq_true (by omega)) ?_
    subst hQ9
    exact ⟨rfl, by first | exact .inl ⟨by omega, rfl, rfl⟩ | exact .inr ⟨⟨by omega, by omega⟩, rfl, (fun j => by (try simp (disch := decide) only [qup_ne, qup_if, Int.toNat_natCast]) <;> (try rfl) <;> (repeat' split) <;> first | rfl | omega), (fun j => by (try simp (disch := decide) only [qup_ne, qup_if, Int.toNat_natCast]) <;> (try rfl) <;> (repeat' split) <;> first | rfl | omega), (fun j => by (try simp (disch := decide) only [qup_ne, qup_if, Int.toNat_natCast]) <;> (try rfl) <;> (repeat' split) <;> first | rfl | omega)⟩⟩
  · skip
    rw [isIn_p] at h1
    obtain ⟨s9, rfl⟩ : ∃ q : Nat, s = (q : Int) := ⟨s.toNat, by omega⟩
    refine qG.blk 1 (pc' := 8) (ls' := [(2, 41), (0, ((s9 : Nat) : Int)), (0, p)]) (st' := [(0, p)]) (w' := w) (n' := 142) rfl ?_
    refine qG.br (P := p < 0) (pc1 := 17) (pc2 := 11) (st1 := []) rfl (fun h1 => ?_) (fun h1 => ?_)
    · skip
      refine qG.blk 1 (pc' := 18) (ls' := [(2, 41), (0, ((s9 : Nat) : Int)), (0, p)]) (st' := [(0, 0)]) (w' := w) (n' := 142) rfl ?_
      refine qG.ret rfl (by first | rfl | exact decide_eq_true (by omega)) ?_
      subst hQ9
      exact ⟨rfl, by first | exact .inl ⟨by omega, rfl, rfl⟩ | exact .inr ⟨⟨by omega, by omega⟩, rfl, (fun j => by (try simp (disch := decide) only [qup_ne, qup_if, Int.toNat_natCast]) <;> (try rfl) <;> (repeat' split) <;> first | rfl | omega), (fun j => by (try simp (disch := decide) only [qup_ne, qup_if, Int.toNat_natCast]) <;> (try rfl) <;> (repeat' split) <;> first | rfl | omega), (fun j => by (try simp (disch := decide) only [qup_ne, qup_if, Int.toNat_natCast]) <;> (try rfl) <;> (repeat' split) <;> first | rfl | omega)⟩⟩
    · skip
      refine qG.blk 2 (pc' := 14) (ls' := [(2, 41), (0, ((s9 : Nat) : Int)), (0, p)]) (st' := [(0, 12), (0, p)]) (w' := w) (n' := 142) rfl ?_
      refine qG.br (P := 12 < p) (pc1 := 17) (pc2 := 19) (st1 := []) rfl (fun h2 => ?_) (fun h2 => ?_)
      · skip
        refine qG.blk 1 (pc' := 18) (ls' := [(2, 41), (0, ((s9 : Nat) : Int)), (0, p)]) (st' := [(0, 0)]) (w' := w) (n' := 142) rfl ?_
        refine qG.ret rfl (by first | rfl | exact decide_eq_true (by omega)) ?_
        subst hQ9
        exact ⟨rfl, by first | exact .inl ⟨by omega, rfl, rfl⟩ | exact .inr ⟨⟨by omega, by omega⟩, rfl, (fun j => by (try simp (disch := decide) only [qup_ne, qup_if, Int.toNat_natCast]) <;> (try rfl) <;> (repeat' split) <;> first | rfl | omega), (fun j => by (try simp (disch := decide) only [qup_ne, qup_if, Int.toNat_natCast]) <;> (try rfl) <;> (repeat' split) <;> first | rfl | omega), (fun j => by (try simp (disch := decide) only [qup_ne, qup_if, Int.toNat_natCast]) <;> (try rfl) <;> (repeat' split) <;> first | rfl | omega)⟩⟩
      · skip
        refine qG.blk 2 (pc' := 23) (ls' := [(2, 41), (0, ((s9 : Nat) : Int)), (0, p)]) (st' := [(2, w 41 0)]) (w' := w) (n' := 142) rfl ?_
        rw [show w 41 0 = 42 from zref hI rfl rfl]
        refine qG.blk 2 (pc' := 25) (ls' := [(2, 41), (0, ((s9 : Nat) : Int)), (0, p)]) (st' := [(0, p), (0, ((s9 : Nat) : Int)), (2, 42)]) (w' := w) (n' := 142) rfl ?_
        refine qG.ar (P := 0 ≤ ((s9 : Nat) : Int) ∧ ((s9 : Nat) : Int) < ((64 : Nat) : Int)) (P2 := 0 < (42 : Int) ∧ (42 : Int) ≤ ((142 : Nat) : Int)) (pc' := 26) (ls' := [(2, 41), (0, ((s9 : Nat) : Int)), (0, p)]) (st' := []) (w' := (qup w 42 s9 p)) (n' := 142) rfl (by omega) (by decide) ?_
        refine qG.blk 2 (pc' := 30) (ls' := [(2, 41), (0, ((s9 : Nat) : Int)), (0, p)]) (st' := [(2, w 41 1)]) (w' := (qup w 42 s9 p)) (n' := 142) rfl ?_
        rw [show w 41 1 = 43 from zref hI rfl rfl]
        refine qG.blk 2 (pc' := 32) (ls' := [(2, 41), (0, ((s9 : Nat) : Int)), (0, p)]) (st' := [(0, p), (0, ((s9 : Nat) : Int)), (2, 43)]) (w' := (qup w 42 s9 p)) (n' := 142) rfl ?_
        refine qG.ar (P := 0 ≤ ((s9 : Nat) : Int) ∧ ((s9 : Nat) : Int) < ((64 : Nat) : Int)) (P2 := 0 < (43 : Int) ∧ (43 : Int) ≤ ((142 : Nat) : Int)) (pc' := 33) (ls' := [(2, 41), (0, ((s9 : Nat) : Int)), (0, p)]) (st' := []) (w' := (qup (qup w 42 s9 p) 43 s9 p)) (n' := 142) rfl (by omega) (by decide) ?_
        refine qG.blk 1 (pc' := 34) (ls' := [(2, 41), (0, ((s9 : Nat) : Int)), (0, p)]) (st' := [(0, 1)]) (w' := (qup (qup w 42 s9 p) 43 s9 p)) (n' := 142) rfl ?_
        refine qG.ret rfl (by first | rfl | exact decide_eq_true (by omega)) ?_
        subst hQ9
        exact ⟨rfl, by first | exact .inl ⟨by omega, rfl, rfl⟩ | exact .inr ⟨⟨by omega, by omega⟩, rfl, (fun j => by (try simp (disch := decide) only [qup_ne, qup_if, Int.toNat_natCast]) <;> (try rfl) <;> (repeat' split) <;> first | rfl | omega), (fun j => by (try simp (disch := decide) only [qup_ne, qup_if, Int.toNat_natCast]) <;> (try rfl) <;> (repeat' split) <;> first | rfl | omega), (fun j => by (try simp (disch := decide) only [qup_ne, qup_if, Int.toNat_natCast]) <;> (try rfl) <;> (repeat' split) <;> first | rfl | omega)⟩⟩
theorem K_X12_pieceE {d : Nat} (hd : 2 ≤ d) (s p : Int) (w : qW) (hI : yInv zgf zga zra zSp w) : qG none d 275 0 [(2, 95), (0, s), (0, p)] [] w 142 (fun (r : qV) (w1 : qW) (n1 : Nat) => n1 = 142 ∧ pieE 122 123 124 s p w r w1) := by
  generalize hQ9 : (fun (r : qV) (w1 : qW) (n1 : Nat) => n1 = 142 ∧ pieE 122 123 124 s p w r w1) = Q9
  obtain ⟨d, rfl⟩ : ∃ d9, d = d9 + 1 := ⟨d - 1, by omega⟩
  refine qG.blk 1 (pc' := 1) (ls' := [(2, 95), (0, s), (0, p)]) (st' := [(0, s)]) (w' := w) (n' := 142) rfl ?_
  refine qG.call (t := 274) (na := 1) (sk := 0) (md := 0) (ls1 := [(0, s)]) (r1 := []) rfl rfl rfl rfl rfl (K_X12_isSquare (by omega) _ _) ?_
  rintro _ w7 _ ⟨rfl, hw7, rfl⟩
  rw [hw7]
  show qG none (d + 1) 275 4 [(2, 95), (0, s), (0, p)] [(0, isInV s 0 63)] w 142 Q9
  refine qG.br (P := isInV s 0 63 = 0) (pc1 := 17) (pc2 := 7) (st1 := []) rfl (fun h1 => ?_) (fun h1 => ?_)
  · skip
    rw [isIn_b] at h1
    refine qG.blk 1 (pc' := 18) (ls' := [(2, 95), (0, s), (0, p)]) (st' := [(0, 0)]) (w' := w) (n' := 142) rfl ?_
    refine qG.ret rfl (by first | rfl | exact decide_eq_true (by omega)) ?_
    subst hQ9
    exact ⟨rfl, by first | exact .inl ⟨by omega, rfl, rfl⟩ | exact .inr ⟨⟨by omega, by omega⟩, rfl, (fun j => by (try simp (disch := decide) only [qup_ne, qup_if, Int.toNat_natCast]) <;> (try rfl) <;> (repeat' split) <;> first | rfl | omega), (fun j => by (try simp (disch := decide) only [qup_ne, qup_if, Int.toNat_natCast]) <;> (try rfl) <;> (repeat' split) <;> first | rfl | omega), (fun j => by (try simp (disch := decide) only [qup_ne, qup_if, Int.toNat_natCast]) <;> (try rfl) <;> (repeat' split) <;> first | rfl | omega)⟩⟩
  · skip
    rw [isIn_p] at h1
    obtain ⟨s9, rfl⟩ : ∃ q : Nat, s = (q : Int) := ⟨s.toNat, by omega⟩
    refine qG.blk 3 (pc' := 11) (ls' := [(2, 95), (0, ((s9 : Nat) : Int)), (0, p)]) (st' := [(0, 12), (0, 0), (0, p)]) (w' := w) (n' := 142) rfl ?_
    refine qG.call (t := 206) (na := 3) (sk := 0) (md := 0) (ls1 := [(0, p), (0, 0), (0, 12)]) (r1 := []) rfl rfl rfl rfl rfl (K_isIn (Nat.zero_le _) _ _ _ _) ?_
    rintro _ w7 _ ⟨rfl, hw7, rfl⟩
    rw [hw7]
    show qG none (d + 1) 275 14 [(2, 95), (0, ((s9 : Nat) : Int)), (0, p)] [(0, isInV (p) (0) (12))] w 142 Q9
    refine qG.br (P := isInV (p) (0) (12) = 0) (pc1 := 17) (pc2 := 19) (st1 := []) rfl (fun h2 => ?_) (fun h2 => ?_)
    · skip
      rw [isIn_b] at h2
      refine qG.blk 1 (pc' := 18) (ls' := [(2, 95), (0, ((s9 : Nat) : Int)), (0, p)]) (st' := [(0, 0)]) (w' := w) (n' := 142) rfl ?_
      refine qG.ret rfl (by first | rfl | exact decide_eq_true (by omega)) ?_
      subst hQ9
      exact ⟨rfl, by first | exact .inl ⟨by omega, rfl, rfl⟩ | exact .inr ⟨⟨by omega, by omega⟩, rfl, (fun j => by (try simp (disch := decide) only [qup_ne, qup_if, Int.toNat_natCast]) <;> (try rfl) <;> (repeat' split) <;> first | rfl | omega), (fun j => by (try simp (disch := decide) only [qup_ne, qup_if, Int.toNat_natCast]) <;> (try rfl) <;> (repeat' split) <;> first | rfl | omega), (fun j => by (try simp (disch := decide) only [qup_ne, qup_if, Int.toNat_natCast]) <;> (try rfl) <;> (repeat' split) <;> first | rfl | omega)⟩⟩
    · skip
      rw [isIn_p] at h2
      refine qG.blk 2 (pc' := 23) (ls' := [(2, 95), (0, ((s9 : Nat) : Int)), (0, p)]) (st' := [(2, w 95 52)]) (w' := w) (n' := 142) rfl ?_
      rw [show w 95 52 = 122 from zref hI rfl rfl]
      refine qG.blk 2 (pc' := 25) (ls' := [(2, 95), (0, ((s9 : Nat) : Int)), (0, p)]) (st' := [(0, p), (0, ((s9 : Nat) : Int)), (2, 122)]) (w' := w) (n' := 142) rfl ?_
      refine qG.ar (P := 0 ≤ ((s9 : Nat) : Int) ∧ ((s9 : Nat) : Int) < ((64 : Nat) : Int)) (P2 := 0 < (122 : Int) ∧ (122 : Int) ≤ ((142 : Nat) : Int)) (pc' := 26) (ls' := [(2, 95), (0, ((s9 : Nat) : Int)), (0, p)]) (st' := []) (w' := (qup w 122 s9 p)) (n' := 142) rfl (by omega) (by decide) ?_
      refine qG.blk 2 (pc' := 30) (ls' := [(2, 95), (0, ((s9 : Nat) : Int)), (0, p)]) (st' := [(2, w 95 53)]) (w' := (qup w 122 s9 p)) (n' := 142) rfl ?_
      rw [show w 95 53 = 123 from zref hI rfl rfl]
      refine qG.blk 2 (pc' := 32) (ls' := [(2, 95), (0, ((s9 : Nat) : Int)), (0, p)]) (st' := [(0, p), (0, ((s9 : Nat) : Int)), (2, 123)]) (w' := (qup w 122 s9 p)) (n' := 142) rfl ?_
      refine qG.ar (P := 0 ≤ ((s9 : Nat) : Int) ∧ ((s9 : Nat) : Int) < ((64 : Nat) : Int)) (P2 := 0 < (123 : Int) ∧ (123 : Int) ≤ ((142 : Nat) : Int)) (pc' := 33) (ls' := [(2, 95), (0, ((s9 : Nat) : Int)), (0, p)]) (st' := []) (w' := (qup (qup w 122 s9 p) 123 s9 p)) (n' := 142) rfl (by omega) (by decide) ?_
      refine qG.blk 1 (pc' := 34) (ls' := [(2, 95), (0, ((s9 : Nat) : Int)), (0, p)]) (st' := [(0, 1)]) (w' := (qup (qup w 122 s9 p) 123 s9 p)) (n' := 142) rfl ?_
      refine qG.ret rfl (by first | rfl | exact decide_eq_true (by omega)) ?_
      subst hQ9
      exact ⟨rfl, by first | exact .inl ⟨by omega, rfl, rfl⟩ | exact .inr ⟨⟨by omega, by omega⟩, rfl, (fun j => by (try simp (disch := decide) only [qup_ne, qup_if, Int.toNat_natCast]) <;> (try rfl) <;> (repeat' split) <;> first | rfl | omega), (fun j => by (try simp (disch := decide) only [qup_ne, qup_if, Int.toNat_natCast]) <;> (try rfl) <;> (repeat' split) <;> first | rfl | omega), (fun j => by (try simp (disch := decide) only [qup_ne, qup_if, Int.toNat_natCast]) <;> (try rfl) <;> (repeat' split) <;> first | rfl | omega)⟩⟩
theorem K_X1_putStick {d : Nat} (hd : 1 ≤ d) (s p : Int) (hb : 0 ≤ p ∧ p ≤ 1) (w : qW) (hI : yInv zgf zga zra zSp w) : qG none d 12 0 [(2, 41), (0, s), (0, p)] [] w 142 (fun (r : qV) (w1 : qW) (n1 : Nat) => n1 = 142 ∧ stiE 42 43 44 s p w r w1) := by
  generalize hQ9 : (fun (r : qV) (w1 : qW) (n1 : Nat) => n1 = 142 ∧ stiE 42 43 44 s p w r w1) = Q9
  obtain ⟨d, rfl⟩ : ∃ d9, d = d9 + 1 := ⟨d - 1, by omega⟩
  refine qG.blk 1 (pc' := 1) (ls' := [(2, 41), (0, s), (0, p)]) (st' := [(0, s)]) (w' := w) (n' := 142) rfl ?_
  refine qG.call (t := 9) (na := 1) (sk := 0) (md := 0) (ls1 := [(0, s)]) (r1 := []) rfl rfl rfl rfl rfl (K_X1_isSquare (Nat.zero_le _) _ _) ?_
  rintro _ w7 _ ⟨rfl, hw7, rfl⟩
  rw [hw7]
  show qG none (d + 1) 12 4 [(2, 41), (0, s), (0, p)] [(0, isInV s 0 63)] w 142 Q9
  refine qG.br (P := isInV s 0 63 = 0) (pc1 := 7) (pc2 := 9) (st1 := []) rfl (fun h1 => ?_) (fun h1 => ?_)
  · skip
    rw [isIn_b] at h1
    refine qG.blk 1 (pc' := 8) (ls' := [(2, 41), (0, s), (0, p)]) (st' := [(0, 0)]) (w' := w) (n' := 142) rfl ?_
    refine qG.ret rfl (by first | rfl | exact decide_eq_true (by omega)) ?_
    subst hQ9
    exact ⟨rfl, by first | exact .inl ⟨by omega, rfl, rfl⟩ | exact .inr ⟨by omega, rfl, (fun j => by (try simp (disch := decide) only [qup_ne, qup_if, Int.toNat_natCast]) <;> (try rfl) <;> (repeat' split) <;> first | rfl | omega), (fun j => by (try simp (disch := decide) only [qup_ne, qup_if, Int.toNat_natCast]) <;> (try rfl) <;> (repeat' split) <;> first | rfl | omega), (fun j => by (try simp (disch := decide) only [qup_ne, qup_if, Int.toNat_natCast]) <;> (try rfl) <;> (repeat' split) <;> first | rfl | omega)⟩⟩
  · skip
    rw [isIn_p] at h1
    obtain ⟨s9, rfl⟩ : ∃ q : Nat, s = (q : Int) := ⟨s.toNat, by omega⟩
    refine qG.blk 2 (pc' := 13) (ls' := [(2, 41), (0, ((s9 : Nat) : Int)), (0, p)]) (st' := [(2, w 41 2)]) (w' := w) (n' := 142) rfl ?_
    rw [show w 41 2 = 44 from zref hI rfl rfl]
    refine qG.blk 2 (pc' := 15) (ls' := [(2, 41), (0, ((s9 : Nat) : Int)), (0, p)]) (st' := [(0, p), (0, ((s9 : Nat) : Int)), (2, 44)]) (w' := w) (n' := 142) rfl ?_
    refine qG.ar (P := (0 ≤ ((s9 : Nat) : Int) ∧ ((s9 : Nat) : Int) < ((64 : Nat) : Int)) ∧ 0 ≤ p ∧ p ≤ 1) (P2 := 0 < (44 : Int) ∧ (44 : Int) ≤ ((142 : Nat) : Int)) (pc' := 16) (ls' := [(2, 41), (0, ((s9 : Nat) : Int)), (0, p)]) (st' := []) (w' := (qup w 44 s9 p)) (n' := 142) rfl (by exact ⟨⟨by omega, by omega⟩, hb⟩) (by decide) ?_
    refine qG.blk 1 (pc' := 17) (ls' := [(2, 41), (0, ((s9 : Nat) : Int)), (0, p)]) (st' := [(0, 1)]) (w' := (qup w 44 s9 p)) (n' := 142) rfl ?_
    refine qG.ret rfl (by first | rfl | exact decide_eq_true (by omega)) ?_
    subst hQ9
    exact ⟨rfl, by first | exact .inl ⟨by omega, rfl, rfl⟩ | exact .inr ⟨by omega, rfl, (fun j => by (try simp (disch := decide) only [qup_ne, qup_if, Int.toNat_natCast]) <;> (try rfl) <;> (repeat' split) <;> first | rfl | omega), (fun j => by (try simp (disch := decide) only [qup_ne, qup_if, Int.toNat_natCast]) <;> (try rfl) <;> (repeat' split) <;> first | rfl | omega), (fun j => by (try simp (disch := decide) only [qup_ne, qup_if, Int.toNat_natCast]) <;> (try rfl) <;> (repeat' split) <;> first | rfl | omega)⟩⟩
theorem K_X12_stickE {d : Nat} (hd : 2 ≤ d) (s p : Int) (hb : 0 ≤ p ∧ p ≤ 1) (w : qW) (hI : yInv zgf zga zra zSp w) : qG none d 276 0 [(2, 95), (0, s), (0, p)] [] w 142 (fun (r : qV) (w1 : qW) (n1 : Nat) => n1 = 142 ∧ stiE 122 123 124 s p w r w1) := by
  generalize hQ9 : (fun (r : qV) (w1 : qW) (n1 : Nat) => n1 = 142 ∧ stiE 122 123 124 s p w r w1) = Q9
  obtain ⟨d, rfl⟩ : ∃ d9, d = d9 + 1 := ⟨d - 1, by omega⟩
  refine qG.blk 1 (pc' := 1) (ls' := [(2, 95), (0, s), (0, p)]) (st' := [(0, s)]) (w' := w) (n' := 142) rfl ?_
  refine qG.call (t := 274) (na := 1) (sk := 0) (md := 0) (ls1 := [(0, s)]) (r1 := []) rfl rfl rfl rfl rfl (K_X12_isSquare (by omega) _ _) ?_
  rintro _ w7 _ ⟨rfl, hw7, rfl⟩
  rw [hw7]
  show qG none (d + 1) 276 4 [(2, 95), (0, s), (0, p)] [(0, isInV s 0 63)] w 142 Q9
  refine qG.br (P := isInV s 0 63 = 0) (pc1 := 7) (pc2 := 9) (st1 := []) rfl (fun h1 => ?_) (fun h1 => ?_)
  · skip
    rw [isIn_b] at h1
    refine qG.blk 1 (pc' := 8) (ls' := [(2, 95), (0, s), (0, p)]) (st' := [(0, 0)]) (w' := w) (n' := 142) rfl ?_
    refine qG.ret rfl (by first | rfl | exact decide_eq_true (by omega)) ?_
    subst hQ9
    exact ⟨rfl, by first | exact .inl ⟨by omega, rfl, rfl⟩ | exact .inr ⟨by omega, rfl, (fun j => by (try simp (disch := decide) only [qup_ne, qup_if, Int.toNat_natCast]) <;> (try rfl) <;> (repeat' split) <;> first | rfl | omega), (fun j => by (try simp (disch := decide) only [qup_ne, qup_if, Int.toNat_natCast]) <;> (try rfl) <;> (repeat' split) <;> first | rfl | omega), (fun j => by (try simp (disch := decide) only [qup_ne, qup_if, Int.toNat_natCast]) <;> (try rfl) <;> (repeat' split) <;> first | rfl | omega)⟩⟩
  · skip
    rw [isIn_p] at h1
    obtain ⟨s9, rfl⟩ : ∃ q : Nat, s = (q : Int) := ⟨s.toNat, by omega⟩
    refine qG.blk 2 (pc' := 13) (ls' := [(2, 95), (0, ((s9 : Nat) : Int)), (0, p)]) (st' := [(2, w 95 54)]) (w' := w) (n' := 142) rfl ?_
    rw [show w 95 54 = 124 from zref hI rfl rfl]
    refine qG.blk 2 (pc' := 15) (ls' := [(2, 95), (0, ((s9 : Nat) : Int)), (0, p)]) (st' := [(0, p), (0, ((s9 : Nat) : Int)), (2, 124)]) (w' := w) (n' := 142) rfl ?_
    refine qG.ar (P := (0 ≤ ((s9 : Nat) : Int) ∧ ((s9 : Nat) : Int) < ((64 : Nat) : Int)) ∧ 0 ≤ p ∧ p ≤ 1) (P2 := 0 < (124 : Int) ∧ (124 : Int) ≤ ((142 : Nat) : Int)) (pc' := 16) (ls' := [(2, 95), (0, ((s9 : Nat) : Int)), (0, p)]) (st' := []) (w' := (qup w 124 s9 p)) (n' := 142) rfl (by exact ⟨⟨by omega, by omega⟩, hb⟩) (by decide) ?_
    refine qG.blk 1 (pc' := 17) (ls' := [(2, 95), (0, ((s9 : Nat) : Int)), (0, p)]) (st' := [(0, 1)]) (w' := (qup w 124 s9 p)) (n' := 142) rfl ?_
    refine qG.ret rfl (by first | rfl | exact decide_eq_true (by omega)) ?_
    subst hQ9
    exact ⟨rfl, by first | exact .inl ⟨by omega, rfl, rfl⟩ | exact .inr ⟨by omega, rfl, (fun j => by (try simp (disch := decide) only [qup_ne, qup_if, Int.toNat_natCast]) <;> (try rfl) <;> (repeat' split) <;> first | rfl | omega), (fun j => by (try simp (disch := decide) only [qup_ne, qup_if, Int.toNat_natCast]) <;> (try rfl) <;> (repeat' split) <;> first | rfl | omega), (fun j => by (try simp (disch := decide) only [qup_ne, qup_if, Int.toNat_natCast]) <;> (try rfl) <;> (repeat' split) <;> first | rfl | omega)⟩⟩
theorem K_X1_play {d : Nat} (hd : 2 ≤ d) (f t bc : Int) (w : qW) (hI : yInv zgf zga zra zSp w) : qG none d 13 0 [(2, 41), (0, f), (0, t), (0, bc), (9, 0)] [] w 142 (fun (r : qV) (w1 : qW) (n1 : Nat) => n1 = 142 ∧ movE 42 43 44 f t bc w r w1) := by
  generalize hQ9 : (fun (r : qV) (w1 : qW) (n1 : Nat) => n1 = 142 ∧ movE 42 43 44 f t bc w r w1) = Q9
  obtain ⟨d, rfl⟩ : ∃ d9, d = d9 + 1 := ⟨d - 1, by omega⟩
  refine qG.blk 2 (pc' := 2) (ls' := [(2, 41), (0, f), (0, t), (0, bc), (9, 0)]) (st' := [(0, t), (0, f)]) (w' := w) (n' := 142) rfl ?_
  refine qG.call (t := 10) (na := 2) (sk := 0) (md := 0) (ls1 := [(0, f), (0, t)]) (r1 := []) rfl rfl rfl rfl rfl (K_X1_isMove (by omega) _ _ _) ?_
  rintro _ w7 _ ⟨rfl, hw7, rfl⟩
  rw [hw7]
  show qG none (d + 1) 13 5 [(2, 41), (0, f), (0, t), (0, bc), (9, 0)] [(0, isMv f t)] w 142 Q9
  refine qG.br (P := isMv f t = 0) (pc1 := 32) (pc2 := 8) (st1 := []) rfl (fun h1 => ?_) (fun h1 => ?_)
  · skip
    have h1 := isMv_0 h1
    refine qG.blk 1 (pc' := 33) (ls' := [(2, 41), (0, f), (0, t), (0, bc), (9, 0)]) (st' := [(0, 0)]) (w' := w) (n' := 142) rfl ?_
    refine qG.ret rfl (by first | rfl | exact decide_eq_true (by omega)) ?_
    subst hQ9
    exact ⟨rfl, by first | (exfalso; omega) | exact .inl ⟨by unfold movC; first | omega | (simp only [Int.toNat_natCast]; omega), rfl, rfl⟩ | exact .inr ⟨by unfold movC; first | omega | (simp only [Int.toNat_natCast]; omega), rfl, (fun j => by unfold nbF; (try simp (disch := decide) only [qup_ne, qup_if, Int.toNat_natCast]) <;> (repeat' split) <;> first | rfl | omega), (fun j => by unfold nkF; (try simp (disch := decide) only [qup_ne, qup_if, Int.toNat_natCast]) <;> (repeat' split) <;> first | rfl | omega), (fun j => by (try simp (disch := decide) only [qup_ne, qup_if, Int.toNat_natCast]) <;> (try rfl) <;> (repeat' split) <;> first | rfl | omega)⟩⟩
  · skip
    have h1 := isMv_1 h1
    obtain ⟨f9, rfl⟩ : ∃ q : Nat, f = (q : Int) := ⟨f.toNat, by omega⟩
    obtain ⟨t9, rfl⟩ : ∃ q : Nat, t = (q : Int) := ⟨t.toNat, by omega⟩
    refine qG.blk 2 (pc' := 12) (ls' := [(2, 41), (0, ((f9 : Nat) : Int)), (0, ((t9 : Nat) : Int)), (0, bc), (9, 0)]) (st' := [(2, w 41 0)]) (w' := w) (n' := 142) rfl ?_
    rw [show w 41 0 = 42 from zref hI rfl rfl]
    refine qG.blk 1 (pc' := 13) (ls' := [(2, 41), (0, ((f9 : Nat) : Int)), (0, ((t9 : Nat) : Int)), (0, bc), (9, 0)]) (st' := [(0, ((f9 : Nat) : Int)), (2, 42)]) (w' := w) (n' := 142) rfl ?_
    refine qG.ar (P := 0 ≤ ((f9 : Nat) : Int) ∧ ((f9 : Nat) : Int) < ((64 : Nat) : Int)) (P2 := 0 < (42 : Int) ∧ (42 : Int) ≤ ((142 : Nat) : Int)) (pc' := 14) (ls' := [(2, 41), (0, ((f9 : Nat) : Int)), (0, ((t9 : Nat) : Int)), (0, bc), (9, 0)]) (st' := [(0, w 42 f9)]) (w' := w) (n' := 142) rfl (by omega) (by decide) ?_
    refine qG.br (P := w 42 f9 = 0) (pc1 := 32) (pc2 := 17) (st1 := []) rfl (fun h1 => ?_) (fun h1 => ?_)
    · skip
      refine qG.blk 1 (pc' := 33) (ls' := [(2, 41), (0, ((f9 : Nat) : Int)), (0, ((t9 : Nat) : Int)), (0, bc), (9, 0)]) (st' := [(0, 0)]) (w' := w) (n' := 142) rfl ?_
      refine qG.ret rfl (by first | rfl | exact decide_eq_true (by omega)) ?_
      subst hQ9
      exact ⟨rfl, by first | (exfalso; omega) | exact .inl ⟨by unfold movC; first | omega | (simp only [Int.toNat_natCast]; omega), rfl, rfl⟩ | exact .inr ⟨by unfold movC; first | omega | (simp only [Int.toNat_natCast]; omega), rfl, (fun j => by unfold nbF; (try simp (disch := decide) only [qup_ne, qup_if, Int.toNat_natCast]) <;> (repeat' split) <;> first | rfl | omega), (fun j => by unfold nkF; (try simp (disch := decide) only [qup_ne, qup_if, Int.toNat_natCast]) <;> (repeat' split) <;> first | rfl | omega), (fun j => by (try simp (disch := decide) only [qup_ne, qup_if, Int.toNat_natCast]) <;> (try rfl) <;> (repeat' split) <;> first | rfl | omega)⟩⟩
    · skip
      refine qG.blk 2 (pc' := 19) (ls' := [(2, 41), (0, ((f9 : Nat) : Int)), (0, ((t9 : Nat) : Int)), (0, bc), (9, 0)]) (st' := [(0, (-1)), (0, bc)]) (w' := w) (n' := 142) rfl ?_
      refine qG.br (P := bc < (-1)) (pc1 := 32) (pc2 := 22) (st1 := []) rfl (fun h2 => ?_) (fun h2 => ?_)
      · skip
        refine qG.blk 1 (pc' := 33) (ls' := [(2, 41), (0, ((f9 : Nat) : Int)), (0, ((t9 : Nat) : Int)), (0, bc), (9, 0)]) (st' := [(0, 0)]) (w' := w) (n' := 142) rfl ?_
        refine qG.ret rfl (by first | rfl | exact decide_eq_true (by omega)) ?_
        subst hQ9
        exact ⟨rfl, by first | (exfalso; omega) | exact .inl ⟨by unfold movC; first | omega | (simp only [Int.toNat_natCast]; omega), rfl, rfl⟩ | exact .inr ⟨by unfold movC; first | omega | (simp only [Int.toNat_natCast]; omega), rfl, (fun j => by unfold nbF; (try simp (disch := decide) only [qup_ne, qup_if, Int.toNat_natCast]) <;> (repeat' split) <;> first | rfl | omega), (fun j => by unfold nkF; (try simp (disch := decide) only [qup_ne, qup_if, Int.toNat_natCast]) <;> (repeat' split) <;> first | rfl | omega), (fun j => by (try simp (disch := decide) only [qup_ne, qup_if, Int.toNat_natCast]) <;> (try rfl) <;> (repeat' split) <;> first | rfl | omega)⟩⟩
      · skip
        refine qG.blk 1 (pc' := 23) (ls' := [(2, 41), (0, ((f9 : Nat) : Int)), (0, ((t9 : Nat) : Int)), (0, bc), (9, 0)]) (st' := [(0, bc)]) (w' := w) (n' := 142) rfl ?_
        refine qG.br (P := bc = 0) (pc1 := 32) (pc2 := 26) (st1 := []) rfl (fun h3 => ?_) (fun h3 => ?_)
        · skip
          refine qG.blk 1 (pc' := 33) (ls' := [(2, 41), (0, ((f9 : Nat) : Int)), (0, ((t9 : Nat) : Int)), (0, bc), (9, 0)]) (st' := [(0, 0)]) (w' := w) (n' := 142) rfl ?_
          refine qG.ret rfl (by first | rfl | exact decide_eq_true (by omega)) ?_
          subst hQ9
          exact ⟨rfl, by first | (exfalso; omega) | exact .inl ⟨by unfold movC; first | omega | (simp only [Int.toNat_natCast]; omega), rfl, rfl⟩ | exact .inr ⟨by unfold movC; first | omega | (simp only [Int.toNat_natCast]; omega), rfl, (fun j => by unfold nbF; (try simp (disch := decide) only [qup_ne, qup_if, Int.toNat_natCast]) <;> (repeat' split) <;> first | rfl | omega), (fun j => by unfold nkF; (try simp (disch := decide) only [qup_ne, qup_if, Int.toNat_natCast]) <;> (repeat' split) <;> first | rfl | omega), (fun j => by (try simp (disch := decide) only [qup_ne, qup_if, Int.toNat_natCast]) <;> (try rfl) <;> (repeat' split) <;> first | rfl | omega)⟩⟩
        · skip
          refine qG.blk 2 (pc' := 29) (ls' := [(2, 41), (0, ((f9 : Nat) : Int)), (0, ((t9 : Nat) : Int)), (0, bc), (9, 0)]) (st' := [(0, 12), (0, bc)]) (w' := w) (n' := 142) rfl ?_
          refine qG.br (P := 12 < bc) (pc1 := 32) (pc2 := 34) (st1 := []) rfl (fun h4 => ?_) (fun h4 => ?_)
          · skip
            refine qG.blk 1 (pc' := 33) (ls' := [(2, 41), (0, ((f9 : Nat) : Int)), (0, ((t9 : Nat) : Int)), (0, bc), (9, 0)]) (st' := [(0, 0)]) (w' := w) (n' := 142) rfl ?_
            refine qG.ret rfl (by first | rfl | exact decide_eq_true (by omega)) ?_
            subst hQ9
            exact ⟨rfl, by first | (exfalso; omega) | exact .inl ⟨by unfold movC; first | omega | (simp only [Int.toNat_natCast]; omega), rfl, rfl⟩ | exact .inr ⟨by unfold movC; first | omega | (simp only [Int.toNat_natCast]; omega), rfl, (fun j => by unfold nbF; (try simp (disch := decide) only [qup_ne, qup_if, Int.toNat_natCast]) <;> (repeat' split) <;> first | rfl | omega), (fun j => by unfold nkF; (try simp (disch := decide) only [qup_ne, qup_if, Int.toNat_natCast]) <;> (repeat' split) <;> first | rfl | omega), (fun j => by (try simp (disch := decide) only [qup_ne, qup_if, Int.toNat_natCast]) <;> (try rfl) <;> (repeat' split) <;> first | rfl | omega)⟩⟩
          · skip
            refine qG.blk 2 (pc' := 38) (ls' := [(2, 41), (0, ((f9 : Nat) : Int)), (0, ((t9 : Nat) : Int)), (0, bc), (9, 0)]) (st' := [(2, w 41 0)]) (w' := w) (n' := 142) rfl ?_
            rw [show w 41 0 = 42 from zref hI rfl rfl]
            refine qG.blk 3 (pc' := 41) (ls' := [(2, 41), (0, ((f9 : Nat) : Int)), (0, ((t9 : Nat) : Int)), (0, bc), (9, 0)]) (st' := [(0, (-1)), (0, bc), (0, ((t9 : Nat) : Int)), (2, 42)]) (w' := w) (n' := 142) rfl ?_
            refine qG.br (P := bc = (-1)) (pc1 := 44) (pc2 := 53) (st1 := [(0, ((t9 : Nat) : Int)), (2, 42)]) rfl (fun h5 => ?_) (fun h5 => ?_)
            · skip
              refine qG.blk 2 (pc' := 48) (ls' := [(2, 41), (0, ((f9 : Nat) : Int)), (0, ((t9 : Nat) : Int)), (0, bc), (9, 0)]) (st' := [(2, w 41 0), (0, ((t9 : Nat) : Int)), (2, 42)]) (w' := w) (n' := 142) rfl ?_
              rw [show w 41 0 = 42 from zref hI rfl rfl]
              refine qG.blk 1 (pc' := 49) (ls' := [(2, 41), (0, ((f9 : Nat) : Int)), (0, ((t9 : Nat) : Int)), (0, bc), (9, 0)]) (st' := [(0, ((f9 : Nat) : Int)), (2, 42), (0, ((t9 : Nat) : Int)), (2, 42)]) (w' := w) (n' := 142) rfl ?_
              refine qG.ar (P := 0 ≤ ((f9 : Nat) : Int) ∧ ((f9 : Nat) : Int) < ((64 : Nat) : Int)) (P2 := 0 < (42 : Int) ∧ (42 : Int) ≤ ((142 : Nat) : Int)) (pc' := 50) (ls' := [(2, 41), (0, ((f9 : Nat) : Int)), (0, ((t9 : Nat) : Int)), (0, bc), (9, 0)]) (st' := [(0, w 42 f9), (0, ((t9 : Nat) : Int)), (2, 42)]) (w' := w) (n' := 142) rfl (by omega) (by decide) ?_
              refine qG.blk 1 (pc' := 54) (ls' := [(2, 41), (0, ((f9 : Nat) : Int)), (0, ((t9 : Nat) : Int)), (0, bc), (9, 0)]) (st' := [(0, w 42 f9), (0, ((t9 : Nat) : Int)), (2, 42)]) (w' := w) (n' := 142) rfl ?_
              refine qG.ar (P := 0 ≤ ((t9 : Nat) : Int) ∧ ((t9 : Nat) : Int) < ((64 : Nat) : Int)) (P2 := 0 < (42 : Int) ∧ (42 : Int) ≤ ((142 : Nat) : Int)) (pc' := 55) (ls' := [(2, 41), (0, ((f9 : Nat) : Int)), (0, ((t9 : Nat) : Int)), (0, bc), (9, 0)]) (st' := []) (w' := (qup w 42 t9 (w 42 f9))) (n' := 142) rfl (by omega) (by decide) ?_
              refine qG.blk 2 (pc' := 59) (ls' := [(2, 41), (0, ((f9 : Nat) : Int)), (0, ((t9 : Nat) : Int)), (0, bc), (9, 0)]) (st' := [(2, w 41 0)]) (w' := (qup w 42 t9 (w 42 f9))) (n' := 142) rfl ?_
              rw [show w 41 0 = 42 from zref hI rfl rfl]
              refine qG.blk 2 (pc' := 61) (ls' := [(2, 41), (0, ((f9 : Nat) : Int)), (0, ((t9 : Nat) : Int)), (0, bc), (9, 0)]) (st' := [(0, 0), (0, ((f9 : Nat) : Int)), (2, 42)]) (w' := (qup w 42 t9 (w 42 f9))) (n' := 142) rfl ?_
              refine qG.ar (P := 0 ≤ ((f9 : Nat) : Int) ∧ ((f9 : Nat) : Int) < ((64 : Nat) : Int)) (P2 := 0 < (42 : Int) ∧ (42 : Int) ≤ ((142 : Nat) : Int)) (pc' := 62) (ls' := [(2, 41), (0, ((f9 : Nat) : Int)), (0, ((t9 : Nat) : Int)), (0, bc), (9, 0)]) (st' := []) (w' := (qup (qup w 42 t9 (w 42 f9)) 42 f9 0)) (n' := 142) rfl (by omega) (by decide) ?_
              refine qG.blk 2 (pc' := 66) (ls' := [(2, 41), (0, ((f9 : Nat) : Int)), (0, ((t9 : Nat) : Int)), (0, bc), (9, 0)]) (st' := [(2, w 41 1)]) (w' := (qup (qup w 42 t9 (w 42 f9)) 42 f9 0)) (n' := 142) rfl ?_
              rw [show w 41 1 = 43 from zref hI rfl rfl]
              refine qG.blk 1 (pc' := 67) (ls' := [(2, 41), (0, ((f9 : Nat) : Int)), (0, ((t9 : Nat) : Int)), (0, bc), (9, 0)]) (st' := [(0, ((f9 : Nat) : Int)), (2, 43)]) (w' := (qup (qup w 42 t9 (w 42 f9)) 42 f9 0)) (n' := 142) rfl ?_
              refine qG.ar (P := 0 ≤ ((f9 : Nat) : Int) ∧ ((f9 : Nat) : Int) < ((64 : Nat) : Int)) (P2 := 0 < (43 : Int) ∧ (43 : Int) ≤ ((142 : Nat) : Int)) (pc' := 68) (ls' := [(2, 41), (0, ((f9 : Nat) : Int)), (0, ((t9 : Nat) : Int)), (0, bc), (9, 0)]) (st' := [(0, w 43 f9)]) (w' := (qup (qup w 42 t9 (w 42 f9)) 42 f9 0)) (n' := 142) rfl (by omega) (by decide) ?_
              refine qG.blk 3 (pc' := 74) (ls' := [(2, 41), (0, ((f9 : Nat) : Int)), (0, ((t9 : Nat) : Int)), (0, bc), (0, w 43 f9)]) (st' := [(2, w 41 2)]) (w' := (qup (qup w 42 t9 (w 42 f9)) 42 f9 0)) (n' := 142) rfl ?_
              rw [show w 41 2 = 44 from zref hI rfl rfl]
              refine qG.blk 1 (pc' := 75) (ls' := [(2, 41), (0, ((f9 : Nat) : Int)), (0, ((t9 : Nat) : Int)), (0, bc), (0, w 43 f9)]) (st' := [(0, ((f9 : Nat) : Int)), (2, 44)]) (w' := (qup (qup w 42 t9 (w 42 f9)) 42 f9 0)) (n' := 142) rfl ?_
              refine qG.ar (P := 0 ≤ ((f9 : Nat) : Int) ∧ ((f9 : Nat) : Int) < ((64 : Nat) : Int)) (P2 := 0 < (44 : Int) ∧ (44 : Int) ≤ ((142 : Nat) : Int)) (pc' := 76) (ls' := [(2, 41), (0, ((f9 : Nat) : Int)), (0, ((t9 : Nat) : Int)), (0, bc), (0, w 43 f9)]) (st' := [(0, w 44 f9)]) (w' := (qup (qup w 42 t9 (w 42 f9)) 42 f9 0)) (n' := 142) rfl (by omega) (by decide) ?_
              refine qG.br (P := w 44 f9 = 0) (pc1 := 79) (pc2 := 86) (st1 := []) rfl (fun h6 => ?_) (fun h6 => ?_)
              · skip
                refine qG.blk 2 (pc' := 83) (ls' := [(2, 41), (0, ((f9 : Nat) : Int)), (0, ((t9 : Nat) : Int)), (0, bc), (0, w 43 f9)]) (st' := [(2, w 41 1)]) (w' := (qup (qup w 42 t9 (w 42 f9)) 42 f9 0)) (n' := 142) rfl ?_
                rw [show w 41 1 = 43 from zref hI rfl rfl]
                refine qG.blk 2 (pc' := 85) (ls' := [(2, 41), (0, ((f9 : Nat) : Int)), (0, ((t9 : Nat) : Int)), (0, bc), (0, w 43 f9)]) (st' := [(0, 0), (0, ((f9 : Nat) : Int)), (2, 43)]) (w' := (qup (qup w 42 t9 (w 42 f9)) 42 f9 0)) (n' := 142) rfl ?_
                refine qG.ar (P := 0 ≤ ((f9 : Nat) : Int) ∧ ((f9 : Nat) : Int) < ((64 : Nat) : Int)) (P2 := 0 < (43 : Int) ∧ (43 : Int) ≤ ((142 : Nat) : Int)) (pc' := 86) (ls' := [(2, 41), (0, ((f9 : Nat) : Int)), (0, ((t9 : Nat) : Int)), (0, bc), (0, w 43 f9)]) (st' := []) (w' := (qup (qup (qup w 42 t9 (w 42 f9)) 42 f9 0) 43 f9 0)) (n' := 142) rfl (by omega) (by decide) ?_
                refine qG.blk 2 (pc' := 90) (ls' := [(2, 41), (0, ((f9 : Nat) : Int)), (0, ((t9 : Nat) : Int)), (0, bc), (0, w 43 f9)]) (st' := [(2, w 41 2)]) (w' := (qup (qup (qup w 42 t9 (w 42 f9)) 42 f9 0) 43 f9 0)) (n' := 142) rfl ?_
                rw [show w 41 2 = 44 from zref hI rfl rfl]
                refine qG.blk 1 (pc' := 91) (ls' := [(2, 41), (0, ((f9 : Nat) : Int)), (0, ((t9 : Nat) : Int)), (0, bc), (0, w 43 f9)]) (st' := [(0, ((t9 : Nat) : Int)), (2, 44)]) (w' := (qup (qup (qup w 42 t9 (w 42 f9)) 42 f9 0) 43 f9 0)) (n' := 142) rfl ?_
                refine qG.ar (P := 0 ≤ ((t9 : Nat) : Int) ∧ ((t9 : Nat) : Int) < ((64 : Nat) : Int)) (P2 := 0 < (44 : Int) ∧ (44 : Int) ≤ ((142 : Nat) : Int)) (pc' := 92) (ls' := [(2, 41), (0, ((f9 : Nat) : Int)), (0, ((t9 : Nat) : Int)), (0, bc), (0, w 43 f9)]) (st' := [(0, w 44 t9)]) (w' := (qup (qup (qup w 42 t9 (w 42 f9)) 42 f9 0) 43 f9 0)) (n' := 142) rfl (by omega) (by decide) ?_
                refine qG.br (P := w 44 t9 = 0) (pc1 := 95) (pc2 := 122) (st1 := []) rfl (fun h7 => ?_) (fun h7 => ?_)
                · skip
                  refine qG.blk 2 (pc' := 99) (ls' := [(2, 41), (0, ((f9 : Nat) : Int)), (0, ((t9 : Nat) : Int)), (0, bc), (0, w 43 f9)]) (st' := [(2, w 41 1)]) (w' := (qup (qup (qup w 42 t9 (w 42 f9)) 42 f9 0) 43 f9 0)) (n' := 142) rfl ?_
                  rw [show w 41 1 = 43 from zref hI rfl rfl]
                  refine qG.blk 3 (pc' := 104) (ls' := [(2, 41), (0, ((f9 : Nat) : Int)), (0, ((t9 : Nat) : Int)), (0, bc), (0, w 43 f9)]) (st' := [(2, w 41 2), (0, ((t9 : Nat) : Int)), (2, 43)]) (w' := (qup (qup (qup w 42 t9 (w 42 f9)) 42 f9 0) 43 f9 0)) (n' := 142) rfl ?_
                  rw [show w 41 2 = 44 from zref hI rfl rfl]
                  refine qG.blk 1 (pc' := 105) (ls' := [(2, 41), (0, ((f9 : Nat) : Int)), (0, ((t9 : Nat) : Int)), (0, bc), (0, w 43 f9)]) (st' := [(0, ((f9 : Nat) : Int)), (2, 44), (0, ((t9 : Nat) : Int)), (2, 43)]) (w' := (qup (qup (qup w 42 t9 (w 42 f9)) 42 f9 0) 43 f9 0)) (n' := 142) rfl ?_
                  refine qG.ar (P := 0 ≤ ((f9 : Nat) : Int) ∧ ((f9 : Nat) : Int) < ((64 : Nat) : Int)) (P2 := 0 < (44 : Int) ∧ (44 : Int) ≤ ((142 : Nat) : Int)) (pc' := 106) (ls' := [(2, 41), (0, ((f9 : Nat) : Int)), (0, ((t9 : Nat) : Int)), (0, bc), (0, w 43 f9)]) (st' := [(0, w 44 f9), (0, ((t9 : Nat) : Int)), (2, 43)]) (w' := (qup (qup (qup w 42 t9 (w 42 f9)) 42 f9 0) 43 f9 0)) (n' := 142) rfl (by omega) (by decide) ?_
                  refine qG.br (P := w 44 f9 = 0) (pc1 := 109) (pc2 := 119) (st1 := [(0, ((t9 : Nat) : Int)), (2, 43)]) rfl (fun h8 => ?_) (fun h8 => ?_)
                  · skip
                    refine qG.blk 1 (pc' := 111) (ls' := [(2, 41), (0, ((f9 : Nat) : Int)), (0, ((t9 : Nat) : Int)), (0, bc), (0, w 43 f9)]) (st' := [(0, w 43 f9), (0, ((t9 : Nat) : Int)), (2, 43)]) (w' := (qup (qup (qup w 42 t9 (w 42 f9)) 42 f9 0) 43 f9 0)) (n' := 142) rfl ?_
                    refine qG.br (P := w 43 f9 = 0) (pc1 := 119) (pc2 := 114) (st1 := [(0, ((t9 : Nat) : Int)), (2, 43)]) rfl (fun h9 => ?_) (fun h9 => ?_)
                    · skip
                      refine qG.blk 1 (pc' := 121) (ls' := [(2, 41), (0, ((f9 : Nat) : Int)), (0, ((t9 : Nat) : Int)), (0, bc), (0, w 43 f9)]) (st' := [(0, 13), (0, ((t9 : Nat) : Int)), (2, 43)]) (w' := (qup (qup (qup w 42 t9 (w 42 f9)) 42 f9 0) 43 f9 0)) (n' := 142) rfl ?_
                      refine qG.ar (P := 0 ≤ ((t9 : Nat) : Int) ∧ ((t9 : Nat) : Int) < ((64 : Nat) : Int)) (P2 := 0 < (43 : Int) ∧ (43 : Int) ≤ ((142 : Nat) : Int)) (pc' := 122) (ls' := [(2, 41), (0, ((f9 : Nat) : Int)), (0, ((t9 : Nat) : Int)), (0, bc), (0, w 43 f9)]) (st' := []) (w' := (qup (qup (qup (qup w 42 t9 (w 42 f9)) 42 f9 0) 43 f9 0) 43 t9 13)) (n' := 142) rfl (by omega) (by decide) ?_
                      refine qG.blk 1 (pc' := 123) (ls' := [(2, 41), (0, ((f9 : Nat) : Int)), (0, ((t9 : Nat) : Int)), (0, bc), (0, w 43 f9)]) (st' := [(0, 1)]) (w' := (qup (qup (qup (qup w 42 t9 (w 42 f9)) 42 f9 0) 43 f9 0) 43 t9 13)) (n' := 142) rfl ?_
                      refine qG.ret rfl (by first | rfl | exact decide_eq_true (by omega)) ?_
                      subst hQ9
                      exact ⟨rfl, by first | (exfalso; omega) | exact .inl ⟨by unfold movC; first | omega | (simp only [Int.toNat_natCast]; omega), rfl, rfl⟩ | exact .inr ⟨by unfold movC; first | omega | (simp only [Int.toNat_natCast]; omega), rfl, (fun j => by unfold nbF; (try simp (disch := decide) only [qup_ne, qup_if, Int.toNat_natCast]) <;> (repeat' split) <;> first | rfl | omega), (fun j => by unfold nkF; (try simp (disch := decide) only [qup_ne, qup_if, Int.toNat_natCast]) <;> (repeat' split) <;> first | rfl | omega), (fun j => by (try simp (disch := decide) only [qup_ne, qup_if, Int.toNat_natCast]) <;> (try rfl) <;> (repeat' split) <;> first | rfl | omega)⟩⟩
                    · skip
                      refine qG.blk 2 (pc' := 121) (ls' := [(2, 41), (0, ((f9 : Nat) : Int)), (0, ((t9 : Nat) : Int)), (0, bc), (0, w 43 f9)]) (st' := [(0, w 43 f9), (0, ((t9 : Nat) : Int)), (2, 43)]) (w' := (qup (qup (qup w 42 t9 (w 42 f9)) 42 f9 0) 43 f9 0)) (n' := 142) rfl ?_
                      refine qG.ar (P := 0 ≤ ((t9 : Nat) : Int) ∧ ((t9 : Nat) : Int) < ((64 : Nat) : Int)) (P2 := 0 < (43 : Int) ∧ (43 : Int) ≤ ((142 : Nat) : Int)) (pc' := 122) (ls' := [(2, 41), (0, ((f9 : Nat) : Int)), (0, ((t9 : Nat) : Int)), (0, bc), (0, w 43 f9)]) (st' := []) (w' := (qup (qup (qup (qup w 42 t9 (w 42 f9)) 42 f9 0) 43 f9 0) 43 t9 (w 43 f9))) (n' := 142) rfl (by omega) (by decide) ?_
                      refine qG.blk 1 (pc' := 123) (ls' := [(2, 41), (0, ((f9 : Nat) : Int)), (0, ((t9 : Nat) : Int)), (0, bc), (0, w 43 f9)]) (st' := [(0, 1)]) (w' := (qup (qup (qup (qup w 42 t9 (w 42 f9)) 42 f9 0) 43 f9 0) 43 t9 (w 43 f9))) (n' := 142) rfl ?_
                      refine qG.ret rfl (by first | rfl | exact decide_eq_true (by omega)) ?_
                      subst hQ9
                      exact ⟨rfl, by first | (exfalso; omega) | exact .inl ⟨by unfold movC; first | omega | (simp only [Int.toNat_natCast]; omega), rfl, rfl⟩ | exact .inr ⟨by unfold movC; first | omega | (simp only [Int.toNat_natCast]; omega), rfl, (fun j => by unfold nbF; (try simp (disch := decide) only [qup_ne, qup_if, Int.toNat_natCast]) <;> (repeat' split) <;> first | rfl | omega), (fun j => by unfold nkF; (try simp (disch := decide) only [qup_ne, qup_if, Int.toNat_natCast]) <;> (repeat' split) <;> first | rfl | omega), (fun j => by (try simp (disch := decide) only [qup_ne, qup_if, Int.toNat_natCast]) <;> (try rfl) <;> (repeat' split) <;> first | rfl | omega)⟩⟩
                  · skip
                    refine qG.blk 1 (pc' := 121) (ls' := [(2, 41), (0, ((f9 : Nat) : Int)), (0, ((t9 : Nat) : Int)), (0, bc), (0, w 43 f9)]) (st' := [(0, 13), (0, ((t9 : Nat) : Int)), (2, 43)]) (w' := (qup (qup (qup w 42 t9 (w 42 f9)) 42 f9 0) 43 f9 0)) (n' := 142) rfl ?_
                    refine qG.ar (P := 0 ≤ ((t9 : Nat) : Int) ∧ ((t9 : Nat) : Int) < ((64 : Nat) : Int)) (P2 := 0 < (43 : Int) ∧ (43 : Int) ≤ ((142 : Nat) : Int)) (pc' := 122) (ls' := [(2, 41), (0, ((f9 : Nat) : Int)), (0, ((t9 : Nat) : Int)), (0, bc), (0, w 43 f9)]) (st' := []) (w' := (qup (qup (qup (qup w 42 t9 (w 42 f9)) 42 f9 0) 43 f9 0) 43 t9 13)) (n' := 142) rfl (by omega) (by decide) ?_
                    refine qG.blk 1 (pc' := 123) (ls' := [(2, 41), (0, ((f9 : Nat) : Int)), (0, ((t9 : Nat) : Int)), (0, bc), (0, w 43 f9)]) (st' := [(0, 1)]) (w' := (qup (qup (qup (qup w 42 t9 (w 42 f9)) 42 f9 0) 43 f9 0) 43 t9 13)) (n' := 142) rfl ?_
                    refine qG.ret rfl (by first | rfl | exact decide_eq_true (by omega)) ?_
                    subst hQ9
                    exact ⟨rfl, by first | (exfalso; omega) | exact .inl ⟨by unfold movC; first | omega | (simp only [Int.toNat_natCast]; omega), rfl, rfl⟩ | exact .inr ⟨by unfold movC; first | omega | (simp only [Int.toNat_natCast]; omega), rfl, (fun j => by unfold nbF; (try simp (disch := decide) only [qup_ne, qup_if, Int.toNat_natCast]) <;> (repeat' split) <;> first | rfl | omega), (fun j => by unfold nkF; (try simp (disch := decide) only [qup_ne, qup_if, Int.toNat_natCast]) <;> (repeat' split) <;> first | rfl | omega), (fun j => by (try simp (disch := decide) only [qup_ne, qup_if, Int.toNat_natCast]) <;> (try rfl) <;> (repeat' split) <;> first | rfl | omega)⟩⟩
                · skip
                  refine qG.blk 1 (pc' := 123) (ls' := [(2, 41), (0, ((f9 : Nat) : Int)), (0, ((t9 : Nat) : Int)), (0, bc), (0, w 43 f9)]) (st' := [(0, 1)]) (w' := (qup (qup (qup w 42 t9 (w 42 f9)) 42 f9 0) 43 f9 0)) (n' := 142) rfl ?_
                  refine qG.ret rfl (by first | rfl | exact decide_eq_true (by omega)) ?_
                  subst hQ9
                  exact ⟨rfl, by first | (exfalso; omega) | exact .inl ⟨by unfold movC; first | omega | (simp only [Int.toNat_natCast]; omega), rfl, rfl⟩ | exact .inr ⟨by unfold movC; first | omega | (simp only [Int.toNat_natCast]; omega), rfl, (fun j => by unfold nbF; (try simp (disch := decide) only [qup_ne, qup_if, Int.toNat_natCast]) <;> (repeat' split) <;> first | rfl | omega), (fun j => by unfold nkF; (try simp (disch := decide) only [qup_ne, qup_if, Int.toNat_natCast]) <;> (repeat' split) <;> first | rfl | omega), (fun j => by (try simp (disch := decide) only [qup_ne, qup_if, Int.toNat_natCast]) <;> (try rfl) <;> (repeat' split) <;> first | rfl | omega)⟩⟩
              · skip
                refine qG.blk 2 (pc' := 90) (ls' := [(2, 41), (0, ((f9 : Nat) : Int)), (0, ((t9 : Nat) : Int)), (0, bc), (0, w 43 f9)]) (st' := [(2, w 41 2)]) (w' := (qup (qup w 42 t9 (w 42 f9)) 42 f9 0)) (n' := 142) rfl ?_
                rw [show w 41 2 = 44 from zref hI rfl rfl]
                refine qG.blk 1 (pc' := 91) (ls' := [(2, 41), (0, ((f9 : Nat) : Int)), (0, ((t9 : Nat) : Int)), (0, bc), (0, w 43 f9)]) (st' := [(0, ((t9 : Nat) : Int)), (2, 44)]) (w' := (qup (qup w 42 t9 (w 42 f9)) 42 f9 0)) (n' := 142) rfl ?_
                refine qG.ar (P := 0 ≤ ((t9 : Nat) : Int) ∧ ((t9 : Nat) : Int) < ((64 : Nat) : Int)) (P2 := 0 < (44 : Int) ∧ (44 : Int) ≤ ((142 : Nat) : Int)) (pc' := 92) (ls' := [(2, 41), (0, ((f9 : Nat) : Int)), (0, ((t9 : Nat) : Int)), (0, bc), (0, w 43 f9)]) (st' := [(0, w 44 t9)]) (w' := (qup (qup w 42 t9 (w 42 f9)) 42 f9 0)) (n' := 142) rfl (by omega) (by decide) ?_
                refine qG.br (P := w 44 t9 = 0) (pc1 := 95) (pc2 := 122) (st1 := []) rfl (fun h10 => ?_) (fun h10 => ?_)
                · skip
                  refine qG.blk 2 (pc' := 99) (ls' := [(2, 41), (0, ((f9 : Nat) : Int)), (0, ((t9 : Nat) : Int)), (0, bc), (0, w 43 f9)]) (st' := [(2, w 41 1)]) (w' := (qup (qup w 42 t9 (w 42 f9)) 42 f9 0)) (n' := 142) rfl ?_
                  rw [show w 41 1 = 43 from zref hI rfl rfl]
                  refine qG.blk 3 (pc' := 104) (ls' := [(2, 41), (0, ((f9 : Nat) : Int)), (0, ((t9 : Nat) : Int)), (0, bc), (0, w 43 f9)]) (st' := [(2, w 41 2), (0, ((t9 : Nat) : Int)), (2, 43)]) (w' := (qup (qup w 42 t9 (w 42 f9)) 42 f9 0)) (n' := 142) rfl ?_
                  rw [show w 41 2 = 44 from zref hI rfl rfl]
                  refine qG.blk 1 (pc' := 105) (ls' := [(2, 41), (0, ((f9 : Nat) : Int)), (0, ((t9 : Nat) : Int)), (0, bc), (0, w 43 f9)]) (st' := [(0, ((f9 : Nat) : Int)), (2, 44), (0, ((t9 : Nat) : Int)), (2, 43)]) (w' := (qup (qup w 42 t9 (w 42 f9)) 42 f9 0)) (n' := 142) rfl ?_
                  refine qG.ar (P := 0 ≤ ((f9 : Nat) : Int) ∧ ((f9 : Nat) : Int) < ((64 : Nat) : Int)) (P2 := 0 < (44 : Int) ∧ (44 : Int) ≤ ((142 : Nat) : Int)) (pc' := 106) (ls' := [(2, 41), (0, ((f9 : Nat) : Int)), (0, ((t9 : Nat) : Int)), (0, bc), (0, w 43 f9)]) (st' := [(0, w 44 f9), (0, ((t9 : Nat) : Int)), (2, 43)]) (w' := (qup (qup w 42 t9 (w 42 f9)) 42 f9 0)) (n' := 142) rfl (by omega) (by decide) ?_
                  refine qG.br (P := w 44 f9 = 0) (pc1 := 109) (pc2 := 119) (st1 := [(0, ((t9 : Nat) : Int)), (2, 43)]) rfl (fun h11 => ?_) (fun h11 => ?_)
                  · skip
                    refine qG.blk 1 (pc' := 111) (ls' := [(2, 41), (0, ((f9 : Nat) : Int)), (0, ((t9 : Nat) : Int)), (0, bc), (0, w 43 f9)]) (st' := [(0, w 43 f9), (0, ((t9 : Nat) : Int)), (2, 43)]) (w' := (qup (qup w 42 t9 (w 42 f9)) 42 f9 0)) (n' := 142) rfl ?_
                    refine qG.br (P := w 43 f9 = 0) (pc1 := 119) (pc2 := 114) (st1 := [(0, ((t9 : Nat) : Int)), (2, 43)]) rfl (fun h12 => ?_) (fun h12 => ?_)
                    · skip
                      refine qG.blk 1 (pc' := 121) (ls' := [(2, 41), (0, ((f9 : Nat) : Int)), (0, ((t9 : Nat) : Int)), (0, bc), (0, w 43 f9)]) (st' := [(0, 13), (0, ((t9 : Nat) : Int)), (2, 43)]) (w' := (qup (qup w 42 t9 (w 42 f9)) 42 f9 0)) (n' := 142) rfl ?_
                      refine qG.ar (P := 0 ≤ ((t9 : Nat) : Int) ∧ ((t9 : Nat) : Int) < ((64 : Nat) : Int)) (P2 := 0 < (43 : Int) ∧ (43 : Int) ≤ ((142 : Nat) : Int)) (pc' := 122) (ls' := [(2, 41), (0, ((f9 : Nat) : Int)), (0, ((t9 : Nat) : Int)), (0, bc), (0, w 43 f9)]) (st' := []) (w' := (qup (qup (qup w 42 t9 (w 42 f9)) 42 f9 0) 43 t9 13)) (n' := 142) rfl (by omega) (by decide) ?_
                      refine qG.blk 1 (pc' := 123) (ls' := [(2, 41), (0, ((f9 : Nat) : Int)), (0, ((t9 : Nat) : Int)), (0, bc), (0, w 43 f9)]) (st' := [(0, 1)]) (w' := (qup (qup (qup w 42 t9 (w 42 f9)) 42 f9 0) 43 t9 13)) (n' := 142) rfl ?_
                      refine qG.ret rfl (by first | rfl | exact decide_eq_true (by omega)) ?_
                      subst hQ9
                      exact ⟨rfl, by first | (exfalso; omega) | exact .inl ⟨by unfold movC; first | omega | (simp only [Int.toNat_natCast]; omega), rfl, rfl⟩ | exact .inr ⟨by unfold movC; first | omega | (simp only [Int.toNat_natCast]; omega), rfl, (fun j => by unfold nbF; (try simp (disch := decide) only [qup_ne, qup_if, Int.toNat_natCast]) <;> (repeat' split) <;> first | rfl | omega), (fun j => by unfold nkF; (try simp (disch := decide) only [qup_ne, qup_if, Int.toNat_natCast]) <;> (repeat' split) <;> first | rfl | omega), (fun j => by (try simp (disch := decide) only [qup_ne, qup_if, Int.toNat_natCast]) <;> (try rfl) <;> (repeat' split) <;> first | rfl | omega)⟩⟩
                    · skip
                      refine qG.blk 2 (pc' := 121) (ls' := [(2, 41), (0, ((f9 : Nat) : Int)), (0, ((t9 : Nat) : Int)), (0, bc), (0, w 43 f9)]) (st' := [(0, w 43 f9), (0, ((t9 : Nat) : Int)), (2, 43)]) (w' := (qup (qup w 42 t9 (w 42 f9)) 42 f9 0)) (n' := 142) rfl ?_
                      refine qG.ar (P := 0 ≤ ((t9 : Nat) : Int) ∧ ((t9 : Nat) : Int) < ((64 : Nat) : Int)) (P2 := 0 < (43 : Int) ∧ (43 : Int) ≤ ((142 : Nat) : Int)) (pc' := 122) (ls' := [(2, 41), (0, ((f9 : Nat) : Int)), (0, ((t9 : Nat) : Int)), (0, bc), (0, w 43 f9)]) (st' := []) (w' := (qup (qup (qup w 42 t9 (w 42 f9)) 42 f9 0) 43 t9 (w 43 f9))) (n' := 142) rfl (by omega) (by decide) ?_
                      refine qG.blk 1 (pc' := 123) (ls' := [(2, 41), (0, ((f9 : Nat) : Int)), (0, ((t9 : Nat) : Int)), (0, bc), (0, w 43 f9)]) (st' := [(0, 1)]) (w' := (qup (qup (qup w 42 t9 (w 42 f9)) 42 f9 0) 43 t9 (w 43 f9))) (n' := 142) rfl ?_
                      refine qG.ret rfl (by first | rfl | exact decide_eq_true (by omega)) ?_
                      subst hQ9
                      exact ⟨rfl, by first | (exfalso; omega) | exact .inl ⟨by unfold movC; first | omega | (simp only [Int.toNat_natCast]; omega), rfl, rfl⟩ | exact .inr ⟨by unfold movC; first | omega | (simp only [Int.toNat_natCast]; omega), rfl, (fun j => by unfold nbF; (try simp (disch := decide) only [qup_ne, qup_if, Int.toNat_natCast]) <;> (repeat' split) <;> first | rfl | omega), (fun j => by unfold nkF; (try simp (disch := decide) only [qup_ne, qup_if, Int.toNat_natCast]) <;> (repeat' split) <;> first | rfl | omega), (fun j => by (try simp (disch := decide) only [qup_ne, qup_if, Int.toNat_natCast]) <;> (try rfl) <;> (repeat' split) <;> first | rfl | omega)⟩⟩
                  · skip
                    refine qG.blk 1 (pc' := 121) (ls' := [(2, 41), (0, ((f9 : Nat) : Int)), (0, ((t9 : Nat) : Int)), (0, bc), (0, w 43 f9)]) (st' := [(0, 13), (0, ((t9 : Nat) : Int)), (2, 43)]) (w' := (qup (qup w 42 t9 (w 42 f9)) 42 f9 0)) (n' := 142) rfl ?_
                    refine qG.ar (P := 0 ≤ ((t9 : Nat) : Int) ∧ ((t9 : Nat) : Int) < ((64 : Nat) : Int)) (P2 := 0 < (43 : Int) ∧ (43 : Int) ≤ ((142 : Nat) : Int)) (pc' := 122) (ls' := [(2, 41), (0, ((f9 : Nat) : Int)), (0, ((t9 : Nat) : Int)), (0, bc), (0, w 43 f9)]) (st' := []) (w' := (qup (qup (qup w 42 t9 (w 42 f9)) 42 f9 0) 43 t9 13)) (n' := 142) rfl (by omega) (by decide) ?_
                    refine qG.blk 1 (pc' := 123) (ls' := [(2, 41), (0, ((f9 : Nat) : Int)), (0, ((t9 : Nat) : Int)), (0, bc), (0, w 43 f9)]) (st' := [(0, 1)]) (w' := (qup (qup (qup w 42 t9 (w 42 f9)) 42 f9 0) 43 t9 13)) (n' := 142) rfl ?_
                    refine qG.ret rfl (by first | rfl | exact decide_eq_true (by omega)) ?_
                    subst hQ9
                    exact ⟨rfl, by first | (exfalso; omega) | exact .inl ⟨by unfold movC; first | omega | (simp only [Int.toNat_natCast]; omega), rfl, rfl⟩ | exact .inr ⟨by unfold movC; first | omega | (simp only [Int.toNat_natCast]; omega), rfl, (fun j => by unfold nbF; (try simp (disch := decide) only [qup_ne, qup_if, Int.toNat_natCast]) <;> (repeat' split) <;> first | rfl | omega), (fun j => by unfold nkF; (try simp (disch := decide) only [qup_ne, qup_if, Int.toNat_natCast]) <;> (repeat' split) <;> first | rfl | omega), (fun j => by (try simp (disch := decide) only [qup_ne, qup_if, Int.toNat_natCast]) <;> (try rfl) <;> (repeat' split) <;> first | rfl | omega)⟩⟩
                · skip
                  refine qG.blk 1 (pc' := 123) (ls' := [(2, 41), (0, ((f9 : Nat) : Int)), (0, ((t9 : Nat) : Int)), (0, bc), (0, w 43 f9)]) (st' := [(0, 1)]) (w' := (qup (qup w 42 t9 (w 42 f9)) 42 f9 0)) (n' := 142) rfl ?_
                  refine qG.ret rfl (by first | rfl | exact decide_eq_true (by omega)) ?_
                  subst hQ9
                  exact ⟨rfl, by first | (exfalso; omega) | exact .inl ⟨by unfold movC; first | omega | (simp only [Int.toNat_natCast]; omega), rfl, rfl⟩ | exact .inr ⟨by unfold movC; first | omega | (simp only [Int.toNat_natCast]; omega), rfl, (fun j => by unfold nbF; (try simp (disch := decide) only [qup_ne, qup_if, Int.toNat_natCast]) <;> (repeat' split) <;> first | rfl | omega), (fun j => by unfold nkF; (try simp (disch := decide) only [qup_ne, qup_if, Int.toNat_natCast]) <;> (repeat' split) <;> first | rfl | omega), (fun j => by (try simp (disch := decide) only [qup_ne, qup_if, Int.toNat_natCast]) <;> (try rfl) <;> (repeat' split) <;> first | rfl | omega)⟩⟩
            · skip
              refine qG.blk 1 (pc' := 54) (ls' := [(2, 41), (0, ((f9 : Nat) : Int)), (0, ((t9 : Nat) : Int)), (0, bc), (9, 0)]) (st' := [(0, bc), (0, ((t9 : Nat) : Int)), (2, 42)]) (w' := w) (n' := 142) rfl ?_
              refine qG.ar (P := 0 ≤ ((t9 : Nat) : Int) ∧ ((t9 : Nat) : Int) < ((64 : Nat) : Int)) (P2 := 0 < (42 : Int) ∧ (42 : Int) ≤ ((142 : Nat) : Int)) (pc' := 55) (ls' := [(2, 41), (0, ((f9 : Nat) : Int)), (0, ((t9 : Nat) : Int)), (0, bc), (9, 0)]) (st' := []) (w' := (qup w 42 t9 bc)) (n' := 142) rfl (by omega) (by decide) ?_
              refine qG.blk 2 (pc' := 59) (ls' := [(2, 41), (0, ((f9 : Nat) : Int)), (0, ((t9 : Nat) : Int)), (0, bc), (9, 0)]) (st' := [(2, w 41 0)]) (w' := (qup w 42 t9 bc)) (n' := 142) rfl ?_
              rw [show w 41 0 = 42 from zref hI rfl rfl]
              refine qG.blk 2 (pc' := 61) (ls' := [(2, 41), (0, ((f9 : Nat) : Int)), (0, ((t9 : Nat) : Int)), (0, bc), (9, 0)]) (st' := [(0, 0), (0, ((f9 : Nat) : Int)), (2, 42)]) (w' := (qup w 42 t9 bc)) (n' := 142) rfl ?_
              refine qG.ar (P := 0 ≤ ((f9 : Nat) : Int) ∧ ((f9 : Nat) : Int) < ((64 : Nat) : Int)) (P2 := 0 < (42 : Int) ∧ (42 : Int) ≤ ((142 : Nat) : Int)) (pc' := 62) (ls' := [(2, 41), (0, ((f9 : Nat) : Int)), (0, ((t9 : Nat) : Int)), (0, bc), (9, 0)]) (st' := []) (w' := (qup (qup w 42 t9 bc) 42 f9 0)) (n' := 142) rfl (by omega) (by decide) ?_
              refine qG.blk 2 (pc' := 66) (ls' := [(2, 41), (0, ((f9 : Nat) : Int)), (0, ((t9 : Nat) : Int)), (0, bc), (9, 0)]) (st' := [(2, w 41 1)]) (w' := (qup (qup w 42 t9 bc) 42 f9 0)) (n' := 142) rfl ?_
              rw [show w 41 1 = 43 from zref hI rfl rfl]
              refine qG.blk 1 (pc' := 67) (ls' := [(2, 41), (0, ((f9 : Nat) : Int)), (0, ((t9 : Nat) : Int)), (0, bc), (9, 0)]) (st' := [(0, ((f9 : Nat) : Int)), (2, 43)]) (w' := (qup (qup w 42 t9 bc) 42 f9 0)) (n' := 142) rfl ?_
              refine qG.ar (P := 0 ≤ ((f9 : Nat) : Int) ∧ ((f9 : Nat) : Int) < ((64 : Nat) : Int)) (P2 := 0 < (43 : Int) ∧ (43 : Int) ≤ ((142 : Nat) : Int)) (pc' := 68) (ls' := [(2, 41), (0, ((f9 : Nat) : Int)), (0, ((t9 : Nat) : Int)), (0, bc), (9, 0)]) (st' := [(0, w 43 f9)]) (w' := (qup (qup w 42 t9 bc) 42 f9 0)) (n' := 142) rfl (by omega) (by decide) ?_
              refine qG.blk 3 (pc' := 74) (ls' := [(2, 41), (0, ((f9 : Nat) : Int)), (0, ((t9 : Nat) : Int)), (0, bc), (0, w 43 f9)]) (st' := [(2, w 41 2)]) (w' := (qup (qup w 42 t9 bc) 42 f9 0)) (n' := 142) rfl ?_
              rw [show w 41 2 = 44 from zref hI rfl rfl]
              refine qG.blk 1 (pc' := 75) (ls' := [(2, 41), (0, ((f9 : Nat) : Int)), (0, ((t9 : Nat) : Int)), (0, bc), (0, w 43 f9)]) (st' := [(0, ((f9 : Nat) : Int)), (2, 44)]) (w' := (qup (qup w 42 t9 bc) 42 f9 0)) (n' := 142) rfl ?_
              refine qG.ar (P := 0 ≤ ((f9 : Nat) : Int) ∧ ((f9 : Nat) : Int) < ((64 : Nat) : Int)) (P2 := 0 < (44 : Int) ∧ (44 : Int) ≤ ((142 : Nat) : Int)) (pc' := 76) (ls' := [(2, 41), (0, ((f9 : Nat) : Int)), (0, ((t9 : Nat) : Int)), (0, bc), (0, w 43 f9)]) (st' := [(0, w 44 f9)]) (w' := (qup (qup w 42 t9 bc) 42 f9 0)) (n' := 142) rfl (by omega) (by decide) ?_
              refine qG.br (P := w 44 f9 = 0) (pc1 := 79) (pc2 := 86) (st1 := []) rfl (fun h13 => ?_) (fun h13 => ?_)
              · skip
                refine qG.blk 2 (pc' := 83) (ls' := [(2, 41), (0, ((f9 : Nat) : Int)), (0, ((t9 : Nat) : Int)), (0, bc), (0, w 43 f9)]) (st' := [(2, w 41 1)]) (w' := (qup (qup w 42 t9 bc) 42 f9 0)) (n' := 142) rfl ?_
                rw [show w 41 1 = 43 from zref hI rfl rfl]
                refine qG.blk 2 (pc' := 85) (ls' := [(2, 41), (0, ((f9 : Nat) : Int)), (0, ((t9 : Nat) : Int)), (0, bc), (0, w 43 f9)]) (st' := [(0, 0), (0, ((f9 : Nat) : Int)), (2, 43)]) (w' := (qup (qup w 42 t9 bc) 42 f9 0)) (n' := 142) rfl ?_
                refine qG.ar (P := 0 ≤ ((f9 : Nat) : Int) ∧ ((f9 : Nat) : Int) < ((64 : Nat) : Int)) (P2 := 0 < (43 : Int) ∧ (43 : Int) ≤ ((142 : Nat) : Int)) (pc' := 86) (ls' := [(2, 41), (0, ((f9 : Nat) : Int)), (0, ((t9 : Nat) : Int)), (0, bc), (0, w 43 f9)]) (st' := []) (w' := (qup (qup (qup w 42 t9 bc) 42 f9 0) 43 f9 0)) (n' := 142) rfl (by omega) (by decide) ?_
                refine qG.blk 2 (pc' := 90) (ls' := [(2, 41), (0, ((f9 : Nat) : Int)), (0, ((t9 : Nat) : Int)), (0, bc), (0, w 43 f9)]) (st' := [(2, w 41 2)]) (w' := (qup (qup (qup w 42 t9 bc) 42 f9 0) 43 f9 0)) (n' := 142) rfl ?_
                rw [show w 41 2 = 44 from zref hI rfl rfl]
                refine qG.blk 1 (pc' := 91) (ls' := [(2, 41), (0, ((f9 : Nat) : Int)), (0, ((t9 : Nat) : Int)), (0, bc), (0, w 43 f9)]) (st' := [(0, ((t9 : Nat) : Int)), (2, 44)]) (w' := (qup (qup (qup w 42 t9 bc) 42 f9 0) 43 f9 0)) (n' := 142) rfl ?_
                refine qG.ar (P := 0 ≤ ((t9 : Nat) : Int) ∧ ((t9 : Nat) : Int) < ((64 : Nat) : Int)) (P2 := 0 < (44 : Int) ∧ (44 : Int) ≤ ((142 : Nat) : Int)) (pc' := 92) (ls' := [(2, 41), (0, ((f9 : Nat) : Int)), (0, ((t9 : Nat) : Int)), (0, bc), (0, w 43 f9)]) (st' := [(0, w 44 t9)]) (w' := (qup (qup (qup w 42 t9 bc) 42 f9 0) 43 f9 0)) (n' := 142) rfl (by omega) (by decide) ?_
                refine qG.br (P := w 44 t9 = 0) (pc1 := 95) (pc2 := 122) (st1 := []) rfl (fun h14 => ?_) (fun h14 => ?_)
                · skip
                  refine qG.blk 2 (pc' := 99) (ls' := [(2, 41), (0, ((f9 : Nat) : Int)), (0, ((t9 : Nat) : Int)), (0, bc), (0, w 43 f9)]) (st' := [(2, w 41 1)]) (w' := (qup (qup (qup w 42 t9 bc) 42 f9 0) 43 f9 0)) (n' := 142) rfl ?_
                  rw [show w 41 1 = 43 from zref hI rfl rfl]
                  refine qG.blk 3 (pc' := 104) (ls' := [(2, 41), (0, ((f9 : Nat) : Int)), (0, ((t9 : Nat) : Int)), (0, bc), (0, w 43 f9)]) (st' := [(2, w 41 2), (0, ((t9 : Nat) : Int)), (2, 43)]) (w' := (qup (qup (qup w 42 t9 bc) 42 f9 0) 43 f9 0)) (n' := 142) rfl ?_
                  rw [show w 41 2 = 44 from zref hI rfl rfl]
                  refine qG.blk 1 (pc' := 105) (ls' := [(2, 41), (0, ((f9 : Nat) : Int)), (0, ((t9 : Nat) : Int)), (0, bc), (0, w 43 f9)]) (st' := [(0, ((f9 : Nat) : Int)), (2, 44), (0, ((t9 : Nat) : Int)), (2, 43)]) (w' := (qup (qup (qup w 42 t9 bc) 42 f9 0) 43 f9 0)) (n' := 142) rfl ?_
                  refine qG.ar (P := 0 ≤ ((f9 : Nat) : Int) ∧ ((f9 : Nat) : Int) < ((64 : Nat) : Int)) (P2 := 0 < (44 : Int) ∧ (44 : Int) ≤ ((142 : Nat) : Int)) (pc' := 106) (ls' := [(2, 41), (0, ((f9 : Nat) : Int)), (0, ((t9 : Nat) : Int)), (0, bc), (0, w 43 f9)]) (st' := [(0, w 44 f9), (0, ((t9 : Nat) : Int)), (2, 43)]) (w' := (qup (qup (qup w 42 t9 bc) 42 f9 0) 43 f9 0)) (n' := 142) rfl (by omega) (by decide) ?_
                  refine qG.br (P := w 44 f9 = 0) (pc1 := 109) (pc2 := 119) (st1 := [(0, ((t9 : Nat) : Int)), (2, 43)]) rfl (fun h15 => ?_) (fun h15 => ?_)
                  · skip
                    refine qG.blk 1 (pc' := 111) (ls' := [(2, 41), (0, ((f9 : Nat) : Int)), (0, ((t9 : Nat) : Int)), (0, bc), (0, w 43 f9)]) (st' := [(0, w 43 f9), (0, ((t9 : Nat) : Int)), (2, 43)]) (w' := (qup (qup (qup w 42 t9 bc) 42 f9 0) 43 f9 0)) (n' := 142) rfl ?_
                    refine qG.br (P := w 43 f9 = 0) (pc1 := 119) (pc2 := 114) (st1 := [(0, ((t9 : Nat) : Int)), (2, 43)]) rfl (fun h16 => ?_) (fun h16 => ?_)
                    · skip
                      refine qG.blk 1 (pc' := 121) (ls' := [(2, 41), (0, ((f9 : Nat) : Int)), (0, ((t9 : Nat) : Int)), (0, bc), (0, w 43 f9)]) (st' := [(0, 13), (0, ((t9 : Nat) : Int)), (2, 43)]) (w' := (qup (qup (qup w 42 t9 bc) 42 f9 0) 43 f9 0)) (n' := 142) rfl ?_
                      refine qG.ar (P := 0 ≤ ((t9 : Nat) : Int) ∧ ((t9 : Nat) : Int) < ((64 : Nat) : Int)) (P2 := 0 < (43 : Int) ∧ (43 : Int) ≤ ((142 : Nat) : Int)) (pc' := 122) (ls' := [(2, 41), (0, ((f9 : Nat) : Int)), (0, ((t9 : Nat) : Int)), (0, bc), (0, w 43 f9)]) (st' := []) (w' := (qup (qup (qup (qup w 42 t9 bc) 42 f9 0) 43 f9 0) 43 t9 13)) (n' := 142) rfl (by omega) (by decide) ?_
                      refine qG.blk 1 (pc' := 123) (ls' := [(2, 41), (0, ((f9 : Nat) : Int)), (0, ((t9 : Nat) : Int)), (0, bc), (0, w 43 f9)]) (st' := [(0, 1)]) (w' := (qup (qup (qup (qup w 42 t9 bc) 42 f9 0) 43 f9 0) 43 t9 13)) (n' := 142) rfl ?_
                      refine qG.ret rfl (by first | rfl | exact decide_eq_true (by omega)) ?_
                      subst hQ9
                      exact ⟨rfl, by first | (exfalso; omega) | exact .inl ⟨by unfold movC; first | omega | (simp only [Int.toNat_natCast]; omega), rfl, rfl⟩ | exact .inr ⟨by unfold movC; first | omega | (simp only [Int.toNat_natCast]; omega), rfl, (fun j => by unfold nbF; (try simp (disch := decide) only [qup_ne, qup_if, Int.toNat_natCast]) <;> (repeat' split) <;> first | rfl | omega), (fun j => by unfold nkF; (try simp (disch := decide) only [qup_ne, qup_if, Int.toNat_natCast]) <;> (repeat' split) <;> first | rfl | omega), (fun j => by (try simp (disch := decide) only [qup_ne, qup_if, Int.toNat_natCast]) <;> (try rfl) <;> (repeat' split) <;> first | rfl | omega)⟩⟩
                    · skip
                      refine qG.blk 2 (pc' := 121) (ls' := [(2, 41), (0, ((f9 : Nat) : Int)), (0, ((t9 : Nat) : Int)), (0, bc), (0, w 43 f9)]) (st' := [(0, w 43 f9), (0, ((t9 : Nat) : Int)), (2, 43)]) (w' := (qup (qup (qup w 42 t9 bc) 42 f9 0) 43 f9 0)) (n' := 142) rfl ?_
                      refine qG.ar (P := 0 ≤ ((t9 : Nat) : Int) ∧ ((t9 : Nat) : Int) < ((64 : Nat) : Int)) (P2 := 0 < (43 : Int) ∧ (43 : Int) ≤ ((142 : Nat) : Int)) (pc' := 122) (ls' := [(2, 41), (0, ((f9 : Nat) : Int)), (0, ((t9 : Nat) : Int)), (0, bc), (0, w 43 f9)]) (st' := []) (w' := (qup (qup (qup (qup w 42 t9 bc) 42 f9 0) 43 f9 0) 43 t9 (w 43 f9))) (n' := 142) rfl (by omega) (by decide) ?_
                      refine qG.blk 1 (pc' := 123) (ls' := [(2, 41), (0, ((f9 : Nat) : Int)), (0, ((t9 : Nat) : Int)), (0, bc), (0, w 43 f9)]) (st' := [(0, 1)]) (w' := (qup (qup (qup (qup w 42 t9 bc) 42 f9 0) 43 f9 0) 43 t9 (w 43 f9))) (n' := 142) rfl ?_
                      refine qG.ret rfl (by first | rfl | exact decide_eq_true (by omega)) ?_
                      subst hQ9
                      exact ⟨rfl, by first | (exfalso; omega) | exact .inl ⟨by unfold movC; first | omega | (simp only [Int.toNat_natCast]; omega), rfl, rfl⟩ | exact .inr ⟨by unfold movC; first | omega | (simp only [Int.toNat_natCast]; omega), rfl, (fun j => by unfold nbF; (try simp (disch := decide) only [qup_ne, qup_if, Int.toNat_natCast]) <;> (repeat' split) <;> first | rfl | omega), (fun j => by unfold nkF; (try simp (disch := decide) only [qup_ne, qup_if, Int.toNat_natCast]) <;> (repeat' split) <;> first | rfl | omega), (fun j => by (try simp (disch := decide) only [qup_ne, qup_if, Int.toNat_natCast]) <;> (try rfl) <;> (repeat' split) <;> first | rfl | omega)⟩⟩
                  · skip
                    refine qG.blk 1 (pc' := 121) (ls' := [(2, 41), (0, ((f9 : Nat) : Int)), (0, ((t9 : Nat) : Int)), (0, bc), (0, w 43 f9)]) (st' := [(0, 13), (0, ((t9 : Nat) : Int)), (2, 43)]) (w' := (qup (qup (qup w 42 t9 bc) 42 f9 0) 43 f9 0)) (n' := 142) rfl ?_
                    refine qG.ar (P := 0 ≤ ((t9 : Nat) : Int) ∧ ((t9 : Nat) : Int) < ((64 : Nat) : Int)) (P2 := 0 < (43 : Int) ∧ (43 : Int) ≤ ((142 : Nat) : Int)) (pc' := 122) (ls' := [(2, 41), (0, ((f9 : Nat) : Int)), (0, ((t9 : Nat) : Int)), (0, bc), (0, w 43 f9)]) (st' := []) (w' := (qup (qup (qup (qup w 42 t9 bc) 42 f9 0) 43 f9 0) 43 t9 13)) (n' := 142) rfl (by omega) (by decide) ?_
                    refine qG.blk 1 (pc' := 123) (ls' := [(2, 41), (0, ((f9 : Nat) : Int)), (0, ((t9 : Nat) : Int)), (0, bc), (0, w 43 f9)]) (st' := [(0, 1)]) (w' := (qup (qup (qup (qup w 42 t9 bc) 42 f9 0) 43 f9 0) 43 t9 13)) (n' := 142) rfl ?_
                    refine qG.ret rfl (by first | rfl | exact decide_eq_true (by omega)) ?_
                    subst hQ9
                    exact ⟨rfl, by first | (exfalso; omega) | exact .inl ⟨by unfold movC; first | omega | (simp only [Int.toNat_natCast]; omega), rfl, rfl⟩ | exact .inr ⟨by unfold movC; first | omega | (simp only [Int.toNat_natCast]; omega), rfl, (fun j => by unfold nbF; (try simp (disch := decide) only [qup_ne, qup_if, Int.toNat_natCast]) <;> (repeat' split) <;> first | rfl | omega), (fun j => by unfold nkF; (try simp (disch := decide) only [qup_ne, qup_if, Int.toNat_natCast]) <;> (repeat' split) <;> first | rfl | omega), (fun j => by (try simp (disch := decide) only [qup_ne, qup_if, Int.toNat_natCast]) <;> (try rfl) <;> (repeat' split) <;> first | rfl | omega)⟩⟩
                · skip
                  refine qG.blk 1 (pc' := 123) (ls' := [(2, 41), (0, ((f9 : Nat) : Int)), (0, ((t9 : Nat) : Int)), (0, bc), (0, w 43 f9)]) (st' := [(0, 1)]) (w' := (qup (qup (qup w 42 t9 bc) 42 f9 0) 43 f9 0)) (n' := 142) rfl ?_
                  refine qG.ret rfl (by first | rfl | exact decide_eq_true (by omega)) ?_
                  subst hQ9
                  exact ⟨rfl, by first | (exfalso; omega) | exact .inl ⟨by unfold movC; first | omega | (simp only [Int.toNat_natCast]; omega), rfl, rfl⟩ | exact .inr ⟨by unfold movC; first | omega | (simp only [Int.toNat_natCast]; omega), rfl, (fun j => by unfold nbF; (try simp (disch := decide) only [qup_ne, qup_if, Int.toNat_natCast]) <;> (repeat' split) <;> first | rfl | omega), (fun j => by unfold nkF; (try simp (disch := decide) only [qup_ne, qup_if, Int.toNat_natCast]) <;> (repeat' split) <;> first | rfl | omega), (fun j => by (try simp (disch := decide) only [qup_ne, qup_if, Int.toNat_natCast]) <;> (try rfl) <;> (repeat' split) <;> first | rfl | omega)⟩⟩
              · skip
                refine qG.blk 2 (pc' := 90) (ls' := [(2, 41), (0, ((f9 : Nat) : Int)), (0, ((t9 : Nat) : Int)), (0, bc), (0, w 43 f9)]) (st' := [(2, w 41 2)]) (w' := (qup (qup w 42 t9 bc) 42 f9 0)) (n' := 142) rfl ?_
                rw [show w 41 2 = 44 from zref hI rfl rfl]
                refine qG.blk 1 (pc' := 91) (ls' := [(2, 41), (0, ((f9 : Nat) : Int)), (0, ((t9 : Nat) : Int)), (0, bc), (0, w 43 f9)]) (st' := [(0, ((t9 : Nat) : Int)), (2, 44)]) (w' := (qup (qup w 42 t9 bc) 42 f9 0)) (n' := 142) rfl ?_
                refine qG.ar (P := 0 ≤ ((t9 : Nat) : Int) ∧ ((t9 : Nat) : Int) < ((64 : Nat) : Int)) (P2 := 0 < (44 : Int) ∧ (44 : Int) ≤ ((142 : Nat) : Int)) (pc' := 92) (ls' := [(2, 41), (0, ((f9 : Nat) : Int)), (0, ((t9 : Nat) : Int)), (0, bc), (0, w 43 f9)]) (st' := [(0, w 44 t9)]) (w' := (qup (qup w 42 t9 bc) 42 f9 0)) (n' := 142) rfl (by omega) (by decide) ?_
                refine qG.br (P := w 44 t9 = 0) (pc1 := 95) (pc2 := 122) (st1 := []) rfl (fun h17 => ?_) (fun h17 => ?_)
                · skip
                  refine qG.blk 2 (pc' := 99) (ls' := [(2, 41), (0, ((f9 : Nat) : Int)), (0, ((t9 : Nat) : Int)), (0, bc), (0, w 43 f9)]) (st' := [(2, w 41 1)]) (w' := (qup (qup w 42 t9 bc) 42 f9 0)) (n' := 142) rfl ?_
                  rw [show w 41 1 = 43 from zref hI rfl rfl]
                  refine qG.blk 3 (pc' := 104) (ls' := [(2, 41), (0, ((f9 : Nat) : Int)), (0, ((t9 : Nat) : Int)), (0, bc), (0, w 43 f9)]) (st' := [(2, w 41 2), (0, ((t9 : Nat) : Int)), (2, 43)]) (w' := (qup (qup w 42 t9 bc) 42 f9 0)) (n' := 142) rfl ?_
                  rw [show w 41 2 = 44 from zref hI rfl rfl]
                  refine qG.blk 1 (pc' := 105) (ls' := [(2, 41), (0, ((f9 : Nat) : Int)), (0, ((t9 : Nat) : Int)), (0, bc), (0, w 43 f9)]) (st' := [(0, ((f9 : Nat) : Int)), (2, 44), (0, ((t9 : Nat) : Int)), (2, 43)]) (w' := (qup (qup w 42 t9 bc) 42 f9 0)) (n' := 142) rfl ?_
                  refine qG.ar (P := 0 ≤ ((f9 : Nat) : Int) ∧ ((f9 : Nat) : Int) < ((64 : Nat) : Int)) (P2 := 0 < (44 : Int) ∧ (44 : Int) ≤ ((142 : Nat) : Int)) (pc' := 106) (ls' := [(2, 41), (0, ((f9 : Nat) : Int)), (0, ((t9 : Nat) : Int)), (0, bc), (0, w 43 f9)]) (st' := [(0, w 44 f9), (0, ((t9 : Nat) : Int)), (2, 43)]) (w' := (qup (qup w 42 t9 bc) 42 f9 0)) (n' := 142) rfl (by omega) (by decide) ?_
                  refine qG.br (P := w 44 f9 = 0) (pc1 := 109) (pc2 := 119) (st1 := [(0, ((t9 : Nat) : Int)), (2, 43)]) rfl (fun h18 => ?_) (fun h18 => ?_)
                  · skip
                    refine qG.blk 1 (pc' := 111) (ls' := [(2, 41), (0, ((f9 : Nat) : Int)), (0, ((t9 : Nat) : Int)), (0, bc), (0, w 43 f9)]) (st' := [(0, w 43 f9), (0, ((t9 : Nat) : Int)), (2, 43)]) (w' := (qup (qup w 42 t9 bc) 42 f9 0)) (n' := 142) rfl ?_
                    refine qG.br (P := w 43 f9 = 0) (pc1 := 119) (pc2 := 114) (st1 := [(0, ((t9 : Nat) : Int)), (2, 43)]) rfl (fun h19 => ?_) (fun h19 => ?_)
                    · skip
                      refine qG.blk 1 (pc' := 121) (ls' := [(2, 41), (0, ((f9 : Nat) : Int)), (0, ((t9 : Nat) : Int)), (0, bc), (0, w 43 f9)]) (st' := [(0, 13), (0, ((t9 : Nat) : Int)), (2, 43)]) (w' := (qup (qup w 42 t9 bc) 42 f9 0)) (n' := 142) rfl ?_
                      refine qG.ar (P := 0 ≤ ((t9 : Nat) : Int) ∧ ((t9 : Nat) : Int) < ((64 : Nat) : Int)) (P2 := 0 < (43 : Int) ∧ (43 : Int) ≤ ((142 : Nat) : Int)) (pc' := 122) (ls' := [(2, 41), (0, ((f9 : Nat) : Int)), (0, ((t9 : Nat) : Int)), (0, bc), (0, w 43 f9)]) (st' := []) (w' := (qup (qup (qup w 42 t9 bc) 42 f9 0) 43 t9 13)) (n' := 142) rfl (by omega) (by decide) ?_
                      refine qG.blk 1 (pc' := 123) (ls' := [(2, 41), (0, ((f9 : Nat) : Int)), (0, ((t9 : Nat) : Int)), (0, bc), (0, w 43 f9)]) (st' := [(0, 1)]) (w' := (qup (qup (qup w 42 t9 bc) 42 f9 0) 43 t9 13)) (n' := 142) rfl ?_
                      refine qG.ret rfl (by first | rfl | exact decide_eq_true (by omega)) ?_
                      subst hQ9
                      exact ⟨rfl, by first | (exfalso; omega) | exact .inl ⟨by unfold movC; first | omega | (simp only [Int.toNat_natCast]; omega), rfl, rfl⟩ | exact .inr ⟨by unfold movC; first | omega | (simp only [Int.toNat_natCast]; omega), rfl, (fun j => by unfold nbF; (try simp (disch := decide) only [qup_ne, qup_if, Int.toNat_natCast]) <;> (repeat' split) <;> first | rfl | omega), (fun j => by unfold nkF; (try simp (disch := decide) only [qup_ne, qup_if, Int.toNat_natCast]) <;> (repeat' split) <;> first | rfl | omega), (fun j => by (try simp (disch := decide) only [qup_ne, qup_if, Int.toNat_natCast]) <;> (try rfl) <;> (repeat' split) <;> first | rfl | omega)⟩⟩
                    · skip
                      refine qG.blk 2 (pc' := 121) (ls' := [(2, 41), (0, ((f9 : Nat) : Int)), (0, ((t9 : Nat) : Int)), (0, bc), (0, w 43 f9)]) (st' := [(0, w 43 f9), (0, ((t9 : Nat) : Int)), (2, 43)]) (w' := (qup (qup w 42 t9 bc) 42 f9 0)) (n' := 142) rfl ?_
                      refine qG.ar (P := 0 ≤ ((t9 : Nat) : Int) ∧ ((t9 : Nat) : Int) < ((64 : Nat) : Int)) (P2 := 0 < (43 : Int) ∧ (43 : Int) ≤ ((142 : Nat) : Int)) (pc' := 122) (ls' := [(2, 41), (0, ((f9 : Nat) : Int)), (0, ((t9 : Nat) : Int)), (0, bc), (0, w 43 f9)]) (st' := []) (w' := (qup (qup (qup w 42 t9 bc) 42 f9 0) 43 t9 (w 43 f9))) (n' := 142) rfl (by omega) (by decide) ?_
                      refine qG.blk 1 (pc' := 123) (ls' := [(2, 41), (0, ((f9 : Nat) : Int)), (0, ((t9 : Nat) : Int)), (0, bc), (0, w 43 f9)]) (st' := [(0, 1)]) (w' := (qup (qup (qup w 42 t9 bc) 42 f9 0) 43 t9 (w 43 f9))) (n' := 142) rfl ?_
                      refine qG.ret rfl (by first | rfl | exact decide_eq_true (by omega)) ?_
                      subst hQ9
                      exact ⟨rfl, by first | (exfalso; omega) | exact .inl ⟨by unfold movC; first | omega | (simp only [Int.toNat_natCast]; omega), rfl, rfl⟩ | exact .inr ⟨by unfold movC; first | omega | (simp only [Int.toNat_natCast]; omega), rfl, (fun j => by unfold nbF; (try simp (disch := decide) only [qup_ne, qup_if, Int.toNat_natCast]) <;> (repeat' split) <;> first | rfl | omega), (fun j => by unfold nkF; (try simp (disch := decide) only [qup_ne, qup_if, Int.toNat_natCast]) <;> (repeat' split) <;> first | rfl | omega), (fun j => by (try simp (disch := decide) only [qup_ne, qup_if, Int.toNat_natCast]) <;> (try rfl) <;> (repeat' split) <;> first | rfl | omega)⟩⟩
                  · skip
                    refine qG.blk 1 (pc' := 121) (ls' := [(2, 41), (0, ((f9 : Nat) : Int)), (0, ((t9 : Nat) : Int)), (0, bc), (0, w 43 f9)]) (st' := [(0, 13), (0, ((t9 : Nat) : Int)), (2, 43)]) (w' := (qup (qup w 42 t9 bc) 42 f9 0)) (n' := 142) rfl ?_
                    refine qG.ar (P := 0 ≤ ((t9 : Nat) : Int) ∧ ((t9 : Nat) : Int) < ((64 : Nat) : Int)) (P2 := 0 < (43 : Int) ∧ (43 : Int) ≤ ((142 : Nat) : Int)) (pc' := 122) (ls' := [(2, 41), (0, ((f9 : Nat) : Int)), (0, ((t9 : Nat) : Int)), (0, bc), (0, w 43 f9)]) (st' := []) (w' := (qup (qup (qup w 42 t9 bc) 42 f9 0) 43 t9 13)) (n' := 142) rfl (by omega) (by decide) ?_
                    refine qG.blk 1 (pc' := 123) (ls' := [(2, 41), (0, ((f9 : Nat) : Int)), (0, ((t9 : Nat) : Int)), (0, bc), (0, w 43 f9)]) (st' := [(0, 1)]) (w' := (qup (qup (qup w 42 t9 bc) 42 f9 0) 43 t9 13)) (n' := 142) rfl ?_
                    refine qG.ret rfl (by first | rfl | exact decide_eq_true (by omega)) ?_
                    subst hQ9
                    exact ⟨rfl, by first | (exfalso; omega) | exact .inl ⟨by unfold movC; first | omega | (simp only [Int.toNat_natCast]; omega), rfl, rfl⟩ | exact .inr ⟨by unfold movC; first | omega | (simp only [Int.toNat_natCast]; omega), rfl, (fun j => by unfold nbF; (try simp (disch := decide) only [qup_ne, qup_if, Int.toNat_natCast]) <;> (repeat' split) <;> first | rfl | omega), (fun j => by unfold nkF; (try simp (disch := decide) only [qup_ne, qup_if, Int.toNat_natCast]) <;> (repeat' split) <;> first | rfl | omega), (fun j => by (try simp (disch := decide) only [qup_ne, qup_if, Int.toNat_natCast]) <;> (try rfl) <;> (repeat' split) <;> first | rfl | omega)⟩⟩
                · skip
                  refine qG.blk 1 (pc' := 123) (ls' := [(2, 41), (0, ((f9 : Nat) : Int)), (0, ((t9 : Nat) : Int)), (0, bc), (0, w 43 f9)]) (st' := [(0, 1)]) (w' := (qup (qup w 42 t9 bc) 42 f9 0)) (n' := 142) rfl ?_
                  refine qG.ret rfl (by first | rfl | exact decide_eq_true (by omega)) ?_
                  subst hQ9
                  exact ⟨rfl, by first | (exfalso; omega) | exact .inl ⟨by unfold movC; first | omega | (simp only [Int.toNat_natCast]; omega), rfl, rfl⟩ | exact .inr ⟨by unfold movC; first | omega | (simp only [Int.toNat_natCast]; omega), rfl, (fun j => by unfold nbF; (try simp (disch := decide) only [qup_ne, qup_if, Int.toNat_natCast]) <;> (repeat' split) <;> first | rfl | omega), (fun j => by unfold nkF; (try simp (disch := decide) only [qup_ne, qup_if, Int.toNat_natCast]) <;> (repeat' split) <;> first | rfl | omega), (fun j => by (try simp (disch := decide) only [qup_ne, qup_if, Int.toNat_natCast]) <;> (try rfl) <;> (repeat' split) <;> first | rfl | omega)⟩⟩
theorem K_X12_move {d : Nat} (hd : 2 ≤ d) (f t bc : Int) (w : qW) (hI : yInv zgf zga zra zSp w) : qG none d 277 0 [(2, 95), (0, f), (0, t), (0, bc), (9, 0)] [] w 142 (fun (r : qV) (w1 : qW) (n1 : Nat) => n1 = 142 ∧ movE 122 123 124 f t bc w r w1) := by
  generalize hQ9 : (fun (r : qV) (w1 : qW) (n1 : Nat) => n1 = 142 ∧ movE 122 123 124 f t bc w r w1) = Q9
  obtain ⟨d, rfl⟩ : ∃ d9, d = d9 + 1 := ⟨d - 1, by omega⟩
  refine qG.blk 1 (pc' := 1) (ls' := [(2, 95), (0, f), (0, t), (0, bc), (9, 0)]) (st' := [(0, f)]) (w' := w) (n' := 142) rfl ?_
  refine qG.call (t := 274) (na := 1) (sk := 0) (md := 0) (ls1 := [(0, f)]) (r1 := []) rfl rfl rfl rfl rfl (K_X12_isSquare (by omega) _ _) ?_
  rintro _ w7 _ ⟨rfl, hw7, rfl⟩
  rw [hw7]
  show qG none (d + 1) 277 4 [(2, 95), (0, f), (0, t), (0, bc), (9, 0)] [(0, isInV f 0 63)] w 142 Q9
  refine qG.br (P := isInV f 0 63 = 0) (pc1 := 43) (pc2 := 7) (st1 := []) rfl (fun h1 => ?_) (fun h1 => ?_)
  · skip
    rw [isIn_b] at h1
    refine qG.blk 1 (pc' := 44) (ls' := [(2, 95), (0, f), (0, t), (0, bc), (9, 0)]) (st' := [(0, 0)]) (w' := w) (n' := 142) rfl ?_
    refine qG.ret rfl (by first | rfl | exact decide_eq_true (by omega)) ?_
    subst hQ9
    exact ⟨rfl, by first | (exfalso; omega) | exact .inl ⟨by unfold movC; first | omega | (simp only [Int.toNat_natCast]; omega), rfl, rfl⟩ | exact .inr ⟨by unfold movC; first | omega | (simp only [Int.toNat_natCast]; omega), rfl, (fun j => by unfold nbF; (try simp (disch := decide) only [qup_ne, qup_if, Int.toNat_natCast]) <;> (repeat' split) <;> first | rfl | omega), (fun j => by unfold nkF; (try simp (disch := decide) only [qup_ne, qup_if, Int.toNat_natCast]) <;> (repeat' split) <;> first | rfl | omega), (fun j => by (try simp (disch := decide) only [qup_ne, qup_if, Int.toNat_natCast]) <;> (try rfl) <;> (repeat' split) <;> first | rfl | omega)⟩⟩
  · skip
    rw [isIn_p] at h1
    obtain ⟨f9, rfl⟩ : ∃ q : Nat, f = (q : Int) := ⟨f.toNat, by omega⟩
    refine qG.blk 1 (pc' := 8) (ls' := [(2, 95), (0, ((f9 : Nat) : Int)), (0, t), (0, bc), (9, 0)]) (st' := [(0, t)]) (w' := w) (n' := 142) rfl ?_
    refine qG.call (t := 274) (na := 1) (sk := 0) (md := 0) (ls1 := [(0, t)]) (r1 := []) rfl rfl rfl rfl rfl (K_X12_isSquare (by omega) _ _) ?_
    rintro _ w7 _ ⟨rfl, hw7, rfl⟩
    rw [hw7]
    show qG none (d + 1) 277 11 [(2, 95), (0, ((f9 : Nat) : Int)), (0, t), (0, bc), (9, 0)] [(0, isInV t 0 63)] w 142 Q9
    refine qG.br (P := isInV t 0 63 = 0) (pc1 := 43) (pc2 := 14) (st1 := []) rfl (fun h2 => ?_) (fun h2 => ?_)
    · skip
      rw [isIn_b] at h2
      refine qG.blk 1 (pc' := 44) (ls' := [(2, 95), (0, ((f9 : Nat) : Int)), (0, t), (0, bc), (9, 0)]) (st' := [(0, 0)]) (w' := w) (n' := 142) rfl ?_
      refine qG.ret rfl (by first | rfl | exact decide_eq_true (by omega)) ?_
      subst hQ9
      exact ⟨rfl, by first | (exfalso; omega) | exact .inl ⟨by unfold movC; first | omega | (simp only [Int.toNat_natCast]; omega), rfl, rfl⟩ | exact .inr ⟨by unfold movC; first | omega | (simp only [Int.toNat_natCast]; omega), rfl, (fun j => by unfold nbF; (try simp (disch := decide) only [qup_ne, qup_if, Int.toNat_natCast]) <;> (repeat' split) <;> first | rfl | omega), (fun j => by unfold nkF; (try simp (disch := decide) only [qup_ne, qup_if, Int.toNat_natCast]) <;> (repeat' split) <;> first | rfl | omega), (fun j => by (try simp (disch := decide) only [qup_ne, qup_if, Int.toNat_natCast]) <;> (try rfl) <;> (repeat' split) <;> first | rfl | omega)⟩⟩
    · skip
      rw [isIn_p] at h2
      obtain ⟨t9, rfl⟩ : ∃ q : Nat, t = (q : Int) := ⟨t.toNat, by omega⟩
      refine qG.blk 2 (pc' := 16) (ls' := [(2, 95), (0, ((f9 : Nat) : Int)), (0, ((t9 : Nat) : Int)), (0, bc), (9, 0)]) (st' := [(0, ((t9 : Nat) : Int)), (0, ((f9 : Nat) : Int))]) (w' := w) (n' := 142) rfl ?_
      refine qG.br (P := ((f9 : Nat) : Int) = ((t9 : Nat) : Int)) (pc1 := 43) (pc2 := 19) (st1 := []) rfl (fun h1 => ?_) (fun h1 => ?_)
      · skip
        refine qG.blk 1 (pc' := 44) (ls' := [(2, 95), (0, ((f9 : Nat) : Int)), (0, ((t9 : Nat) : Int)), (0, bc), (9, 0)]) (st' := [(0, 0)]) (w' := w) (n' := 142) rfl ?_
        refine qG.ret rfl (by first | rfl | exact decide_eq_true (by omega)) ?_
        subst hQ9
        exact ⟨rfl, by first | (exfalso; omega) | exact .inl ⟨by unfold movC; first | omega | (simp only [Int.toNat_natCast]; omega), rfl, rfl⟩ | exact .inr ⟨by unfold movC; first | omega | (simp only [Int.toNat_natCast]; omega), rfl, (fun j => by unfold nbF; (try simp (disch := decide) only [qup_ne, qup_if, Int.toNat_natCast]) <;> (repeat' split) <;> first | rfl | omega), (fun j => by unfold nkF; (try simp (disch := decide) only [qup_ne, qup_if, Int.toNat_natCast]) <;> (repeat' split) <;> first | rfl | omega), (fun j => by (try simp (disch := decide) only [qup_ne, qup_if, Int.toNat_natCast]) <;> (try rfl) <;> (repeat' split) <;> first | rfl | omega)⟩⟩
      · skip
        refine qG.blk 2 (pc' := 23) (ls' := [(2, 95), (0, ((f9 : Nat) : Int)), (0, ((t9 : Nat) : Int)), (0, bc), (9, 0)]) (st' := [(2, w 95 52)]) (w' := w) (n' := 142) rfl ?_
        rw [show w 95 52 = 122 from zref hI rfl rfl]
        refine qG.blk 1 (pc' := 24) (ls' := [(2, 95), (0, ((f9 : Nat) : Int)), (0, ((t9 : Nat) : Int)), (0, bc), (9, 0)]) (st' := [(0, ((f9 : Nat) : Int)), (2, 122)]) (w' := w) (n' := 142) rfl ?_
        refine qG.ar (P := 0 ≤ ((f9 : Nat) : Int) ∧ ((f9 : Nat) : Int) < ((64 : Nat) : Int)) (P2 := 0 < (122 : Int) ∧ (122 : Int) ≤ ((142 : Nat) : Int)) (pc' := 25) (ls' := [(2, 95), (0, ((f9 : Nat) : Int)), (0, ((t9 : Nat) : Int)), (0, bc), (9, 0)]) (st' := [(0, w 122 f9)]) (w' := w) (n' := 142) rfl (by omega) (by decide) ?_
        refine qG.br (P := w 122 f9 = 0) (pc1 := 43) (pc2 := 28) (st1 := []) rfl (fun h2 => ?_) (fun h2 => ?_)
        · skip
          refine qG.blk 1 (pc' := 44) (ls' := [(2, 95), (0, ((f9 : Nat) : Int)), (0, ((t9 : Nat) : Int)), (0, bc), (9, 0)]) (st' := [(0, 0)]) (w' := w) (n' := 142) rfl ?_
          refine qG.ret rfl (by first | rfl | exact decide_eq_true (by omega)) ?_
          subst hQ9
          exact ⟨rfl, by first | (exfalso; omega) | exact .inl ⟨by unfold movC; first | omega | (simp only [Int.toNat_natCast]; omega), rfl, rfl⟩ | exact .inr ⟨by unfold movC; first | omega | (simp only [Int.toNat_natCast]; omega), rfl, (fun j => by unfold nbF; (try simp (disch := decide) only [qup_ne, qup_if, Int.toNat_natCast]) <;> (repeat' split) <;> first | rfl | omega), (fun j => by unfold nkF; (try simp (disch := decide) only [qup_ne, qup_if, Int.toNat_natCast]) <;> (repeat' split) <;> first | rfl | omega), (fun j => by (try simp (disch := decide) only [qup_ne, qup_if, Int.toNat_natCast]) <;> (try rfl) <;> (repeat' split) <;> first | rfl | omega)⟩⟩
        · skip
          refine qG.blk 2 (pc' := 30) (ls' := [(2, 95), (0, ((f9 : Nat) : Int)), (0, ((t9 : Nat) : Int)), (0, bc), (9, 0)]) (st' := [(0, (-1)), (0, bc)]) (w' := w) (n' := 142) rfl ?_
          refine qG.br (P := bc = (-1)) (pc1 := 45) (pc2 := 33) (st1 := []) rfl (fun h3 => ?_) (fun h3 => ?_)
          · skip
            refine qG.blk 2 (pc' := 49) (ls' := [(2, 95), (0, ((f9 : Nat) : Int)), (0, ((t9 : Nat) : Int)), (0, bc), (9, 0)]) (st' := [(2, w 95 52)]) (w' := w) (n' := 142) rfl ?_
            rw [show w 95 52 = 122 from zref hI rfl rfl]
            refine qG.blk 3 (pc' := 52) (ls' := [(2, 95), (0, ((f9 : Nat) : Int)), (0, ((t9 : Nat) : Int)), (0, bc), (9, 0)]) (st' := [(0, (-1)), (0, bc), (0, ((t9 : Nat) : Int)), (2, 122)]) (w' := w) (n' := 142) rfl ?_
            refine qG.br (P := bc = (-1)) (pc1 := 55) (pc2 := 64) (st1 := [(0, ((t9 : Nat) : Int)), (2, 122)]) rfl (fun h4 => ?_) (fun h4 => ?_)
            · skip
              refine qG.blk 2 (pc' := 59) (ls' := [(2, 95), (0, ((f9 : Nat) : Int)), (0, ((t9 : Nat) : Int)), (0, bc), (9, 0)]) (st' := [(2, w 95 52), (0, ((t9 : Nat) : Int)), (2, 122)]) (w' := w) (n' := 142) rfl ?_
              rw [show w 95 52 = 122 from zref hI rfl rfl]
              refine qG.blk 1 (pc' := 60) (ls' := [(2, 95), (0, ((f9 : Nat) : Int)), (0, ((t9 : Nat) : Int)), (0, bc), (9, 0)]) (st' := [(0, ((f9 : Nat) : Int)), (2, 122), (0, ((t9 : Nat) : Int)), (2, 122)]) (w' := w) (n' := 142) rfl ?_
              refine qG.ar (P := 0 ≤ ((f9 : Nat) : Int) ∧ ((f9 : Nat) : Int) < ((64 : Nat) : Int)) (P2 := 0 < (122 : Int) ∧ (122 : Int) ≤ ((142 : Nat) : Int)) (pc' := 61) (ls' := [(2, 95), (0, ((f9 : Nat) : Int)), (0, ((t9 : Nat) : Int)), (0, bc), (9, 0)]) (st' := [(0, w 122 f9), (0, ((t9 : Nat) : Int)), (2, 122)]) (w' := w) (n' := 142) rfl (by omega) (by decide) ?_
              refine qG.blk 1 (pc' := 65) (ls' := [(2, 95), (0, ((f9 : Nat) : Int)), (0, ((t9 : Nat) : Int)), (0, bc), (9, 0)]) (st' := [(0, w 122 f9), (0, ((t9 : Nat) : Int)), (2, 122)]) (w' := w) (n' := 142) rfl ?_
              refine qG.ar (P := 0 ≤ ((t9 : Nat) : Int) ∧ ((t9 : Nat) : Int) < ((64 : Nat) : Int)) (P2 := 0 < (122 : Int) ∧ (122 : Int) ≤ ((142 : Nat) : Int)) (pc' := 66) (ls' := [(2, 95), (0, ((f9 : Nat) : Int)), (0, ((t9 : Nat) : Int)), (0, bc), (9, 0)]) (st' := []) (w' := (qup w 122 t9 (w 122 f9))) (n' := 142) rfl (by omega) (by decide) ?_
              refine qG.blk 2 (pc' := 70) (ls' := [(2, 95), (0, ((f9 : Nat) : Int)), (0, ((t9 : Nat) : Int)), (0, bc), (9, 0)]) (st' := [(2, w 95 52)]) (w' := (qup w 122 t9 (w 122 f9))) (n' := 142) rfl ?_
              rw [show w 95 52 = 122 from zref hI rfl rfl]
              refine qG.blk 2 (pc' := 72) (ls' := [(2, 95), (0, ((f9 : Nat) : Int)), (0, ((t9 : Nat) : Int)), (0, bc), (9, 0)]) (st' := [(0, 0), (0, ((f9 : Nat) : Int)), (2, 122)]) (w' := (qup w 122 t9 (w 122 f9))) (n' := 142) rfl ?_
              refine qG.ar (P := 0 ≤ ((f9 : Nat) : Int) ∧ ((f9 : Nat) : Int) < ((64 : Nat) : Int)) (P2 := 0 < (122 : Int) ∧ (122 : Int) ≤ ((142 : Nat) : Int)) (pc' := 73) (ls' := [(2, 95), (0, ((f9 : Nat) : Int)), (0, ((t9 : Nat) : Int)), (0, bc), (9, 0)]) (st' := []) (w' := (qup (qup w 122 t9 (w 122 f9)) 122 f9 0)) (n' := 142) rfl (by omega) (by decide) ?_
              refine qG.blk 2 (pc' := 77) (ls' := [(2, 95), (0, ((f9 : Nat) : Int)), (0, ((t9 : Nat) : Int)), (0, bc), (9, 0)]) (st' := [(2, w 95 54)]) (w' := (qup (qup w 122 t9 (w 122 f9)) 122 f9 0)) (n' := 142) rfl ?_
              rw [show w 95 54 = 124 from zref hI rfl rfl]
              refine qG.blk 1 (pc' := 78) (ls' := [(2, 95), (0, ((f9 : Nat) : Int)), (0, ((t9 : Nat) : Int)), (0, bc), (9, 0)]) (st' := [(0, ((f9 : Nat) : Int)), (2, 124)]) (w' := (qup (qup w 122 t9 (w 122 f9)) 122 f9 0)) (n' := 142) rfl ?_
              refine qG.ar (P := 0 ≤ ((f9 : Nat) : Int) ∧ ((f9 : Nat) : Int) < ((64 : Nat) : Int)) (P2 := 0 < (124 : Int) ∧ (124 : Int) ≤ ((142 : Nat) : Int)) (pc' := 79) (ls' := [(2, 95), (0, ((f9 : Nat) : Int)), (0, ((t9 : Nat) : Int)), (0, bc), (9, 0)]) (st' := [(0, w 124 f9)]) (w' := (qup (qup w 122 t9 (w 122 f9)) 122 f9 0)) (n' := 142) rfl (by omega) (by decide) ?_
              refine qG.br (P := w 124 f9 = 0) (pc1 := 86) (pc2 := 82) (st1 := []) rfl (fun h5 => ?_) (fun h5 => ?_)
              · skip
                refine qG.blk 2 (pc' := 90) (ls' := [(2, 95), (0, ((f9 : Nat) : Int)), (0, ((t9 : Nat) : Int)), (0, bc), (9, 0)]) (st' := [(2, w 95 53)]) (w' := (qup (qup w 122 t9 (w 122 f9)) 122 f9 0)) (n' := 142) rfl ?_
                rw [show w 95 53 = 123 from zref hI rfl rfl]
                refine qG.blk 1 (pc' := 91) (ls' := [(2, 95), (0, ((f9 : Nat) : Int)), (0, ((t9 : Nat) : Int)), (0, bc), (9, 0)]) (st' := [(0, ((f9 : Nat) : Int)), (2, 123)]) (w' := (qup (qup w 122 t9 (w 122 f9)) 122 f9 0)) (n' := 142) rfl ?_
                refine qG.ar (P := 0 ≤ ((f9 : Nat) : Int) ∧ ((f9 : Nat) : Int) < ((64 : Nat) : Int)) (P2 := 0 < (123 : Int) ∧ (123 : Int) ≤ ((142 : Nat) : Int)) (pc' := 92) (ls' := [(2, 95), (0, ((f9 : Nat) : Int)), (0, ((t9 : Nat) : Int)), (0, bc), (9, 0)]) (st' := [(0, w 123 f9)]) (w' := (qup (qup w 122 t9 (w 122 f9)) 122 f9 0)) (n' := 142) rfl (by omega) (by decide) ?_
                refine qG.blk 3 (pc' := 98) (ls' := [(2, 95), (0, ((f9 : Nat) : Int)), (0, ((t9 : Nat) : Int)), (0, bc), (0, w 123 f9)]) (st' := [(2, w 95 54)]) (w' := (qup (qup w 122 t9 (w 122 f9)) 122 f9 0)) (n' := 142) rfl ?_
                rw [show w 95 54 = 124 from zref hI rfl rfl]
                refine qG.blk 1 (pc' := 99) (ls' := [(2, 95), (0, ((f9 : Nat) : Int)), (0, ((t9 : Nat) : Int)), (0, bc), (0, w 123 f9)]) (st' := [(0, ((f9 : Nat) : Int)), (2, 124)]) (w' := (qup (qup w 122 t9 (w 122 f9)) 122 f9 0)) (n' := 142) rfl ?_
                refine qG.ar (P := 0 ≤ ((f9 : Nat) : Int) ∧ ((f9 : Nat) : Int) < ((64 : Nat) : Int)) (P2 := 0 < (124 : Int) ∧ (124 : Int) ≤ ((142 : Nat) : Int)) (pc' := 100) (ls' := [(2, 95), (0, ((f9 : Nat) : Int)), (0, ((t9 : Nat) : Int)), (0, bc), (0, w 123 f9)]) (st' := [(0, w 124 f9)]) (w' := (qup (qup w 122 t9 (w 122 f9)) 122 f9 0)) (n' := 142) rfl (by omega) (by decide) ?_
                refine qG.br (P := w 124 f9 = 0) (pc1 := 103) (pc2 := 110) (st1 := []) rfl (fun h6 => ?_) (fun h6 => ?_)
                · skip
                  refine qG.blk 2 (pc' := 107) (ls' := [(2, 95), (0, ((f9 : Nat) : Int)), (0, ((t9 : Nat) : Int)), (0, bc), (0, w 123 f9)]) (st' := [(2, w 95 53)]) (w' := (qup (qup w 122 t9 (w 122 f9)) 122 f9 0)) (n' := 142) rfl ?_
                  rw [show w 95 53 = 123 from zref hI rfl rfl]
                  refine qG.blk 2 (pc' := 109) (ls' := [(2, 95), (0, ((f9 : Nat) : Int)), (0, ((t9 : Nat) : Int)), (0, bc), (0, w 123 f9)]) (st' := [(0, 0), (0, ((f9 : Nat) : Int)), (2, 123)]) (w' := (qup (qup w 122 t9 (w 122 f9)) 122 f9 0)) (n' := 142) rfl ?_
                  refine qG.ar (P := 0 ≤ ((f9 : Nat) : Int) ∧ ((f9 : Nat) : Int) < ((64 : Nat) : Int)) (P2 := 0 < (123 : Int) ∧ (123 : Int) ≤ ((142 : Nat) : Int)) (pc' := 110) (ls' := [(2, 95), (0, ((f9 : Nat) : Int)), (0, ((t9 : Nat) : Int)), (0, bc), (0, w 123 f9)]) (st' := []) (w' := (qup (qup (qup w 122 t9 (w 122 f9)) 122 f9 0) 123 f9 0)) (n' := 142) rfl (by omega) (by decide) ?_
                  refine qG.blk 2 (pc' := 114) (ls' := [(2, 95), (0, ((f9 : Nat) : Int)), (0, ((t9 : Nat) : Int)), (0, bc), (0, w 123 f9)]) (st' := [(2, w 95 54)]) (w' := (qup (qup (qup w 122 t9 (w 122 f9)) 122 f9 0) 123 f9 0)) (n' := 142) rfl ?_
                  rw [show w 95 54 = 124 from zref hI rfl rfl]
                  refine qG.blk 1 (pc' := 115) (ls' := [(2, 95), (0, ((f9 : Nat) : Int)), (0, ((t9 : Nat) : Int)), (0, bc), (0, w 123 f9)]) (st' := [(0, ((t9 : Nat) : Int)), (2, 124)]) (w' := (qup (qup (qup w 122 t9 (w 122 f9)) 122 f9 0) 123 f9 0)) (n' := 142) rfl ?_
                  refine qG.ar (P := 0 ≤ ((t9 : Nat) : Int) ∧ ((t9 : Nat) : Int) < ((64 : Nat) : Int)) (P2 := 0 < (124 : Int) ∧ (124 : Int) ≤ ((142 : Nat) : Int)) (pc' := 116) (ls' := [(2, 95), (0, ((f9 : Nat) : Int)), (0, ((t9 : Nat) : Int)), (0, bc), (0, w 123 f9)]) (st' := [(0, w 124 t9)]) (w' := (qup (qup (qup w 122 t9 (w 122 f9)) 122 f9 0) 123 f9 0)) (n' := 142) rfl (by omega) (by decide) ?_
                  refine qG.br (P := w 124 t9 = 0) (pc1 := 119) (pc2 := 137) (st1 := []) rfl (fun h7 => ?_) (fun h7 => ?_)
                  · skip
                    refine qG.blk 2 (pc' := 123) (ls' := [(2, 95), (0, ((f9 : Nat) : Int)), (0, ((t9 : Nat) : Int)), (0, bc), (0, w 123 f9)]) (st' := [(2, w 95 53)]) (w' := (qup (qup (qup w 122 t9 (w 122 f9)) 122 f9 0) 123 f9 0)) (n' := 142) rfl ?_
                    rw [show w 95 53 = 123 from zref hI rfl rfl]
                    refine qG.blk 2 (pc' := 126) (ls' := [(2, 95), (0, ((f9 : Nat) : Int)), (0, ((t9 : Nat) : Int)), (0, bc), (0, w 123 f9)]) (st' := [(0, w 123 f9), (0, ((t9 : Nat) : Int)), (2, 123)]) (w' := (qup (qup (qup w 122 t9 (w 122 f9)) 122 f9 0) 123 f9 0)) (n' := 142) rfl ?_
                    refine qG.br (P := w 123 f9 = 0) (pc1 := 129) (pc2 := 134) (st1 := [(0, ((t9 : Nat) : Int)), (2, 123)]) rfl (fun h8 => ?_) (fun h8 => ?_)
                    · skip
                      refine qG.blk 2 (pc' := 136) (ls' := [(2, 95), (0, ((f9 : Nat) : Int)), (0, ((t9 : Nat) : Int)), (0, bc), (0, w 123 f9)]) (st' := [(0, 13), (0, ((t9 : Nat) : Int)), (2, 123)]) (w' := (qup (qup (qup w 122 t9 (w 122 f9)) 122 f9 0) 123 f9 0)) (n' := 142) rfl ?_
                      refine qG.ar (P := 0 ≤ ((t9 : Nat) : Int) ∧ ((t9 : Nat) : Int) < ((64 : Nat) : Int)) (P2 := 0 < (123 : Int) ∧ (123 : Int) ≤ ((142 : Nat) : Int)) (pc' := 137) (ls' := [(2, 95), (0, ((f9 : Nat) : Int)), (0, ((t9 : Nat) : Int)), (0, bc), (0, w 123 f9)]) (st' := []) (w' := (qup (qup (qup (qup w 122 t9 (w 122 f9)) 122 f9 0) 123 f9 0) 123 t9 13)) (n' := 142) rfl (by omega) (by decide) ?_
                      refine qG.blk 1 (pc' := 138) (ls' := [(2, 95), (0, ((f9 : Nat) : Int)), (0, ((t9 : Nat) : Int)), (0, bc), (0, w 123 f9)]) (st' := [(0, 1)]) (w' := (qup (qup (qup (qup w 122 t9 (w 122 f9)) 122 f9 0) 123 f9 0) 123 t9 13)) (n' := 142) rfl ?_
                      refine qG.ret rfl (by first | rfl | exact decide_eq_true (by omega)) ?_
                      subst hQ9
                      exact ⟨rfl, by first | (exfalso; omega) | exact .inl ⟨by unfold movC; first | omega | (simp only [Int.toNat_natCast]; omega), rfl, rfl⟩ | exact .inr ⟨by unfold movC; first | omega | (simp only [Int.toNat_natCast]; omega), rfl, (fun j => by unfold nbF; (try simp (disch := decide) only [qup_ne, qup_if, Int.toNat_natCast]) <;> (repeat' split) <;> first | rfl | omega), (fun j => by unfold nkF; (try simp (disch := decide) only [qup_ne, qup_if, Int.toNat_natCast]) <;> (repeat' split) <;> first | rfl | omega), (fun j => by (try simp (disch := decide) only [qup_ne, qup_if, Int.toNat_natCast]) <;> (try rfl) <;> (repeat' split) <;> first | rfl | omega)⟩⟩
                    · skip
                      refine qG.blk 1 (pc' := 136) (ls' := [(2, 95), (0, ((f9 : Nat) : Int)), (0, ((t9 : Nat) : Int)), (0, bc), (0, w 123 f9)]) (st' := [(0, w 123 f9), (0, ((t9 : Nat) : Int)), (2, 123)]) (w' := (qup (qup (qup w 122 t9 (w 122 f9)) 122 f9 0) 123 f9 0)) (n' := 142) rfl ?_
                      refine qG.ar (P := 0 ≤ ((t9 : Nat) : Int) ∧ ((t9 : Nat) : Int) < ((64 : Nat) : Int)) (P2 := 0 < (123 : Int) ∧ (123 : Int) ≤ ((142 : Nat) : Int)) (pc' := 137) (ls' := [(2, 95), (0, ((f9 : Nat) : Int)), (0, ((t9 : Nat) : Int)), (0, bc), (0, w 123 f9)]) (st' := []) (w' := (qup (qup (qup (qup w 122 t9 (w 122 f9)) 122 f9 0) 123 f9 0) 123 t9 (w 123 f9))) (n' := 142) rfl (by omega) (by decide) ?_
                      refine qG.blk 1 (pc' := 138) (ls' := [(2, 95), (0, ((f9 : Nat) : Int)), (0, ((t9 : Nat) : Int)), (0, bc), (0, w 123 f9)]) (st' := [(0, 1)]) (w' := (qup (qup (qup (qup w 122 t9 (w 122 f9)) 122 f9 0) 123 f9 0) 123 t9 (w 123 f9))) (n' := 142) rfl ?_
                      refine qG.ret rfl (by first | rfl | exact decide_eq_true (by omega)) ?_
                      subst hQ9
                      exact ⟨rfl, by first | (exfalso; omega) | exact .inl ⟨by unfold movC; first | omega | (simp only [Int.toNat_natCast]; omega), rfl, rfl⟩ | exact .inr ⟨by unfold movC; first | omega | (simp only [Int.toNat_natCast]; omega), rfl, (fun j => by unfold nbF; (try simp (disch := decide) only [qup_ne, qup_if, Int.toNat_natCast]) <;> (repeat' split) <;> first | rfl | omega), (fun j => by unfold nkF; (try simp (disch := decide) only [qup_ne, qup_if, Int.toNat_natCast]) <;> (repeat' split) <;> first | rfl | omega), (fun j => by (try simp (disch := decide) only [qup_ne, qup_if, Int.toNat_natCast]) <;> (try rfl) <;> (repeat' split) <;> first | rfl | omega)⟩⟩
                  · skip
                    refine qG.blk 1 (pc' := 138) (ls' := [(2, 95), (0, ((f9 : Nat) : Int)), (0, ((t9 : Nat) : Int)), (0, bc), (0, w 123 f9)]) (st' := [(0, 1)]) (w' := (qup (qup (qup w 122 t9 (w 122 f9)) 122 f9 0) 123 f9 0)) (n' := 142) rfl ?_
                    refine qG.ret rfl (by first | rfl | exact decide_eq_true (by omega)) ?_
                    subst hQ9
                    exact ⟨rfl, by first | (exfalso; omega) | exact .inl ⟨by unfold movC; first | omega | (simp only [Int.toNat_natCast]; omega), rfl, rfl⟩ | exact .inr ⟨by unfold movC; first | omega | (simp only [Int.toNat_natCast]; omega), rfl, (fun j => by unfold nbF; (try simp (disch := decide) only [qup_ne, qup_if, Int.toNat_natCast]) <;> (repeat' split) <;> first | rfl | omega), (fun j => by unfold nkF; (try simp (disch := decide) only [qup_ne, qup_if, Int.toNat_natCast]) <;> (repeat' split) <;> first | rfl | omega), (fun j => by (try simp (disch := decide) only [qup_ne, qup_if, Int.toNat_natCast]) <;> (try rfl) <;> (repeat' split) <;> first | rfl | omega)⟩⟩
                · skip
                  refine qG.blk 2 (pc' := 114) (ls' := [(2, 95), (0, ((f9 : Nat) : Int)), (0, ((t9 : Nat) : Int)), (0, bc), (0, w 123 f9)]) (st' := [(2, w 95 54)]) (w' := (qup (qup w 122 t9 (w 122 f9)) 122 f9 0)) (n' := 142) rfl ?_
                  rw [show w 95 54 = 124 from zref hI rfl rfl]
                  refine qG.blk 1 (pc' := 115) (ls' := [(2, 95), (0, ((f9 : Nat) : Int)), (0, ((t9 : Nat) : Int)), (0, bc), (0, w 123 f9)]) (st' := [(0, ((t9 : Nat) : Int)), (2, 124)]) (w' := (qup (qup w 122 t9 (w 122 f9)) 122 f9 0)) (n' := 142) rfl ?_
                  refine qG.ar (P := 0 ≤ ((t9 : Nat) : Int) ∧ ((t9 : Nat) : Int) < ((64 : Nat) : Int)) (P2 := 0 < (124 : Int) ∧ (124 : Int) ≤ ((142 : Nat) : Int)) (pc' := 116) (ls' := [(2, 95), (0, ((f9 : Nat) : Int)), (0, ((t9 : Nat) : Int)), (0, bc), (0, w 123 f9)]) (st' := [(0, w 124 t9)]) (w' := (qup (qup w 122 t9 (w 122 f9)) 122 f9 0)) (n' := 142) rfl (by omega) (by decide) ?_
                  refine qG.br (P := w 124 t9 = 0) (pc1 := 119) (pc2 := 137) (st1 := []) rfl (fun h9 => ?_) (fun h9 => ?_)
                  · skip
                    refine qG.blk 2 (pc' := 123) (ls' := [(2, 95), (0, ((f9 : Nat) : Int)), (0, ((t9 : Nat) : Int)), (0, bc), (0, w 123 f9)]) (st' := [(2, w 95 53)]) (w' := (qup (qup w 122 t9 (w 122 f9)) 122 f9 0)) (n' := 142) rfl ?_
                    rw [show w 95 53 = 123 from zref hI rfl rfl]
                    refine qG.blk 2 (pc' := 126) (ls' := [(2, 95), (0, ((f9 : Nat) : Int)), (0, ((t9 : Nat) : Int)), (0, bc), (0, w 123 f9)]) (st' := [(0, w 123 f9), (0, ((t9 : Nat) : Int)), (2, 123)]) (w' := (qup (qup w 122 t9 (w 122 f9)) 122 f9 0)) (n' := 142) rfl ?_
                    refine qG.br (P := w 123 f9 = 0) (pc1 := 129) (pc2 := 134) (st1 := [(0, ((t9 : Nat) : Int)), (2, 123)]) rfl (fun h10 => ?_) (fun h10 => ?_)
                    · skip
                      refine qG.blk 2 (pc' := 136) (ls' := [(2, 95), (0, ((f9 : Nat) : Int)), (0, ((t9 : Nat) : Int)), (0, bc), (0, w 123 f9)]) (st' := [(0, 13), (0, ((t9 : Nat) : Int)), (2, 123)]) (w' := (qup (qup w 122 t9 (w 122 f9)) 122 f9 0)) (n' := 142) rfl ?_
                      refine qG.ar (P := 0 ≤ ((t9 : Nat) : Int) ∧ ((t9 : Nat) : Int) < ((64 : Nat) : Int)) (P2 := 0 < (123 : Int) ∧ (123 : Int) ≤ ((142 : Nat) : Int)) (pc' := 137) (ls' := [(2, 95), (0, ((f9 : Nat) : Int)), (0, ((t9 : Nat) : Int)), (0, bc), (0, w 123 f9)]) (st' := []) (w' := (qup (qup (qup w 122 t9 (w 122 f9)) 122 f9 0) 123 t9 13)) (n' := 142) rfl (by omega) (by decide) ?_
                      refine qG.blk 1 (pc' := 138) (ls' := [(2, 95), (0, ((f9 : Nat) : Int)), (0, ((t9 : Nat) : Int)), (0, bc), (0, w 123 f9)]) (st' := [(0, 1)]) (w' := (qup (qup (qup w 122 t9 (w 122 f9)) 122 f9 0) 123 t9 13)) (n' := 142) rfl ?_
                      refine qG.ret rfl (by first | rfl | exact decide_eq_true (by omega)) ?_
                      subst hQ9
                      exact ⟨rfl, by first | (exfalso; omega) | exact .inl ⟨by unfold movC; first | omega | (simp only [Int.toNat_natCast]; omega), rfl, rfl⟩ | exact .inr ⟨by unfold movC; first | omega | (simp only [Int.toNat_natCast]; omega), rfl, (fun j => by unfold nbF; (try simp (disch := decide) only [qup_ne, qup_if, Int.toNat_natCast]) <;> (repeat' split) <;> first | rfl | omega), (fun j => by unfold nkF; (try simp (disch := decide) only [qup_ne, qup_if, Int.toNat_natCast]) <;> (repeat' split) <;> first | rfl | omega), (fun j => by (try simp (disch := decide) only [qup_ne, qup_if, Int.toNat_natCast]) <;> (try rfl) <;> (repeat' split) <;> first | rfl | omega)⟩⟩
                    · skip
                      refine qG.blk 1 (pc' := 136) (ls' := [(2, 95), (0, ((f9 : Nat) : Int)), (0, ((t9 : Nat) : Int)), (0, bc), (0, w 123 f9)]) (st' := [(0, w 123 f9), (0, ((t9 : Nat) : Int)), (2, 123)]) (w' := (qup (qup w 122 t9 (w 122 f9)) 122 f9 0)) (n' := 142) rfl ?_
                      refine qG.ar (P := 0 ≤ ((t9 : Nat) : Int) ∧ ((t9 : Nat) : Int) < ((64 : Nat) : Int)) (P2 := 0 < (123 : Int) ∧ (123 : Int) ≤ ((142 : Nat) : Int)) (pc' := 137) (ls' := [(2, 95), (0, ((f9 : Nat) : Int)), (0, ((t9 : Nat) : Int)), (0, bc), (0, w 123 f9)]) (st' := []) (w' := (qup (qup (qup w 122 t9 (w 122 f9)) 122 f9 0) 123 t9 (w 123 f9))) (n' := 142) rfl (by omega) (by decide) ?_
                      refine qG.blk 1 (pc' := 138) (ls' := [(2, 95), (0, ((f9 : Nat) : Int)), (0, ((t9 : Nat) : Int)), (0, bc), (0, w 123 f9)]) (st' := [(0, 1)]) (w' := (qup (qup (qup w 122 t9 (w 122 f9)) 122 f9 0) 123 t9 (w 123 f9))) (n' := 142) rfl ?_
                      refine qG.ret rfl (by first | rfl | exact decide_eq_true (by omega)) ?_
                      subst hQ9
                      exact ⟨rfl, by first | (exfalso; omega) | exact .inl ⟨by unfold movC; first | omega | (simp only [Int.toNat_natCast]; omega), rfl, rfl⟩ | exact .inr ⟨by unfold movC; first | omega | (simp only [Int.toNat_natCast]; omega), rfl, (fun j => by unfold nbF; (try simp (disch := decide) only [qup_ne, qup_if, Int.toNat_natCast]) <;> (repeat' split) <;> first | rfl | omega), (fun j => by unfold nkF; (try simp (disch := decide) only [qup_ne, qup_if, Int.toNat_natCast]) <;> (repeat' split) <;> first | rfl | omega), (fun j => by (try simp (disch := decide) only [qup_ne, qup_if, Int.toNat_natCast]) <;> (try rfl) <;> (repeat' split) <;> first | rfl | omega)⟩⟩
                  · skip
                    refine qG.blk 1 (pc' := 138) (ls' := [(2, 95), (0, ((f9 : Nat) : Int)), (0, ((t9 : Nat) : Int)), (0, bc), (0, w 123 f9)]) (st' := [(0, 1)]) (w' := (qup (qup w 122 t9 (w 122 f9)) 122 f9 0)) (n' := 142) rfl ?_
                    refine qG.ret rfl (by first | rfl | exact decide_eq_true (by omega)) ?_
                    subst hQ9
                    exact ⟨rfl, by first | (exfalso; omega) | exact .inl ⟨by unfold movC; first | omega | (simp only [Int.toNat_natCast]; omega), rfl, rfl⟩ | exact .inr ⟨by unfold movC; first | omega | (simp only [Int.toNat_natCast]; omega), rfl, (fun j => by unfold nbF; (try simp (disch := decide) only [qup_ne, qup_if, Int.toNat_natCast]) <;> (repeat' split) <;> first | rfl | omega), (fun j => by unfold nkF; (try simp (disch := decide) only [qup_ne, qup_if, Int.toNat_natCast]) <;> (repeat' split) <;> first | rfl | omega), (fun j => by (try simp (disch := decide) only [qup_ne, qup_if, Int.toNat_natCast]) <;> (try rfl) <;> (repeat' split) <;> first | rfl | omega)⟩⟩
              · skip
                refine qG.blk 5 (pc' := 98) (ls' := [(2, 95), (0, ((f9 : Nat) : Int)), (0, ((t9 : Nat) : Int)), (0, bc), (0, 0)]) (st' := [(2, w 95 54)]) (w' := (qup (qup w 122 t9 (w 122 f9)) 122 f9 0)) (n' := 142) rfl ?_
                rw [show w 95 54 = 124 from zref hI rfl rfl]
                refine qG.blk 1 (pc' := 99) (ls' := [(2, 95), (0, ((f9 : Nat) : Int)), (0, ((t9 : Nat) : Int)), (0, bc), (0, 0)]) (st' := [(0, ((f9 : Nat) : Int)), (2, 124)]) (w' := (qup (qup w 122 t9 (w 122 f9)) 122 f9 0)) (n' := 142) rfl ?_
                refine qG.ar (P := 0 ≤ ((f9 : Nat) : Int) ∧ ((f9 : Nat) : Int) < ((64 : Nat) : Int)) (P2 := 0 < (124 : Int) ∧ (124 : Int) ≤ ((142 : Nat) : Int)) (pc' := 100) (ls' := [(2, 95), (0, ((f9 : Nat) : Int)), (0, ((t9 : Nat) : Int)), (0, bc), (0, 0)]) (st' := [(0, w 124 f9)]) (w' := (qup (qup w 122 t9 (w 122 f9)) 122 f9 0)) (n' := 142) rfl (by omega) (by decide) ?_
                refine qG.br (P := w 124 f9 = 0) (pc1 := 103) (pc2 := 110) (st1 := []) rfl (fun h11 => ?_) (fun h11 => ?_)
                · skip
                  refine qG.blk 2 (pc' := 107) (ls' := [(2, 95), (0, ((f9 : Nat) : Int)), (0, ((t9 : Nat) : Int)), (0, bc), (0, 0)]) (st' := [(2, w 95 53)]) (w' := (qup (qup w 122 t9 (w 122 f9)) 122 f9 0)) (n' := 142) rfl ?_
                  rw [show w 95 53 = 123 from zref hI rfl rfl]
                  refine qG.blk 2 (pc' := 109) (ls' := [(2, 95), (0, ((f9 : Nat) : Int)), (0, ((t9 : Nat) : Int)), (0, bc), (0, 0)]) (st' := [(0, 0), (0, ((f9 : Nat) : Int)), (2, 123)]) (w' := (qup (qup w 122 t9 (w 122 f9)) 122 f9 0)) (n' := 142) rfl ?_
                  refine qG.ar (P := 0 ≤ ((f9 : Nat) : Int) ∧ ((f9 : Nat) : Int) < ((64 : Nat) : Int)) (P2 := 0 < (123 : Int) ∧ (123 : Int) ≤ ((142 : Nat) : Int)) (pc' := 110) (ls' := [(2, 95), (0, ((f9 : Nat) : Int)), (0, ((t9 : Nat) : Int)), (0, bc), (0, 0)]) (st' := []) (w' := (qup (qup (qup w 122 t9 (w 122 f9)) 122 f9 0) 123 f9 0)) (n' := 142) rfl (by omega) (by decide) ?_
                  refine qG.blk 2 (pc' := 114) (ls' := [(2, 95), (0, ((f9 : Nat) : Int)), (0, ((t9 : Nat) : Int)), (0, bc), (0, 0)]) (st' := [(2, w 95 54)]) (w' := (qup (qup (qup w 122 t9 (w 122 f9)) 122 f9 0) 123 f9 0)) (n' := 142) rfl ?_
                  rw [show w 95 54 = 124 from zref hI rfl rfl]
                  refine qG.blk 1 (pc' := 115) (ls' := [(2, 95), (0, ((f9 : Nat) : Int)), (0, ((t9 : Nat) : Int)), (0, bc), (0, 0)]) (st' := [(0, ((t9 : Nat) : Int)), (2, 124)]) (w' := (qup (qup (qup w 122 t9 (w 122 f9)) 122 f9 0) 123 f9 0)) (n' := 142) rfl ?_
                  refine qG.ar (P := 0 ≤ ((t9 : Nat) : Int) ∧ ((t9 : Nat) : Int) < ((64 : Nat) : Int)) (P2 := 0 < (124 : Int) ∧ (124 : Int) ≤ ((142 : Nat) : Int)) (pc' := 116) (ls' := [(2, 95), (0, ((f9 : Nat) : Int)), (0, ((t9 : Nat) : Int)), (0, bc), (0, 0)]) (st' := [(0, w 124 t9)]) (w' := (qup (qup (qup w 122 t9 (w 122 f9)) 122 f9 0) 123 f9 0)) (n' := 142) rfl (by omega) (by decide) ?_
                  refine qG.br (P := w 124 t9 = 0) (pc1 := 119) (pc2 := 137) (st1 := []) rfl (fun h12 => ?_) (fun h12 => ?_)
                  · skip
                    refine qG.blk 2 (pc' := 123) (ls' := [(2, 95), (0, ((f9 : Nat) : Int)), (0, ((t9 : Nat) : Int)), (0, bc), (0, 0)]) (st' := [(2, w 95 53)]) (w' := (qup (qup (qup w 122 t9 (w 122 f9)) 122 f9 0) 123 f9 0)) (n' := 142) rfl ?_
                    rw [show w 95 53 = 123 from zref hI rfl rfl]
                    refine qG.blk 2 (pc' := 126) (ls' := [(2, 95), (0, ((f9 : Nat) : Int)), (0, ((t9 : Nat) : Int)), (0, bc), (0, 0)]) (st' := [(0, 0), (0, ((t9 : Nat) : Int)), (2, 123)]) (w' := (qup (qup (qup w 122 t9 (w 122 f9)) 122 f9 0) 123 f9 0)) (n' := 142) rfl ?_
                    refine qG.br (P := (0 : Int) = 0) (pc1 := 129) (pc2 := 134) (st1 := [(0, ((t9 : Nat) : Int)), (2, 123)]) rfl (fun h13 => ?_) (fun h13 => ?_)
                    · skip
                      refine qG.blk 2 (pc' := 136) (ls' := [(2, 95), (0, ((f9 : Nat) : Int)), (0, ((t9 : Nat) : Int)), (0, bc), (0, 0)]) (st' := [(0, 13), (0, ((t9 : Nat) : Int)), (2, 123)]) (w' := (qup (qup (qup w 122 t9 (w 122 f9)) 122 f9 0) 123 f9 0)) (n' := 142) rfl ?_
                      refine qG.ar (P := 0 ≤ ((t9 : Nat) : Int) ∧ ((t9 : Nat) : Int) < ((64 : Nat) : Int)) (P2 := 0 < (123 : Int) ∧ (123 : Int) ≤ ((142 : Nat) : Int)) (pc' := 137) (ls' := [(2, 95), (0, ((f9 : Nat) : Int)), (0, ((t9 : Nat) : Int)), (0, bc), (0, 0)]) (st' := []) (w' := (qup (qup (qup (qup w 122 t9 (w 122 f9)) 122 f9 0) 123 f9 0) 123 t9 13)) (n' := 142) rfl (by omega) (by decide) ?_
                      refine qG.blk 1 (pc' := 138) (ls' := [(2, 95), (0, ((f9 : Nat) : Int)), (0, ((t9 : Nat) : Int)), (0, bc), (0, 0)]) (st' := [(0, 1)]) (w' := (qup (qup (qup (qup w 122 t9 (w 122 f9)) 122 f9 0) 123 f9 0) 123 t9 13)) (n' := 142) rfl ?_
                      refine qG.ret rfl (by first | rfl | exact decide_eq_true (by omega)) ?_
                      subst hQ9
                      exact ⟨rfl, by first | (exfalso; omega) | exact .inl ⟨by unfold movC; first | omega | (simp only [Int.toNat_natCast]; omega), rfl, rfl⟩ | exact .inr ⟨by unfold movC; first | omega | (simp only [Int.toNat_natCast]; omega), rfl, (fun j => by unfold nbF; (try simp (disch := decide) only [qup_ne, qup_if, Int.toNat_natCast]) <;> (repeat' split) <;> first | rfl | omega), (fun j => by unfold nkF; (try simp (disch := decide) only [qup_ne, qup_if, Int.toNat_natCast]) <;> (repeat' split) <;> first | rfl | omega), (fun j => by (try simp (disch := decide) only [qup_ne, qup_if, Int.toNat_natCast]) <;> (try rfl) <;> (repeat' split) <;> first | rfl | omega)⟩⟩
                    · exact absurd h13 (by decide)
                  · skip
                    refine qG.blk 1 (pc' := 138) (ls' := [(2, 95), (0, ((f9 : Nat) : Int)), (0, ((t9 : Nat) : Int)), (0, bc), (0, 0)]) (st' := [(0, 1)]) (w' := (qup (qup (qup w 122 t9 (w 122 f9)) 122 f9 0) 123 f9 0)) (n' := 142) rfl ?_
                    refine qG.ret rfl (by first | rfl | exact decide_eq_true (by omega)) ?_
                    subst hQ9
                    exact ⟨rfl, by first | (exfalso; omega) | exact .inl ⟨by unfold movC; first | omega | (simp only [Int.toNat_natCast]; omega), rfl, rfl⟩ | exact .inr ⟨by unfold movC; first | omega | (simp only [Int.toNat_natCast]; omega), rfl, (fun j => by unfold nbF; (try simp (disch := decide) only [qup_ne, qup_if, Int.toNat_natCast]) <;> (repeat' split) <;> first | rfl | omega), (fun j => by unfold nkF; (try simp (disch := decide) only [qup_ne, qup_if, Int.toNat_natCast]) <;> (repeat' split) <;> first | rfl | omega), (fun j => by (try simp (disch := decide) only [qup_ne, qup_if, Int.toNat_natCast]) <;> (try rfl) <;> (repeat' split) <;> first | rfl | omega)⟩⟩
                · skip
                  refine qG.blk 2 (pc' := 114) (ls' := [(2, 95), (0, ((f9 : Nat) : Int)), (0, ((t9 : Nat) : Int)), (0, bc), (0, 0)]) (st' := [(2, w 95 54)]) (w' := (qup (qup w 122 t9 (w 122 f9)) 122 f9 0)) (n' := 142) rfl ?_
                  rw [show w 95 54 = 124 from zref hI rfl rfl]
                  refine qG.blk 1 (pc' := 115) (ls' := [(2, 95), (0, ((f9 : Nat) : Int)), (0, ((t9 : Nat) : Int)), (0, bc), (0, 0)]) (st' := [(0, ((t9 : Nat) : Int)), (2, 124)]) (w' := (qup (qup w 122 t9 (w 122 f9)) 122 f9 0)) (n' := 142) rfl ?_
                  refine qG.ar (P := 0 ≤ ((t9 : Nat) : Int) ∧ ((t9 : Nat) : Int) < ((64 : Nat) : Int)) (P2 := 0 < (124 : Int) ∧ (124 : Int) ≤ ((142 : Nat) : Int)) (pc' := 116) (ls' := [(2, 95), (0, ((f9 : Nat) : Int)), (0, ((t9 : Nat) : Int)), (0, bc), (0, 0)]) (st' := [(0, w 124 t9)]) (w' := (qup (qup w 122 t9 (w 122 f9)) 122 f9 0)) (n' := 142) rfl (by omega) (by decide) ?_
                  refine qG.br (P := w 124 t9 = 0) (pc1 := 119) (pc2 := 137) (st1 := []) rfl (fun h14 => ?_) (fun h14 => ?_)
                  · skip
                    refine qG.blk 2 (pc' := 123) (ls' := [(2, 95), (0, ((f9 : Nat) : Int)), (0, ((t9 : Nat) : Int)), (0, bc), (0, 0)]) (st' := [(2, w 95 53)]) (w' := (qup (qup w 122 t9 (w 122 f9)) 122 f9 0)) (n' := 142) rfl ?_
                    rw [show w 95 53 = 123 from zref hI rfl rfl]
                    refine qG.blk 2 (pc' := 126) (ls' := [(2, 95), (0, ((f9 : Nat) : Int)), (0, ((t9 : Nat) : Int)), (0, bc), (0, 0)]) (st' := [(0, 0), (0, ((t9 : Nat) : Int)), (2, 123)]) (w' := (qup (qup w 122 t9 (w 122 f9)) 122 f9 0)) (n' := 142) rfl ?_
                    refine qG.br (P := (0 : Int) = 0) (pc1 := 129) (pc2 := 134) (st1 := [(0, ((t9 : Nat) : Int)), (2, 123)]) rfl (fun h15 => ?_) (fun h15 => ?_)
                    · skip
                      refine qG.blk 2 (pc' := 136) (ls' := [(2, 95), (0, ((f9 : Nat) : Int)), (0, ((t9 : Nat) : Int)), (0, bc), (0, 0)]) (st' := [(0, 13), (0, ((t9 : Nat) : Int)), (2, 123)]) (w' := (qup (qup w 122 t9 (w 122 f9)) 122 f9 0)) (n' := 142) rfl ?_
                      refine qG.ar (P := 0 ≤ ((t9 : Nat) : Int) ∧ ((t9 : Nat) : Int) < ((64 : Nat) : Int)) (P2 := 0 < (123 : Int) ∧ (123 : Int) ≤ ((142 : Nat) : Int)) (pc' := 137) (ls' := [(2, 95), (0, ((f9 : Nat) : Int)), (0, ((t9 : Nat) : Int)), (0, bc), (0, 0)]) (st' := []) (w' := (qup (qup (qup w 122 t9 (w 122 f9)) 122 f9 0) 123 t9 13)) (n' := 142) rfl (by omega) (by decide) ?_
                      refine qG.blk 1 (pc' := 138) (ls' := [(2, 95), (0, ((f9 : Nat) : Int)), (0, ((t9 : Nat) : Int)), (0, bc), (0, 0)]) (st' := [(0, 1)]) (w' := (qup (qup (qup w 122 t9 (w 122 f9)) 122 f9 0) 123 t9 13)) (n' := 142) rfl ?_
                      refine qG.ret rfl (by first | rfl | exact decide_eq_true (by omega)) ?_
                      subst hQ9
                      exact ⟨rfl, by first | (exfalso; omega) | exact .inl ⟨by unfold movC; first | omega | (simp only [Int.toNat_natCast]; omega), rfl, rfl⟩ | exact .inr ⟨by unfold movC; first | omega | (simp only [Int.toNat_natCast]; omega), rfl, (fun j => by unfold nbF; (try simp (disch := decide) only [qup_ne, qup_if, Int.toNat_natCast]) <;> (repeat' split) <;> first | rfl | omega), (fun j => by unfold nkF; (try simp (disch := decide) only [qup_ne, qup_if, Int.toNat_natCast]) <;> (repeat' split) <;> first | rfl | omega), (fun j => by (try simp (disch := decide) only [qup_ne, qup_if, Int.toNat_natCast]) <;> (try rfl) <;> (repeat' split) <;> first | rfl | omega)⟩⟩
                    · exact absurd h15 (by decide)
                  · skip
                    refine qG.blk 1 (pc' := 138) (ls' := [(2, 95), (0, ((f9 : Nat) : Int)), (0, ((t9 : Nat) : Int)), (0, bc), (0, 0)]) (st' := [(0, 1)]) (w' := (qup (qup w 122 t9 (w 122 f9)) 122 f9 0)) (n' := 142) rfl ?_
                    refine qG.ret rfl (by first | rfl | exact decide_eq_true (by omega)) ?_
                    subst hQ9
                    exact ⟨rfl, by first | (exfalso; omega) | exact .inl ⟨by unfold movC; first | omega | (simp only [Int.toNat_natCast]; omega), rfl, rfl⟩ | exact .inr ⟨by unfold movC; first | omega | (simp only [Int.toNat_natCast]; omega), rfl, (fun j => by unfold nbF; (try simp (disch := decide) only [qup_ne, qup_if, Int.toNat_natCast]) <;> (repeat' split) <;> first | rfl | omega), (fun j => by unfold nkF; (try simp (disch := decide) only [qup_ne, qup_if, Int.toNat_natCast]) <;> (repeat' split) <;> first | rfl | omega), (fun j => by (try simp (disch := decide) only [qup_ne, qup_if, Int.toNat_natCast]) <;> (try rfl) <;> (repeat' split) <;> first | rfl | omega)⟩⟩
            · skip
              refine qG.blk 1 (pc' := 65) (ls' := [(2, 95), (0, ((f9 : Nat) : Int)), (0, ((t9 : Nat) : Int)), (0, bc), (9, 0)]) (st' := [(0, bc), (0, ((t9 : Nat) : Int)), (2, 122)]) (w' := w) (n' := 142) rfl ?_
              refine qG.ar (P := 0 ≤ ((t9 : Nat) : Int) ∧ ((t9 : Nat) : Int) < ((64 : Nat) : Int)) (P2 := 0 < (122 : Int) ∧ (122 : Int) ≤ ((142 : Nat) : Int)) (pc' := 66) (ls' := [(2, 95), (0, ((f9 : Nat) : Int)), (0, ((t9 : Nat) : Int)), (0, bc), (9, 0)]) (st' := []) (w' := (qup w 122 t9 bc)) (n' := 142) rfl (by omega) (by decide) ?_
              refine qG.blk 2 (pc' := 70) (ls' := [(2, 95), (0, ((f9 : Nat) : Int)), (0, ((t9 : Nat) : Int)), (0, bc), (9, 0)]) (st' := [(2, w 95 52)]) (w' := (qup w 122 t9 bc)) (n' := 142) rfl ?_
              rw [show w 95 52 = 122 from zref hI rfl rfl]
              refine qG.blk 2 (pc' := 72) (ls' := [(2, 95), (0, ((f9 : Nat) : Int)), (0, ((t9 : Nat) : Int)), (0, bc), (9, 0)]) (st' := [(0, 0), (0, ((f9 : Nat) : Int)), (2, 122)]) (w' := (qup w 122 t9 bc)) (n' := 142) rfl ?_
              refine qG.ar (P := 0 ≤ ((f9 : Nat) : Int) ∧ ((f9 : Nat) : Int) < ((64 : Nat) : Int)) (P2 := 0 < (122 : Int) ∧ (122 : Int) ≤ ((142 : Nat) : Int)) (pc' := 73) (ls' := [(2, 95), (0, ((f9 : Nat) : Int)), (0, ((t9 : Nat) : Int)), (0, bc), (9, 0)]) (st' := []) (w' := (qup (qup w 122 t9 bc) 122 f9 0)) (n' := 142) rfl (by omega) (by decide) ?_
              refine qG.blk 2 (pc' := 77) (ls' := [(2, 95), (0, ((f9 : Nat) : Int)), (0, ((t9 : Nat) : Int)), (0, bc), (9, 0)]) (st' := [(2, w 95 54)]) (w' := (qup (qup w 122 t9 bc) 122 f9 0)) (n' := 142) rfl ?_
              rw [show w 95 54 = 124 from zref hI rfl rfl]
              refine qG.blk 1 (pc' := 78) (ls' := [(2, 95), (0, ((f9 : Nat) : Int)), (0, ((t9 : Nat) : Int)), (0, bc), (9, 0)]) (st' := [(0, ((f9 : Nat) : Int)), (2, 124)]) (w' := (qup (qup w 122 t9 bc) 122 f9 0)) (n' := 142) rfl ?_
              refine qG.ar (P := 0 ≤ ((f9 : Nat) : Int) ∧ ((f9 : Nat) : Int) < ((64 : Nat) : Int)) (P2 := 0 < (124 : Int) ∧ (124 : Int) ≤ ((142 : Nat) : Int)) (pc' := 79) (ls' := [(2, 95), (0, ((f9 : Nat) : Int)), (0, ((t9 : Nat) : Int)), (0, bc), (9, 0)]) (st' := [(0, w 124 f9)]) (w' := (qup (qup w 122 t9 bc) 122 f9 0)) (n' := 142) rfl (by omega) (by decide) ?_
              refine qG.br (P := w 124 f9 = 0) (pc1 := 86) (pc2 := 82) (st1 := []) rfl (fun h16 => ?_) (fun h16 => ?_)
              · skip
                refine qG.blk 2 (pc' := 90) (ls' := [(2, 95), (0, ((f9 : Nat) : Int)), (0, ((t9 : Nat) : Int)), (0, bc), (9, 0)]) (st' := [(2, w 95 53)]) (w' := (qup (qup w 122 t9 bc) 122 f9 0)) (n' := 142) rfl ?_
                rw [show w 95 53 = 123 from zref hI rfl rfl]
                refine qG.blk 1 (pc' := 91) (ls' := [(2, 95), (0, ((f9 : Nat) : Int)), (0, ((t9 : Nat) : Int)), (0, bc), (9, 0)]) (st' := [(0, ((f9 : Nat) : Int)), (2, 123)]) (w' := (qup (qup w 122 t9 bc) 122 f9 0)) (n' := 142) rfl ?_
                refine qG.ar (P := 0 ≤ ((f9 : Nat) : Int) ∧ ((f9 : Nat) : Int) < ((64 : Nat) : Int)) (P2 := 0 < (123 : Int) ∧ (123 : Int) ≤ ((142 : Nat) : Int)) (pc' := 92) (ls' := [(2, 95), (0, ((f9 : Nat) : Int)), (0, ((t9 : Nat) : Int)), (0, bc), (9, 0)]) (st' := [(0, w 123 f9)]) (w' := (qup (qup w 122 t9 bc) 122 f9 0)) (n' := 142) rfl (by omega) (by decide) ?_
                refine qG.blk 3 (pc' := 98) (ls' := [(2, 95), (0, ((f9 : Nat) : Int)), (0, ((t9 : Nat) : Int)), (0, bc), (0, w 123 f9)]) (st' := [(2, w 95 54)]) (w' := (qup (qup w 122 t9 bc) 122 f9 0)) (n' := 142) rfl ?_
                rw [show w 95 54 = 124 from zref hI rfl rfl]
                refine qG.blk 1 (pc' := 99) (ls' := [(2, 95), (0, ((f9 : Nat) : Int)), (0, ((t9 : Nat) : Int)), (0, bc), (0, w 123 f9)]) (st' := [(0, ((f9 : Nat) : Int)), (2, 124)]) (w' := (qup (qup w 122 t9 bc) 122 f9 0)) (n' := 142) rfl ?_
                refine qG.ar (P := 0 ≤ ((f9 : Nat) : Int) ∧ ((f9 : Nat) : Int) < ((64 : Nat) : Int)) (P2 := 0 < (124 : Int) ∧ (124 : Int) ≤ ((142 : Nat) : Int)) (pc' := 100) (ls' := [(2, 95), (0, ((f9 : Nat) : Int)), (0, ((t9 : Nat) : Int)), (0, bc), (0, w 123 f9)]) (st' := [(0, w 124 f9)]) (w' := (qup (qup w 122 t9 bc) 122 f9 0)) (n' := 142) rfl (by omega) (by decide) ?_
                refine qG.br (P := w 124 f9 = 0) (pc1 := 103) (pc2 := 110) (st1 := []) rfl (fun h17 => ?_) (fun h17 => ?_)
                · skip
                  refine qG.blk 2 (pc' := 107) (ls' := [(2, 95), (0, ((f9 : Nat) : Int)), (0, ((t9 : Nat) : Int)), (0, bc), (0, w 123 f9)]) (st' := [(2, w 95 53)]) (w' := (qup (qup w 122 t9 bc) 122 f9 0)) (n' := 142) rfl ?_
                  rw [show w 95 53 = 123 from zref hI rfl rfl]
                  refine qG.blk 2 (pc' := 109) (ls' := [(2, 95), (0, ((f9 : Nat) : Int)), (0, ((t9 : Nat) : Int)), (0, bc), (0, w 123 f9)]) (st' := [(0, 0), (0, ((f9 : Nat) : Int)), (2, 123)]) (w' := (qup (qup w 122 t9 bc) 122 f9 0)) (n' := 142) rfl ?_
                  refine qG.ar (P := 0 ≤ ((f9 : Nat) : Int) ∧ ((f9 : Nat) : Int) < ((64 : Nat) : Int)) (P2 := 0 < (123 : Int) ∧ (123 : Int) ≤ ((142 : Nat) : Int)) (pc' := 110) (ls' := [(2, 95), (0, ((f9 : Nat) : Int)), (0, ((t9 : Nat) : Int)), (0, bc), (0, w 123 f9)]) (st' := []) (w' := (qup (qup (qup w 122 t9 bc) 122 f9 0) 123 f9 0)) (n' := 142) rfl (by omega) (by decide) ?_
                  refine qG.blk 2 (pc' := 114) (ls' := [(2, 95), (0, ((f9 : Nat) : Int)), (0, ((t9 : Nat) : Int)), (0, bc), (0, w 123 f9)]) (st' := [(2, w 95 54)]) (w' := (qup (qup (qup w 122 t9 bc) 122 f9 0) 123 f9 0)) (n' := 142) rfl ?_
                  rw [show w 95 54 = 124 from zref hI rfl rfl]
                  refine qG.blk 1 (pc' := 115) (ls' := [(2, 95), (0, ((f9 : Nat) : Int)), (0, ((t9 : Nat) : Int)), (0, bc), (0, w 123 f9)]) (st' := [(0, ((t9 : Nat) : Int)), (2, 124)]) (w' := (qup (qup (qup w 122 t9 bc) 122 f9 0) 123 f9 0)) (n' := 142) rfl ?_
                  refine qG.ar (P := 0 ≤ ((t9 : Nat) : Int) ∧ ((t9 : Nat) : Int) < ((64 : Nat) : Int)) (P2 := 0 < (124 : Int) ∧ (124 : Int) ≤ ((142 : Nat) : Int)) (pc' := 116) (ls' := [(2, 95), (0, ((f9 : Nat) : Int)), (0, ((t9 : Nat) : Int)), (0, bc), (0, w 123 f9)]) (st' := [(0, w 124 t9)]) (w' := (qup (qup (qup w 122 t9 bc) 122 f9 0) 123 f9 0)) (n' := 142) rfl (by omega) (by decide) ?_
                  refine qG.br (P := w 124 t9 = 0) (pc1 := 119) (pc2 := 137) (st1 := []) rfl (fun h18 => ?_) (fun h18 => ?_)
                  · skip
                    refine qG.blk 2 (pc' := 123) (ls' := [(2, 95), (0, ((f9 : Nat) : Int)), (0, ((t9 : Nat) : Int)), (0, bc), (0, w 123 f9)]) (st' := [(2, w 95 53)]) (w' := (qup (qup (qup w 122 t9 bc) 122 f9 0) 123 f9 0)) (n' := 142) rfl ?_
                    rw [show w 95 53 = 123 from zref hI rfl rfl]
                    refine qG.blk 2 (pc' := 126) (ls' := [(2, 95), (0, ((f9 : Nat) : Int)), (0, ((t9 : Nat) : Int)), (0, bc), (0, w 123 f9)]) (st' := [(0, w 123 f9), (0, ((t9 : Nat) : Int)), (2, 123)]) (w' := (qup (qup (qup w 122 t9 bc) 122 f9 0) 123 f9 0)) (n' := 142) rfl ?_
                    refine qG.br (P := w 123 f9 = 0) (pc1 := 129) (pc2 := 134) (st1 := [(0, ((t9 : Nat) : Int)), (2, 123)]) rfl (fun h19 => ?_) (fun h19 => ?_)
                    · skip
                      refine qG.blk 2 (pc' := 136) (ls' := [(2, 95), (0, ((f9 : Nat) : Int)), (0, ((t9 : Nat) : Int)), (0, bc), (0, w 123 f9)]) (st' := [(0, 13), (0, ((t9 : Nat) : Int)), (2, 123)]) (w' := (qup (qup (qup w 122 t9 bc) 122 f9 0) 123 f9 0)) (n' := 142) rfl ?_
                      refine qG.ar (P := 0 ≤ ((t9 : Nat) : Int) ∧ ((t9 : Nat) : Int) < ((64 : Nat) : Int)) (P2 := 0 < (123 : Int) ∧ (123 : Int) ≤ ((142 : Nat) : Int)) (pc' := 137) (ls' := [(2, 95), (0, ((f9 : Nat) : Int)), (0, ((t9 : Nat) : Int)), (0, bc), (0, w 123 f9)]) (st' := []) (w' := (qup (qup (qup (qup w 122 t9 bc) 122 f9 0) 123 f9 0) 123 t9 13)) (n' := 142) rfl (by omega) (by decide) ?_
                      refine qG.blk 1 (pc' := 138) (ls' := [(2, 95), (0, ((f9 : Nat) : Int)), (0, ((t9 : Nat) : Int)), (0, bc), (0, w 123 f9)]) (st' := [(0, 1)]) (w' := (qup (qup (qup (qup w 122 t9 bc) 122 f9 0) 123 f9 0) 123 t9 13)) (n' := 142) rfl ?_
                      refine qG.ret rfl (by first | rfl | exact decide_eq_true (by omega)) ?_
                      subst hQ9
                      exact ⟨rfl, by first | (exfalso; omega) | exact .inl ⟨by unfold movC; first | omega | (simp only [Int.toNat_natCast]; omega), rfl, rfl⟩ | exact .inr ⟨by unfold movC; first | omega | (simp only [Int.toNat_natCast]; omega), rfl, (fun j => by unfold nbF; (try simp (disch := decide) only [qup_ne, qup_if, Int.toNat_natCast]) <;> (repeat' split) <;> first | rfl | omega), (fun j => by unfold nkF; (try simp (disch := decide) only [qup_ne, qup_if, Int.toNat_natCast]) <;> (repeat' split) <;> first | rfl | omega), (fun j => by (try simp (disch := decide) only [qup_ne, qup_if, Int.toNat_natCast]) <;> (try rfl) <;> (repeat' split) <;> first | rfl | omega)⟩⟩
                    · skip
                      refine qG.blk 1 (pc' := 136) (ls' := [(2, 95), (0, ((f9 : Nat) : Int)), (0, ((t9 : Nat) : Int)), (0, bc), (0, w 123 f9)]) (st' := [(0, w 123 f9), (0, ((t9 : Nat) : Int)), (2, 123)]) (w' := (qup (qup (qup w 122 t9 bc) 122 f9 0) 123 f9 0)) (n' := 142) rfl ?_
                      refine qG.ar (P := 0 ≤ ((t9 : Nat) : Int) ∧ ((t9 : Nat) : Int) < ((64 : Nat) : Int)) (P2 := 0 < (123 : Int) ∧ (123 : Int) ≤ ((142 : Nat) : Int)) (pc' := 137) (ls' := [(2, 95), (0, ((f9 : Nat) : Int)), (0, ((t9 : Nat) : Int)), (0, bc), (0, w 123 f9)]) (st' := []) (w' := (qup (qup (qup (qup w 122 t9 bc) 122 f9 0) 123 f9 0) 123 t9 (w 123 f9))) (n' := 142) rfl (by omega) (by decide) ?_
                      refine qG.blk 1 (pc' := 138) (ls' := [(2, 95), (0, ((f9 : Nat) : Int)), (0, ((t9 : Nat) : Int)), (0, bc), (0, w 123 f9)]) (st' := [(0, 1)]) (w' := (qup (qup (qup (qup w 122 t9 bc) 122 f9 0) 123 f9 0) 123 t9 (w 123 f9))) (n' := 142) rfl ?_
                      refine qG.ret rfl (by first | rfl | exact decide_eq_true (by omega)) ?_
                      subst hQ9
                      exact ⟨rfl, by first | (exfalso; omega) | exact .inl ⟨by unfold movC; first | omega | (simp only [Int.toNat_natCast]; omega), rfl, rfl⟩ | exact .inr ⟨by unfold movC; first | omega | (simp only [Int.toNat_natCast]; omega), rfl, (fun j => by unfold nbF; (try simp (disch := decide) only [qup_ne, qup_if, Int.toNat_natCast]) <;> (repeat' split) <;> first | rfl | omega), (fun j => by unfold nkF; (try simp (disch := decide) only [qup_ne, qup_if, Int.toNat_natCast]) <;> (repeat' split) <;> first | rfl | omega), (fun j => by (try simp (disch := decide) only [qup_ne, qup_if, Int.toNat_natCast]) <;> (try rfl) <;> (repeat' split) <;> first | rfl | omega)⟩⟩
                  · skip
                    refine qG.blk 1 (pc' := 138) (ls' := [(2, 95), (0, ((f9 : Nat) : Int)), (0, ((t9 : Nat) : Int)), (0, bc), (0, w 123 f9)]) (st' := [(0, 1)]) (w' := (qup (qup (qup w 122 t9 bc) 122 f9 0) 123 f9 0)) (n' := 142) rfl ?_
                    refine qG.ret rfl (by first | rfl | exact decide_eq_true (by omega)) ?_
                    subst hQ9
                    exact ⟨rfl, by first | (exfalso; omega) | exact .inl ⟨by unfold movC; first | omega | (simp only [Int.toNat_natCast]; omega), rfl, rfl⟩ | exact .inr ⟨by unfold movC; first | omega | (simp only [Int.toNat_natCast]; omega), rfl, (fun j => by unfold nbF; (try simp (disch := decide) only [qup_ne, qup_if, Int.toNat_natCast]) <;> (repeat' split) <;> first | rfl | omega), (fun j => by unfold nkF; (try simp (disch := decide) only [qup_ne, qup_if, Int.toNat_natCast]) <;> (repeat' split) <;> first | rfl | omega), (fun j => by (try simp (disch := decide) only [qup_ne, qup_if, Int.toNat_natCast]) <;> (try rfl) <;> (repeat' split) <;> first | rfl | omega)⟩⟩
                · skip
                  refine qG.blk 2 (pc' := 114) (ls' := [(2, 95), (0, ((f9 : Nat) : Int)), (0, ((t9 : Nat) : Int)), (0, bc), (0, w 123 f9)]) (st' := [(2, w 95 54)]) (w' := (qup (qup w 122 t9 bc) 122 f9 0)) (n' := 142) rfl ?_
                  rw [show w 95 54 = 124 from zref hI rfl rfl]
                  refine qG.blk 1 (pc' := 115) (ls' := [(2, 95), (0, ((f9 : Nat) : Int)), (0, ((t9 : Nat) : Int)), (0, bc), (0, w 123 f9)]) (st' := [(0, ((t9 : Nat) : Int)), (2, 124)]) (w' := (qup (qup w 122 t9 bc) 122 f9 0)) (n' := 142) rfl ?_
                  refine qG.ar (P := 0 ≤ ((t9 : Nat) : Int) ∧ ((t9 : Nat) : Int) < ((64 : Nat) : Int)) (P2 := 0 < (124 : Int) ∧ (124 : Int) ≤ ((142 : Nat) : Int)) (pc' := 116) (ls' := [(2, 95), (0, ((f9 : Nat) : Int)), (0, ((t9 : Nat) : Int)), (0, bc), (0, w 123 f9)]) (st' := [(0, w 124 t9)]) (w' := (qup (qup w 122 t9 bc) 122 f9 0)) (n' := 142) rfl (by omega) (by decide) ?_
                  refine qG.br (P := w 124 t9 = 0) (pc1 := 119) (pc2 := 137) (st1 := []) rfl (fun h20 => ?_) (fun h20 => ?_)
                  · skip
                    refine qG.blk 2 (pc' := 123) (ls' := [(2, 95), (0, ((f9 : Nat) : Int)), (0, ((t9 : Nat) : Int)), (0, bc), (0, w 123 f9)]) (st' := [(2, w 95 53)]) (w' := (qup (qup w 122 t9 bc) 122 f9 0)) (n' := 142) rfl ?_
                    rw [show w 95 53 = 123 from zref hI rfl rfl]
                    refine qG.blk 2 (pc' := 126) (ls' := [(2, 95), (0, ((f9 : Nat) : Int)), (0, ((t9 : Nat) : Int)), (0, bc), (0, w 123 f9)]) (st' := [(0, w 123 f9), (0, ((t9 : Nat) : Int)), (2, 123)]) (w' := (qup (qup w 122 t9 bc) 122 f9 0)) (n' := 142) rfl ?_
                    refine qG.br (P := w 123 f9 = 0) (pc1 := 129) (pc2 := 134) (st1 := [(0, ((t9 : Nat) : Int)), (2, 123)]) rfl (fun h21 => ?_) (fun h21 => ?_)
                    · skip
                      refine qG.blk 2 (pc' := 136) (ls' := [(2, 95), (0, ((f9 : Nat) : Int)), (0, ((t9 : Nat) : Int)), (0, bc), (0, w 123 f9)]) (st' := [(0, 13), (0, ((t9 : Nat) : Int)), (2, 123)]) (w' := (qup (qup w 122 t9 bc) 122 f9 0)) (n' := 142) rfl ?_
                      refine qG.ar (P := 0 ≤ ((t9 : Nat) : Int) ∧ ((t9 : Nat) : Int) < ((64 : Nat) : Int)) (P2 := 0 < (123 : Int) ∧ (123 : Int) ≤ ((142 : Nat) : Int)) (pc' := 137) (ls' := [(2, 95), (0, ((f9 : Nat) : Int)), (0, ((t9 : Nat) : Int)), (0, bc), (0, w 123 f9)]) (st' := []) (w' := (qup (qup (qup w 122 t9 bc) 122 f9 0) 123 t9 13)) (n' := 142) rfl (by omega) (by decide) ?_
                      refine qG.blk 1 (pc' := 138) (ls' := [(2, 95), (0, ((f9 : Nat) : Int)), (0, ((t9 : Nat) : Int)), (0, bc), (0, w 123 f9)]) (st' := [(0, 1)]) (w' := (qup (qup (qup w 122 t9 bc) 122 f9 0) 123 t9 13)) (n' := 142) rfl ?_
                      refine qG.ret rfl (by first | rfl | exact decide_eq_true (by omega)) ?_
                      subst hQ9
                      exact ⟨rfl, by first | (exfalso; omega) | exact .inl ⟨by unfold movC; first | omega | (simp only [Int.toNat_natCast]; omega), rfl, rfl⟩ | exact .inr ⟨by unfold movC; first | omega | (simp only [Int.toNat_natCast]; omega), rfl, (fun j => by unfold nbF; (try simp (disch := decide) only [qup_ne, qup_if, Int.toNat_natCast]) <;> (repeat' split) <;> first | rfl | omega), (fun j => by unfold nkF; (try simp (disch := decide) only [qup_ne, qup_if, Int.toNat_natCast]) <;> (repeat' split) <;> first | rfl | omega), (fun j => by (try simp (disch := decide) only [qup_ne, qup_if, Int.toNat_natCast]) <;> (try rfl) <;> (repeat' split) <;> first | rfl | omega)⟩⟩
                    · skip
                      refine qG.blk 1 (pc' := 136) (ls' := [(2, 95), (0, ((f9 : Nat) : Int)), (0, ((t9 : Nat) : Int)), (0, bc), (0, w 123 f9)]) (st' := [(0, w 123 f9), (0, ((t9 : Nat) : Int)), (2, 123)]) (w' := (qup (qup w 122 t9 bc) 122 f9 0)) (n' := 142) rfl ?_
                      refine qG.ar (P := 0 ≤ ((t9 : Nat) : Int) ∧ ((t9 : Nat) : Int) < ((64 : Nat) : Int)) (P2 := 0 < (123 : Int) ∧ (123 : Int) ≤ ((142 : Nat) : Int)) (pc' := 137) (ls' := [(2, 95), (0, ((f9 : Nat) : Int)), (0, ((t9 : Nat) : Int)), (0, bc), (0, w 123 f9)]) (st' := []) (w' := (qup (qup (qup w 122 t9 bc) 122 f9 0) 123 t9 (w 123 f9))) (n' := 142) rfl (by omega) (by decide) ?_
                      refine qG.blk 1 (pc' := 138) (ls' := [(2, 95), (0, ((f9 : Nat) : Int)), (0, ((t9 : Nat) : Int)), (0, bc), (0, w 123 f9)]) (st' := [(0, 1)]) (w' := (qup (qup (qup w 122 t9 bc) 122 f9 0) 123 t9 (w 123 f9))) (n' := 142) rfl ?_
                      refine qG.ret rfl (by first | rfl | exact decide_eq_true (by omega)) ?_
                      subst hQ9
                      exact ⟨rfl, by first | (exfalso; omega) | exact .inl ⟨by unfold movC; first | omega | (simp only [Int.toNat_natCast]; omega), rfl, rfl⟩ | exact .inr ⟨by unfold movC; first | omega | (simp only [Int.toNat_natCast]; omega), rfl, (fun j => by unfold nbF; (try simp (disch := decide) only [qup_ne, qup_if, Int.toNat_natCast]) <;> (repeat' split) <;> first | rfl | omega), (fun j => by unfold nkF; (try simp (disch := decide) only [qup_ne, qup_if, Int.toNat_natCast]) <;> (repeat' split) <;> first | rfl | omega), (fun j => by (try simp (disch := decide) only [qup_ne, qup_if, Int.toNat_natCast]) <;> (try rfl) <;> (repeat' split) <;> first | rfl | omega)⟩⟩
                  · skip
                    refine qG.blk 1 (pc' := 138) (ls' := [(2, 95), (0, ((f9 : Nat) : Int)), (0, ((t9 : Nat) : Int)), (0, bc), (0, w 123 f9)]) (st' := [(0, 1)]) (w' := (qup (qup w 122 t9 bc) 122 f9 0)) (n' := 142) rfl ?_
                    refine qG.ret rfl (by first | rfl | exact decide_eq_true (by omega)) ?_
                    subst hQ9
                    exact ⟨rfl, by first | (exfalso; omega) | exact .inl ⟨by unfold movC; first | omega | (simp only [Int.toNat_natCast]; omega), rfl, rfl⟩ | exact .inr ⟨by unfold movC; first | omega | (simp only [Int.toNat_natCast]; omega), rfl, (fun j => by unfold nbF; (try simp (disch := decide) only [qup_ne, qup_if, Int.toNat_natCast]) <;> (repeat' split) <;> first | rfl | omega), (fun j => by unfold nkF; (try simp (disch := decide) only [qup_ne, qup_if, Int.toNat_natCast]) <;> (repeat' split) <;> first | rfl | omega), (fun j => by (try simp (disch := decide) only [qup_ne, qup_if, Int.toNat_natCast]) <;> (try rfl) <;> (repeat' split) <;> first | rfl | omega)⟩⟩
              · skip
                refine qG.blk 5 (pc' := 98) (ls' := [(2, 95), (0, ((f9 : Nat) : Int)), (0, ((t9 : Nat) : Int)), (0, bc), (0, 0)]) (st' := [(2, w 95 54)]) (w' := (qup (qup w 122 t9 bc) 122 f9 0)) (n' := 142) rfl ?_
                rw [show w 95 54 = 124 from zref hI rfl rfl]
                refine qG.blk 1 (pc' := 99) (ls' := [(2, 95), (0, ((f9 : Nat) : Int)), (0, ((t9 : Nat) : Int)), (0, bc), (0, 0)]) (st' := [(0, ((f9 : Nat) : Int)), (2, 124)]) (w' := (qup (qup w 122 t9 bc) 122 f9 0)) (n' := 142) rfl ?_
                refine qG.ar (P := 0 ≤ ((f9 : Nat) : Int) ∧ ((f9 : Nat) : Int) < ((64 : Nat) : Int)) (P2 := 0 < (124 : Int) ∧ (124 : Int) ≤ ((142 : Nat) : Int)) (pc' := 100) (ls' := [(2, 95), (0, ((f9 : Nat) : Int)), (0, ((t9 : Nat) : Int)), (0, bc), (0, 0)]) (st' := [(0, w 124 f9)]) (w' := (qup (qup w 122 t9 bc) 122 f9 0)) (n' := 142) rfl (by omega) (by decide) ?_
                refine qG.br (P := w 124 f9 = 0) (pc1 := 103) (pc2 := 110) (st1 := []) rfl (fun h22 => ?_) (fun h22 => ?_)
                · skip
                  refine qG.blk 2 (pc' := 107) (ls' := [(2, 95), (0, ((f9 : Nat) : Int)), (0, ((t9 : Nat) : Int)), (0, bc), (0, 0)]) (st' := [(2, w 95 53)]) (w' := (qup (qup w 122 t9 bc) 122 f9 0)) (n' := 142) rfl ?_
                  rw [show w 95 53 = 123 from zref hI rfl rfl]
                  refine qG.blk 2 (pc' := 109) (ls' := [(2, 95), (0, ((f9 : Nat) : Int)), (0, ((t9 : Nat) : Int)), (0, bc), (0, 0)]) (st' := [(0, 0), (0, ((f9 : Nat) : Int)), (2, 123)]) (w' := (qup (qup w 122 t9 bc) 122 f9 0)) (n' := 142) rfl ?_
                  refine qG.ar (P := 0 ≤ ((f9 : Nat) : Int) ∧ ((f9 : Nat) : Int) < ((64 : Nat) : Int)) (P2 := 0 < (123 : Int) ∧ (123 : Int) ≤ ((142 : Nat) : Int)) (pc' := 110) (ls' := [(2, 95), (0, ((f9 : Nat) : Int)), (0, ((t9 : Nat) : Int)), (0, bc), (0, 0)]) (st' := []) (w' := (qup (qup (qup w 122 t9 bc) 122 f9 0) 123 f9 0)) (n' := 142) rfl (by omega) (by decide) ?_
                  refine qG.blk 2 (pc' := 114) (ls' := [(2, 95), (0, ((f9 : Nat) : Int)), (0, ((t9 : Nat) : Int)), (0, bc), (0, 0)]) (st' := [(2, w 95 54)]) (w' := (qup (qup (qup w 122 t9 bc) 122 f9 0) 123 f9 0)) (n' := 142) rfl ?_
                  rw [show w 95 54 = 124 from zref hI rfl rfl]
                  refine qG.blk 1 (pc' := 115) (ls' := [(2, 95), (0, ((f9 : Nat) : Int)), (0, ((t9 : Nat) : Int)), (0, bc), (0, 0)]) (st' := [(0, ((t9 : Nat) : Int)), (2, 124)]) (w' := (qup (qup (qup w 122 t9 bc) 122 f9 0) 123 f9 0)) (n' := 142) rfl ?_
                  refine qG.ar (P := 0 ≤ ((t9 : Nat) : Int) ∧ ((t9 : Nat) : Int) < ((64 : Nat) : Int)) (P2 := 0 < (124 : Int) ∧ (124 : Int) ≤ ((142 : Nat) : Int)) (pc' := 116) (ls' := [(2, 95), (0, ((f9 : Nat) : Int)), (0, ((t9 : Nat) : Int)), (0, bc), (0, 0)]) (st' := [(0, w 124 t9)]) (w' := (qup (qup (qup w 122 t9 bc) 122 f9 0) 123 f9 0)) (n' := 142) rfl (by omega) (by decide) ?_
                  refine qG.br (P := w 124 t9 = 0) (pc1 := 119) (pc2 := 137) (st1 := []) rfl (fun h23 => ?_) (fun h23 => ?_)
                  · skip
                    refine qG.blk 2 (pc' := 123) (ls' := [(2, 95), (0, ((f9 : Nat) : Int)), (0, ((t9 : Nat) : Int)), (0, bc), (0, 0)]) (st' := [(2, w 95 53)]) (w' := (qup (qup (qup w 122 t9 bc) 122 f9 0) 123 f9 0)) (n' := 142) rfl ?_
                    rw [show w 95 53 = 123 from zref hI rfl rfl]
                    refine qG.blk 2 (pc' := 126) (ls' := [(2, 95), (0, ((f9 : Nat) : Int)), (0, ((t9 : Nat) : Int)), (0, bc), (0, 0)]) (st' := [(0, 0), (0, ((t9 : Nat) : Int)), (2, 123)]) (w' := (qup (qup (qup w 122 t9 bc) 122 f9 0) 123 f9 0)) (n' := 142) rfl ?_
                    refine qG.br (P := (0 : Int) = 0) (pc1 := 129) (pc2 := 134) (st1 := [(0, ((t9 : Nat) : Int)), (2, 123)]) rfl (fun h24 => ?_) (fun h24 => ?_)
                    · skip
                      refine qG.blk 2 (pc' := 136) (ls' := [(2, 95), (0, ((f9 : Nat) : Int)), (0, ((t9 : Nat) : Int)), (0, bc), (0, 0)]) (st' := [(0, 13), (0, ((t9 : Nat) : Int)), (2, 123)]) (w' := (qup (qup (qup w 122 t9 bc) 122 f9 0) 123 f9 0)) (n' := 142) rfl ?_
                      refine qG.ar (P := 0 ≤ ((t9 : Nat) : Int) ∧ ((t9 : Nat) : Int) < ((64 : Nat) : Int)) (P2 := 0 < (123 : Int) ∧ (123 : Int) ≤ ((142 : Nat) : Int)) (pc' := 137) (ls' := [(2, 95), (0, ((f9 : Nat) : Int)), (0, ((t9 : Nat) : Int)), (0, bc), (0, 0)]) (st' := []) (w' := (qup (qup (qup (qup w 122 t9 bc) 122 f9 0) 123 f9 0) 123 t9 13)) (n' := 142) rfl (by omega) (by decide) ?_
                      refine qG.blk 1 (pc' := 138) (ls' := [(2, 95), (0, ((f9 : Nat) : Int)), (0, ((t9 : Nat) : Int)), (0, bc), (0, 0)]) (st' := [(0, 1)]) (w' := (qup (qup (qup (qup w 122 t9 bc) 122 f9 0) 123 f9 0) 123 t9 13)) (n' := 142) rfl ?_
                      refine qG.ret rfl (by first | rfl | exact decide_eq_true (by omega)) ?_
                      subst hQ9
                      exact ⟨rfl, by first | (exfalso; omega) | exact .inl ⟨by unfold movC; first | omega | (simp only [Int.toNat_natCast]; omega), rfl, rfl⟩ | exact .inr ⟨by unfold movC; first | omega | (simp only [Int.toNat_natCast]; omega), rfl, (fun j => by unfold nbF; (try simp (disch := decide) only [qup_ne, qup_if, Int.toNat_natCast]) <;> (repeat' split) <;> first | rfl | omega), (fun j => by unfold nkF; (try simp (disch := decide) only [qup_ne, qup_if, Int.toNat_natCast]) <;> (repeat' split) <;> first | rfl | omega), (fun j => by (try simp (disch := decide) only [qup_ne, qup_if, Int.toNat_natCast]) <;> (try rfl) <;> (repeat' split) <;> first | rfl | omega)⟩⟩
                    · exact absurd h24 (by decide)
                  · skip
                    refine qG.blk 1 (pc' := 138) (ls' := [(2, 95), (0, ((f9 : Nat) : Int)), (0, ((t9 : Nat) : Int)), (0, bc), (0, 0)]) (st' := [(0, 1)]) (w' := (qup (qup (qup w 122 t9 bc) 122 f9 0) 123 f9 0)) (n' := 142) rfl ?_
                    refine qG.ret rfl (by first | rfl | exact decide_eq_true (by omega)) ?_
                    subst hQ9
                    exact ⟨rfl, by first | (exfalso; omega) | exact .inl ⟨by unfold movC; first | omega | (simp only [Int.toNat_natCast]; omega), rfl, rfl⟩ | exact .inr ⟨by unfold movC; first | omega | (simp only [Int.toNat_natCast]; omega), rfl, (fun j => by unfold nbF; (try simp (disch := decide) only [qup_ne, qup_if, Int.toNat_natCast]) <;> (repeat' split) <;> first | rfl | omega), (fun j => by unfold nkF; (try simp (disch := decide) only [qup_ne, qup_if, Int.toNat_natCast]) <;> (repeat' split) <;> first | rfl | omega), (fun j => by (try simp (disch := decide) only [qup_ne, qup_if, Int.toNat_natCast]) <;> (try rfl) <;> (repeat' split) <;> first | rfl | omega)⟩⟩
                · skip
                  refine qG.blk 2 (pc' := 114) (ls' := [(2, 95), (0, ((f9 : Nat) : Int)), (0, ((t9 : Nat) : Int)), (0, bc), (0, 0)]) (st' := [(2, w 95 54)]) (w' := (qup (qup w 122 t9 bc) 122 f9 0)) (n' := 142) rfl ?_
                  rw [show w 95 54 = 124 from zref hI rfl rfl]
                  refine qG.blk 1 (pc' := 115) (ls' := [(2, 95), (0, ((f9 : Nat) : Int)), (0, ((t9 : Nat) : Int)), (0, bc), (0, 0)]) (st' := [(0, ((t9 : Nat) : Int)), (2, 124)]) (w' := (qup (qup w 122 t9 bc) 122 f9 0)) (n' := 142) rfl ?_
                  refine qG.ar (P := 0 ≤ ((t9 : Nat) : Int) ∧ ((t9 : Nat) : Int) < ((64 : Nat) : Int)) (P2 := 0 < (124 : Int) ∧ (124 : Int) ≤ ((142 : Nat) : Int)) (pc' := 116) (ls' := [(2, 95), (0, ((f9 : Nat) : Int)), (0, ((t9 : Nat) : Int)), (0, bc), (0, 0)]) (st' := [(0, w 124 t9)]) (w' := (qup (qup w 122 t9 bc) 122 f9 0)) (n' := 142) rfl (by omega) (by decide) ?_
                  refine qG.br (P := w 124 t9 = 0) (pc1 := 119) (pc2 := 137) (st1 := []) rfl (fun h25 => ?_) (fun h25 => ?_)
                  · skip
                    refine qG.blk 2 (pc' := 123) (ls' := [(2, 95), (0, ((f9 : Nat) : Int)), (0, ((t9 : Nat) : Int)), (0, bc), (0, 0)]) (st' := [(2, w 95 53)]) (w' := (qup (qup w 122 t9 bc) 122 f9 0)) (n' := 142) rfl ?_
                    rw [show w 95 53 = 123 from zref hI rfl rfl]
                    refine qG.blk 2 (pc' := 126) (ls' := [(2, 95), (0, ((f9 : Nat) : Int)), (0, ((t9 : Nat) : Int)), (0, bc), (0, 0)]) (st' := [(0, 0), (0, ((t9 : Nat) : Int)), (2, 123)]) (w' := (qup (qup w 122 t9 bc) 122 f9 0)) (n' := 142) rfl ?_
                    refine qG.br (P := (0 : Int) = 0) (pc1 := 129) (pc2 := 134) (st1 := [(0, ((t9 : Nat) : Int)), (2, 123)]) rfl (fun h26 => ?_) (fun h26 => ?_)
                    · skip
                      refine qG.blk 2 (pc' := 136) (ls' := [(2, 95), (0, ((f9 : Nat) : Int)), (0, ((t9 : Nat) : Int)), (0, bc), (0, 0)]) (st' := [(0, 13), (0, ((t9 : Nat) : Int)), (2, 123)]) (w' := (qup (qup w 122 t9 bc) 122 f9 0)) (n' := 142) rfl ?_
                      refine qG.ar (P := 0 ≤ ((t9 : Nat) : Int) ∧ ((t9 : Nat) : Int) < ((64 : Nat) : Int)) (P2 := 0 < (123 : Int) ∧ (123 : Int) ≤ ((142 : Nat) : Int)) (pc' := 137) (ls' := [(2, 95), (0, ((f9 : Nat) : Int)), (0, ((t9 : Nat) : Int)), (0, bc), (0, 0)]) (st' := []) (w' := (qup (qup (qup w 122 t9 bc) 122 f9 0) 123 t9 13)) (n' := 142) rfl (by omega) (by decide) ?_
                      refine qG.blk 1 (pc' := 138) (ls' := [(2, 95), (0, ((f9 : Nat) : Int)), (0, ((t9 : Nat) : Int)), (0, bc), (0, 0)]) (st' := [(0, 1)]) (w' := (qup (qup (qup w 122 t9 bc) 122 f9 0) 123 t9 13)) (n' := 142) rfl ?_
                      refine qG.ret rfl (by first | rfl | exact decide_eq_true (by omega)) ?_
                      subst hQ9
                      exact ⟨rfl, by first | (exfalso; omega) | exact .inl ⟨by unfold movC; first | omega | (simp only [Int.toNat_natCast]; omega), rfl, rfl⟩ | exact .inr ⟨by unfold movC; first | omega | (simp only [Int.toNat_natCast]; omega), rfl, (fun j => by unfold nbF; (try simp (disch := decide) only [qup_ne, qup_if, Int.toNat_natCast]) <;> (repeat' split) <;> first | rfl | omega), (fun j => by unfold nkF; (try simp (disch := decide) only [qup_ne, qup_if, Int.toNat_natCast]) <;> (repeat' split) <;> first | rfl | omega), (fun j => by (try simp (disch := decide) only [qup_ne, qup_if, Int.toNat_natCast]) <;> (try rfl) <;> (repeat' split) <;> first | rfl | omega)⟩⟩
                    · exact absurd h26 (by decide)
                  · skip
                    refine qG.blk 1 (pc' := 138) (ls' := [(2, 95), (0, ((f9 : Nat) : Int)), (0, ((t9 : Nat) : Int)), (0, bc), (0, 0)]) (st' := [(0, 1)]) (w' := (qup (qup w 122 t9 bc) 122 f9 0)) (n' := 142) rfl ?_
                    refine qG.ret rfl (by first | rfl | exact decide_eq_true (by omega)) ?_
                    subst hQ9
                    exact ⟨rfl, by first | (exfalso; omega) | exact .inl ⟨by unfold movC; first | omega | (simp only [Int.toNat_natCast]; omega), rfl, rfl⟩ | exact .inr ⟨by unfold movC; first | omega | (simp only [Int.toNat_natCast]; omega), rfl, (fun j => by unfold nbF; (try simp (disch := decide) only [qup_ne, qup_if, Int.toNat_natCast]) <;> (repeat' split) <;> first | rfl | omega), (fun j => by unfold nkF; (try simp (disch := decide) only [qup_ne, qup_if, Int.toNat_natCast]) <;> (repeat' split) <;> first | rfl | omega), (fun j => by (try simp (disch := decide) only [qup_ne, qup_if, Int.toNat_natCast]) <;> (try rfl) <;> (repeat' split) <;> first | rfl | omega)⟩⟩
          · skip
            refine qG.blk 3 (pc' := 37) (ls' := [(2, 95), (0, ((f9 : Nat) : Int)), (0, ((t9 : Nat) : Int)), (0, bc), (9, 0)]) (st' := [(0, 12), (0, 1), (0, bc)]) (w' := w) (n' := 142) rfl ?_
            refine qG.call (t := 206) (na := 3) (sk := 0) (md := 0) (ls1 := [(0, bc), (0, 1), (0, 12)]) (r1 := []) rfl rfl rfl rfl rfl (K_isIn (Nat.zero_le _) _ _ _ _) ?_
            rintro _ w7 _ ⟨rfl, hw7, rfl⟩
            rw [hw7]
            show qG none (d + 1) 277 40 [(2, 95), (0, ((f9 : Nat) : Int)), (0, ((t9 : Nat) : Int)), (0, bc), (9, 0)] [(0, isInV (bc) (1) (12))] w 142 Q9
            refine qG.br (P := isInV (bc) (1) (12) = 0) (pc1 := 43) (pc2 := 45) (st1 := []) rfl (fun h5 => ?_) (fun h5 => ?_)
            · skip
              rw [isIn_b] at h5
              refine qG.blk 1 (pc' := 44) (ls' := [(2, 95), (0, ((f9 : Nat) : Int)), (0, ((t9 : Nat) : Int)), (0, bc), (9, 0)]) (st' := [(0, 0)]) (w' := w) (n' := 142) rfl ?_
              refine qG.ret rfl (by first | rfl | exact decide_eq_true (by omega)) ?_
              subst hQ9
              exact ⟨rfl, by first | (exfalso; omega) | exact .inl ⟨by unfold movC; first | omega | (simp only [Int.toNat_natCast]; omega), rfl, rfl⟩ | exact .inr ⟨by unfold movC; first | omega | (simp only [Int.toNat_natCast]; omega), rfl, (fun j => by unfold nbF; (try simp (disch := decide) only [qup_ne, qup_if, Int.toNat_natCast]) <;> (repeat' split) <;> first | rfl | omega), (fun j => by unfold nkF; (try simp (disch := decide) only [qup_ne, qup_if, Int.toNat_natCast]) <;> (repeat' split) <;> first | rfl | omega), (fun j => by (try simp (disch := decide) only [qup_ne, qup_if, Int.toNat_natCast]) <;> (try rfl) <;> (repeat' split) <;> first | rfl | omega)⟩⟩
            · skip
              rw [isIn_p] at h5
              refine qG.blk 2 (pc' := 49) (ls' := [(2, 95), (0, ((f9 : Nat) : Int)), (0, ((t9 : Nat) : Int)), (0, bc), (9, 0)]) (st' := [(2, w 95 52)]) (w' := w) (n' := 142) rfl ?_
              rw [show w 95 52 = 122 from zref hI rfl rfl]
              refine qG.blk 3 (pc' := 52) (ls' := [(2, 95), (0, ((f9 : Nat) : Int)), (0, ((t9 : Nat) : Int)), (0, bc), (9, 0)]) (st' := [(0, (-1)), (0, bc), (0, ((t9 : Nat) : Int)), (2, 122)]) (w' := w) (n' := 142) rfl ?_
              refine qG.br (P := bc = (-1)) (pc1 := 55) (pc2 := 64) (st1 := [(0, ((t9 : Nat) : Int)), (2, 122)]) rfl (fun h27 => ?_) (fun h27 => ?_)
              · skip
                refine qG.blk 2 (pc' := 59) (ls' := [(2, 95), (0, ((f9 : Nat) : Int)), (0, ((t9 : Nat) : Int)), (0, bc), (9, 0)]) (st' := [(2, w 95 52), (0, ((t9 : Nat) : Int)), (2, 122)]) (w' := w) (n' := 142) rfl ?_
                rw [show w 95 52 = 122 from zref hI rfl rfl]
                refine qG.blk 1 (pc' := 60) (ls' := [(2, 95), (0, ((f9 : Nat) : Int)), (0, ((t9 : Nat) : Int)), (0, bc), (9, 0)]) (st' := [(0, ((f9 : Nat) : Int)), (2, 122), (0, ((t9 : Nat) : Int)), (2, 122)]) (w' := w) (n' := 142) rfl ?_
                refine qG.ar (P := 0 ≤ ((f9 : Nat) : Int) ∧ ((f9 : Nat) : Int) < ((64 : Nat) : Int)) (P2 := 0 < (122 : Int) ∧ (122 : Int) ≤ ((142 : Nat) : Int)) (pc' := 61) (ls' := [(2, 95), (0, ((f9 : Nat) : Int)), (0, ((t9 : Nat) : Int)), (0, bc), (9, 0)]) (st' := [(0, w 122 f9), (0, ((t9 : Nat) : Int)), (2, 122)]) (w' := w) (n' := 142) rfl (by omega) (by decide) ?_
                refine qG.blk 1 (pc' := 65) (ls' := [(2, 95), (0, ((f9 : Nat) : Int)), (0, ((t9 : Nat) : Int)), (0, bc), (9, 0)]) (st' := [(0, w 122 f9), (0, ((t9 : Nat) : Int)), (2, 122)]) (w' := w) (n' := 142) rfl ?_
                refine qG.ar (P := 0 ≤ ((t9 : Nat) : Int) ∧ ((t9 : Nat) : Int) < ((64 : Nat) : Int)) (P2 := 0 < (122 : Int) ∧ (122 : Int) ≤ ((142 : Nat) : Int)) (pc' := 66) (ls' := [(2, 95), (0, ((f9 : Nat) : Int)), (0, ((t9 : Nat) : Int)), (0, bc), (9, 0)]) (st' := []) (w' := (qup w 122 t9 (w 122 f9))) (n' := 142) rfl (by omega) (by decide) ?_
                refine qG.blk 2 (pc' := 70) (ls' := [(2, 95), (0, ((f9 : Nat) : Int)), (0, ((t9 : Nat) : Int)), (0, bc), (9, 0)]) (st' := [(2, w 95 52)]) (w' := (qup w 122 t9 (w 122 f9))) (n' := 142) rfl ?_
                rw [show w 95 52 = 122 from zref hI rfl rfl]
                refine qG.blk 2 (pc' := 72) (ls' := [(2, 95), (0, ((f9 : Nat) : Int)), (0, ((t9 : Nat) : Int)), (0, bc), (9, 0)]) (st' := [(0, 0), (0, ((f9 : Nat) : Int)), (2, 122)]) (w' := (qup w 122 t9 (w 122 f9))) (n' := 142) rfl ?_
                refine qG.ar (P := 0 ≤ ((f9 : Nat) : Int) ∧ ((f9 : Nat) : Int) < ((64 : Nat) : Int)) (P2 := 0 < (122 : Int) ∧ (122 : Int) ≤ ((142 : Nat) : Int)) (pc' := 73) (ls' := [(2, 95), (0, ((f9 : Nat) : Int)), (0, ((t9 : Nat) : Int)), (0, bc), (9, 0)]) (st' := []) (w' := (qup (qup w 122 t9 (w 122 f9)) 122 f9 0)) (n' := 142) rfl (by omega) (by decide) ?_
                refine qG.blk 2 (pc' := 77) (ls' := [(2, 95), (0, ((f9 : Nat) : Int)), (0, ((t9 : Nat) : Int)), (0, bc), (9, 0)]) (st' := [(2, w 95 54)]) (w' := (qup (qup w 122 t9 (w 122 f9)) 122 f9 0)) (n' := 142) rfl ?_
                rw [show w 95 54 = 124 from zref hI rfl rfl]
                refine qG.blk 1 (pc' := 78) (ls' := [(2, 95), (0, ((f9 : Nat) : Int)), (0, ((t9 : Nat) : Int)), (0, bc), (9, 0)]) (st' := [(0, ((f9 : Nat) : Int)), (2, 124)]) (w' := (qup (qup w 122 t9 (w 122 f9)) 122 f9 0)) (n' := 142) rfl ?_
                refine qG.ar (P := 0 ≤ ((f9 : Nat) : Int) ∧ ((f9 : Nat) : Int) < ((64 : Nat) : Int)) (P2 := 0 < (124 : Int) ∧ (124 : Int) ≤ ((142 : Nat) : Int)) (pc' := 79) (ls' := [(2, 95), (0, ((f9 : Nat) : Int)), (0, ((t9 : Nat) : Int)), (0, bc), (9, 0)]) (st' := [(0, w 124 f9)]) (w' := (qup (qup w 122 t9 (w 122 f9)) 122 f9 0)) (n' := 142) rfl (by omega) (by decide) ?_
                refine qG.br (P := w 124 f9 = 0) (pc1 := 86) (pc2 := 82) (st1 := []) rfl (fun h28 => ?_) (fun h28 => ?_)
                · skip
                  refine qG.blk 2 (pc' := 90) (ls' := [(2, 95), (0, ((f9 : Nat) : Int)), (0, ((t9 : Nat) : Int)), (0, bc), (9, 0)]) (st' := [(2, w 95 53)]) (w' := (qup (qup w 122 t9 (w 122 f9)) 122 f9 0)) (n' := 142) rfl ?_
                  rw [show w 95 53 = 123 from zref hI rfl rfl]
                  refine qG.blk 1 (pc' := 91) (ls' := [(2, 95), (0, ((f9 : Nat) : Int)), (0, ((t9 : Nat) : Int)), (0, bc), (9, 0)]) (st' := [(0, ((f9 : Nat) : Int)), (2, 123)]) (w' := (qup (qup w 122 t9 (w 122 f9)) 122 f9 0)) (n' := 142) rfl ?_
                  refine qG.ar (P := 0 ≤ ((f9 : Nat) : Int) ∧ ((f9 : Nat) : Int) < ((64 : Nat) : Int)) (P2 := 0 < (123 : Int) ∧ (123 : Int) ≤ ((142 : Nat) : Int)) (pc' := 92) (ls' := [(2, 95), (0, ((f9 : Nat) : Int)), (0, ((t9 : Nat) : Int)), (0, bc), (9, 0)]) (st' := [(0, w 123 f9)]) (w' := (qup (qup w 122 t9 (w 122 f9)) 122 f9 0)) (n' := 142) rfl (by omega) (by decide) ?_
                  refine qG.blk 3 (pc' := 98) (ls' := [(2, 95), (0, ((f9 : Nat) : Int)), (0, ((t9 : Nat) : Int)), (0, bc), (0, w 123 f9)]) (st' := [(2, w 95 54)]) (w' := (qup (qup w 122 t9 (w 122 f9)) 122 f9 0)) (n' := 142) rfl ?_
                  rw [show w 95 54 = 124 from zref hI rfl rfl]
                  refine qG.blk 1 (pc' := 99) (ls' := [(2, 95), (0, ((f9 : Nat) : Int)), (0, ((t9 : Nat) : Int)), (0, bc), (0, w 123 f9)]) (st' := [(0, ((f9 : Nat) : Int)), (2, 124)]) (w' := (qup (qup w 122 t9 (w 122 f9)) 122 f9 0)) (n' := 142) rfl ?_
                  refine qG.ar (P := 0 ≤ ((f9 : Nat) : Int) ∧ ((f9 : Nat) : Int) < ((64 : Nat) : Int)) (P2 := 0 < (124 : Int) ∧ (124 : Int) ≤ ((142 : Nat) : Int)) (pc' := 100) (ls' := [(2, 95), (0, ((f9 : Nat) : Int)), (0, ((t9 : Nat) : Int)), (0, bc), (0, w 123 f9)]) (st' := [(0, w 124 f9)]) (w' := (qup (qup w 122 t9 (w 122 f9)) 122 f9 0)) (n' := 142) rfl (by omega) (by decide) ?_
                  refine qG.br (P := w 124 f9 = 0) (pc1 := 103) (pc2 := 110) (st1 := []) rfl (fun h29 => ?_) (fun h29 => ?_)
                  · skip
                    refine qG.blk 2 (pc' := 107) (ls' := [(2, 95), (0, ((f9 : Nat) : Int)), (0, ((t9 : Nat) : Int)), (0, bc), (0, w 123 f9)]) (st' := [(2, w 95 53)]) (w' := (qup (qup w 122 t9 (w 122 f9)) 122 f9 0)) (n' := 142) rfl ?_
                    rw [show w 95 53 = 123 from zref hI rfl rfl]
                    refine qG.blk 2 (pc' := 109) (ls' := [(2, 95), (0, ((f9 : Nat) : Int)), (0, ((t9 : Nat) : Int)), (0, bc), (0, w 123 f9)]) (st' := [(0, 0), (0, ((f9 : Nat) : Int)), (2, 123)]) (w' := (qup (qup w 122 t9 (w 122 f9)) 122 f9 0)) (n' := 142) rfl ?_
                    refine qG.ar (P := 0 ≤ ((f9 : Nat) : Int) ∧ ((f9 : Nat) : Int) < ((64 : Nat) : Int)) (P2 := 0 < (123 : Int) ∧ (123 : Int) ≤ ((142 : Nat) : Int)) (pc' := 110) (ls' := [(2, 95), (0, ((f9 : Nat) : Int)), (0, ((t9 : Nat) : Int)), (0, bc), (0, w 123 f9)]) (st' := []) (w' := (qup (qup (qup w 122 t9 (w 122 f9)) 122 f9 0) 123 f9 0)) (n' := 142) rfl (by omega) (by decide) ?_
                    refine qG.blk 2 (pc' := 114) (ls' := [(2, 95), (0, ((f9 : Nat) : Int)), (0, ((t9 : Nat) : Int)), (0, bc), (0, w 123 f9)]) (st' := [(2, w 95 54)]) (w' := (qup (qup (qup w 122 t9 (w 122 f9)) 122 f9 0) 123 f9 0)) (n' := 142) rfl ?_
                    rw [show w 95 54 = 124 from zref hI rfl rfl]
                    refine qG.blk 1 (pc' := 115) (ls' := [(2, 95), (0, ((f9 : Nat) : Int)), (0, ((t9 : Nat) : Int)), (0, bc), (0, w 123 f9)]) (st' := [(0, ((t9 : Nat) : Int)), (2, 124)]) (w' := (qup (qup (qup w 122 t9 (w 122 f9)) 122 f9 0) 123 f9 0)) (n' := 142) rfl ?_
                    refine qG.ar (P := 0 ≤ ((t9 : Nat) : Int) ∧ ((t9 : Nat) : Int) < ((64 : Nat) : Int)) (P2 := 0 < (124 : Int) ∧ (124 : Int) ≤ ((142 : Nat) : Int)) (pc' := 116) (ls' := [(2, 95), (0, ((f9 : Nat) : Int)), (0, ((t9 : Nat) : Int)), (0, bc), (0, w 123 f9)]) (st' := [(0, w 124 t9)]) (w' := (qup (qup (qup w 122 t9 (w 122 f9)) 122 f9 0) 123 f9 0)) (n' := 142) rfl (by omega) (by decide) ?_
                    refine qG.br (P := w 124 t9 = 0) (pc1 := 119) (pc2 := 137) (st1 := []) rfl (fun h30 => ?_) (fun h30 => ?_)
                    · skip
                      refine qG.blk 2 (pc' := 123) (ls' := [(2, 95), (0, ((f9 : Nat) : Int)), (0, ((t9 : Nat) : Int)), (0, bc), (0, w 123 f9)]) (st' := [(2, w 95 53)]) (w' := (qup (qup (qup w 122 t9 (w 122 f9)) 122 f9 0) 123 f9 0)) (n' := 142) rfl ?_
                      rw [show w 95 53 = 123 from zref hI rfl rfl]
                      refine qG.blk 2 (pc' := 126) (ls' := [(2, 95), (0, ((f9 : Nat) : Int)), (0, ((t9 : Nat) : Int)), (0, bc), (0, w 123 f9)]) (st' := [(0, w 123 f9), (0, ((t9 : Nat) : Int)), (2, 123)]) (w' := (qup (qup (qup w 122 t9 (w 122 f9)) 122 f9 0) 123 f9 0)) (n' := 142) rfl ?_
                      refine qG.br (P := w 123 f9 = 0) (pc1 := 129) (pc2 := 134) (st1 := [(0, ((t9 : Nat) : Int)), (2, 123)]) rfl (fun h31 => ?_) (fun h31 => ?_)
                      · skip
                        refine qG.blk 2 (pc' := 136) (ls' := [(2, 95), (0, ((f9 : Nat) : Int)), (0, ((t9 : Nat) : Int)), (0, bc), (0, w 123 f9)]) (st' := [(0, 13), (0, ((t9 : Nat) : Int)), (2, 123)]) (w' := (qup (qup (qup w 122 t9 (w 122 f9)) 122 f9 0) 123 f9 0)) (n' := 142) rfl ?_
                        refine qG.ar (P := 0 ≤ ((t9 : Nat) : Int) ∧ ((t9 : Nat) : Int) < ((64 : Nat) : Int)) (P2 := 0 < (123 : Int) ∧ (123 : Int) ≤ ((142 : Nat) : Int)) (pc' := 137) (ls' := [(2, 95), (0, ((f9 : Nat) : Int)), (0, ((t9 : Nat) : Int)), (0, bc), (0, w 123 f9)]) (st' := []) (w' := (qup (qup (qup (qup w 122 t9 (w 122 f9)) 122 f9 0) 123 f9 0) 123 t9 13)) (n' := 142) rfl (by omega) (by decide) ?_
                        refine qG.blk 1 (pc' := 138) (ls' := [(2, 95), (0, ((f9 : Nat) : Int)), (0, ((t9 : Nat) : Int)), (0, bc), (0, w 123 f9)]) (st' := [(0, 1)]) (w' := (qup (qup (qup (qup w 122 t9 (w 122 f9)) 122 f9 0) 123 f9 0) 123 t9 13)) (n' := 142) rfl ?_
                        refine qG.ret rfl (by first | rfl | exact decide_eq_true (by omega)) ?_
                        subst hQ9
                        exact ⟨rfl, by first | (exfalso; omega) | exact .inl ⟨by unfold movC; first | omega | (simp only [Int.toNat_natCast]; omega), rfl, rfl⟩ | exact .inr ⟨by unfold movC; first | omega | (simp only [Int.toNat_natCast]; omega), rfl, (fun j => by unfold nbF; (try simp (disch := decide) only [qup_ne, qup_if, Int.toNat_natCast]) <;> (repeat' split) <;> first | rfl | omega), (fun j => by unfold nkF; (try simp (disch := decide) only [qup_ne, qup_if, Int.toNat_natCast]) <;> (repeat' split) <;> first | rfl | omega), (fun j => by (try simp (disch := decide) only [qup_ne, qup_if, Int.toNat_natCast]) <;> (try rfl) <;> (repeat' split) <;> first | rfl | omega)⟩⟩
                      · skip
                        refine qG.blk 1 (pc' := 136) (ls' := [(2, 95), (0, ((f9 : Nat) : Int)), (0, ((t9 : Nat) : Int)), (0, bc), (0, w 123 f9)]) (st' := [(0, w 123 f9), (0, ((t9 : Nat) : Int)), (2, 123)]) (w' := (qup (qup (qup w 122 t9 (w 122 f9)) 122 f9 0) 123 f9 0)) (n' := 142) rfl ?_
                        refine qG.ar (P := 0 ≤ ((t9 : Nat) : Int) ∧ ((t9 : Nat) : Int) < ((64 : Nat) : Int)) (P2 := 0 < (123 : Int) ∧ (123 : Int) ≤ ((142 : Nat) : Int)) (pc' := 137) (ls' := [(2, 95), (0, ((f9 : Nat) : Int)), (0, ((t9 : Nat) : Int)), (0, bc), (0, w 123 f9)]) (st' := []) (w' := (qup (qup (qup (qup w 122 t9 (w 122 f9)) 122 f9 0) 123 f9 0) 123 t9 (w 123 f9))) (n' := 142) rfl (by omega) (by decide) ?_
                        refine qG.blk 1 (pc' := 138) (ls' := [(2, 95), (0, ((f9 : Nat) : Int)), (0, ((t9 : Nat) : Int)), (0, bc), (0, w 123 f9)]) (st' := [(0, 1)]) (w' := (qup (qup (qup (qup w 122 t9 (w 122 f9)) 122 f9 0) 123 f9 0) 123 t9 (w 123 f9))) (n' := 142) rfl ?_
                        refine qG.ret rfl (by first | rfl | exact decide_eq_true (by omega)) ?_
                        subst hQ9
                        exact ⟨rfl, by first | (exfalso; omega) | exact .inl ⟨by unfold movC; first | omega | (simp only [Int.toNat_natCast]; omega), rfl, rfl⟩ | exact .inr ⟨by unfold movC; first | omega | (simp only [Int.toNat_natCast]; omega), rfl, (fun j => by unfold nbF; (try simp (disch := decide) only [qup_ne, qup_if, Int.toNat_natCast]) <;> (repeat' split) <;> first | rfl | omega), (fun j => by unfold nkF; (try simp (disch := decide) only [qup_ne, qup_if, Int.toNat_natCast]) <;> (repeat' split) <;> first | rfl | omega), (fun j => by (try simp (disch := decide) only [qup_ne, qup_if, Int.toNat_natCast]) <;> (try rfl) <;> (repeat' split) <;> first | rfl | omega)⟩⟩
                    · skip
                      refine qG.blk 1 (pc' := 138) (ls' := [(2, 95), (0, ((f9 : Nat) : Int)), (0, ((t9 : Nat) : Int)), (0, bc), (0, w 123 f9)]) (st' := [(0, 1)]) (w' := (qup (qup (qup w 122 t9 (w 122 f9)) 122 f9 0) 123 f9 0)) (n' := 142) rfl ?_
                      refine qG.ret rfl (by first | rfl | exact decide_eq_true (by omega)) ?_
                      subst hQ9
                      exact ⟨rfl, by first | (exfalso; omega) | exact .inl ⟨by unfold movC; first | omega | (simp only [Int.toNat_natCast]; omega), rfl, rfl⟩ | exact .inr ⟨by unfold movC; first | omega | (simp only [Int.toNat_natCast]; omega), rfl, (fun j => by unfold nbF; (try simp (disch := decide) only [qup_ne, qup_if, Int.toNat_natCast]) <;> (repeat' split) <;> first | rfl | omega), (fun j => by unfold nkF; (try simp (disch := decide) only [qup_ne, qup_if, Int.toNat_natCast]) <;> (repeat' split) <;> first | rfl | omega), (fun j => by (try simp (disch := decide) only [qup_ne, qup_if, Int.toNat_natCast]) <;> (try rfl) <;> (repeat' split) <;> first | rfl | omega)⟩⟩
                  · skip
                    refine qG.blk 2 (pc' := 114) (ls' := [(2, 95), (0, ((f9 : Nat) : Int)), (0, ((t9 : Nat) : Int)), (0, bc), (0, w 123 f9)]) (st' := [(2, w 95 54)]) (w' := (qup (qup w 122 t9 (w 122 f9)) 122 f9 0)) (n' := 142) rfl ?_
                    rw [show w 95 54 = 124 from zref hI rfl rfl]
                    refine qG.blk 1 (pc' := 115) (ls' := [(2, 95), (0, ((f9 : Nat) : Int)), (0, ((t9 : Nat) : Int)), (0, bc), (0, w 123 f9)]) (st' := [(0, ((t9 : Nat) : Int)), (2, 124)]) (w' := (qup (qup w 122 t9 (w 122 f9)) 122 f9 0)) (n' := 142) rfl ?_
                    refine qG.ar (P := 0 ≤ ((t9 : Nat) : Int) ∧ ((t9 : Nat) : Int) < ((64 : Nat) : Int)) (P2 := 0 < (124 : Int) ∧ (124 : Int) ≤ ((142 : Nat) : Int)) (pc' := 116) (ls' := [(2, 95), (0, ((f9 : Nat) : Int)), (0, ((t9 : Nat) : Int)), (0, bc), (0, w 123 f9)]) (st' := [(0, w 124 t9)]) (w' := (qup (qup w 122 t9 (w 122 f9)) 122 f9 0)) (n' := 142) rfl (by omega) (by decide) ?_
                    refine qG.br (P := w 124 t9 = 0) (pc1 := 119) (pc2 := 137) (st1 := []) rfl (fun h32 => ?_) (fun h32 => ?_)
                    · skip
                      refine qG.blk 2 (pc' := 123) (ls' := [(2, 95), (0, ((f9 : Nat) : Int)), (0, ((t9 : Nat) : Int)), (0, bc), (0, w 123 f9)]) (st' := [(2, w 95 53)]) (w' := (qup (qup w 122 t9 (w 122 f9)) 122 f9 0)) (n' := 142) rfl ?_
                      rw [show w 95 53 = 123 from zref hI rfl rfl]
                      refine qG.blk 2 (pc' := 126) (ls' := [(2, 95), (0, ((f9 : Nat) : Int)), (0, ((t9 : Nat) : Int)), (0, bc), (0, w 123 f9)]) (st' := [(0, w 123 f9), (0, ((t9 : Nat) : Int)), (2, 123)]) (w' := (qup (qup w 122 t9 (w 122 f9)) 122 f9 0)) (n' := 142) rfl ?_
                      refine qG.br (P := w 123 f9 = 0) (pc1 := 129) (pc2 := 134) (st1 := [(0, ((t9 : Nat) : Int)), (2, 123)]) rfl (fun h33 => ?_) (fun h33 => ?_)
                      · skip
                        refine qG.blk 2 (pc' := 136) (ls' := [(2, 95), (0, ((f9 : Nat) : Int)), (0, ((t9 : Nat) : Int)), (0, bc), (0, w 123 f9)]) (st' := [(0, 13), (0, ((t9 : Nat) : Int)), (2, 123)]) (w' := (qup (qup w 122 t9 (w 122 f9)) 122 f9 0)) (n' := 142) rfl ?_
                        refine qG.ar (P := 0 ≤ ((t9 : Nat) : Int) ∧ ((t9 : Nat) : Int) < ((64 : Nat) : Int)) (P2 := 0 < (123 : Int) ∧ (123 : Int) ≤ ((142 : Nat) : Int)) (pc' := 137) (ls' := [(2, 95), (0, ((f9 : Nat) : Int)), (0, ((t9 : Nat) : Int)), (0, bc), (0, w 123 f9)]) (st' := []) (w' := (qup (qup (qup w 122 t9 (w 122 f9)) 122 f9 0) 123 t9 13)) (n' := 142) rfl (by omega) (by decide) ?_
                        refine qG.blk 1 (pc' := 138) (ls' := [(2, 95), (0, ((f9 : Nat) : Int)), (0, ((t9 : Nat) : Int)), (0, bc), (0, w 123 f9)]) (st' := [(0, 1)]) (w' := (qup (qup (qup w 122 t9 (w 122 f9)) 122 f9 0) 123 t9 13)) (n' := 142) rfl ?_
                        refine qG.ret rfl (by first | rfl | exact decide_eq_true (by omega)) ?_
                        subst hQ9
                        exact ⟨rfl, by first | (exfalso; omega) | exact .inl ⟨by unfold movC; first | omega | (simp only [Int.toNat_natCast]; omega), rfl, rfl⟩ | exact .inr ⟨by unfold movC; first | omega | (simp only [Int.toNat_natCast]; omega), rfl, (fun j => by unfold nbF; (try simp (disch := decide) only [qup_ne, qup_if, Int.toNat_natCast]) <;> (repeat' split) <;> first | rfl | omega), (fun j => by unfold nkF; (try simp (disch := decide) only [qup_ne, qup_if, Int.toNat_natCast]) <;> (repeat' split) <;> first | rfl | omega), (fun j => by (try simp (disch := decide) only [qup_ne, qup_if, Int.toNat_natCast]) <;> (try rfl) <;> (repeat' split) <;> first | rfl | omega)⟩⟩
                      · skip
                        refine qG.blk 1 (pc' := 136) (ls' := [(2, 95), (0, ((f9 : Nat) : Int)), (0, ((t9 : Nat) : Int)), (0, bc), (0, w 123 f9)]) (st' := [(0, w 123 f9), (0, ((t9 : Nat) : Int)), (2, 123)]) (w' := (qup (qup w 122 t9 (w 122 f9)) 122 f9 0)) (n' := 142) rfl ?_
                        refine qG.ar (P := 0 ≤ ((t9 : Nat) : Int) ∧ ((t9 : Nat) : Int) < ((64 : Nat) : Int)) (P2 := 0 < (123 : Int) ∧ (123 : Int) ≤ ((142 : Nat) : Int)) (pc' := 137) (ls' := [(2, 95), (0, ((f9 : Nat) : Int)), (0, ((t9 : Nat) : Int)), (0, bc), (0, w 123 f9)]) (st' := []) (w' := (qup (qup (qup w 122 t9 (w 122 f9)) 122 f9 0) 123 t9 (w 123 f9))) (n' := 142) rfl (by omega) (by decide) ?_
                        refine qG.blk 1 (pc' := 138) (ls' := [(2, 95), (0, ((f9 : Nat) : Int)), (0, ((t9 : Nat) : Int)), (0, bc), (0, w 123 f9)]) (st' := [(0, 1)]) (w' := (qup (qup (qup w 122 t9 (w 122 f9)) 122 f9 0) 123 t9 (w 123 f9))) (n' := 142) rfl ?_
                        refine qG.ret rfl (by first | rfl | exact decide_eq_true (by omega)) ?_
                        subst hQ9
                        exact ⟨rfl, by first | (exfalso; omega) | exact .inl ⟨by unfold movC; first | omega | (simp only [Int.toNat_natCast]; omega), rfl, rfl⟩ | exact .inr ⟨by unfold movC; first | omega | (simp only [Int.toNat_natCast]; omega), rfl, (fun j => by unfold nbF; (try simp (disch := decide) only [qup_ne, qup_if, Int.toNat_natCast]) <;> (repeat' split) <;> first | rfl | omega), (fun j => by unfold nkF; (try simp (disch := decide) only [qup_ne, qup_if, Int.toNat_natCast]) <;> (repeat' split) <;> first | rfl | omega), (fun j => by (try simp (disch := decide) only [qup_ne, qup_if, Int.toNat_natCast]) <;> (try rfl) <;> (repeat' split) <;> first | rfl | omega)⟩⟩
                    · skip
                      refine qG.blk 1 (pc' := 138) (ls' := [(2, 95), (0, ((f9 : Nat) : Int)), (0, ((t9 : Nat) : Int)), (0, bc), (0, w 123 f9)]) (st' := [(0, 1)]) (w' := (qup (qup w 122 t9 (w 122 f9)) 122 f9 0)) (n' := 142) rfl ?_
                      refine qG.ret rfl (by first | rfl | exact decide_eq_true (by omega)) ?_
                      subst hQ9
                      exact ⟨rfl, by first | (exfalso; omega) | exact .inl ⟨by unfold movC; first | omega | (simp only [Int.toNat_natCast]; omega), rfl, rfl⟩ | exact .inr ⟨by unfold movC; first | omega | (simp only [Int.toNat_natCast]; omega), rfl, (fun j => by unfold nbF; (try simp (disch := decide) only [qup_ne, qup_if, Int.toNat_natCast]) <;> (repeat' split) <;> first | rfl | omega), (fun j => by unfold nkF; (try simp (disch := decide) only [qup_ne, qup_if, Int.toNat_natCast]) <;> (repeat' split) <;> first | rfl | omega), (fun j => by (try simp (disch := decide) only [qup_ne, qup_if, Int.toNat_natCast]) <;> (try rfl) <;> (repeat' split) <;> first | rfl | omega)⟩⟩
                · skip
                  refine qG.blk 5 (pc' := 98) (ls' := [(2, 95), (0, ((f9 : Nat) : Int)), (0, ((t9 : Nat) : Int)), (0, bc), (0, 0)]) (st' := [(2, w 95 54)]) (w' := (qup (qup w 122 t9 (w 122 f9)) 122 f9 0)) (n' := 142) rfl ?_
                  rw [show w 95 54 = 124 from zref hI rfl rfl]
                  refine qG.blk 1 (pc' := 99) (ls' := [(2, 95), (0, ((f9 : Nat) : Int)), (0, ((t9 : Nat) : Int)), (0, bc), (0, 0)]) (st' := [(0, ((f9 : Nat) : Int)), (2, 124)]) (w' := (qup (qup w 122 t9 (w 122 f9)) 122 f9 0)) (n' := 142) rfl ?_
                  refine qG.ar (P := 0 ≤ ((f9 : Nat) : Int) ∧ ((f9 : Nat) : Int) < ((64 : Nat) : Int)) (P2 := 0 < (124 : Int) ∧ (124 : Int) ≤ ((142 : Nat) : Int)) (pc' := 100) (ls' := [(2, 95), (0, ((f9 : Nat) : Int)), (0, ((t9 : Nat) : Int)), (0, bc), (0, 0)]) (st' := [(0, w 124 f9)]) (w' := (qup (qup w 122 t9 (w 122 f9)) 122 f9 0)) (n' := 142) rfl (by omega) (by decide) ?_
                  refine qG.br (P := w 124 f9 = 0) (pc1 := 103) (pc2 := 110) (st1 := []) rfl (fun h34 => ?_) (fun h34 => ?_)
                  · skip
                    refine qG.blk 2 (pc' := 107) (ls' := [(2, 95), (0, ((f9 : Nat) : Int)), (0, ((t9 : Nat) : Int)), (0, bc), (0, 0)]) (st' := [(2, w 95 53)]) (w' := (qup (qup w 122 t9 (w 122 f9)) 122 f9 0)) (n' := 142) rfl ?_
                    rw [show w 95 53 = 123 from zref hI rfl rfl]
                    refine qG.blk 2 (pc' := 109) (ls' := [(2, 95), (0, ((f9 : Nat) : Int)), (0, ((t9 : Nat) : Int)), (0, bc), (0, 0)]) (st' := [(0, 0), (0, ((f9 : Nat) : Int)), (2, 123)]) (w' := (qup (qup w 122 t9 (w 122 f9)) 122 f9 0)) (n' := 142) rfl ?_
                    refine qG.ar (P := 0 ≤ ((f9 : Nat) : Int) ∧ ((f9 : Nat) : Int) < ((64 : Nat) : Int)) (P2 := 0 < (123 : Int) ∧ (123 : Int) ≤ ((142 : Nat) : Int)) (pc' := 110) (ls' := [(2, 95), (0, ((f9 : Nat) : Int)), (0, ((t9 : Nat) : Int)), (0, bc), (0, 0)]) (st' := []) (w' := (qup (qup (qup w 122 t9 (w 122 f9)) 122 f9 0) 123 f9 0)) (n' := 142) rfl (by omega) (by decide) ?_
                    refine qG.blk 2 (pc' := 114) (ls' := [(2, 95), (0, ((f9 : Nat) : Int)), (0, ((t9 : Nat) : Int)), (0, bc), (0, 0)]) (st' := [(2, w 95 54)]) (w' := (qup (qup (qup w 122 t9 (w 122 f9)) 122 f9 0) 123 f9 0)) (n' := 142) rfl ?_
                    rw [show w 95 54 = 124 from zref hI rfl rfl]
                    refine qG.blk 1 (pc' := 115) (ls' := [(2, 95), (0, ((f9 : Nat) : Int)), (0, ((t9 : Nat) : Int)), (0, bc), (0, 0)]) (st' := [(0, ((t9 : Nat) : Int)), (2, 124)]) (w' := (qup (qup (qup w 122 t9 (w 122 f9)) 122 f9 0) 123 f9 0)) (n' := 142) rfl ?_
                    refine qG.ar (P := 0 ≤ ((t9 : Nat) : Int) ∧ ((t9 : Nat) : Int) < ((64 : Nat) : Int)) (P2 := 0 < (124 : Int) ∧ (124 : Int) ≤ ((142 : Nat) : Int)) (pc' := 116) (ls' := [(2, 95), (0, ((f9 : Nat) : Int)), (0, ((t9 : Nat) : Int)), (0, bc), (0, 0)]) (st' := [(0, w 124 t9)]) (w' := (qup (qup (qup w 122 t9 (w 122 f9)) 122 f9 0) 123 f9 0)) (n' := 142) rfl (by omega) (by decide) ?_
                    refine qG.br (P := w 124 t9 = 0) (pc1 := 119) (pc2 := 137) (st1 := []) rfl (fun h35 => ?_) (fun h35 => ?_)
                    · skip
                      refine qG.blk 2 (pc' := 123) (ls' := [(2, 95), (0, ((f9 : Nat) : Int)), (0, ((t9 : Nat) : Int)), (0, bc), (0, 0)]) (st' := [(2, w 95 53)]) (w' := (qup (qup (qup w 122 t9 (w 122 f9)) 122 f9 0) 123 f9 0)) (n' := 142) rfl ?_
                      rw [show w 95 53 = 123 from zref hI rfl rfl]
                      refine qG.blk 2 (pc' := 126) (ls' := [(2, 95), (0, ((f9 : Nat) : Int)), (0, ((t9 : Nat) : Int)), (0, bc), (0, 0)]) (st' := [(0, 0), (0, ((t9 : Nat) : Int)), (2, 123)]) (w' := (qup (qup (qup w 122 t9 (w 122 f9)) 122 f9 0) 123 f9 0)) (n' := 142) rfl ?_
                      refine qG.br (P := (0 : Int) = 0) (pc1 := 129) (pc2 := 134) (st1 := [(0, ((t9 : Nat) : Int)), (2, 123)]) rfl (fun h36 => ?_) (fun h36 => ?_)
                      · skip
                        refine qG.blk 2 (pc' := 136) (ls' := [(2, 95), (0, ((f9 : Nat) : Int)), (0, ((t9 : Nat) : Int)), (0, bc), (0, 0)]) (st' := [(0, 13), (0, ((t9 : Nat) : Int)), (2, 123)]) (w' := (qup (qup (qup w 122 t9 (w 122 f9)) 122 f9 0) 123 f9 0)) (n' := 142) rfl ?_
                        refine qG.ar (P := 0 ≤ ((t9 : Nat) : Int) ∧ ((t9 : Nat) : Int) < ((64 : Nat) : Int)) (P2 := 0 < (123 : Int) ∧ (123 : Int) ≤ ((142 : Nat) : Int)) (pc' := 137) (ls' := [(2, 95), (0, ((f9 : Nat) : Int)), (0, ((t9 : Nat) : Int)), (0, bc), (0, 0)]) (st' := []) (w' := (qup (qup (qup (qup w 122 t9 (w 122 f9)) 122 f9 0) 123 f9 0) 123 t9 13)) (n' := 142) rfl (by omega) (by decide) ?_
                        refine qG.blk 1 (pc' := 138) (ls' := [(2, 95), (0, ((f9 : Nat) : Int)), (0, ((t9 : Nat) : Int)), (0, bc), (0, 0)]) (st' := [(0, 1)]) (w' := (qup (qup (qup (qup w 122 t9 (w 122 f9)) 122 f9 0) 123 f9 0) 123 t9 13)) (n' := 142) rfl ?_
                        refine qG.ret rfl (by first | rfl | exact decide_eq_true (by omega)) ?_
                        subst hQ9
                        exact ⟨rfl, by first | (exfalso; omega) | exact .inl ⟨by unfold movC; first | omega | (simp only [Int.toNat_natCast]; omega), rfl, rfl⟩ | exact .inr ⟨by unfold movC; first | omega | (simp only [Int.toNat_natCast]; omega), rfl, (fun j => by unfold nbF; (try simp (disch := decide) only [qup_ne, qup_if, Int.toNat_natCast]) <;> (repeat' split) <;> first | rfl | omega), (fun j => by unfold nkF; (try simp (disch := decide) only [qup_ne, qup_if, Int.toNat_natCast]) <;> (repeat' split) <;> first | rfl | omega), (fun j => by (try simp (disch := decide) only [qup_ne, qup_if, Int.toNat_natCast]) <;> (try rfl) <;> (repeat' split) <;> first | rfl | omega)⟩⟩
                      · exact absurd h36 (by decide)
                    · skip
                      refine qG.blk 1 (pc' := 138) (ls' := [(2, 95), (0, ((f9 : Nat) : Int)), (0, ((t9 : Nat) : Int)), (0, bc), (0, 0)]) (st' := [(0, 1)]) (w' := (qup (qup (qup w 122 t9 (w 122 f9)) 122 f9 0) 123 f9 0)) (n' := 142) rfl ?_
                      refine qG.ret rfl (by first | rfl | exact decide_eq_true (by omega)) ?_
                      subst hQ9
                      exact ⟨rfl, by first | (exfalso; omega) | exact .inl ⟨by unfold movC; first | omega | (simp only [Int.toNat_natCast]; omega), rfl, rfl⟩ | exact .inr ⟨by unfold movC; first | omega | (simp only [Int.toNat_natCast]; omega), rfl, (fun j => by unfold nbF; (try simp (disch := decide) only [qup_ne, qup_if, Int.toNat_natCast]) <;> (repeat' split) <;> first | rfl | omega), (fun j => by unfold nkF; (try simp (disch := decide) only [qup_ne, qup_if, Int.toNat_natCast]) <;> (repeat' split) <;> first | rfl | omega), (fun j => by (try simp (disch := decide) only [qup_ne, qup_if, Int.toNat_natCast]) <;> (try rfl) <;> (repeat' split) <;> first | rfl | omega)⟩⟩
                  · skip
                    refine qG.blk 2 (pc' := 114) (ls' := [(2, 95), (0, ((f9 : Nat) : Int)), (0, ((t9 : Nat) : Int)), (0, bc), (0, 0)]) (st' := [(2, w 95 54)]) (w' := (qup (qup w 122 t9 (w 122 f9)) 122 f9 0)) (n' := 142) rfl ?_
                    rw [show w 95 54 = 124 from zref hI rfl rfl]
                    refine qG.blk 1 (pc' := 115) (ls' := [(2, 95), (0, ((f9 : Nat) : Int)), (0, ((t9 : Nat) : Int)), (0, bc), (0, 0)]) (st' := [(0, ((t9 : Nat) : Int)), (2, 124)]) (w' := (qup (qup w 122 t9 (w 122 f9)) 122 f9 0)) (n' := 142) rfl ?_
                    refine qG.ar (P := 0 ≤ ((t9 : Nat) : Int) ∧ ((t9 : Nat) : Int) < ((64 : Nat) : Int)) (P2 := 0 < (124 : Int) ∧ (124 : Int) ≤ ((142 : Nat) : Int)) (pc' := 116) (ls' := [(2, 95), (0, ((f9 : Nat) : Int)), (0, ((t9 : Nat) : Int)), (0, bc), (0, 0)]) (st' := [(0, w 124 t9)]) (w' := (qup (qup w 122 t9 (w 122 f9)) 122 f9 0)) (n' := 142) rfl (by omega) (by decide) ?_
                    refine qG.br (P := w 124 t9 = 0) (pc1 := 119) (pc2 := 137) (st1 := []) rfl (fun h37 => ?_) (fun h37 => ?_)
                    · skip
                      refine qG.blk 2 (pc' := 123) (ls' := [(2, 95), (0, ((f9 : Nat) : Int)), (0, ((t9 : Nat) : Int)), (0, bc), (0, 0)]) (st' := [(2, w 95 53)]) (w' := (qup (qup w 122 t9 (w 122 f9)) 122 f9 0)) (n' := 142) rfl ?_
                      rw [show w 95 53 = 123 from zref hI rfl rfl]
                      refine qG.blk 2 (pc' := 126) (ls' := [(2, 95), (0, ((f9 : Nat) : Int)), (0, ((t9 : Nat) : Int)), (0, bc), (0, 0)]) (st' := [(0, 0), (0, ((t9 : Nat) : Int)), (2, 123)]) (w' := (qup (qup w 122 t9 (w 122 f9)) 122 f9 0)) (n' := 142) rfl ?_
                      refine qG.br (P := (0 : Int) = 0) (pc1 := 129) (pc2 := 134) (st1 := [(0, ((t9 : Nat) : Int)), (2, 123)]) rfl (fun h38 => ?_) (fun h38 => ?_)
                      · skip
                        refine qG.blk 2 (pc' := 136) (ls' := [(2, 95), (0, ((f9 : Nat) : Int)), (0, ((t9 : Nat) : Int)), (0, bc), (0, 0)]) (st' := [(0, 13), (0, ((t9 : Nat) : Int)), (2, 123)]) (w' := (qup (qup w 122 t9 (w 122 f9)) 122 f9 0)) (n' := 142) rfl ?_
                        refine qG.ar (P := 0 ≤ ((t9 : Nat) : Int) ∧ ((t9 : Nat) : Int) < ((64 : Nat) : Int)) (P2 := 0 < (123 : Int) ∧ (123 : Int) ≤ ((142 : Nat) : Int)) (pc' := 137) (ls' := [(2, 95), (0, ((f9 : Nat) : Int)), (0, ((t9 : Nat) : Int)), (0, bc), (0, 0)]) (st' := []) (w' := (qup (qup (qup w 122 t9 (w 122 f9)) 122 f9 0) 123 t9 13)) (n' := 142) rfl (by omega) (by decide) ?_
                        refine qG.blk 1 (pc' := 138) (ls' := [(2, 95), (0, ((f9 : Nat) : Int)), (0, ((t9 : Nat) : Int)), (0, bc), (0, 0)]) (st' := [(0, 1)]) (w' := (qup (qup (qup w 122 t9 (w 122 f9)) 122 f9 0) 123 t9 13)) (n' := 142) rfl ?_
                        refine qG.ret rfl (by first | rfl | exact decide_eq_true (by omega)) ?_
                        subst hQ9
                        exact ⟨rfl, by first | (exfalso; omega) | exact .inl ⟨by unfold movC; first | omega | (simp only [Int.toNat_natCast]; omega), rfl, rfl⟩ | exact .inr ⟨by unfold movC; first | omega | (simp only [Int.toNat_natCast]; omega), rfl, (fun j => by unfold nbF; (try simp (disch := decide) only [qup_ne, qup_if, Int.toNat_natCast]) <;> (repeat' split) <;> first | rfl | omega), (fun j => by unfold nkF; (try simp (disch := decide) only [qup_ne, qup_if, Int.toNat_natCast]) <;> (repeat' split) <;> first | rfl | omega), (fun j => by (try simp (disch := decide) only [qup_ne, qup_if, Int.toNat_natCast]) <;> (try rfl) <;> (repeat' split) <;> first | rfl | omega)⟩⟩
                      · exact absurd h38 (by decide)
                    · skip
                      refine qG.blk 1 (pc' := 138) (ls' := [(2, 95), (0, ((f9 : Nat) : Int)), (0, ((t9 : Nat) : Int)), (0, bc), (0, 0)]) (st' := [(0, 1)]) (w' := (qup (qup w 122 t9 (w 122 f9)) 122 f9 0)) (n' := 142) rfl ?_
                      refine qG.ret rfl (by first | rfl | exact decide_eq_true (by omega)) ?_
                      subst hQ9
                      exact ⟨rfl, by first | (exfalso; omega) | exact .inl ⟨by unfold movC; first | omega | (simp only [Int.toNat_natCast]; omega), rfl, rfl⟩ | exact .inr ⟨by unfold movC; first | omega | (simp only [Int.toNat_natCast]; omega), rfl, (fun j => by unfold nbF; (try simp (disch := decide) only [qup_ne, qup_if, Int.toNat_natCast]) <;> (repeat' split) <;> first | rfl | omega), (fun j => by unfold nkF; (try simp (disch := decide) only [qup_ne, qup_if, Int.toNat_natCast]) <;> (repeat' split) <;> first | rfl | omega), (fun j => by (try simp (disch := decide) only [qup_ne, qup_if, Int.toNat_natCast]) <;> (try rfl) <;> (repeat' split) <;> first | rfl | omega)⟩⟩
              · skip
                refine qG.blk 1 (pc' := 65) (ls' := [(2, 95), (0, ((f9 : Nat) : Int)), (0, ((t9 : Nat) : Int)), (0, bc), (9, 0)]) (st' := [(0, bc), (0, ((t9 : Nat) : Int)), (2, 122)]) (w' := w) (n' := 142) rfl ?_
                refine qG.ar (P := 0 ≤ ((t9 : Nat) : Int) ∧ ((t9 : Nat) : Int) < ((64 : Nat) : Int)) (P2 := 0 < (122 : Int) ∧ (122 : Int) ≤ ((142 : Nat) : Int)) (pc' := 66) (ls' := [(2, 95), (0, ((f9 : Nat) : Int)), (0, ((t9 : Nat) : Int)), (0, bc), (9, 0)]) (st' := []) (w' := (qup w 122 t9 bc)) (n' := 142) rfl (by omega) (by decide) ?_
                refine qG.blk 2 (pc' := 70) (ls' := [(2, 95), (0, ((f9 : Nat) : Int)), (0, ((t9 : Nat) : Int)), (0, bc), (9, 0)]) (st' := [(2, w 95 52)]) (w' := (qup w 122 t9 bc)) (n' := 142) rfl ?_
                rw [show w 95 52 = 122 from zref hI rfl rfl]
                refine qG.blk 2 (pc' := 72) (ls' := [(2, 95), (0, ((f9 : Nat) : Int)), (0, ((t9 : Nat) : Int)), (0, bc), (9, 0)]) (st' := [(0, 0), (0, ((f9 : Nat) : Int)), (2, 122)]) (w' := (qup w 122 t9 bc)) (n' := 142) rfl ?_
                refine qG.ar (P := 0 ≤ ((f9 : Nat) : Int) ∧ ((f9 : Nat) : Int) < ((64 : Nat) : Int)) (P2 := 0 < (122 : Int) ∧ (122 : Int) ≤ ((142 : Nat) : Int)) (pc' := 73) (ls' := [(2, 95), (0, ((f9 : Nat) : Int)), (0, ((t9 : Nat) : Int)), (0, bc), (9, 0)]) (st' := []) (w' := (qup (qup w 122 t9 bc) 122 f9 0)) (n' := 142) rfl (by omega) (by decide) ?_
                refine qG.blk 2 (pc' := 77) (ls' := [(2, 95), (0, ((f9 : Nat) : Int)), (0, ((t9 : Nat) : Int)), (0, bc), (9, 0)]) (st' := [(2, w 95 54)]) (w' := (qup (qup w 122 t9 bc) 122 f9 0)) (n' := 142) rfl ?_
                rw [show w 95 54 = 124 from zref hI rfl rfl]
                refine qG.blk 1 (pc' := 78) (ls' := [(2, 95), (0, ((f9 : Nat) : Int)), (0, ((t9 : Nat) : Int)), (0, bc), (9, 0)]) (st' := [(0, ((f9 : Nat) : Int)), (2, 124)]) (w' := (qup (qup w 122 t9 bc) 122 f9 0)) (n' := 142) rfl ?_
                refine qG.ar (P := 0 ≤ ((f9 : Nat) : Int) ∧ ((f9 : Nat) : Int) < ((64 : Nat) : Int)) (P2 := 0 < (124 : Int) ∧ (124 : Int) ≤ ((142 : Nat) : Int)) (pc' := 79) (ls' := [(2, 95), (0, ((f9 : Nat) : Int)), (0, ((t9 : Nat) : Int)), (0, bc), (9, 0)]) (st' := [(0, w 124 f9)]) (w' := (qup (qup w 122 t9 bc) 122 f9 0)) (n' := 142) rfl (by omega) (by decide) ?_
                refine qG.br (P := w 124 f9 = 0) (pc1 := 86) (pc2 := 82) (st1 := []) rfl (fun h39 => ?_) (fun h39 => ?_)
                · skip
                  refine qG.blk 2 (pc' := 90) (ls' := [(2, 95), (0, ((f9 : Nat) : Int)), (0, ((t9 : Nat) : Int)), (0, bc), (9, 0)]) (st' := [(2, w 95 53)]) (w' := (qup (qup w 122 t9 bc) 122 f9 0)) (n' := 142) rfl ?_
                  rw [show w 95 53 = 123 from zref hI rfl rfl]
                  refine qG.blk 1 (pc' := 91) (ls' := [(2, 95), (0, ((f9 : Nat) : Int)), (0, ((t9 : Nat) : Int)), (0, bc), (9, 0)]) (st' := [(0, ((f9 : Nat) : Int)), (2, 123)]) (w' := (qup (qup w 122 t9 bc) 122 f9 0)) (n' := 142) rfl ?_
                  refine qG.ar (P := 0 ≤ ((f9 : Nat) : Int) ∧ ((f9 : Nat) : Int) < ((64 : Nat) : Int)) (P2 := 0 < (123 : Int) ∧ (123 : Int) ≤ ((142 : Nat) : Int)) (pc' := 92) (ls' := [(2, 95), (0, ((f9 : Nat) : Int)), (0, ((t9 : Nat) : Int)), (0, bc), (9, 0)]) (st' := [(0, w 123 f9)]) (w' := (qup (qup w 122 t9 bc) 122 f9 0)) (n' := 142) rfl (by omega) (by decide) ?_
                  refine qG.blk 3 (pc' := 98) (ls' := [(2, 95), (0, ((f9 : Nat) : Int)), (0, ((t9 : Nat) : Int)), (0, bc), (0, w 123 f9)]) (st' := [(2, w 95 54)]) (w' := (qup (qup w 122 t9 bc) 122 f9 0)) (n' := 142) rfl ?_
                  rw [show w 95 54 = 124 from zref hI rfl rfl]
                  refine qG.blk 1 (pc' := 99) (ls' := [(2, 95), (0, ((f9 : Nat) : Int)), (0, ((t9 : Nat) : Int)), (0, bc), (0, w 123 f9)]) (st' := [(0, ((f9 : Nat) : Int)), (2, 124)]) (w' := (qup (qup w 122 t9 bc) 122 f9 0)) (n' := 142) rfl ?_
                  refine qG.ar (P := 0 ≤ ((f9 : Nat) : Int) ∧ ((f9 : Nat) : Int) < ((64 : Nat) : Int)) (P2 := 0 < (124 : Int) ∧ (124 : Int) ≤ ((142 : Nat) : Int)) (pc' := 100) (ls' := [(2, 95), (0, ((f9 : Nat) : Int)), (0, ((t9 : Nat) : Int)), (0, bc), (0, w 123 f9)]) (st' := [(0, w 124 f9)]) (w' := (qup (qup w 122 t9 bc) 122 f9 0)) (n' := 142) rfl (by omega) (by decide) ?_
                  refine qG.br (P := w 124 f9 = 0) (pc1 := 103) (pc2 := 110) (st1 := []) rfl (fun h40 => ?_) (fun h40 => ?_)
                  · skip
                    refine qG.blk 2 (pc' := 107) (ls' := [(2, 95), (0, ((f9 : Nat) : Int)), (0, ((t9 : Nat) : Int)), (0, bc), (0, w 123 f9)]) (st' := [(2, w 95 53)]) (w' := (qup (qup w 122 t9 bc) 122 f9 0)) (n' := 142) rfl ?_
                    rw [show w 95 53 = 123 from zref hI rfl rfl]
                    refine qG.blk 2 (pc' := 109) (ls' := [(2, 95), (0, ((f9 : Nat) : Int)), (0, ((t9 : Nat) : Int)), (0, bc), (0, w 123 f9)]) (st' := [(0, 0), (0, ((f9 : Nat) : Int)), (2, 123)]) (w' := (qup (qup w 122 t9 bc) 122 f9 0)) (n' := 142) rfl ?_
                    refine qG.ar (P := 0 ≤ ((f9 : Nat) : Int) ∧ ((f9 : Nat) : Int) < ((64 : Nat) : Int)) (P2 := 0 < (123 : Int) ∧ (123 : Int) ≤ ((142 : Nat) : Int)) (pc' := 110) (ls' := [(2, 95), (0, ((f9 : Nat) : Int)), (0, ((t9 : Nat) : Int)), (0, bc), (0, w 123 f9)]) (st' := []) (w' := (qup (qup (qup w 122 t9 bc) 122 f9 0) 123 f9 0)) (n' := 142) rfl (by omega) (by decide) ?_
                    refine qG.blk 2 (pc' := 114) (ls' := [(2, 95), (0, ((f9 : Nat) : Int)), (0, ((t9 : Nat) : Int)), (0, bc), (0, w 123 f9)]) (st' := [(2, w 95 54)]) (w' := (qup (qup (qup w 122 t9 bc) 122 f9 0) 123 f9 0)) (n' := 142) rfl ?_
                    rw [show w 95 54 = 124 from zref hI rfl rfl]
                    refine qG.blk 1 (pc' := 115) (ls' := [(2, 95), (0, ((f9 : Nat) : Int)), (0, ((t9 : Nat) : Int)), (0, bc), (0, w 123 f9)]) (st' := [(0, ((t9 : Nat) : Int)), (2, 124)]) (w' := (qup (qup (qup w 122 t9 bc) 122 f9 0) 123 f9 0)) (n' := 142) rfl ?_
                    refine qG.ar (P := 0 ≤ ((t9 : Nat) : Int) ∧ ((t9 : Nat) : Int) < ((64 : Nat) : Int)) (P2 := 0 < (124 : Int) ∧ (124 : Int) ≤ ((142 : Nat) : Int)) (pc' := 116) (ls' := [(2, 95), (0, ((f9 : Nat) : Int)), (0, ((t9 : Nat) : Int)), (0, bc), (0, w 123 f9)]) (st' := [(0, w 124 t9)]) (w' := (qup (qup (qup w 122 t9 bc) 122 f9 0) 123 f9 0)) (n' := 142) rfl (by omega) (by decide) ?_
                    refine qG.br (P := w 124 t9 = 0) (pc1 := 119) (pc2 := 137) (st1 := []) rfl (fun h41 => ?_) (fun h41 => ?_)
                    · skip
                      refine qG.blk 2 (pc' := 123) (ls' := [(2, 95), (0, ((f9 : Nat) : Int)), (0, ((t9 : Nat) : Int)), (0, bc), (0, w 123 f9)]) (st' := [(2, w 95 53)]) (w' := (qup (qup (qup w 122 t9 bc) 122 f9 0) 123 f9 0)) (n' := 142) rfl ?_
                      rw [show w 95 53 = 123 from zref hI rfl rfl]
                      refine qG.blk 2 (pc' := 126) (ls' := [(2, 95), (0, ((f9 : Nat) : Int)), (0, ((t9 : Nat) : Int)), (0, bc), (0, w 123 f9)]) (st' := [(0, w 123 f9), (0, ((t9 : Nat) : Int)), (2, 123)]) (w' := (qup (qup (qup w 122 t9 bc) 122 f9 0) 123 f9 0)) (n' := 142) rfl ?_
                      refine qG.br (P := w 123 f9 = 0) (pc1 := 129) (pc2 := 134) (st1 := [(0, ((t9 : Nat) : Int)), (2, 123)]) rfl (fun h42 => ?_) (fun h42 => ?_)
                      · skip
                        refine qG.blk 2 (pc' := 136) (ls' := [(2, 95), (0, ((f9 : Nat) : Int)), (0, ((t9 : Nat) : Int)), (0, bc), (0, w 123 f9)]) (st' := [(0, 13), (0, ((t9 : Nat) : Int)), (2, 123)]) (w' := (qup (qup (qup w 122 t9 bc) 122 f9 0) 123 f9 0)) (n' := 142) rfl ?_
                        refine qG.ar (P := 0 ≤ ((t9 : Nat) : Int) ∧ ((t9 : Nat) : Int) < ((64 : Nat) : Int)) (P2 := 0 < (123 : Int) ∧ (123 : Int) ≤ ((142 : Nat) : Int)) (pc' := 137) (ls' := [(2, 95), (0, ((f9 : Nat) : Int)), (0, ((t9 : Nat) : Int)), (0, bc), (0, w 123 f9)]) (st' := []) (w' := (qup (qup (qup (qup w 122 t9 bc) 122 f9 0) 123 f9 0) 123 t9 13)) (n' := 142) rfl (by omega) (by decide) ?_
                        refine qG.blk 1 (pc' := 138) (ls' := [(2, 95), (0, ((f9 : Nat) : Int)), (0, ((t9 : Nat) : Int)), (0, bc), (0, w 123 f9)]) (st' := [(0, 1)]) (w' := (qup (qup (qup (qup w 122 t9 bc) 122 f9 0) 123 f9 0) 123 t9 13)) (n' := 142) rfl ?_
                        refine qG.ret rfl (by first | rfl | exact decide_eq_true (by omega)) ?_
                        subst hQ9
                        exact ⟨rfl, by first | (exfalso; omega) | exact .inl ⟨by unfold movC; first | omega | (simp only [Int.toNat_natCast]; omega), rfl, rfl⟩ | exact .inr ⟨by unfold movC; first | omega | (simp only [Int.toNat_natCast]; omega), rfl, (fun j => by unfold nbF; (try simp (disch := decide) only [qup_ne, qup_if, Int.toNat_natCast]) <;> (repeat' split) <;> first | rfl | omega), (fun j => by unfold nkF; (try simp (disch := decide) only [qup_ne, qup_if, Int.toNat_natCast]) <;> (repeat' split) <;> first | rfl | omega), (fun j => by (try simp (disch := decide) only [qup_ne, qup_if, Int.toNat_natCast]) <;> (try rfl) <;> (repeat' split) <;> first | rfl | omega)⟩⟩
                      · skip
                        refine qG.blk 1 (pc' := 136) (ls' := [(2, 95), (0, ((f9 : Nat) : Int)), (0, ((t9 : Nat) : Int)), (0, bc), (0, w 123 f9)]) (st' := [(0, w 123 f9), (0, ((t9 : Nat) : Int)), (2, 123)]) (w' := (qup (qup (qup w 122 t9 bc) 122 f9 0) 123 f9 0)) (n' := 142) rfl ?_
                        refine qG.ar (P := 0 ≤ ((t9 : Nat) : Int) ∧ ((t9 : Nat) : Int) < ((64 : Nat) : Int)) (P2 := 0 < (123 : Int) ∧ (123 : Int) ≤ ((142 : Nat) : Int)) (pc' := 137) (ls' := [(2, 95), (0, ((f9 : Nat) : Int)), (0, ((t9 : Nat) : Int)), (0, bc), (0, w 123 f9)]) (st' := []) (w' := (qup (qup (qup (qup w 122 t9 bc) 122 f9 0) 123 f9 0) 123 t9 (w 123 f9))) (n' := 142) rfl (by omega) (by decide) ?_
                        refine qG.blk 1 (pc' := 138) (ls' := [(2, 95), (0, ((f9 : Nat) : Int)), (0, ((t9 : Nat) : Int)), (0, bc), (0, w 123 f9)]) (st' := [(0, 1)]) (w' := (qup (qup (qup (qup w 122 t9 bc) 122 f9 0) 123 f9 0) 123 t9 (w 123 f9))) (n' := 142) rfl ?_
                        refine qG.ret rfl (by first | rfl | exact decide_eq_true (by omega)) ?_
                        subst hQ9
                        exact ⟨rfl, by first | (exfalso; omega) | exact .inl ⟨by unfold movC; first | omega | (simp only [Int.toNat_natCast]; omega), rfl, rfl⟩ | exact .inr ⟨by unfold movC; first | omega | (simp only [Int.toNat_natCast]; omega), rfl, (fun j => by unfold nbF; (try simp (disch := decide) only [qup_ne, qup_if, Int.toNat_natCast]) <;> (repeat' split) <;> first | rfl | omega), (fun j => by unfold nkF; (try simp (disch := decide) only [qup_ne, qup_if, Int.toNat_natCast]) <;> (repeat' split) <;> first | rfl | omega), (fun j => by (try simp (disch := decide) only [qup_ne, qup_if, Int.toNat_natCast]) <;> (try rfl) <;> (repeat' split) <;> first | rfl | omega)⟩⟩
                    · skip
                      refine qG.blk 1 (pc' := 138) (ls' := [(2, 95), (0, ((f9 : Nat) : Int)), (0, ((t9 : Nat) : Int)), (0, bc), (0, w 123 f9)]) (st' := [(0, 1)]) (w' := (qup (qup (qup w 122 t9 bc) 122 f9 0) 123 f9 0)) (n' := 142) rfl ?_
                      refine qG.ret rfl (by first | rfl | exact decide_eq_true (by omega)) ?_
                      subst hQ9
                      exact ⟨rfl, by first | (exfalso; omega) | exact .inl ⟨by unfold movC; first | omega | (simp only [Int.toNat_natCast]; omega), rfl, rfl⟩ | exact .inr ⟨by unfold movC; first | omega | (simp only [Int.toNat_natCast]; omega), rfl, (fun j => by unfold nbF; (try simp (disch := decide) only [qup_ne, qup_if, Int.toNat_natCast]) <;> (repeat' split) <;> first | rfl | omega), (fun j => by unfold nkF; (try simp (disch := decide) only [qup_ne, qup_if, Int.toNat_natCast]) <;> (repeat' split) <;> first | rfl | omega), (fun j => by (try simp (disch := decide) only [qup_ne, qup_if, Int.toNat_natCast]) <;> (try rfl) <;> (repeat' split) <;> first | rfl | omega)⟩⟩
                  · skip
                    refine qG.blk 2 (pc' := 114) (ls' := [(2, 95), (0, ((f9 : Nat) : Int)), (0, ((t9 : Nat) : Int)), (0, bc), (0, w 123 f9)]) (st' := [(2, w 95 54)]) (w' := (qup (qup w 122 t9 bc) 122 f9 0)) (n' := 142) rfl ?_
                    rw [show w 95 54 = 124 from zref hI rfl rfl]
                    refine qG.blk 1 (pc' := 115) (ls' := [(2, 95), (0, ((f9 : Nat) : Int)), (0, ((t9 : Nat) : Int)), (0, bc), (0, w 123 f9)]) (st' := [(0, ((t9 : Nat) : Int)), (2, 124)]) (w' := (qup (qup w 122 t9 bc) 122 f9 0)) (n' := 142) rfl ?_
                    refine qG.ar (P := 0 ≤ ((t9 : Nat) : Int) ∧ ((t9 : Nat) : Int) < ((64 : Nat) : Int)) (P2 := 0 < (124 : Int) ∧ (124 : Int) ≤ ((142 : Nat) : Int)) (pc' := 116) (ls' := [(2, 95), (0, ((f9 : Nat) : Int)), (0, ((t9 : Nat) : Int)), (0, bc), (0, w 123 f9)]) (st' := [(0, w 124 t9)]) (w' := (qup (qup w 122 t9 bc) 122 f9 0)) (n' := 142) rfl (by omega) (by decide) ?_
                    refine qG.br (P := w 124 t9 = 0) (pc1 := 119) (pc2 := 137) (st1 := []) rfl (fun h43 => ?_) (fun h43 => ?_)
                    · skip
                      refine qG.blk 2 (pc' := 123) (ls' := [(2, 95), (0, ((f9 : Nat) : Int)), (0, ((t9 : Nat) : Int)), (0, bc), (0, w 123 f9)]) (st' := [(2, w 95 53)]) (w' := (qup (qup w 122 t9 bc) 122 f9 0)) (n' := 142) rfl ?_
                      rw [show w 95 53 = 123 from zref hI rfl rfl]
                      refine qG.blk 2 (pc' := 126) (ls' := [(2, 95), (0, ((f9 : Nat) : Int)), (0, ((t9 : Nat) : Int)), (0, bc), (0, w 123 f9)]) (st' := [(0, w 123 f9), (0, ((t9 : Nat) : Int)), (2, 123)]) (w' := (qup (qup w 122 t9 bc) 122 f9 0)) (n' := 142) rfl ?_
                      refine qG.br (P := w 123 f9 = 0) (pc1 := 129) (pc2 := 134) (st1 := [(0, ((t9 : Nat) : Int)), (2, 123)]) rfl (fun h44 => ?_) (fun h44 => ?_)
                      · skip
                        refine qG.blk 2 (pc' := 136) (ls' := [(2, 95), (0, ((f9 : Nat) : Int)), (0, ((t9 : Nat) : Int)), (0, bc), (0, w 123 f9)]) (st' := [(0, 13), (0, ((t9 : Nat) : Int)), (2, 123)]) (w' := (qup (qup w 122 t9 bc) 122 f9 0)) (n' := 142) rfl ?_
                        refine qG.ar (P := 0 ≤ ((t9 : Nat) : Int) ∧ ((t9 : Nat) : Int) < ((64 : Nat) : Int)) (P2 := 0 < (123 : Int) ∧ (123 : Int) ≤ ((142 : Nat) : Int)) (pc' := 137) (ls' := [(2, 95), (0, ((f9 : Nat) : Int)), (0, ((t9 : Nat) : Int)), (0, bc), (0, w 123 f9)]) (st' := []) (w' := (qup (qup (qup w 122 t9 bc) 122 f9 0) 123 t9 13)) (n' := 142) rfl (by omega) (by decide) ?_
                        refine qG.blk 1 (pc' := 138) (ls' := [(2, 95), (0, ((f9 : Nat) : Int)), (0, ((t9 : Nat) : Int)), (0, bc), (0, w 123 f9)]) (st' := [(0, 1)]) (w' := (qup (qup (qup w 122 t9 bc) 122 f9 0) 123 t9 13)) (n' := 142) rfl ?_
                        refine qG.ret rfl (by first | rfl | exact decide_eq_true (by omega)) ?_
                        subst hQ9
                        exact ⟨rfl, by first | (exfalso; omega) | exact .inl ⟨by unfold movC; first | omega | (simp only [Int.toNat_natCast]; omega), rfl, rfl⟩ | exact .inr ⟨by unfold movC; first | omega | (simp only [Int.toNat_natCast]; omega), rfl, (fun j => by unfold nbF; (try simp (disch := decide) only [qup_ne, qup_if, Int.toNat_natCast]) <;> (repeat' split) <;> first | rfl | omega), (fun j => by unfold nkF; (try simp (disch := decide) only [qup_ne, qup_if, Int.toNat_natCast]) <;> (repeat' split) <;> first | rfl | omega), (fun j => by (try simp (disch := decide) only [qup_ne, qup_if, Int.toNat_natCast]) <;> (try rfl) <;> (repeat' split) <;> first | rfl | omega)⟩⟩
                      · skip
                        refine qG.blk 1 (pc' := 136) (ls' := [(2, 95), (0, ((f9 : Nat) : Int)), (0, ((t9 : Nat) : Int)), (0, bc), (0, w 123 f9)]) (st' := [(0, w 123 f9), (0, ((t9 : Nat) : Int)), (2, 123)]) (w' := (qup (qup w 122 t9 bc) 122 f9 0)) (n' := 142) rfl ?_
                        refine qG.ar (P := 0 ≤ ((t9 : Nat) : Int) ∧ ((t9 : Nat) : Int) < ((64 : Nat) : Int)) (P2 := 0 < (123 : Int) ∧ (123 : Int) ≤ ((142 : Nat) : Int)) (pc' := 137) (ls' := [(2, 95), (0, ((f9 : Nat) : Int)), (0, ((t9 : Nat) : Int)), (0, bc), (0, w 123 f9)]) (st' := []) (w' := (qup (qup (qup w 122 t9 bc) 122 f9 0) 123 t9 (w 123 f9))) (n' := 142) rfl (by omega) (by decide) ?_
                        refine qG.blk 1 (pc' := 138) (ls' := [(2, 95), (0, ((f9 : Nat) : Int)), (0, ((t9 : Nat) : Int)), (0, bc), (0, w 123 f9)]) (st' := [(0, 1)]) (w' := (qup (qup (qup w 122 t9 bc) 122 f9 0) 123 t9 (w 123 f9))) (n' := 142) rfl ?_
                        refine qG.ret rfl (by first | rfl | exact decide_eq_true (by omega)) ?_
                        subst hQ9
                        exact ⟨rfl, by first | (exfalso; omega) | exact .inl ⟨by unfold movC; first | omega | (simp only [Int.toNat_natCast]; omega), rfl, rfl⟩ | exact .inr ⟨by unfold movC; first | omega | (simp only [Int.toNat_natCast]; omega), rfl, (fun j => by unfold nbF; (try simp (disch := decide) only [qup_ne, qup_if, Int.toNat_natCast]) <;> (repeat' split) <;> first | rfl | omega), (fun j => by unfold nkF; (try simp (disch := decide) only [qup_ne, qup_if, Int.toNat_natCast]) <;> (repeat' split) <;> first | rfl | omega), (fun j => by (try simp (disch := decide) only [qup_ne, qup_if, Int.toNat_natCast]) <;> (try rfl) <;> (repeat' split) <;> first | rfl | omega)⟩⟩
                    · skip
                      refine qG.blk 1 (pc' := 138) (ls' := [(2, 95), (0, ((f9 : Nat) : Int)), (0, ((t9 : Nat) : Int)), (0, bc), (0, w 123 f9)]) (st' := [(0, 1)]) (w' := (qup (qup w 122 t9 bc) 122 f9 0)) (n' := 142) rfl ?_
                      refine qG.ret rfl (by first | rfl | exact decide_eq_true (by omega)) ?_
                      subst hQ9
                      exact ⟨rfl, by first | (exfalso; omega) | exact .inl ⟨by unfold movC; first | omega | (simp only [Int.toNat_natCast]; omega), rfl, rfl⟩ | exact .inr ⟨by unfold movC; first | omega | (simp only [Int.toNat_natCast]; omega), rfl, (fun j => by unfold nbF; (try simp (disch := decide) only [qup_ne, qup_if, Int.toNat_natCast]) <;> (repeat' split) <;> first | rfl | omega), (fun j => by unfold nkF; (try simp (disch := decide) only [qup_ne, qup_if, Int.toNat_natCast]) <;> (repeat' split) <;> first | rfl | omega), (fun j => by (try simp (disch := decide) only [qup_ne, qup_if, Int.toNat_natCast]) <;> (try rfl) <;> (repeat' split) <;> first | rfl | omega)⟩⟩
                · skip
                  refine qG.blk 5 (pc' := 98) (ls' := [(2, 95), (0, ((f9 : Nat) : Int)), (0, ((t9 : Nat) : Int)), (0, bc), (0, 0)]) (st' := [(2, w 95 54)]) (w' := (qup (qup w 122 t9 bc) 122 f9 0)) (n' := 142) rfl ?_
                  rw [show w 95 54 = 124 from zref hI rfl rfl]
                  refine qG.blk 1 (pc' := 99) (ls' := [(2, 95), (0, ((f9 : Nat) : Int)), (0, ((t9 : Nat) : Int)), (0, bc), (0, 0)]) (st' := [(0, ((f9 : Nat) : Int)), (2, 124)]) (w' := (qup (qup w 122 t9 bc) 122 f9 0)) (n' := 142) rfl ?_
                  refine qG.ar (P := 0 ≤ ((f9 : Nat) : Int) ∧ ((f9 : Nat) : Int) < ((64 : Nat) : Int)) (P2 := 0 < (124 : Int) ∧ (124 : Int) ≤ ((142 : Nat) : Int)) (pc' := 100) (ls' := [(2, 95), (0, ((f9 : Nat) : Int)), (0, ((t9 : Nat) : Int)), (0, bc), (0, 0)]) (st' := [(0, w 124 f9)]) (w' := (qup (qup w 122 t9 bc) 122 f9 0)) (n' := 142) rfl (by omega) (by decide) ?_
                  refine qG.br (P := w 124 f9 = 0) (pc1 := 103) (pc2 := 110) (st1 := []) rfl (fun h45 => ?_) (fun h45 => ?_)
                  · skip
                    refine qG.blk 2 (pc' := 107) (ls' := [(2, 95), (0, ((f9 : Nat) : Int)), (0, ((t9 : Nat) : Int)), (0, bc), (0, 0)]) (st' := [(2, w 95 53)]) (w' := (qup (qup w 122 t9 bc) 122 f9 0)) (n' := 142) rfl ?_
                    rw [show w 95 53 = 123 from zref hI rfl rfl]
                    refine qG.blk 2 (pc' := 109) (ls' := [(2, 95), (0, ((f9 : Nat) : Int)), (0, ((t9 : Nat) : Int)), (0, bc), (0, 0)]) (st' := [(0, 0), (0, ((f9 : Nat) : Int)), (2, 123)]) (w' := (qup (qup w 122 t9 bc) 122 f9 0)) (n' := 142) rfl ?_
                    refine qG.ar (P := 0 ≤ ((f9 : Nat) : Int) ∧ ((f9 : Nat) : Int) < ((64 : Nat) : Int)) (P2 := 0 < (123 : Int) ∧ (123 : Int) ≤ ((142 : Nat) : Int)) (pc' := 110) (ls' := [(2, 95), (0, ((f9 : Nat) : Int)), (0, ((t9 : Nat) : Int)), (0, bc), (0, 0)]) (st' := []) (w' := (qup (qup (qup w 122 t9 bc) 122 f9 0) 123 f9 0)) (n' := 142) rfl (by omega) (by decide) ?_
                    refine qG.blk 2 (pc' := 114) (ls' := [(2, 95), (0, ((f9 : Nat) : Int)), (0, ((t9 : Nat) : Int)), (0, bc), (0, 0)]) (st' := [(2, w 95 54)]) (w' := (qup (qup (qup w 122 t9 bc) 122 f9 0) 123 f9 0)) (n' := 142) rfl ?_
                    rw [show w 95 54 = 124 from zref hI rfl rfl]
                    refine qG.blk 1 (pc' := 115) (ls' := [(2, 95), (0, ((f9 : Nat) : Int)), (0, ((t9 : Nat) : Int)), (0, bc), (0, 0)]) (st' := [(0, ((t9 : Nat) : Int)), (2, 124)]) (w' := (qup (qup (qup w 122 t9 bc) 122 f9 0) 123 f9 0)) (n' := 142) rfl ?_
                    refine qG.ar (P := 0 ≤ ((t9 : Nat) : Int) ∧ ((t9 : Nat) : Int) < ((64 : Nat) : Int)) (P2 := 0 < (124 : Int) ∧ (124 : Int) ≤ ((142 : Nat) : Int)) (pc' := 116) (ls' := [(2, 95), (0, ((f9 : Nat) : Int)), (0, ((t9 : Nat) : Int)), (0, bc), (0, 0)]) (st' := [(0, w 124 t9)]) (w' := (qup (qup (qup w 122 t9 bc) 122 f9 0) 123 f9 0)) (n' := 142) rfl (by omega) (by decide) ?_
                    refine qG.br (P := w 124 t9 = 0) (pc1 := 119) (pc2 := 137) (st1 := []) rfl (fun h46 => ?_) (fun h46 => ?_)
                    · skip
                      refine qG.blk 2 (pc' := 123) (ls' := [(2, 95), (0, ((f9 : Nat) : Int)), (0, ((t9 : Nat) : Int)), (0, bc), (0, 0)]) (st' := [(2, w 95 53)]) (w' := (qup (qup (qup w 122 t9 bc) 122 f9 0) 123 f9 0)) (n' := 142) rfl ?_
                      rw [show w 95 53 = 123 from zref hI rfl rfl]
                      refine qG.blk 2 (pc' := 126) (ls' := [(2, 95), (0, ((f9 : Nat) : Int)), (0, ((t9 : Nat) : Int)), (0, bc), (0, 0)]) (st' := [(0, 0), (0, ((t9 : Nat) : Int)), (2, 123)]) (w' := (qup (qup (qup w 122 t9 bc) 122 f9 0) 123 f9 0)) (n' := 142) rfl ?_
                      refine qG.br (P := (0 : Int) = 0) (pc1 := 129) (pc2 := 134) (st1 := [(0, ((t9 : Nat) : Int)), (2, 123)]) rfl (fun h47 => ?_) (fun h47 => ?_)
                      · skip
                        refine qG.blk 2 (pc' := 136) (ls' := [(2, 95), (0, ((f9 : Nat) : Int)), (0, ((t9 : Nat) : Int)), (0, bc), (0, 0)]) (st' := [(0, 13), (0, ((t9 : Nat) : Int)), (2, 123)]) (w' := (qup (qup (qup w 122 t9 bc) 122 f9 0) 123 f9 0)) (n' := 142) rfl ?_
                        refine qG.ar (P := 0 ≤ ((t9 : Nat) : Int) ∧ ((t9 : Nat) : Int) < ((64 : Nat) : Int)) (P2 := 0 < (123 : Int) ∧ (123 : Int) ≤ ((142 : Nat) : Int)) (pc' := 137) (ls' := [(2, 95), (0, ((f9 : Nat) : Int)), (0, ((t9 : Nat) : Int)), (0, bc), (0, 0)]) (st' := []) (w' := (qup (qup (qup (qup w 122 t9 bc) 122 f9 0) 123 f9 0) 123 t9 13)) (n' := 142) rfl (by omega) (by decide) ?_
                        refine qG.blk 1 (pc' := 138) (ls' := [(2, 95), (0, ((f9 : Nat) : Int)), (0, ((t9 : Nat) : Int)), (0, bc), (0, 0)]) (st' := [(0, 1)]) (w' := (qup (qup (qup (qup w 122 t9 bc) 122 f9 0) 123 f9 0) 123 t9 13)) (n' := 142) rfl ?_
                        refine qG.ret rfl (by first | rfl | exact decide_eq_true (by omega)) ?_
                        subst hQ9
                        exact ⟨rfl, by first | (exfalso; omega) | exact .inl ⟨by unfold movC; first | omega | (simp only [Int.toNat_natCast]; omega), rfl, rfl⟩ | exact .inr ⟨by unfold movC; first | omega | (simp only [Int.toNat_natCast]; omega), rfl, (fun j => by unfold nbF; (try simp (disch := decide) only [qup_ne, qup_if, Int.toNat_natCast]) <;> (repeat' split) <;> first | rfl | omega), (fun j => by unfold nkF; (try simp (disch := decide) only [qup_ne, qup_if, Int.toNat_natCast]) <;> (repeat' split) <;> first | rfl | omega), (fun j => by (try simp (disch := decide) only [qup_ne, qup_if, Int.toNat_natCast]) <;> (try rfl) <;> (repeat' split) <;> first | rfl | omega)⟩⟩
                      · exact absurd h47 (by decide)
                    · skip
                      refine qG.blk 1 (pc' := 138) (ls' := [(2, 95), (0, ((f9 : Nat) : Int)), (0, ((t9 : Nat) : Int)), (0, bc), (0, 0)]) (st' := [(0, 1)]) (w' := (qup (qup (qup w 122 t9 bc) 122 f9 0) 123 f9 0)) (n' := 142) rfl ?_
                      refine qG.ret rfl (by first | rfl | exact decide_eq_true (by omega)) ?_
                      subst hQ9
                      exact ⟨rfl, by first | (exfalso; omega) | exact .inl ⟨by unfold movC; first | omega | (simp only [Int.toNat_natCast]; omega), rfl, rfl⟩ | exact .inr ⟨by unfold movC; first | omega | (simp only [Int.toNat_natCast]; omega), rfl, (fun j => by unfold nbF; (try simp (disch := decide) only [qup_ne, qup_if, Int.toNat_natCast]) <;> (repeat' split) <;> first | rfl | omega), (fun j => by unfold nkF; (try simp (disch := decide) only [qup_ne, qup_if, Int.toNat_natCast]) <;> (repeat' split) <;> first | rfl | omega), (fun j => by (try simp (disch := decide) only [qup_ne, qup_if, Int.toNat_natCast]) <;> (try rfl) <;> (repeat' split) <;> first | rfl | omega)⟩⟩
                  · skip
                    refine qG.blk 2 (pc' := 114) (ls' := [(2, 95), (0, ((f9 : Nat) : Int)), (0, ((t9 : Nat) : Int)), (0, bc), (0, 0)]) (st' := [(2, w 95 54)]) (w' := (qup (qup w 122 t9 bc) 122 f9 0)) (n' := 142) rfl ?_
                    rw [show w 95 54 = 124 from zref hI rfl rfl]
                    refine qG.blk 1 (pc' := 115) (ls' := [(2, 95), (0, ((f9 : Nat) : Int)), (0, ((t9 : Nat) : Int)), (0, bc), (0, 0)]) (st' := [(0, ((t9 : Nat) : Int)), (2, 124)]) (w' := (qup (qup w 122 t9 bc) 122 f9 0)) (n' := 142) rfl ?_
                    refine qG.ar (P := 0 ≤ ((t9 : Nat) : Int) ∧ ((t9 : Nat) : Int) < ((64 : Nat) : Int)) (P2 := 0 < (124 : Int) ∧ (124 : Int) ≤ ((142 : Nat) : Int)) (pc' := 116) (ls' := [(2, 95), (0, ((f9 : Nat) : Int)), (0, ((t9 : Nat) : Int)), (0, bc), (0, 0)]) (st' := [(0, w 124 t9)]) (w' := (qup (qup w 122 t9 bc) 122 f9 0)) (n' := 142) rfl (by omega) (by decide) ?_
                    refine qG.br (P := w 124 t9 = 0) (pc1 := 119) (pc2 := 137) (st1 := []) rfl (fun h48 => ?_) (fun h48 => ?_)
                    · skip
                      refine qG.blk 2 (pc' := 123) (ls' := [(2, 95), (0, ((f9 : Nat) : Int)), (0, ((t9 : Nat) : Int)), (0, bc), (0, 0)]) (st' := [(2, w 95 53)]) (w' := (qup (qup w 122 t9 bc) 122 f9 0)) (n' := 142) rfl ?_
                      rw [show w 95 53 = 123 from zref hI rfl rfl]
                      refine qG.blk 2 (pc' := 126) (ls' := [(2, 95), (0, ((f9 : Nat) : Int)), (0, ((t9 : Nat) : Int)), (0, bc), (0, 0)]) (st' := [(0, 0), (0, ((t9 : Nat) : Int)), (2, 123)]) (w' := (qup (qup w 122 t9 bc) 122 f9 0)) (n' := 142) rfl ?_
                      refine qG.br (P := (0 : Int) = 0) (pc1 := 129) (pc2 := 134) (st1 := [(0, ((t9 : Nat) : Int)), (2, 123)]) rfl (fun h49 => ?_) (fun h49 => ?_)
                      · skip
                        refine qG.blk 2 (pc' := 136) (ls' := [(2, 95), (0, ((f9 : Nat) : Int)), (0, ((t9 : Nat) : Int)), (0, bc), (0, 0)]) (st' := [(0, 13), (0, ((t9 : Nat) : Int)), (2, 123)]) (w' := (qup (qup w 122 t9 bc) 122 f9 0)) (n' := 142) rfl ?_
                        refine qG.ar (P := 0 ≤ ((t9 : Nat) : Int) ∧ ((t9 : Nat) : Int) < ((64 : Nat) : Int)) (P2 := 0 < (123 : Int) ∧ (123 : Int) ≤ ((142 : Nat) : Int)) (pc' := 137) (ls' := [(2, 95), (0, ((f9 : Nat) : Int)), (0, ((t9 : Nat) : Int)), (0, bc), (0, 0)]) (st' := []) (w' := (qup (qup (qup w 122 t9 bc) 122 f9 0) 123 t9 13)) (n' := 142) rfl (by omega) (by decide) ?_
                        refine qG.blk 1 (pc' := 138) (ls' := [(2, 95), (0, ((f9 : Nat) : Int)), (0, ((t9 : Nat) : Int)), (0, bc), (0, 0)]) (st' := [(0, 1)]) (w' := (qup (qup (qup w 122 t9 bc) 122 f9 0) 123 t9 13)) (n' := 142) rfl ?_
                        refine qG.ret rfl (by first | rfl | exact decide_eq_true (by omega)) ?_
                        subst hQ9
                        exact ⟨rfl, by first | (exfalso; omega) | exact .inl ⟨by unfold movC; first | omega | (simp only [Int.toNat_natCast]; omega), rfl, rfl⟩ | exact .inr ⟨by unfold movC; first | omega | (simp only [Int.toNat_natCast]; omega), rfl, (fun j => by unfold nbF; (try simp (disch := decide) only [qup_ne, qup_if, Int.toNat_natCast]) <;> (repeat' split) <;> first | rfl | omega), (fun j => by unfold nkF; (try simp (disch := decide) only [qup_ne, qup_if, Int.toNat_natCast]) <;> (repeat' split) <;> first | rfl | omega), (fun j => by (try simp (disch := decide) only [qup_ne, qup_if, Int.toNat_natCast]) <;> (try rfl) <;> (repeat' split) <;> first | rfl | omega)⟩⟩
                      · exact absurd h49 (by decide)
                    · skip
                      refine qG.blk 1 (pc' := 138) (ls' := [(2, 95), (0, ((f9 : Nat) : Int)), (0, ((t9 : Nat) : Int)), (0, bc), (0, 0)]) (st' := [(0, 1)]) (w' := (qup (qup w 122 t9 bc) 122 f9 0)) (n' := 142) rfl ?_
                      refine qG.ret rfl (by first | rfl | exact decide_eq_true (by omega)) ?_
                      subst hQ9
                      exact ⟨rfl, by first | (exfalso; omega) | exact .inl ⟨by unfold movC; first | omega | (simp only [Int.toNat_natCast]; omega), rfl, rfl⟩ | exact .inr ⟨by unfold movC; first | omega | (simp only [Int.toNat_natCast]; omega), rfl, (fun j => by unfold nbF; (try simp (disch := decide) only [qup_ne, qup_if, Int.toNat_natCast]) <;> (repeat' split) <;> first | rfl | omega), (fun j => by unfold nkF; (try simp (disch := decide) only [qup_ne, qup_if, Int.toNat_natCast]) <;> (repeat' split) <;> first | rfl | omega), (fun j => by (try simp (disch := decide) only [qup_ne, qup_if, Int.toNat_natCast]) <;> (try rfl) <;> (repeat' split) <;> first | rfl | omega)⟩⟩
theorem K_X11_pieceE {d : Nat} (hd : 3 ≤ d) (s p : Int) (w : qW) (hI : yInv zgf zga zra zSp w) : qG none d 181 0 [(2, 1), (0, s), (0, p)] [] w 142 (fun (r : qV) (w1 : qW) (n1 : Nat) => n1 = 142 ∧ pieE 42 43 44 s p w r w1) := by
  generalize hQ9 : (fun (r : qV) (w1 : qW) (n1 : Nat) => n1 = 142 ∧ pieE 42 43 44 s p w r w1) = Q9
  obtain ⟨d, rfl⟩ : ∃ d9, d = d9 + 1 := ⟨d - 1, by omega⟩
  refine qG.blk 2 (pc' := 4) (ls' := [(2, 1), (0, s), (0, p)]) (st' := [(2, w 1 6)]) (w' := w) (n' := 142) rfl ?_
  rw [show w 1 6 = 41 from zref hI rfl rfl]
  refine qG.blk 2 (pc' := 6) (ls' := [(2, 1), (0, s), (0, p)]) (st' := [(0, p), (0, s), (2, 41)]) (w' := w) (n' := 142) rfl ?_
  refine qG.call (t := 11) (na := 3) (sk := 1) (md := 1) (ls1 := [(2, 41), (0, s), (0, p)]) (r1 := []) rfl rfl rfl rfl rfl (K_X1_putPiece (by omega) s p w hI) ?_
  rintro ⟨_, x9⟩ w1 _ ⟨rfl, hE⟩
  have hk9 : ∃ y, ((_ : Nat), x9) = ((0 : Nat), y) := (by rcases hE with ⟨-, h, -⟩ | ⟨-, h, -⟩ <;> exact ⟨_, h⟩)
  obtain ⟨y9, hy9⟩ := hk9
  obtain ⟨rfl, rfl⟩ := Prod.mk.inj hy9
  show qG none (d + 1) 181 9 [(2, 1), (0, s), (0, p)] [(0, x9)] w1 142 Q9
  refine qG.ret rfl (by rcases hE with ⟨-, h, -⟩ | ⟨-, h, -⟩ <;> (obtain ⟨-, rfl⟩ := Prod.mk.inj h; rfl)) ?_
  subst hQ9
  exact ⟨rfl, hE⟩
theorem K_X11_stickE {d : Nat} (hd : 3 ≤ d) (s p : Int) (hb : 0 ≤ p ∧ p ≤ 1) (w : qW) (hI : yInv zgf zga zra zSp w) : qG none d 182 0 [(2, 1), (0, s), (0, p)] [] w 142 (fun (r : qV) (w1 : qW) (n1 : Nat) => n1 = 142 ∧ stiE 42 43 44 s p w r w1) := by
  generalize hQ9 : (fun (r : qV) (w1 : qW) (n1 : Nat) => n1 = 142 ∧ stiE 42 43 44 s p w r w1) = Q9
  obtain ⟨d, rfl⟩ : ∃ d9, d = d9 + 1 := ⟨d - 1, by omega⟩
  refine qG.blk 2 (pc' := 4) (ls' := [(2, 1), (0, s), (0, p)]) (st' := [(2, w 1 6)]) (w' := w) (n' := 142) rfl ?_
  rw [show w 1 6 = 41 from zref hI rfl rfl]
  refine qG.blk 2 (pc' := 6) (ls' := [(2, 1), (0, s), (0, p)]) (st' := [(0, p), (0, s), (2, 41)]) (w' := w) (n' := 142) rfl ?_
  refine qG.call (t := 12) (na := 3) (sk := 1) (md := 1) (ls1 := [(2, 41), (0, s), (0, p)]) (r1 := []) rfl rfl rfl rfl rfl (K_X1_putStick (by omega) s p hb w hI) ?_
  rintro ⟨_, x9⟩ w1 _ ⟨rfl, hE⟩
  have hk9 : ∃ y, ((_ : Nat), x9) = ((0 : Nat), y) := (by rcases hE with ⟨-, h, -⟩ | ⟨-, h, -⟩ <;> exact ⟨_, h⟩)
  obtain ⟨y9, hy9⟩ := hk9
  obtain ⟨rfl, rfl⟩ := Prod.mk.inj hy9
  show qG none (d + 1) 182 9 [(2, 1), (0, s), (0, p)] [(0, x9)] w1 142 Q9
  refine qG.ret rfl (by rcases hE with ⟨-, h, -⟩ | ⟨-, h, -⟩ <;> (obtain ⟨-, rfl⟩ := Prod.mk.inj h; rfl)) ?_
  subst hQ9
  exact ⟨rfl, hE⟩
theorem K_X11_moveE {d : Nat} (hd : 3 ≤ d) (f t bc : Int) (w : qW) (hI : yInv zgf zga zra zSp w) : qG none d 183 0 [(2, 1), (0, f), (0, t), (0, bc)] [] w 142 (fun (r : qV) (w1 : qW) (n1 : Nat) => n1 = 142 ∧ movE 42 43 44 f t bc w r w1) := by
  generalize hQ9 : (fun (r : qV) (w1 : qW) (n1 : Nat) => n1 = 142 ∧ movE 42 43 44 f t bc w r w1) = Q9
  obtain ⟨d, rfl⟩ : ∃ d9, d = d9 + 1 := ⟨d - 1, by omega⟩
  refine qG.blk 2 (pc' := 4) (ls' := [(2, 1), (0, f), (0, t), (0, bc)]) (st' := [(2, w 1 6)]) (w' := w) (n' := 142) rfl ?_
  rw [show w 1 6 = 41 from zref hI rfl rfl]
  refine qG.blk 3 (pc' := 7) (ls' := [(2, 1), (0, f), (0, t), (0, bc)]) (st' := [(0, bc), (0, t), (0, f), (2, 41)]) (w' := w) (n' := 142) rfl ?_
  refine qG.call (t := 13) (na := 4) (sk := 1) (md := 1) (ls1 := [(2, 41), (0, f), (0, t), (0, bc), (9, 0)]) (r1 := []) rfl rfl rfl rfl rfl (K_X1_play (by omega) f t bc w hI) ?_
  rintro ⟨_, x9⟩ w1 _ ⟨rfl, hE⟩
  have hk9 : ∃ y, ((_ : Nat), x9) = ((0 : Nat), y) := (by rcases hE with ⟨-, h, -⟩ | ⟨-, h, -⟩ <;> exact ⟨_, h⟩)
  obtain ⟨y9, hy9⟩ := hk9
  obtain ⟨rfl, rfl⟩ := Prod.mk.inj hy9
  show qG none (d + 1) 183 10 [(2, 1), (0, f), (0, t), (0, bc)] [(0, x9)] w1 142 Q9
  refine qG.ret rfl (by rcases hE with ⟨-, h, -⟩ | ⟨-, h, -⟩ <;> (obtain ⟨-, rfl⟩ := Prod.mk.inj h; rfl)) ?_
  subst hQ9
  exact ⟨rfl, hE⟩
noncomputable def wrF (B K : Nat → Int) (k : Nat) : Bool := !decide (K k = 13) && !decide (K k = B k)
noncomputable def opF (K : Nat → Int) (k : Nat) : Bool := decide (K k = 13)
noncomputable def boV (B K : Nat → Int) (s v : Int) : Int := if v = 2 then ((cntF (wrF B K) 64 : Nat) : Int) else if v = 3 then ((cntF (opF K) 64 : Nat) : Int) else if (v = 0 ∨ v = 1) ∧ 0 ≤ s ∧ s ≤ 63 then (if v = 0 then B s.toNat else K s.toNat) else -1
theorem wrF_1 {B K : Nat → Int} {k : Nat} (h : ¬ K k = 13) (h2 : ¬ K k = B k) : wrF B K k = true := by unfold wrF; rw [decide_eq_false h, decide_eq_false h2]; rfl
theorem wrF_0 {B K : Nat → Int} {k : Nat} (h : K k = 13 ∨ K k = B k) : wrF B K k = false := by
  unfold wrF
  rcases h with h | h
  · rw [decide_eq_true h]; rfl
  · rw [decide_eq_true h, Bool.and_comm]; rfl
theorem K_countWrong {d : Nat} (hd : 0 ≤ d) (w : qW) (hI : yInv zgf zga zra zSp w) : qG none d 15 0 [(2, 41), (9, 0), (9, 0)] [] w 142 (fun (r : qV) (w1 : qW) (n1 : Nat) => r = (0, ((cntF (wrF (w 42) (w 43)) 64 : Nat) : Int)) ∧ w1 = w ∧ n1 = 142) := by
  generalize hQ9 : (fun (r : qV) (w1 : qW) (n1 : Nat) => r = (0, ((cntF (wrF (w 42) (w 43)) 64 : Nat) : Int)) ∧ w1 = w ∧ n1 = 142) = Q9
  refine qG.blk 4 (pc' := 4) (ls' := [(2, 41), (0, 0), (0, 0)]) (st' := []) (w' := w) (n' := 142) rfl ?_
  have L4 : ∀ (m9 : Nat) (k m : Nat), 64 - k = m9 → (k ≤ 64 ∧ m = cntF (wrF (w 42) (w 43)) k ∧ m ≤ k) → qG none d 15 4 [(2, 41), (0, ((m : Nat) : Int)), (0, ((k : Nat) : Int))] [] w 142 Q9 := by
    intro m9
    induction m9 using Nat.strongRecOn with
    | ind m9 ih4 =>
    intro k m hm4 hI4
    refine qG.blk 2 (pc' := 7) (ls' := [(2, 41), (0, ((m : Nat) : Int)), (0, ((k : Nat) : Int))]) (st' := [(0, 64), (0, ((k : Nat) : Int))]) (w' := w) (n' := 142) rfl ?_
    refine qG.br (P := ((k : Nat) : Int) < 64) (pc1 := 10) (pc2 := 45) (st1 := []) rfl (fun h1 => ?_) (fun h1 => ?_)
    · skip
      refine qG.blk 2 (pc' := 14) (ls' := [(2, 41), (0, ((m : Nat) : Int)), (0, ((k : Nat) : Int))]) (st' := [(2, w 41 1)]) (w' := w) (n' := 142) rfl ?_
      rw [show w 41 1 = 43 from zref hI rfl rfl]
      refine qG.blk 1 (pc' := 15) (ls' := [(2, 41), (0, ((m : Nat) : Int)), (0, ((k : Nat) : Int))]) (st' := [(0, ((k : Nat) : Int)), (2, 43)]) (w' := w) (n' := 142) rfl ?_
      refine qG.ar (P := 0 ≤ ((k : Nat) : Int) ∧ ((k : Nat) : Int) < ((64 : Nat) : Int)) (P2 := 0 < (43 : Int) ∧ (43 : Int) ≤ ((142 : Nat) : Int)) (pc' := 16) (ls' := [(2, 41), (0, ((m : Nat) : Int)), (0, ((k : Nat) : Int))]) (st' := [(0, w 43 k)]) (w' := w) (n' := 142) rfl (by omega) (by decide) ?_
      refine qG.blk 1 (pc' := 18) (ls' := [(2, 41), (0, ((m : Nat) : Int)), (0, ((k : Nat) : Int))]) (st' := [(0, 13), (0, w 43 k)]) (w' := w) (n' := 142) rfl ?_
      refine qG.br (P := w 43 k = 13) (pc1 := 39) (pc2 := 21) (st1 := []) rfl (fun hx1 => ?_) (fun hx1 => ?_)
      · skip
        refine qG.blk 1 (pc' := 42) (ls' := [(2, 41), (0, ((m : Nat) : Int)), (0, wrp (((k : Nat) : Int) + 1))]) (st' := []) (w' := w) (n' := 142) rfl ?_
        rw [show wrp (((k : Nat) : Int) + 1) = ((k + 1 : Nat) : Int) from wrp_id (by omega) (by omega)]
        refine qG.blk 1 (pc' := 4) (ls' := [(2, 41), (0, ((m : Nat) : Int)), (0, ((k + 1 : Nat) : Int))]) (st' := []) (w' := w) (n' := 142) rfl ?_
        exact ih4 _ (by omega) (k + 1) (m) rfl (⟨by omega, by first | (rw [cntF_y (by first | exact wrF_1 hx1 hx2 | exact decide_eq_true hx1)]; omega) | (rw [cntF_n (by first | exact wrF_0 (.inl hx1) | exact wrF_0 (.inr hx2) | exact decide_eq_false hx1)]; omega), by omega⟩)
      · skip
        refine qG.blk 2 (pc' := 25) (ls' := [(2, 41), (0, ((m : Nat) : Int)), (0, ((k : Nat) : Int))]) (st' := [(2, w 41 1)]) (w' := w) (n' := 142) rfl ?_
        rw [show w 41 1 = 43 from zref hI rfl rfl]
        refine qG.blk 1 (pc' := 26) (ls' := [(2, 41), (0, ((m : Nat) : Int)), (0, ((k : Nat) : Int))]) (st' := [(0, ((k : Nat) : Int)), (2, 43)]) (w' := w) (n' := 142) rfl ?_
        refine qG.ar (P := 0 ≤ ((k : Nat) : Int) ∧ ((k : Nat) : Int) < ((64 : Nat) : Int)) (P2 := 0 < (43 : Int) ∧ (43 : Int) ≤ ((142 : Nat) : Int)) (pc' := 27) (ls' := [(2, 41), (0, ((m : Nat) : Int)), (0, ((k : Nat) : Int))]) (st' := [(0, w 43 k)]) (w' := w) (n' := 142) rfl (by omega) (by decide) ?_
        refine qG.blk 2 (pc' := 31) (ls' := [(2, 41), (0, ((m : Nat) : Int)), (0, ((k : Nat) : Int))]) (st' := [(2, w 41 0), (0, w 43 k)]) (w' := w) (n' := 142) rfl ?_
        rw [show w 41 0 = 42 from zref hI rfl rfl]
        refine qG.blk 1 (pc' := 32) (ls' := [(2, 41), (0, ((m : Nat) : Int)), (0, ((k : Nat) : Int))]) (st' := [(0, ((k : Nat) : Int)), (2, 42), (0, w 43 k)]) (w' := w) (n' := 142) rfl ?_
        refine qG.ar (P := 0 ≤ ((k : Nat) : Int) ∧ ((k : Nat) : Int) < ((64 : Nat) : Int)) (P2 := 0 < (42 : Int) ∧ (42 : Int) ≤ ((142 : Nat) : Int)) (pc' := 33) (ls' := [(2, 41), (0, ((m : Nat) : Int)), (0, ((k : Nat) : Int))]) (st' := [(0, w 42 k), (0, w 43 k)]) (w' := w) (n' := 142) rfl (by omega) (by decide) ?_
        refine qG.br (P := w 43 k = w 42 k) (pc1 := 39) (pc2 := 36) (st1 := []) rfl (fun hx2 => ?_) (fun hx2 => ?_)
        · skip
          refine qG.blk 1 (pc' := 42) (ls' := [(2, 41), (0, ((m : Nat) : Int)), (0, wrp (((k : Nat) : Int) + 1))]) (st' := []) (w' := w) (n' := 142) rfl ?_
          rw [show wrp (((k : Nat) : Int) + 1) = ((k + 1 : Nat) : Int) from wrp_id (by omega) (by omega)]
          refine qG.blk 1 (pc' := 4) (ls' := [(2, 41), (0, ((m : Nat) : Int)), (0, ((k + 1 : Nat) : Int))]) (st' := []) (w' := w) (n' := 142) rfl ?_
          exact ih4 _ (by omega) (k + 1) (m) rfl (⟨by omega, by first | (rw [cntF_y (by first | exact wrF_1 hx1 hx2 | exact decide_eq_true hx1)]; omega) | (rw [cntF_n (by first | exact wrF_0 (.inl hx1) | exact wrF_0 (.inr hx2) | exact decide_eq_false hx1)]; omega), by omega⟩)
        · skip
          refine qG.blk 1 (pc' := 39) (ls' := [(2, 41), (0, wrp (((m : Nat) : Int) + 1)), (0, ((k : Nat) : Int))]) (st' := []) (w' := w) (n' := 142) rfl ?_
          rw [show wrp (((m : Nat) : Int) + 1) = ((m + 1 : Nat) : Int) from wrp_id (by omega) (by omega)]
          refine qG.blk 1 (pc' := 42) (ls' := [(2, 41), (0, ((m + 1 : Nat) : Int)), (0, wrp (((k : Nat) : Int) + 1))]) (st' := []) (w' := w) (n' := 142) rfl ?_
          rw [show wrp (((k : Nat) : Int) + 1) = ((k + 1 : Nat) : Int) from wrp_id (by omega) (by omega)]
          refine qG.blk 1 (pc' := 4) (ls' := [(2, 41), (0, ((m + 1 : Nat) : Int)), (0, ((k + 1 : Nat) : Int))]) (st' := []) (w' := w) (n' := 142) rfl ?_
          exact ih4 _ (by omega) (k + 1) (m + 1) rfl (⟨by omega, by first | (rw [cntF_y (by first | exact wrF_1 hx1 hx2 | exact decide_eq_true hx1)]; omega) | (rw [cntF_n (by first | exact wrF_0 (.inl hx1) | exact wrF_0 (.inr hx2) | exact decide_eq_false hx1)]; omega), by omega⟩)
    · skip
      refine qG.blk 1 (pc' := 46) (ls' := [(2, 41), (0, ((m : Nat) : Int)), (0, ((k : Nat) : Int))]) (st' := [(0, ((m : Nat) : Int))]) (w' := w) (n' := 142) rfl ?_
      refine qG.ret rfl rfl ?_
      subst hQ9
      exact ⟨by rw [← show k = 64 by omega, ← hI4.2.1], rfl, rfl⟩
  exact L4 _ (0) (0) rfl (⟨by omega, rfl, by omega⟩)
theorem K_countOpen {d : Nat} (hd : 0 ≤ d) (w : qW) (hI : yInv zgf zga zra zSp w) : qG none d 16 0 [(2, 41), (9, 0), (9, 0)] [] w 142 (fun (r : qV) (w1 : qW) (n1 : Nat) => r = (0, ((cntF (opF (w 43)) 64 : Nat) : Int)) ∧ w1 = w ∧ n1 = 142) := by
  generalize hQ9 : (fun (r : qV) (w1 : qW) (n1 : Nat) => r = (0, ((cntF (opF (w 43)) 64 : Nat) : Int)) ∧ w1 = w ∧ n1 = 142) = Q9
  refine qG.blk 4 (pc' := 4) (ls' := [(2, 41), (0, 0), (0, 0)]) (st' := []) (w' := w) (n' := 142) rfl ?_
  have L4 : ∀ (m9 : Nat) (k m : Nat), 64 - k = m9 → (k ≤ 64 ∧ m = cntF (opF (w 43)) k ∧ m ≤ k) → qG none d 16 4 [(2, 41), (0, ((m : Nat) : Int)), (0, ((k : Nat) : Int))] [] w 142 Q9 := by
    intro m9
    induction m9 using Nat.strongRecOn with
    | ind m9 ih4 =>
    intro k m hm4 hI4
    refine qG.blk 2 (pc' := 7) (ls' := [(2, 41), (0, ((m : Nat) : Int)), (0, ((k : Nat) : Int))]) (st' := [(0, 64), (0, ((k : Nat) : Int))]) (w' := w) (n' := 142) rfl ?_
    refine qG.br (P := ((k : Nat) : Int) < 64) (pc1 := 10) (pc2 := 30) (st1 := []) rfl (fun h1 => ?_) (fun h1 => ?_)
    · skip
      refine qG.blk 2 (pc' := 14) (ls' := [(2, 41), (0, ((m : Nat) : Int)), (0, ((k : Nat) : Int))]) (st' := [(2, w 41 1)]) (w' := w) (n' := 142) rfl ?_
      rw [show w 41 1 = 43 from zref hI rfl rfl]
      refine qG.blk 1 (pc' := 15) (ls' := [(2, 41), (0, ((m : Nat) : Int)), (0, ((k : Nat) : Int))]) (st' := [(0, ((k : Nat) : Int)), (2, 43)]) (w' := w) (n' := 142) rfl ?_
      refine qG.ar (P := 0 ≤ ((k : Nat) : Int) ∧ ((k : Nat) : Int) < ((64 : Nat) : Int)) (P2 := 0 < (43 : Int) ∧ (43 : Int) ≤ ((142 : Nat) : Int)) (pc' := 16) (ls' := [(2, 41), (0, ((m : Nat) : Int)), (0, ((k : Nat) : Int))]) (st' := [(0, w 43 k)]) (w' := w) (n' := 142) rfl (by omega) (by decide) ?_
      refine qG.blk 1 (pc' := 18) (ls' := [(2, 41), (0, ((m : Nat) : Int)), (0, ((k : Nat) : Int))]) (st' := [(0, 13), (0, w 43 k)]) (w' := w) (n' := 142) rfl ?_
      refine qG.br (P := w 43 k = 13) (pc1 := 21) (pc2 := 24) (st1 := []) rfl (fun hx1 => ?_) (fun hx1 => ?_)
      · skip
        refine qG.blk 1 (pc' := 24) (ls' := [(2, 41), (0, wrp (((m : Nat) : Int) + 1)), (0, ((k : Nat) : Int))]) (st' := []) (w' := w) (n' := 142) rfl ?_
        rw [show wrp (((m : Nat) : Int) + 1) = ((m + 1 : Nat) : Int) from wrp_id (by omega) (by omega)]
        refine qG.blk 1 (pc' := 27) (ls' := [(2, 41), (0, ((m + 1 : Nat) : Int)), (0, wrp (((k : Nat) : Int) + 1))]) (st' := []) (w' := w) (n' := 142) rfl ?_
        rw [show wrp (((k : Nat) : Int) + 1) = ((k + 1 : Nat) : Int) from wrp_id (by omega) (by omega)]
        refine qG.blk 1 (pc' := 4) (ls' := [(2, 41), (0, ((m + 1 : Nat) : Int)), (0, ((k + 1 : Nat) : Int))]) (st' := []) (w' := w) (n' := 142) rfl ?_
        exact ih4 _ (by omega) (k + 1) (m + 1) rfl (⟨by omega, by first | (rw [cntF_y (by first | exact wrF_1 hx1 hx2 | exact decide_eq_true hx1)]; omega) | (rw [cntF_n (by first | exact wrF_0 (.inl hx1) | exact wrF_0 (.inr hx2) | exact decide_eq_false hx1)]; omega), by omega⟩)
      · skip
        refine qG.blk 1 (pc' := 27) (ls' := [(2, 41), (0, ((m : Nat) : Int)), (0, wrp (((k : Nat) : Int) + 1))]) (st' := []) (w' := w) (n' := 142) rfl ?_
        rw [show wrp (((k : Nat) : Int) + 1) = ((k + 1 : Nat) : Int) from wrp_id (by omega) (by omega)]
        refine qG.blk 1 (pc' := 4) (ls' := [(2, 41), (0, ((m : Nat) : Int)), (0, ((k + 1 : Nat) : Int))]) (st' := []) (w' := w) (n' := 142) rfl ?_
        exact ih4 _ (by omega) (k + 1) (m) rfl (⟨by omega, by first | (rw [cntF_y (by first | exact wrF_1 hx1 hx2 | exact decide_eq_true hx1)]; omega) | (rw [cntF_n (by first | exact wrF_0 (.inl hx1) | exact wrF_0 (.inr hx2) | exact decide_eq_false hx1)]; omega), by omega⟩)
    · skip
      refine qG.blk 1 (pc' := 31) (ls' := [(2, 41), (0, ((m : Nat) : Int)), (0, ((k : Nat) : Int))]) (st' := [(0, ((m : Nat) : Int))]) (w' := w) (n' := 142) rfl ?_
      refine qG.ret rfl rfl ?_
      subst hQ9
      exact ⟨by rw [← show k = 64 by omega, ← hI4.2.1], rfl, rfl⟩
  exact L4 _ (0) (0) rfl (⟨by omega, rfl, by omega⟩)
theorem K_X1_factOf {d : Nat} (hd : 1 ≤ d) (s v : Int) (w : qW) (hI : yInv zgf zga zra zSp w) : qG none d 14 0 [(2, 41), (0, s), (0, v)] [] w 142 (fun (r : qV) (_ : qW) (n1 : Nat) => r = (0, boV (w 42) (w 43) s v) ∧ n1 = 142) := by
  generalize hQ9 : (fun (r : qV) (_ : qW) (n1 : Nat) => r = (0, boV (w 42) (w 43) s v) ∧ n1 = 142) = Q9
  obtain ⟨d, rfl⟩ : ∃ d9, d = d9 + 1 := ⟨d - 1, by omega⟩
  refine qG.blk 2 (pc' := 2) (ls' := [(2, 41), (0, s), (0, v)]) (st' := [(0, 2), (0, v)]) (w' := w) (n' := 142) rfl ?_
  refine qG.br (P := v = 2) (pc1 := 5) (pc2 := 10) (st1 := []) rfl (fun hv2 => ?_) (fun hv2 => ?_)
  · skip
    refine qG.blk 1 (pc' := 6) (ls' := [(2, 41), (0, s), (0, v)]) (st' := [(2, 41)]) (w' := w) (n' := 142) rfl ?_
    refine qG.call (t := 15) (na := 1) (sk := 1) (md := 1) (ls1 := [(2, 41), (9, 0), (9, 0)]) (r1 := []) rfl rfl rfl rfl rfl (K_countWrong (Nat.zero_le _) w hI) ?_
    rintro _ w7 _ ⟨rfl, hw7, rfl⟩
    rw [hw7]
    show qG none (d + 1) 14 9 [(2, 41), (0, s), (0, v)] [(0, ((cntF (wrF (w 42) (w 43)) 64 : Nat) : Int))] w 142 Q9
    refine qG.ret rfl rfl ?_
    subst hQ9
    exact ⟨(by unfold boV; first | (rw [if_pos hv2]; done) | (rw [if_neg hv2, if_pos hv3]; done) | (rw [if_neg (by omega), if_neg (by omega), if_neg (by omega)]; done) | (rw [if_neg (by omega), if_neg (by omega), if_pos ⟨by omega, by omega, by omega⟩, if_pos hv0, Int.toNat_natCast]; done) | (rw [if_neg (by omega), if_neg (by omega), if_pos ⟨by omega, by omega, by omega⟩, if_neg hv0, Int.toNat_natCast]; done)), rfl⟩
  · skip
    refine qG.blk 2 (pc' := 12) (ls' := [(2, 41), (0, s), (0, v)]) (st' := [(0, 3), (0, v)]) (w' := w) (n' := 142) rfl ?_
    refine qG.br (P := v = 3) (pc1 := 15) (pc2 := 20) (st1 := []) rfl (fun hv3 => ?_) (fun hv3 => ?_)
    · skip
      refine qG.blk 1 (pc' := 16) (ls' := [(2, 41), (0, s), (0, v)]) (st' := [(2, 41)]) (w' := w) (n' := 142) rfl ?_
      refine qG.call (t := 16) (na := 1) (sk := 1) (md := 1) (ls1 := [(2, 41), (9, 0), (9, 0)]) (r1 := []) rfl rfl rfl rfl rfl (K_countOpen (Nat.zero_le _) w hI) ?_
      rintro _ w7 _ ⟨rfl, hw7, rfl⟩
      rw [hw7]
      show qG none (d + 1) 14 19 [(2, 41), (0, s), (0, v)] [(0, ((cntF (opF (w 43)) 64 : Nat) : Int))] w 142 Q9
      refine qG.ret rfl rfl ?_
      subst hQ9
      exact ⟨(by unfold boV; first | (rw [if_pos hv2]; done) | (rw [if_neg hv2, if_pos hv3]; done) | (rw [if_neg (by omega), if_neg (by omega), if_neg (by omega)]; done) | (rw [if_neg (by omega), if_neg (by omega), if_pos ⟨by omega, by omega, by omega⟩, if_pos hv0, Int.toNat_natCast]; done) | (rw [if_neg (by omega), if_neg (by omega), if_pos ⟨by omega, by omega, by omega⟩, if_neg hv0, Int.toNat_natCast]; done)), rfl⟩
    · skip
      refine qG.blk 1 (pc' := 21) (ls' := [(2, 41), (0, s), (0, v)]) (st' := [(0, v)]) (w' := w) (n' := 142) rfl ?_
      refine qG.br (P := v < 0) (pc1 := 36) (pc2 := 24) (st1 := []) rfl (fun h1 => ?_) (fun h1 => ?_)
      · skip
        refine qG.blk 1 (pc' := 37) (ls' := [(2, 41), (0, s), (0, v)]) (st' := [(0, (-1))]) (w' := w) (n' := 142) rfl ?_
        refine qG.ret rfl rfl ?_
        subst hQ9
        exact ⟨(by unfold boV; first | (rw [if_pos hv2]; done) | (rw [if_neg hv2, if_pos hv3]; done) | (rw [if_neg (by omega), if_neg (by omega), if_neg (by omega)]; done) | (rw [if_neg (by omega), if_neg (by omega), if_pos ⟨by omega, by omega, by omega⟩, if_pos hv0, Int.toNat_natCast]; done) | (rw [if_neg (by omega), if_neg (by omega), if_pos ⟨by omega, by omega, by omega⟩, if_neg hv0, Int.toNat_natCast]; done)), rfl⟩
      · skip
        refine qG.blk 2 (pc' := 26) (ls' := [(2, 41), (0, s), (0, v)]) (st' := [(0, 1), (0, v)]) (w' := w) (n' := 142) rfl ?_
        refine qG.br (P := 1 < v) (pc1 := 36) (pc2 := 29) (st1 := []) rfl (fun h2 => ?_) (fun h2 => ?_)
        · skip
          refine qG.blk 1 (pc' := 37) (ls' := [(2, 41), (0, s), (0, v)]) (st' := [(0, (-1))]) (w' := w) (n' := 142) rfl ?_
          refine qG.ret rfl rfl ?_
          subst hQ9
          exact ⟨(by unfold boV; first | (rw [if_pos hv2]; done) | (rw [if_neg hv2, if_pos hv3]; done) | (rw [if_neg (by omega), if_neg (by omega), if_neg (by omega)]; done) | (rw [if_neg (by omega), if_neg (by omega), if_pos ⟨by omega, by omega, by omega⟩, if_pos hv0, Int.toNat_natCast]; done) | (rw [if_neg (by omega), if_neg (by omega), if_pos ⟨by omega, by omega, by omega⟩, if_neg hv0, Int.toNat_natCast]; done)), rfl⟩
        · skip
          refine qG.blk 1 (pc' := 30) (ls' := [(2, 41), (0, s), (0, v)]) (st' := [(0, s)]) (w' := w) (n' := 142) rfl ?_
          refine qG.call (t := 9) (na := 1) (sk := 0) (md := 0) (ls1 := [(0, s)]) (r1 := []) rfl rfl rfl rfl rfl (K_X1_isSquare (Nat.zero_le _) _ _) ?_
          rintro _ w7 _ ⟨rfl, hw7, rfl⟩
          rw [hw7]
          show qG none (d + 1) 14 33 [(2, 41), (0, s), (0, v)] [(0, isInV s 0 63)] w 142 Q9
          refine qG.br (P := isInV s 0 63 = 0) (pc1 := 36) (pc2 := 38) (st1 := []) rfl (fun h1 => ?_) (fun h1 => ?_)
          · skip
            rw [isIn_b] at h1
            refine qG.blk 1 (pc' := 37) (ls' := [(2, 41), (0, s), (0, v)]) (st' := [(0, (-1))]) (w' := w) (n' := 142) rfl ?_
            refine qG.ret rfl rfl ?_
            subst hQ9
            exact ⟨(by unfold boV; first | (rw [if_pos hv2]; done) | (rw [if_neg hv2, if_pos hv3]; done) | (rw [if_neg (by omega), if_neg (by omega), if_neg (by omega)]; done) | (rw [if_neg (by omega), if_neg (by omega), if_pos ⟨by omega, by omega, by omega⟩, if_pos hv0, Int.toNat_natCast]; done) | (rw [if_neg (by omega), if_neg (by omega), if_pos ⟨by omega, by omega, by omega⟩, if_neg hv0, Int.toNat_natCast]; done)), rfl⟩
          · skip
            rw [isIn_p] at h1
            obtain ⟨s9, rfl⟩ : ∃ q : Nat, s = (q : Int) := ⟨s.toNat, by omega⟩
            refine qG.blk 1 (pc' := 39) (ls' := [(2, 41), (0, ((s9 : Nat) : Int)), (0, v)]) (st' := [(0, v)]) (w' := w) (n' := 142) rfl ?_
            refine qG.br (P := v = 0) (pc1 := 42) (pc2 := 51) (st1 := []) rfl (fun hv0 => ?_) (fun hv0 => ?_)
            · skip
              refine qG.blk 2 (pc' := 46) (ls' := [(2, 41), (0, ((s9 : Nat) : Int)), (0, v)]) (st' := [(2, w 41 0)]) (w' := w) (n' := 142) rfl ?_
              rw [show w 41 0 = 42 from zref hI rfl rfl]
              refine qG.blk 1 (pc' := 47) (ls' := [(2, 41), (0, ((s9 : Nat) : Int)), (0, v)]) (st' := [(0, ((s9 : Nat) : Int)), (2, 42)]) (w' := w) (n' := 142) rfl ?_
              refine qG.ar (P := 0 ≤ ((s9 : Nat) : Int) ∧ ((s9 : Nat) : Int) < ((64 : Nat) : Int)) (P2 := 0 < (42 : Int) ∧ (42 : Int) ≤ ((142 : Nat) : Int)) (pc' := 48) (ls' := [(2, 41), (0, ((s9 : Nat) : Int)), (0, v)]) (st' := [(0, w 42 s9)]) (w' := w) (n' := 142) rfl (by omega) (by decide) ?_
              refine qG.blk 1 (pc' := 57) (ls' := [(2, 41), (0, ((s9 : Nat) : Int)), (0, v)]) (st' := [(0, w 42 s9)]) (w' := w) (n' := 142) rfl ?_
              refine qG.ret rfl rfl ?_
              subst hQ9
              exact ⟨(by unfold boV; first | (rw [if_pos hv2]; done) | (rw [if_neg hv2, if_pos hv3]; done) | (rw [if_neg (by omega), if_neg (by omega), if_neg (by omega)]; done) | (rw [if_neg (by omega), if_neg (by omega), if_pos ⟨by omega, by omega, by omega⟩, if_pos hv0, Int.toNat_natCast]; done) | (rw [if_neg (by omega), if_neg (by omega), if_pos ⟨by omega, by omega, by omega⟩, if_neg hv0, Int.toNat_natCast]; done)), rfl⟩
            · skip
              refine qG.blk 2 (pc' := 55) (ls' := [(2, 41), (0, ((s9 : Nat) : Int)), (0, v)]) (st' := [(2, w 41 1)]) (w' := w) (n' := 142) rfl ?_
              rw [show w 41 1 = 43 from zref hI rfl rfl]
              refine qG.blk 1 (pc' := 56) (ls' := [(2, 41), (0, ((s9 : Nat) : Int)), (0, v)]) (st' := [(0, ((s9 : Nat) : Int)), (2, 43)]) (w' := w) (n' := 142) rfl ?_
              refine qG.ar (P := 0 ≤ ((s9 : Nat) : Int) ∧ ((s9 : Nat) : Int) < ((64 : Nat) : Int)) (P2 := 0 < (43 : Int) ∧ (43 : Int) ≤ ((142 : Nat) : Int)) (pc' := 57) (ls' := [(2, 41), (0, ((s9 : Nat) : Int)), (0, v)]) (st' := [(0, w 43 s9)]) (w' := w) (n' := 142) rfl (by omega) (by decide) ?_
              refine qG.ret rfl rfl ?_
              subst hQ9
              exact ⟨(by unfold boV; first | (rw [if_pos hv2]; done) | (rw [if_neg hv2, if_pos hv3]; done) | (rw [if_neg (by omega), if_neg (by omega), if_neg (by omega)]; done) | (rw [if_neg (by omega), if_neg (by omega), if_pos ⟨by omega, by omega, by omega⟩, if_pos hv0, Int.toNat_natCast]; done) | (rw [if_neg (by omega), if_neg (by omega), if_pos ⟨by omega, by omega, by omega⟩, if_neg hv0, Int.toNat_natCast]; done)), rfl⟩
theorem K_X11_board {d : Nat} (hd : 2 ≤ d) (s v : Int) (w : qW) (hI : yInv zgf zga zra zSp w) : qG none d 184 0 [(2, 1), (0, s), (0, v)] [] w 142 (fun (r : qV) (_ : qW) (_ : Nat) => r = (0, boV (w 42) (w 43) s v)) := by
  generalize hQ9 : (fun (r : qV) (_ : qW) (_ : Nat) => r = (0, boV (w 42) (w 43) s v)) = Q9
  obtain ⟨d, rfl⟩ : ∃ d9, d = d9 + 1 := ⟨d - 1, by omega⟩
  refine qG.blk 2 (pc' := 4) (ls' := [(2, 1), (0, s), (0, v)]) (st' := [(2, w 1 6)]) (w' := w) (n' := 142) rfl ?_
  rw [show w 1 6 = 41 from zref hI rfl rfl]
  refine qG.blk 2 (pc' := 6) (ls' := [(2, 1), (0, s), (0, v)]) (st' := [(0, v), (0, s), (2, 41)]) (w' := w) (n' := 142) rfl ?_
  refine qG.call (t := 14) (na := 3) (sk := 1) (md := 1) (ls1 := [(2, 41), (0, s), (0, v)]) (r1 := []) rfl rfl rfl rfl rfl (K_X1_factOf (by omega) s v w hI) ?_
  rintro _ w8 _ ⟨rfl, rfl⟩
  show qG none (d + 1) 184 9 [(2, 1), (0, s), (0, v)] [(0, boV (w 42) (w 43) s v)] w8 142 Q9
  refine qG.ret rfl rfl ?_
  subst hQ9
  exact rfl
theorem K_X12_board_2 {d : Nat} (hd : 2 ≤ d) (s : Int) (w : qW) (hI : yInv zgf zga zra zSp w) : qG none d 278 0 [(2, 95), (0, s), (0, 2), (9, 0), (9, 0)] [] w 142 (fun (r : qV) (_ : qW) (_ : Nat) => r = (0, ((cntF (wrF (w 122) (w 123)) 64 : Nat) : Int))) := by
  generalize hQ9 : (fun (r : qV) (_ : qW) (_ : Nat) => r = (0, ((cntF (wrF (w 122) (w 123)) 64 : Nat) : Int))) = Q9
  obtain ⟨d, rfl⟩ : ∃ d9, d = d9 + 1 := ⟨d - 1, by omega⟩
  refine qG.blk 3 (pc' := 3) (ls' := [(2, 95), (0, s), (0, 2), (9, 0), (9, 0)]) (st' := [(0, 3), (0, 0), (0, 2)]) (w' := w) (n' := 142) rfl ?_
  refine qG.call (t := 206) (na := 3) (sk := 0) (md := 0) (ls1 := [(0, 2), (0, 0), (0, 3)]) (r1 := []) rfl rfl rfl rfl rfl (K_isIn (Nat.zero_le _) _ _ _ _) ?_
  rintro _ w7 _ ⟨rfl, hw7, rfl⟩
  rw [hw7, show isInV 2 0 3 = 1 from by decide]
  show qG none (d + 1) 278 6 [(2, 95), (0, s), (0, 2), (9, 0), (9, 0)] [(0, 1)] w 142 Q9
  refine qG.br (P := (1 : Int) = 0) (pc1 := 21) (pc2 := 9) (st1 := []) rfl (fun h1 => ?_) (fun h1 => ?_)
  · exact absurd h1 (by decide)
  · skip
    refine qG.blk 2 (pc' := 11) (ls' := [(2, 95), (0, s), (0, 2), (9, 0), (9, 0)]) (st' := [(0, 2), (0, 2)]) (w' := w) (n' := 142) rfl ?_
    refine qG.br (P := (2 : Int) < 2) (pc1 := 14) (pc2 := 23) (st1 := []) rfl (fun h2 => ?_) (fun h2 => ?_)
    · exact absurd h2 (by decide)
    · skip
      refine qG.blk 2 (pc' := 25) (ls' := [(2, 95), (0, s), (0, 2), (9, 0), (9, 0)]) (st' := [(0, 2), (0, 2)]) (w' := w) (n' := 142) rfl ?_
      refine qG.br (P := (2 : Int) < 2) (pc1 := 28) (pc2 := 48) (st1 := []) rfl (fun h3 => ?_) (fun h3 => ?_)
      · exact absurd h3 (by decide)
      · skip
        refine qG.blk 4 (pc' := 53) (ls' := [(2, 95), (0, s), (0, 2), (0, 0), (0, 0)]) (st' := []) (w' := w) (n' := 142) rfl ?_
        have L53 : ∀ (m9 : Nat) (k m : Nat), 64 - k = m9 → (k ≤ 64 ∧ m = cntF (wrF (w 122) (w 123)) k ∧ m ≤ k) → qG none (d + 1) 278 53 [(2, 95), (0, s), (0, 2), (0, ((m : Nat) : Int)), (0, ((k : Nat) : Int))] [] w 142 Q9 := by
          intro m9
          induction m9 using Nat.strongRecOn with
          | ind m9 ih53 =>
          intro k m hm53 hI53
          refine qG.blk 2 (pc' := 57) (ls' := [(2, 95), (0, s), (0, 2), (0, ((m : Nat) : Int)), (0, ((k : Nat) : Int))]) (st' := [(0, 64), (0, ((k : Nat) : Int))]) (w' := w) (n' := 142) rfl ?_
          refine qG.br (P := ((k : Nat) : Int) < 64) (pc1 := 60) (pc2 := 128) (st1 := []) rfl (fun h4 => ?_) (fun h4 => ?_)
          · skip
            refine qG.blk 3 (pc' := 63) (ls' := [(2, 95), (0, s), (0, 2), (0, ((m : Nat) : Int)), (0, ((k : Nat) : Int))]) (st' := [(0, 3), (0, 2), (0, ((m : Nat) : Int))]) (w' := w) (n' := 142) rfl ?_
            refine qG.br (P := (2 : Int) = 3) (pc1 := 66) (pc2 := 86) (st1 := [(0, ((m : Nat) : Int))]) rfl (fun h5 => ?_) (fun h5 => ?_)
            · exact absurd h5 (by decide)
            · skip
              refine qG.blk 2 (pc' := 90) (ls' := [(2, 95), (0, s), (0, 2), (0, ((m : Nat) : Int)), (0, ((k : Nat) : Int))]) (st' := [(2, w 95 53), (0, ((m : Nat) : Int))]) (w' := w) (n' := 142) rfl ?_
              rw [show w 95 53 = 123 from zref hI rfl rfl]
              refine qG.blk 1 (pc' := 92) (ls' := [(2, 95), (0, s), (0, 2), (0, ((m : Nat) : Int)), (0, ((k : Nat) : Int))]) (st' := [(0, ((k : Nat) : Int)), (2, 123), (0, ((m : Nat) : Int))]) (w' := w) (n' := 142) rfl ?_
              refine qG.ar (P := 0 ≤ ((k : Nat) : Int) ∧ ((k : Nat) : Int) < ((64 : Nat) : Int)) (P2 := 0 < (123 : Int) ∧ (123 : Int) ≤ ((142 : Nat) : Int)) (pc' := 93) (ls' := [(2, 95), (0, s), (0, 2), (0, ((m : Nat) : Int)), (0, ((k : Nat) : Int))]) (st' := [(0, w 123 k), (0, ((m : Nat) : Int))]) (w' := w) (n' := 142) rfl (by omega) (by decide) ?_
              refine qG.blk 1 (pc' := 95) (ls' := [(2, 95), (0, s), (0, 2), (0, ((m : Nat) : Int)), (0, ((k : Nat) : Int))]) (st' := [(0, 13), (0, w 123 k), (0, ((m : Nat) : Int))]) (w' := w) (n' := 142) rfl ?_
              refine qG.br (P := w 123 k = 13) (pc1 := 119) (pc2 := 98) (st1 := [(0, ((m : Nat) : Int))]) rfl (fun hx1 => ?_) (fun hx1 => ?_)
              · skip
                refine qG.blk 2 (pc' := 121) (ls' := [(2, 95), (0, s), (0, 2), (0, ((m : Nat) : Int)), (0, ((k : Nat) : Int))]) (st' := [(0, wrp (((m : Nat) : Int) + 0))]) (w' := w) (n' := 142) rfl ?_
                rw [show wrp (((m : Nat) : Int) + 0) = ((m + 0 : Nat) : Int) from by rw [wrp_id (by omega) (by omega)]; omega]
                refine qG.blk 2 (pc' := 125) (ls' := [(2, 95), (0, s), (0, 2), (0, ((m + 0 : Nat) : Int)), (0, wrp (((k : Nat) : Int) + 1))]) (st' := []) (w' := w) (n' := 142) rfl ?_
                rw [show wrp (((k : Nat) : Int) + 1) = ((k + 1 : Nat) : Int) from wrp_id (by omega) (by omega)]
                refine qG.blk 1 (pc' := 53) (ls' := [(2, 95), (0, s), (0, 2), (0, ((m + 0 : Nat) : Int)), (0, ((k + 1 : Nat) : Int))]) (st' := []) (w' := w) (n' := 142) rfl ?_
                exact ih53 _ (by omega) (k + 1) (m + 0) rfl (⟨by omega, by first | (rw [cntF_y (by first | exact wrF_1 hx1 hx2 | exact decide_eq_true hx1)]; omega) | (rw [cntF_n (by first | exact wrF_0 (.inl hx1) | exact wrF_0 (.inr hx2) | exact decide_eq_false hx1)]; omega), by omega⟩)
              · skip
                refine qG.blk 2 (pc' := 102) (ls' := [(2, 95), (0, s), (0, 2), (0, ((m : Nat) : Int)), (0, ((k : Nat) : Int))]) (st' := [(2, w 95 53), (0, ((m : Nat) : Int))]) (w' := w) (n' := 142) rfl ?_
                rw [show w 95 53 = 123 from zref hI rfl rfl]
                refine qG.blk 1 (pc' := 104) (ls' := [(2, 95), (0, s), (0, 2), (0, ((m : Nat) : Int)), (0, ((k : Nat) : Int))]) (st' := [(0, ((k : Nat) : Int)), (2, 123), (0, ((m : Nat) : Int))]) (w' := w) (n' := 142) rfl ?_
                refine qG.ar (P := 0 ≤ ((k : Nat) : Int) ∧ ((k : Nat) : Int) < ((64 : Nat) : Int)) (P2 := 0 < (123 : Int) ∧ (123 : Int) ≤ ((142 : Nat) : Int)) (pc' := 105) (ls' := [(2, 95), (0, s), (0, 2), (0, ((m : Nat) : Int)), (0, ((k : Nat) : Int))]) (st' := [(0, w 123 k), (0, ((m : Nat) : Int))]) (w' := w) (n' := 142) rfl (by omega) (by decide) ?_
                refine qG.blk 2 (pc' := 109) (ls' := [(2, 95), (0, s), (0, 2), (0, ((m : Nat) : Int)), (0, ((k : Nat) : Int))]) (st' := [(2, w 95 52), (0, w 123 k), (0, ((m : Nat) : Int))]) (w' := w) (n' := 142) rfl ?_
                rw [show w 95 52 = 122 from zref hI rfl rfl]
                refine qG.blk 1 (pc' := 111) (ls' := [(2, 95), (0, s), (0, 2), (0, ((m : Nat) : Int)), (0, ((k : Nat) : Int))]) (st' := [(0, ((k : Nat) : Int)), (2, 122), (0, w 123 k), (0, ((m : Nat) : Int))]) (w' := w) (n' := 142) rfl ?_
                refine qG.ar (P := 0 ≤ ((k : Nat) : Int) ∧ ((k : Nat) : Int) < ((64 : Nat) : Int)) (P2 := 0 < (122 : Int) ∧ (122 : Int) ≤ ((142 : Nat) : Int)) (pc' := 112) (ls' := [(2, 95), (0, s), (0, 2), (0, ((m : Nat) : Int)), (0, ((k : Nat) : Int))]) (st' := [(0, w 122 k), (0, w 123 k), (0, ((m : Nat) : Int))]) (w' := w) (n' := 142) rfl (by omega) (by decide) ?_
                refine qG.br (P := w 123 k = w 122 k) (pc1 := 119) (pc2 := 115) (st1 := [(0, ((m : Nat) : Int))]) rfl (fun hx2 => ?_) (fun hx2 => ?_)
                · skip
                  refine qG.blk 2 (pc' := 121) (ls' := [(2, 95), (0, s), (0, 2), (0, ((m : Nat) : Int)), (0, ((k : Nat) : Int))]) (st' := [(0, wrp (((m : Nat) : Int) + 0))]) (w' := w) (n' := 142) rfl ?_
                  rw [show wrp (((m : Nat) : Int) + 0) = ((m + 0 : Nat) : Int) from by rw [wrp_id (by omega) (by omega)]; omega]
                  refine qG.blk 2 (pc' := 125) (ls' := [(2, 95), (0, s), (0, 2), (0, ((m + 0 : Nat) : Int)), (0, wrp (((k : Nat) : Int) + 1))]) (st' := []) (w' := w) (n' := 142) rfl ?_
                  rw [show wrp (((k : Nat) : Int) + 1) = ((k + 1 : Nat) : Int) from wrp_id (by omega) (by omega)]
                  refine qG.blk 1 (pc' := 53) (ls' := [(2, 95), (0, s), (0, 2), (0, ((m + 0 : Nat) : Int)), (0, ((k + 1 : Nat) : Int))]) (st' := []) (w' := w) (n' := 142) rfl ?_
                  exact ih53 _ (by omega) (k + 1) (m + 0) rfl (⟨by omega, by first | (rw [cntF_y (by first | exact wrF_1 hx1 hx2 | exact decide_eq_true hx1)]; omega) | (rw [cntF_n (by first | exact wrF_0 (.inl hx1) | exact wrF_0 (.inr hx2) | exact decide_eq_false hx1)]; omega), by omega⟩)
                · skip
                  refine qG.blk 3 (pc' := 121) (ls' := [(2, 95), (0, s), (0, 2), (0, ((m : Nat) : Int)), (0, ((k : Nat) : Int))]) (st' := [(0, wrp (((m : Nat) : Int) + 1))]) (w' := w) (n' := 142) rfl ?_
                  rw [show wrp (((m : Nat) : Int) + 1) = ((m + 1 : Nat) : Int) from by rw [wrp_id (by omega) (by omega)]; omega]
                  refine qG.blk 2 (pc' := 125) (ls' := [(2, 95), (0, s), (0, 2), (0, ((m + 1 : Nat) : Int)), (0, wrp (((k : Nat) : Int) + 1))]) (st' := []) (w' := w) (n' := 142) rfl ?_
                  rw [show wrp (((k : Nat) : Int) + 1) = ((k + 1 : Nat) : Int) from wrp_id (by omega) (by omega)]
                  refine qG.blk 1 (pc' := 53) (ls' := [(2, 95), (0, s), (0, 2), (0, ((m + 1 : Nat) : Int)), (0, ((k + 1 : Nat) : Int))]) (st' := []) (w' := w) (n' := 142) rfl ?_
                  exact ih53 _ (by omega) (k + 1) (m + 1) rfl (⟨by omega, by first | (rw [cntF_y (by first | exact wrF_1 hx1 hx2 | exact decide_eq_true hx1)]; omega) | (rw [cntF_n (by first | exact wrF_0 (.inl hx1) | exact wrF_0 (.inr hx2) | exact decide_eq_false hx1)]; omega), by omega⟩)
          · skip
            refine qG.blk 1 (pc' := 129) (ls' := [(2, 95), (0, s), (0, 2), (0, ((m : Nat) : Int)), (0, ((k : Nat) : Int))]) (st' := [(0, ((m : Nat) : Int))]) (w' := w) (n' := 142) rfl ?_
            refine qG.ret rfl rfl ?_
            subst hQ9
            exact (by rw [← show k = 64 by omega, ← hI53.2.1])
        exact L53 _ (0) (0) rfl (⟨by omega, rfl, by omega⟩)
theorem K_X12_board_3 {d : Nat} (hd : 2 ≤ d) (s : Int) (w : qW) (hI : yInv zgf zga zra zSp w) : qG none d 278 0 [(2, 95), (0, s), (0, 3), (9, 0), (9, 0)] [] w 142 (fun (r : qV) (_ : qW) (_ : Nat) => r = (0, ((cntF (opF (w 123)) 64 : Nat) : Int))) := by
  generalize hQ9 : (fun (r : qV) (_ : qW) (_ : Nat) => r = (0, ((cntF (opF (w 123)) 64 : Nat) : Int))) = Q9
  obtain ⟨d, rfl⟩ : ∃ d9, d = d9 + 1 := ⟨d - 1, by omega⟩
  refine qG.blk 3 (pc' := 3) (ls' := [(2, 95), (0, s), (0, 3), (9, 0), (9, 0)]) (st' := [(0, 3), (0, 0), (0, 3)]) (w' := w) (n' := 142) rfl ?_
  refine qG.call (t := 206) (na := 3) (sk := 0) (md := 0) (ls1 := [(0, 3), (0, 0), (0, 3)]) (r1 := []) rfl rfl rfl rfl rfl (K_isIn (Nat.zero_le _) _ _ _ _) ?_
  rintro _ w7 _ ⟨rfl, hw7, rfl⟩
  rw [hw7, show isInV 3 0 3 = 1 from by decide]
  show qG none (d + 1) 278 6 [(2, 95), (0, s), (0, 3), (9, 0), (9, 0)] [(0, 1)] w 142 Q9
  refine qG.br (P := (1 : Int) = 0) (pc1 := 21) (pc2 := 9) (st1 := []) rfl (fun h1 => ?_) (fun h1 => ?_)
  · exact absurd h1 (by decide)
  · skip
    refine qG.blk 2 (pc' := 11) (ls' := [(2, 95), (0, s), (0, 3), (9, 0), (9, 0)]) (st' := [(0, 2), (0, 3)]) (w' := w) (n' := 142) rfl ?_
    refine qG.br (P := (3 : Int) < 2) (pc1 := 14) (pc2 := 23) (st1 := []) rfl (fun h2 => ?_) (fun h2 => ?_)
    · exact absurd h2 (by decide)
    · skip
      refine qG.blk 2 (pc' := 25) (ls' := [(2, 95), (0, s), (0, 3), (9, 0), (9, 0)]) (st' := [(0, 2), (0, 3)]) (w' := w) (n' := 142) rfl ?_
      refine qG.br (P := (3 : Int) < 2) (pc1 := 28) (pc2 := 48) (st1 := []) rfl (fun h3 => ?_) (fun h3 => ?_)
      · exact absurd h3 (by decide)
      · skip
        refine qG.blk 4 (pc' := 53) (ls' := [(2, 95), (0, s), (0, 3), (0, 0), (0, 0)]) (st' := []) (w' := w) (n' := 142) rfl ?_
        have L53 : ∀ (m9 : Nat) (k m : Nat), 64 - k = m9 → (k ≤ 64 ∧ m = cntF (opF (w 123)) k ∧ m ≤ k) → qG none (d + 1) 278 53 [(2, 95), (0, s), (0, 3), (0, ((m : Nat) : Int)), (0, ((k : Nat) : Int))] [] w 142 Q9 := by
          intro m9
          induction m9 using Nat.strongRecOn with
          | ind m9 ih53 =>
          intro k m hm53 hI53
          refine qG.blk 2 (pc' := 57) (ls' := [(2, 95), (0, s), (0, 3), (0, ((m : Nat) : Int)), (0, ((k : Nat) : Int))]) (st' := [(0, 64), (0, ((k : Nat) : Int))]) (w' := w) (n' := 142) rfl ?_
          refine qG.br (P := ((k : Nat) : Int) < 64) (pc1 := 60) (pc2 := 128) (st1 := []) rfl (fun h4 => ?_) (fun h4 => ?_)
          · skip
            refine qG.blk 3 (pc' := 63) (ls' := [(2, 95), (0, s), (0, 3), (0, ((m : Nat) : Int)), (0, ((k : Nat) : Int))]) (st' := [(0, 3), (0, 3), (0, ((m : Nat) : Int))]) (w' := w) (n' := 142) rfl ?_
            refine qG.br (P := (3 : Int) = 3) (pc1 := 66) (pc2 := 86) (st1 := [(0, ((m : Nat) : Int))]) rfl (fun h5 => ?_) (fun h5 => ?_)
            · skip
              refine qG.blk 2 (pc' := 70) (ls' := [(2, 95), (0, s), (0, 3), (0, ((m : Nat) : Int)), (0, ((k : Nat) : Int))]) (st' := [(2, w 95 53), (0, ((m : Nat) : Int))]) (w' := w) (n' := 142) rfl ?_
              rw [show w 95 53 = 123 from zref hI rfl rfl]
              refine qG.blk 1 (pc' := 72) (ls' := [(2, 95), (0, s), (0, 3), (0, ((m : Nat) : Int)), (0, ((k : Nat) : Int))]) (st' := [(0, ((k : Nat) : Int)), (2, 123), (0, ((m : Nat) : Int))]) (w' := w) (n' := 142) rfl ?_
              refine qG.ar (P := 0 ≤ ((k : Nat) : Int) ∧ ((k : Nat) : Int) < ((64 : Nat) : Int)) (P2 := 0 < (123 : Int) ∧ (123 : Int) ≤ ((142 : Nat) : Int)) (pc' := 73) (ls' := [(2, 95), (0, s), (0, 3), (0, ((m : Nat) : Int)), (0, ((k : Nat) : Int))]) (st' := [(0, w 123 k), (0, ((m : Nat) : Int))]) (w' := w) (n' := 142) rfl (by omega) (by decide) ?_
              refine qG.blk 1 (pc' := 75) (ls' := [(2, 95), (0, s), (0, 3), (0, ((m : Nat) : Int)), (0, ((k : Nat) : Int))]) (st' := [(0, 13), (0, w 123 k), (0, ((m : Nat) : Int))]) (w' := w) (n' := 142) rfl ?_
              refine qG.br (P := w 123 k = 13) (pc1 := 78) (pc2 := 82) (st1 := [(0, ((m : Nat) : Int))]) rfl (fun hx1 => ?_) (fun hx1 => ?_)
              · skip
                refine qG.blk 3 (pc' := 121) (ls' := [(2, 95), (0, s), (0, 3), (0, ((m : Nat) : Int)), (0, ((k : Nat) : Int))]) (st' := [(0, wrp (((m : Nat) : Int) + 1))]) (w' := w) (n' := 142) rfl ?_
                rw [show wrp (((m : Nat) : Int) + 1) = ((m + 1 : Nat) : Int) from by rw [wrp_id (by omega) (by omega)]; omega]
                refine qG.blk 2 (pc' := 125) (ls' := [(2, 95), (0, s), (0, 3), (0, ((m + 1 : Nat) : Int)), (0, wrp (((k : Nat) : Int) + 1))]) (st' := []) (w' := w) (n' := 142) rfl ?_
                rw [show wrp (((k : Nat) : Int) + 1) = ((k + 1 : Nat) : Int) from wrp_id (by omega) (by omega)]
                refine qG.blk 1 (pc' := 53) (ls' := [(2, 95), (0, s), (0, 3), (0, ((m + 1 : Nat) : Int)), (0, ((k + 1 : Nat) : Int))]) (st' := []) (w' := w) (n' := 142) rfl ?_
                exact ih53 _ (by omega) (k + 1) (m + 1) rfl (⟨by omega, by first | (rw [cntF_y (by first | exact wrF_1 hx1 hx2 | exact decide_eq_true hx1)]; omega) | (rw [cntF_n (by first | exact wrF_0 (.inl hx1) | exact wrF_0 (.inr hx2) | exact decide_eq_false hx1)]; omega), by omega⟩)
              · skip
                refine qG.blk 3 (pc' := 121) (ls' := [(2, 95), (0, s), (0, 3), (0, ((m : Nat) : Int)), (0, ((k : Nat) : Int))]) (st' := [(0, wrp (((m : Nat) : Int) + 0))]) (w' := w) (n' := 142) rfl ?_
                rw [show wrp (((m : Nat) : Int) + 0) = ((m + 0 : Nat) : Int) from by rw [wrp_id (by omega) (by omega)]; omega]
                refine qG.blk 2 (pc' := 125) (ls' := [(2, 95), (0, s), (0, 3), (0, ((m + 0 : Nat) : Int)), (0, wrp (((k : Nat) : Int) + 1))]) (st' := []) (w' := w) (n' := 142) rfl ?_
                rw [show wrp (((k : Nat) : Int) + 1) = ((k + 1 : Nat) : Int) from wrp_id (by omega) (by omega)]
                refine qG.blk 1 (pc' := 53) (ls' := [(2, 95), (0, s), (0, 3), (0, ((m + 0 : Nat) : Int)), (0, ((k + 1 : Nat) : Int))]) (st' := []) (w' := w) (n' := 142) rfl ?_
                exact ih53 _ (by omega) (k + 1) (m + 0) rfl (⟨by omega, by first | (rw [cntF_y (by first | exact wrF_1 hx1 hx2 | exact decide_eq_true hx1)]; omega) | (rw [cntF_n (by first | exact wrF_0 (.inl hx1) | exact wrF_0 (.inr hx2) | exact decide_eq_false hx1)]; omega), by omega⟩)
            · exact absurd h5 (by decide)
          · skip
            refine qG.blk 1 (pc' := 129) (ls' := [(2, 95), (0, s), (0, 3), (0, ((m : Nat) : Int)), (0, ((k : Nat) : Int))]) (st' := [(0, ((m : Nat) : Int))]) (w' := w) (n' := 142) rfl ?_
            refine qG.ret rfl rfl ?_
            subst hQ9
            exact (by rw [← show k = 64 by omega, ← hI53.2.1])
        exact L53 _ (0) (0) rfl (⟨by omega, rfl, by omega⟩)
theorem K_X12_board_n {d : Nat} (hd : 2 ≤ d) (s v : Int) (hv2 : ¬ v = 2) (hv3 : ¬ v = 3) (w : qW) (hI : yInv zgf zga zra zSp w) : qG none d 278 0 [(2, 95), (0, s), (0, v), (9, 0), (9, 0)] [] w 142 (fun (r : qV) (_ : qW) (_ : Nat) => r = (0, boV (w 122) (w 123) s v)) := by
  generalize hQ9 : (fun (r : qV) (_ : qW) (_ : Nat) => r = (0, boV (w 122) (w 123) s v)) = Q9
  obtain ⟨d, rfl⟩ : ∃ d9, d = d9 + 1 := ⟨d - 1, by omega⟩
  refine qG.blk 3 (pc' := 3) (ls' := [(2, 95), (0, s), (0, v), (9, 0), (9, 0)]) (st' := [(0, 3), (0, 0), (0, v)]) (w' := w) (n' := 142) rfl ?_
  refine qG.call (t := 206) (na := 3) (sk := 0) (md := 0) (ls1 := [(0, v), (0, 0), (0, 3)]) (r1 := []) rfl rfl rfl rfl rfl (K_isIn (Nat.zero_le _) _ _ _ _) ?_
  rintro _ w7 _ ⟨rfl, hw7, rfl⟩
  rw [hw7]
  show qG none (d + 1) 278 6 [(2, 95), (0, s), (0, v), (9, 0), (9, 0)] [(0, isInV (v) (0) (3))] w 142 Q9
  refine qG.br (P := isInV (v) (0) (3) = 0) (pc1 := 21) (pc2 := 9) (st1 := []) rfl (fun h0 => ?_) (fun h0 => ?_)
  · skip
    rw [isIn_b] at h0
    refine qG.blk 1 (pc' := 22) (ls' := [(2, 95), (0, s), (0, v), (9, 0), (9, 0)]) (st' := [(0, (-1))]) (w' := w) (n' := 142) rfl ?_
    refine qG.ret rfl rfl ?_
    subst hQ9
    exact (by unfold boV; first | (rw [if_pos hv2]; done) | (rw [if_neg hv2, if_pos hv3]; done) | (rw [if_neg (by omega), if_neg (by omega), if_neg (by omega)]; done) | (rw [if_neg (by omega), if_neg (by omega), if_pos ⟨by omega, by omega, by omega⟩, if_pos hv0, Int.toNat_natCast]; done) | (rw [if_neg (by omega), if_neg (by omega), if_pos ⟨by omega, by omega, by omega⟩, if_neg hv0, Int.toNat_natCast]; done))
  · skip
    rw [isIn_p] at h0
    refine qG.blk 2 (pc' := 11) (ls' := [(2, 95), (0, s), (0, v), (9, 0), (9, 0)]) (st' := [(0, 2), (0, v)]) (w' := w) (n' := 142) rfl ?_
    refine qG.br (P := v < 2) (pc1 := 14) (pc2 := 23) (st1 := []) rfl (fun hq2 => ?_) (fun hq2 => ?_)
    · skip
      refine qG.blk 1 (pc' := 15) (ls' := [(2, 95), (0, s), (0, v), (9, 0), (9, 0)]) (st' := [(0, s)]) (w' := w) (n' := 142) rfl ?_
      refine qG.call (t := 274) (na := 1) (sk := 0) (md := 0) (ls1 := [(0, s)]) (r1 := []) rfl rfl rfl rfl rfl (K_X12_isSquare (by omega) _ _) ?_
      rintro _ w7 _ ⟨rfl, hw7, rfl⟩
      rw [hw7]
      show qG none (d + 1) 278 18 [(2, 95), (0, s), (0, v), (9, 0), (9, 0)] [(0, isInV s 0 63)] w 142 Q9
      refine qG.br (P := isInV s 0 63 = 0) (pc1 := 21) (pc2 := 23) (st1 := []) rfl (fun h1 => ?_) (fun h1 => ?_)
      · skip
        rw [isIn_b] at h1
        refine qG.blk 1 (pc' := 22) (ls' := [(2, 95), (0, s), (0, v), (9, 0), (9, 0)]) (st' := [(0, (-1))]) (w' := w) (n' := 142) rfl ?_
        refine qG.ret rfl rfl ?_
        subst hQ9
        exact (by unfold boV; first | (rw [if_pos hv2]; done) | (rw [if_neg hv2, if_pos hv3]; done) | (rw [if_neg (by omega), if_neg (by omega), if_neg (by omega)]; done) | (rw [if_neg (by omega), if_neg (by omega), if_pos ⟨by omega, by omega, by omega⟩, if_pos hv0, Int.toNat_natCast]; done) | (rw [if_neg (by omega), if_neg (by omega), if_pos ⟨by omega, by omega, by omega⟩, if_neg hv0, Int.toNat_natCast]; done))
      · skip
        rw [isIn_p] at h1
        obtain ⟨s9, rfl⟩ : ∃ q : Nat, s = (q : Int) := ⟨s.toNat, by omega⟩
        refine qG.blk 2 (pc' := 25) (ls' := [(2, 95), (0, ((s9 : Nat) : Int)), (0, v), (9, 0), (9, 0)]) (st' := [(0, 2), (0, v)]) (w' := w) (n' := 142) rfl ?_
        refine qG.br (P := v < 2) (pc1 := 28) (pc2 := 48) (st1 := []) rfl (fun hq3 => ?_) (fun hq3 => ?_)
        · skip
          refine qG.blk 1 (pc' := 29) (ls' := [(2, 95), (0, ((s9 : Nat) : Int)), (0, v), (9, 0), (9, 0)]) (st' := [(0, v)]) (w' := w) (n' := 142) rfl ?_
          refine qG.br (P := v = 0) (pc1 := 32) (pc2 := 41) (st1 := []) rfl (fun hv0 => ?_) (fun hv0 => ?_)
          · skip
            refine qG.blk 2 (pc' := 36) (ls' := [(2, 95), (0, ((s9 : Nat) : Int)), (0, v), (9, 0), (9, 0)]) (st' := [(2, w 95 52)]) (w' := w) (n' := 142) rfl ?_
            rw [show w 95 52 = 122 from zref hI rfl rfl]
            refine qG.blk 1 (pc' := 37) (ls' := [(2, 95), (0, ((s9 : Nat) : Int)), (0, v), (9, 0), (9, 0)]) (st' := [(0, ((s9 : Nat) : Int)), (2, 122)]) (w' := w) (n' := 142) rfl ?_
            refine qG.ar (P := 0 ≤ ((s9 : Nat) : Int) ∧ ((s9 : Nat) : Int) < ((64 : Nat) : Int)) (P2 := 0 < (122 : Int) ∧ (122 : Int) ≤ ((142 : Nat) : Int)) (pc' := 38) (ls' := [(2, 95), (0, ((s9 : Nat) : Int)), (0, v), (9, 0), (9, 0)]) (st' := [(0, w 122 s9)]) (w' := w) (n' := 142) rfl (by omega) (by decide) ?_
            refine qG.blk 1 (pc' := 47) (ls' := [(2, 95), (0, ((s9 : Nat) : Int)), (0, v), (9, 0), (9, 0)]) (st' := [(0, w 122 s9)]) (w' := w) (n' := 142) rfl ?_
            refine qG.ret rfl rfl ?_
            subst hQ9
            exact (by unfold boV; first | (rw [if_pos hv2]; done) | (rw [if_neg hv2, if_pos hv3]; done) | (rw [if_neg (by omega), if_neg (by omega), if_neg (by omega)]; done) | (rw [if_neg (by omega), if_neg (by omega), if_pos ⟨by omega, by omega, by omega⟩, if_pos hv0, Int.toNat_natCast]; done) | (rw [if_neg (by omega), if_neg (by omega), if_pos ⟨by omega, by omega, by omega⟩, if_neg hv0, Int.toNat_natCast]; done))
          · skip
            refine qG.blk 2 (pc' := 45) (ls' := [(2, 95), (0, ((s9 : Nat) : Int)), (0, v), (9, 0), (9, 0)]) (st' := [(2, w 95 53)]) (w' := w) (n' := 142) rfl ?_
            rw [show w 95 53 = 123 from zref hI rfl rfl]
            refine qG.blk 1 (pc' := 46) (ls' := [(2, 95), (0, ((s9 : Nat) : Int)), (0, v), (9, 0), (9, 0)]) (st' := [(0, ((s9 : Nat) : Int)), (2, 123)]) (w' := w) (n' := 142) rfl ?_
            refine qG.ar (P := 0 ≤ ((s9 : Nat) : Int) ∧ ((s9 : Nat) : Int) < ((64 : Nat) : Int)) (P2 := 0 < (123 : Int) ∧ (123 : Int) ≤ ((142 : Nat) : Int)) (pc' := 47) (ls' := [(2, 95), (0, ((s9 : Nat) : Int)), (0, v), (9, 0), (9, 0)]) (st' := [(0, w 123 s9)]) (w' := w) (n' := 142) rfl (by omega) (by decide) ?_
            refine qG.ret rfl rfl ?_
            subst hQ9
            exact (by unfold boV; first | (rw [if_pos hv2]; done) | (rw [if_neg hv2, if_pos hv3]; done) | (rw [if_neg (by omega), if_neg (by omega), if_neg (by omega)]; done) | (rw [if_neg (by omega), if_neg (by omega), if_pos ⟨by omega, by omega, by omega⟩, if_pos hv0, Int.toNat_natCast]; done) | (rw [if_neg (by omega), if_neg (by omega), if_pos ⟨by omega, by omega, by omega⟩, if_neg hv0, Int.toNat_natCast]; done))
        · exfalso; omega
    · exfalso; omega
theorem K_X12_board {d : Nat} (hd : 2 ≤ d) (s v : Int) (w : qW) (hI : yInv zgf zga zra zSp w) : qG none d 278 0 [(2, 95), (0, s), (0, v), (9, 0), (9, 0)] [] w 142 (fun (r : qV) (_ : qW) (_ : Nat) => r = (0, boV (w 122) (w 123) s v)) := by
  by_cases h2 : v = 2
  · subst h2; exact K_X12_board_2 hd s w hI
  by_cases h3 : v = 3
  · subst h3; exact K_X12_board_3 hd s w hI
  exact K_X12_board_n hd s v h2 h3 w hI
noncomputable def JB (w : qW) : Prop := (∀ j, w 42 j = w 122 j) ∧ (∀ j, w 43 j = w 123 j) ∧ ∀ j, w 44 j = w 124 j
noncomputable def jbM (m : List Nat) : Bool := spo m 42 && (spo m 43 && (spo m 44 && (spo m 122 && (spo m 123 && spo m 124))))
theorem JB.aw {m : List Nat} {w w1 : qW} (h : JB w) (a : AW m w w1) (hm : jbM m = true) : JB w1 := by
  unfold jbM at hm
  simp only [Bool.and_eq_true] at hm
  obtain ⟨m1, m2, m3, m4, m5, m6⟩ := hm
  refine ⟨fun j => ?_, fun j => ?_, fun j => ?_⟩
  · rw [a.a (by decide) m1, a.a (by decide) m4]; exact h.1 j
  · rw [a.a (by decide) m2, a.a (by decide) m5]; exact h.2.1 j
  · rw [a.a (by decide) m3, a.a (by decide) m6]; exact h.2.2 j
/-- the class's call leaves the reference's rows alone, and the other way round -/
theorem JB.fr {m : List Nat} {w w1 : qW} (a : AW m w w1) (h4 : spo m 122 = true) (h5 : spo m 123 = true) (h6 : spo m 124 = true) : w1 122 = w 122 ∧ w1 123 = w 123 ∧ w1 124 = w 124 := ⟨funext (a.a (by decide) h4), funext (a.a (by decide) h5), funext (a.a (by decide) h6)⟩
theorem JB.fx {m : List Nat} {w w1 : qW} (a : AW m w w1) (h4 : spo m 42 = true) (h5 : spo m 43 = true) (h6 : spo m 44 = true) : w1 42 = w 42 ∧ w1 43 = w 43 ∧ w1 44 = w 44 := ⟨funext (a.a (by decide) h4), funext (a.a (by decide) h5), funext (a.a (by decide) h6)⟩
theorem JB.eq {w : qW} (h : JB w) : w 42 = w 122 ∧ w 43 = w 123 ∧ w 44 = w 124 := ⟨funext h.1, funext h.2.1, funext h.2.2⟩
theorem JB.move {m m2 : List Nat} {w w1 w2 : qW} {f t bc : Int} {r r2 : qV} (h : JB w) (hX : movE 42 43 44 f t bc w r w1) (a : AW m w w1) (hm : (spo m 122 && (spo m 123 && spo m 124)) = true) (hR : movE 122 123 124 f t bc w1 r2 w2) (a2 : AW m2 w1 w2) (hm2 : (spo m2 42 && (spo m2 43 && spo m2 44)) = true) : JB w2 ∧ r = r2 := by
  simp only [Bool.and_eq_true] at hm hm2
  obtain ⟨q1, q2, q3⟩ := JB.fr a hm.1 hm.2.1 hm.2.2
  obtain ⟨p1, p2, p3⟩ := JB.fx a2 hm2.1 hm2.2.1 hm2.2.2
  obtain ⟨e1, e2, e3⟩ := h.eq
  unfold movE at hR
  rw [q1, q2, q3, ← e1, ← e2, ← e3] at hR
  unfold JB
  rw [p1, p2, p3]
  rcases hX with ⟨c1, rfl, rfl⟩ | ⟨c1, rfl, b1, b2, b3⟩ <;> rcases hR with ⟨c2, rfl, rfl⟩ | ⟨c2, rfl, d1, d2, d3⟩
  · exact ⟨h, rfl⟩
  · exact absurd c2 c1
  · exact absurd c1 c2
  · exact ⟨⟨fun j => (b1 j).trans (d1 j).symm, fun j => (b2 j).trans (d2 j).symm, fun j => (b3 j).trans (d3 j).symm⟩, rfl⟩
theorem JB.piece {m m2 : List Nat} {w w1 w2 : qW} {s p : Int} {r r2 : qV} (h : JB w) (hX : pieE 42 43 44 s p w r w1) (a : AW m w w1) (hm : (spo m 122 && (spo m 123 && spo m 124)) = true) (hR : pieE 122 123 124 s p w1 r2 w2) (a2 : AW m2 w1 w2) (hm2 : (spo m2 42 && (spo m2 43 && spo m2 44)) = true) : JB w2 ∧ r = r2 := by
  simp only [Bool.and_eq_true] at hm hm2
  obtain ⟨q1, q2, q3⟩ := JB.fr a hm.1 hm.2.1 hm.2.2
  obtain ⟨p1, p2, p3⟩ := JB.fx a2 hm2.1 hm2.2.1 hm2.2.2
  obtain ⟨e1, e2, e3⟩ := h.eq
  unfold pieE at hR
  rw [q1, q2, q3, ← e1, ← e2, ← e3] at hR
  unfold JB
  rw [p1, p2, p3]
  rcases hX with ⟨c1, rfl, rfl⟩ | ⟨c1, rfl, b1, b2, b3⟩ <;> rcases hR with ⟨c2, rfl, rfl⟩ | ⟨c2, rfl, d1, d2, d3⟩
  · exact ⟨h, rfl⟩
  · exact absurd c2 c1
  · exact absurd c1 c2
  · exact ⟨⟨fun j => (b1 j).trans (d1 j).symm, fun j => (b2 j).trans (d2 j).symm, fun j => (b3 j).trans (d3 j).symm⟩, rfl⟩
theorem JB.stick {m m2 : List Nat} {w w1 w2 : qW} {s p : Int} {r r2 : qV} (h : JB w) (hX : stiE 42 43 44 s p w r w1) (a : AW m w w1) (hm : (spo m 122 && (spo m 123 && spo m 124)) = true) (hR : stiE 122 123 124 s p w1 r2 w2) (a2 : AW m2 w1 w2) (hm2 : (spo m2 42 && (spo m2 43 && spo m2 44)) = true) : JB w2 ∧ r = r2 := by
  simp only [Bool.and_eq_true] at hm hm2
  obtain ⟨q1, q2, q3⟩ := JB.fr a hm.1 hm.2.1 hm.2.2
  obtain ⟨p1, p2, p3⟩ := JB.fx a2 hm2.1 hm2.2.1 hm2.2.2
  obtain ⟨e1, e2, e3⟩ := h.eq
  unfold stiE at hR
  rw [q1, q2, q3, ← e1, ← e2, ← e3] at hR
  unfold JB
  rw [p1, p2, p3]
  rcases hX with ⟨c1, rfl, rfl⟩ | ⟨c1, rfl, b1, b2, b3⟩ <;> rcases hR with ⟨c2, rfl, rfl⟩ | ⟨c2, rfl, d1, d2, d3⟩
  · exact ⟨h, rfl⟩
  · exact absurd c2 c1
  · exact absurd c1 c2
  · exact ⟨⟨fun j => (b1 j).trans (d1 j).symm, fun j => (b2 j).trans (d2 j).symm, fun j => (b3 j).trans (d3 j).symm⟩, rfl⟩
