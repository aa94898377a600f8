/-! the couples told and the moves played, on both sides -/
/-- a call by its contract: SP is kept, and what its places leave alone; joined with what a walk by hand tells -/
theorem SP.useX {t : Nat} {c : yC} {w : qW} {d : Nat} {as : List qV} {R : qV → qW → Nat → Prop} (T : yCOK w zgf zga zra zSp zgh t c) (h : SP w) (hd : c.1 ≤ d) (ha : yamc c.2.1 as) (hn : c.2.2.2.2.1 = []) (hp : c.2.2.2.2.2.1 = []) (hs : spm c.2.2.2.1 = true) (hx : qG none d t 0 (qini t as) [] w 142 R) : qG none d t 0 (qini t as) [] w 142 (fun v w' n' => (∃ x, v = (c.2.2.1.1, x)) ∧ SP w' ∧ n' = 142 ∧ AW c.2.2.2.1 w w' ∧ R v w' n') := by
  refine qG.mono (qG.and (T d as w hd ha h.1 (fun p hp => by rw [hn] at hp; cases hp) (fun e he => by rw [hp] at he; cases he)) hx) (fun v w' n' hh => ?_)
  obtain ⟨⟨⟨h1, h2, h3⟩, h4, h5, h6, -, -⟩, h7⟩ := hh
  have a : AW c.2.2.2.1 w w' := ⟨h4, h6⟩
  exact ⟨⟨v.2, Prod.ext h1 rfl⟩, h.aw a hs, h5, a, h7⟩
theorem SP.useA {t : Nat} {c : yC} {w : qW} {d : Nat} {as : List qV} (T : yCOK w zgf zga zra zSp zgh t c) (h : SP w) (hd : c.1 ≤ d) (ha : yamc c.2.1 as) (hn : c.2.2.2.2.1 = []) (hp : c.2.2.2.2.2.1 = []) (hs : spm c.2.2.2.1 = true) : qG none d t 0 (qini t as) [] w 142 (fun v w' n' => ∃ x, v = (c.2.2.1.1, x) ∧ c.2.2.1.2.1 ≤ x ∧ x ≤ c.2.2.1.2.2 ∧ SP w' ∧ n' = 142 ∧ AW c.2.2.2.1 w w' ∧ ∀ e ∈ c.2.2.2.2.2.2.1, w' e.1 e.2.1 = e.2.2) := by
  refine qG.mono (T d as w hd ha h.1 (fun p hp => by rw [hn] at hp; cases hp) (fun e he => by rw [hp] at he; cases he)) (fun v w' n' hh => ?_)
  obtain ⟨⟨h1, h2, h3⟩, h4, h5, h6, h7, -⟩ := hh
  have a : AW c.2.2.2.1 w w' := ⟨h4, h6⟩
  exact ⟨v.2, Prod.ext h1 rfl, h2, h3, h.aw a hs, h5, a, fun e he => (h7 e he).2⟩
theorem isIn_p {c a b : Int} : (¬ isInV c a b = 0) ↔ (a ≤ c ∧ c ≤ b) := by rw [isIn_b]; exact Decidable.not_not
theorem K_X1_isSquare {d : Nat} (hd : 0 ≤ d) (c : Int) (w : qW) : qG none d 9 0 [(0, c)] [] w 142 (fun (r : qV) (w1 : qW) (n1 : Nat) => r = (0, isInV c 0 63) ∧ w1 = w ∧ n1 = 142) := by
  generalize hQ9 : (fun (r : qV) (w1 : qW) (n1 : Nat) => r = (0, isInV c 0 63) ∧ w1 = w ∧ n1 = 142) = Q9
  refine qG.blk 1 (pc' := 1) (ls' := [(0, c)]) (st' := [(0, c)]) (w' := w) (n' := 142) rfl ?_
  refine qG.br (P := c < 0) (pc1 := 14) (pc2 := 4) (st1 := []) rfl (fun h1 => ?_) (fun h1 => ?_)
  · skip
    refine qG.blk 1 (pc' := 15) (ls' := [(0, c)]) (st' := [(0, 0)]) (w' := w) (n' := 142) rfl ?_
    refine qG.ret rfl (by first | rfl | exact decide_eq_true (by omega)) ?_
    subst hQ9
    exact ⟨by unfold isInV; split <;> (try split) <;> first | rfl | (exfalso; omega), rfl, rfl⟩
  · skip
    refine qG.blk 2 (pc' := 7) (ls' := [(0, c)]) (st' := [(0, 64), (0, c)]) (w' := w) (n' := 142) rfl ?_
    refine qG.br (P := c < 64) (pc1 := 10) (pc2 := 14) (st1 := []) rfl (fun h2 => ?_) (fun h2 => ?_)
    · skip
      refine qG.blk 2 (pc' := 15) (ls' := [(0, c)]) (st' := [(0, 1)]) (w' := w) (n' := 142) rfl ?_
      refine qG.ret rfl (by first | rfl | exact decide_eq_true (by omega)) ?_
      subst hQ9
      exact ⟨by unfold isInV; split <;> (try split) <;> first | rfl | (exfalso; omega), rfl, rfl⟩
    · skip
      refine qG.blk 1 (pc' := 15) (ls' := [(0, c)]) (st' := [(0, 0)]) (w' := w) (n' := 142) rfl ?_
      refine qG.ret rfl (by first | rfl | exact decide_eq_true (by omega)) ?_
      subst hQ9
      exact ⟨by unfold isInV; split <;> (try split) <;> first | rfl | (exfalso; omega), rfl, rfl⟩
theorem K_X12_isSquare {d : Nat} (hd : 1 ≤ d) (c : Int) (w : qW) : qG none d 274 0 [(0, c)] [] w 142 (fun (r : qV) (w1 : qW) (n1 : Nat) => r = (0, isInV c 0 63) ∧ w1 = w ∧ n1 = 142) := by
  generalize hQ9 : (fun (r : qV) (w1 : qW) (n1 : Nat) => r = (0, isInV c 0 63) ∧ w1 = w ∧ n1 = 142) = Q9
  obtain ⟨d, rfl⟩ : ∃ d9, d = d9 + 1 := ⟨d - 1, by omega⟩
  refine qG.blk 3 (pc' := 4) (ls' := [(0, c)]) (st' := [(0, 63), (0, 0), (0, c)]) (w' := w) (n' := 142) rfl ?_
  refine qG.call (t := 206) (na := 3) (sk := 0) (md := 0) (ls1 := [(0, c), (0, 0), (0, 63)]) (r1 := []) rfl rfl rfl rfl rfl (K_isIn (Nat.zero_le _) _ _ _ _) ?_
  rintro _ w7 _ ⟨rfl, hw7, rfl⟩
  rw [hw7]
  show qG none (d + 1) 274 7 [(0, c)] [(0, isInV (c) (0) (63))] w 142 Q9
  refine qG.ret rfl (by have q9 := isInV_01 c 0 63; exact decide_eq_true (by omega)) ?_
  subst hQ9
  exact ⟨rfl, rfl, rfl⟩
noncomputable def isMv (f t : Int) : Int := if ((0 ≤ f ∧ f ≤ 63) ∧ 0 ≤ t ∧ t ≤ 63) ∧ ¬ f = t then 1 else 0
theorem K_X1_isMove {d : Nat} (hd : 1 ≤ d) (f t : Int) (w : qW) : qG none d 10 0 [(0, f), (0, t)] [] w 142 (fun (r : qV) (w1 : qW) (n1 : Nat) => r = (0, isMv f t) ∧ w1 = w ∧ n1 = 142) := by
  generalize hQ9 : (fun (r : qV) (w1 : qW) (n1 : Nat) => r = (0, isMv f t) ∧ w1 = w ∧ n1 = 142) = Q9
  obtain ⟨d, rfl⟩ : ∃ d9, d = d9 + 1 := ⟨d - 1, by omega⟩
  refine qG.blk 1 (pc' := 1) (ls' := [(0, f), (0, t)]) (st' := [(0, f)]) (w' := w) (n' := 142) rfl ?_
  refine qG.call (t := 9) (na := 1) (sk := 0) (md := 0) (ls1 := [(0, f)]) (r1 := []) rfl rfl rfl rfl rfl (K_X1_isSquare (Nat.zero_le _) _ _) ?_
  rintro _ w7 _ ⟨rfl, hw7, rfl⟩
  rw [hw7]
  show qG none (d + 1) 10 4 [(0, f), (0, t)] [(0, isInV f 0 63)] w 142 Q9
  refine qG.br (P := isInV f 0 63 = 0) (pc1 := 23) (pc2 := 7) (st1 := []) rfl (fun hf => ?_) (fun hf => ?_)
  · skip
    rw [isIn_b] at hf
    refine qG.blk 1 (pc' := 24) (ls' := [(0, f), (0, t)]) (st' := [(0, 0)]) (w' := w) (n' := 142) rfl ?_
    refine qG.ret rfl (by first | rfl | exact decide_eq_true (by omega)) ?_
    subst hQ9
    exact ⟨congrArg (Prod.mk (0 : Nat)) (by unfold isMv; first | exact (if_pos (by omega)).symm | exact (if_neg (by omega)).symm), rfl, rfl⟩
  · skip
    rw [isIn_p] at hf
    refine qG.blk 1 (pc' := 8) (ls' := [(0, f), (0, t)]) (st' := [(0, t)]) (w' := w) (n' := 142) rfl ?_
    refine qG.call (t := 9) (na := 1) (sk := 0) (md := 0) (ls1 := [(0, t)]) (r1 := []) rfl rfl rfl rfl rfl (K_X1_isSquare (Nat.zero_le _) _ _) ?_
    rintro _ w7 _ ⟨rfl, hw7, rfl⟩
    rw [hw7]
    show qG none (d + 1) 10 11 [(0, f), (0, t)] [(0, isInV t 0 63)] w 142 Q9
    refine qG.br (P := isInV t 0 63 = 0) (pc1 := 23) (pc2 := 14) (st1 := []) rfl (fun ht => ?_) (fun ht => ?_)
    · skip
      rw [isIn_b] at ht
      refine qG.blk 1 (pc' := 24) (ls' := [(0, f), (0, t)]) (st' := [(0, 0)]) (w' := w) (n' := 142) rfl ?_
      refine qG.ret rfl (by first | rfl | exact decide_eq_true (by omega)) ?_
      subst hQ9
      exact ⟨congrArg (Prod.mk (0 : Nat)) (by unfold isMv; first | exact (if_pos (by omega)).symm | exact (if_neg (by omega)).symm), rfl, rfl⟩
    · skip
      rw [isIn_p] at ht
      refine qG.blk 2 (pc' := 16) (ls' := [(0, f), (0, t)]) (st' := [(0, t), (0, f)]) (w' := w) (n' := 142) rfl ?_
      refine qG.br (P := f = t) (pc1 := 23) (pc2 := 19) (st1 := []) rfl (fun hft => ?_) (fun hft => ?_)
      · skip
        refine qG.blk 1 (pc' := 24) (ls' := [(0, f), (0, t)]) (st' := [(0, 0)]) (w' := w) (n' := 142) rfl ?_
        refine qG.ret rfl (by first | rfl | exact decide_eq_true (by omega)) ?_
        subst hQ9
        exact ⟨congrArg (Prod.mk (0 : Nat)) (by unfold isMv; first | exact (if_pos (by omega)).symm | exact (if_neg (by omega)).symm), rfl, rfl⟩
      · skip
        refine qG.blk 2 (pc' := 24) (ls' := [(0, f), (0, t)]) (st' := [(0, 1)]) (w' := w) (n' := 142) rfl ?_
        refine qG.ret rfl (by first | rfl | exact decide_eq_true (by omega)) ?_
        subst hQ9
        exact ⟨congrArg (Prod.mk (0 : Nat)) (by unfold isMv; first | exact (if_pos (by omega)).symm | exact (if_neg (by omega)).symm), rfl, rfl⟩
theorem isMv_0 {f t : Int} (h : isMv f t = 0) : ¬ (((0 ≤ f ∧ f ≤ 63) ∧ 0 ≤ t ∧ t ≤ 63) ∧ ¬ f = t) := fun z => by rw [show isMv f t = 1 from if_pos z] at h; cases h
theorem isMv_1 {f t : Int} (h : ¬ isMv f t = 0) : ((0 ≤ f ∧ f ≤ 63) ∧ 0 ≤ t ∧ t ≤ 63) ∧ ¬ f = t := Decidable.byContradiction (fun z => h (if_neg z))
/-- two moves told as a couple, one move played -/
noncomputable def camC (f t a b : Int) (n : Nat) : Prop := ((((0 ≤ f ∧ f ≤ 63) ∧ 0 ≤ t ∧ t ≤ 63) ∧ ¬ f = t) ∧ ((0 ≤ a ∧ a ≤ 63) ∧ 0 ≤ b ∧ b ≤ 63) ∧ ¬ a = b) ∧ n < 60
noncomputable def camW (p j q1 q2 : Nat) (f t a b : Int) (n : Nat) (w : qW) : qW := qup (qup (qup w q1 n (64 * f + t)) q2 n (64 * a + b)) p j ((n + 1 : Nat) : Int)
noncomputable def camE (p j q1 q2 : Nat) (f t a b : Int) (n : Nat) (w : qW) (r : qV) (w1 : qW) : Prop := (¬ camC f t a b n ∧ r = (0, -1) ∧ w1 = w) ∨ (camC f t a b n ∧ r = (0, ((n + 1 : Nat) : Int)) ∧ w1 = camW p j q1 q2 f t a b n w)
noncomputable def gamC (f t : Int) (n : Nat) : Prop := (((0 ≤ f ∧ f ≤ 63) ∧ 0 ≤ t ∧ t ≤ 63) ∧ ¬ f = t) ∧ n < 40
noncomputable def gamE (p j q1 : Nat) (f t : Int) (n : Nat) (w : qW) (r : qV) (w1 : qW) : Prop := (¬ gamC f t n ∧ r = (0, -1) ∧ w1 = w) ∨ (gamC f t n ∧ r = (0, ((n + 1 : Nat) : Int)) ∧ w1 = qup (qup w q1 n (64 * f + t)) p j ((n + 1 : Nat) : Int))
noncomputable def JA (w : qW) : Prop := w 57 2 = w 95 71 ∧ w 57 4 = w 95 72 ∧ (∀ j, w 58 j = w 138 j) ∧ (∀ j, w 59 j = w 139 j) ∧ ∀ j, w 60 j = w 140 j
noncomputable def jaM (m : List Nat) : Bool := spo m 58 && (spo m 59 && (spo m 60 && (spo m 138 && (spo m 139 && (spo m 140 && (!ymo 57 2 m && (!ymo 57 4 m && (!ymo 95 71 m && !ymo 95 72 m))))))))
theorem JA.aw {m : List Nat} {w w1 : qW} (h : JA w) (a : AW m w w1) (hm : jaM m = true) : JA w1 := by
  unfold jaM at hm
  simp only [Bool.and_eq_true, Bool.not_eq_true'] at hm
  obtain ⟨m1, m2, m3, m4, m5, m6, m7, m8, m9, m10⟩ := hm
  refine ⟨?_, ?_, fun j => ?_, fun j => ?_, fun j => ?_⟩
  · rw [a.2 57 2 (fun _ => m7), a.2 95 71 (fun _ => m9)]; exact h.1
  · rw [a.2 57 4 (fun _ => m8), a.2 95 72 (fun _ => m10)]; exact h.2.1
  · rw [a.a (by decide) m1, a.a (by decide) m4]; exact h.2.2.1 j
  · rw [a.a (by decide) m2, a.a (by decide) m5]; exact h.2.2.2.1 j
  · rw [a.a (by decide) m3, a.a (by decide) m6]; exact h.2.2.2.2 j
theorem qup_if {w : qW} {p n : Nat} {v : Int} (j : Nat) : qup w p n v p j = if j = n then v else w p j := by
  split
  · rename_i e; rw [e, qup_k]
  · rename_i e; rw [qup_j e]
theorem JA.cam {w w1 w2 : qW} {f t a b : Int} {n : Nat} {r r2 : qV} (h : JA w) (hX : camE 57 2 58 59 f t a b n w r w1) (hR : camE 95 71 138 139 f t a b n w1 r2 w2) : JA w2 ∧ r = r2 := by
  rcases hX with ⟨c1, rfl, rfl⟩ | ⟨c1, rfl, rfl⟩ <;> rcases hR with ⟨c2, rfl, rfl⟩ | ⟨c2, rfl, rfl⟩
  · exact ⟨h, rfl⟩
  · exact absurd c2 c1
  · exact absurd c1 c2
  · refine ⟨⟨?_, ?_, fun j => ?_, fun j => ?_, fun j => ?_⟩, rfl⟩
    · unfold camW; simp (disch := decide) only [qup_ne, qup_k]
    · unfold camW; simp (disch := decide) only [qup_ne, qup_j]; exact h.2.1
    · unfold camW; simp (disch := decide) only [qup_ne, qup_if]; rw [h.2.2.1 j]
    · unfold camW; simp (disch := decide) only [qup_ne, qup_if]; rw [h.2.2.2.1 j]
    · unfold camW; simp (disch := decide) only [qup_ne]; exact h.2.2.2.2 j
theorem JA.game {w w1 w2 : qW} {f t : Int} {n : Nat} {r r2 : qV} (h : JA w) (hX : gamE 57 4 60 f t n w r w1) (hR : gamE 95 72 140 f t n w1 r2 w2) : JA w2 ∧ r = r2 := by
  rcases hX with ⟨c1, rfl, rfl⟩ | ⟨c1, rfl, rfl⟩ <;> rcases hR with ⟨c2, rfl, rfl⟩ | ⟨c2, rfl, rfl⟩
  · exact ⟨h, rfl⟩
  · exact absurd c2 c1
  · exact absurd c1 c2
  · refine ⟨⟨?_, ?_, fun j => ?_, fun j => ?_, fun j => ?_⟩, rfl⟩
    · simp (disch := decide) only [qup_ne, qup_j]; exact h.1
    · simp (disch := decide) only [qup_ne, qup_k]
    · simp (disch := decide) only [qup_ne]; exact h.2.2.1 j
    · simp (disch := decide) only [qup_ne]; exact h.2.2.2.1 j
    · simp (disch := decide) only [qup_ne, qup_if]; rw [h.2.2.2.2 j]
theorem JA.alone {w w1 w2 : qW} {x : Int} (h : JA w) (a : AW [5057] w w1) (e : w1 57 4 = if x = 2 then 0 else w 57 4) (a2 : AW [73095] w1 w2) (e2 : w2 95 72 = if x = 2 then 0 else w1 95 72) : JA w2 := by
  have q : ∀ p j, ymo p j [5057] = false → ymo p j [73095] = false → w2 p j = w p j := fun p j h1 h2 => (a2.2 p j (fun _ => h2)).trans (a.2 p j (fun _ => h1))
  have r : ∀ p, p < 1000 → spo [5057] p = true → spo [73095] p = true → ∀ j, w2 p j = w p j := fun p hp h1 h2 j => q p j (ymo_far hp h1 j) (ymo_far hp h2 j)
  refine ⟨?_, ?_, fun j => ?_, fun j => ?_, fun j => ?_⟩
  · rw [q 57 2 rfl rfl, q 95 71 rfl rfl]; exact h.1
  · rw [a2.2 57 4 (fun _ => rfl), e, e2, a.2 95 72 (fun _ => rfl)]
    split
    · rfl
    · exact h.2.1
  · rw [r 58 (by decide) (by decide) (by decide), r 138 (by decide) (by decide) (by decide)]; exact h.2.2.1 j
  · rw [r 59 (by decide) (by decide) (by decide), r 139 (by decide) (by decide) (by decide)]; exact h.2.2.2.1 j
  · rw [r 60 (by decide) (by decide) (by decide), r 140 (by decide) (by decide) (by decide)]; exact h.2.2.2.2 j
