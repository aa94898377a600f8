section
/-! what holds between the law's calls -/
noncomputable def SP (w : qW) : Prop := yInv zgf zga zra zSp w ∧ Sp1 w ∧ Sp2 w ∧ S3 w
noncomputable def spo (m : List Nat) (p : Nat) : Bool := m.all (fun e => !Nat.beq (e % 1000) p)
noncomputable def spm2 (m : List Nat) : Bool := spo m 104 && (spo m 105 && (spo m 111 && (spo m 112 && !ymo 95 22 m)))
noncomputable def spm (m : List Nat) : Bool := spm2 m && (spo m 102 && (spo m 103 && !ymo 95 8 m))
theorem SP.aw2 {m : List Nat} {w w1 : qW} (h : SP w) (a : AW m w w1) (hm : spm2 m = true) (hS : S3 w1) : SP w1 := by
  unfold spm2 at hm
  simp only [Bool.and_eq_true, Bool.not_eq_true'] at hm
  obtain ⟨m1, m2, m3, m4, m5⟩ := hm
  exact ⟨a.1, h.2.1.aw a m1 m2, h.2.2.1.aw a m5 m3 m4, hS⟩
theorem SP.aw {m : List Nat} {w w1 : qW} (h : SP w) (a : AW m w w1) (hm : spm m = true) : SP w1 := by
  unfold spm at hm
  simp only [Bool.and_eq_true, Bool.not_eq_true'] at hm
  obtain ⟨m1, m2, m3, m4⟩ := hm
  exact h.aw2 a m1 (h.2.2.2.aw a m4 m2 m3)
theorem SP.sq {m : List Nat} {w w1 : qW} {r : qV} {n1 : Nat} (h : SP w) (q : SQ m w r w1 n1) (hm : spm2 m = true) : SP w1 := h.aw2 q.2.2.1 hm q.2.2.2
theorem SP.tx {w w1 : qW} {r : qV} {n1 : Nat} (h : SP w) (q : TXQ w r w1 n1) : SP w1 := ⟨q.2.2.1.1, q.2.2.2.1 h.2.1, q.2.2.2.2 h.2.2.1, h.2.2.2.aw q.2.2.1 rfl (by decide) (by decide)⟩
/-- a call by its contract -/
theorem SP.use {t : Nat} {c : yC} {w : qW} {d : Nat} {as : List qV} (T : yCOK w zgf zga zra zSp zgh t c) (h : SP w) (hd : c.1 ≤ d) (ha : yamc c.2.1 as) (hn : c.2.2.2.2.1 = []) (hp : c.2.2.2.2.2.1 = []) (hs : spm c.2.2.2.1 = true) : qG none d t 0 (qini t as) [] w 142 (fun v w' n' => ∃ x, v = (c.2.2.1.1, x) ∧ c.2.2.1.2.1 ≤ x ∧ x ≤ c.2.2.1.2.2 ∧ SP w' ∧ n' = 142) := by
  refine qG.mono (T d as w hd ha h.1 (fun p hp => by rw [hn] at hp; cases hp) (fun e he => by rw [hp] at he; cases he)) (fun v w' n' hh => ?_)
  obtain ⟨⟨h1, h2, h3⟩, h4, h5, h6, -, -⟩ := hh
  exact ⟨v.2, Prod.ext h1 rfl, h2, h3, h.aw (m := c.2.2.2.1) ⟨h4, h6⟩ hs, h5⟩
end
section
/-! what wall answers -/
theorem qG.and {sc : Option (Nat × (Nat → Int))} {d k pc n : Nat} {ls st : List qV} {w : qW} {Q R : qV → qW → Nat → Prop} (h : qG sc d k pc ls st w n Q) (h2 : qG sc d k pc ls st w n R) : qG sc d k pc ls st w n (fun v w' n' => Q v w' n' ∧ R v w' n') := by
  obtain ⟨f, v, w1, n1, e, q⟩ := h
  obtain ⟨g, v2, w2, n2, e2, q2⟩ := h2
  have a := qex_le (Nat.le_max_left f g) _ _ _ _ _ _ _ _ _ e
  have b := qex_le (Nat.le_max_right f g) _ _ _ _ _ _ _ _ _ e2
  rw [a] at b
  cases b
  exact ⟨_, v, w1, n1, a, q, q2⟩
end
section
/-! what door answers -/
/-- what putDoor answers -/
noncomputable def pdV (d s v : Int) : Int := if ((0 ≤ d ∧ d ≤ 9) ∧ 0 ≤ s ∧ s ≤ 1) ∧ (0 ≤ v ∧ v ≤ 65535) ∧ qand v (if s = 0 then 65280 else 255) = 0 then 1 else 0
noncomputable def doorV (c d s v : Int) : Int := if isInV c 0 2 = 0 then 0 else pdV d s v
theorem isIn_b {c a b : Int} : isInV c a b = 0 ↔ ¬ (a ≤ c ∧ c ≤ b) := by unfold isInV; split <;> (try split) <;> constructor <;> intro h <;> omega
end
section
/-! the couples told and the moves played, on both sides -/
/-- a call by its contract: SP is kept, and what its places leave alone; joined with what a walk by hand tells -/
theorem SP.useX {t : Nat} {c : yC} {w : qW} {d : Nat} {as : List qV} {R : qV → qW → Nat → Prop} (T : yCOK w zgf zga zra zSp zgh t c) (h : SP w) (hd : c.1 ≤ d) (ha : yamc c.2.1 as) (hn : c.2.2.2.2.1 = []) (hp : c.2.2.2.2.2.1 = []) (hs : spm c.2.2.2.1 = true) (hx : qG none d t 0 (qini t as) [] w 142 R) : qG none d t 0 (qini t as) [] w 142 (fun v w' n' => (∃ x, v = (c.2.2.1.1, x)) ∧ SP w' ∧ n' = 142 ∧ AW c.2.2.2.1 w w' ∧ R v w' n') := by
  refine qG.mono (qG.and (T d as w hd ha h.1 (fun p hp => by rw [hn] at hp; cases hp) (fun e he => by rw [hp] at he; cases he)) hx) (fun v w' n' hh => ?_)
  obtain ⟨⟨⟨h1, h2, h3⟩, h4, h5, h6, -, -⟩, h7⟩ := hh
  have a : AW c.2.2.2.1 w w' := ⟨h4, h6⟩
  exact ⟨⟨v.2, Prod.ext h1 rfl⟩, h.aw a hs, h5, a, h7⟩
theorem SP.useA {t : Nat} {c : yC} {w : qW} {d : Nat} {as : List qV} (T : yCOK w zgf zga zra zSp zgh t c) (h : SP w) (hd : c.1 ≤ d) (ha : yamc c.2.1 as) (hn : c.2.2.2.2.1 = []) (hp : c.2.2.2.2.2.1 = []) (hs : spm c.2.2.2.1 = true) : qG none d t 0 (qini t as) [] w 142 (fun v w' n' => ∃ x, v = (c.2.2.1.1, x) ∧ c.2.2.1.2.1 ≤ x ∧ x ≤ c.2.2.1.2.2 ∧ SP w' ∧ n' = 142 ∧ AW c.2.2.2.1 w w' ∧ ∀ e ∈ c.2.2.2.2.2.2.1, w' e.1 e.2.1 = e.2.2) := by
  refine qG.mono (T d as w hd ha h.1 (fun p hp => by rw [hn] at hp; cases hp) (fun e he => by rw [hp] at he; cases he)) (fun v w' n' hh => ?_)
  obtain ⟨⟨h1, h2, h3⟩, h4, h5, h6, h7, -⟩ := hh
  have a : AW c.2.2.2.1 w w' := ⟨h4, h6⟩
  exact ⟨v.2, Prod.ext h1 rfl, h2, h3, h.aw a hs, h5, a, fun e he => (h7 e he).2⟩
theorem isIn_p {c a b : Int} : (¬ isInV c a b = 0) ↔ (a ≤ c ∧ c ≤ b) := by rw [isIn_b]; exact Decidable.not_not
/-- two moves told as a couple, one move played -/
noncomputable def camC (f t a b : Int) (n : Nat) : Prop := ((((0 ≤ f ∧ f ≤ 63) ∧ 0 ≤ t ∧ t ≤ 63) ∧ ¬ f = t) ∧ ((0 ≤ a ∧ a ≤ 63) ∧ 0 ≤ b ∧ b ≤ 63) ∧ ¬ a = b) ∧ n < 60
noncomputable def camW (p j q1 q2 : Nat) (f t a b : Int) (n : Nat) (w : qW) : qW := qup (qup (qup w q1 n (64 * f + t)) q2 n (64 * a + b)) p j ((n + 1 : Nat) : Int)
noncomputable def camE (p j q1 q2 : Nat) (f t a b : Int) (n : Nat) (w : qW) (r : qV) (w1 : qW) : Prop := (¬ camC f t a b n ∧ r = (0, -1) ∧ w1 = w) ∨ (camC f t a b n ∧ r = (0, ((n + 1 : Nat) : Int)) ∧ w1 = camW p j q1 q2 f t a b n w)
noncomputable def gamC (f t : Int) (n : Nat) : Prop := (((0 ≤ f ∧ f ≤ 63) ∧ 0 ≤ t ∧ t ≤ 63) ∧ ¬ f = t) ∧ n < 40
noncomputable def gamE (p j q1 : Nat) (f t : Int) (n : Nat) (w : qW) (r : qV) (w1 : qW) : Prop := (¬ gamC f t n ∧ r = (0, -1) ∧ w1 = w) ∨ (gamC f t n ∧ r = (0, ((n + 1 : Nat) : Int)) ∧ w1 = qup (qup w q1 n (64 * f + t)) p j ((n + 1 : Nat) : Int))
noncomputable def JA (w : qW) : Prop := w 57 2 = w 95 71 ∧ w 57 4 = w 95 72 ∧ (∀ j, w 58 j = w 138 j) ∧ (∀ j, w 59 j = w 139 j) ∧ ∀ j, w 60 j = w 140 j
noncomputable def jaM (m : List Nat) : Bool := spo m 58 && (spo m 59 && (spo m 60 && (spo m 138 && (spo m 139 && (spo m 140 && (!ymo 57 2 m && (!ymo 57 4 m && (!ymo 95 71 m && !ymo 95 72 m))))))))
theorem JA.aw {m : List Nat} {w w1 : qW} (h : JA w) (a : AW m w w1) (hm : jaM m = true) : JA w1 := by
  unfold jaM at hm
  simp only [Bool.and_eq_true, Bool.not_eq_true'] at hm
  obtain ⟨m1, m2, m3, m4, m5, m6, m7, m8, m9, m10⟩ := hm
  refine ⟨?_, ?_, fun j => ?_, fun j => ?_, fun j => ?_⟩
  · rw [a.2 57 2 (fun _ => m7), a.2 95 71 (fun _ => m9)]; exact h.1
  · rw [a.2 57 4 (fun _ => m8), a.2 95 72 (fun _ => m10)]; exact h.2.1
  · rw [a.a (by decide) m1, a.a (by decide) m4]; exact h.2.2.1 j
  · rw [a.a (by decide) m2, a.a (by decide) m5]; exact h.2.2.2.1 j
  · rw [a.a (by decide) m3, a.a (by decide) m6]; exact h.2.2.2.2 j
theorem qup_if {w : qW} {p n : Nat} {v : Int} (j : Nat) : qup w p n v p j = if j = n then v else w p j := by
  split
  · rename_i e; rw [e, qup_k]
  · rename_i e; rw [qup_j e]
theorem JA.cam {w w1 w2 : qW} {f t a b : Int} {n : Nat} {r r2 : qV} (h : JA w) (hX : camE 57 2 58 59 f t a b n w r w1) (hR : camE 95 71 138 139 f t a b n w1 r2 w2) : JA w2 ∧ r = r2 := by
  rcases hX with ⟨c1, rfl, rfl⟩ | ⟨c1, rfl, rfl⟩ <;> rcases hR with ⟨c2, rfl, rfl⟩ | ⟨c2, rfl, rfl⟩
  · exact ⟨h, rfl⟩
  · exact absurd c2 c1
  · exact absurd c1 c2
  · refine ⟨⟨?_, ?_, fun j => ?_, fun j => ?_, fun j => ?_⟩, rfl⟩
    · unfold camW; simp (disch := decide) only [qup_ne, qup_k]
    · unfold camW; simp (disch := decide) only [qup_ne, qup_j]; exact h.2.1
    · unfold camW; simp (disch := decide) only [qup_ne, qup_if]; rw [h.2.2.1 j]
    · unfold camW; simp (disch := decide) only [qup_ne, qup_if]; rw [h.2.2.2.1 j]
    · unfold camW; simp (disch := decide) only [qup_ne]; exact h.2.2.2.2 j
theorem JA.game {w w1 w2 : qW} {f t : Int} {n : Nat} {r r2 : qV} (h : JA w) (hX : gamE 57 4 60 f t n w r w1) (hR : gamE 95 72 140 f t n w1 r2 w2) : JA w2 ∧ r = r2 := by
  rcases hX with ⟨c1, rfl, rfl⟩ | ⟨c1, rfl, rfl⟩ <;> rcases hR with ⟨c2, rfl, rfl⟩ | ⟨c2, rfl, rfl⟩
  · exact ⟨h, rfl⟩
  · exact absurd c2 c1
  · exact absurd c1 c2
  · refine ⟨⟨?_, ?_, fun j => ?_, fun j => ?_, fun j => ?_⟩, rfl⟩
    · simp (disch := decide) only [qup_ne, qup_j]; exact h.1
    · simp (disch := decide) only [qup_ne, qup_k]
    · simp (disch := decide) only [qup_ne]; exact h.2.2.1 j
    · simp (disch := decide) only [qup_ne]; exact h.2.2.2.1 j
    · simp (disch := decide) only [qup_ne, qup_if]; rw [h.2.2.2.2 j]
theorem JA.alone {w w1 w2 : qW} {x : Int} (h : JA w) (a : AW [5057] w w1) (e : w1 57 4 = if x = 2 then 0 else w 57 4) (a2 : AW [73095] w1 w2) (e2 : w2 95 72 = if x = 2 then 0 else w1 95 72) : JA w2 := by
  have q : ∀ p j, ymo p j [5057] = false → ymo p j [73095] = false → w2 p j = w p j := fun p j h1 h2 => (a2.2 p j (fun _ => h2)).trans (a.2 p j (fun _ => h1))
  have r : ∀ p, p < 1000 → spo [5057] p = true → spo [73095] p = true → ∀ j, w2 p j = w p j := fun p hp h1 h2 j => q p j (ymo_far hp h1 j) (ymo_far hp h2 j)
  refine ⟨?_, ?_, fun j => ?_, fun j => ?_, fun j => ?_⟩
  · rw [q 57 2 rfl rfl, q 95 71 rfl rfl]; exact h.1
  · rw [a2.2 57 4 (fun _ => rfl), e, e2, a.2 95 72 (fun _ => rfl)]
    split
    · rfl
    · exact h.2.1
  · rw [r 58 (by decide) (by decide) (by decide), r 138 (by decide) (by decide) (by decide)]; exact h.2.2.1 j
  · rw [r 59 (by decide) (by decide) (by decide), r 139 (by decide) (by decide) (by decide)]; exact h.2.2.2.1 j
  · rw [r 60 (by decide) (by decide) (by decide), r 140 (by decide) (by decide) (by decide)]; exact h.2.2.2.2 j
end
section
/-! the board on both sides -/
noncomputable def nbF (B : Nat → Int) (f t : Nat) (bc : Int) (j : Nat) : Int := if j = f then 0 else if j = t then (if bc = -1 then B f else bc) else B j
noncomputable def nkF (K S : Nat → Int) (f t : Nat) (j : Nat) : Int := if S t = 0 ∧ j = t then (if S f = 0 then (if K f = 0 then 13 else K f) else 13) else if S f = 0 ∧ j = f then 0 else K j
noncomputable def movC (B : Nat → Int) (f t bc : Int) : Prop := ((((0 ≤ f ∧ f ≤ 63) ∧ 0 ≤ t ∧ t ≤ 63) ∧ ¬ f = t) ∧ ¬ B f.toNat = 0) ∧ (bc = -1 ∨ (1 ≤ bc ∧ bc ≤ 12))
noncomputable def movE (a b c : Nat) (f t bc : Int) (w : qW) (r : qV) (w1 : qW) : Prop := (¬ movC (w a) f t bc ∧ r = (0, 0) ∧ w1 = w) ∨ (movC (w a) f t bc ∧ r = (0, 1) ∧ (∀ j, w1 a j = nbF (w a) f.toNat t.toNat bc j) ∧ (∀ j, w1 b j = nkF (w b) (w c) f.toNat t.toNat j) ∧ ∀ j, w1 c j = w c j)
noncomputable def pieE (a b c : Nat) (s p : Int) (w : qW) (r : qV) (w1 : qW) : Prop := (¬ ((0 ≤ s ∧ s ≤ 63) ∧ 0 ≤ p ∧ p ≤ 12) ∧ r = (0, 0) ∧ w1 = w) ∨ (((0 ≤ s ∧ s ≤ 63) ∧ 0 ≤ p ∧ p ≤ 12) ∧ r = (0, 1) ∧ (∀ j, w1 a j = if j = s.toNat then p else w a j) ∧ (∀ j, w1 b j = if j = s.toNat then p else w b j) ∧ ∀ j, w1 c j = w c j)
noncomputable def stiE (a b c : Nat) (s p : Int) (w : qW) (r : qV) (w1 : qW) : Prop := (¬ (0 ≤ s ∧ s ≤ 63) ∧ r = (0, 0) ∧ w1 = w) ∨ ((0 ≤ s ∧ s ≤ 63) ∧ r = (0, 1) ∧ (∀ j, w1 a j = w a j) ∧ (∀ j, w1 b j = w b j) ∧ ∀ j, w1 c j = if j = s.toNat then p else w c j)
noncomputable def JB (w : qW) : Prop := (∀ j, w 42 j = w 122 j) ∧ (∀ j, w 43 j = w 123 j) ∧ ∀ j, w 44 j = w 124 j
noncomputable def jbM (m : List Nat) : Bool := spo m 42 && (spo m 43 && (spo m 44 && (spo m 122 && (spo m 123 && spo m 124))))
theorem JB.aw {m : List Nat} {w w1 : qW} (h : JB w) (a : AW m w w1) (hm : jbM m = true) : JB w1 := by
  unfold jbM at hm
  simp only [Bool.and_eq_true] at hm
  obtain ⟨m1, m2, m3, m4, m5, m6⟩ := hm
  refine ⟨fun j => ?_, fun j => ?_, fun j => ?_⟩
  · rw [a.a (by decide) m1, a.a (by decide) m4]; exact h.1 j
  · rw [a.a (by decide) m2, a.a (by decide) m5]; exact h.2.1 j
  · rw [a.a (by decide) m3, a.a (by decide) m6]; exact h.2.2 j
/-- the class's call leaves the reference's rows alone, and the other way round -/
theorem JB.fr {m : List Nat} {w w1 : qW} (a : AW m w w1) (h4 : spo m 122 = true) (h5 : spo m 123 = true) (h6 : spo m 124 = true) : w1 122 = w 122 ∧ w1 123 = w 123 ∧ w1 124 = w 124 := ⟨funext (a.a (by decide) h4), funext (a.a (by decide) h5), funext (a.a (by decide) h6)⟩
theorem JB.fx {m : List Nat} {w w1 : qW} (a : AW m w w1) (h4 : spo m 42 = true) (h5 : spo m 43 = true) (h6 : spo m 44 = true) : w1 42 = w 42 ∧ w1 43 = w 43 ∧ w1 44 = w 44 := ⟨funext (a.a (by decide) h4), funext (a.a (by decide) h5), funext (a.a (by decide) h6)⟩
theorem JB.eq {w : qW} (h : JB w) : w 42 = w 122 ∧ w 43 = w 123 ∧ w 44 = w 124 := ⟨funext h.1, funext h.2.1, funext h.2.2⟩
theorem JB.move {m m2 : List Nat} {w w1 w2 : qW} {f t bc : Int} {r r2 : qV} (h : JB w) (hX : movE 42 43 44 f t bc w r w1) (a : AW m w w1) (hm : (spo m 122 && (spo m 123 && spo m 124)) = true) (hR : movE 122 123 124 f t bc w1 r2 w2) (a2 : AW m2 w1 w2) (hm2 : (spo m2 42 && (spo m2 43 && spo m2 44)) = true) : JB w2 ∧ r = r2 := by
  simp only [Bool.and_eq_true] at hm hm2
  obtain ⟨q1, q2, q3⟩ := JB.fr a hm.1 hm.2.1 hm.2.2
  obtain ⟨p1, p2, p3⟩ := JB.fx a2 hm2.1 hm2.2.1 hm2.2.2
  obtain ⟨e1, e2, e3⟩ := h.eq
  unfold movE at hR
  rw [q1, q2, q3, ← e1, ← e2, ← e3] at hR
  unfold JB
  rw [p1, p2, p3]
  rcases hX with ⟨c1, rfl, rfl⟩ | ⟨c1, rfl, b1, b2, b3⟩ <;> rcases hR with ⟨c2, rfl, rfl⟩ | ⟨c2, rfl, d1, d2, d3⟩
  · exact ⟨h, rfl⟩
  · exact absurd c2 c1
  · exact absurd c1 c2
  · exact ⟨⟨fun j => (b1 j).trans (d1 j).symm, fun j => (b2 j).trans (d2 j).symm, fun j => (b3 j).trans (d3 j).symm⟩, rfl⟩
theorem JB.piece {m m2 : List Nat} {w w1 w2 : qW} {s p : Int} {r r2 : qV} (h : JB w) (hX : pieE 42 43 44 s p w r w1) (a : AW m w w1) (hm : (spo m 122 && (spo m 123 && spo m 124)) = true) (hR : pieE 122 123 124 s p w1 r2 w2) (a2 : AW m2 w1 w2) (hm2 : (spo m2 42 && (spo m2 43 && spo m2 44)) = true) : JB w2 ∧ r = r2 := by
  simp only [Bool.and_eq_true] at hm hm2
  obtain ⟨q1, q2, q3⟩ := JB.fr a hm.1 hm.2.1 hm.2.2
  obtain ⟨p1, p2, p3⟩ := JB.fx a2 hm2.1 hm2.2.1 hm2.2.2
  obtain ⟨e1, e2, e3⟩ := h.eq
  unfold pieE at hR
  rw [q1, q2, q3, ← e1, ← e2, ← e3] at hR
  unfold JB
  rw [p1, p2, p3]
  rcases hX with ⟨c1, rfl, rfl⟩ | ⟨c1, rfl, b1, b2, b3⟩ <;> rcases hR with ⟨c2, rfl, rfl⟩ | ⟨c2, rfl, d1, d2, d3⟩
  · exact ⟨h, rfl⟩
  · exact absurd c2 c1
  · exact absurd c1 c2
  · exact ⟨⟨fun j => (b1 j).trans (d1 j).symm, fun j => (b2 j).trans (d2 j).symm, fun j => (b3 j).trans (d3 j).symm⟩, rfl⟩
theorem JB.stick {m m2 : List Nat} {w w1 w2 : qW} {s p : Int} {r r2 : qV} (h : JB w) (hX : stiE 42 43 44 s p w r w1) (a : AW m w w1) (hm : (spo m 122 && (spo m 123 && spo m 124)) = true) (hR : stiE 122 123 124 s p w1 r2 w2) (a2 : AW m2 w1 w2) (hm2 : (spo m2 42 && (spo m2 43 && spo m2 44)) = true) : JB w2 ∧ r = r2 := by
  simp only [Bool.and_eq_true] at hm hm2
  obtain ⟨q1, q2, q3⟩ := JB.fr a hm.1 hm.2.1 hm.2.2
  obtain ⟨p1, p2, p3⟩ := JB.fx a2 hm2.1 hm2.2.1 hm2.2.2
  obtain ⟨e1, e2, e3⟩ := h.eq
  unfold stiE at hR
  rw [q1, q2, q3, ← e1, ← e2, ← e3] at hR
  unfold JB
  rw [p1, p2, p3]
  rcases hX with ⟨c1, rfl, rfl⟩ | ⟨c1, rfl, b1, b2, b3⟩ <;> rcases hR with ⟨c2, rfl, rfl⟩ | ⟨c2, rfl, d1, d2, d3⟩
  · exact ⟨h, rfl⟩
  · exact absurd c2 c1
  · exact absurd c1 c2
  · exact ⟨⟨fun j => (b1 j).trans (d1 j).symm, fun j => (b2 j).trans (d2 j).symm, fun j => (b3 j).trans (d3 j).symm⟩, rfl⟩
end
section
/-! the writers on both sides -/
noncomputable def wriC (y c : Int) (n : Nat) : Prop := ((0 ≤ y ∧ y ≤ 99) ∧ 0 ≤ c ∧ c ≤ 1073741823) ∧ n < 20
noncomputable def wriE (p j q1 q2 : Nat) (y c : Int) (n : Nat) (w : qW) (r : qV) (w1 : qW) : Prop := (¬ wriC y c n ∧ r = (0, -1) ∧ w1 = w) ∨ (wriC y c n ∧ r = (0, ((n : Nat) : Int)) ∧ w1 = qup (qup (qup w q1 n y) q2 n c) p j ((n + 1 : Nat) : Int))
noncomputable def truE (p j : Nat) (c : Int) (w : qW) (r : qV) (w1 : qW) : Prop := (¬ (0 ≤ c ∧ c ≤ 1073741823) ∧ r = (0, 0) ∧ w1 = w) ∨ ((0 ≤ c ∧ c ≤ 1073741823) ∧ r = (0, 1) ∧ w1 = qup w p j c)
noncomputable def JW (w : qW) : Prop := w 61 2 = w 95 76 ∧ w 61 3 = w 95 77 ∧ (∀ j, w 62 j = w 141 j) ∧ ∀ j, w 63 j = w 142 j
noncomputable def jwM (m : List Nat) : Bool := spo m 62 && (spo m 63 && (spo m 141 && (spo m 142 && (!ymo 61 2 m && (!ymo 61 3 m && (!ymo 95 76 m && !ymo 95 77 m))))))
theorem JW.aw {m : List Nat} {w w1 : qW} (h : JW w) (a : AW m w w1) (hm : jwM m = true) : JW w1 := by
  unfold jwM at hm
  simp only [Bool.and_eq_true, Bool.not_eq_true'] at hm
  obtain ⟨m1, m2, m4, m5, m7, m8, m9, m10⟩ := hm
  refine ⟨?_, ?_, fun j => ?_, fun j => ?_⟩
  · rw [a.2 61 2 (fun _ => m7), a.2 95 76 (fun _ => m9)]; exact h.1
  · rw [a.2 61 3 (fun _ => m8), a.2 95 77 (fun _ => m10)]; exact h.2.1
  · rw [a.a (by decide) m1, a.a (by decide) m4]; exact h.2.2.1 j
  · rw [a.a (by decide) m2, a.a (by decide) m5]; exact h.2.2.2 j
theorem JW.writer {w w1 w2 : qW} {y c : Int} {n : Nat} {r r2 : qV} (h : JW w) (hX : wriE 61 2 62 63 y c n w r w1) (hR : wriE 95 76 141 142 y c n w1 r2 w2) : JW w2 ∧ r = r2 := by
  rcases hX with ⟨c1, rfl, rfl⟩ | ⟨c1, rfl, rfl⟩ <;> rcases hR with ⟨c2, rfl, rfl⟩ | ⟨c2, rfl, rfl⟩
  · exact ⟨h, rfl⟩
  · exact absurd c2 c1
  · exact absurd c1 c2
  · refine ⟨⟨?_, ?_, fun j => ?_, fun j => ?_⟩, rfl⟩
    · simp (disch := decide) only [qup_ne, qup_k]
    · simp (disch := decide) only [qup_ne, qup_j]; exact h.2.1
    · simp (disch := decide) only [qup_ne, qup_if]; rw [h.2.2.1 j]
    · simp (disch := decide) only [qup_ne, qup_if]; rw [h.2.2.2 j]
theorem JW.truth {w w1 w2 : qW} {c : Int} {r r2 : qV} (h : JW w) (hX : truE 61 3 c w r w1) (hR : truE 95 77 c w1 r2 w2) : JW w2 ∧ r = r2 := by
  rcases hX with ⟨c1, rfl, rfl⟩ | ⟨c1, rfl, rfl⟩ <;> rcases hR with ⟨c2, rfl, rfl⟩ | ⟨c2, rfl, rfl⟩
  · exact ⟨h, rfl⟩
  · exact absurd c2 c1
  · exact absurd c1 c2
  · refine ⟨⟨?_, ?_, fun j => ?_, fun j => ?_⟩, rfl⟩
    · simp (disch := decide) only [qup_ne, qup_j]; exact h.1
    · simp (disch := decide) only [qup_ne, qup_k]
    · simp (disch := decide) only [qup_ne]; exact h.2.2.1 j
    · simp (disch := decide) only [qup_ne]; exact h.2.2.2 j
end
section
/-! the masters and the nights on both sides -/
theorem qup_f {w : qW} {p j q i : Nat} {v : Int} (h : ¬ (q = p ∧ i = j)) : qup w p j v q i = w q i := by
  by_cases hp : q = p
  · subst hp; exact qup_j (fun z => h ⟨rfl, z⟩)
  · rw [qup_ne hp]
noncomputable def masC (s g a b : Int) (n : Nat) : Prop := ((1 ≤ s ∧ s ≤ 4) ∧ (0 ≤ g ∧ g ≤ 99) ∧ (0 ≤ a ∧ a ≤ 99) ∧ a ≤ b ∧ b ≤ 99) ∧ n < 12
noncomputable def masE (p j q1 q2 q3 : Nat) (L : List Nat) (s g a b : Int) (n : Nat) (w : qW) (r : qV) (w1 : qW) : Prop := (¬ masC s g a b n ∧ r = (0, -1) ∧ w1 = w) ∨ (masC s g a b n ∧ r = (0, ((n : Nat) : Int)) ∧ w1 p j = ((n + 1 : Nat) : Int) ∧ (∀ k, w1 q1 k = if k = n then g else w q1 k) ∧ (∀ k, w1 q2 k = if k = n then a else w q2 k) ∧ (∀ k, w1 q3 k = if k = n then b else w q3 k) ∧ ∀ q k, q ∉ L → ¬ (q = p ∧ k = j) → w1 q k = w q k)
noncomputable def nigC (y t g e a : Int) (n : Nat) : Prop := ((0 ≤ y ∧ y ≤ 99) ∧ (0 ≤ t ∧ t ≤ 9) ∧ (0 ≤ g ∧ g ≤ 99) ∧ (0 ≤ e ∧ e ≤ 2) ∧ -1 ≤ a ∧ a ≤ 2) ∧ n < 60
noncomputable def nigE (p j q1 q2 q3 q4 q5 : Nat) (y t g e a : Int) (n : Nat) (w : qW) (r : qV) (w1 : qW) : Prop := (¬ nigC y t g e a n ∧ r = (0, -1) ∧ w1 = w) ∨ (nigC y t g e a n ∧ r = (0, ((n : Nat) : Int)) ∧ w1 p j = ((n + 1 : Nat) : Int) ∧ (∀ k, w1 q1 k = if k = n then y else w q1 k) ∧ (∀ k, w1 q2 k = if k = n then t else w q2 k) ∧ (∀ k, w1 q3 k = if k = n then g else w q3 k) ∧ (∀ k, w1 q4 k = if k = n then e else w q4 k) ∧ (∀ k, w1 q5 k = if k = n then a else w q5 k) ∧ ∀ q k, q ∉ [q1, q2, q3, q4, q5] → ¬ (q = p ∧ k = j) → w1 q k = w q k)
theorem K_X4_isYear {d : Nat} (hd : 0 ≤ d) (c : Int) (w : qW) : qG none d 55 0 [(0, c)] [] w 142 (fun (r : qV) (w1 : qW) (n1 : Nat) => r = (0, isInV c 0 99) ∧ w1 = w ∧ n1 = 142) := by
  generalize hQ9 : (fun (r : qV) (w1 : qW) (n1 : Nat) => r = (0, isInV c 0 99) ∧ w1 = w ∧ n1 = 142) = Q9
  refine qG.blk 1 (pc' := 1) (ls' := [(0, c)]) (st' := [(0, c)]) (w' := w) (n' := 142) rfl ?_
  refine qG.br (P := c < 0) (pc1 := 14) (pc2 := 4) (st1 := []) rfl (fun h1 => ?_) (fun h1 => ?_)
  · skip
    refine qG.blk 1 (pc' := 15) (ls' := [(0, c)]) (st' := [(0, 0)]) (w' := w) (n' := 142) rfl ?_
    refine qG.ret rfl (by first | rfl | exact decide_eq_true (by omega)) ?_
    subst hQ9
    exact ⟨by unfold isInV; split <;> (try split) <;> first | rfl | (exfalso; omega), rfl, rfl⟩
  · skip
    refine qG.blk 2 (pc' := 7) (ls' := [(0, c)]) (st' := [(0, 100), (0, c)]) (w' := w) (n' := 142) rfl ?_
    refine qG.br (P := c < 100) (pc1 := 10) (pc2 := 14) (st1 := []) rfl (fun h2 => ?_) (fun h2 => ?_)
    · skip
      refine qG.blk 2 (pc' := 15) (ls' := [(0, c)]) (st' := [(0, 1)]) (w' := w) (n' := 142) rfl ?_
      refine qG.ret rfl (by first | rfl | exact decide_eq_true (by omega)) ?_
      subst hQ9
      exact ⟨by unfold isInV; split <;> (try split) <;> first | rfl | (exfalso; omega), rfl, rfl⟩
    · skip
      refine qG.blk 1 (pc' := 15) (ls' := [(0, c)]) (st' := [(0, 0)]) (w' := w) (n' := 142) rfl ?_
      refine qG.ret rfl (by first | rfl | exact decide_eq_true (by omega)) ?_
      subst hQ9
      exact ⟨by unfold isInV; split <;> (try split) <;> first | rfl | (exfalso; omega), rfl, rfl⟩
theorem K_X4_isStrength {d : Nat} (hd : 0 ≤ d) (c : Int) (w : qW) : qG none d 57 0 [(0, c)] [] w 142 (fun (r : qV) (w1 : qW) (n1 : Nat) => r = (0, isInV c 0 99) ∧ w1 = w ∧ n1 = 142) := by
  generalize hQ9 : (fun (r : qV) (w1 : qW) (n1 : Nat) => r = (0, isInV c 0 99) ∧ w1 = w ∧ n1 = 142) = Q9
  refine qG.blk 1 (pc' := 1) (ls' := [(0, c)]) (st' := [(0, c)]) (w' := w) (n' := 142) rfl ?_
  refine qG.br (P := c < 0) (pc1 := 14) (pc2 := 4) (st1 := []) rfl (fun h1 => ?_) (fun h1 => ?_)
  · skip
    refine qG.blk 1 (pc' := 15) (ls' := [(0, c)]) (st' := [(0, 0)]) (w' := w) (n' := 142) rfl ?_
    refine qG.ret rfl (by first | rfl | exact decide_eq_true (by omega)) ?_
    subst hQ9
    exact ⟨by unfold isInV; split <;> (try split) <;> first | rfl | (exfalso; omega), rfl, rfl⟩
  · skip
    refine qG.blk 2 (pc' := 7) (ls' := [(0, c)]) (st' := [(0, 99), (0, c)]) (w' := w) (n' := 142) rfl ?_
    refine qG.br (P := 99 < c) (pc1 := 14) (pc2 := 10) (st1 := []) rfl (fun h2 => ?_) (fun h2 => ?_)
    · skip
      refine qG.blk 1 (pc' := 15) (ls' := [(0, c)]) (st' := [(0, 0)]) (w' := w) (n' := 142) rfl ?_
      refine qG.ret rfl (by first | rfl | exact decide_eq_true (by omega)) ?_
      subst hQ9
      exact ⟨by unfold isInV; split <;> (try split) <;> first | rfl | (exfalso; omega), rfl, rfl⟩
    · skip
      refine qG.blk 2 (pc' := 15) (ls' := [(0, c)]) (st' := [(0, 1)]) (w' := w) (n' := 142) rfl ?_
      refine qG.ret rfl (by first | rfl | exact decide_eq_true (by omega)) ?_
      subst hQ9
      exact ⟨by unfold isInV; split <;> (try split) <;> first | rfl | (exfalso; omega), rfl, rfl⟩
theorem K_X4_isTown {d : Nat} (hd : 0 ≤ d) (c : Int) (w : qW) : qG none d 56 0 [(0, c)] [] w 142 (fun (r : qV) (w1 : qW) (n1 : Nat) => r = (0, isInV c 0 9) ∧ w1 = w ∧ n1 = 142) := by
  generalize hQ9 : (fun (r : qV) (w1 : qW) (n1 : Nat) => r = (0, isInV c 0 9) ∧ w1 = w ∧ n1 = 142) = Q9
  refine qG.blk 1 (pc' := 1) (ls' := [(0, c)]) (st' := [(0, c)]) (w' := w) (n' := 142) rfl ?_
  refine qG.br (P := c < 0) (pc1 := 14) (pc2 := 4) (st1 := []) rfl (fun h1 => ?_) (fun h1 => ?_)
  · skip
    refine qG.blk 1 (pc' := 15) (ls' := [(0, c)]) (st' := [(0, 0)]) (w' := w) (n' := 142) rfl ?_
    refine qG.ret rfl (by first | rfl | exact decide_eq_true (by omega)) ?_
    subst hQ9
    exact ⟨by unfold isInV; split <;> (try split) <;> first | rfl | (exfalso; omega), rfl, rfl⟩
  · skip
    refine qG.blk 2 (pc' := 7) (ls' := [(0, c)]) (st' := [(0, 10), (0, c)]) (w' := w) (n' := 142) rfl ?_
    refine qG.br (P := c < 10) (pc1 := 10) (pc2 := 14) (st1 := []) rfl (fun h2 => ?_) (fun h2 => ?_)
    · skip
      refine qG.blk 2 (pc' := 15) (ls' := [(0, c)]) (st' := [(0, 1)]) (w' := w) (n' := 142) rfl ?_
      refine qG.ret rfl (by first | rfl | exact decide_eq_true (by omega)) ?_
      subst hQ9
      exact ⟨by unfold isInV; split <;> (try split) <;> first | rfl | (exfalso; omega), rfl, rfl⟩
    · skip
      refine qG.blk 1 (pc' := 15) (ls' := [(0, c)]) (st' := [(0, 0)]) (w' := w) (n' := 142) rfl ?_
      refine qG.ret rfl (by first | rfl | exact decide_eq_true (by omega)) ?_
      subst hQ9
      exact ⟨by unfold isInV; split <;> (try split) <;> first | rfl | (exfalso; omega), rfl, rfl⟩
theorem K_X4_isAnswer {d : Nat} (hd : 0 ≤ d) (c : Int) (w : qW) : qG none d 58 0 [(0, c)] [] w 142 (fun (r : qV) (w1 : qW) (n1 : Nat) => r = (0, isInV c 0 2) ∧ w1 = w ∧ n1 = 142) := by
  generalize hQ9 : (fun (r : qV) (w1 : qW) (n1 : Nat) => r = (0, isInV c 0 2) ∧ w1 = w ∧ n1 = 142) = Q9
  refine qG.blk 1 (pc' := 1) (ls' := [(0, c)]) (st' := [(0, c)]) (w' := w) (n' := 142) rfl ?_
  refine qG.br (P := c < 0) (pc1 := 13) (pc2 := 4) (st1 := []) rfl (fun h1 => ?_) (fun h1 => ?_)
  · skip
    refine qG.blk 1 (pc' := 14) (ls' := [(0, c)]) (st' := [(0, 0)]) (w' := w) (n' := 142) rfl ?_
    refine qG.ret rfl (by first | rfl | exact decide_eq_true (by omega)) ?_
    subst hQ9
    exact ⟨by unfold isInV; split <;> (try split) <;> first | rfl | (exfalso; omega), rfl, rfl⟩
  · skip
    refine qG.blk 2 (pc' := 6) (ls' := [(0, c)]) (st' := [(0, 3), (0, c)]) (w' := w) (n' := 142) rfl ?_
    refine qG.br (P := c < 3) (pc1 := 9) (pc2 := 13) (st1 := []) rfl (fun h2 => ?_) (fun h2 => ?_)
    · skip
      refine qG.blk 2 (pc' := 14) (ls' := [(0, c)]) (st' := [(0, 1)]) (w' := w) (n' := 142) rfl ?_
      refine qG.ret rfl (by first | rfl | exact decide_eq_true (by omega)) ?_
      subst hQ9
      exact ⟨by unfold isInV; split <;> (try split) <;> first | rfl | (exfalso; omega), rfl, rfl⟩
    · skip
      refine qG.blk 1 (pc' := 14) (ls' := [(0, c)]) (st' := [(0, 0)]) (w' := w) (n' := 142) rfl ?_
      refine qG.ret rfl (by first | rfl | exact decide_eq_true (by omega)) ?_
      subst hQ9
      exact ⟨by unfold isInV; split <;> (try split) <;> first | rfl | (exfalso; omega), rfl, rfl⟩
theorem K_X11_isSize {d : Nat} (hd : 0 ≤ d) (c : Int) (w : qW) : qG none d 200 0 [(0, c)] [] w 142 (fun (r : qV) (w1 : qW) (n1 : Nat) => r = (0, isInV c 1 4) ∧ w1 = w ∧ n1 = 142) := by
  generalize hQ9 : (fun (r : qV) (w1 : qW) (n1 : Nat) => r = (0, isInV c 1 4) ∧ w1 = w ∧ n1 = 142) = Q9
  refine qG.blk 2 (pc' := 2) (ls' := [(0, c)]) (st' := [(0, 1), (0, c)]) (w' := w) (n' := 142) rfl ?_
  refine qG.br (P := c < 1) (pc1 := 14) (pc2 := 5) (st1 := []) rfl (fun h1 => ?_) (fun h1 => ?_)
  · skip
    refine qG.blk 1 (pc' := 15) (ls' := [(0, c)]) (st' := [(0, 0)]) (w' := w) (n' := 142) rfl ?_
    refine qG.ret rfl (by first | rfl | exact decide_eq_true (by omega)) ?_
    subst hQ9
    exact ⟨by unfold isInV; split <;> (try split) <;> first | rfl | (exfalso; omega), rfl, rfl⟩
  · skip
    refine qG.blk 2 (pc' := 7) (ls' := [(0, c)]) (st' := [(0, 4), (0, c)]) (w' := w) (n' := 142) rfl ?_
    refine qG.br (P := 4 < c) (pc1 := 14) (pc2 := 10) (st1 := []) rfl (fun h2 => ?_) (fun h2 => ?_)
    · skip
      refine qG.blk 1 (pc' := 15) (ls' := [(0, c)]) (st' := [(0, 0)]) (w' := w) (n' := 142) rfl ?_
      refine qG.ret rfl (by first | rfl | exact decide_eq_true (by omega)) ?_
      subst hQ9
      exact ⟨by unfold isInV; split <;> (try split) <;> first | rfl | (exfalso; omega), rfl, rfl⟩
    · skip
      refine qG.blk 2 (pc' := 15) (ls' := [(0, c)]) (st' := [(0, 1)]) (w' := w) (n' := 142) rfl ?_
      refine qG.ret rfl (by first | rfl | exact decide_eq_true (by omega)) ?_
      subst hQ9
      exact ⟨by unfold isInV; split <;> (try split) <;> first | rfl | (exfalso; omega), rfl, rfl⟩
theorem K_addMaster {d : Nat} (hd : 1 ≤ d) (s g a b : Int) (hs : 1 ≤ s ∧ s ≤ 4) (n : Nat) (hn9 : n ≤ 60) (w : qW) (hI : yInv zgf zga zra zSp w) (hn : w 45 0 = (n : Int)) : qG none d 61 0 [(2, 45), (0, g), (0, a), (0, b)] [] w 142 (fun (r : qV) (w1 : qW) (n1 : Nat) => n1 = 142 ∧ masE 45 0 46 47 48 [46, 47, 48] s g a b n w r w1) := by
  generalize hQ9 : (fun (r : qV) (w1 : qW) (n1 : Nat) => n1 = 142 ∧ masE 45 0 46 47 48 [46, 47, 48] s g a b n w r w1) = Q9
  obtain ⟨d, rfl⟩ : ∃ d9, d = d9 + 1 := ⟨d - 1, by omega⟩
  refine qG.blk 1 (pc' := 1) (ls' := [(2, 45), (0, g), (0, a), (0, b)]) (st' := [(0, g)]) (w' := w) (n' := 142) rfl ?_
  refine qG.call (t := 57) (na := 1) (sk := 0) (md := 0) (ls1 := [(0, g)]) (r1 := []) rfl rfl rfl rfl rfl (K_X4_isStrength (Nat.zero_le _) _ _) ?_
  rintro _ w7 _ ⟨rfl, hw7, rfl⟩
  rw [hw7]
  show qG none (d + 1) 61 4 [(2, 45), (0, g), (0, a), (0, b)] [(0, isInV g 0 99)] w 142 Q9
  refine qG.br (P := isInV g 0 99 = 0) (pc1 := 26) (pc2 := 7) (st1 := []) rfl (fun h1 => ?_) (fun h1 => ?_)
  · skip
    rw [isIn_b] at h1
    refine qG.blk 1 (pc' := 27) (ls' := [(2, 45), (0, g), (0, a), (0, b)]) (st' := [(0, (-1))]) (w' := w) (n' := 142) rfl ?_
    refine qG.ret rfl rfl ?_
    subst hQ9
    refine ⟨rfl, ?_⟩; first | exact .inl ⟨by unfold masC; omega, rfl, rfl⟩ | exact .inr ⟨by unfold masC; omega, rfl, by simp (disch := decide) only [qup_ne, qup_k], (fun k => by (try simp (disch := decide) only [qup_ne, qup_if]) <;> (try rfl)), (fun k => by (try simp (disch := decide) only [qup_ne, qup_if]) <;> (try rfl)), (fun k => by (try simp (disch := decide) only [qup_ne, qup_if]) <;> (try rfl)), (fun q k h hf => by simp only [List.mem_cons, List.not_mem_nil, or_false, not_or] at h; obtain ⟨h0, h1, h2⟩ := h; simp only [qup_ne h0, qup_ne h1, qup_ne h2, qup_f hf])⟩
  · skip
    rw [isIn_p] at h1
    refine qG.blk 1 (pc' := 8) (ls' := [(2, 45), (0, g), (0, a), (0, b)]) (st' := [(0, a)]) (w' := w) (n' := 142) rfl ?_
    refine qG.call (t := 55) (na := 1) (sk := 0) (md := 0) (ls1 := [(0, a)]) (r1 := []) rfl rfl rfl rfl rfl (K_X4_isYear (Nat.zero_le _) _ _) ?_
    rintro _ w7 _ ⟨rfl, hw7, rfl⟩
    rw [hw7]
    show qG none (d + 1) 61 11 [(2, 45), (0, g), (0, a), (0, b)] [(0, isInV a 0 99)] w 142 Q9
    refine qG.br (P := isInV a 0 99 = 0) (pc1 := 26) (pc2 := 14) (st1 := []) rfl (fun h2 => ?_) (fun h2 => ?_)
    · skip
      rw [isIn_b] at h2
      refine qG.blk 1 (pc' := 27) (ls' := [(2, 45), (0, g), (0, a), (0, b)]) (st' := [(0, (-1))]) (w' := w) (n' := 142) rfl ?_
      refine qG.ret rfl rfl ?_
      subst hQ9
      refine ⟨rfl, ?_⟩; first | exact .inl ⟨by unfold masC; omega, rfl, rfl⟩ | exact .inr ⟨by unfold masC; omega, rfl, by simp (disch := decide) only [qup_ne, qup_k], (fun k => by (try simp (disch := decide) only [qup_ne, qup_if]) <;> (try rfl)), (fun k => by (try simp (disch := decide) only [qup_ne, qup_if]) <;> (try rfl)), (fun k => by (try simp (disch := decide) only [qup_ne, qup_if]) <;> (try rfl)), (fun q k h hf => by simp only [List.mem_cons, List.not_mem_nil, or_false, not_or] at h; obtain ⟨h0, h1, h2⟩ := h; simp only [qup_ne h0, qup_ne h1, qup_ne h2, qup_f hf])⟩
    · skip
      rw [isIn_p] at h2
      refine qG.blk 1 (pc' := 15) (ls' := [(2, 45), (0, g), (0, a), (0, b)]) (st' := [(0, b)]) (w' := w) (n' := 142) rfl ?_
      refine qG.call (t := 55) (na := 1) (sk := 0) (md := 0) (ls1 := [(0, b)]) (r1 := []) rfl rfl rfl rfl rfl (K_X4_isYear (Nat.zero_le _) _ _) ?_
      rintro _ w7 _ ⟨rfl, hw7, rfl⟩
      rw [hw7]
      show qG none (d + 1) 61 18 [(2, 45), (0, g), (0, a), (0, b)] [(0, isInV b 0 99)] w 142 Q9
      refine qG.br (P := isInV b 0 99 = 0) (pc1 := 26) (pc2 := 21) (st1 := []) rfl (fun h3 => ?_) (fun h3 => ?_)
      · skip
        rw [isIn_b] at h3
        refine qG.blk 1 (pc' := 27) (ls' := [(2, 45), (0, g), (0, a), (0, b)]) (st' := [(0, (-1))]) (w' := w) (n' := 142) rfl ?_
        refine qG.ret rfl rfl ?_
        subst hQ9
        refine ⟨rfl, ?_⟩; first | exact .inl ⟨by unfold masC; omega, rfl, rfl⟩ | exact .inr ⟨by unfold masC; omega, rfl, by simp (disch := decide) only [qup_ne, qup_k], (fun k => by (try simp (disch := decide) only [qup_ne, qup_if]) <;> (try rfl)), (fun k => by (try simp (disch := decide) only [qup_ne, qup_if]) <;> (try rfl)), (fun k => by (try simp (disch := decide) only [qup_ne, qup_if]) <;> (try rfl)), (fun q k h hf => by simp only [List.mem_cons, List.not_mem_nil, or_false, not_or] at h; obtain ⟨h0, h1, h2⟩ := h; simp only [qup_ne h0, qup_ne h1, qup_ne h2, qup_f hf])⟩
      · skip
        rw [isIn_p] at h3
        refine qG.blk 2 (pc' := 23) (ls' := [(2, 45), (0, g), (0, a), (0, b)]) (st' := [(0, b), (0, a)]) (w' := w) (n' := 142) rfl ?_
        refine qG.br (P := b < a) (pc1 := 26) (pc2 := 28) (st1 := []) rfl (fun h4 => ?_) (fun h4 => ?_)
        · skip
          refine qG.blk 1 (pc' := 27) (ls' := [(2, 45), (0, g), (0, a), (0, b)]) (st' := [(0, (-1))]) (w' := w) (n' := 142) rfl ?_
          refine qG.ret rfl rfl ?_
          subst hQ9
          refine ⟨rfl, ?_⟩; first | exact .inl ⟨by unfold masC; omega, rfl, rfl⟩ | exact .inr ⟨by unfold masC; omega, rfl, by simp (disch := decide) only [qup_ne, qup_k], (fun k => by (try simp (disch := decide) only [qup_ne, qup_if]) <;> (try rfl)), (fun k => by (try simp (disch := decide) only [qup_ne, qup_if]) <;> (try rfl)), (fun k => by (try simp (disch := decide) only [qup_ne, qup_if]) <;> (try rfl)), (fun q k h hf => by simp only [List.mem_cons, List.not_mem_nil, or_false, not_or] at h; obtain ⟨h0, h1, h2⟩ := h; simp only [qup_ne h0, qup_ne h1, qup_ne h2, qup_f hf])⟩
        · skip
          refine qG.blk 2 (pc' := 32) (ls' := [(2, 45), (0, g), (0, a), (0, b)]) (st' := [(0, w 45 0)]) (w' := w) (n' := 142) rfl ?_
          rw [show w 45 0 = ((n : Nat) : Int) from hn]
          refine qG.blk 1 (pc' := 34) (ls' := [(2, 45), (0, g), (0, a), (0, b)]) (st' := [(0, 12), (0, ((n : Nat) : Int))]) (w' := w) (n' := 142) rfl ?_
          refine qG.br (P := ((n : Nat) : Int) < 12) (pc1 := 39) (pc2 := 37) (st1 := []) rfl (fun h5 => ?_) (fun h5 => ?_)
          · skip
            refine qG.blk 2 (pc' := 43) (ls' := [(2, 45), (0, g), (0, a), (0, b)]) (st' := [(2, w 45 1)]) (w' := w) (n' := 142) rfl ?_
            rw [show w 45 1 = 46 from zref hI rfl rfl]
            refine qG.blk 2 (pc' := 47) (ls' := [(2, 45), (0, g), (0, a), (0, b)]) (st' := [(0, w 45 0), (2, 46)]) (w' := w) (n' := 142) rfl ?_
            rw [show w 45 0 = ((n : Nat) : Int) from hn]
            refine qG.blk 1 (pc' := 48) (ls' := [(2, 45), (0, g), (0, a), (0, b)]) (st' := [(0, g), (0, ((n : Nat) : Int)), (2, 46)]) (w' := w) (n' := 142) rfl ?_
            refine qG.ar (P := 0 ≤ ((n : Nat) : Int) ∧ ((n : Nat) : Int) < ((12 : Nat) : Int)) (P2 := 0 < (46 : Int) ∧ (46 : Int) ≤ ((142 : Nat) : Int)) (pc' := 49) (ls' := [(2, 45), (0, g), (0, a), (0, b)]) (st' := []) (w' := (qup w 46 n g)) (n' := 142) rfl (by omega) (by decide) ?_
            refine qG.blk 2 (pc' := 53) (ls' := [(2, 45), (0, g), (0, a), (0, b)]) (st' := [(2, w 45 2)]) (w' := (qup w 46 n g)) (n' := 142) rfl ?_
            rw [show w 45 2 = 47 from zref hI rfl rfl]
            refine qG.blk 2 (pc' := 57) (ls' := [(2, 45), (0, g), (0, a), (0, b)]) (st' := [(0, w 45 0), (2, 47)]) (w' := (qup w 46 n g)) (n' := 142) rfl ?_
            rw [show w 45 0 = ((n : Nat) : Int) from hn]
            refine qG.blk 1 (pc' := 58) (ls' := [(2, 45), (0, g), (0, a), (0, b)]) (st' := [(0, a), (0, ((n : Nat) : Int)), (2, 47)]) (w' := (qup w 46 n g)) (n' := 142) rfl ?_
            refine qG.ar (P := 0 ≤ ((n : Nat) : Int) ∧ ((n : Nat) : Int) < ((12 : Nat) : Int)) (P2 := 0 < (47 : Int) ∧ (47 : Int) ≤ ((142 : Nat) : Int)) (pc' := 59) (ls' := [(2, 45), (0, g), (0, a), (0, b)]) (st' := []) (w' := (qup (qup w 46 n g) 47 n a)) (n' := 142) rfl (by omega) (by decide) ?_
            refine qG.blk 2 (pc' := 63) (ls' := [(2, 45), (0, g), (0, a), (0, b)]) (st' := [(2, w 45 3)]) (w' := (qup (qup w 46 n g) 47 n a)) (n' := 142) rfl ?_
            rw [show w 45 3 = 48 from zref hI rfl rfl]
            refine qG.blk 2 (pc' := 67) (ls' := [(2, 45), (0, g), (0, a), (0, b)]) (st' := [(0, w 45 0), (2, 48)]) (w' := (qup (qup w 46 n g) 47 n a)) (n' := 142) rfl ?_
            rw [show w 45 0 = ((n : Nat) : Int) from hn]
            refine qG.blk 1 (pc' := 68) (ls' := [(2, 45), (0, g), (0, a), (0, b)]) (st' := [(0, b), (0, ((n : Nat) : Int)), (2, 48)]) (w' := (qup (qup w 46 n g) 47 n a)) (n' := 142) rfl ?_
            refine qG.ar (P := 0 ≤ ((n : Nat) : Int) ∧ ((n : Nat) : Int) < ((12 : Nat) : Int)) (P2 := 0 < (48 : Int) ∧ (48 : Int) ≤ ((142 : Nat) : Int)) (pc' := 69) (ls' := [(2, 45), (0, g), (0, a), (0, b)]) (st' := []) (w' := (qup (qup (qup w 46 n g) 47 n a) 48 n b)) (n' := 142) rfl (by omega) (by decide) ?_
            refine qG.blk 3 (pc' := 74) (ls' := [(2, 45), (0, g), (0, a), (0, b)]) (st' := [(0, w 45 0), (2, 45)]) (w' := (qup (qup (qup w 46 n g) 47 n a) 48 n b)) (n' := 142) rfl ?_
            rw [show w 45 0 = ((n : Nat) : Int) from hn]
            refine qG.blk 2 (pc' := 76) (ls' := [(2, 45), (0, g), (0, a), (0, b)]) (st' := [(0, wrp (((n : Nat) : Int) + 1)), (2, 45)]) (w' := (qup (qup (qup w 46 n g) 47 n a) 48 n b)) (n' := 142) rfl ?_
            rw [show wrp (((n : Nat) : Int) + 1) = ((n + 1 : Nat) : Int) from by rw [wrp_id (by omega) (by omega)]; omega]
            refine qG.blk 5 (pc' := 85) (ls' := [(2, 45), (0, g), (0, a), (0, b)]) (st' := [(0, wrp (((n + 1 : Nat) : Int) - 1))]) (w' := (qup (qup (qup (qup w 46 n g) 47 n a) 48 n b) 45 0 ((n + 1 : Nat) : Int))) (n' := 142) rfl ?_
            rw [show wrp (((n + 1 : Nat) : Int) - 1) = ((n : Nat) : Int) from by rw [wrp_id (by omega) (by omega)]; omega]
            refine qG.ret rfl rfl ?_
            subst hQ9
            refine ⟨rfl, ?_⟩; first | exact .inl ⟨by unfold masC; omega, rfl, rfl⟩ | exact .inr ⟨by unfold masC; omega, rfl, by simp (disch := decide) only [qup_ne, qup_k], (fun k => by (try simp (disch := decide) only [qup_ne, qup_if]) <;> (try rfl)), (fun k => by (try simp (disch := decide) only [qup_ne, qup_if]) <;> (try rfl)), (fun k => by (try simp (disch := decide) only [qup_ne, qup_if]) <;> (try rfl)), (fun q k h hf => by simp only [List.mem_cons, List.not_mem_nil, or_false, not_or] at h; obtain ⟨h0, h1, h2⟩ := h; simp only [qup_ne h0, qup_ne h1, qup_ne h2, qup_f hf])⟩
          · skip
            refine qG.blk 1 (pc' := 38) (ls' := [(2, 45), (0, g), (0, a), (0, b)]) (st' := [(0, (-1))]) (w' := w) (n' := 142) rfl ?_
            refine qG.ret rfl rfl ?_
            subst hQ9
            refine ⟨rfl, ?_⟩; first | exact .inl ⟨by unfold masC; omega, rfl, rfl⟩ | exact .inr ⟨by unfold masC; omega, rfl, by simp (disch := decide) only [qup_ne, qup_k], (fun k => by (try simp (disch := decide) only [qup_ne, qup_if]) <;> (try rfl)), (fun k => by (try simp (disch := decide) only [qup_ne, qup_if]) <;> (try rfl)), (fun k => by (try simp (disch := decide) only [qup_ne, qup_if]) <;> (try rfl)), (fun q k h hf => by simp only [List.mem_cons, List.not_mem_nil, or_false, not_or] at h; obtain ⟨h0, h1, h2⟩ := h; simp only [qup_ne h0, qup_ne h1, qup_ne h2, qup_f hf])⟩
theorem K_X11_master {d : Nat} (hd : 2 ≤ d) (s g a b : Int) (n : Nat) (hn9 : n ≤ 60) (w : qW) (hI : yInv zgf zga zra zSp w) (hn : w 45 0 = (n : Int)) : qG none d 185 0 [(2, 1), (0, s), (0, g), (0, a), (0, b)] [] w 142 (fun (r : qV) (w1 : qW) (n1 : Nat) => n1 = 142 ∧ masE 45 0 46 47 48 [46, 47, 48] s g a b n w r w1) := by
  generalize hQ9 : (fun (r : qV) (w1 : qW) (n1 : Nat) => n1 = 142 ∧ masE 45 0 46 47 48 [46, 47, 48] s g a b n w r w1) = Q9
  obtain ⟨d, rfl⟩ : ∃ d9, d = d9 + 1 := ⟨d - 1, by omega⟩
  refine qG.blk 1 (pc' := 1) (ls' := [(2, 1), (0, s), (0, g), (0, a), (0, b)]) (st' := [(0, s)]) (w' := w) (n' := 142) rfl ?_
  refine qG.call (t := 200) (na := 1) (sk := 0) (md := 0) (ls1 := [(0, s)]) (r1 := []) rfl rfl rfl rfl rfl (K_X11_isSize (Nat.zero_le _) _ _) ?_
  rintro _ w7 _ ⟨rfl, hw7, rfl⟩
  rw [hw7]
  show qG none (d + 1) 185 4 [(2, 1), (0, s), (0, g), (0, a), (0, b)] [(0, isInV s 1 4)] w 142 Q9
  refine qG.br (P := isInV s 1 4 = 0) (pc1 := 21) (pc2 := 7) (st1 := []) rfl (fun h1 => ?_) (fun h1 => ?_)
  · skip
    rw [isIn_b] at h1
    refine qG.blk 1 (pc' := 22) (ls' := [(2, 1), (0, s), (0, g), (0, a), (0, b)]) (st' := [(0, (-1))]) (w' := w) (n' := 142) rfl ?_
    refine qG.ret rfl rfl ?_
    subst hQ9
    refine ⟨rfl, ?_⟩; first | exact hE | exact .inl ⟨by unfold masC; omega, rfl, rfl⟩
  · skip
    rw [isIn_p] at h1
    refine qG.blk 2 (pc' := 11) (ls' := [(2, 1), (0, s), (0, g), (0, a), (0, b)]) (st' := [(2, w 1 7)]) (w' := w) (n' := 142) rfl ?_
    rw [show w 1 7 = 45 from zref hI rfl rfl]
    refine qG.blk 3 (pc' := 15) (ls' := [(2, 1), (0, s), (0, g), (0, a), (0, b)]) (st' := [(0, b), (0, a), (0, g), (2, 45)]) (w' := w) (n' := 142) rfl ?_
    refine qG.call (t := 61) (na := 4) (sk := 1) (md := 1) (ls1 := [(2, 45), (0, g), (0, a), (0, b)]) (r1 := []) rfl rfl rfl rfl rfl (K_addMaster (by omega) s g a b h1 n hn9 w hI hn) ?_
    rintro ⟨_, x9⟩ w1 _ ⟨rfl, hE⟩
    have hk9 : ∃ y, ((_ : Nat), x9) = ((0 : Nat), y) := (by rcases hE with ⟨-, h, -⟩ | ⟨-, h, -⟩ <;> exact ⟨_, h⟩)
    obtain ⟨y9, hy9⟩ := hk9
    obtain ⟨rfl, rfl⟩ := Prod.mk.inj hy9
    show qG none (d + 1) 185 18 [(2, 1), (0, s), (0, g), (0, a), (0, b)] [(0, x9)] w1 142 Q9
    refine qG.blk 1 (pc' := 22) (ls' := [(2, 1), (0, s), (0, g), (0, a), (0, b)]) (st' := [(0, x9)]) (w' := w1) (n' := 142) rfl ?_
    refine qG.ret rfl rfl ?_
    subst hQ9
    refine ⟨rfl, ?_⟩; first | exact hE | exact .inl ⟨by unfold masC; omega, rfl, rfl⟩
theorem K_X12_master {d : Nat} (hd : 2 ≤ d) (s g a b : Int) (n : Nat) (hn9 : n ≤ 60) (w : qW) (hI : yInv zgf zga zra zSp w) (hn : w 95 55 = (n : Int)) : qG none d 280 0 [(2, 95), (0, s), (0, g), (0, a), (0, b), (9, 0)] [] w 142 (fun (r : qV) (w1 : qW) (n1 : Nat) => n1 = 142 ∧ masE 95 55 125 126 127 [125, 126, 127, 128] s g a b n w r w1) := by
  generalize hQ9 : (fun (r : qV) (w1 : qW) (n1 : Nat) => n1 = 142 ∧ masE 95 55 125 126 127 [125, 126, 127, 128] s g a b n w r w1) = Q9
  have h55 := zfld hI (j := 55) (b := (0, 12)) rfl
  have b55 : w 95 55 ≤ (12 : Int) := h55.2
  rw [hn] at b55
  obtain ⟨d, rfl⟩ : ∃ d9, d = d9 + 1 := ⟨d - 1, by omega⟩
  refine qG.blk 1 (pc' := 1) (ls' := [(2, 95), (0, s), (0, g), (0, a), (0, b), (9, 0)]) (st' := [(0, s)]) (w' := w) (n' := 142) rfl ?_
  refine qG.call (t := 210) (na := 1) (sk := 0) (md := 0) (ls1 := [(0, s)]) (r1 := []) rfl rfl rfl rfl rfl (K_isSize (by omega) _ _) ?_
  rintro _ w7 _ ⟨rfl, hw7, rfl⟩
  rw [hw7]
  show qG none (d + 1) 280 4 [(2, 95), (0, s), (0, g), (0, a), (0, b), (9, 0)] [(0, isInV s 1 4)] w 142 Q9
  refine qG.br (P := isInV s 1 4 = 0) (pc1 := 47) (pc2 := 7) (st1 := []) rfl (fun h1 => ?_) (fun h1 => ?_)
  · skip
    rw [isIn_b] at h1
    refine qG.blk 1 (pc' := 48) (ls' := [(2, 95), (0, s), (0, g), (0, a), (0, b), (9, 0)]) (st' := [(0, (-1))]) (w' := w) (n' := 142) rfl ?_
    refine qG.ret rfl rfl ?_
    subst hQ9
    refine ⟨rfl, ?_⟩; first | exact .inl ⟨by unfold masC; omega, rfl, rfl⟩ | exact .inr ⟨by unfold masC; omega, rfl, by simp (disch := decide) only [qup_ne, qup_k], (fun k => by (try simp (disch := decide) only [qup_ne, qup_if]) <;> (try rfl)), (fun k => by (try simp (disch := decide) only [qup_ne, qup_if]) <;> (try rfl)), (fun k => by (try simp (disch := decide) only [qup_ne, qup_if]) <;> (try rfl)), (fun q k h hf => by simp only [List.mem_cons, List.not_mem_nil, or_false, not_or] at h; obtain ⟨h0, h1, h2, h3⟩ := h; simp only [qup_ne h0, qup_ne h1, qup_ne h2, qup_ne h3, qup_f hf])⟩
  · skip
    rw [isIn_p] at h1
    refine qG.blk 3 (pc' := 11) (ls' := [(2, 95), (0, s), (0, g), (0, a), (0, b), (9, 0)]) (st' := [(0, 99), (0, 0), (0, g)]) (w' := w) (n' := 142) rfl ?_
    refine qG.call (t := 206) (na := 3) (sk := 0) (md := 0) (ls1 := [(0, g), (0, 0), (0, 99)]) (r1 := []) rfl rfl rfl rfl rfl (K_isIn (Nat.zero_le _) _ _ _ _) ?_
    rintro _ w7 _ ⟨rfl, hw7, rfl⟩
    rw [hw7]
    show qG none (d + 1) 280 14 [(2, 95), (0, s), (0, g), (0, a), (0, b), (9, 0)] [(0, isInV (g) (0) (99))] w 142 Q9
    refine qG.br (P := isInV (g) (0) (99) = 0) (pc1 := 47) (pc2 := 17) (st1 := []) rfl (fun h2 => ?_) (fun h2 => ?_)
    · skip
      rw [isIn_b] at h2
      refine qG.blk 1 (pc' := 48) (ls' := [(2, 95), (0, s), (0, g), (0, a), (0, b), (9, 0)]) (st' := [(0, (-1))]) (w' := w) (n' := 142) rfl ?_
      refine qG.ret rfl rfl ?_
      subst hQ9
      refine ⟨rfl, ?_⟩; first | exact .inl ⟨by unfold masC; omega, rfl, rfl⟩ | exact .inr ⟨by unfold masC; omega, rfl, by simp (disch := decide) only [qup_ne, qup_k], (fun k => by (try simp (disch := decide) only [qup_ne, qup_if]) <;> (try rfl)), (fun k => by (try simp (disch := decide) only [qup_ne, qup_if]) <;> (try rfl)), (fun k => by (try simp (disch := decide) only [qup_ne, qup_if]) <;> (try rfl)), (fun q k h hf => by simp only [List.mem_cons, List.not_mem_nil, or_false, not_or] at h; obtain ⟨h0, h1, h2, h3⟩ := h; simp only [qup_ne h0, qup_ne h1, qup_ne h2, qup_ne h3, qup_f hf])⟩
    · skip
      rw [isIn_p] at h2
      refine qG.blk 3 (pc' := 21) (ls' := [(2, 95), (0, s), (0, g), (0, a), (0, b), (9, 0)]) (st' := [(0, 99), (0, 0), (0, a)]) (w' := w) (n' := 142) rfl ?_
      refine qG.call (t := 206) (na := 3) (sk := 0) (md := 0) (ls1 := [(0, a), (0, 0), (0, 99)]) (r1 := []) rfl rfl rfl rfl rfl (K_isIn (Nat.zero_le _) _ _ _ _) ?_
      rintro _ w7 _ ⟨rfl, hw7, rfl⟩
      rw [hw7]
      show qG none (d + 1) 280 24 [(2, 95), (0, s), (0, g), (0, a), (0, b), (9, 0)] [(0, isInV (a) (0) (99))] w 142 Q9
      refine qG.br (P := isInV (a) (0) (99) = 0) (pc1 := 47) (pc2 := 27) (st1 := []) rfl (fun h3 => ?_) (fun h3 => ?_)
      · skip
        rw [isIn_b] at h3
        refine qG.blk 1 (pc' := 48) (ls' := [(2, 95), (0, s), (0, g), (0, a), (0, b), (9, 0)]) (st' := [(0, (-1))]) (w' := w) (n' := 142) rfl ?_
        refine qG.ret rfl rfl ?_
        subst hQ9
        refine ⟨rfl, ?_⟩; first | exact .inl ⟨by unfold masC; omega, rfl, rfl⟩ | exact .inr ⟨by unfold masC; omega, rfl, by simp (disch := decide) only [qup_ne, qup_k], (fun k => by (try simp (disch := decide) only [qup_ne, qup_if]) <;> (try rfl)), (fun k => by (try simp (disch := decide) only [qup_ne, qup_if]) <;> (try rfl)), (fun k => by (try simp (disch := decide) only [qup_ne, qup_if]) <;> (try rfl)), (fun q k h hf => by simp only [List.mem_cons, List.not_mem_nil, or_false, not_or] at h; obtain ⟨h0, h1, h2, h3⟩ := h; simp only [qup_ne h0, qup_ne h1, qup_ne h2, qup_ne h3, qup_f hf])⟩
      · skip
        rw [isIn_p] at h3
        refine qG.blk 3 (pc' := 32) (ls' := [(2, 95), (0, s), (0, g), (0, a), (0, b), (9, 0)]) (st' := [(0, 99), (0, a), (0, b)]) (w' := w) (n' := 142) rfl ?_
        refine qG.call (t := 206) (na := 3) (sk := 0) (md := 0) (ls1 := [(0, b), (0, a), (0, 99)]) (r1 := []) rfl rfl rfl rfl rfl (K_isIn (Nat.zero_le _) _ _ _ _) ?_
        rintro _ w7 _ ⟨rfl, hw7, rfl⟩
        rw [hw7]
        show qG none (d + 1) 280 35 [(2, 95), (0, s), (0, g), (0, a), (0, b), (9, 0)] [(0, isInV (b) (a) (99))] w 142 Q9
        refine qG.br (P := isInV (b) (a) (99) = 0) (pc1 := 47) (pc2 := 38) (st1 := []) rfl (fun h4 => ?_) (fun h4 => ?_)
        · skip
          rw [isIn_b] at h4
          refine qG.blk 1 (pc' := 48) (ls' := [(2, 95), (0, s), (0, g), (0, a), (0, b), (9, 0)]) (st' := [(0, (-1))]) (w' := w) (n' := 142) rfl ?_
          refine qG.ret rfl rfl ?_
          subst hQ9
          refine ⟨rfl, ?_⟩; first | exact .inl ⟨by unfold masC; omega, rfl, rfl⟩ | exact .inr ⟨by unfold masC; omega, rfl, by simp (disch := decide) only [qup_ne, qup_k], (fun k => by (try simp (disch := decide) only [qup_ne, qup_if]) <;> (try rfl)), (fun k => by (try simp (disch := decide) only [qup_ne, qup_if]) <;> (try rfl)), (fun k => by (try simp (disch := decide) only [qup_ne, qup_if]) <;> (try rfl)), (fun q k h hf => by simp only [List.mem_cons, List.not_mem_nil, or_false, not_or] at h; obtain ⟨h0, h1, h2, h3⟩ := h; simp only [qup_ne h0, qup_ne h1, qup_ne h2, qup_ne h3, qup_f hf])⟩
        · skip
          rw [isIn_p] at h4
          refine qG.blk 2 (pc' := 42) (ls' := [(2, 95), (0, s), (0, g), (0, a), (0, b), (9, 0)]) (st' := [(0, w 95 55)]) (w' := w) (n' := 142) rfl ?_
          rw [show w 95 55 = ((n : Nat) : Int) from hn]
          refine qG.blk 1 (pc' := 44) (ls' := [(2, 95), (0, s), (0, g), (0, a), (0, b), (9, 0)]) (st' := [(0, 12), (0, ((n : Nat) : Int))]) (w' := w) (n' := 142) rfl ?_
          refine qG.br (P := ((n : Nat) : Int) = 12) (pc1 := 47) (pc2 := 49) (st1 := []) rfl (fun h5 => ?_) (fun h5 => ?_)
          · skip
            refine qG.blk 1 (pc' := 48) (ls' := [(2, 95), (0, s), (0, g), (0, a), (0, b), (9, 0)]) (st' := [(0, (-1))]) (w' := w) (n' := 142) rfl ?_
            refine qG.ret rfl rfl ?_
            subst hQ9
            refine ⟨rfl, ?_⟩; first | exact .inl ⟨by unfold masC; omega, rfl, rfl⟩ | exact .inr ⟨by unfold masC; omega, rfl, by simp (disch := decide) only [qup_ne, qup_k], (fun k => by (try simp (disch := decide) only [qup_ne, qup_if]) <;> (try rfl)), (fun k => by (try simp (disch := decide) only [qup_ne, qup_if]) <;> (try rfl)), (fun k => by (try simp (disch := decide) only [qup_ne, qup_if]) <;> (try rfl)), (fun q k h hf => by simp only [List.mem_cons, List.not_mem_nil, or_false, not_or] at h; obtain ⟨h0, h1, h2, h3⟩ := h; simp only [qup_ne h0, qup_ne h1, qup_ne h2, qup_ne h3, qup_f hf])⟩
          · skip
            refine qG.blk 2 (pc' := 53) (ls' := [(2, 95), (0, s), (0, g), (0, a), (0, b), (9, 0)]) (st' := [(2, w 95 58)]) (w' := w) (n' := 142) rfl ?_
            rw [show w 95 58 = 125 from zref hI rfl rfl]
            refine qG.blk 2 (pc' := 57) (ls' := [(2, 95), (0, s), (0, g), (0, a), (0, b), (9, 0)]) (st' := [(0, w 95 55), (2, 125)]) (w' := w) (n' := 142) rfl ?_
            rw [show w 95 55 = ((n : Nat) : Int) from hn]
            refine qG.blk 1 (pc' := 58) (ls' := [(2, 95), (0, s), (0, g), (0, a), (0, b), (9, 0)]) (st' := [(0, g), (0, ((n : Nat) : Int)), (2, 125)]) (w' := w) (n' := 142) rfl ?_
            refine qG.ar (P := 0 ≤ ((n : Nat) : Int) ∧ ((n : Nat) : Int) < ((12 : Nat) : Int)) (P2 := 0 < (125 : Int) ∧ (125 : Int) ≤ ((142 : Nat) : Int)) (pc' := 59) (ls' := [(2, 95), (0, s), (0, g), (0, a), (0, b), (9, 0)]) (st' := []) (w' := (qup w 125 n g)) (n' := 142) rfl (by omega) (by decide) ?_
            refine qG.blk 2 (pc' := 63) (ls' := [(2, 95), (0, s), (0, g), (0, a), (0, b), (9, 0)]) (st' := [(2, w 95 59)]) (w' := (qup w 125 n g)) (n' := 142) rfl ?_
            rw [show w 95 59 = 126 from zref hI rfl rfl]
            refine qG.blk 2 (pc' := 67) (ls' := [(2, 95), (0, s), (0, g), (0, a), (0, b), (9, 0)]) (st' := [(0, w 95 55), (2, 126)]) (w' := (qup w 125 n g)) (n' := 142) rfl ?_
            rw [show w 95 55 = ((n : Nat) : Int) from hn]
            refine qG.blk 1 (pc' := 68) (ls' := [(2, 95), (0, s), (0, g), (0, a), (0, b), (9, 0)]) (st' := [(0, a), (0, ((n : Nat) : Int)), (2, 126)]) (w' := (qup w 125 n g)) (n' := 142) rfl ?_
            refine qG.ar (P := 0 ≤ ((n : Nat) : Int) ∧ ((n : Nat) : Int) < ((12 : Nat) : Int)) (P2 := 0 < (126 : Int) ∧ (126 : Int) ≤ ((142 : Nat) : Int)) (pc' := 69) (ls' := [(2, 95), (0, s), (0, g), (0, a), (0, b), (9, 0)]) (st' := []) (w' := (qup (qup w 125 n g) 126 n a)) (n' := 142) rfl (by omega) (by decide) ?_
            refine qG.blk 2 (pc' := 73) (ls' := [(2, 95), (0, s), (0, g), (0, a), (0, b), (9, 0)]) (st' := [(2, w 95 60)]) (w' := (qup (qup w 125 n g) 126 n a)) (n' := 142) rfl ?_
            rw [show w 95 60 = 127 from zref hI rfl rfl]
            refine qG.blk 2 (pc' := 77) (ls' := [(2, 95), (0, s), (0, g), (0, a), (0, b), (9, 0)]) (st' := [(0, w 95 55), (2, 127)]) (w' := (qup (qup w 125 n g) 126 n a)) (n' := 142) rfl ?_
            rw [show w 95 55 = ((n : Nat) : Int) from hn]
            refine qG.blk 1 (pc' := 79) (ls' := [(2, 95), (0, s), (0, g), (0, a), (0, b), (9, 0)]) (st' := [(0, b), (0, ((n : Nat) : Int)), (2, 127)]) (w' := (qup (qup w 125 n g) 126 n a)) (n' := 142) rfl ?_
            refine qG.ar (P := 0 ≤ ((n : Nat) : Int) ∧ ((n : Nat) : Int) < ((12 : Nat) : Int)) (P2 := 0 < (127 : Int) ∧ (127 : Int) ≤ ((142 : Nat) : Int)) (pc' := 80) (ls' := [(2, 95), (0, s), (0, g), (0, a), (0, b), (9, 0)]) (st' := []) (w' := (qup (qup (qup w 125 n g) 126 n a) 127 n b)) (n' := 142) rfl (by omega) (by decide) ?_
            refine qG.blk 4 (pc' := 86) (ls' := [(2, 95), (0, s), (0, g), (0, a), (0, b), (0, 0)]) (st' := [(0, 3), (0, 0)]) (w' := (qup (qup (qup w 125 n g) 126 n a) 127 n b)) (n' := 142) rfl ?_
            refine qG.br (P := (0 : Int) < 3) (pc1 := 89) (pc2 := 110) (st1 := []) rfl (fun h1 => ?_) (fun h1 => ?_)
            · skip
              refine qG.blk 2 (pc' := 93) (ls' := [(2, 95), (0, s), (0, g), (0, a), (0, b), (0, 0)]) (st' := [(2, w 95 61)]) (w' := (qup (qup (qup w 125 n g) 126 n a) 127 n b)) (n' := 142) rfl ?_
              rw [show w 95 61 = 128 from zref hI rfl rfl]
              refine qG.blk 3 (pc' := 98) (ls' := [(2, 95), (0, s), (0, g), (0, a), (0, b), (0, 0)]) (st' := [(0, w 95 55), (0, 3), (2, 128)]) (w' := (qup (qup (qup w 125 n g) 126 n a) 127 n b)) (n' := 142) rfl ?_
              rw [show w 95 55 = ((n : Nat) : Int) from hn]
              refine qG.blk 1 (pc' := 99) (ls' := [(2, 95), (0, s), (0, g), (0, a), (0, b), (0, 0)]) (st' := [(0, wrp (3 * ((n : Nat) : Int))), (2, 128)]) (w' := (qup (qup (qup w 125 n g) 126 n a) 127 n b)) (n' := 142) rfl ?_
              rw [show wrp (3 * ((n : Nat) : Int)) = ((3 * n : Nat) : Int) from by rw [wrp_id (by omega) (by omega)]; omega]
              refine qG.blk 2 (pc' := 102) (ls' := [(2, 95), (0, s), (0, g), (0, a), (0, b), (0, 0)]) (st' := [(0, wrp (((3 * n : Nat) : Int) + 0)), (2, 128)]) (w' := (qup (qup (qup w 125 n g) 126 n a) 127 n b)) (n' := 142) rfl ?_
              rw [show wrp (((3 * n : Nat) : Int) + 0) = ((3 * n + 0 : Nat) : Int) from by rw [wrp_id (by omega) (by omega)]; omega]
              refine qG.blk 1 (pc' := 103) (ls' := [(2, 95), (0, s), (0, g), (0, a), (0, b), (0, 0)]) (st' := [(0, 1), (0, ((3 * n + 0 : Nat) : Int)), (2, 128)]) (w' := (qup (qup (qup w 125 n g) 126 n a) 127 n b)) (n' := 142) rfl ?_
              refine qG.ar (P := 0 ≤ ((3 * n + 0 : Nat) : Int) ∧ ((3 * n + 0 : Nat) : Int) < ((36 : Nat) : Int)) (P2 := 0 < (128 : Int) ∧ (128 : Int) ≤ ((142 : Nat) : Int)) (pc' := 104) (ls' := [(2, 95), (0, s), (0, g), (0, a), (0, b), (0, 0)]) (st' := []) (w' := (qup (qup (qup (qup w 125 n g) 126 n a) 127 n b) 128 (3 * n + 0) 1)) (n' := 142) rfl (by omega) (by decide) ?_
              refine qG.blk 1 (pc' := 107) (ls' := [(2, 95), (0, s), (0, g), (0, a), (0, b), (0, wrp (0 + 1))]) (st' := []) (w' := (qup (qup (qup (qup w 125 n g) 126 n a) 127 n b) 128 (3 * n + 0) 1)) (n' := 142) rfl ?_
              rw [show wrp (0 + 1) = 1 from wrp_id (by omega) (by omega)]
              refine qG.blk 3 (pc' := 86) (ls' := [(2, 95), (0, s), (0, g), (0, a), (0, b), (0, 1)]) (st' := [(0, 3), (0, 1)]) (w' := (qup (qup (qup (qup w 125 n g) 126 n a) 127 n b) 128 (3 * n + 0) 1)) (n' := 142) rfl ?_
              refine qG.br (P := (1 : Int) < 3) (pc1 := 89) (pc2 := 110) (st1 := []) rfl (fun h2 => ?_) (fun h2 => ?_)
              · skip
                refine qG.blk 2 (pc' := 93) (ls' := [(2, 95), (0, s), (0, g), (0, a), (0, b), (0, 1)]) (st' := [(2, w 95 61)]) (w' := (qup (qup (qup (qup w 125 n g) 126 n a) 127 n b) 128 (3 * n + 0) 1)) (n' := 142) rfl ?_
                rw [show w 95 61 = 128 from zref hI rfl rfl]
                refine qG.blk 3 (pc' := 98) (ls' := [(2, 95), (0, s), (0, g), (0, a), (0, b), (0, 1)]) (st' := [(0, w 95 55), (0, 3), (2, 128)]) (w' := (qup (qup (qup (qup w 125 n g) 126 n a) 127 n b) 128 (3 * n + 0) 1)) (n' := 142) rfl ?_
                rw [show w 95 55 = ((n : Nat) : Int) from hn]
                refine qG.blk 1 (pc' := 99) (ls' := [(2, 95), (0, s), (0, g), (0, a), (0, b), (0, 1)]) (st' := [(0, wrp (3 * ((n : Nat) : Int))), (2, 128)]) (w' := (qup (qup (qup (qup w 125 n g) 126 n a) 127 n b) 128 (3 * n + 0) 1)) (n' := 142) rfl ?_
                rw [show wrp (3 * ((n : Nat) : Int)) = ((3 * n : Nat) : Int) from by rw [wrp_id (by omega) (by omega)]; omega]
                refine qG.blk 2 (pc' := 102) (ls' := [(2, 95), (0, s), (0, g), (0, a), (0, b), (0, 1)]) (st' := [(0, wrp (((3 * n : Nat) : Int) + 1)), (2, 128)]) (w' := (qup (qup (qup (qup w 125 n g) 126 n a) 127 n b) 128 (3 * n + 0) 1)) (n' := 142) rfl ?_
                rw [show wrp (((3 * n : Nat) : Int) + 1) = ((3 * n + 1 : Nat) : Int) from by rw [wrp_id (by omega) (by omega)]; omega]
                refine qG.blk 1 (pc' := 103) (ls' := [(2, 95), (0, s), (0, g), (0, a), (0, b), (0, 1)]) (st' := [(0, 1), (0, ((3 * n + 1 : Nat) : Int)), (2, 128)]) (w' := (qup (qup (qup (qup w 125 n g) 126 n a) 127 n b) 128 (3 * n + 0) 1)) (n' := 142) rfl ?_
                refine qG.ar (P := 0 ≤ ((3 * n + 1 : Nat) : Int) ∧ ((3 * n + 1 : Nat) : Int) < ((36 : Nat) : Int)) (P2 := 0 < (128 : Int) ∧ (128 : Int) ≤ ((142 : Nat) : Int)) (pc' := 104) (ls' := [(2, 95), (0, s), (0, g), (0, a), (0, b), (0, 1)]) (st' := []) (w' := (qup (qup (qup (qup (qup w 125 n g) 126 n a) 127 n b) 128 (3 * n + 0) 1) 128 (3 * n + 1) 1)) (n' := 142) rfl (by omega) (by decide) ?_
                refine qG.blk 1 (pc' := 107) (ls' := [(2, 95), (0, s), (0, g), (0, a), (0, b), (0, wrp (1 + 1))]) (st' := []) (w' := (qup (qup (qup (qup (qup w 125 n g) 126 n a) 127 n b) 128 (3 * n + 0) 1) 128 (3 * n + 1) 1)) (n' := 142) rfl ?_
                rw [show wrp (1 + 1) = 2 from wrp_id (by omega) (by omega)]
                refine qG.blk 3 (pc' := 86) (ls' := [(2, 95), (0, s), (0, g), (0, a), (0, b), (0, 2)]) (st' := [(0, 3), (0, 2)]) (w' := (qup (qup (qup (qup (qup w 125 n g) 126 n a) 127 n b) 128 (3 * n + 0) 1) 128 (3 * n + 1) 1)) (n' := 142) rfl ?_
                refine qG.br (P := (2 : Int) < 3) (pc1 := 89) (pc2 := 110) (st1 := []) rfl (fun h3 => ?_) (fun h3 => ?_)
                · skip
                  refine qG.blk 2 (pc' := 93) (ls' := [(2, 95), (0, s), (0, g), (0, a), (0, b), (0, 2)]) (st' := [(2, w 95 61)]) (w' := (qup (qup (qup (qup (qup w 125 n g) 126 n a) 127 n b) 128 (3 * n + 0) 1) 128 (3 * n + 1) 1)) (n' := 142) rfl ?_
                  rw [show w 95 61 = 128 from zref hI rfl rfl]
                  refine qG.blk 3 (pc' := 98) (ls' := [(2, 95), (0, s), (0, g), (0, a), (0, b), (0, 2)]) (st' := [(0, w 95 55), (0, 3), (2, 128)]) (w' := (qup (qup (qup (qup (qup w 125 n g) 126 n a) 127 n b) 128 (3 * n + 0) 1) 128 (3 * n + 1) 1)) (n' := 142) rfl ?_
                  rw [show w 95 55 = ((n : Nat) : Int) from hn]
                  refine qG.blk 1 (pc' := 99) (ls' := [(2, 95), (0, s), (0, g), (0, a), (0, b), (0, 2)]) (st' := [(0, wrp (3 * ((n : Nat) : Int))), (2, 128)]) (w' := (qup (qup (qup (qup (qup w 125 n g) 126 n a) 127 n b) 128 (3 * n + 0) 1) 128 (3 * n + 1) 1)) (n' := 142) rfl ?_
                  rw [show wrp (3 * ((n : Nat) : Int)) = ((3 * n : Nat) : Int) from by rw [wrp_id (by omega) (by omega)]; omega]
                  refine qG.blk 2 (pc' := 102) (ls' := [(2, 95), (0, s), (0, g), (0, a), (0, b), (0, 2)]) (st' := [(0, wrp (((3 * n : Nat) : Int) + 2)), (2, 128)]) (w' := (qup (qup (qup (qup (qup w 125 n g) 126 n a) 127 n b) 128 (3 * n + 0) 1) 128 (3 * n + 1) 1)) (n' := 142) rfl ?_
                  rw [show wrp (((3 * n : Nat) : Int) + 2) = ((3 * n + 2 : Nat) : Int) from by rw [wrp_id (by omega) (by omega)]; omega]
                  refine qG.blk 1 (pc' := 103) (ls' := [(2, 95), (0, s), (0, g), (0, a), (0, b), (0, 2)]) (st' := [(0, 1), (0, ((3 * n + 2 : Nat) : Int)), (2, 128)]) (w' := (qup (qup (qup (qup (qup w 125 n g) 126 n a) 127 n b) 128 (3 * n + 0) 1) 128 (3 * n + 1) 1)) (n' := 142) rfl ?_
                  refine qG.ar (P := 0 ≤ ((3 * n + 2 : Nat) : Int) ∧ ((3 * n + 2 : Nat) : Int) < ((36 : Nat) : Int)) (P2 := 0 < (128 : Int) ∧ (128 : Int) ≤ ((142 : Nat) : Int)) (pc' := 104) (ls' := [(2, 95), (0, s), (0, g), (0, a), (0, b), (0, 2)]) (st' := []) (w' := (qup (qup (qup (qup (qup (qup w 125 n g) 126 n a) 127 n b) 128 (3 * n + 0) 1) 128 (3 * n + 1) 1) 128 (3 * n + 2) 1)) (n' := 142) rfl (by omega) (by decide) ?_
                  refine qG.blk 1 (pc' := 107) (ls' := [(2, 95), (0, s), (0, g), (0, a), (0, b), (0, wrp (2 + 1))]) (st' := []) (w' := (qup (qup (qup (qup (qup (qup w 125 n g) 126 n a) 127 n b) 128 (3 * n + 0) 1) 128 (3 * n + 1) 1) 128 (3 * n + 2) 1)) (n' := 142) rfl ?_
                  rw [show wrp (2 + 1) = 3 from wrp_id (by omega) (by omega)]
                  refine qG.blk 3 (pc' := 86) (ls' := [(2, 95), (0, s), (0, g), (0, a), (0, b), (0, 3)]) (st' := [(0, 3), (0, 3)]) (w' := (qup (qup (qup (qup (qup (qup w 125 n g) 126 n a) 127 n b) 128 (3 * n + 0) 1) 128 (3 * n + 1) 1) 128 (3 * n + 2) 1)) (n' := 142) rfl ?_
                  refine qG.br (P := (3 : Int) < 3) (pc1 := 89) (pc2 := 110) (st1 := []) rfl (fun h4 => ?_) (fun h4 => ?_)
                  · exact absurd h4 (by decide)
                  · skip
                    refine qG.blk 3 (pc' := 115) (ls' := [(2, 95), (0, s), (0, g), (0, a), (0, b), (0, 3)]) (st' := [(0, w 95 55), (2, 95)]) (w' := (qup (qup (qup (qup (qup (qup w 125 n g) 126 n a) 127 n b) 128 (3 * n + 0) 1) 128 (3 * n + 1) 1) 128 (3 * n + 2) 1)) (n' := 142) rfl ?_
                    rw [show w 95 55 = ((n : Nat) : Int) from hn]
                    refine qG.blk 2 (pc' := 117) (ls' := [(2, 95), (0, s), (0, g), (0, a), (0, b), (0, 3)]) (st' := [(0, wrp (((n : Nat) : Int) + 1)), (2, 95)]) (w' := (qup (qup (qup (qup (qup (qup w 125 n g) 126 n a) 127 n b) 128 (3 * n + 0) 1) 128 (3 * n + 1) 1) 128 (3 * n + 2) 1)) (n' := 142) rfl ?_
                    rw [show wrp (((n : Nat) : Int) + 1) = ((n + 1 : Nat) : Int) from by rw [wrp_id (by omega) (by omega)]; omega]
                    refine qG.blk 5 (pc' := 126) (ls' := [(2, 95), (0, s), (0, g), (0, a), (0, b), (0, 3)]) (st' := [(0, wrp (((n + 1 : Nat) : Int) - 1))]) (w' := (qup (qup (qup (qup (qup (qup (qup w 125 n g) 126 n a) 127 n b) 128 (3 * n + 0) 1) 128 (3 * n + 1) 1) 128 (3 * n + 2) 1) 95 55 ((n + 1 : Nat) : Int))) (n' := 142) rfl ?_
                    rw [show wrp (((n + 1 : Nat) : Int) - 1) = ((n : Nat) : Int) from by rw [wrp_id (by omega) (by omega)]; omega]
                    refine qG.ret rfl rfl ?_
                    subst hQ9
                    refine ⟨rfl, ?_⟩; first | exact .inl ⟨by unfold masC; omega, rfl, rfl⟩ | exact .inr ⟨by unfold masC; omega, rfl, by simp (disch := decide) only [qup_ne, qup_k], (fun k => by (try simp (disch := decide) only [qup_ne, qup_if]) <;> (try rfl)), (fun k => by (try simp (disch := decide) only [qup_ne, qup_if]) <;> (try rfl)), (fun k => by (try simp (disch := decide) only [qup_ne, qup_if]) <;> (try rfl)), (fun q k h hf => by simp only [List.mem_cons, List.not_mem_nil, or_false, not_or] at h; obtain ⟨h0, h1, h2, h3⟩ := h; simp only [qup_ne h0, qup_ne h1, qup_ne h2, qup_ne h3, qup_f hf])⟩
                · exact absurd h3 (by decide)
              · exact absurd h2 (by decide)
            · exact absurd h1 (by decide)
theorem K_addNight {d : Nat} (hd : 1 ≤ d) (y t g e a : Int) (n : Nat) (hn9 : n ≤ 60) (w : qW) (hI : yInv zgf zga zra zSp w) (hn : w 45 7 = (n : Int)) : qG none d 64 0 [(2, 45), (0, y), (0, t), (0, g), (0, e), (0, a)] [] w 142 (fun (r : qV) (w1 : qW) (n1 : Nat) => n1 = 142 ∧ nigE 45 7 51 52 53 54 55 y t g e a n w r w1) := by
  generalize hQ9 : (fun (r : qV) (w1 : qW) (n1 : Nat) => n1 = 142 ∧ nigE 45 7 51 52 53 54 55 y t g e a n w r w1) = Q9
  obtain ⟨d, rfl⟩ : ∃ d9, d = d9 + 1 := ⟨d - 1, by omega⟩
  refine qG.blk 1 (pc' := 1) (ls' := [(2, 45), (0, y), (0, t), (0, g), (0, e), (0, a)]) (st' := [(0, y)]) (w' := w) (n' := 142) rfl ?_
  refine qG.call (t := 55) (na := 1) (sk := 0) (md := 0) (ls1 := [(0, y)]) (r1 := []) rfl rfl rfl rfl rfl (K_X4_isYear (Nat.zero_le _) _ _) ?_
  rintro _ w7 _ ⟨rfl, hw7, rfl⟩
  rw [hw7]
  show qG none (d + 1) 64 4 [(2, 45), (0, y), (0, t), (0, g), (0, e), (0, a)] [(0, isInV y 0 99)] w 142 Q9
  refine qG.br (P := isInV y 0 99 = 0) (pc1 := 32) (pc2 := 7) (st1 := []) rfl (fun h1 => ?_) (fun h1 => ?_)
  · skip
    rw [isIn_b] at h1
    refine qG.blk 1 (pc' := 33) (ls' := [(2, 45), (0, y), (0, t), (0, g), (0, e), (0, a)]) (st' := [(0, (-1))]) (w' := w) (n' := 142) rfl ?_
    refine qG.ret rfl rfl ?_
    subst hQ9
    refine ⟨rfl, ?_⟩; first | exact .inl ⟨by unfold nigC; omega, rfl, rfl⟩ | exact .inr ⟨by unfold nigC; omega, rfl, by simp (disch := decide) only [qup_ne, qup_k], (fun k => by (try simp (disch := decide) only [qup_ne, qup_if]) <;> (try rfl)), (fun k => by (try simp (disch := decide) only [qup_ne, qup_if]) <;> (try rfl)), (fun k => by (try simp (disch := decide) only [qup_ne, qup_if]) <;> (try rfl)), (fun k => by (try simp (disch := decide) only [qup_ne, qup_if]) <;> (try rfl)), (fun k => by (try simp (disch := decide) only [qup_ne, qup_if]) <;> (try rfl)), (fun q k h hf => by simp only [List.mem_cons, List.not_mem_nil, or_false, not_or] at h; obtain ⟨h0, h1, h2, h3, h4⟩ := h; simp only [qup_ne h0, qup_ne h1, qup_ne h2, qup_ne h3, qup_ne h4, qup_f hf])⟩
  · skip
    rw [isIn_p] at h1
    refine qG.blk 1 (pc' := 8) (ls' := [(2, 45), (0, y), (0, t), (0, g), (0, e), (0, a)]) (st' := [(0, t)]) (w' := w) (n' := 142) rfl ?_
    refine qG.call (t := 56) (na := 1) (sk := 0) (md := 0) (ls1 := [(0, t)]) (r1 := []) rfl rfl rfl rfl rfl (K_X4_isTown (Nat.zero_le _) _ _) ?_
    rintro _ w7 _ ⟨rfl, hw7, rfl⟩
    rw [hw7]
    show qG none (d + 1) 64 11 [(2, 45), (0, y), (0, t), (0, g), (0, e), (0, a)] [(0, isInV t 0 9)] w 142 Q9
    refine qG.br (P := isInV t 0 9 = 0) (pc1 := 32) (pc2 := 14) (st1 := []) rfl (fun h2 => ?_) (fun h2 => ?_)
    · skip
      rw [isIn_b] at h2
      refine qG.blk 1 (pc' := 33) (ls' := [(2, 45), (0, y), (0, t), (0, g), (0, e), (0, a)]) (st' := [(0, (-1))]) (w' := w) (n' := 142) rfl ?_
      refine qG.ret rfl rfl ?_
      subst hQ9
      refine ⟨rfl, ?_⟩; first | exact .inl ⟨by unfold nigC; omega, rfl, rfl⟩ | exact .inr ⟨by unfold nigC; omega, rfl, by simp (disch := decide) only [qup_ne, qup_k], (fun k => by (try simp (disch := decide) only [qup_ne, qup_if]) <;> (try rfl)), (fun k => by (try simp (disch := decide) only [qup_ne, qup_if]) <;> (try rfl)), (fun k => by (try simp (disch := decide) only [qup_ne, qup_if]) <;> (try rfl)), (fun k => by (try simp (disch := decide) only [qup_ne, qup_if]) <;> (try rfl)), (fun k => by (try simp (disch := decide) only [qup_ne, qup_if]) <;> (try rfl)), (fun q k h hf => by simp only [List.mem_cons, List.not_mem_nil, or_false, not_or] at h; obtain ⟨h0, h1, h2, h3, h4⟩ := h; simp only [qup_ne h0, qup_ne h1, qup_ne h2, qup_ne h3, qup_ne h4, qup_f hf])⟩
    · skip
      rw [isIn_p] at h2
      refine qG.blk 1 (pc' := 15) (ls' := [(2, 45), (0, y), (0, t), (0, g), (0, e), (0, a)]) (st' := [(0, g)]) (w' := w) (n' := 142) rfl ?_
      refine qG.call (t := 57) (na := 1) (sk := 0) (md := 0) (ls1 := [(0, g)]) (r1 := []) rfl rfl rfl rfl rfl (K_X4_isStrength (Nat.zero_le _) _ _) ?_
      rintro _ w7 _ ⟨rfl, hw7, rfl⟩
      rw [hw7]
      show qG none (d + 1) 64 18 [(2, 45), (0, y), (0, t), (0, g), (0, e), (0, a)] [(0, isInV g 0 99)] w 142 Q9
      refine qG.br (P := isInV g 0 99 = 0) (pc1 := 32) (pc2 := 21) (st1 := []) rfl (fun h3 => ?_) (fun h3 => ?_)
      · skip
        rw [isIn_b] at h3
        refine qG.blk 1 (pc' := 33) (ls' := [(2, 45), (0, y), (0, t), (0, g), (0, e), (0, a)]) (st' := [(0, (-1))]) (w' := w) (n' := 142) rfl ?_
        refine qG.ret rfl rfl ?_
        subst hQ9
        refine ⟨rfl, ?_⟩; first | exact .inl ⟨by unfold nigC; omega, rfl, rfl⟩ | exact .inr ⟨by unfold nigC; omega, rfl, by simp (disch := decide) only [qup_ne, qup_k], (fun k => by (try simp (disch := decide) only [qup_ne, qup_if]) <;> (try rfl)), (fun k => by (try simp (disch := decide) only [qup_ne, qup_if]) <;> (try rfl)), (fun k => by (try simp (disch := decide) only [qup_ne, qup_if]) <;> (try rfl)), (fun k => by (try simp (disch := decide) only [qup_ne, qup_if]) <;> (try rfl)), (fun k => by (try simp (disch := decide) only [qup_ne, qup_if]) <;> (try rfl)), (fun q k h hf => by simp only [List.mem_cons, List.not_mem_nil, or_false, not_or] at h; obtain ⟨h0, h1, h2, h3, h4⟩ := h; simp only [qup_ne h0, qup_ne h1, qup_ne h2, qup_ne h3, qup_ne h4, qup_f hf])⟩
      · skip
        rw [isIn_p] at h3
        refine qG.blk 1 (pc' := 23) (ls' := [(2, 45), (0, y), (0, t), (0, g), (0, e), (0, a)]) (st' := [(0, e)]) (w' := w) (n' := 142) rfl ?_
        refine qG.br (P := e < 0) (pc1 := 32) (pc2 := 26) (st1 := []) rfl (fun h1 => ?_) (fun h1 => ?_)
        · skip
          refine qG.blk 1 (pc' := 33) (ls' := [(2, 45), (0, y), (0, t), (0, g), (0, e), (0, a)]) (st' := [(0, (-1))]) (w' := w) (n' := 142) rfl ?_
          refine qG.ret rfl rfl ?_
          subst hQ9
          refine ⟨rfl, ?_⟩; first | exact .inl ⟨by unfold nigC; omega, rfl, rfl⟩ | exact .inr ⟨by unfold nigC; omega, rfl, by simp (disch := decide) only [qup_ne, qup_k], (fun k => by (try simp (disch := decide) only [qup_ne, qup_if]) <;> (try rfl)), (fun k => by (try simp (disch := decide) only [qup_ne, qup_if]) <;> (try rfl)), (fun k => by (try simp (disch := decide) only [qup_ne, qup_if]) <;> (try rfl)), (fun k => by (try simp (disch := decide) only [qup_ne, qup_if]) <;> (try rfl)), (fun k => by (try simp (disch := decide) only [qup_ne, qup_if]) <;> (try rfl)), (fun q k h hf => by simp only [List.mem_cons, List.not_mem_nil, or_false, not_or] at h; obtain ⟨h0, h1, h2, h3, h4⟩ := h; simp only [qup_ne h0, qup_ne h1, qup_ne h2, qup_ne h3, qup_ne h4, qup_f hf])⟩
        · skip
          refine qG.blk 2 (pc' := 29) (ls' := [(2, 45), (0, y), (0, t), (0, g), (0, e), (0, a)]) (st' := [(0, 2), (0, e)]) (w' := w) (n' := 142) rfl ?_
          refine qG.br (P := 2 < e) (pc1 := 32) (pc2 := 34) (st1 := []) rfl (fun h2 => ?_) (fun h2 => ?_)
          · skip
            refine qG.blk 1 (pc' := 33) (ls' := [(2, 45), (0, y), (0, t), (0, g), (0, e), (0, a)]) (st' := [(0, (-1))]) (w' := w) (n' := 142) rfl ?_
            refine qG.ret rfl rfl ?_
            subst hQ9
            refine ⟨rfl, ?_⟩; first | exact .inl ⟨by unfold nigC; omega, rfl, rfl⟩ | exact .inr ⟨by unfold nigC; omega, rfl, by simp (disch := decide) only [qup_ne, qup_k], (fun k => by (try simp (disch := decide) only [qup_ne, qup_if]) <;> (try rfl)), (fun k => by (try simp (disch := decide) only [qup_ne, qup_if]) <;> (try rfl)), (fun k => by (try simp (disch := decide) only [qup_ne, qup_if]) <;> (try rfl)), (fun k => by (try simp (disch := decide) only [qup_ne, qup_if]) <;> (try rfl)), (fun k => by (try simp (disch := decide) only [qup_ne, qup_if]) <;> (try rfl)), (fun q k h hf => by simp only [List.mem_cons, List.not_mem_nil, or_false, not_or] at h; obtain ⟨h0, h1, h2, h3, h4⟩ := h; simp only [qup_ne h0, qup_ne h1, qup_ne h2, qup_ne h3, qup_ne h4, qup_f hf])⟩
          · skip
            refine qG.blk 2 (pc' := 37) (ls' := [(2, 45), (0, y), (0, t), (0, g), (0, e), (0, a)]) (st' := [(0, (-1)), (0, a)]) (w' := w) (n' := 142) rfl ?_
            refine qG.br (P := a = (-1)) (pc1 := 48) (pc2 := 40) (st1 := []) rfl (fun h3 => ?_) (fun h3 => ?_)
            · skip
              refine qG.blk 2 (pc' := 52) (ls' := [(2, 45), (0, y), (0, t), (0, g), (0, e), (0, a)]) (st' := [(0, w 45 7)]) (w' := w) (n' := 142) rfl ?_
              rw [show w 45 7 = ((n : Nat) : Int) from hn]
              refine qG.blk 1 (pc' := 54) (ls' := [(2, 45), (0, y), (0, t), (0, g), (0, e), (0, a)]) (st' := [(0, 60), (0, ((n : Nat) : Int))]) (w' := w) (n' := 142) rfl ?_
              refine qG.br (P := ((n : Nat) : Int) < 60) (pc1 := 59) (pc2 := 57) (st1 := []) rfl (fun h4 => ?_) (fun h4 => ?_)
              · skip
                refine qG.blk 2 (pc' := 63) (ls' := [(2, 45), (0, y), (0, t), (0, g), (0, e), (0, a)]) (st' := [(2, w 45 8)]) (w' := w) (n' := 142) rfl ?_
                rw [show w 45 8 = 51 from zref hI rfl rfl]
                refine qG.blk 2 (pc' := 67) (ls' := [(2, 45), (0, y), (0, t), (0, g), (0, e), (0, a)]) (st' := [(0, w 45 7), (2, 51)]) (w' := w) (n' := 142) rfl ?_
                rw [show w 45 7 = ((n : Nat) : Int) from hn]
                refine qG.blk 1 (pc' := 68) (ls' := [(2, 45), (0, y), (0, t), (0, g), (0, e), (0, a)]) (st' := [(0, y), (0, ((n : Nat) : Int)), (2, 51)]) (w' := w) (n' := 142) rfl ?_
                refine qG.ar (P := 0 ≤ ((n : Nat) : Int) ∧ ((n : Nat) : Int) < ((60 : Nat) : Int)) (P2 := 0 < (51 : Int) ∧ (51 : Int) ≤ ((142 : Nat) : Int)) (pc' := 69) (ls' := [(2, 45), (0, y), (0, t), (0, g), (0, e), (0, a)]) (st' := []) (w' := (qup w 51 n y)) (n' := 142) rfl (by omega) (by decide) ?_
                refine qG.blk 2 (pc' := 73) (ls' := [(2, 45), (0, y), (0, t), (0, g), (0, e), (0, a)]) (st' := [(2, w 45 9)]) (w' := (qup w 51 n y)) (n' := 142) rfl ?_
                rw [show w 45 9 = 52 from zref hI rfl rfl]
                refine qG.blk 2 (pc' := 77) (ls' := [(2, 45), (0, y), (0, t), (0, g), (0, e), (0, a)]) (st' := [(0, w 45 7), (2, 52)]) (w' := (qup w 51 n y)) (n' := 142) rfl ?_
                rw [show w 45 7 = ((n : Nat) : Int) from hn]
                refine qG.blk 1 (pc' := 78) (ls' := [(2, 45), (0, y), (0, t), (0, g), (0, e), (0, a)]) (st' := [(0, t), (0, ((n : Nat) : Int)), (2, 52)]) (w' := (qup w 51 n y)) (n' := 142) rfl ?_
                refine qG.ar (P := 0 ≤ ((n : Nat) : Int) ∧ ((n : Nat) : Int) < ((60 : Nat) : Int)) (P2 := 0 < (52 : Int) ∧ (52 : Int) ≤ ((142 : Nat) : Int)) (pc' := 79) (ls' := [(2, 45), (0, y), (0, t), (0, g), (0, e), (0, a)]) (st' := []) (w' := (qup (qup w 51 n y) 52 n t)) (n' := 142) rfl (by omega) (by decide) ?_
                refine qG.blk 2 (pc' := 83) (ls' := [(2, 45), (0, y), (0, t), (0, g), (0, e), (0, a)]) (st' := [(2, w 45 10)]) (w' := (qup (qup w 51 n y) 52 n t)) (n' := 142) rfl ?_
                rw [show w 45 10 = 53 from zref hI rfl rfl]
                refine qG.blk 2 (pc' := 87) (ls' := [(2, 45), (0, y), (0, t), (0, g), (0, e), (0, a)]) (st' := [(0, w 45 7), (2, 53)]) (w' := (qup (qup w 51 n y) 52 n t)) (n' := 142) rfl ?_
                rw [show w 45 7 = ((n : Nat) : Int) from hn]
                refine qG.blk 1 (pc' := 88) (ls' := [(2, 45), (0, y), (0, t), (0, g), (0, e), (0, a)]) (st' := [(0, g), (0, ((n : Nat) : Int)), (2, 53)]) (w' := (qup (qup w 51 n y) 52 n t)) (n' := 142) rfl ?_
                refine qG.ar (P := 0 ≤ ((n : Nat) : Int) ∧ ((n : Nat) : Int) < ((60 : Nat) : Int)) (P2 := 0 < (53 : Int) ∧ (53 : Int) ≤ ((142 : Nat) : Int)) (pc' := 89) (ls' := [(2, 45), (0, y), (0, t), (0, g), (0, e), (0, a)]) (st' := []) (w' := (qup (qup (qup w 51 n y) 52 n t) 53 n g)) (n' := 142) rfl (by omega) (by decide) ?_
                refine qG.blk 2 (pc' := 93) (ls' := [(2, 45), (0, y), (0, t), (0, g), (0, e), (0, a)]) (st' := [(2, w 45 11)]) (w' := (qup (qup (qup w 51 n y) 52 n t) 53 n g)) (n' := 142) rfl ?_
                rw [show w 45 11 = 54 from zref hI rfl rfl]
                refine qG.blk 2 (pc' := 97) (ls' := [(2, 45), (0, y), (0, t), (0, g), (0, e), (0, a)]) (st' := [(0, w 45 7), (2, 54)]) (w' := (qup (qup (qup w 51 n y) 52 n t) 53 n g)) (n' := 142) rfl ?_
                rw [show w 45 7 = ((n : Nat) : Int) from hn]
                refine qG.blk 1 (pc' := 99) (ls' := [(2, 45), (0, y), (0, t), (0, g), (0, e), (0, a)]) (st' := [(0, e), (0, ((n : Nat) : Int)), (2, 54)]) (w' := (qup (qup (qup w 51 n y) 52 n t) 53 n g)) (n' := 142) rfl ?_
                refine qG.ar (P := 0 ≤ ((n : Nat) : Int) ∧ ((n : Nat) : Int) < ((60 : Nat) : Int)) (P2 := 0 < (54 : Int) ∧ (54 : Int) ≤ ((142 : Nat) : Int)) (pc' := 100) (ls' := [(2, 45), (0, y), (0, t), (0, g), (0, e), (0, a)]) (st' := []) (w' := (qup (qup (qup (qup w 51 n y) 52 n t) 53 n g) 54 n e)) (n' := 142) rfl (by omega) (by decide) ?_
                refine qG.blk 2 (pc' := 104) (ls' := [(2, 45), (0, y), (0, t), (0, g), (0, e), (0, a)]) (st' := [(2, w 45 12)]) (w' := (qup (qup (qup (qup w 51 n y) 52 n t) 53 n g) 54 n e)) (n' := 142) rfl ?_
                rw [show w 45 12 = 55 from zref hI rfl rfl]
                refine qG.blk 2 (pc' := 108) (ls' := [(2, 45), (0, y), (0, t), (0, g), (0, e), (0, a)]) (st' := [(0, w 45 7), (2, 55)]) (w' := (qup (qup (qup (qup w 51 n y) 52 n t) 53 n g) 54 n e)) (n' := 142) rfl ?_
                rw [show w 45 7 = ((n : Nat) : Int) from hn]
                refine qG.blk 1 (pc' := 110) (ls' := [(2, 45), (0, y), (0, t), (0, g), (0, e), (0, a)]) (st' := [(0, a), (0, ((n : Nat) : Int)), (2, 55)]) (w' := (qup (qup (qup (qup w 51 n y) 52 n t) 53 n g) 54 n e)) (n' := 142) rfl ?_
                refine qG.ar (P := 0 ≤ ((n : Nat) : Int) ∧ ((n : Nat) : Int) < ((60 : Nat) : Int)) (P2 := 0 < (55 : Int) ∧ (55 : Int) ≤ ((142 : Nat) : Int)) (pc' := 111) (ls' := [(2, 45), (0, y), (0, t), (0, g), (0, e), (0, a)]) (st' := []) (w' := (qup (qup (qup (qup (qup w 51 n y) 52 n t) 53 n g) 54 n e) 55 n a)) (n' := 142) rfl (by omega) (by decide) ?_
                refine qG.blk 3 (pc' := 116) (ls' := [(2, 45), (0, y), (0, t), (0, g), (0, e), (0, a)]) (st' := [(0, w 45 7), (2, 45)]) (w' := (qup (qup (qup (qup (qup w 51 n y) 52 n t) 53 n g) 54 n e) 55 n a)) (n' := 142) rfl ?_
                rw [show w 45 7 = ((n : Nat) : Int) from hn]
                refine qG.blk 2 (pc' := 118) (ls' := [(2, 45), (0, y), (0, t), (0, g), (0, e), (0, a)]) (st' := [(0, wrp (((n : Nat) : Int) + 1)), (2, 45)]) (w' := (qup (qup (qup (qup (qup w 51 n y) 52 n t) 53 n g) 54 n e) 55 n a)) (n' := 142) rfl ?_
                rw [show wrp (((n : Nat) : Int) + 1) = ((n + 1 : Nat) : Int) from by rw [wrp_id (by omega) (by omega)]; omega]
                refine qG.blk 5 (pc' := 127) (ls' := [(2, 45), (0, y), (0, t), (0, g), (0, e), (0, a)]) (st' := [(0, wrp (((n + 1 : Nat) : Int) - 1))]) (w' := (qup (qup (qup (qup (qup (qup w 51 n y) 52 n t) 53 n g) 54 n e) 55 n a) 45 7 ((n + 1 : Nat) : Int))) (n' := 142) rfl ?_
                rw [show wrp (((n + 1 : Nat) : Int) - 1) = ((n : Nat) : Int) from by rw [wrp_id (by omega) (by omega)]; omega]
                refine qG.ret rfl rfl ?_
                subst hQ9
                refine ⟨rfl, ?_⟩; first | exact .inl ⟨by unfold nigC; omega, rfl, rfl⟩ | exact .inr ⟨by unfold nigC; omega, rfl, by simp (disch := decide) only [qup_ne, qup_k], (fun k => by (try simp (disch := decide) only [qup_ne, qup_if]) <;> (try rfl)), (fun k => by (try simp (disch := decide) only [qup_ne, qup_if]) <;> (try rfl)), (fun k => by (try simp (disch := decide) only [qup_ne, qup_if]) <;> (try rfl)), (fun k => by (try simp (disch := decide) only [qup_ne, qup_if]) <;> (try rfl)), (fun k => by (try simp (disch := decide) only [qup_ne, qup_if]) <;> (try rfl)), (fun q k h hf => by simp only [List.mem_cons, List.not_mem_nil, or_false, not_or] at h; obtain ⟨h0, h1, h2, h3, h4⟩ := h; simp only [qup_ne h0, qup_ne h1, qup_ne h2, qup_ne h3, qup_ne h4, qup_f hf])⟩
              · skip
                refine qG.blk 1 (pc' := 58) (ls' := [(2, 45), (0, y), (0, t), (0, g), (0, e), (0, a)]) (st' := [(0, (-1))]) (w' := w) (n' := 142) rfl ?_
                refine qG.ret rfl rfl ?_
                subst hQ9
                refine ⟨rfl, ?_⟩; first | exact .inl ⟨by unfold nigC; omega, rfl, rfl⟩ | exact .inr ⟨by unfold nigC; omega, rfl, by simp (disch := decide) only [qup_ne, qup_k], (fun k => by (try simp (disch := decide) only [qup_ne, qup_if]) <;> (try rfl)), (fun k => by (try simp (disch := decide) only [qup_ne, qup_if]) <;> (try rfl)), (fun k => by (try simp (disch := decide) only [qup_ne, qup_if]) <;> (try rfl)), (fun k => by (try simp (disch := decide) only [qup_ne, qup_if]) <;> (try rfl)), (fun k => by (try simp (disch := decide) only [qup_ne, qup_if]) <;> (try rfl)), (fun q k h hf => by simp only [List.mem_cons, List.not_mem_nil, or_false, not_or] at h; obtain ⟨h0, h1, h2, h3, h4⟩ := h; simp only [qup_ne h0, qup_ne h1, qup_ne h2, qup_ne h3, qup_ne h4, qup_f hf])⟩
            · skip
              refine qG.blk 1 (pc' := 42) (ls' := [(2, 45), (0, y), (0, t), (0, g), (0, e), (0, a)]) (st' := [(0, a)]) (w' := w) (n' := 142) rfl ?_
              refine qG.call (t := 58) (na := 1) (sk := 0) (md := 0) (ls1 := [(0, a)]) (r1 := []) rfl rfl rfl rfl rfl (K_X4_isAnswer (Nat.zero_le _) _ _) ?_
              rintro _ w7 _ ⟨rfl, hw7, rfl⟩
              rw [hw7]
              show qG none (d + 1) 64 45 [(2, 45), (0, y), (0, t), (0, g), (0, e), (0, a)] [(0, isInV a 0 2)] w 142 Q9
              refine qG.br (P := isInV a 0 2 = 0) (pc1 := 57) (pc2 := 48) (st1 := []) rfl (fun h6 => ?_) (fun h6 => ?_)
              · skip
                rw [isIn_b] at h6
                refine qG.blk 1 (pc' := 58) (ls' := [(2, 45), (0, y), (0, t), (0, g), (0, e), (0, a)]) (st' := [(0, (-1))]) (w' := w) (n' := 142) rfl ?_
                refine qG.ret rfl rfl ?_
                subst hQ9
                refine ⟨rfl, ?_⟩; first | exact .inl ⟨by unfold nigC; omega, rfl, rfl⟩ | exact .inr ⟨by unfold nigC; omega, rfl, by simp (disch := decide) only [qup_ne, qup_k], (fun k => by (try simp (disch := decide) only [qup_ne, qup_if]) <;> (try rfl)), (fun k => by (try simp (disch := decide) only [qup_ne, qup_if]) <;> (try rfl)), (fun k => by (try simp (disch := decide) only [qup_ne, qup_if]) <;> (try rfl)), (fun k => by (try simp (disch := decide) only [qup_ne, qup_if]) <;> (try rfl)), (fun k => by (try simp (disch := decide) only [qup_ne, qup_if]) <;> (try rfl)), (fun q k h hf => by simp only [List.mem_cons, List.not_mem_nil, or_false, not_or] at h; obtain ⟨h0, h1, h2, h3, h4⟩ := h; simp only [qup_ne h0, qup_ne h1, qup_ne h2, qup_ne h3, qup_ne h4, qup_f hf])⟩
              · skip
                rw [isIn_p] at h6
                refine qG.blk 2 (pc' := 52) (ls' := [(2, 45), (0, y), (0, t), (0, g), (0, e), (0, a)]) (st' := [(0, w 45 7)]) (w' := w) (n' := 142) rfl ?_
                rw [show w 45 7 = ((n : Nat) : Int) from hn]
                refine qG.blk 1 (pc' := 54) (ls' := [(2, 45), (0, y), (0, t), (0, g), (0, e), (0, a)]) (st' := [(0, 60), (0, ((n : Nat) : Int))]) (w' := w) (n' := 142) rfl ?_
                refine qG.br (P := ((n : Nat) : Int) < 60) (pc1 := 59) (pc2 := 57) (st1 := []) rfl (fun h5 => ?_) (fun h5 => ?_)
                · skip
                  refine qG.blk 2 (pc' := 63) (ls' := [(2, 45), (0, y), (0, t), (0, g), (0, e), (0, a)]) (st' := [(2, w 45 8)]) (w' := w) (n' := 142) rfl ?_
                  rw [show w 45 8 = 51 from zref hI rfl rfl]
                  refine qG.blk 2 (pc' := 67) (ls' := [(2, 45), (0, y), (0, t), (0, g), (0, e), (0, a)]) (st' := [(0, w 45 7), (2, 51)]) (w' := w) (n' := 142) rfl ?_
                  rw [show w 45 7 = ((n : Nat) : Int) from hn]
                  refine qG.blk 1 (pc' := 68) (ls' := [(2, 45), (0, y), (0, t), (0, g), (0, e), (0, a)]) (st' := [(0, y), (0, ((n : Nat) : Int)), (2, 51)]) (w' := w) (n' := 142) rfl ?_
                  refine qG.ar (P := 0 ≤ ((n : Nat) : Int) ∧ ((n : Nat) : Int) < ((60 : Nat) : Int)) (P2 := 0 < (51 : Int) ∧ (51 : Int) ≤ ((142 : Nat) : Int)) (pc' := 69) (ls' := [(2, 45), (0, y), (0, t), (0, g), (0, e), (0, a)]) (st' := []) (w' := (qup w 51 n y)) (n' := 142) rfl (by omega) (by decide) ?_
                  refine qG.blk 2 (pc' := 73) (ls' := [(2, 45), (0, y), (0, t), (0, g), (0, e), (0, a)]) (st' := [(2, w 45 9)]) (w' := (qup w 51 n y)) (n' := 142) rfl ?_
                  rw [show w 45 9 = 52 from zref hI rfl rfl]
                  refine qG.blk 2 (pc' := 77) (ls' := [(2, 45), (0, y), (0, t), (0, g), (0, e), (0, a)]) (st' := [(0, w 45 7), (2, 52)]) (w' := (qup w 51 n y)) (n' := 142) rfl ?_
                  rw [show w 45 7 = ((n : Nat) : Int) from hn]
                  refine qG.blk 1 (pc' := 78) (ls' := [(2, 45), (0, y), (0, t), (0, g), (0, e), (0, a)]) (st' := [(0, t), (0, ((n : Nat) : Int)), (2, 52)]) (w' := (qup w 51 n y)) (n' := 142) rfl ?_
                  refine qG.ar (P := 0 ≤ ((n : Nat) : Int) ∧ ((n : Nat) : Int) < ((60 : Nat) : Int)) (P2 := 0 < (52 : Int) ∧ (52 : Int) ≤ ((142 : Nat) : Int)) (pc' := 79) (ls' := [(2, 45), (0, y), (0, t), (0, g), (0, e), (0, a)]) (st' := []) (w' := (qup (qup w 51 n y) 52 n t)) (n' := 142) rfl (by omega) (by decide) ?_
                  refine qG.blk 2 (pc' := 83) (ls' := [(2, 45), (0, y), (0, t), (0, g), (0, e), (0, a)]) (st' := [(2, w 45 10)]) (w' := (qup (qup w 51 n y) 52 n t)) (n' := 142) rfl ?_
                  rw [show w 45 10 = 53 from zref hI rfl rfl]
                  refine qG.blk 2 (pc' := 87) (ls' := [(2, 45), (0, y), (0, t), (0, g), (0, e), (0, a)]) (st' := [(0, w 45 7), (2, 53)]) (w' := (qup (qup w 51 n y) 52 n t)) (n' := 142) rfl ?_
                  rw [show w 45 7 = ((n : Nat) : Int) from hn]
                  refine qG.blk 1 (pc' := 88) (ls' := [(2, 45), (0, y), (0, t), (0, g), (0, e), (0, a)]) (st' := [(0, g), (0, ((n : Nat) : Int)), (2, 53)]) (w' := (qup (qup w 51 n y) 52 n t)) (n' := 142) rfl ?_
                  refine qG.ar (P := 0 ≤ ((n : Nat) : Int) ∧ ((n : Nat) : Int) < ((60 : Nat) : Int)) (P2 := 0 < (53 : Int) ∧ (53 : Int) ≤ ((142 : Nat) : Int)) (pc' := 89) (ls' := [(2, 45), (0, y), (0, t), (0, g), (0, e), (0, a)]) (st' := []) (w' := (qup (qup (qup w 51 n y) 52 n t) 53 n g)) (n' := 142) rfl (by omega) (by decide) ?_
                  refine qG.blk 2 (pc' := 93) (ls' := [(2, 45), (0, y), (0, t), (0, g), (0, e), (0, a)]) (st' := [(2, w 45 11)]) (w' := (qup (qup (qup w 51 n y) 52 n t) 53 n g)) (n' := 142) rfl ?_
                  rw [show w 45 11 = 54 from zref hI rfl rfl]
                  refine qG.blk 2 (pc' := 97) (ls' := [(2, 45), (0, y), (0, t), (0, g), (0, e), (0, a)]) (st' := [(0, w 45 7), (2, 54)]) (w' := (qup (qup (qup w 51 n y) 52 n t) 53 n g)) (n' := 142) rfl ?_
                  rw [show w 45 7 = ((n : Nat) : Int) from hn]
                  refine qG.blk 1 (pc' := 99) (ls' := [(2, 45), (0, y), (0, t), (0, g), (0, e), (0, a)]) (st' := [(0, e), (0, ((n : Nat) : Int)), (2, 54)]) (w' := (qup (qup (qup w 51 n y) 52 n t) 53 n g)) (n' := 142) rfl ?_
                  refine qG.ar (P := 0 ≤ ((n : Nat) : Int) ∧ ((n : Nat) : Int) < ((60 : Nat) : Int)) (P2 := 0 < (54 : Int) ∧ (54 : Int) ≤ ((142 : Nat) : Int)) (pc' := 100) (ls' := [(2, 45), (0, y), (0, t), (0, g), (0, e), (0, a)]) (st' := []) (w' := (qup (qup (qup (qup w 51 n y) 52 n t) 53 n g) 54 n e)) (n' := 142) rfl (by omega) (by decide) ?_
                  refine qG.blk 2 (pc' := 104) (ls' := [(2, 45), (0, y), (0, t), (0, g), (0, e), (0, a)]) (st' := [(2, w 45 12)]) (w' := (qup (qup (qup (qup w 51 n y) 52 n t) 53 n g) 54 n e)) (n' := 142) rfl ?_
                  rw [show w 45 12 = 55 from zref hI rfl rfl]
                  refine qG.blk 2 (pc' := 108) (ls' := [(2, 45), (0, y), (0, t), (0, g), (0, e), (0, a)]) (st' := [(0, w 45 7), (2, 55)]) (w' := (qup (qup (qup (qup w 51 n y) 52 n t) 53 n g) 54 n e)) (n' := 142) rfl ?_
                  rw [show w 45 7 = ((n : Nat) : Int) from hn]
                  refine qG.blk 1 (pc' := 110) (ls' := [(2, 45), (0, y), (0, t), (0, g), (0, e), (0, a)]) (st' := [(0, a), (0, ((n : Nat) : Int)), (2, 55)]) (w' := (qup (qup (qup (qup w 51 n y) 52 n t) 53 n g) 54 n e)) (n' := 142) rfl ?_
                  refine qG.ar (P := 0 ≤ ((n : Nat) : Int) ∧ ((n : Nat) : Int) < ((60 : Nat) : Int)) (P2 := 0 < (55 : Int) ∧ (55 : Int) ≤ ((142 : Nat) : Int)) (pc' := 111) (ls' := [(2, 45), (0, y), (0, t), (0, g), (0, e), (0, a)]) (st' := []) (w' := (qup (qup (qup (qup (qup w 51 n y) 52 n t) 53 n g) 54 n e) 55 n a)) (n' := 142) rfl (by omega) (by decide) ?_
                  refine qG.blk 3 (pc' := 116) (ls' := [(2, 45), (0, y), (0, t), (0, g), (0, e), (0, a)]) (st' := [(0, w 45 7), (2, 45)]) (w' := (qup (qup (qup (qup (qup w 51 n y) 52 n t) 53 n g) 54 n e) 55 n a)) (n' := 142) rfl ?_
                  rw [show w 45 7 = ((n : Nat) : Int) from hn]
                  refine qG.blk 2 (pc' := 118) (ls' := [(2, 45), (0, y), (0, t), (0, g), (0, e), (0, a)]) (st' := [(0, wrp (((n : Nat) : Int) + 1)), (2, 45)]) (w' := (qup (qup (qup (qup (qup w 51 n y) 52 n t) 53 n g) 54 n e) 55 n a)) (n' := 142) rfl ?_
                  rw [show wrp (((n : Nat) : Int) + 1) = ((n + 1 : Nat) : Int) from by rw [wrp_id (by omega) (by omega)]; omega]
                  refine qG.blk 5 (pc' := 127) (ls' := [(2, 45), (0, y), (0, t), (0, g), (0, e), (0, a)]) (st' := [(0, wrp (((n + 1 : Nat) : Int) - 1))]) (w' := (qup (qup (qup (qup (qup (qup w 51 n y) 52 n t) 53 n g) 54 n e) 55 n a) 45 7 ((n + 1 : Nat) : Int))) (n' := 142) rfl ?_
                  rw [show wrp (((n + 1 : Nat) : Int) - 1) = ((n : Nat) : Int) from by rw [wrp_id (by omega) (by omega)]; omega]
                  refine qG.ret rfl rfl ?_
                  subst hQ9
                  refine ⟨rfl, ?_⟩; first | exact .inl ⟨by unfold nigC; omega, rfl, rfl⟩ | exact .inr ⟨by unfold nigC; omega, rfl, by simp (disch := decide) only [qup_ne, qup_k], (fun k => by (try simp (disch := decide) only [qup_ne, qup_if]) <;> (try rfl)), (fun k => by (try simp (disch := decide) only [qup_ne, qup_if]) <;> (try rfl)), (fun k => by (try simp (disch := decide) only [qup_ne, qup_if]) <;> (try rfl)), (fun k => by (try simp (disch := decide) only [qup_ne, qup_if]) <;> (try rfl)), (fun k => by (try simp (disch := decide) only [qup_ne, qup_if]) <;> (try rfl)), (fun q k h hf => by simp only [List.mem_cons, List.not_mem_nil, or_false, not_or] at h; obtain ⟨h0, h1, h2, h3, h4⟩ := h; simp only [qup_ne h0, qup_ne h1, qup_ne h2, qup_ne h3, qup_ne h4, qup_f hf])⟩
                · skip
                  refine qG.blk 1 (pc' := 58) (ls' := [(2, 45), (0, y), (0, t), (0, g), (0, e), (0, a)]) (st' := [(0, (-1))]) (w' := w) (n' := 142) rfl ?_
                  refine qG.ret rfl rfl ?_
                  subst hQ9
                  refine ⟨rfl, ?_⟩; first | exact .inl ⟨by unfold nigC; omega, rfl, rfl⟩ | exact .inr ⟨by unfold nigC; omega, rfl, by simp (disch := decide) only [qup_ne, qup_k], (fun k => by (try simp (disch := decide) only [qup_ne, qup_if]) <;> (try rfl)), (fun k => by (try simp (disch := decide) only [qup_ne, qup_if]) <;> (try rfl)), (fun k => by (try simp (disch := decide) only [qup_ne, qup_if]) <;> (try rfl)), (fun k => by (try simp (disch := decide) only [qup_ne, qup_if]) <;> (try rfl)), (fun k => by (try simp (disch := decide) only [qup_ne, qup_if]) <;> (try rfl)), (fun q k h hf => by simp only [List.mem_cons, List.not_mem_nil, or_false, not_or] at h; obtain ⟨h0, h1, h2, h3, h4⟩ := h; simp only [qup_ne h0, qup_ne h1, qup_ne h2, qup_ne h3, qup_ne h4, qup_f hf])⟩
theorem K_X11_night {d : Nat} (hd : 2 ≤ d) (y t g e a : Int) (n : Nat) (hn9 : n ≤ 60) (w : qW) (hI : yInv zgf zga zra zSp w) (hn : w 45 7 = (n : Int)) : qG none d 188 0 [(2, 1), (0, y), (0, t), (0, g), (0, e), (0, a)] [] w 142 (fun (r : qV) (w1 : qW) (n1 : Nat) => n1 = 142 ∧ nigE 45 7 51 52 53 54 55 y t g e a n w r w1) := by
  generalize hQ9 : (fun (r : qV) (w1 : qW) (n1 : Nat) => n1 = 142 ∧ nigE 45 7 51 52 53 54 55 y t g e a n w r w1) = Q9
  obtain ⟨d, rfl⟩ : ∃ d9, d = d9 + 1 := ⟨d - 1, by omega⟩
  refine qG.blk 2 (pc' := 4) (ls' := [(2, 1), (0, y), (0, t), (0, g), (0, e), (0, a)]) (st' := [(2, w 1 7)]) (w' := w) (n' := 142) rfl ?_
  rw [show w 1 7 = 45 from zref hI rfl rfl]
  refine qG.blk 5 (pc' := 11) (ls' := [(2, 1), (0, y), (0, t), (0, g), (0, e), (0, a)]) (st' := [(0, a), (0, e), (0, g), (0, t), (0, y), (2, 45)]) (w' := w) (n' := 142) rfl ?_
  refine qG.call (t := 64) (na := 6) (sk := 1) (md := 1) (ls1 := [(2, 45), (0, y), (0, t), (0, g), (0, e), (0, a)]) (r1 := []) rfl rfl rfl rfl rfl (K_addNight (by omega) y t g e a n hn9 w hI hn) ?_
  rintro ⟨_, x9⟩ w1 _ ⟨rfl, hE⟩
  have hk9 : ∃ y, ((_ : Nat), x9) = ((0 : Nat), y) := (by rcases hE with ⟨-, h, -⟩ | ⟨-, h, -⟩ <;> exact ⟨_, h⟩)
  obtain ⟨y9, hy9⟩ := hk9
  obtain ⟨rfl, rfl⟩ := Prod.mk.inj hy9
  show qG none (d + 1) 188 14 [(2, 1), (0, y), (0, t), (0, g), (0, e), (0, a)] [(0, x9)] w1 142 Q9
  refine qG.ret rfl rfl ?_
  subst hQ9
  exact ⟨rfl, hE⟩
theorem K_X12_night {d : Nat} (hd : 2 ≤ d) (y t g e a : Int) (n : Nat) (hn9 : n ≤ 60) (w : qW) (hI : yInv zgf zga zra zSp w) (hn : w 95 57 = (n : Int)) : qG none d 283 0 [(2, 95), (0, y), (0, t), (0, g), (0, e), (0, a)] [] w 142 (fun (r : qV) (w1 : qW) (n1 : Nat) => n1 = 142 ∧ nigE 95 57 132 133 134 135 136 y t g e a n w r w1) := by
  generalize hQ9 : (fun (r : qV) (w1 : qW) (n1 : Nat) => n1 = 142 ∧ nigE 95 57 132 133 134 135 136 y t g e a n w r w1) = Q9
  obtain ⟨d, rfl⟩ : ∃ d9, d = d9 + 1 := ⟨d - 1, by omega⟩
  refine qG.blk 3 (pc' := 4) (ls' := [(2, 95), (0, y), (0, t), (0, g), (0, e), (0, a)]) (st' := [(0, 99), (0, 0), (0, y)]) (w' := w) (n' := 142) rfl ?_
  refine qG.call (t := 206) (na := 3) (sk := 0) (md := 0) (ls1 := [(0, y), (0, 0), (0, 99)]) (r1 := []) rfl rfl rfl rfl rfl (K_isIn (Nat.zero_le _) _ _ _ _) ?_
  rintro _ w7 _ ⟨rfl, hw7, rfl⟩
  rw [hw7]
  show qG none (d + 1) 283 7 [(2, 95), (0, y), (0, t), (0, g), (0, e), (0, a)] [(0, isInV (y) (0) (99))] w 142 Q9
  refine qG.br (P := isInV (y) (0) (99) = 0) (pc1 := 59) (pc2 := 10) (st1 := []) rfl (fun h1 => ?_) (fun h1 => ?_)
  · skip
    rw [isIn_b] at h1
    refine qG.blk 1 (pc' := 60) (ls' := [(2, 95), (0, y), (0, t), (0, g), (0, e), (0, a)]) (st' := [(0, (-1))]) (w' := w) (n' := 142) rfl ?_
    refine qG.ret rfl rfl ?_
    subst hQ9
    refine ⟨rfl, ?_⟩; first | exact .inl ⟨by unfold nigC; omega, rfl, rfl⟩ | exact .inr ⟨by unfold nigC; omega, rfl, by simp (disch := decide) only [qup_ne, qup_k], (fun k => by (try simp (disch := decide) only [qup_ne, qup_if]) <;> (try rfl)), (fun k => by (try simp (disch := decide) only [qup_ne, qup_if]) <;> (try rfl)), (fun k => by (try simp (disch := decide) only [qup_ne, qup_if]) <;> (try rfl)), (fun k => by (try simp (disch := decide) only [qup_ne, qup_if]) <;> (try rfl)), (fun k => by (try simp (disch := decide) only [qup_ne, qup_if]) <;> (try rfl)), (fun q k h hf => by simp only [List.mem_cons, List.not_mem_nil, or_false, not_or] at h; obtain ⟨h0, h1, h2, h3, h4⟩ := h; simp only [qup_ne h0, qup_ne h1, qup_ne h2, qup_ne h3, qup_ne h4, qup_f hf])⟩
  · skip
    rw [isIn_p] at h1
    refine qG.blk 3 (pc' := 14) (ls' := [(2, 95), (0, y), (0, t), (0, g), (0, e), (0, a)]) (st' := [(0, 9), (0, 0), (0, t)]) (w' := w) (n' := 142) rfl ?_
    refine qG.call (t := 206) (na := 3) (sk := 0) (md := 0) (ls1 := [(0, t), (0, 0), (0, 9)]) (r1 := []) rfl rfl rfl rfl rfl (K_isIn (Nat.zero_le _) _ _ _ _) ?_
    rintro _ w7 _ ⟨rfl, hw7, rfl⟩
    rw [hw7]
    show qG none (d + 1) 283 17 [(2, 95), (0, y), (0, t), (0, g), (0, e), (0, a)] [(0, isInV (t) (0) (9))] w 142 Q9
    refine qG.br (P := isInV (t) (0) (9) = 0) (pc1 := 59) (pc2 := 20) (st1 := []) rfl (fun h2 => ?_) (fun h2 => ?_)
    · skip
      rw [isIn_b] at h2
      refine qG.blk 1 (pc' := 60) (ls' := [(2, 95), (0, y), (0, t), (0, g), (0, e), (0, a)]) (st' := [(0, (-1))]) (w' := w) (n' := 142) rfl ?_
      refine qG.ret rfl rfl ?_
      subst hQ9
      refine ⟨rfl, ?_⟩; first | exact .inl ⟨by unfold nigC; omega, rfl, rfl⟩ | exact .inr ⟨by unfold nigC; omega, rfl, by simp (disch := decide) only [qup_ne, qup_k], (fun k => by (try simp (disch := decide) only [qup_ne, qup_if]) <;> (try rfl)), (fun k => by (try simp (disch := decide) only [qup_ne, qup_if]) <;> (try rfl)), (fun k => by (try simp (disch := decide) only [qup_ne, qup_if]) <;> (try rfl)), (fun k => by (try simp (disch := decide) only [qup_ne, qup_if]) <;> (try rfl)), (fun k => by (try simp (disch := decide) only [qup_ne, qup_if]) <;> (try rfl)), (fun q k h hf => by simp only [List.mem_cons, List.not_mem_nil, or_false, not_or] at h; obtain ⟨h0, h1, h2, h3, h4⟩ := h; simp only [qup_ne h0, qup_ne h1, qup_ne h2, qup_ne h3, qup_ne h4, qup_f hf])⟩
    · skip
      rw [isIn_p] at h2
      refine qG.blk 3 (pc' := 24) (ls' := [(2, 95), (0, y), (0, t), (0, g), (0, e), (0, a)]) (st' := [(0, 99), (0, 0), (0, g)]) (w' := w) (n' := 142) rfl ?_
      refine qG.call (t := 206) (na := 3) (sk := 0) (md := 0) (ls1 := [(0, g), (0, 0), (0, 99)]) (r1 := []) rfl rfl rfl rfl rfl (K_isIn (Nat.zero_le _) _ _ _ _) ?_
      rintro _ w7 _ ⟨rfl, hw7, rfl⟩
      rw [hw7]
      show qG none (d + 1) 283 27 [(2, 95), (0, y), (0, t), (0, g), (0, e), (0, a)] [(0, isInV (g) (0) (99))] w 142 Q9
      refine qG.br (P := isInV (g) (0) (99) = 0) (pc1 := 59) (pc2 := 30) (st1 := []) rfl (fun h3 => ?_) (fun h3 => ?_)
      · skip
        rw [isIn_b] at h3
        refine qG.blk 1 (pc' := 60) (ls' := [(2, 95), (0, y), (0, t), (0, g), (0, e), (0, a)]) (st' := [(0, (-1))]) (w' := w) (n' := 142) rfl ?_
        refine qG.ret rfl rfl ?_
        subst hQ9
        refine ⟨rfl, ?_⟩; first | exact .inl ⟨by unfold nigC; omega, rfl, rfl⟩ | exact .inr ⟨by unfold nigC; omega, rfl, by simp (disch := decide) only [qup_ne, qup_k], (fun k => by (try simp (disch := decide) only [qup_ne, qup_if]) <;> (try rfl)), (fun k => by (try simp (disch := decide) only [qup_ne, qup_if]) <;> (try rfl)), (fun k => by (try simp (disch := decide) only [qup_ne, qup_if]) <;> (try rfl)), (fun k => by (try simp (disch := decide) only [qup_ne, qup_if]) <;> (try rfl)), (fun k => by (try simp (disch := decide) only [qup_ne, qup_if]) <;> (try rfl)), (fun q k h hf => by simp only [List.mem_cons, List.not_mem_nil, or_false, not_or] at h; obtain ⟨h0, h1, h2, h3, h4⟩ := h; simp only [qup_ne h0, qup_ne h1, qup_ne h2, qup_ne h3, qup_ne h4, qup_f hf])⟩
      · skip
        rw [isIn_p] at h3
        refine qG.blk 3 (pc' := 34) (ls' := [(2, 95), (0, y), (0, t), (0, g), (0, e), (0, a)]) (st' := [(0, 2), (0, 0), (0, e)]) (w' := w) (n' := 142) rfl ?_
        refine qG.call (t := 206) (na := 3) (sk := 0) (md := 0) (ls1 := [(0, e), (0, 0), (0, 2)]) (r1 := []) rfl rfl rfl rfl rfl (K_isIn (Nat.zero_le _) _ _ _ _) ?_
        rintro _ w7 _ ⟨rfl, hw7, rfl⟩
        rw [hw7]
        show qG none (d + 1) 283 37 [(2, 95), (0, y), (0, t), (0, g), (0, e), (0, a)] [(0, isInV (e) (0) (2))] w 142 Q9
        refine qG.br (P := isInV (e) (0) (2) = 0) (pc1 := 59) (pc2 := 40) (st1 := []) rfl (fun h4 => ?_) (fun h4 => ?_)
        · skip
          rw [isIn_b] at h4
          refine qG.blk 1 (pc' := 60) (ls' := [(2, 95), (0, y), (0, t), (0, g), (0, e), (0, a)]) (st' := [(0, (-1))]) (w' := w) (n' := 142) rfl ?_
          refine qG.ret rfl rfl ?_
          subst hQ9
          refine ⟨rfl, ?_⟩; first | exact .inl ⟨by unfold nigC; omega, rfl, rfl⟩ | exact .inr ⟨by unfold nigC; omega, rfl, by simp (disch := decide) only [qup_ne, qup_k], (fun k => by (try simp (disch := decide) only [qup_ne, qup_if]) <;> (try rfl)), (fun k => by (try simp (disch := decide) only [qup_ne, qup_if]) <;> (try rfl)), (fun k => by (try simp (disch := decide) only [qup_ne, qup_if]) <;> (try rfl)), (fun k => by (try simp (disch := decide) only [qup_ne, qup_if]) <;> (try rfl)), (fun k => by (try simp (disch := decide) only [qup_ne, qup_if]) <;> (try rfl)), (fun q k h hf => by simp only [List.mem_cons, List.not_mem_nil, or_false, not_or] at h; obtain ⟨h0, h1, h2, h3, h4⟩ := h; simp only [qup_ne h0, qup_ne h1, qup_ne h2, qup_ne h3, qup_ne h4, qup_f hf])⟩
        · skip
          rw [isIn_p] at h4
          refine qG.blk 3 (pc' := 44) (ls' := [(2, 95), (0, y), (0, t), (0, g), (0, e), (0, a)]) (st' := [(0, 2), (0, (-1)), (0, a)]) (w' := w) (n' := 142) rfl ?_
          refine qG.call (t := 206) (na := 3) (sk := 0) (md := 0) (ls1 := [(0, a), (0, (-1)), (0, 2)]) (r1 := []) rfl rfl rfl rfl rfl (K_isIn (Nat.zero_le _) _ _ _ _) ?_
          rintro _ w7 _ ⟨rfl, hw7, rfl⟩
          rw [hw7]
          show qG none (d + 1) 283 47 [(2, 95), (0, y), (0, t), (0, g), (0, e), (0, a)] [(0, isInV (a) ((-1)) (2))] w 142 Q9
          refine qG.br (P := isInV (a) ((-1)) (2) = 0) (pc1 := 59) (pc2 := 50) (st1 := []) rfl (fun h6 => ?_) (fun h6 => ?_)
          · skip
            rw [isIn_b] at h6
            refine qG.blk 1 (pc' := 60) (ls' := [(2, 95), (0, y), (0, t), (0, g), (0, e), (0, a)]) (st' := [(0, (-1))]) (w' := w) (n' := 142) rfl ?_
            refine qG.ret rfl rfl ?_
            subst hQ9
            refine ⟨rfl, ?_⟩; first | exact .inl ⟨by unfold nigC; omega, rfl, rfl⟩ | exact .inr ⟨by unfold nigC; omega, rfl, by simp (disch := decide) only [qup_ne, qup_k], (fun k => by (try simp (disch := decide) only [qup_ne, qup_if]) <;> (try rfl)), (fun k => by (try simp (disch := decide) only [qup_ne, qup_if]) <;> (try rfl)), (fun k => by (try simp (disch := decide) only [qup_ne, qup_if]) <;> (try rfl)), (fun k => by (try simp (disch := decide) only [qup_ne, qup_if]) <;> (try rfl)), (fun k => by (try simp (disch := decide) only [qup_ne, qup_if]) <;> (try rfl)), (fun q k h hf => by simp only [List.mem_cons, List.not_mem_nil, or_false, not_or] at h; obtain ⟨h0, h1, h2, h3, h4⟩ := h; simp only [qup_ne h0, qup_ne h1, qup_ne h2, qup_ne h3, qup_ne h4, qup_f hf])⟩
          · skip
            rw [isIn_p] at h6
            refine qG.blk 2 (pc' := 54) (ls' := [(2, 95), (0, y), (0, t), (0, g), (0, e), (0, a)]) (st' := [(0, w 95 57)]) (w' := w) (n' := 142) rfl ?_
            rw [show w 95 57 = ((n : Nat) : Int) from hn]
            refine qG.blk 1 (pc' := 56) (ls' := [(2, 95), (0, y), (0, t), (0, g), (0, e), (0, a)]) (st' := [(0, 60), (0, ((n : Nat) : Int))]) (w' := w) (n' := 142) rfl ?_
            refine qG.br (P := ((n : Nat) : Int) = 60) (pc1 := 59) (pc2 := 61) (st1 := []) rfl (fun h5 => ?_) (fun h5 => ?_)
            · skip
              refine qG.blk 1 (pc' := 60) (ls' := [(2, 95), (0, y), (0, t), (0, g), (0, e), (0, a)]) (st' := [(0, (-1))]) (w' := w) (n' := 142) rfl ?_
              refine qG.ret rfl rfl ?_
              subst hQ9
              refine ⟨rfl, ?_⟩; first | exact .inl ⟨by unfold nigC; omega, rfl, rfl⟩ | exact .inr ⟨by unfold nigC; omega, rfl, by simp (disch := decide) only [qup_ne, qup_k], (fun k => by (try simp (disch := decide) only [qup_ne, qup_if]) <;> (try rfl)), (fun k => by (try simp (disch := decide) only [qup_ne, qup_if]) <;> (try rfl)), (fun k => by (try simp (disch := decide) only [qup_ne, qup_if]) <;> (try rfl)), (fun k => by (try simp (disch := decide) only [qup_ne, qup_if]) <;> (try rfl)), (fun k => by (try simp (disch := decide) only [qup_ne, qup_if]) <;> (try rfl)), (fun q k h hf => by simp only [List.mem_cons, List.not_mem_nil, or_false, not_or] at h; obtain ⟨h0, h1, h2, h3, h4⟩ := h; simp only [qup_ne h0, qup_ne h1, qup_ne h2, qup_ne h3, qup_ne h4, qup_f hf])⟩
            · skip
              refine qG.blk 2 (pc' := 65) (ls' := [(2, 95), (0, y), (0, t), (0, g), (0, e), (0, a)]) (st' := [(2, w 95 65)]) (w' := w) (n' := 142) rfl ?_
              rw [show w 95 65 = 132 from zref hI rfl rfl]
              refine qG.blk 2 (pc' := 69) (ls' := [(2, 95), (0, y), (0, t), (0, g), (0, e), (0, a)]) (st' := [(0, w 95 57), (2, 132)]) (w' := w) (n' := 142) rfl ?_
              rw [show w 95 57 = ((n : Nat) : Int) from hn]
              refine qG.blk 1 (pc' := 70) (ls' := [(2, 95), (0, y), (0, t), (0, g), (0, e), (0, a)]) (st' := [(0, y), (0, ((n : Nat) : Int)), (2, 132)]) (w' := w) (n' := 142) rfl ?_
              refine qG.ar (P := 0 ≤ ((n : Nat) : Int) ∧ ((n : Nat) : Int) < ((60 : Nat) : Int)) (P2 := 0 < (132 : Int) ∧ (132 : Int) ≤ ((142 : Nat) : Int)) (pc' := 71) (ls' := [(2, 95), (0, y), (0, t), (0, g), (0, e), (0, a)]) (st' := []) (w' := (qup w 132 n y)) (n' := 142) rfl (by omega) (by decide) ?_
              refine qG.blk 2 (pc' := 75) (ls' := [(2, 95), (0, y), (0, t), (0, g), (0, e), (0, a)]) (st' := [(2, w 95 66)]) (w' := (qup w 132 n y)) (n' := 142) rfl ?_
              rw [show w 95 66 = 133 from zref hI rfl rfl]
              refine qG.blk 2 (pc' := 79) (ls' := [(2, 95), (0, y), (0, t), (0, g), (0, e), (0, a)]) (st' := [(0, w 95 57), (2, 133)]) (w' := (qup w 132 n y)) (n' := 142) rfl ?_
              rw [show w 95 57 = ((n : Nat) : Int) from hn]
              refine qG.blk 1 (pc' := 80) (ls' := [(2, 95), (0, y), (0, t), (0, g), (0, e), (0, a)]) (st' := [(0, t), (0, ((n : Nat) : Int)), (2, 133)]) (w' := (qup w 132 n y)) (n' := 142) rfl ?_
              refine qG.ar (P := 0 ≤ ((n : Nat) : Int) ∧ ((n : Nat) : Int) < ((60 : Nat) : Int)) (P2 := 0 < (133 : Int) ∧ (133 : Int) ≤ ((142 : Nat) : Int)) (pc' := 81) (ls' := [(2, 95), (0, y), (0, t), (0, g), (0, e), (0, a)]) (st' := []) (w' := (qup (qup w 132 n y) 133 n t)) (n' := 142) rfl (by omega) (by decide) ?_
              refine qG.blk 2 (pc' := 85) (ls' := [(2, 95), (0, y), (0, t), (0, g), (0, e), (0, a)]) (st' := [(2, w 95 67)]) (w' := (qup (qup w 132 n y) 133 n t)) (n' := 142) rfl ?_
              rw [show w 95 67 = 134 from zref hI rfl rfl]
              refine qG.blk 2 (pc' := 89) (ls' := [(2, 95), (0, y), (0, t), (0, g), (0, e), (0, a)]) (st' := [(0, w 95 57), (2, 134)]) (w' := (qup (qup w 132 n y) 133 n t)) (n' := 142) rfl ?_
              rw [show w 95 57 = ((n : Nat) : Int) from hn]
              refine qG.blk 1 (pc' := 90) (ls' := [(2, 95), (0, y), (0, t), (0, g), (0, e), (0, a)]) (st' := [(0, g), (0, ((n : Nat) : Int)), (2, 134)]) (w' := (qup (qup w 132 n y) 133 n t)) (n' := 142) rfl ?_
              refine qG.ar (P := 0 ≤ ((n : Nat) : Int) ∧ ((n : Nat) : Int) < ((60 : Nat) : Int)) (P2 := 0 < (134 : Int) ∧ (134 : Int) ≤ ((142 : Nat) : Int)) (pc' := 91) (ls' := [(2, 95), (0, y), (0, t), (0, g), (0, e), (0, a)]) (st' := []) (w' := (qup (qup (qup w 132 n y) 133 n t) 134 n g)) (n' := 142) rfl (by omega) (by decide) ?_
              refine qG.blk 2 (pc' := 95) (ls' := [(2, 95), (0, y), (0, t), (0, g), (0, e), (0, a)]) (st' := [(2, w 95 68)]) (w' := (qup (qup (qup w 132 n y) 133 n t) 134 n g)) (n' := 142) rfl ?_
              rw [show w 95 68 = 135 from zref hI rfl rfl]
              refine qG.blk 2 (pc' := 99) (ls' := [(2, 95), (0, y), (0, t), (0, g), (0, e), (0, a)]) (st' := [(0, w 95 57), (2, 135)]) (w' := (qup (qup (qup w 132 n y) 133 n t) 134 n g)) (n' := 142) rfl ?_
              rw [show w 95 57 = ((n : Nat) : Int) from hn]
              refine qG.blk 1 (pc' := 101) (ls' := [(2, 95), (0, y), (0, t), (0, g), (0, e), (0, a)]) (st' := [(0, e), (0, ((n : Nat) : Int)), (2, 135)]) (w' := (qup (qup (qup w 132 n y) 133 n t) 134 n g)) (n' := 142) rfl ?_
              refine qG.ar (P := 0 ≤ ((n : Nat) : Int) ∧ ((n : Nat) : Int) < ((60 : Nat) : Int)) (P2 := 0 < (135 : Int) ∧ (135 : Int) ≤ ((142 : Nat) : Int)) (pc' := 102) (ls' := [(2, 95), (0, y), (0, t), (0, g), (0, e), (0, a)]) (st' := []) (w' := (qup (qup (qup (qup w 132 n y) 133 n t) 134 n g) 135 n e)) (n' := 142) rfl (by omega) (by decide) ?_
              refine qG.blk 2 (pc' := 106) (ls' := [(2, 95), (0, y), (0, t), (0, g), (0, e), (0, a)]) (st' := [(2, w 95 69)]) (w' := (qup (qup (qup (qup w 132 n y) 133 n t) 134 n g) 135 n e)) (n' := 142) rfl ?_
              rw [show w 95 69 = 136 from zref hI rfl rfl]
              refine qG.blk 2 (pc' := 110) (ls' := [(2, 95), (0, y), (0, t), (0, g), (0, e), (0, a)]) (st' := [(0, w 95 57), (2, 136)]) (w' := (qup (qup (qup (qup w 132 n y) 133 n t) 134 n g) 135 n e)) (n' := 142) rfl ?_
              rw [show w 95 57 = ((n : Nat) : Int) from hn]
              refine qG.blk 1 (pc' := 112) (ls' := [(2, 95), (0, y), (0, t), (0, g), (0, e), (0, a)]) (st' := [(0, a), (0, ((n : Nat) : Int)), (2, 136)]) (w' := (qup (qup (qup (qup w 132 n y) 133 n t) 134 n g) 135 n e)) (n' := 142) rfl ?_
              refine qG.ar (P := 0 ≤ ((n : Nat) : Int) ∧ ((n : Nat) : Int) < ((60 : Nat) : Int)) (P2 := 0 < (136 : Int) ∧ (136 : Int) ≤ ((142 : Nat) : Int)) (pc' := 113) (ls' := [(2, 95), (0, y), (0, t), (0, g), (0, e), (0, a)]) (st' := []) (w' := (qup (qup (qup (qup (qup w 132 n y) 133 n t) 134 n g) 135 n e) 136 n a)) (n' := 142) rfl (by omega) (by decide) ?_
              refine qG.blk 3 (pc' := 118) (ls' := [(2, 95), (0, y), (0, t), (0, g), (0, e), (0, a)]) (st' := [(0, w 95 57), (2, 95)]) (w' := (qup (qup (qup (qup (qup w 132 n y) 133 n t) 134 n g) 135 n e) 136 n a)) (n' := 142) rfl ?_
              rw [show w 95 57 = ((n : Nat) : Int) from hn]
              refine qG.blk 2 (pc' := 120) (ls' := [(2, 95), (0, y), (0, t), (0, g), (0, e), (0, a)]) (st' := [(0, wrp (((n : Nat) : Int) + 1)), (2, 95)]) (w' := (qup (qup (qup (qup (qup w 132 n y) 133 n t) 134 n g) 135 n e) 136 n a)) (n' := 142) rfl ?_
              rw [show wrp (((n : Nat) : Int) + 1) = ((n + 1 : Nat) : Int) from by rw [wrp_id (by omega) (by omega)]; omega]
              refine qG.blk 5 (pc' := 129) (ls' := [(2, 95), (0, y), (0, t), (0, g), (0, e), (0, a)]) (st' := [(0, wrp (((n + 1 : Nat) : Int) - 1))]) (w' := (qup (qup (qup (qup (qup (qup w 132 n y) 133 n t) 134 n g) 135 n e) 136 n a) 95 57 ((n + 1 : Nat) : Int))) (n' := 142) rfl ?_
              rw [show wrp (((n + 1 : Nat) : Int) - 1) = ((n : Nat) : Int) from by rw [wrp_id (by omega) (by omega)]; omega]
              refine qG.ret rfl rfl ?_
              subst hQ9
              refine ⟨rfl, ?_⟩; first | exact .inl ⟨by unfold nigC; omega, rfl, rfl⟩ | exact .inr ⟨by unfold nigC; omega, rfl, by simp (disch := decide) only [qup_ne, qup_k], (fun k => by (try simp (disch := decide) only [qup_ne, qup_if]) <;> (try rfl)), (fun k => by (try simp (disch := decide) only [qup_ne, qup_if]) <;> (try rfl)), (fun k => by (try simp (disch := decide) only [qup_ne, qup_if]) <;> (try rfl)), (fun k => by (try simp (disch := decide) only [qup_ne, qup_if]) <;> (try rfl)), (fun k => by (try simp (disch := decide) only [qup_ne, qup_if]) <;> (try rfl)), (fun q k h hf => by simp only [List.mem_cons, List.not_mem_nil, or_false, not_or] at h; obtain ⟨h0, h1, h2, h3, h4⟩ := h; simp only [qup_ne h0, qup_ne h1, qup_ne h2, qup_ne h3, qup_ne h4, qup_f hf])⟩
theorem K_X4_isMaster {d : Nat} (hd : 0 ≤ d) (m : Int) (w : qW) (hI : yInv zgf zga zra zSp w) : qG none d 59 0 [(2, 45), (0, m)] [] w 142 (fun (r : qV) (w1 : qW) (n1 : Nat) => r = (0, isInV m 0 (w 45 0 - 1)) ∧ w1 = w ∧ n1 = 142) := by
  generalize hQ9 : (fun (r : qV) (w1 : qW) (n1 : Nat) => r = (0, isInV m 0 (w 45 0 - 1)) ∧ w1 = w ∧ n1 = 142) = Q9
  have q12 := hI.1 45 0 (0, 12) rfl rfl
  have b12 : w 45 0 ≤ (12 : Int) := q12.2
  refine qG.blk 1 (pc' := 1) (ls' := [(2, 45), (0, m)]) (st' := [(0, m)]) (w' := w) (n' := 142) rfl ?_
  refine qG.br (P := m < 0) (pc1 := 22) (pc2 := 4) (st1 := []) rfl (fun h1 => ?_) (fun h1 => ?_)
  · skip
    refine qG.blk 1 (pc' := 23) (ls' := [(2, 45), (0, m)]) (st' := [(0, 0)]) (w' := w) (n' := 142) rfl ?_
    refine qG.ret rfl (by first | rfl | exact decide_eq_true (by omega)) ?_
    subst hQ9
    exact ⟨by unfold isInV; split <;> (try split) <;> first | rfl | (exfalso; omega), rfl, rfl⟩
  · skip
    refine qG.blk 3 (pc' := 9) (ls' := [(2, 45), (0, m)]) (st' := [(0, w 45 0), (0, m)]) (w' := w) (n' := 142) rfl ?_
    refine qG.br (P := m < w 45 0) (pc1 := 12) (pc2 := 22) (st1 := []) rfl (fun h2 => ?_) (fun h2 => ?_)
    · skip
      refine qG.blk 2 (pc' := 15) (ls' := [(2, 45), (0, m)]) (st' := [(0, 12), (0, m)]) (w' := w) (n' := 142) rfl ?_
      refine qG.br (P := m < 12) (pc1 := 18) (pc2 := 22) (st1 := []) rfl (fun h3 => ?_) (fun h3 => ?_)
      · skip
        refine qG.blk 2 (pc' := 23) (ls' := [(2, 45), (0, m)]) (st' := [(0, 1)]) (w' := w) (n' := 142) rfl ?_
        refine qG.ret rfl (by first | rfl | exact decide_eq_true (by omega)) ?_
        subst hQ9
        exact ⟨by unfold isInV; split <;> (try split) <;> first | rfl | (exfalso; omega), rfl, rfl⟩
      · skip
        refine qG.blk 1 (pc' := 23) (ls' := [(2, 45), (0, m)]) (st' := [(0, 0)]) (w' := w) (n' := 142) rfl ?_
        refine qG.ret rfl (by first | rfl | exact decide_eq_true (by omega)) ?_
        subst hQ9
        exact ⟨by unfold isInV; split <;> (try split) <;> first | rfl | (exfalso; omega), rfl, rfl⟩
    · skip
      refine qG.blk 1 (pc' := 23) (ls' := [(2, 45), (0, m)]) (st' := [(0, 0)]) (w' := w) (n' := 142) rfl ?_
      refine qG.ret rfl (by first | rfl | exact decide_eq_true (by omega)) ?_
      subst hQ9
      exact ⟨by unfold isInV; split <;> (try split) <;> first | rfl | (exfalso; omega), rfl, rfl⟩
noncomputable def JN (w : qW) : Prop := w 45 0 = w 95 55 ∧ w 45 7 = w 95 57 ∧ (∀ k, w 46 k = w 125 k) ∧ (∀ k, w 47 k = w 126 k) ∧ (∀ k, w 48 k = w 127 k) ∧ (∀ k, w 51 k = w 132 k) ∧ (∀ k, w 52 k = w 133 k) ∧ (∀ k, w 53 k = w 134 k) ∧ (∀ k, w 54 k = w 135 k) ∧ (∀ k, w 55 k = w 136 k)
noncomputable def jnM (m : List Nat) : Bool := spo m 46 && (spo m 47 && (spo m 48 && (spo m 51 && (spo m 52 && (spo m 53 && (spo m 54 && (spo m 55 && (spo m 125 && (spo m 126 && (spo m 127 && (spo m 132 && (spo m 133 && (spo m 134 && (spo m 135 && (spo m 136 && (!ymo 45 0 m && (!ymo 45 7 m && (!ymo 95 55 m && (!ymo 95 57 m)))))))))))))))))))
theorem JN.aw {m : List Nat} {w w1 : qW} (h : JN w) (a : AW m w w1) (hm : jnM m = true) : JN w1 := by
  unfold jnM at hm
  simp only [Bool.and_eq_true, Bool.not_eq_true'] at hm
  obtain ⟨m0, m1, m2, m3, m4, m5, m6, m7, m8, m9, m10, m11, m12, m13, m14, m15, m16, m17, m18, m19⟩ := hm
  refine ⟨?_, ?_, fun k => ?_, fun k => ?_, fun k => ?_, fun k => ?_, fun k => ?_, fun k => ?_, fun k => ?_, fun k => ?_⟩
  · rw [a.2 45 0 (fun _ => m16), a.2 95 55 (fun _ => m18)]; exact h.1
  · rw [a.2 45 7 (fun _ => m17), a.2 95 57 (fun _ => m19)]; exact h.2.1
  · rw [a.a (by decide) m0, a.a (by decide) m8]; exact h.2.2.1 k
  · rw [a.a (by decide) m1, a.a (by decide) m9]; exact h.2.2.2.1 k
  · rw [a.a (by decide) m2, a.a (by decide) m10]; exact h.2.2.2.2.1 k
  · rw [a.a (by decide) m3, a.a (by decide) m11]; exact h.2.2.2.2.2.1 k
  · rw [a.a (by decide) m4, a.a (by decide) m12]; exact h.2.2.2.2.2.2.1 k
  · rw [a.a (by decide) m5, a.a (by decide) m13]; exact h.2.2.2.2.2.2.2.1 k
  · rw [a.a (by decide) m6, a.a (by decide) m14]; exact h.2.2.2.2.2.2.2.2.1 k
  · rw [a.a (by decide) m7, a.a (by decide) m15]; exact h.2.2.2.2.2.2.2.2.2 k
theorem JN.master {w w1 w2 : qW} {s g a b : Int} {n : Nat} {r r2 : qV} (h : JN w) (hX : masE 45 0 46 47 48 [46, 47, 48] s g a b n w r w1) (hR : masE 95 55 125 126 127 [125, 126, 127, 128] s g a b n w1 r2 w2) : JN w2 ∧ r = r2 := by
  rcases hX with ⟨c1, rfl, rfl⟩ | ⟨c1, rfl, t1, x0, x1, x2, s1⟩ <;> rcases hR with ⟨c2, rfl, rfl⟩ | ⟨c2, rfl, t2, y0, y1, y2, s2⟩
  · exact ⟨h, rfl⟩
  · exact absurd c2 c1
  · exact absurd c1 c2
  · refine ⟨⟨?_, ?_, fun k => ?_, fun k => ?_, fun k => ?_, fun k => ?_, fun k => ?_, fun k => ?_, fun k => ?_, fun k => ?_⟩, rfl⟩
    · rw [s2 45 0 (by decide) (fun z => by cases z.1), t1, t2]
    · rw [s2 45 7 (by decide) (fun z => by cases z.1), s1 45 7 (by decide) (fun z => by cases z.2), s2 95 57 (by decide) (fun z => by cases z.2), s1 95 57 (by decide) (fun z => by cases z.1)]; exact h.2.1
    · rw [s2 46 k (by decide) (fun z => by cases z.1), x0 k, y0 k, s1 125 k (by decide) (fun z => by cases z.1), h.2.2.1 k]
    · rw [s2 47 k (by decide) (fun z => by cases z.1), x1 k, y1 k, s1 126 k (by decide) (fun z => by cases z.1), h.2.2.2.1 k]
    · rw [s2 48 k (by decide) (fun z => by cases z.1), x2 k, y2 k, s1 127 k (by decide) (fun z => by cases z.1), h.2.2.2.2.1 k]
    · rw [s2 51 k (by decide) (fun z => by cases z.1), s1 51 k (by decide) (fun z => by cases z.1), s2 132 k (by decide) (fun z => by cases z.1), s1 132 k (by decide) (fun z => by cases z.1)]; exact h.2.2.2.2.2.1 k
    · rw [s2 52 k (by decide) (fun z => by cases z.1), s1 52 k (by decide) (fun z => by cases z.1), s2 133 k (by decide) (fun z => by cases z.1), s1 133 k (by decide) (fun z => by cases z.1)]; exact h.2.2.2.2.2.2.1 k
    · rw [s2 53 k (by decide) (fun z => by cases z.1), s1 53 k (by decide) (fun z => by cases z.1), s2 134 k (by decide) (fun z => by cases z.1), s1 134 k (by decide) (fun z => by cases z.1)]; exact h.2.2.2.2.2.2.2.1 k
    · rw [s2 54 k (by decide) (fun z => by cases z.1), s1 54 k (by decide) (fun z => by cases z.1), s2 135 k (by decide) (fun z => by cases z.1), s1 135 k (by decide) (fun z => by cases z.1)]; exact h.2.2.2.2.2.2.2.2.1 k
    · rw [s2 55 k (by decide) (fun z => by cases z.1), s1 55 k (by decide) (fun z => by cases z.1), s2 136 k (by decide) (fun z => by cases z.1), s1 136 k (by decide) (fun z => by cases z.1)]; exact h.2.2.2.2.2.2.2.2.2 k
theorem JN.night {w w1 w2 : qW} {y t g e a : Int} {n : Nat} {r r2 : qV} (h : JN w) (hX : nigE 45 7 51 52 53 54 55 y t g e a n w r w1) (hR : nigE 95 57 132 133 134 135 136 y t g e a n w1 r2 w2) : JN w2 ∧ r = r2 := by
  rcases hX with ⟨c1, rfl, rfl⟩ | ⟨c1, rfl, t1, x0, x1, x2, x3, x4, s1⟩ <;> rcases hR with ⟨c2, rfl, rfl⟩ | ⟨c2, rfl, t2, y0, y1, y2, y3, y4, s2⟩
  · exact ⟨h, rfl⟩
  · exact absurd c2 c1
  · exact absurd c1 c2
  · refine ⟨⟨?_, ?_, fun k => ?_, fun k => ?_, fun k => ?_, fun k => ?_, fun k => ?_, fun k => ?_, fun k => ?_, fun k => ?_⟩, rfl⟩
    · rw [s2 45 0 (by decide) (fun z => by cases z.1), s1 45 0 (by decide) (fun z => by cases z.2), s2 95 55 (by decide) (fun z => by cases z.2), s1 95 55 (by decide) (fun z => by cases z.1)]; exact h.1
    · rw [s2 45 7 (by decide) (fun z => by cases z.1), t1, t2]
    · rw [s2 46 k (by decide) (fun z => by cases z.1), s1 46 k (by decide) (fun z => by cases z.1), s2 125 k (by decide) (fun z => by cases z.1), s1 125 k (by decide) (fun z => by cases z.1)]; exact h.2.2.1 k
    · rw [s2 47 k (by decide) (fun z => by cases z.1), s1 47 k (by decide) (fun z => by cases z.1), s2 126 k (by decide) (fun z => by cases z.1), s1 126 k (by decide) (fun z => by cases z.1)]; exact h.2.2.2.1 k
    · rw [s2 48 k (by decide) (fun z => by cases z.1), s1 48 k (by decide) (fun z => by cases z.1), s2 127 k (by decide) (fun z => by cases z.1), s1 127 k (by decide) (fun z => by cases z.1)]; exact h.2.2.2.2.1 k
    · rw [s2 51 k (by decide) (fun z => by cases z.1), x0 k, y0 k, s1 132 k (by decide) (fun z => by cases z.1), h.2.2.2.2.2.1 k]
    · rw [s2 52 k (by decide) (fun z => by cases z.1), x1 k, y1 k, s1 133 k (by decide) (fun z => by cases z.1), h.2.2.2.2.2.2.1 k]
    · rw [s2 53 k (by decide) (fun z => by cases z.1), x2 k, y2 k, s1 134 k (by decide) (fun z => by cases z.1), h.2.2.2.2.2.2.2.1 k]
    · rw [s2 54 k (by decide) (fun z => by cases z.1), x3 k, y3 k, s1 135 k (by decide) (fun z => by cases z.1), h.2.2.2.2.2.2.2.2.1 k]
    · rw [s2 55 k (by decide) (fun z => by cases z.1), x4 k, y4 k, s1 136 k (by decide) (fun z => by cases z.1), h.2.2.2.2.2.2.2.2.2 k]
end
section
/-! what alone answers -/
noncomputable def anF (H O : Nat → Int) (v : Int) : Nat → Int
  | 0 => -1
  | k + 1 => if H k = v then O k else anF H O v k
noncomputable def okM (H O G : Nat → Int) (c i : Nat) : Prop := anF H O (G (2 * i)) c = G (2 * i + 1)
/-- n moves of his own were answered as told, and the next was not -/
noncomputable def plS (H O G : Nat → Int) (c M n : Nat) : Prop := (∀ i, i < n → 2 * i + 1 < M ∧ okM H O G c i) ∧ ¬ (2 * n + 1 < M ∧ okM H O G c n)
theorem plS.eq {H O G : Nat → Int} {c M n m : Nat} (h : plS H O G c M n) (h2 : plS H O G c M m) : n = m := by
  rcases Nat.lt_trichotomy n m with q | q | q
  · exact absurd (h2.1 n q) h.2
  · exact q
  · exact absurd (h.1 m q) h2.2
noncomputable def alE (H O G : Nat → Int) (c M : Nat) (v : Int) (r : qV) : Prop := (¬ (0 ≤ v ∧ v ≤ 2) ∧ r = (0, -1)) ∨ (v = 2 ∧ r = (0, (M : Int))) ∨ ((v = 0 ∨ v = 1) ∧ ∃ n : Nat, plS H O G c M n ∧ r = (0, if v = 0 then (n : Int) else if n = M / 2 then 1 else 0))
theorem alE.eq {H O G : Nat → Int} {c M : Nat} {v : Int} {r r2 : qV} (h : alE H O G c M v r) (h2 : alE H O G c M v r2) : r = r2 := by
  rcases h with ⟨a, rfl⟩ | ⟨a, rfl⟩ | ⟨a, n, hn, rfl⟩ <;> rcases h2 with ⟨b, rfl⟩ | ⟨b, rfl⟩ | ⟨b, m, hm, rfl⟩ <;> first | rfl | (exfalso; omega) | (rw [hn.eq hm])
end
section
/-! what first answers -/
theorem ush32 : ∀ s : Nat, s < 32 → (((Int32.ofInt (s : Int)).toUInt32 &&& Int32.toUInt32 31).toBitVec % 32).toNat = s := by decide +kernel
theorem ush_b {x : Int} {s : Nat} (hs : s < 32) : qand (qush x (s : Int)) 1 = if hbit x s = true then 1 else 0 := by
  rw [hbit_b hs]
  unfold qand qush
  rw [Int32.ofInt_toInt]
  have e : ((Int32.ofInt x).toUInt32 >>> ((Int32.ofInt (s : Int)).toUInt32 &&& Int32.toUInt32 31)).toInt32.toBitVec.getLsbD 0 = (Int32.ofInt x).toBitVec.getLsbD s := by
    show ((Int32.ofInt x).toUInt32 >>> ((Int32.ofInt (s : Int)).toUInt32 &&& Int32.toUInt32 31)).toBitVec.getLsbD 0 = _
    rw [UInt32.toBitVec_shiftRight, BitVec.ushiftRight_eq', ush32 s hs, BitVec.getLsbD_ushiftRight]
    rfl
  rw [← e]
  generalize ((Int32.ofInt x).toUInt32 >>> ((Int32.ofInt (s : Int)).toUInt32 &&& Int32.toUInt32 31)).toInt32 = z
  have h2 : (z &&& Int32.ofInt 1).toBitVec = if z.toBitVec.getLsbD 0 = true then 1#32 else 0#32 := by
    rw [Int32.toBitVec_and]
    apply BitVec.eq_of_getLsbD_eq
    intro i hi
    rw [BitVec.getLsbD_and]
    have h3 : (Int32.ofInt 1).toBitVec = 1#32 := rfl
    rw [h3, BitVec.getLsbD_one]
    by_cases hi0 : i = 0
    · subst hi0; cases z.toBitVec.getLsbD 0 <;> simp
    · cases z.toBitVec.getLsbD 0 <;> simp [hi0, BitVec.getLsbD_one]
  show (z &&& Int32.ofInt 1).toBitVec.toInt = _
  rw [h2]
  split <;> rfl
end
section
/-! the library's count of bits is the sum of the bits -/
theorem hb_n {n j : Nat} (hn : n < 2147483648) (hj : j < 32) : qand (qshr (n : Int) (j : Int)) 1 = ((n / 2 ^ j % 2 : Nat) : Int) := by
  have h2 : n / 2 ^ j ≤ n := Nat.div_le_self _ _
  have h1 : qshr (n : Int) (j : Int) = ((n / 2 ^ j : Nat) : Int) := by
    unfold qshr
    rw [yofn (x := (n : Int)) (by omega) (by omega), yofn (x := (j : Int)) (by omega) (by omega), Int.toNat_natCast, Int.toNat_natCast, yb_shr (by omega) (by omega)]
    rw [nI_toInt (by omega)]
  rw [h1]
  have h3 : qand ((n / 2 ^ j : Nat) : Int) 1 = ((n / 2 ^ j &&& 1 : Nat) : Int) := qand_n (a := n / 2 ^ j) (b := 1) (by omega) (by omega)
  rw [h3, Nat.and_one_is_mod]
end
section
/-! what story answers -/
theorem AW.nil {w w1 : qW} (h : AW [] w w1) : w1 = w := funext (fun p => funext (fun j => h.2 p j (fun _ => rfl)))
end
section
/-! where masters were told to have been, on both sides -/
noncomputable def wasC (m t y M : Int) (n : Nat) : Prop := (0 ≤ m ∧ m < M) ∧ (0 ≤ t ∧ t ≤ 9) ∧ (0 ≤ y ∧ y ≤ 99) ∧ n < 200
noncomputable def wasX (m t y : Int) (n : Nat) (w : qW) (r : qV) (w1 : qW) : Prop := (¬ wasC m t y (w 45 0) n ∧ r = (0, 0) ∧ w1 = w) ∨ (wasC m t y (w 45 0) n ∧ ∃ m9 t9 y9 : Nat, m = (m9 : Int) ∧ t = (t9 : Int) ∧ y = (y9 : Int) ∧ ((hbit (w 50 (m9 * 100 + y9)) t9 = true ∧ r = (0, 0) ∧ w1 = w) ∨ (¬ hbit (w 50 (m9 * 100 + y9)) t9 = true ∧ r = (0, 1) ∧ w1 = qup (qup w 50 (m9 * 100 + y9) (qor (w 50 (m9 * 100 + y9)) (qshl 1 ((t9 : Nat) : Int)))) 45 6 ((n + 1 : Nat) : Int))))
noncomputable def wasK (m t y : Int) (n : Nat) (w : qW) : Prop := ∃ k : Nat, k < n ∧ w 129 k = m ∧ w 130 k = t ∧ w 131 k = y
noncomputable def wasR (m t y : Int) (n : Nat) (w : qW) (r : qV) (w1 : qW) : Prop := (¬ wasC m t y (w 95 55) n ∧ r = (0, 0) ∧ w1 = w) ∨ (wasC m t y (w 95 55) n ∧ ((wasK m t y n w ∧ r = (0, 0) ∧ w1 = w) ∨ (¬ wasK m t y n w ∧ r = (0, 1) ∧ w1 = qup (qup (qup (qup w 129 n m) 130 n t) 131 n y) 95 56 ((n + 1 : Nat) : Int))))
theorem K_tellStay {d : Nat} (hd : 1 ≤ d) (m t y : Int) (n : Nat) (hn9 : n ≤ 200) (w : qW) (hI : yInv zgf zga zra zSp w) (hn : w 45 6 = (n : Int)) : qG none d 62 0 [(2, 45), (0, m), (0, t), (0, y), (9, 0)] [] w 142 (fun (r : qV) (w1 : qW) (n1 : Nat) => n1 = 142 ∧ wasX m t y n w r w1) := by
  generalize hQ9 : (fun (r : qV) (w1 : qW) (n1 : Nat) => n1 = 142 ∧ wasX m t y n w r w1) = Q9
  have q12 := hI.1 45 0 (0, 12) rfl rfl
  have b12 : w 45 0 ≤ (12 : Int) := q12.2
  obtain ⟨N6, hN6⟩ : ∃ N : Int, N = 200 := ⟨_, rfl⟩
  obtain ⟨d, rfl⟩ : ∃ d9, d = d9 + 1 := ⟨d - 1, by omega⟩
  refine qG.blk 2 (pc' := 2) (ls' := [(2, 45), (0, m), (0, t), (0, y), (9, 0)]) (st' := [(0, m), (2, 45)]) (w' := w) (n' := 142) rfl ?_
  refine qG.call (t := 59) (na := 2) (sk := 1) (md := 1) (ls1 := [(2, 45), (0, m)]) (r1 := []) rfl rfl rfl rfl rfl (K_X4_isMaster (Nat.zero_le _) m w hI) ?_
  rintro _ w7 _ ⟨rfl, hw7, rfl⟩
  rw [hw7]
  show qG none (d + 1) 62 5 [(2, 45), (0, m), (0, t), (0, y), (9, 0)] [(0, isInV m 0 (w 45 0 - 1))] w 142 Q9
  refine qG.br (P := isInV m 0 (w 45 0 - 1) = 0) (pc1 := 32) (pc2 := 8) (st1 := []) rfl (fun h1 => ?_) (fun h1 => ?_)
  · skip
    rw [isIn_b] at h1
    refine qG.blk 1 (pc' := 33) (ls' := [(2, 45), (0, m), (0, t), (0, y), (9, 0)]) (st' := [(0, 0)]) (w' := w) (n' := 142) rfl ?_
    refine qG.ret rfl (by first | rfl | exact decide_eq_true (by omega)) ?_
    subst hQ9
    refine ⟨rfl, ?_⟩; first | exact .inl ⟨by unfold wasC; omega, rfl, rfl⟩ | exact .inr ⟨by unfold wasC; omega, m9, t9, y9, rfl, rfl, rfl, .inl ⟨hb, rfl, rfl⟩⟩ | exact .inr ⟨by unfold wasC; omega, m9, t9, y9, rfl, rfl, rfl, .inr ⟨hb, rfl, rfl⟩⟩
  · skip
    rw [isIn_p] at h1
    obtain ⟨m9, rfl⟩ : ∃ q : Nat, m = (q : Int) := ⟨m.toNat, by omega⟩
    refine qG.blk 1 (pc' := 9) (ls' := [(2, 45), (0, ((m9 : Nat) : Int)), (0, t), (0, y), (9, 0)]) (st' := [(0, t)]) (w' := w) (n' := 142) rfl ?_
    refine qG.call (t := 56) (na := 1) (sk := 0) (md := 0) (ls1 := [(0, t)]) (r1 := []) rfl rfl rfl rfl rfl (K_X4_isTown (Nat.zero_le _) _ _) ?_
    rintro _ w7 _ ⟨rfl, hw7, rfl⟩
    rw [hw7]
    show qG none (d + 1) 62 12 [(2, 45), (0, ((m9 : Nat) : Int)), (0, t), (0, y), (9, 0)] [(0, isInV t 0 9)] w 142 Q9
    refine qG.br (P := isInV t 0 9 = 0) (pc1 := 32) (pc2 := 15) (st1 := []) rfl (fun h2 => ?_) (fun h2 => ?_)
    · skip
      rw [isIn_b] at h2
      refine qG.blk 1 (pc' := 33) (ls' := [(2, 45), (0, ((m9 : Nat) : Int)), (0, t), (0, y), (9, 0)]) (st' := [(0, 0)]) (w' := w) (n' := 142) rfl ?_
      refine qG.ret rfl (by first | rfl | exact decide_eq_true (by omega)) ?_
      subst hQ9
      refine ⟨rfl, ?_⟩; first | exact .inl ⟨by unfold wasC; omega, rfl, rfl⟩ | exact .inr ⟨by unfold wasC; omega, m9, t9, y9, rfl, rfl, rfl, .inl ⟨hb, rfl, rfl⟩⟩ | exact .inr ⟨by unfold wasC; omega, m9, t9, y9, rfl, rfl, rfl, .inr ⟨hb, rfl, rfl⟩⟩
    · skip
      rw [isIn_p] at h2
      obtain ⟨t9, rfl⟩ : ∃ q : Nat, t = (q : Int) := ⟨t.toNat, by omega⟩
      refine qG.blk 1 (pc' := 16) (ls' := [(2, 45), (0, ((m9 : Nat) : Int)), (0, ((t9 : Nat) : Int)), (0, y), (9, 0)]) (st' := [(0, y)]) (w' := w) (n' := 142) rfl ?_
      refine qG.call (t := 55) (na := 1) (sk := 0) (md := 0) (ls1 := [(0, y)]) (r1 := []) rfl rfl rfl rfl rfl (K_X4_isYear (Nat.zero_le _) _ _) ?_
      rintro _ w7 _ ⟨rfl, hw7, rfl⟩
      rw [hw7]
      show qG none (d + 1) 62 19 [(2, 45), (0, ((m9 : Nat) : Int)), (0, ((t9 : Nat) : Int)), (0, y), (9, 0)] [(0, isInV y 0 99)] w 142 Q9
      refine qG.br (P := isInV y 0 99 = 0) (pc1 := 32) (pc2 := 22) (st1 := []) rfl (fun h3 => ?_) (fun h3 => ?_)
      · skip
        rw [isIn_b] at h3
        refine qG.blk 1 (pc' := 33) (ls' := [(2, 45), (0, ((m9 : Nat) : Int)), (0, ((t9 : Nat) : Int)), (0, y), (9, 0)]) (st' := [(0, 0)]) (w' := w) (n' := 142) rfl ?_
        refine qG.ret rfl (by first | rfl | exact decide_eq_true (by omega)) ?_
        subst hQ9
        refine ⟨rfl, ?_⟩; first | exact .inl ⟨by unfold wasC; omega, rfl, rfl⟩ | exact .inr ⟨by unfold wasC; omega, m9, t9, y9, rfl, rfl, rfl, .inl ⟨hb, rfl, rfl⟩⟩ | exact .inr ⟨by unfold wasC; omega, m9, t9, y9, rfl, rfl, rfl, .inr ⟨hb, rfl, rfl⟩⟩
      · skip
        rw [isIn_p] at h3
        obtain ⟨y9, rfl⟩ : ∃ q : Nat, y = (q : Int) := ⟨y.toNat, by omega⟩
        refine qG.blk 2 (pc' := 26) (ls' := [(2, 45), (0, ((m9 : Nat) : Int)), (0, ((t9 : Nat) : Int)), (0, ((y9 : Nat) : Int)), (9, 0)]) (st' := [(0, w 45 6)]) (w' := w) (n' := 142) rfl ?_
        rw [show w 45 6 = ((n : Nat) : Int) from hn]
        refine qG.blk 1 (pc' := 29) (ls' := [(2, 45), (0, ((m9 : Nat) : Int)), (0, ((t9 : Nat) : Int)), (0, ((y9 : Nat) : Int)), (9, 0)]) (st' := [(0, 200), (0, ((n : Nat) : Int))]) (w' := w) (n' := 142) rfl ?_
        rw [show (200 : Int) = N6 from hN6.symm]
        refine qG.br (P := ((n : Nat) : Int) < N6) (pc1 := 34) (pc2 := 32) (st1 := []) rfl (fun h4 => ?_) (fun h4 => ?_)
        · skip
          refine qG.blk 3 (pc' := 38) (ls' := [(2, 45), (0, ((m9 : Nat) : Int)), (0, ((t9 : Nat) : Int)), (0, ((y9 : Nat) : Int)), (9, 0)]) (st' := [(0, wrp (((m9 : Nat) : Int) * 100))]) (w' := w) (n' := 142) rfl ?_
          rw [show wrp (((m9 : Nat) : Int) * 100) = ((m9 * 100 : Nat) : Int) from by rw [wrp_id (by omega) (by omega)]; omega]
          refine qG.blk 2 (pc' := 40) (ls' := [(2, 45), (0, ((m9 : Nat) : Int)), (0, ((t9 : Nat) : Int)), (0, ((y9 : Nat) : Int)), (9, 0)]) (st' := [(0, wrp (((m9 * 100 : Nat) : Int) + ((y9 : Nat) : Int)))]) (w' := w) (n' := 142) rfl ?_
          rw [show wrp (((m9 * 100 : Nat) : Int) + ((y9 : Nat) : Int)) = ((m9 * 100 + y9 : Nat) : Int) from by rw [wrp_id (by omega) (by omega)]; omega]
          refine qG.blk 3 (pc' := 46) (ls' := [(2, 45), (0, ((m9 : Nat) : Int)), (0, ((t9 : Nat) : Int)), (0, ((y9 : Nat) : Int)), (0, ((m9 * 100 + y9 : Nat) : Int))]) (st' := [(2, w 45 5)]) (w' := w) (n' := 142) rfl ?_
          rw [show w 45 5 = 50 from zref hI rfl rfl]
          refine qG.blk 1 (pc' := 48) (ls' := [(2, 45), (0, ((m9 : Nat) : Int)), (0, ((t9 : Nat) : Int)), (0, ((y9 : Nat) : Int)), (0, ((m9 * 100 + y9 : Nat) : Int))]) (st' := [(0, ((m9 * 100 + y9 : Nat) : Int)), (2, 50)]) (w' := w) (n' := 142) rfl ?_
          refine qG.ild (m := 1200) rfl rfl (by omega) (by decide) ?_
          show qG none (d + 1) 62 49 [(2, 45), (0, ((m9 : Nat) : Int)), (0, ((t9 : Nat) : Int)), (0, ((y9 : Nat) : Int)), (0, ((m9 * 100 + y9 : Nat) : Int))] [(0, w 50 (m9 * 100 + y9))] w 142 Q9
          refine qG.blk 4 (pc' := 53) (ls' := [(2, 45), (0, ((m9 : Nat) : Int)), (0, ((t9 : Nat) : Int)), (0, ((y9 : Nat) : Int)), (0, ((m9 * 100 + y9 : Nat) : Int))]) (st' := [(0, qand (qush (w 50 (m9 * 100 + y9)) ((t9 : Nat) : Int)) 1)]) (w' := w) (n' := 142) rfl ?_
          rw [show qand (qush (w 50 (m9 * 100 + y9)) ((t9 : Nat) : Int)) 1 = (if hbit (w 50 (m9 * 100 + y9)) t9 = true then 1 else 0) from ush_b (by omega)]
          refine qG.br (P := (if hbit (w 50 (m9 * 100 + y9)) t9 = true then 1 else 0) = 0) (pc1 := 58) (pc2 := 56) (st1 := []) rfl (fun hb9 => ?_) (fun hb9 => ?_)
          · skip
            have hb : ¬ hbit (w 50 (m9 * 100 + y9)) t9 = true := ite01.mp hb9
            refine qG.blk 2 (pc' := 62) (ls' := [(2, 45), (0, ((m9 : Nat) : Int)), (0, ((t9 : Nat) : Int)), (0, ((y9 : Nat) : Int)), (0, ((m9 * 100 + y9 : Nat) : Int))]) (st' := [(2, w 45 5)]) (w' := w) (n' := 142) rfl ?_
            rw [show w 45 5 = 50 from zref hI rfl rfl]
            refine qG.blk 2 (pc' := 65) (ls' := [(2, 45), (0, ((m9 : Nat) : Int)), (0, ((t9 : Nat) : Int)), (0, ((y9 : Nat) : Int)), (0, ((m9 * 100 + y9 : Nat) : Int))]) (st' := [(0, ((m9 * 100 + y9 : Nat) : Int)), (2, 50), (0, ((m9 * 100 + y9 : Nat) : Int)), (2, 50)]) (w' := w) (n' := 142) rfl ?_
            refine qG.ild (m := 1200) rfl rfl (by omega) (by decide) ?_
            show qG none (d + 1) 62 66 [(2, 45), (0, ((m9 : Nat) : Int)), (0, ((t9 : Nat) : Int)), (0, ((y9 : Nat) : Int)), (0, ((m9 * 100 + y9 : Nat) : Int))] [(0, w 50 (m9 * 100 + y9)), (0, ((m9 * 100 + y9 : Nat) : Int)), (2, 50)] w 142 Q9
            refine qG.blk 4 (pc' := 70) (ls' := [(2, 45), (0, ((m9 : Nat) : Int)), (0, ((t9 : Nat) : Int)), (0, ((y9 : Nat) : Int)), (0, ((m9 * 100 + y9 : Nat) : Int))]) (st' := [(0, qor (w 50 (m9 * 100 + y9)) (qshl 1 ((t9 : Nat) : Int))), (0, ((m9 * 100 + y9 : Nat) : Int)), (2, 50)]) (w' := w) (n' := 142) rfl ?_
            refine qG.ist (m := 1200) rfl rfl (by omega) (by decide) ?_
            show qG none (d + 1) 62 71 [(2, 45), (0, ((m9 : Nat) : Int)), (0, ((t9 : Nat) : Int)), (0, ((y9 : Nat) : Int)), (0, ((m9 * 100 + y9 : Nat) : Int))] [] (qup w 50 (m9 * 100 + y9) (qor (w 50 (m9 * 100 + y9)) (qshl 1 ((t9 : Nat) : Int)))) 142 Q9
            refine qG.blk 3 (pc' := 76) (ls' := [(2, 45), (0, ((m9 : Nat) : Int)), (0, ((t9 : Nat) : Int)), (0, ((y9 : Nat) : Int)), (0, ((m9 * 100 + y9 : Nat) : Int))]) (st' := [(0, w 45 6), (2, 45)]) (w' := (qup w 50 (m9 * 100 + y9) (qor (w 50 (m9 * 100 + y9)) (qshl 1 ((t9 : Nat) : Int))))) (n' := 142) rfl ?_
            rw [show w 45 6 = ((n : Nat) : Int) from hn]
            refine qG.blk 2 (pc' := 78) (ls' := [(2, 45), (0, ((m9 : Nat) : Int)), (0, ((t9 : Nat) : Int)), (0, ((y9 : Nat) : Int)), (0, ((m9 * 100 + y9 : Nat) : Int))]) (st' := [(0, wrp (((n : Nat) : Int) + 1)), (2, 45)]) (w' := (qup w 50 (m9 * 100 + y9) (qor (w 50 (m9 * 100 + y9)) (qshl 1 ((t9 : Nat) : Int))))) (n' := 142) rfl ?_
            rw [show wrp (((n : Nat) : Int) + 1) = ((n + 1 : Nat) : Int) from by rw [wrp_id (by omega) (by omega)]; omega]
            refine qG.blk 2 (pc' := 82) (ls' := [(2, 45), (0, ((m9 : Nat) : Int)), (0, ((t9 : Nat) : Int)), (0, ((y9 : Nat) : Int)), (0, ((m9 * 100 + y9 : Nat) : Int))]) (st' := [(0, 1)]) (w' := (qup (qup w 50 (m9 * 100 + y9) (qor (w 50 (m9 * 100 + y9)) (qshl 1 ((t9 : Nat) : Int)))) 45 6 ((n + 1 : Nat) : Int))) (n' := 142) rfl ?_
            refine qG.ret rfl (by first | rfl | exact decide_eq_true (by omega)) ?_
            subst hQ9
            refine ⟨rfl, ?_⟩; first | exact .inl ⟨by unfold wasC; omega, rfl, rfl⟩ | exact .inr ⟨by unfold wasC; omega, m9, t9, y9, rfl, rfl, rfl, .inl ⟨hb, rfl, rfl⟩⟩ | exact .inr ⟨by unfold wasC; omega, m9, t9, y9, rfl, rfl, rfl, .inr ⟨hb, rfl, rfl⟩⟩
          · skip
            have hb : hbit (w 50 (m9 * 100 + y9)) t9 = true := Decidable.of_not_not (fun z => hb9 (ite01.mpr z))
            refine qG.blk 1 (pc' := 57) (ls' := [(2, 45), (0, ((m9 : Nat) : Int)), (0, ((t9 : Nat) : Int)), (0, ((y9 : Nat) : Int)), (0, ((m9 * 100 + y9 : Nat) : Int))]) (st' := [(0, 0)]) (w' := w) (n' := 142) rfl ?_
            refine qG.ret rfl (by first | rfl | exact decide_eq_true (by omega)) ?_
            subst hQ9
            refine ⟨rfl, ?_⟩; first | exact .inl ⟨by unfold wasC; omega, rfl, rfl⟩ | exact .inr ⟨by unfold wasC; omega, m9, t9, y9, rfl, rfl, rfl, .inl ⟨hb, rfl, rfl⟩⟩ | exact .inr ⟨by unfold wasC; omega, m9, t9, y9, rfl, rfl, rfl, .inr ⟨hb, rfl, rfl⟩⟩
        · skip
          refine qG.blk 1 (pc' := 33) (ls' := [(2, 45), (0, ((m9 : Nat) : Int)), (0, ((t9 : Nat) : Int)), (0, ((y9 : Nat) : Int)), (9, 0)]) (st' := [(0, 0)]) (w' := w) (n' := 142) rfl ?_
          refine qG.ret rfl (by first | rfl | exact decide_eq_true (by omega)) ?_
          subst hQ9
          refine ⟨rfl, ?_⟩; first | exact .inl ⟨by unfold wasC; omega, rfl, rfl⟩ | exact .inr ⟨by unfold wasC; omega, m9, t9, y9, rfl, rfl, rfl, .inl ⟨hb, rfl, rfl⟩⟩ | exact .inr ⟨by unfold wasC; omega, m9, t9, y9, rfl, rfl, rfl, .inr ⟨hb, rfl, rfl⟩⟩
theorem K_X11_was {d : Nat} (hd : 2 ≤ d) (m t y : Int) (n : Nat) (hn9 : n ≤ 200) (w : qW) (hI : yInv zgf zga zra zSp w) (hn : w 45 6 = (n : Int)) : qG none d 186 0 [(2, 1), (0, m), (0, t), (0, y)] [] w 142 (fun (r : qV) (w1 : qW) (n1 : Nat) => n1 = 142 ∧ wasX m t y n w r w1) := by
  generalize hQ9 : (fun (r : qV) (w1 : qW) (n1 : Nat) => n1 = 142 ∧ wasX m t y n w r w1) = Q9
  obtain ⟨d, rfl⟩ : ∃ d9, d = d9 + 1 := ⟨d - 1, by omega⟩
  refine qG.blk 2 (pc' := 4) (ls' := [(2, 1), (0, m), (0, t), (0, y)]) (st' := [(2, w 1 7)]) (w' := w) (n' := 142) rfl ?_
  rw [show w 1 7 = 45 from zref hI rfl rfl]
  refine qG.blk 3 (pc' := 7) (ls' := [(2, 1), (0, m), (0, t), (0, y)]) (st' := [(0, y), (0, t), (0, m), (2, 45)]) (w' := w) (n' := 142) rfl ?_
  refine qG.call (t := 62) (na := 4) (sk := 1) (md := 1) (ls1 := [(2, 45), (0, m), (0, t), (0, y), (9, 0)]) (r1 := []) rfl rfl rfl rfl rfl (K_tellStay (by omega) m t y n hn9 w hI hn) ?_
  rintro ⟨_, x9⟩ w1 _ ⟨rfl, hE⟩
  have hk9 : ∃ y, ((_ : Nat), x9) = ((0 : Nat), y) ∧ (y = 0 ∨ y = 1) := (by rcases hE with ⟨-, h, -⟩ | ⟨-, -, -, -, -, -, -, ⟨-, h, -⟩ | ⟨-, h, -⟩⟩ <;> first | exact ⟨_, h, .inl rfl⟩ | exact ⟨_, h, .inr rfl⟩)
  obtain ⟨y9, hy9, hz9⟩ := hk9
  obtain ⟨rfl, rfl⟩ := Prod.mk.inj hy9
  show qG none (d + 1) 186 10 [(2, 1), (0, m), (0, t), (0, y)] [(0, x9)] w1 142 Q9
  refine qG.ret rfl (by exact decide_eq_true (by omega)) ?_
  subst hQ9
  exact ⟨rfl, hE⟩
theorem K_X12_was {d : Nat} (hd : 2 ≤ d) (m t y : Int) (n : Nat) (hn9 : n ≤ 200) (w : qW) (hI : yInv zgf zga zra zSp w) (hn : w 95 56 = (n : Int)) : qG none d 281 0 [(2, 95), (0, m), (0, t), (0, y), (9, 0)] [] w 142 (fun (r : qV) (w1 : qW) (n1 : Nat) => n1 = 142 ∧ wasR m t y n w r w1) := by
  generalize hQ9 : (fun (r : qV) (w1 : qW) (n1 : Nat) => n1 = 142 ∧ wasR m t y n w r w1) = Q9
  have h55 := zfld hI (j := 55) (b := (0, 12)) rfl
  have b55 : w 95 55 ≤ (12 : Int) := h55.2
  obtain ⟨d, rfl⟩ : ∃ d9, d = d9 + 1 := ⟨d - 1, by omega⟩
  refine qG.blk 2 (pc' := 2) (ls' := [(2, 95), (0, m), (0, t), (0, y), (9, 0)]) (st' := [(0, m), (2, 95)]) (w' := w) (n' := 142) rfl ?_
  refine qG.call (t := 279) (na := 2) (sk := 1) (md := 1) (ls1 := [(2, 95), (0, m)]) (r1 := []) rfl rfl rfl rfl rfl (K_isMaster (by omega) m w hI) ?_
  rintro _ w7 _ ⟨rfl, hw7, rfl⟩
  rw [hw7]
  show qG none (d + 1) 281 5 [(2, 95), (0, m), (0, t), (0, y), (9, 0)] [(0, isInV m 0 (w 95 55 - 1))] w 142 Q9
  refine qG.br (P := isInV m 0 (w 95 55 - 1) = 0) (pc1 := 38) (pc2 := 8) (st1 := []) rfl (fun h1 => ?_) (fun h1 => ?_)
  · skip
    rw [isIn_b] at h1
    refine qG.blk 1 (pc' := 39) (ls' := [(2, 95), (0, m), (0, t), (0, y), (9, 0)]) (st' := [(0, 0)]) (w' := w) (n' := 142) rfl ?_
    refine qG.ret rfl (by first | rfl | exact decide_eq_true (by omega)) ?_
    subst hQ9
    refine ⟨rfl, ?_⟩; first | exact .inl ⟨by unfold wasC; omega, rfl, rfl⟩ | exact .inr ⟨by unfold wasC; omega, .inl ⟨⟨k, by omega, hq1, hq2, hq3⟩, rfl, rfl⟩⟩ | exact .inr ⟨by unfold wasC; omega, .inr ⟨(fun z => by obtain ⟨i, hi, z⟩ := z; exact hI43.2 i (by omega) z), rfl, rfl⟩⟩
  · skip
    rw [isIn_p] at h1
    refine qG.blk 3 (pc' := 12) (ls' := [(2, 95), (0, m), (0, t), (0, y), (9, 0)]) (st' := [(0, 9), (0, 0), (0, t)]) (w' := w) (n' := 142) rfl ?_
    refine qG.call (t := 206) (na := 3) (sk := 0) (md := 0) (ls1 := [(0, t), (0, 0), (0, 9)]) (r1 := []) rfl rfl rfl rfl rfl (K_isIn (Nat.zero_le _) _ _ _ _) ?_
    rintro _ w7 _ ⟨rfl, hw7, rfl⟩
    rw [hw7]
    show qG none (d + 1) 281 15 [(2, 95), (0, m), (0, t), (0, y), (9, 0)] [(0, isInV (t) (0) (9))] w 142 Q9
    refine qG.br (P := isInV (t) (0) (9) = 0) (pc1 := 38) (pc2 := 18) (st1 := []) rfl (fun h2 => ?_) (fun h2 => ?_)
    · skip
      rw [isIn_b] at h2
      refine qG.blk 1 (pc' := 39) (ls' := [(2, 95), (0, m), (0, t), (0, y), (9, 0)]) (st' := [(0, 0)]) (w' := w) (n' := 142) rfl ?_
      refine qG.ret rfl (by first | rfl | exact decide_eq_true (by omega)) ?_
      subst hQ9
      refine ⟨rfl, ?_⟩; first | exact .inl ⟨by unfold wasC; omega, rfl, rfl⟩ | exact .inr ⟨by unfold wasC; omega, .inl ⟨⟨k, by omega, hq1, hq2, hq3⟩, rfl, rfl⟩⟩ | exact .inr ⟨by unfold wasC; omega, .inr ⟨(fun z => by obtain ⟨i, hi, z⟩ := z; exact hI43.2 i (by omega) z), rfl, rfl⟩⟩
    · skip
      rw [isIn_p] at h2
      refine qG.blk 3 (pc' := 22) (ls' := [(2, 95), (0, m), (0, t), (0, y), (9, 0)]) (st' := [(0, 99), (0, 0), (0, y)]) (w' := w) (n' := 142) rfl ?_
      refine qG.call (t := 206) (na := 3) (sk := 0) (md := 0) (ls1 := [(0, y), (0, 0), (0, 99)]) (r1 := []) rfl rfl rfl rfl rfl (K_isIn (Nat.zero_le _) _ _ _ _) ?_
      rintro _ w7 _ ⟨rfl, hw7, rfl⟩
      rw [hw7]
      show qG none (d + 1) 281 25 [(2, 95), (0, m), (0, t), (0, y), (9, 0)] [(0, isInV (y) (0) (99))] w 142 Q9
      refine qG.br (P := isInV (y) (0) (99) = 0) (pc1 := 38) (pc2 := 28) (st1 := []) rfl (fun h3 => ?_) (fun h3 => ?_)
      · skip
        rw [isIn_b] at h3
        refine qG.blk 1 (pc' := 39) (ls' := [(2, 95), (0, m), (0, t), (0, y), (9, 0)]) (st' := [(0, 0)]) (w' := w) (n' := 142) rfl ?_
        refine qG.ret rfl (by first | rfl | exact decide_eq_true (by omega)) ?_
        subst hQ9
        refine ⟨rfl, ?_⟩; first | exact .inl ⟨by unfold wasC; omega, rfl, rfl⟩ | exact .inr ⟨by unfold wasC; omega, .inl ⟨⟨k, by omega, hq1, hq2, hq3⟩, rfl, rfl⟩⟩ | exact .inr ⟨by unfold wasC; omega, .inr ⟨(fun z => by obtain ⟨i, hi, z⟩ := z; exact hI43.2 i (by omega) z), rfl, rfl⟩⟩
      · skip
        rw [isIn_p] at h3
        refine qG.blk 2 (pc' := 32) (ls' := [(2, 95), (0, m), (0, t), (0, y), (9, 0)]) (st' := [(0, w 95 56)]) (w' := w) (n' := 142) rfl ?_
        rw [show w 95 56 = ((n : Nat) : Int) from hn]
        refine qG.blk 1 (pc' := 35) (ls' := [(2, 95), (0, m), (0, t), (0, y), (9, 0)]) (st' := [(0, 200), (0, ((n : Nat) : Int))]) (w' := w) (n' := 142) rfl ?_
        refine qG.br (P := ((n : Nat) : Int) = 200) (pc1 := 38) (pc2 := 40) (st1 := []) rfl (fun h4 => ?_) (fun h4 => ?_)
        · skip
          refine qG.blk 1 (pc' := 39) (ls' := [(2, 95), (0, m), (0, t), (0, y), (9, 0)]) (st' := [(0, 0)]) (w' := w) (n' := 142) rfl ?_
          refine qG.ret rfl (by first | rfl | exact decide_eq_true (by omega)) ?_
          subst hQ9
          refine ⟨rfl, ?_⟩; first | exact .inl ⟨by unfold wasC; omega, rfl, rfl⟩ | exact .inr ⟨by unfold wasC; omega, .inl ⟨⟨k, by omega, hq1, hq2, hq3⟩, rfl, rfl⟩⟩ | exact .inr ⟨by unfold wasC; omega, .inr ⟨(fun z => by obtain ⟨i, hi, z⟩ := z; exact hI43.2 i (by omega) z), rfl, rfl⟩⟩
        · skip
          refine qG.blk 2 (pc' := 43) (ls' := [(2, 95), (0, m), (0, t), (0, y), (0, 0)]) (st' := []) (w' := w) (n' := 142) rfl ?_
          have L43 : ∀ (m9 : Nat) (k : Nat), n - k = m9 → (k ≤ n ∧ ∀ i : Nat, i < k → ¬ (w 129 i = m ∧ w 130 i = t ∧ w 131 i = y)) → qG none (d + 1) 281 43 [(2, 95), (0, m), (0, t), (0, y), (0, ((k : Nat) : Int))] [] w 142 Q9 := by
            intro m9
            induction m9 using Nat.strongRecOn with
            | ind m9 ih43 =>
            intro k hm43 hI43
            refine qG.blk 3 (pc' := 49) (ls' := [(2, 95), (0, m), (0, t), (0, y), (0, ((k : Nat) : Int))]) (st' := [(0, w 95 56), (0, ((k : Nat) : Int))]) (w' := w) (n' := 142) rfl ?_
            rw [show w 95 56 = ((n : Nat) : Int) from hn]
            refine qG.br (P := ((k : Nat) : Int) < ((n : Nat) : Int)) (pc1 := 52) (pc2 := 93) (st1 := []) rfl (fun h5 => ?_) (fun h5 => ?_)
            · skip
              refine qG.blk 2 (pc' := 56) (ls' := [(2, 95), (0, m), (0, t), (0, y), (0, ((k : Nat) : Int))]) (st' := [(2, w 95 62)]) (w' := w) (n' := 142) rfl ?_
              rw [show w 95 62 = 129 from zref hI rfl rfl]
              refine qG.blk 1 (pc' := 58) (ls' := [(2, 95), (0, m), (0, t), (0, y), (0, ((k : Nat) : Int))]) (st' := [(0, ((k : Nat) : Int)), (2, 129)]) (w' := w) (n' := 142) rfl ?_
              refine qG.ild (m := 200) rfl rfl (by omega) (by decide) ?_
              show qG none (d + 1) 281 59 [(2, 95), (0, m), (0, t), (0, y), (0, ((k : Nat) : Int))] [(0, w 129 k)] w 142 Q9
              refine qG.blk 1 (pc' := 60) (ls' := [(2, 95), (0, m), (0, t), (0, y), (0, ((k : Nat) : Int))]) (st' := [(0, m), (0, w 129 k)]) (w' := w) (n' := 142) rfl ?_
              refine qG.br (P := w 129 k = m) (pc1 := 63) (pc2 := 87) (st1 := []) rfl (fun hq1 => ?_) (fun hq1 => ?_)
              · skip
                refine qG.blk 2 (pc' := 67) (ls' := [(2, 95), (0, m), (0, t), (0, y), (0, ((k : Nat) : Int))]) (st' := [(2, w 95 63)]) (w' := w) (n' := 142) rfl ?_
                rw [show w 95 63 = 130 from zref hI rfl rfl]
                refine qG.blk 1 (pc' := 69) (ls' := [(2, 95), (0, m), (0, t), (0, y), (0, ((k : Nat) : Int))]) (st' := [(0, ((k : Nat) : Int)), (2, 130)]) (w' := w) (n' := 142) rfl ?_
                refine qG.ild (m := 200) rfl rfl (by omega) (by decide) ?_
                show qG none (d + 1) 281 70 [(2, 95), (0, m), (0, t), (0, y), (0, ((k : Nat) : Int))] [(0, w 130 k)] w 142 Q9
                refine qG.blk 1 (pc' := 71) (ls' := [(2, 95), (0, m), (0, t), (0, y), (0, ((k : Nat) : Int))]) (st' := [(0, t), (0, w 130 k)]) (w' := w) (n' := 142) rfl ?_
                refine qG.br (P := w 130 k = t) (pc1 := 74) (pc2 := 87) (st1 := []) rfl (fun hq2 => ?_) (fun hq2 => ?_)
                · skip
                  refine qG.blk 2 (pc' := 78) (ls' := [(2, 95), (0, m), (0, t), (0, y), (0, ((k : Nat) : Int))]) (st' := [(2, w 95 64)]) (w' := w) (n' := 142) rfl ?_
                  rw [show w 95 64 = 131 from zref hI rfl rfl]
                  refine qG.blk 1 (pc' := 80) (ls' := [(2, 95), (0, m), (0, t), (0, y), (0, ((k : Nat) : Int))]) (st' := [(0, ((k : Nat) : Int)), (2, 131)]) (w' := w) (n' := 142) rfl ?_
                  refine qG.ild (m := 200) rfl rfl (by omega) (by decide) ?_
                  show qG none (d + 1) 281 81 [(2, 95), (0, m), (0, t), (0, y), (0, ((k : Nat) : Int))] [(0, w 131 k)] w 142 Q9
                  refine qG.blk 1 (pc' := 82) (ls' := [(2, 95), (0, m), (0, t), (0, y), (0, ((k : Nat) : Int))]) (st' := [(0, y), (0, w 131 k)]) (w' := w) (n' := 142) rfl ?_
                  refine qG.br (P := w 131 k = y) (pc1 := 85) (pc2 := 87) (st1 := []) rfl (fun hq3 => ?_) (fun hq3 => ?_)
                  · skip
                    refine qG.blk 1 (pc' := 86) (ls' := [(2, 95), (0, m), (0, t), (0, y), (0, ((k : Nat) : Int))]) (st' := [(0, 0)]) (w' := w) (n' := 142) rfl ?_
                    refine qG.ret rfl (by first | rfl | exact decide_eq_true (by omega)) ?_
                    subst hQ9
                    refine ⟨rfl, ?_⟩; first | exact .inl ⟨by unfold wasC; omega, rfl, rfl⟩ | exact .inr ⟨by unfold wasC; omega, .inl ⟨⟨k, by omega, hq1, hq2, hq3⟩, rfl, rfl⟩⟩ | exact .inr ⟨by unfold wasC; omega, .inr ⟨(fun z => by obtain ⟨i, hi, z⟩ := z; exact hI43.2 i (by omega) z), rfl, rfl⟩⟩
                  · skip
                    refine qG.blk 1 (pc' := 90) (ls' := [(2, 95), (0, m), (0, t), (0, y), (0, wrp (((k : Nat) : Int) + 1))]) (st' := []) (w' := w) (n' := 142) rfl ?_
                    rw [show wrp (((k : Nat) : Int) + 1) = ((k + 1 : Nat) : Int) from wrp_id (by omega) (by omega)]
                    refine qG.blk 1 (pc' := 43) (ls' := [(2, 95), (0, m), (0, t), (0, y), (0, ((k + 1 : Nat) : Int))]) (st' := []) (w' := w) (n' := 142) rfl ?_
                    exact ih43 _ (by omega) (k + 1) rfl (⟨by omega, fun i hi z => (by by_cases e : i = k; (subst e; first | exact hq1 z.1 | exact hq2 z.2.1 | exact hq3 z.2.2); exact hI43.2 i (by omega) z)⟩)
                · skip
                  refine qG.blk 1 (pc' := 90) (ls' := [(2, 95), (0, m), (0, t), (0, y), (0, wrp (((k : Nat) : Int) + 1))]) (st' := []) (w' := w) (n' := 142) rfl ?_
                  rw [show wrp (((k : Nat) : Int) + 1) = ((k + 1 : Nat) : Int) from wrp_id (by omega) (by omega)]
                  refine qG.blk 1 (pc' := 43) (ls' := [(2, 95), (0, m), (0, t), (0, y), (0, ((k + 1 : Nat) : Int))]) (st' := []) (w' := w) (n' := 142) rfl ?_
                  exact ih43 _ (by omega) (k + 1) rfl (⟨by omega, fun i hi z => (by by_cases e : i = k; (subst e; first | exact hq1 z.1 | exact hq2 z.2.1 | exact hq3 z.2.2); exact hI43.2 i (by omega) z)⟩)
              · skip
                refine qG.blk 1 (pc' := 90) (ls' := [(2, 95), (0, m), (0, t), (0, y), (0, wrp (((k : Nat) : Int) + 1))]) (st' := []) (w' := w) (n' := 142) rfl ?_
                rw [show wrp (((k : Nat) : Int) + 1) = ((k + 1 : Nat) : Int) from wrp_id (by omega) (by omega)]
                refine qG.blk 1 (pc' := 43) (ls' := [(2, 95), (0, m), (0, t), (0, y), (0, ((k + 1 : Nat) : Int))]) (st' := []) (w' := w) (n' := 142) rfl ?_
                exact ih43 _ (by omega) (k + 1) rfl (⟨by omega, fun i hi z => (by by_cases e : i = k; (subst e; first | exact hq1 z.1 | exact hq2 z.2.1 | exact hq3 z.2.2); exact hI43.2 i (by omega) z)⟩)
            · skip
              refine qG.blk 2 (pc' := 97) (ls' := [(2, 95), (0, m), (0, t), (0, y), (0, ((k : Nat) : Int))]) (st' := [(2, w 95 62)]) (w' := w) (n' := 142) rfl ?_
              rw [show w 95 62 = 129 from zref hI rfl rfl]
              refine qG.blk 2 (pc' := 101) (ls' := [(2, 95), (0, m), (0, t), (0, y), (0, ((k : Nat) : Int))]) (st' := [(0, w 95 56), (2, 129)]) (w' := w) (n' := 142) rfl ?_
              rw [show w 95 56 = ((n : Nat) : Int) from hn]
              refine qG.blk 1 (pc' := 102) (ls' := [(2, 95), (0, m), (0, t), (0, y), (0, ((k : Nat) : Int))]) (st' := [(0, m), (0, ((n : Nat) : Int)), (2, 129)]) (w' := w) (n' := 142) rfl ?_
              refine qG.ist (m := 200) rfl rfl (by omega) (by decide) ?_
              show qG none (d + 1) 281 103 [(2, 95), (0, m), (0, t), (0, y), (0, ((k : Nat) : Int))] [] (qup w 129 n m) 142 Q9
              refine qG.blk 2 (pc' := 107) (ls' := [(2, 95), (0, m), (0, t), (0, y), (0, ((k : Nat) : Int))]) (st' := [(2, w 95 63)]) (w' := (qup w 129 n m)) (n' := 142) rfl ?_
              rw [show w 95 63 = 130 from zref hI rfl rfl]
              refine qG.blk 2 (pc' := 111) (ls' := [(2, 95), (0, m), (0, t), (0, y), (0, ((k : Nat) : Int))]) (st' := [(0, w 95 56), (2, 130)]) (w' := (qup w 129 n m)) (n' := 142) rfl ?_
              rw [show w 95 56 = ((n : Nat) : Int) from hn]
              refine qG.blk 1 (pc' := 112) (ls' := [(2, 95), (0, m), (0, t), (0, y), (0, ((k : Nat) : Int))]) (st' := [(0, t), (0, ((n : Nat) : Int)), (2, 130)]) (w' := (qup w 129 n m)) (n' := 142) rfl ?_
              refine qG.ist (m := 200) rfl rfl (by omega) (by decide) ?_
              show qG none (d + 1) 281 113 [(2, 95), (0, m), (0, t), (0, y), (0, ((k : Nat) : Int))] [] (qup (qup w 129 n m) 130 n t) 142 Q9
              refine qG.blk 2 (pc' := 117) (ls' := [(2, 95), (0, m), (0, t), (0, y), (0, ((k : Nat) : Int))]) (st' := [(2, w 95 64)]) (w' := (qup (qup w 129 n m) 130 n t)) (n' := 142) rfl ?_
              rw [show w 95 64 = 131 from zref hI rfl rfl]
              refine qG.blk 2 (pc' := 121) (ls' := [(2, 95), (0, m), (0, t), (0, y), (0, ((k : Nat) : Int))]) (st' := [(0, w 95 56), (2, 131)]) (w' := (qup (qup w 129 n m) 130 n t)) (n' := 142) rfl ?_
              rw [show w 95 56 = ((n : Nat) : Int) from hn]
              refine qG.blk 1 (pc' := 122) (ls' := [(2, 95), (0, m), (0, t), (0, y), (0, ((k : Nat) : Int))]) (st' := [(0, y), (0, ((n : Nat) : Int)), (2, 131)]) (w' := (qup (qup w 129 n m) 130 n t)) (n' := 142) rfl ?_
              refine qG.ist (m := 200) rfl rfl (by omega) (by decide) ?_
              show qG none (d + 1) 281 123 [(2, 95), (0, m), (0, t), (0, y), (0, ((k : Nat) : Int))] [] (qup (qup (qup w 129 n m) 130 n t) 131 n y) 142 Q9
              refine qG.blk 3 (pc' := 128) (ls' := [(2, 95), (0, m), (0, t), (0, y), (0, ((k : Nat) : Int))]) (st' := [(0, w 95 56), (2, 95)]) (w' := (qup (qup (qup w 129 n m) 130 n t) 131 n y)) (n' := 142) rfl ?_
              rw [show w 95 56 = ((n : Nat) : Int) from hn]
              refine qG.blk 2 (pc' := 130) (ls' := [(2, 95), (0, m), (0, t), (0, y), (0, ((k : Nat) : Int))]) (st' := [(0, wrp (((n : Nat) : Int) + 1)), (2, 95)]) (w' := (qup (qup (qup w 129 n m) 130 n t) 131 n y)) (n' := 142) rfl ?_
              rw [show wrp (((n : Nat) : Int) + 1) = ((n + 1 : Nat) : Int) from by rw [wrp_id (by omega) (by omega)]; omega]
              refine qG.blk 2 (pc' := 134) (ls' := [(2, 95), (0, m), (0, t), (0, y), (0, ((k : Nat) : Int))]) (st' := [(0, 1)]) (w' := (qup (qup (qup (qup w 129 n m) 130 n t) 131 n y) 95 56 ((n + 1 : Nat) : Int))) (n' := 142) rfl ?_
              refine qG.ret rfl (by first | rfl | exact decide_eq_true (by omega)) ?_
              subst hQ9
              refine ⟨rfl, ?_⟩; first | exact .inl ⟨by unfold wasC; omega, rfl, rfl⟩ | exact .inr ⟨by unfold wasC; omega, .inl ⟨⟨k, by omega, hq1, hq2, hq3⟩, rfl, rfl⟩⟩ | exact .inr ⟨by unfold wasC; omega, .inr ⟨(fun z => by obtain ⟨i, hi, z⟩ := z; exact hI43.2 i (by omega) z), rfl, rfl⟩⟩
          exact L43 _ (0) rfl (⟨by omega, fun i hi => absurd hi (Nat.not_lt_zero i)⟩)
noncomputable def JT (w : qW) : Prop := w 45 6 = w 95 56 ∧ ∀ m t y : Nat, m < 12 → t < 10 → y < 100 → (hbit (w 50 (m * 100 + y)) t = true ↔ ∃ k : Nat, (k : Int) < w 95 56 ∧ w 129 k = (m : Int) ∧ w 130 k = (t : Int) ∧ w 131 k = (y : Int))
theorem JT.fr {w w2 : qW} (h : JT w) (a : w2 45 6 = w 45 6) (b : w2 95 56 = w 95 56) (c : ∀ k, w2 50 k = w 50 k) (d1 : ∀ k, w2 129 k = w 129 k) (d2 : ∀ k, w2 130 k = w 130 k) (d3 : ∀ k, w2 131 k = w 131 k) : JT w2 := by
  refine ⟨by rw [a, b]; exact h.1, fun m t y hm ht hy => ?_⟩
  rw [c, b, h.2 m t y hm ht hy]
  constructor
  · rintro ⟨k, z1, z2, z3, z4⟩
    exact ⟨k, z1, by rw [d1]; exact z2, by rw [d2]; exact z3, by rw [d3]; exact z4⟩
  · rintro ⟨k, z1, z2, z3, z4⟩
    exact ⟨k, z1, by rw [← d1]; exact z2, by rw [← d2]; exact z3, by rw [← d3]; exact z4⟩
noncomputable def JS (w : qW) : Prop := JN w ∧ JT w
noncomputable def jsM (m : List Nat) : Bool := jnM m && (spo m 50 && (spo m 129 && (spo m 130 && (spo m 131 && (!ymo 45 6 m && !ymo 95 56 m)))))
theorem JS.aw {m : List Nat} {w w1 : qW} (h : JS w) (a : AW m w w1) (hm : jsM m = true) : JS w1 := by
  unfold jsM at hm
  simp only [Bool.and_eq_true, Bool.not_eq_true'] at hm
  obtain ⟨m0, m1, m2, m3, m4, m5, m6⟩ := hm
  exact ⟨h.1.aw a m0, h.2.fr (a.2 45 6 (fun _ => m5)) (a.2 95 56 (fun _ => m6)) (fun k => a.a (by decide) m1 k) (fun k => a.a (by decide) m2 k) (fun k => a.a (by decide) m3 k) (fun k => a.a (by decide) m4 k)⟩
theorem JS.master {w w1 w2 : qW} {s g a b : Int} {n : Nat} {r r2 : qV} (h : JS w) (hX : masE 45 0 46 47 48 [46, 47, 48] s g a b n w r w1) (hR : masE 95 55 125 126 127 [125, 126, 127, 128] s g a b n w1 r2 w2) : JS w2 ∧ r = r2 := by
  have q := JN.master h.1 hX hR
  refine ⟨⟨q.1, ?_⟩, q.2⟩
  have e1 : ∀ p k, p ∉ [45, 46, 47, 48] ∨ (p = 45 ∧ k = 6) → w1 p k = w p k := fun p k hp => by
    rcases hX with ⟨-, -, rfl⟩ | ⟨-, -, -, -, -, -, s1⟩
    · rfl
    · rcases hp with hp | ⟨rfl, rfl⟩
      · simp only [List.mem_cons, List.not_mem_nil, or_false, not_or] at hp
        exact s1 p k (by simp only [List.mem_cons, List.not_mem_nil, or_false, not_or]; exact hp.2) (fun z => hp.1 z.1)
      · exact s1 45 6 (by decide) (by decide)
  have e2 : ∀ p k, p ∉ [95, 125, 126, 127, 128] ∨ (p = 95 ∧ k = 56) → w2 p k = w1 p k := fun p k hp => by
    rcases hR with ⟨-, -, rfl⟩ | ⟨-, -, -, -, -, -, s1⟩
    · rfl
    · rcases hp with hp | ⟨rfl, rfl⟩
      · simp only [List.mem_cons, List.not_mem_nil, or_false, not_or] at hp
        exact s1 p k (by simp only [List.mem_cons, List.not_mem_nil, or_false, not_or]; exact hp.2) (fun z => hp.1 z.1)
      · exact s1 95 56 (by decide) (by decide)
  have e : ∀ p k, (p = 50 ∨ p = 129 ∨ p = 130 ∨ p = 131) → w2 p k = w p k := fun p k hp => by
    rcases hp with rfl | rfl | rfl | rfl <;> exact (e2 _ k (.inl (by decide))).trans (e1 _ k (.inl (by decide)))
  exact h.2.fr ((e2 45 6 (.inl (by decide))).trans (e1 45 6 (.inr ⟨rfl, rfl⟩))) ((e2 95 56 (.inr ⟨rfl, rfl⟩)).trans (e1 95 56 (.inl (by decide)))) (fun k => e 50 k (.inl rfl)) (fun k => e 129 k (.inr (.inl rfl))) (fun k => e 130 k (.inr (.inr (.inl rfl)))) (fun k => e 131 k (.inr (.inr (.inr rfl))))
theorem JS.night {w w1 w2 : qW} {y t g e a : Int} {n : Nat} {r r2 : qV} (h : JS w) (hX : nigE 45 7 51 52 53 54 55 y t g e a n w r w1) (hR : nigE 95 57 132 133 134 135 136 y t g e a n w1 r2 w2) : JS w2 ∧ r = r2 := by
  have q := JN.night h.1 hX hR
  refine ⟨⟨q.1, ?_⟩, q.2⟩
  have e1 : ∀ p k, p ∉ [45, 51, 52, 53, 54, 55] ∨ (p = 45 ∧ k = 6) → w1 p k = w p k := fun p k hp => by
    rcases hX with ⟨-, -, rfl⟩ | ⟨-, -, -, -, -, -, -, -, s1⟩
    · rfl
    · rcases hp with hp | ⟨rfl, rfl⟩
      · simp only [List.mem_cons, List.not_mem_nil, or_false, not_or] at hp
        exact s1 p k (by simp only [List.mem_cons, List.not_mem_nil, or_false, not_or]; exact hp.2) (fun z => hp.1 z.1)
      · exact s1 45 6 (by decide) (by decide)
  have e2 : ∀ p k, p ∉ [95, 132, 133, 134, 135, 136] ∨ (p = 95 ∧ k = 56) → w2 p k = w1 p k := fun p k hp => by
    rcases hR with ⟨-, -, rfl⟩ | ⟨-, -, -, -, -, -, -, -, s1⟩
    · rfl
    · rcases hp with hp | ⟨rfl, rfl⟩
      · simp only [List.mem_cons, List.not_mem_nil, or_false, not_or] at hp
        exact s1 p k (by simp only [List.mem_cons, List.not_mem_nil, or_false, not_or]; exact hp.2) (fun z => hp.1 z.1)
      · exact s1 95 56 (by decide) (by decide)
  have e : ∀ p k, (p = 50 ∨ p = 129 ∨ p = 130 ∨ p = 131) → w2 p k = w p k := fun p k hp => by
    rcases hp with rfl | rfl | rfl | rfl <;> exact (e2 _ k (.inl (by decide))).trans (e1 _ k (.inl (by decide)))
  exact h.2.fr ((e2 45 6 (.inl (by decide))).trans (e1 45 6 (.inr ⟨rfl, rfl⟩))) ((e2 95 56 (.inr ⟨rfl, rfl⟩)).trans (e1 95 56 (.inl (by decide)))) (fun k => e 50 k (.inl rfl)) (fun k => e 129 k (.inr (.inl rfl))) (fun k => e 130 k (.inr (.inr (.inl rfl)))) (fun k => e 131 k (.inr (.inr (.inr rfl))))
theorem JT.was {w w1 w2 : qW} {m t y : Int} {n : Nat} {r r2 : qV} (hM : w 45 0 = w 95 55) (h12 : w 45 0 ≤ 12) (h : JT w) (hn : w 45 6 = (n : Int)) (hX : wasX m t y n w r w1) (hR : wasR m t y n w1 r2 w2) : JT w2 ∧ r = r2 := by
  have hT : w 95 56 = (n : Int) := h.1.symm.trans hn
  -- what was told is the same on both sides
  have key : ∀ m9 t9 y9 : Nat, m = (m9 : Int) → t = (t9 : Int) → y = (y9 : Int) → wasC m t y (w 45 0) n → (hbit (w 50 (m9 * 100 + y9)) t9 = true ↔ wasK m t y n w) := by
    rintro m9 t9 y9 rfl rfl rfl c
    unfold wasC at c
    rw [h.2 m9 t9 y9 (by omega) (by omega) (by omega), hT]
    constructor
    · rintro ⟨k, z1, z2⟩; exact ⟨k, by omega, z2⟩
    · rintro ⟨k, z1, z2⟩; exact ⟨k, by omega, z2⟩
  rcases hX with ⟨c1, rfl, rfl⟩ | ⟨c1, m9, t9, y9, em, et, ey, ⟨b1, rfl, rfl⟩ | ⟨b1, rfl, rfl⟩⟩
  · rcases hR with ⟨c2, rfl, rfl⟩ | ⟨c2, -⟩
    · exact ⟨h, rfl⟩
    · rw [← hM] at c2; exact absurd c2 c1
  · rcases hR with ⟨c2, rfl, rfl⟩ | ⟨c2, ⟨b2, rfl, rfl⟩ | ⟨b2, rfl, rfl⟩⟩
    · exact ⟨h, rfl⟩
    · exact ⟨h, rfl⟩
    · exact absurd ((key m9 t9 y9 em et ey c1).mp b1) b2
  · have hK : ∀ j, qup (qup w 50 (m9 * 100 + y9) (qor (w 50 (m9 * 100 + y9)) (qshl 1 ((t9 : Nat) : Int)))) 45 6 ((n + 1 : Nat) : Int) 129 j = w 129 j ∧ qup (qup w 50 (m9 * 100 + y9) (qor (w 50 (m9 * 100 + y9)) (qshl 1 ((t9 : Nat) : Int)))) 45 6 ((n + 1 : Nat) : Int) 130 j = w 130 j ∧ qup (qup w 50 (m9 * 100 + y9) (qor (w 50 (m9 * 100 + y9)) (qshl 1 ((t9 : Nat) : Int)))) 45 6 ((n + 1 : Nat) : Int) 131 j = w 131 j := fun j => by
      refine ⟨?_, ?_, ?_⟩ <;> simp (disch := decide) only [qup_ne]
    have h55 : qup (qup w 50 (m9 * 100 + y9) (qor (w 50 (m9 * 100 + y9)) (qshl 1 ((t9 : Nat) : Int)))) 45 6 ((n + 1 : Nat) : Int) 95 55 = w 95 55 := by simp (disch := decide) only [qup_ne]
    have hnk : ¬ wasK m t y n w := fun z => b1 ((key m9 t9 y9 em et ey c1).mpr z)
    rcases hR with ⟨c2, rfl, rfl⟩ | ⟨c2, ⟨b2, rfl, rfl⟩ | ⟨b2, rfl, ew⟩⟩
    · rw [h55, ← hM] at c2; exact absurd c1 c2
    · obtain ⟨k, z1, z2, z3, z4⟩ := b2
      rw [(hK k).1] at z2
      rw [(hK k).2.1] at z3
      rw [(hK k).2.2] at z4
      exact absurd ⟨k, z1, z2, z3, z4⟩ hnk
    · have g50 : ∀ k, w2 50 k = if k = m9 * 100 + y9 then qor (w 50 (m9 * 100 + y9)) (qshl 1 ((t9 : Nat) : Int)) else w 50 k := fun k => by rw [ew]; simp (disch := decide) only [qup_ne, qup_if]
      have q1 : ∀ k, w2 129 k = if k = n then m else w 129 k := fun k => by rw [ew]; simp (disch := decide) only [qup_ne, qup_if]
      have q2 : ∀ k, w2 130 k = if k = n then t else w 130 k := fun k => by rw [ew]; simp (disch := decide) only [qup_ne, qup_if]
      have q3 : ∀ k, w2 131 k = if k = n then y else w 131 k := fun k => by rw [ew]; simp (disch := decide) only [qup_ne, qup_if]
      have g95 : w2 95 56 = ((n + 1 : Nat) : Int) := by rw [ew]; exact qup_k
      have g45 : w2 45 6 = ((n + 1 : Nat) : Int) := by rw [ew]; simp (disch := decide) only [qup_ne, qup_k]
      refine ⟨⟨g45.trans g95.symm, fun m' t' y' hm' ht' hy' => ?_⟩, rfl⟩
      unfold wasC at c1
      have old := h.2 m' t' y' hm' ht' hy'
      rw [hT] at old
      have lhs : hbit (w2 50 (m' * 100 + y')) t' = true ↔ (hbit (w 50 (m' * 100 + y')) t' = true ∨ (m' = m9 ∧ y' = y9 ∧ t' = t9)) := by
        rw [g50]
        by_cases e : m' * 100 + y' = m9 * 100 + y9
        · have e1 : m' = m9 := by omega
          have e2 : y' = y9 := by omega
          rw [if_pos e, hbit_or (by omega), hbit_1 t9 (by omega) t' (by omega), Bool.or_eq_true, decide_eq_true_eq, e1, e2]
          constructor
          · rintro (z | z)
            · exact .inl z
            · exact .inr ⟨rfl, rfl, z.symm⟩
          · rintro (z | z)
            · exact .inl z
            · exact .inr z.2.2.symm
        · rw [if_neg e]
          constructor
          · exact .inl
          · rintro (z | ⟨z1, z2, -⟩)
            · exact z
            · exact absurd (by rw [z1, z2]) e
      refine lhs.trans ?_
      rw [old, g95]
      constructor
      · rintro (⟨k, z1, z2, z3, z4⟩ | ⟨z1, z2, z3⟩)
        · exact ⟨k, by omega, by rw [q1, if_neg (by omega)]; exact z2, by rw [q2, if_neg (by omega)]; exact z3, by rw [q3, if_neg (by omega)]; exact z4⟩
        · exact ⟨n, by omega, by rw [q1, if_pos rfl]; omega, by rw [q2, if_pos rfl]; omega, by rw [q3, if_pos rfl]; omega⟩
      · rintro ⟨k, z1, z2, z3, z4⟩
        rw [q1] at z2
        rw [q2] at z3
        rw [q3] at z4
        by_cases e : k = n
        · rw [if_pos e] at z2 z3 z4
          exact .inr ⟨by omega, by omega, by omega⟩
        · rw [if_neg e] at z2 z3 z4
          exact .inl ⟨k, by omega, z2, z3, z4⟩
theorem JS.was {w w1 w2 : qW} {m t y : Int} {n : Nat} {r r2 : qV} {m1 m2 : List Nat} (h12 : w 45 0 ≤ 12) (hn : w 45 6 = (n : Int)) (h : JS w) (hX : wasX m t y n w r w1) (a1 : AW m1 w w1) (hm1 : jnM m1 = true) (hR : wasR m t y n w1 r2 w2) (a2 : AW m2 w1 w2) (hm2 : jnM m2 = true) : JS w2 ∧ r = r2 := by
  have q := JT.was h.1.1 h12 h.2 hn hX hR
  exact ⟨⟨(h.1.aw a1 hm1).aw a2 hm2, q.1⟩, q.2⟩
end
section
/-! weights of masters for nights -/
noncomputable def adV (d : Int) : Int := if 0 ≤ d then d else -d
theorem adV_c (d : Int) : (0 ≤ d ∧ adV d = d) ∨ (d < 0 ∧ adV d = -d) := by
  unfold adV
  split <;> omega
noncomputable def gwV (d e : Int) : Int := if e = 1 then (if 50 - adV d / 2 < 1 then 1 else 50 - adV d / 2) else if e = 2 then (if 50 + d < 1 then 1 else if 99 < 50 + d then 99 else 50 + d) else (if 50 - d < 1 then 1 else if 99 < 50 - d then 99 else 50 - d)
theorem gwV_in {d : Int} (h : -99 ≤ d ∧ d ≤ 99) (e : Int) : 1 ≤ gwV d e ∧ gwV d e ≤ 99 := by
  have := adV_c d
  unfold gwV
  (repeat' split) <;> omega
theorem qdiv_z {x : Int} (h0 : 0 ≤ x) (h1 : x ≤ 2147483647) : qdiv x 2 = x / 2 := by
  unfold qdiv
  rw [Int.tdiv_eq_ediv_of_nonneg h0, wrp_id (by omega) (by omega)]
/-- he may have been there -/
noncomputable def mbP (w : qW) (n m : Nat) : Prop := (w 126 m ≤ w 132 n ∧ w 132 n ≤ w 127 m) ∧ ((∀ k : Nat, (k : Int) < w 95 56 → w 129 k = (m : Int) → ¬ w 131 k = w 132 n) ∨ ∃ k : Nat, (k : Int) < w 95 56 ∧ w 129 k = (m : Int) ∧ w 131 k = w 132 n ∧ w 130 k = w 133 n)
noncomputable def stE (w : qW) (n m k : Nat) : Prop := ∃ i : Nat, i < k ∧ w 129 i = (m : Int) ∧ w 131 i = w 132 n
noncomputable def haV (w : qW) (n m : Nat) : Int := if w 136 n = -1 then 1 else w 128 (m * 3 + (w 136 n).toNat)
noncomputable def wgV (w : qW) (n m : Nat) : Int := @ite _ (mbP w n m) (Classical.propDecidable _) (gwV (w 125 m - w 134 n) (w 135 n) * haV w n m) 0
theorem wg_y {w : qW} {n m : Nat} (h : mbP w n m) : wgV w n m = gwV (w 125 m - w 134 n) (w 135 n) * haV w n m := @if_pos _ (Classical.propDecidable _) h _ _ _
theorem wg_n {w : qW} {n m : Nat} (h : ¬ mbP w n m) : wgV w n m = 0 := @if_neg _ (Classical.propDecidable _) h _ _ _
theorem mul_9 {x y : Int} (h0 : 1 ≤ x) (h1 : x ≤ 99) (k0 : 0 ≤ y) (k1 : y ≤ 9) : 0 ≤ x * y ∧ x * y ≤ 891 := by
  refine ⟨Int.mul_nonneg (by omega) k0, ?_⟩
  have := Int.mul_le_mul h1 k1 k0 (show (0 : Int) ≤ 99 by decide)
  exact this
noncomputable def rgN (w : qW) : Prop := (∀ k, 0 ≤ w 125 k ∧ w 125 k ≤ 99) ∧ (∀ k, 0 ≤ w 126 k ∧ w 126 k ≤ 99) ∧ (∀ k, 0 ≤ w 127 k ∧ w 127 k ≤ 99) ∧ (∀ k, 0 ≤ w 128 k ∧ w 128 k ≤ 9) ∧ (∀ k, 0 ≤ w 132 k ∧ w 132 k ≤ 99) ∧ (∀ k, 0 ≤ w 133 k ∧ w 133 k ≤ 9) ∧ (∀ k, 0 ≤ w 134 k ∧ w 134 k ≤ 99) ∧ (∀ k, 0 ≤ w 135 k ∧ w 135 k ≤ 2) ∧ (∀ k, -1 ≤ w 136 k ∧ w 136 k ≤ 2) ∧ (∀ k, 0 ≤ w 129 k ∧ w 129 k ≤ 11) ∧ (∀ k, 0 ≤ w 130 k ∧ w 130 k ≤ 9) ∧ (∀ k, 0 ≤ w 131 k ∧ w 131 k ≤ 99) ∧ ∀ k, 0 ≤ w 50 k ∧ w 50 k ≤ 1023
theorem rgN_of {w : qW} (hI : yInv zgf zga zra zSp w) : rgN w := by
  refine ⟨fun k => ?_, fun k => ?_, fun k => ?_, fun k => ?_, fun k => ?_, fun k => ?_, fun k => ?_, fun k => ?_, fun k => ?_, fun k => ?_, fun k => ?_, fun k => ?_, fun k => ?_⟩
  · have h := hI.2.1 125 k (0, 99) rfl rfl; exact ⟨h.1, h.2⟩
  · have h := hI.2.1 126 k (0, 99) rfl rfl; exact ⟨h.1, h.2⟩
  · have h := hI.2.1 127 k (0, 99) rfl rfl; exact ⟨h.1, h.2⟩
  · have h := hI.2.1 128 k (0, 9) rfl rfl; exact ⟨h.1, h.2⟩
  · have h := hI.2.1 132 k (0, 99) rfl rfl; exact ⟨h.1, h.2⟩
  · have h := hI.2.1 133 k (0, 9) rfl rfl; exact ⟨h.1, h.2⟩
  · have h := hI.2.1 134 k (0, 99) rfl rfl; exact ⟨h.1, h.2⟩
  · have h := hI.2.1 135 k (0, 2) rfl rfl; exact ⟨h.1, h.2⟩
  · have h := hI.2.1 136 k (-1, 2) rfl rfl; exact ⟨h.1, h.2⟩
  · have h := hI.2.1 129 k (0, 11) rfl rfl; exact ⟨h.1, h.2⟩
  · have h := hI.2.1 130 k (0, 9) rfl rfl; exact ⟨h.1, h.2⟩
  · have h := hI.2.1 131 k (0, 99) rfl rfl; exact ⟨h.1, h.2⟩
  · have h := hI.2.1 50 k (0, 1023) rfl rfl; exact ⟨h.1, h.2⟩
theorem haV_in {w : qW} (h : rgN w) (n m : Nat) : 0 ≤ haV w n m ∧ haV w n m ≤ 9 := by
  unfold haV
  split
  · omega
  · exact h.2.2.2.1 _
theorem gw_in {w : qW} (h : rgN w) (n m : Nat) : 1 ≤ gwV (w 125 m - w 134 n) (w 135 n) ∧ gwV (w 125 m - w 134 n) (w 135 n) ≤ 99 := by
  have h1 := h.1 m
  have h2 := h.2.2.2.2.2.2.1 n
  exact gwV_in (by omega) _
theorem wgV_in {w : qW} (h : rgN w) (n m : Nat) : 0 ≤ wgV w n m ∧ wgV w n m ≤ 891 := by
  by_cases c : mbP w n m
  · rw [wg_y c]
    have h1 := gw_in h n m
    have h2 := haV_in h n m
    exact mul_9 h1.1 h1.2 h2.1 h2.2
  · rw [wg_n c]; omega
theorem hbit_n {n j : Nat} (hn : n < 2147483648) (hj : j < 32) : hbit (n : Int) j = decide (n / 2 ^ j % 2 = 1) := by
  unfold hbit
  rw [hb_n hn hj]
  by_cases c : n / 2 ^ j % 2 = 1
  · rw [c]; rfl
  · rw [decide_eq_false c, decide_eq_false (by omega)]
theorem hbit_all {v : Int} (h0 : 0 ≤ v) (h1 : v ≤ 1023) (h : ∀ t : Nat, t < 10 → ¬ hbit v t = true) : v = 0 := by
  obtain ⟨n, rfl⟩ : ∃ n : Nat, v = n := ⟨v.toNat, by omega⟩
  have g : ∀ t : Nat, t < 10 → ¬ n / 2 ^ t % 2 = 1 := fun t ht z => h t ht (by rw [hbit_n (by omega) (by omega)]; exact decide_eq_true z)
  have g0 : ¬ n / 1 % 2 = 1 := g 0 (by omega)
  have g1 : ¬ n / 2 % 2 = 1 := g 1 (by omega)
  have g2 : ¬ n / 4 % 2 = 1 := g 2 (by omega)
  have g3 : ¬ n / 8 % 2 = 1 := g 3 (by omega)
  have g4 : ¬ n / 16 % 2 = 1 := g 4 (by omega)
  have g5 : ¬ n / 32 % 2 = 1 := g 5 (by omega)
  have g6 : ¬ n / 64 % 2 = 1 := g 6 (by omega)
  have g7 : ¬ n / 128 % 2 = 1 := g 7 (by omega)
  have g8 : ¬ n / 256 % 2 = 1 := g 8 (by omega)
  have g9 : ¬ n / 512 % 2 = 1 := g 9 (by omega)
  omega
/-- the class's set of towns tells it -/
theorem mb_iff {w : qW} (h : rgN w) (hT : JT w) {n m y t : Nat} (hm : m < 12) (hy : w 132 n = (y : Int)) (ht : w 133 n = (t : Int)) : mbP w n m ↔ (w 126 m ≤ (y : Int) ∧ (y : Int) ≤ w 127 m) ∧ (w 50 (m * 100 + y) = 0 ∨ hbit (w 50 (m * 100 + y)) t = true) := by
  have hy9 := h.2.2.2.2.1 n
  have ht9 := h.2.2.2.2.2.1 n
  have h50 := h.2.2.2.2.2.2.2.2.2.2.2.2 (m * 100 + y)
  unfold mbP
  rw [hy, ht]
  refine and_congr Iff.rfl ?_
  constructor
  · rintro (z | ⟨k, z1, z2, z3, z4⟩)
    · refine .inl (hbit_all h50.1 h50.2 (fun t' ht' q => ?_))
      obtain ⟨k, q1, q2, q3, q4⟩ := (hT.2 m t' y hm ht' (by omega)).mp q
      exact z k q1 q2 q4
    · exact .inr ((hT.2 m t y hm (by omega) (by omega)).mpr ⟨k, z1, z2, z4, z3⟩)
  · rintro (z | z)
    · refine .inl (fun k q1 q2 q3 => ?_)
      have h13 := h.2.2.2.2.2.2.2.2.2.2.1 k
      have := (hT.2 m (w 130 k).toNat y hm (by omega) (by omega)).mpr ⟨k, q1, q2, by omega, q3⟩
      rw [z, hbit_z _ (by omega)] at this
      cases this
    · obtain ⟨k, q1, q2, q3, q4⟩ := (hT.2 m t y hm (by omega) (by omega)).mp z
      exact .inr ⟨k, q1, q2, q4, q3⟩
/-- the habits on both sides -/
noncomputable def JH (w : qW) : Prop := (∀ k : Nat, (k : Int) < 3 * w 95 55 → w 49 k = w 128 k) ∧ ∀ k : Nat, 3 * w 95 55 ≤ (k : Int) → k < 36 → w 49 k = 1
noncomputable def JQ (w : qW) : Prop := JS w ∧ JH w
noncomputable def jhM (m : List Nat) : Bool := spo m 49 && (spo m 128 && !ymo 95 55 m)
theorem JH.aw {m : List Nat} {w w1 : qW} (h : JH w) (a : AW m w w1) (hm : jhM m = true) : JH w1 := by
  unfold jhM at hm
  simp only [Bool.and_eq_true, Bool.not_eq_true'] at hm
  obtain ⟨m1, m2, m3⟩ := hm
  refine ⟨fun k hk => ?_, fun k hk h36 => ?_⟩
  · rw [a.2 95 55 (fun _ => m3)] at hk
    rw [a.a (by decide) m1, a.a (by decide) m2]; exact h.1 k hk
  · rw [a.2 95 55 (fun _ => m3)] at hk
    rw [a.a (by decide) m1]; exact h.2 k hk h36
noncomputable def jqM (m : List Nat) : Bool := jsM m && jhM m
theorem JQ.aw {m : List Nat} {w w1 : qW} (h : JQ w) (a : AW m w w1) (hm : jqM m = true) : JQ w1 := by
  unfold jqM at hm
  rw [Bool.and_eq_true] at hm
  exact ⟨h.1.aw a hm.1, h.2.aw a hm.2⟩
theorem K_gameWeight {d : Nat} (hd : 1 ≤ d) (u e : Int) (hd9 : -99 ≤ u ∧ u ≤ 99) (w : qW) : qG none d 73 0 [(0, u), (0, e), (9, 0)] [] w 142 (fun (r : qV) (w1 : qW) (n1 : Nat) => r = (0, gwV u e) ∧ w1 = w ∧ n1 = 142) := by
  generalize hQ9 : (fun (r : qV) (w1 : qW) (n1 : Nat) => r = (0, gwV u e) ∧ w1 = w ∧ n1 = 142) = Q9
  have hc := adV_c u
  obtain ⟨q9, hq9⟩ : ∃ q : Nat, adV u = (q : Int) := ⟨(adV u).toNat, by omega⟩
  obtain ⟨d, rfl⟩ : ∃ d9, d = d9 + 1 := ⟨d - 1, by omega⟩
  refine qG.blk 2 (pc' := 2) (ls' := [(0, u), (0, e), (9, 0)]) (st' := [(0, 1), (0, e)]) (w' := w) (n' := 142) rfl ?_
  refine qG.br (P := e = 1) (pc1 := 5) (pc2 := 19) (st1 := []) rfl (fun h1 => ?_) (fun h1 => ?_)
  · skip
    refine qG.blk 3 (pc' := 9) (ls' := [(0, u), (0, e), (9, 0)]) (st' := [(0, u), (0, 50), (0, 1)]) (w' := w) (n' := 142) rfl ?_
    refine qG.mth rfl rfl rfl rfl (pc' := 12) (ls' := [(0, u), (0, e), (9, 0)]) (st' := [(0, (if 0 ≤ u then u else wrp (0 - u))), (0, 50), (0, 1)]) (w' := w) (n' := 142) rfl ?_
    rw [show (if 0 ≤ u then u else wrp (0 - u)) = ((q9 : Nat) : Int) from by split <;> (try rw [wrp_id (by omega) (by omega)]) <;> omega]
    refine qG.blk 1 (pc' := 13) (ls' := [(0, u), (0, e), (9, 0)]) (st' := [(0, 2), (0, ((q9 : Nat) : Int)), (0, 50), (0, 1)]) (w' := w) (n' := 142) rfl ?_
    refine qG.gn (P := 2 = 0) (pc' := 14) (ls' := [(0, u), (0, e), (9, 0)]) (st' := [(0, qdiv ((q9 : Nat) : Int) 2), (0, 50), (0, 1)]) (w' := w) (n' := 142) rfl (by decide) ?_
    rw [show qdiv ((q9 : Nat) : Int) 2 = ((q9 / 2 : Nat) : Int) from qdiv_n (m := 2) (by omega)]
    refine qG.blk 1 (pc' := 15) (ls' := [(0, u), (0, e), (9, 0)]) (st' := [(0, wrp (50 - ((q9 / 2 : Nat) : Int))), (0, 1)]) (w' := w) (n' := 142) rfl ?_
    rw [show wrp (50 - ((q9 / 2 : Nat) : Int)) = 50 - ((q9 / 2 : Nat) : Int) from wrp_id (by omega) (by omega)]
    refine qG.mth rfl rfl rfl rfl (pc' := 18) (ls' := [(0, u), (0, e), (9, 0)]) (st' := [(0, (if 1 < 50 - ((q9 / 2 : Nat) : Int) then 50 - ((q9 / 2 : Nat) : Int) else 1))]) (w' := w) (n' := 142) rfl ?_
    refine qG.ret rfl rfl ?_
    subst hQ9
    exact ⟨congrArg (Prod.mk (0 : Nat)) (by unfold gwV; (repeat' split) <;> omega), rfl, rfl⟩
  · skip
    refine qG.blk 2 (pc' := 21) (ls' := [(0, u), (0, e), (9, 0)]) (st' := [(0, 2), (0, e)]) (w' := w) (n' := 142) rfl ?_
    refine qG.br (P := e = 2) (pc1 := 24) (pc2 := 31) (st1 := []) rfl (fun h2 => ?_) (fun h2 => ?_)
    · skip
      refine qG.blk 3 (pc' := 28) (ls' := [(0, u), (0, e), (9, 0)]) (st' := [(0, wrp (50 + u))]) (w' := w) (n' := 142) rfl ?_
      rw [show wrp (50 + u) = 50 + u from wrp_id (by omega) (by omega)]
      refine qG.blk 5 (pc' := 40) (ls' := [(0, u), (0, e), (0, 50 + u)]) (st' := [(0, 50 + u), (0, 99), (0, 1)]) (w' := w) (n' := 142) rfl ?_
      refine qG.mth rfl rfl rfl rfl (pc' := 43) (ls' := [(0, u), (0, e), (0, 50 + u)]) (st' := [(0, (if 50 + u < 99 then 50 + u else 99)), (0, 1)]) (w' := w) (n' := 142) rfl ?_
      refine qG.mth rfl rfl rfl rfl (pc' := 46) (ls' := [(0, u), (0, e), (0, 50 + u)]) (st' := [(0, (if 1 < (if 50 + u < 99 then 50 + u else 99) then (if 50 + u < 99 then 50 + u else 99) else 1))]) (w' := w) (n' := 142) rfl ?_
      refine qG.ret rfl rfl ?_
      subst hQ9
      exact ⟨congrArg (Prod.mk (0 : Nat)) (by unfold gwV; (repeat' split) <;> omega), rfl, rfl⟩
    · skip
      refine qG.blk 3 (pc' := 35) (ls' := [(0, u), (0, e), (9, 0)]) (st' := [(0, wrp (50 - u))]) (w' := w) (n' := 142) rfl ?_
      rw [show wrp (50 - u) = 50 - u from wrp_id (by omega) (by omega)]
      refine qG.blk 4 (pc' := 40) (ls' := [(0, u), (0, e), (0, 50 - u)]) (st' := [(0, 50 - u), (0, 99), (0, 1)]) (w' := w) (n' := 142) rfl ?_
      refine qG.mth rfl rfl rfl rfl (pc' := 43) (ls' := [(0, u), (0, e), (0, 50 - u)]) (st' := [(0, (if 50 - u < 99 then 50 - u else 99)), (0, 1)]) (w' := w) (n' := 142) rfl ?_
      refine qG.mth rfl rfl rfl rfl (pc' := 46) (ls' := [(0, u), (0, e), (0, 50 - u)]) (st' := [(0, (if 1 < (if 50 - u < 99 then 50 - u else 99) then (if 50 - u < 99 then 50 - u else 99) else 1))]) (w' := w) (n' := 142) rfl ?_
      refine qG.ret rfl rfl ?_
      subst hQ9
      exact ⟨congrArg (Prod.mk (0 : Nat)) (by unfold gwV; (repeat' split) <;> omega), rfl, rfl⟩
theorem K_canHave {d : Nat} (hd : 1 ≤ d) (m n M N : Nat) (w : qW) (hI : yInv zgf zga zra zSp w) (hJ : JQ w) (hM : w 95 55 = (M : Int)) (hN : w 95 57 = (N : Int)) (hm : m < M) (hn : n < N)  : qG none d 72 0 [(2, 45), (0, ((m : Nat) : Int)), (0, ((n : Nat) : Int)), (9, 0), (9, 0)] [] w 142 (fun (r : qV) (w1 : qW) (n1 : Nat) => ((mbP w n m ∧ r = (0, 1)) ∨ (¬ mbP w n m ∧ r = (0, 0))) ∧ w1 = w ∧ n1 = 142) := by
  generalize hQ9 : (fun (r : qV) (w1 : qW) (n1 : Nat) => ((mbP w n m ∧ r = (0, 1)) ∨ (¬ mbP w n m ∧ r = (0, 0))) ∧ w1 = w ∧ n1 = 142) = Q9
  have hR := rgN_of hI
  have h55 := zfld hI (j := 55) (b := (0, 12)) rfl
  have b55 : w 95 55 ≤ (12 : Int) := h55.2
  have h57 := zfld hI (j := 57) (b := (0, 60)) rfl
  have b57 : w 95 57 ≤ (60 : Int) := h57.2
  obtain ⟨y9, hy9⟩ : ∃ q : Nat, w 132 n = (q : Int) := ⟨(w 132 n).toNat, by have q := hR.2.2.2.2.1 n; omega⟩
  obtain ⟨t9, ht9⟩ : ∃ q : Nat, w 133 n = (q : Int) := ⟨(w 133 n).toNat, by have q := hR.2.2.2.2.2.1 n; omega⟩
  have hy99 := hR.2.2.2.2.1 n
  have ht99 := hR.2.2.2.2.2.1 n
  rw [hy9] at hy99
  rw [ht9] at ht99
  have hmb := mb_iff hR hJ.1.2 (n := n) (m := m) (by omega) hy9 ht9
  obtain ⟨d, rfl⟩ : ∃ d9, d = d9 + 1 := ⟨d - 1, by omega⟩
  refine qG.blk 2 (pc' := 4) (ls' := [(2, 45), (0, ((m : Nat) : Int)), (0, ((n : Nat) : Int)), (9, 0), (9, 0)]) (st' := [(2, w 45 8)]) (w' := w) (n' := 142) rfl ?_
  rw [show w 45 8 = 51 from zref hI rfl rfl]
  refine qG.blk 1 (pc' := 5) (ls' := [(2, 45), (0, ((m : Nat) : Int)), (0, ((n : Nat) : Int)), (9, 0), (9, 0)]) (st' := [(0, ((n : Nat) : Int)), (2, 51)]) (w' := w) (n' := 142) rfl ?_
  refine qG.ar (P := 0 ≤ ((n : Nat) : Int) ∧ ((n : Nat) : Int) < ((60 : Nat) : Int)) (P2 := 0 < (51 : Int) ∧ (51 : Int) ≤ ((142 : Nat) : Int)) (pc' := 6) (ls' := [(2, 45), (0, ((m : Nat) : Int)), (0, ((n : Nat) : Int)), (9, 0), (9, 0)]) (st' := [(0, w 51 n)]) (w' := w) (n' := 142) rfl (by omega) (by decide) ?_
  rw [show w 51 n = ((y9 : Nat) : Int) from (hJ.1.1.2.2.2.2.2.1 _).trans hy9]
  refine qG.blk 2 (pc' := 8) (ls' := [(2, 45), (0, ((m : Nat) : Int)), (0, ((n : Nat) : Int)), (0, ((y9 : Nat) : Int)), (9, 0)]) (st' := [(0, ((y9 : Nat) : Int))]) (w' := w) (n' := 142) rfl ?_
  refine qG.call (t := 55) (na := 1) (sk := 0) (md := 0) (ls1 := [(0, ((y9 : Nat) : Int))]) (r1 := []) rfl rfl rfl rfl rfl (K_X4_isYear (Nat.zero_le _) _ _) ?_
  rintro _ w7 _ ⟨rfl, hw7, rfl⟩
  rw [hw7]
  show qG none (d + 1) 72 11 [(2, 45), (0, ((m : Nat) : Int)), (0, ((n : Nat) : Int)), (0, ((y9 : Nat) : Int)), (9, 0)] [(0, isInV ((y9 : Nat) : Int) 0 99)] w 142 Q9
  refine qG.br (P := isInV ((y9 : Nat) : Int) 0 99 = 0) (pc1 := 34) (pc2 := 14) (st1 := []) rfl (fun hy0 => ?_) (fun hy0 => ?_)
  · exfalso; rw [isIn_b] at hy0; omega
  · skip
    refine qG.blk 3 (pc' := 19) (ls' := [(2, 45), (0, ((m : Nat) : Int)), (0, ((n : Nat) : Int)), (0, ((y9 : Nat) : Int)), (9, 0)]) (st' := [(2, w 45 2), (0, ((y9 : Nat) : Int))]) (w' := w) (n' := 142) rfl ?_
    rw [show w 45 2 = 47 from zref hI rfl rfl]
    refine qG.blk 1 (pc' := 20) (ls' := [(2, 45), (0, ((m : Nat) : Int)), (0, ((n : Nat) : Int)), (0, ((y9 : Nat) : Int)), (9, 0)]) (st' := [(0, ((m : Nat) : Int)), (2, 47), (0, ((y9 : Nat) : Int))]) (w' := w) (n' := 142) rfl ?_
    refine qG.ar (P := 0 ≤ ((m : Nat) : Int) ∧ ((m : Nat) : Int) < ((12 : Nat) : Int)) (P2 := 0 < (47 : Int) ∧ (47 : Int) ≤ ((142 : Nat) : Int)) (pc' := 21) (ls' := [(2, 45), (0, ((m : Nat) : Int)), (0, ((n : Nat) : Int)), (0, ((y9 : Nat) : Int)), (9, 0)]) (st' := [(0, w 47 m), (0, ((y9 : Nat) : Int))]) (w' := w) (n' := 142) rfl (by omega) (by decide) ?_
    rw [show w 47 m = w 126 m from hJ.1.1.2.2.2.1 _]
    refine qG.br (P := ((y9 : Nat) : Int) < w 126 m) (pc1 := 34) (pc2 := 24) (st1 := []) rfl (fun h1 => ?_) (fun h1 => ?_)
    · skip
      refine qG.blk 1 (pc' := 35) (ls' := [(2, 45), (0, ((m : Nat) : Int)), (0, ((n : Nat) : Int)), (0, ((y9 : Nat) : Int)), (9, 0)]) (st' := [(0, 0)]) (w' := w) (n' := 142) rfl ?_
      refine qG.ret rfl (by first | rfl | exact decide_eq_true (by omega)) ?_
      subst hQ9
      exact ⟨by first | exact .inl ⟨hmb.mpr ⟨⟨by omega, by omega⟩, by first | exact .inl h0 | exact .inr hb⟩, rfl⟩ | exact .inr ⟨fun z => by have z := hmb.mp z; first | omega | (rcases z.2 with z | z; exact h0 z; exact hb z), rfl⟩, rfl, rfl⟩
    · skip
      refine qG.blk 3 (pc' := 29) (ls' := [(2, 45), (0, ((m : Nat) : Int)), (0, ((n : Nat) : Int)), (0, ((y9 : Nat) : Int)), (9, 0)]) (st' := [(2, w 45 3), (0, ((y9 : Nat) : Int))]) (w' := w) (n' := 142) rfl ?_
      rw [show w 45 3 = 48 from zref hI rfl rfl]
      refine qG.blk 1 (pc' := 30) (ls' := [(2, 45), (0, ((m : Nat) : Int)), (0, ((n : Nat) : Int)), (0, ((y9 : Nat) : Int)), (9, 0)]) (st' := [(0, ((m : Nat) : Int)), (2, 48), (0, ((y9 : Nat) : Int))]) (w' := w) (n' := 142) rfl ?_
      refine qG.ar (P := 0 ≤ ((m : Nat) : Int) ∧ ((m : Nat) : Int) < ((12 : Nat) : Int)) (P2 := 0 < (48 : Int) ∧ (48 : Int) ≤ ((142 : Nat) : Int)) (pc' := 31) (ls' := [(2, 45), (0, ((m : Nat) : Int)), (0, ((n : Nat) : Int)), (0, ((y9 : Nat) : Int)), (9, 0)]) (st' := [(0, w 48 m), (0, ((y9 : Nat) : Int))]) (w' := w) (n' := 142) rfl (by omega) (by decide) ?_
      rw [show w 48 m = w 127 m from hJ.1.1.2.2.2.2.1 _]
      refine qG.br (P := w 127 m < ((y9 : Nat) : Int)) (pc1 := 34) (pc2 := 36) (st1 := []) rfl (fun h2 => ?_) (fun h2 => ?_)
      · skip
        refine qG.blk 1 (pc' := 35) (ls' := [(2, 45), (0, ((m : Nat) : Int)), (0, ((n : Nat) : Int)), (0, ((y9 : Nat) : Int)), (9, 0)]) (st' := [(0, 0)]) (w' := w) (n' := 142) rfl ?_
        refine qG.ret rfl (by first | rfl | exact decide_eq_true (by omega)) ?_
        subst hQ9
        exact ⟨by first | exact .inl ⟨hmb.mpr ⟨⟨by omega, by omega⟩, by first | exact .inl h0 | exact .inr hb⟩, rfl⟩ | exact .inr ⟨fun z => by have z := hmb.mp z; first | omega | (rcases z.2 with z | z; exact h0 z; exact hb z), rfl⟩, rfl, rfl⟩
      · skip
        refine qG.blk 2 (pc' := 40) (ls' := [(2, 45), (0, ((m : Nat) : Int)), (0, ((n : Nat) : Int)), (0, ((y9 : Nat) : Int)), (9, 0)]) (st' := [(2, w 45 5)]) (w' := w) (n' := 142) rfl ?_
        rw [show w 45 5 = 50 from zref hI rfl rfl]
        refine qG.blk 3 (pc' := 44) (ls' := [(2, 45), (0, ((m : Nat) : Int)), (0, ((n : Nat) : Int)), (0, ((y9 : Nat) : Int)), (9, 0)]) (st' := [(0, wrp (((m : Nat) : Int) * 100)), (2, 50)]) (w' := w) (n' := 142) rfl ?_
        rw [show wrp (((m : Nat) : Int) * 100) = ((m * 100 : Nat) : Int) from by rw [wrp_id (by omega) (by omega)]; omega]
        refine qG.blk 2 (pc' := 46) (ls' := [(2, 45), (0, ((m : Nat) : Int)), (0, ((n : Nat) : Int)), (0, ((y9 : Nat) : Int)), (9, 0)]) (st' := [(0, wrp (((m * 100 : Nat) : Int) + ((y9 : Nat) : Int))), (2, 50)]) (w' := w) (n' := 142) rfl ?_
        rw [show wrp (((m * 100 : Nat) : Int) + ((y9 : Nat) : Int)) = ((m * 100 + y9 : Nat) : Int) from by rw [wrp_id (by omega) (by omega)]; omega]
        refine qG.ild (m := 1200) rfl rfl (by omega) (by decide) ?_
        show qG none (d + 1) 72 47 [(2, 45), (0, ((m : Nat) : Int)), (0, ((n : Nat) : Int)), (0, ((y9 : Nat) : Int)), (9, 0)] [(0, w 50 (m * 100 + y9))] w 142 Q9
        refine qG.blk 2 (pc' := 51) (ls' := [(2, 45), (0, ((m : Nat) : Int)), (0, ((n : Nat) : Int)), (0, ((y9 : Nat) : Int)), (0, w 50 (m * 100 + y9))]) (st' := [(0, w 50 (m * 100 + y9))]) (w' := w) (n' := 142) rfl ?_
        refine qG.br (P := w 50 (m * 100 + y9) = 0) (pc1 := 68) (pc2 := 54) (st1 := []) rfl (fun h0 => ?_) (fun h0 => ?_)
        · skip
          refine qG.blk 2 (pc' := 73) (ls' := [(2, 45), (0, ((m : Nat) : Int)), (0, ((n : Nat) : Int)), (0, ((y9 : Nat) : Int)), (0, w 50 (m * 100 + y9))]) (st' := [(0, 1)]) (w' := w) (n' := 142) rfl ?_
          refine qG.ret rfl (by first | rfl | exact decide_eq_true (by omega)) ?_
          subst hQ9
          exact ⟨by first | exact .inl ⟨hmb.mpr ⟨⟨by omega, by omega⟩, by first | exact .inl h0 | exact .inr hb⟩, rfl⟩ | exact .inr ⟨fun z => by have z := hmb.mp z; first | omega | (rcases z.2 with z | z; exact h0 z; exact hb z), rfl⟩, rfl, rfl⟩
        · skip
          refine qG.blk 3 (pc' := 60) (ls' := [(2, 45), (0, ((m : Nat) : Int)), (0, ((n : Nat) : Int)), (0, ((y9 : Nat) : Int)), (0, w 50 (m * 100 + y9))]) (st' := [(2, w 45 9), (0, w 50 (m * 100 + y9))]) (w' := w) (n' := 142) rfl ?_
          rw [show w 45 9 = 52 from zref hI rfl rfl]
          refine qG.blk 1 (pc' := 61) (ls' := [(2, 45), (0, ((m : Nat) : Int)), (0, ((n : Nat) : Int)), (0, ((y9 : Nat) : Int)), (0, w 50 (m * 100 + y9))]) (st' := [(0, ((n : Nat) : Int)), (2, 52), (0, w 50 (m * 100 + y9))]) (w' := w) (n' := 142) rfl ?_
          refine qG.ar (P := 0 ≤ ((n : Nat) : Int) ∧ ((n : Nat) : Int) < ((60 : Nat) : Int)) (P2 := 0 < (52 : Int) ∧ (52 : Int) ≤ ((142 : Nat) : Int)) (pc' := 62) (ls' := [(2, 45), (0, ((m : Nat) : Int)), (0, ((n : Nat) : Int)), (0, ((y9 : Nat) : Int)), (0, w 50 (m * 100 + y9))]) (st' := [(0, w 52 n), (0, w 50 (m * 100 + y9))]) (w' := w) (n' := 142) rfl (by omega) (by decide) ?_
          rw [show w 52 n = ((t9 : Nat) : Int) from (hJ.1.1.2.2.2.2.2.2.1 _).trans ht9]
          refine qG.blk 3 (pc' := 65) (ls' := [(2, 45), (0, ((m : Nat) : Int)), (0, ((n : Nat) : Int)), (0, ((y9 : Nat) : Int)), (0, w 50 (m * 100 + y9))]) (st' := [(0, qand (qush (w 50 (m * 100 + y9)) ((t9 : Nat) : Int)) 1)]) (w' := w) (n' := 142) rfl ?_
          rw [show qand (qush (w 50 (m * 100 + y9)) ((t9 : Nat) : Int)) 1 = (if hbit (w 50 (m * 100 + y9)) t9 = true then 1 else 0) from ush_b (by omega)]
          refine qG.br (P := (if hbit (w 50 (m * 100 + y9)) t9 = true then 1 else 0) = 0) (pc1 := 72) (pc2 := 68) (st1 := []) rfl (fun hb9 => ?_) (fun hb9 => ?_)
          · skip
            have hb : ¬ hbit (w 50 (m * 100 + y9)) t9 = true := ite01.mp hb9
            refine qG.blk 1 (pc' := 73) (ls' := [(2, 45), (0, ((m : Nat) : Int)), (0, ((n : Nat) : Int)), (0, ((y9 : Nat) : Int)), (0, w 50 (m * 100 + y9))]) (st' := [(0, 0)]) (w' := w) (n' := 142) rfl ?_
            refine qG.ret rfl (by first | rfl | exact decide_eq_true (by omega)) ?_
            subst hQ9
            exact ⟨by first | exact .inl ⟨hmb.mpr ⟨⟨by omega, by omega⟩, by first | exact .inl h0 | exact .inr hb⟩, rfl⟩ | exact .inr ⟨fun z => by have z := hmb.mp z; first | omega | (rcases z.2 with z | z; exact h0 z; exact hb z), rfl⟩, rfl, rfl⟩
          · skip
            have hb : hbit (w 50 (m * 100 + y9)) t9 = true := Decidable.of_not_not (fun z => hb9 (ite01.mpr z))
            refine qG.blk 2 (pc' := 73) (ls' := [(2, 45), (0, ((m : Nat) : Int)), (0, ((n : Nat) : Int)), (0, ((y9 : Nat) : Int)), (0, w 50 (m * 100 + y9))]) (st' := [(0, 1)]) (w' := w) (n' := 142) rfl ?_
            refine qG.ret rfl (by first | rfl | exact decide_eq_true (by omega)) ?_
            subst hQ9
            exact ⟨by first | exact .inl ⟨hmb.mpr ⟨⟨by omega, by omega⟩, by first | exact .inl h0 | exact .inr hb⟩, rfl⟩ | exact .inr ⟨fun z => by have z := hmb.mp z; first | omega | (rcases z.2 with z | z; exact h0 z; exact hb z), rfl⟩, rfl, rfl⟩
theorem K_X4_isNight {d : Nat} (hd : 0 ≤ d) (m : Int) (w : qW) (hI : yInv zgf zga zra zSp w) : qG none d 60 0 [(2, 45), (0, m)] [] w 142 (fun (r : qV) (w1 : qW) (n1 : Nat) => r = (0, isInV m 0 (w 45 7 - 1)) ∧ w1 = w ∧ n1 = 142) := by
  generalize hQ9 : (fun (r : qV) (w1 : qW) (n1 : Nat) => r = (0, isInV m 0 (w 45 7 - 1)) ∧ w1 = w ∧ n1 = 142) = Q9
  have q12 := hI.1 45 7 (0, 60) rfl rfl
  have b12 : w 45 7 ≤ (60 : Int) := q12.2
  refine qG.blk 1 (pc' := 1) (ls' := [(2, 45), (0, m)]) (st' := [(0, m)]) (w' := w) (n' := 142) rfl ?_
  refine qG.br (P := m < 0) (pc1 := 22) (pc2 := 4) (st1 := []) rfl (fun h1 => ?_) (fun h1 => ?_)
  · skip
    refine qG.blk 1 (pc' := 23) (ls' := [(2, 45), (0, m)]) (st' := [(0, 0)]) (w' := w) (n' := 142) rfl ?_
    refine qG.ret rfl (by first | rfl | exact decide_eq_true (by omega)) ?_
    subst hQ9
    exact ⟨by unfold isInV; split <;> (try split) <;> first | rfl | (exfalso; omega), rfl, rfl⟩
  · skip
    refine qG.blk 3 (pc' := 9) (ls' := [(2, 45), (0, m)]) (st' := [(0, w 45 7), (0, m)]) (w' := w) (n' := 142) rfl ?_
    refine qG.br (P := m < w 45 7) (pc1 := 12) (pc2 := 22) (st1 := []) rfl (fun h2 => ?_) (fun h2 => ?_)
    · skip
      refine qG.blk 2 (pc' := 15) (ls' := [(2, 45), (0, m)]) (st' := [(0, 60), (0, m)]) (w' := w) (n' := 142) rfl ?_
      refine qG.br (P := m < 60) (pc1 := 18) (pc2 := 22) (st1 := []) rfl (fun h3 => ?_) (fun h3 => ?_)
      · skip
        refine qG.blk 2 (pc' := 23) (ls' := [(2, 45), (0, m)]) (st' := [(0, 1)]) (w' := w) (n' := 142) rfl ?_
        refine qG.ret rfl (by first | rfl | exact decide_eq_true (by omega)) ?_
        subst hQ9
        exact ⟨by unfold isInV; split <;> (try split) <;> first | rfl | (exfalso; omega), rfl, rfl⟩
      · skip
        refine qG.blk 1 (pc' := 23) (ls' := [(2, 45), (0, m)]) (st' := [(0, 0)]) (w' := w) (n' := 142) rfl ?_
        refine qG.ret rfl (by first | rfl | exact decide_eq_true (by omega)) ?_
        subst hQ9
        exact ⟨by unfold isInV; split <;> (try split) <;> first | rfl | (exfalso; omega), rfl, rfl⟩
    · skip
      refine qG.blk 1 (pc' := 23) (ls' := [(2, 45), (0, m)]) (st' := [(0, 0)]) (w' := w) (n' := 142) rfl ?_
      refine qG.ret rfl (by first | rfl | exact decide_eq_true (by omega)) ?_
      subst hQ9
      exact ⟨by unfold isInV; split <;> (try split) <;> first | rfl | (exfalso; omega), rfl, rfl⟩
theorem K_weightOf {d : Nat} (hd : 2 ≤ d) (m n M N : Nat) (w : qW) (hI : yInv zgf zga zra zSp w) (hJ : JQ w) (hM : w 95 55 = (M : Int)) (hN : w 95 57 = (N : Int)) (hm : m < M) (hn : n < N)  : qG none d 71 0 [(2, 45), (0, ((m : Nat) : Int)), (0, ((n : Nat) : Int)), (9, 0), (9, 0)] [] w 142 (fun (r : qV) (w1 : qW) (n1 : Nat) => r = (0, wgV w n m) ∧ w1 = w ∧ n1 = 142) := by
  generalize hQ9 : (fun (r : qV) (w1 : qW) (n1 : Nat) => r = (0, wgV w n m) ∧ w1 = w ∧ n1 = 142) = Q9
  have hR := rgN_of hI
  have h55 := zfld hI (j := 55) (b := (0, 12)) rfl
  have b55 : w 95 55 ≤ (12 : Int) := h55.2
  have h57 := zfld hI (j := 57) (b := (0, 60)) rfl
  have b57 : w 95 57 ≤ (60 : Int) := h57.2
  have hgw := gw_in hR n m
  have hha := haV_in hR n m
  have hp9 := mul_9 hgw.1 hgw.2 hha.1 hha.2
  have q125 := hR.1 m
  have q134 := hR.2.2.2.2.2.2.1 n
  have q136 := hR.2.2.2.2.2.2.2.2.1 n
  have j45 := hJ.1.1.1
  have j457 := hJ.1.1.2.1
  obtain ⟨d, rfl⟩ : ∃ d9, d = d9 + 1 := ⟨d - 1, by omega⟩
  refine qG.blk 2 (pc' := 2) (ls' := [(2, 45), (0, ((m : Nat) : Int)), (0, ((n : Nat) : Int)), (9, 0), (9, 0)]) (st' := [(0, ((m : Nat) : Int)), (2, 45)]) (w' := w) (n' := 142) rfl ?_
  refine qG.call (t := 59) (na := 2) (sk := 1) (md := 1) (ls1 := [(2, 45), (0, ((m : Nat) : Int))]) (r1 := []) rfl rfl rfl rfl rfl (K_X4_isMaster (Nat.zero_le _) ((m : Nat) : Int) w hI) ?_
  rintro _ w7 _ ⟨rfl, hw7, rfl⟩
  rw [hw7]
  show qG none (d + 1) 71 5 [(2, 45), (0, ((m : Nat) : Int)), (0, ((n : Nat) : Int)), (9, 0), (9, 0)] [(0, isInV ((m : Nat) : Int) 0 (w 45 0 - 1))] w 142 Q9
  refine qG.br (P := isInV ((m : Nat) : Int) 0 (w 45 0 - 1) = 0) (pc1 := 25) (pc2 := 8) (st1 := []) rfl (fun hM0 => ?_) (fun hM0 => ?_)
  · exfalso; rw [isIn_b] at hM0; omega
  · skip
    refine qG.blk 2 (pc' := 10) (ls' := [(2, 45), (0, ((m : Nat) : Int)), (0, ((n : Nat) : Int)), (9, 0), (9, 0)]) (st' := [(0, ((n : Nat) : Int)), (2, 45)]) (w' := w) (n' := 142) rfl ?_
    refine qG.call (t := 60) (na := 2) (sk := 1) (md := 1) (ls1 := [(2, 45), (0, ((n : Nat) : Int))]) (r1 := []) rfl rfl rfl rfl rfl (K_X4_isNight (Nat.zero_le _) ((n : Nat) : Int) w hI) ?_
    rintro _ w7 _ ⟨rfl, hw7, rfl⟩
    rw [hw7]
    show qG none (d + 1) 71 13 [(2, 45), (0, ((m : Nat) : Int)), (0, ((n : Nat) : Int)), (9, 0), (9, 0)] [(0, isInV ((n : Nat) : Int) 0 (w 45 7 - 1))] w 142 Q9
    refine qG.br (P := isInV ((n : Nat) : Int) 0 (w 45 7 - 1) = 0) (pc1 := 25) (pc2 := 16) (st1 := []) rfl (fun hN0 => ?_) (fun hN0 => ?_)
    · exfalso; rw [isIn_b] at hN0; omega
    · skip
      refine qG.blk 3 (pc' := 19) (ls' := [(2, 45), (0, ((m : Nat) : Int)), (0, ((n : Nat) : Int)), (9, 0), (9, 0)]) (st' := [(0, ((n : Nat) : Int)), (0, ((m : Nat) : Int)), (2, 45)]) (w' := w) (n' := 142) rfl ?_
      refine qG.call (t := 72) (na := 3) (sk := 1) (md := 1) (ls1 := [(2, 45), (0, ((m : Nat) : Int)), (0, ((n : Nat) : Int)), (9, 0), (9, 0)]) (r1 := []) rfl rfl rfl rfl rfl (K_canHave (by omega) m n M N w hI hJ hM hN hm hn) ?_
      rintro ⟨_, x9⟩ w7 _ ⟨⟨hmy, hx9⟩ | ⟨hmn, hx9⟩, hw7, rfl⟩ <;> obtain ⟨rfl, rfl⟩ := Prod.mk.inj hx9 <;> rw [hw7]
      · skip
        show qG none (d + 1) 71 22 [(2, 45), (0, ((m : Nat) : Int)), (0, ((n : Nat) : Int)), (9, 0), (9, 0)] [(0, 1)] w 142 Q9
        refine qG.br (P := (1 : Int) = 0) (pc1 := 25) (pc2 := 27) (st1 := []) rfl (fun h1 => ?_) (fun h1 => ?_)
        · exact absurd h1 (by decide)
        · skip
          refine qG.blk 2 (pc' := 31) (ls' := [(2, 45), (0, ((m : Nat) : Int)), (0, ((n : Nat) : Int)), (9, 0), (9, 0)]) (st' := [(2, w 45 1)]) (w' := w) (n' := 142) rfl ?_
          rw [show w 45 1 = 46 from zref hI rfl rfl]
          refine qG.blk 1 (pc' := 32) (ls' := [(2, 45), (0, ((m : Nat) : Int)), (0, ((n : Nat) : Int)), (9, 0), (9, 0)]) (st' := [(0, ((m : Nat) : Int)), (2, 46)]) (w' := w) (n' := 142) rfl ?_
          refine qG.ar (P := 0 ≤ ((m : Nat) : Int) ∧ ((m : Nat) : Int) < ((12 : Nat) : Int)) (P2 := 0 < (46 : Int) ∧ (46 : Int) ≤ ((142 : Nat) : Int)) (pc' := 33) (ls' := [(2, 45), (0, ((m : Nat) : Int)), (0, ((n : Nat) : Int)), (9, 0), (9, 0)]) (st' := [(0, w 46 m)]) (w' := w) (n' := 142) rfl (by omega) (by decide) ?_
          rw [show w 46 m = w 125 m from hJ.1.1.2.2.1 _]
          refine qG.blk 2 (pc' := 37) (ls' := [(2, 45), (0, ((m : Nat) : Int)), (0, ((n : Nat) : Int)), (9, 0), (9, 0)]) (st' := [(2, w 45 10), (0, w 125 m)]) (w' := w) (n' := 142) rfl ?_
          rw [show w 45 10 = 53 from zref hI rfl rfl]
          refine qG.blk 1 (pc' := 38) (ls' := [(2, 45), (0, ((m : Nat) : Int)), (0, ((n : Nat) : Int)), (9, 0), (9, 0)]) (st' := [(0, ((n : Nat) : Int)), (2, 53), (0, w 125 m)]) (w' := w) (n' := 142) rfl ?_
          refine qG.ar (P := 0 ≤ ((n : Nat) : Int) ∧ ((n : Nat) : Int) < ((60 : Nat) : Int)) (P2 := 0 < (53 : Int) ∧ (53 : Int) ≤ ((142 : Nat) : Int)) (pc' := 39) (ls' := [(2, 45), (0, ((m : Nat) : Int)), (0, ((n : Nat) : Int)), (9, 0), (9, 0)]) (st' := [(0, w 53 n), (0, w 125 m)]) (w' := w) (n' := 142) rfl (by omega) (by decide) ?_
          rw [show w 53 n = w 134 n from hJ.1.1.2.2.2.2.2.2.2.1 _]
          refine qG.blk 1 (pc' := 40) (ls' := [(2, 45), (0, ((m : Nat) : Int)), (0, ((n : Nat) : Int)), (9, 0), (9, 0)]) (st' := [(0, wrp ((w 125 m) - (w 134 n)))]) (w' := w) (n' := 142) rfl ?_
          rw [show wrp ((w 125 m) - (w 134 n)) = (w 125 m) - (w 134 n) from wrp_id (by omega) (by omega)]
          refine qG.blk 2 (pc' := 44) (ls' := [(2, 45), (0, ((m : Nat) : Int)), (0, ((n : Nat) : Int)), (9, 0), (9, 0)]) (st' := [(2, w 45 11), (0, (w 125 m) - (w 134 n))]) (w' := w) (n' := 142) rfl ?_
          rw [show w 45 11 = 54 from zref hI rfl rfl]
          refine qG.blk 1 (pc' := 45) (ls' := [(2, 45), (0, ((m : Nat) : Int)), (0, ((n : Nat) : Int)), (9, 0), (9, 0)]) (st' := [(0, ((n : Nat) : Int)), (2, 54), (0, (w 125 m) - (w 134 n))]) (w' := w) (n' := 142) rfl ?_
          refine qG.ar (P := 0 ≤ ((n : Nat) : Int) ∧ ((n : Nat) : Int) < ((60 : Nat) : Int)) (P2 := 0 < (54 : Int) ∧ (54 : Int) ≤ ((142 : Nat) : Int)) (pc' := 46) (ls' := [(2, 45), (0, ((m : Nat) : Int)), (0, ((n : Nat) : Int)), (9, 0), (9, 0)]) (st' := [(0, w 54 n), (0, (w 125 m) - (w 134 n))]) (w' := w) (n' := 142) rfl (by omega) (by decide) ?_
          rw [show w 54 n = w 135 n from hJ.1.1.2.2.2.2.2.2.2.2.1 _]
          refine qG.call (t := 73) (na := 2) (sk := 0) (md := 0) (ls1 := [(0, (w 125 m) - (w 134 n)), (0, w 135 n), (9, 0)]) (r1 := []) rfl rfl rfl rfl rfl (K_gameWeight (by omega) (w 125 m - w 134 n) (w 135 n) (by have q1 := hR.1 m; have q2 := hR.2.2.2.2.2.2.1 n; omega) w) ?_
          rintro _ w7 _ ⟨rfl, hw7, rfl⟩
          rw [hw7]
          show qG none (d + 1) 71 49 [(2, 45), (0, ((m : Nat) : Int)), (0, ((n : Nat) : Int)), (9, 0), (9, 0)] [(0, gwV (w 125 m - w 134 n) (w 135 n))] w 142 Q9
          refine qG.blk 3 (pc' := 54) (ls' := [(2, 45), (0, ((m : Nat) : Int)), (0, ((n : Nat) : Int)), (0, gwV (w 125 m - w 134 n) (w 135 n)), (9, 0)]) (st' := [(2, w 45 12)]) (w' := w) (n' := 142) rfl ?_
          rw [show w 45 12 = 55 from zref hI rfl rfl]
          refine qG.blk 1 (pc' := 55) (ls' := [(2, 45), (0, ((m : Nat) : Int)), (0, ((n : Nat) : Int)), (0, gwV (w 125 m - w 134 n) (w 135 n)), (9, 0)]) (st' := [(0, ((n : Nat) : Int)), (2, 55)]) (w' := w) (n' := 142) rfl ?_
          refine qG.ar (P := 0 ≤ ((n : Nat) : Int) ∧ ((n : Nat) : Int) < ((60 : Nat) : Int)) (P2 := 0 < (55 : Int) ∧ (55 : Int) ≤ ((142 : Nat) : Int)) (pc' := 56) (ls' := [(2, 45), (0, ((m : Nat) : Int)), (0, ((n : Nat) : Int)), (0, gwV (w 125 m - w 134 n) (w 135 n)), (9, 0)]) (st' := [(0, w 55 n)]) (w' := w) (n' := 142) rfl (by omega) (by decide) ?_
          rw [show w 55 n = w 136 n from hJ.1.1.2.2.2.2.2.2.2.2.2 _]
          refine qG.blk 2 (pc' := 60) (ls' := [(2, 45), (0, ((m : Nat) : Int)), (0, ((n : Nat) : Int)), (0, gwV (w 125 m - w 134 n) (w 135 n)), (0, w 136 n)]) (st' := [(0, w 136 n)]) (w' := w) (n' := 142) rfl ?_
          refine qG.call (t := 58) (na := 1) (sk := 0) (md := 0) (ls1 := [(0, w 136 n)]) (r1 := []) rfl rfl rfl rfl rfl (K_X4_isAnswer (Nat.zero_le _) _ _) ?_
          rintro _ w7 _ ⟨rfl, hw7, rfl⟩
          rw [hw7]
          show qG none (d + 1) 71 63 [(2, 45), (0, ((m : Nat) : Int)), (0, ((n : Nat) : Int)), (0, gwV (w 125 m - w 134 n) (w 135 n)), (0, w 136 n)] [(0, isInV (w 136 n) 0 2)] w 142 Q9
          refine qG.br (P := isInV (w 136 n) 0 2 = 0) (pc1 := 82) (pc2 := 66) (st1 := []) rfl (fun ha0 => ?_) (fun ha0 => ?_)
          · skip
            rw [isIn_b] at ha0
            refine qG.blk 1 (pc' := 83) (ls' := [(2, 45), (0, ((m : Nat) : Int)), (0, ((n : Nat) : Int)), (0, gwV (w 125 m - w 134 n) (w 135 n)), (0, w 136 n)]) (st' := [(0, gwV (w 125 m - w 134 n) (w 135 n))]) (w' := w) (n' := 142) rfl ?_
            refine qG.ret rfl rfl ?_
            subst hQ9
            exact ⟨congrArg (Prod.mk (0 : Nat)) (by first | exact (wg_n hmn).symm | (rw [wg_y hmy, hha2]; done) | (rw [wg_y hmy, show haV w n m = 1 from if_pos (by omega), Int.mul_one]; done)), rfl, rfl⟩
          · skip
            rw [isIn_p] at ha0
            obtain ⟨a9, ha9⟩ : ∃ q : Nat, w 136 n = (q : Int) := ⟨(w 136 n).toNat, by omega⟩
            rw [ha9]
            have hha2 : haV w n m = w 128 (m * 3 + a9) := (by unfold haV; rw [if_neg (by omega), ha9, Int.toNat_natCast])
            rw [hha2] at hp9
            refine qG.blk 3 (pc' := 71) (ls' := [(2, 45), (0, ((m : Nat) : Int)), (0, ((n : Nat) : Int)), (0, gwV (w 125 m - w 134 n) (w 135 n)), (0, ((a9 : Nat) : Int))]) (st' := [(2, w 45 4), (0, gwV (w 125 m - w 134 n) (w 135 n))]) (w' := w) (n' := 142) rfl ?_
            rw [show w 45 4 = 49 from zref hI rfl rfl]
            refine qG.blk 3 (pc' := 74) (ls' := [(2, 45), (0, ((m : Nat) : Int)), (0, ((n : Nat) : Int)), (0, gwV (w 125 m - w 134 n) (w 135 n)), (0, ((a9 : Nat) : Int))]) (st' := [(0, wrp (((m : Nat) : Int) * 3)), (2, 49), (0, gwV (w 125 m - w 134 n) (w 135 n))]) (w' := w) (n' := 142) rfl ?_
            rw [show wrp (((m : Nat) : Int) * 3) = ((m * 3 : Nat) : Int) from by rw [wrp_id (by omega) (by omega)]; omega]
            refine qG.blk 2 (pc' := 77) (ls' := [(2, 45), (0, ((m : Nat) : Int)), (0, ((n : Nat) : Int)), (0, gwV (w 125 m - w 134 n) (w 135 n)), (0, ((a9 : Nat) : Int))]) (st' := [(0, wrp (((m * 3 : Nat) : Int) + ((a9 : Nat) : Int))), (2, 49), (0, gwV (w 125 m - w 134 n) (w 135 n))]) (w' := w) (n' := 142) rfl ?_
            rw [show wrp (((m * 3 : Nat) : Int) + ((a9 : Nat) : Int)) = ((m * 3 + a9 : Nat) : Int) from by rw [wrp_id (by omega) (by omega)]; omega]
            refine qG.ar (P := 0 ≤ ((m * 3 + a9 : Nat) : Int) ∧ ((m * 3 + a9 : Nat) : Int) < ((36 : Nat) : Int)) (P2 := 0 < (49 : Int) ∧ (49 : Int) ≤ ((142 : Nat) : Int)) (pc' := 78) (ls' := [(2, 45), (0, ((m : Nat) : Int)), (0, ((n : Nat) : Int)), (0, gwV (w 125 m - w 134 n) (w 135 n)), (0, ((a9 : Nat) : Int))]) (st' := [(0, w 49 (m * 3 + a9)), (0, gwV (w 125 m - w 134 n) (w 135 n))]) (w' := w) (n' := 142) rfl (by omega) (by decide) ?_
            rw [show w 49 (m * 3 + a9) = w 128 (m * 3 + a9) from hJ.2.1 _ (by omega)]
            refine qG.blk 1 (pc' := 79) (ls' := [(2, 45), (0, ((m : Nat) : Int)), (0, ((n : Nat) : Int)), (0, gwV (w 125 m - w 134 n) (w 135 n)), (0, ((a9 : Nat) : Int))]) (st' := [(0, wrp ((gwV (w 125 m - w 134 n) (w 135 n)) * (w 128 (m * 3 + a9))))]) (w' := w) (n' := 142) rfl ?_
            rw [show wrp ((gwV (w 125 m - w 134 n) (w 135 n)) * (w 128 (m * 3 + a9))) = gwV (w 125 m - w 134 n) (w 135 n) * w 128 (m * 3 + a9) from wrp_id (by omega) (by omega)]
            refine qG.blk 1 (pc' := 83) (ls' := [(2, 45), (0, ((m : Nat) : Int)), (0, ((n : Nat) : Int)), (0, gwV (w 125 m - w 134 n) (w 135 n)), (0, ((a9 : Nat) : Int))]) (st' := [(0, gwV (w 125 m - w 134 n) (w 135 n) * w 128 (m * 3 + a9))]) (w' := w) (n' := 142) rfl ?_
            refine qG.ret rfl rfl ?_
            subst hQ9
            exact ⟨congrArg (Prod.mk (0 : Nat)) (by first | exact (wg_n hmn).symm | (rw [wg_y hmy, hha2]; done) | (rw [wg_y hmy, show haV w n m = 1 from if_pos (by omega), Int.mul_one]; done)), rfl, rfl⟩
      · skip
        show qG none (d + 1) 71 22 [(2, 45), (0, ((m : Nat) : Int)), (0, ((n : Nat) : Int)), (9, 0), (9, 0)] [(0, 0)] w 142 Q9
        refine qG.br (P := (0 : Int) = 0) (pc1 := 25) (pc2 := 27) (st1 := []) rfl (fun h2 => ?_) (fun h2 => ?_)
        · skip
          refine qG.blk 1 (pc' := 26) (ls' := [(2, 45), (0, ((m : Nat) : Int)), (0, ((n : Nat) : Int)), (9, 0), (9, 0)]) (st' := [(0, 0)]) (w' := w) (n' := 142) rfl ?_
          refine qG.ret rfl rfl ?_
          subst hQ9
          exact ⟨congrArg (Prod.mk (0 : Nat)) (by first | exact (wg_n hmn).symm | (rw [wg_y hmy, hha2]; done) | (rw [wg_y hmy, show haV w n m = 1 from if_pos (by omega), Int.mul_one]; done)), rfl, rfl⟩
        · exact absurd h2 (by decide)
theorem K_mayBe {d : Nat} (hd : 1 ≤ d) (n m M N : Nat) (w : qW) (hI : yInv zgf zga zra zSp w) (hM : w 95 55 = (M : Int)) (hN : w 95 57 = (N : Int)) (hm : m < M) (hn : n < N)  : qG none d 284 0 [(2, 95), (0, ((n : Nat) : Int)), (0, ((m : Nat) : Int)), (9, 0), (9, 0)] [] w 142 (fun (r : qV) (w1 : qW) (n1 : Nat) => ((mbP w n m ∧ r = (0, 1)) ∨ (¬ mbP w n m ∧ r = (0, 0))) ∧ w1 = w ∧ n1 = 142) := by
  generalize hQ9 : (fun (r : qV) (w1 : qW) (n1 : Nat) => ((mbP w n m ∧ r = (0, 1)) ∨ (¬ mbP w n m ∧ r = (0, 0))) ∧ w1 = w ∧ n1 = 142) = Q9
  have hR := rgN_of hI
  have h55 := zfld hI (j := 55) (b := (0, 12)) rfl
  have b55 : w 95 55 ≤ (12 : Int) := h55.2
  have h57 := zfld hI (j := 57) (b := (0, 60)) rfl
  have b57 : w 95 57 ≤ (60 : Int) := h57.2
  have h56 := zfld hI (j := 56) (b := (0, 200)) rfl
  have a56 : (0 : Int) ≤ w 95 56 := h56.1
  have b56 : w 95 56 ≤ (200 : Int) := h56.2
  obtain ⟨Q, hQ⟩ : ∃ q : Nat, w 95 56 = (q : Int) := ⟨(w 95 56).toNat, by omega⟩
  obtain ⟨d, rfl⟩ : ∃ d9, d = d9 + 1 := ⟨d - 1, by omega⟩
  refine qG.blk 2 (pc' := 4) (ls' := [(2, 95), (0, ((n : Nat) : Int)), (0, ((m : Nat) : Int)), (9, 0), (9, 0)]) (st' := [(2, w 95 65)]) (w' := w) (n' := 142) rfl ?_
  rw [show w 95 65 = 132 from zref hI rfl rfl]
  refine qG.blk 1 (pc' := 5) (ls' := [(2, 95), (0, ((n : Nat) : Int)), (0, ((m : Nat) : Int)), (9, 0), (9, 0)]) (st' := [(0, ((n : Nat) : Int)), (2, 132)]) (w' := w) (n' := 142) rfl ?_
  refine qG.ar (P := 0 ≤ ((n : Nat) : Int) ∧ ((n : Nat) : Int) < ((60 : Nat) : Int)) (P2 := 0 < (132 : Int) ∧ (132 : Int) ≤ ((142 : Nat) : Int)) (pc' := 6) (ls' := [(2, 95), (0, ((n : Nat) : Int)), (0, ((m : Nat) : Int)), (9, 0), (9, 0)]) (st' := [(0, w 132 n)]) (w' := w) (n' := 142) rfl (by omega) (by decide) ?_
  refine qG.blk 2 (pc' := 10) (ls' := [(2, 95), (0, ((n : Nat) : Int)), (0, ((m : Nat) : Int)), (9, 0), (9, 0)]) (st' := [(2, w 95 59), (0, w 132 n)]) (w' := w) (n' := 142) rfl ?_
  rw [show w 95 59 = 126 from zref hI rfl rfl]
  refine qG.blk 1 (pc' := 11) (ls' := [(2, 95), (0, ((n : Nat) : Int)), (0, ((m : Nat) : Int)), (9, 0), (9, 0)]) (st' := [(0, ((m : Nat) : Int)), (2, 126), (0, w 132 n)]) (w' := w) (n' := 142) rfl ?_
  refine qG.ar (P := 0 ≤ ((m : Nat) : Int) ∧ ((m : Nat) : Int) < ((12 : Nat) : Int)) (P2 := 0 < (126 : Int) ∧ (126 : Int) ≤ ((142 : Nat) : Int)) (pc' := 12) (ls' := [(2, 95), (0, ((n : Nat) : Int)), (0, ((m : Nat) : Int)), (9, 0), (9, 0)]) (st' := [(0, w 126 m), (0, w 132 n)]) (w' := w) (n' := 142) rfl (by omega) (by decide) ?_
  refine qG.blk 2 (pc' := 16) (ls' := [(2, 95), (0, ((n : Nat) : Int)), (0, ((m : Nat) : Int)), (9, 0), (9, 0)]) (st' := [(2, w 95 60), (0, w 126 m), (0, w 132 n)]) (w' := w) (n' := 142) rfl ?_
  rw [show w 95 60 = 127 from zref hI rfl rfl]
  refine qG.blk 1 (pc' := 17) (ls' := [(2, 95), (0, ((n : Nat) : Int)), (0, ((m : Nat) : Int)), (9, 0), (9, 0)]) (st' := [(0, ((m : Nat) : Int)), (2, 127), (0, w 126 m), (0, w 132 n)]) (w' := w) (n' := 142) rfl ?_
  refine qG.ar (P := 0 ≤ ((m : Nat) : Int) ∧ ((m : Nat) : Int) < ((12 : Nat) : Int)) (P2 := 0 < (127 : Int) ∧ (127 : Int) ≤ ((142 : Nat) : Int)) (pc' := 18) (ls' := [(2, 95), (0, ((n : Nat) : Int)), (0, ((m : Nat) : Int)), (9, 0), (9, 0)]) (st' := [(0, w 127 m), (0, w 126 m), (0, w 132 n)]) (w' := w) (n' := 142) rfl (by omega) (by decide) ?_
  refine qG.call (t := 206) (na := 3) (sk := 0) (md := 0) (ls1 := [(0, w 132 n), (0, w 126 m), (0, w 127 m)]) (r1 := []) rfl rfl rfl rfl rfl (K_isIn (Nat.zero_le _) _ _ _ _) ?_
  rintro _ w7 _ ⟨rfl, hw7, rfl⟩
  rw [hw7]
  show qG none (d + 1) 284 21 [(2, 95), (0, ((n : Nat) : Int)), (0, ((m : Nat) : Int)), (9, 0), (9, 0)] [(0, isInV (w 132 n) (w 126 m) (w 127 m))] w 142 Q9
  refine qG.br (P := isInV (w 132 n) (w 126 m) (w 127 m) = 0) (pc1 := 24) (pc2 := 26) (st1 := []) rfl (fun hy0 => ?_) (fun hy0 => ?_)
  · skip
    rw [isIn_b] at hy0
    refine qG.blk 1 (pc' := 25) (ls' := [(2, 95), (0, ((n : Nat) : Int)), (0, ((m : Nat) : Int)), (9, 0), (9, 0)]) (st' := [(0, 0)]) (w' := w) (n' := 142) rfl ?_
    refine qG.ret rfl (by first | rfl | exact decide_eq_true (by omega)) ?_
    subst hQ9
    refine ⟨?_, rfl, rfl⟩; first | exact .inr ⟨fun z => hy0 z.1, rfl⟩ | exact .inl ⟨⟨hy0, .inr ⟨k, by omega, hq1, hq2, hq3⟩⟩, rfl⟩ | exact .inl ⟨⟨hy0, .inl (fun i hi z1 => hI31.2.2.2.2 (by omega) i (by omega) z1)⟩, rfl⟩ | exact .inr ⟨fun z => (by obtain ⟨i, hi, i1, i2⟩ := hI31.2.2.2.1 (by omega); rcases z.2 with z | ⟨j, j1, j2, j3, j4⟩; exact z i (by omega) i1 i2; exact hI31.2.2.1 j (by omega) j2 j3 j4), rfl⟩
  · skip
    rw [isIn_p] at hy0
    refine qG.blk 4 (pc' := 31) (ls' := [(2, 95), (0, ((n : Nat) : Int)), (0, ((m : Nat) : Int)), (0, 0), (0, 0)]) (st' := []) (w' := w) (n' := 142) rfl ?_
    have L31 : ∀ (m9 : Nat) (k : Nat) (x3 : Int), Q - k = m9 → (k ≤ Q ∧ (x3 = 0 ∨ x3 = 1) ∧ (∀ i : Nat, i < k → w 129 i = (m : Int) → w 131 i = w 132 n → ¬ w 130 i = w 133 n) ∧ (x3 = 1 → stE w n m k) ∧ (x3 = 0 → ∀ i : Nat, i < k → w 129 i = (m : Int) → ¬ w 131 i = w 132 n)) → qG none (d + 1) 284 31 [(2, 95), (0, ((n : Nat) : Int)), (0, ((m : Nat) : Int)), (0, x3), (0, ((k : Nat) : Int))] [] w 142 Q9 := by
      intro m9
      induction m9 using Nat.strongRecOn with
      | ind m9 ih31 =>
      intro k x3 hm31 hI31
      refine qG.blk 3 (pc' := 37) (ls' := [(2, 95), (0, ((n : Nat) : Int)), (0, ((m : Nat) : Int)), (0, x3), (0, ((k : Nat) : Int))]) (st' := [(0, w 95 56), (0, ((k : Nat) : Int))]) (w' := w) (n' := 142) rfl ?_
      rw [show w 95 56 = ((Q : Nat) : Int) from hQ]
      refine qG.br (P := ((k : Nat) : Int) < ((Q : Nat) : Int)) (pc1 := 40) (pc2 := 96) (st1 := []) rfl (fun hk => ?_) (fun hk => ?_)
      · skip
        refine qG.blk 2 (pc' := 44) (ls' := [(2, 95), (0, ((n : Nat) : Int)), (0, ((m : Nat) : Int)), (0, x3), (0, ((k : Nat) : Int))]) (st' := [(2, w 95 62)]) (w' := w) (n' := 142) rfl ?_
        rw [show w 95 62 = 129 from zref hI rfl rfl]
        refine qG.blk 1 (pc' := 46) (ls' := [(2, 95), (0, ((n : Nat) : Int)), (0, ((m : Nat) : Int)), (0, x3), (0, ((k : Nat) : Int))]) (st' := [(0, ((k : Nat) : Int)), (2, 129)]) (w' := w) (n' := 142) rfl ?_
        refine qG.ild (m := 200) rfl rfl (by omega) (by decide) ?_
        show qG none (d + 1) 284 47 [(2, 95), (0, ((n : Nat) : Int)), (0, ((m : Nat) : Int)), (0, x3), (0, ((k : Nat) : Int))] [(0, w 129 k)] w 142 Q9
        refine qG.blk 1 (pc' := 48) (ls' := [(2, 95), (0, ((n : Nat) : Int)), (0, ((m : Nat) : Int)), (0, x3), (0, ((k : Nat) : Int))]) (st' := [(0, ((m : Nat) : Int)), (0, w 129 k)]) (w' := w) (n' := 142) rfl ?_
        refine qG.br (P := w 129 k = ((m : Nat) : Int)) (pc1 := 51) (pc2 := 90) (st1 := []) rfl (fun hq1 => ?_) (fun hq1 => ?_)
        · skip
          refine qG.blk 2 (pc' := 55) (ls' := [(2, 95), (0, ((n : Nat) : Int)), (0, ((m : Nat) : Int)), (0, x3), (0, ((k : Nat) : Int))]) (st' := [(2, w 95 64)]) (w' := w) (n' := 142) rfl ?_
          rw [show w 95 64 = 131 from zref hI rfl rfl]
          refine qG.blk 1 (pc' := 57) (ls' := [(2, 95), (0, ((n : Nat) : Int)), (0, ((m : Nat) : Int)), (0, x3), (0, ((k : Nat) : Int))]) (st' := [(0, ((k : Nat) : Int)), (2, 131)]) (w' := w) (n' := 142) rfl ?_
          refine qG.ild (m := 200) rfl rfl (by omega) (by decide) ?_
          show qG none (d + 1) 284 58 [(2, 95), (0, ((n : Nat) : Int)), (0, ((m : Nat) : Int)), (0, x3), (0, ((k : Nat) : Int))] [(0, w 131 k)] w 142 Q9
          refine qG.blk 2 (pc' := 62) (ls' := [(2, 95), (0, ((n : Nat) : Int)), (0, ((m : Nat) : Int)), (0, x3), (0, ((k : Nat) : Int))]) (st' := [(2, w 95 65), (0, w 131 k)]) (w' := w) (n' := 142) rfl ?_
          rw [show w 95 65 = 132 from zref hI rfl rfl]
          refine qG.blk 1 (pc' := 63) (ls' := [(2, 95), (0, ((n : Nat) : Int)), (0, ((m : Nat) : Int)), (0, x3), (0, ((k : Nat) : Int))]) (st' := [(0, ((n : Nat) : Int)), (2, 132), (0, w 131 k)]) (w' := w) (n' := 142) rfl ?_
          refine qG.ar (P := 0 ≤ ((n : Nat) : Int) ∧ ((n : Nat) : Int) < ((60 : Nat) : Int)) (P2 := 0 < (132 : Int) ∧ (132 : Int) ≤ ((142 : Nat) : Int)) (pc' := 64) (ls' := [(2, 95), (0, ((n : Nat) : Int)), (0, ((m : Nat) : Int)), (0, x3), (0, ((k : Nat) : Int))]) (st' := [(0, w 132 n), (0, w 131 k)]) (w' := w) (n' := 142) rfl (by omega) (by decide) ?_
          refine qG.br (P := w 131 k = w 132 n) (pc1 := 70) (pc2 := 67) (st1 := []) rfl (fun hq2 => ?_) (fun hq2 => ?_)
          · skip
            refine qG.blk 2 (pc' := 74) (ls' := [(2, 95), (0, ((n : Nat) : Int)), (0, ((m : Nat) : Int)), (0, x3), (0, ((k : Nat) : Int))]) (st' := [(2, w 95 63)]) (w' := w) (n' := 142) rfl ?_
            rw [show w 95 63 = 130 from zref hI rfl rfl]
            refine qG.blk 1 (pc' := 76) (ls' := [(2, 95), (0, ((n : Nat) : Int)), (0, ((m : Nat) : Int)), (0, x3), (0, ((k : Nat) : Int))]) (st' := [(0, ((k : Nat) : Int)), (2, 130)]) (w' := w) (n' := 142) rfl ?_
            refine qG.ild (m := 200) rfl rfl (by omega) (by decide) ?_
            show qG none (d + 1) 284 77 [(2, 95), (0, ((n : Nat) : Int)), (0, ((m : Nat) : Int)), (0, x3), (0, ((k : Nat) : Int))] [(0, w 130 k)] w 142 Q9
            refine qG.blk 2 (pc' := 81) (ls' := [(2, 95), (0, ((n : Nat) : Int)), (0, ((m : Nat) : Int)), (0, x3), (0, ((k : Nat) : Int))]) (st' := [(2, w 95 66), (0, w 130 k)]) (w' := w) (n' := 142) rfl ?_
            rw [show w 95 66 = 133 from zref hI rfl rfl]
            refine qG.blk 1 (pc' := 82) (ls' := [(2, 95), (0, ((n : Nat) : Int)), (0, ((m : Nat) : Int)), (0, x3), (0, ((k : Nat) : Int))]) (st' := [(0, ((n : Nat) : Int)), (2, 133), (0, w 130 k)]) (w' := w) (n' := 142) rfl ?_
            refine qG.ar (P := 0 ≤ ((n : Nat) : Int) ∧ ((n : Nat) : Int) < ((60 : Nat) : Int)) (P2 := 0 < (133 : Int) ∧ (133 : Int) ≤ ((142 : Nat) : Int)) (pc' := 83) (ls' := [(2, 95), (0, ((n : Nat) : Int)), (0, ((m : Nat) : Int)), (0, x3), (0, ((k : Nat) : Int))]) (st' := [(0, w 133 n), (0, w 130 k)]) (w' := w) (n' := 142) rfl (by omega) (by decide) ?_
            refine qG.br (P := w 130 k = w 133 n) (pc1 := 86) (pc2 := 88) (st1 := []) rfl (fun hq3 => ?_) (fun hq3 => ?_)
            · skip
              refine qG.blk 1 (pc' := 87) (ls' := [(2, 95), (0, ((n : Nat) : Int)), (0, ((m : Nat) : Int)), (0, x3), (0, ((k : Nat) : Int))]) (st' := [(0, 1)]) (w' := w) (n' := 142) rfl ?_
              refine qG.ret rfl (by first | rfl | exact decide_eq_true (by omega)) ?_
              subst hQ9
              refine ⟨?_, rfl, rfl⟩; first | exact .inr ⟨fun z => hy0 z.1, rfl⟩ | exact .inl ⟨⟨hy0, .inr ⟨k, by omega, hq1, hq2, hq3⟩⟩, rfl⟩ | exact .inl ⟨⟨hy0, .inl (fun i hi z1 => hI31.2.2.2.2 (by omega) i (by omega) z1)⟩, rfl⟩ | exact .inr ⟨fun z => (by obtain ⟨i, hi, i1, i2⟩ := hI31.2.2.2.1 (by omega); rcases z.2 with z | ⟨j, j1, j2, j3, j4⟩; exact z i (by omega) i1 i2; exact hI31.2.2.1 j (by omega) j2 j3 j4), rfl⟩
            · skip
              refine qG.blk 3 (pc' := 93) (ls' := [(2, 95), (0, ((n : Nat) : Int)), (0, ((m : Nat) : Int)), (0, 1), (0, wrp (((k : Nat) : Int) + 1))]) (st' := []) (w' := w) (n' := 142) rfl ?_
              rw [show wrp (((k : Nat) : Int) + 1) = ((k + 1 : Nat) : Int) from wrp_id (by omega) (by omega)]
              refine qG.blk 1 (pc' := 31) (ls' := [(2, 95), (0, ((n : Nat) : Int)), (0, ((m : Nat) : Int)), (0, 1), (0, ((k + 1 : Nat) : Int))]) (st' := []) (w' := w) (n' := 142) rfl ?_
              exact ih31 _ (by omega) (k + 1) (1) rfl (⟨by omega, .inr rfl, fun i hi z1 z2 => (by by_cases e : i = k; (subst e; exact hq3); exact hI31.2.2.1 i (by omega) z1 z2), fun _ => ⟨k, by omega, hq1, hq2⟩, fun z => absurd z (by decide)⟩)
          · skip
            refine qG.blk 2 (pc' := 93) (ls' := [(2, 95), (0, ((n : Nat) : Int)), (0, ((m : Nat) : Int)), (0, x3), (0, wrp (((k : Nat) : Int) + 1))]) (st' := []) (w' := w) (n' := 142) rfl ?_
            rw [show wrp (((k : Nat) : Int) + 1) = ((k + 1 : Nat) : Int) from wrp_id (by omega) (by omega)]
            refine qG.blk 1 (pc' := 31) (ls' := [(2, 95), (0, ((n : Nat) : Int)), (0, ((m : Nat) : Int)), (0, x3), (0, ((k + 1 : Nat) : Int))]) (st' := []) (w' := w) (n' := 142) rfl ?_
            exact ih31 _ (by omega) (k + 1) (x3) rfl (⟨by omega, hI31.2.1, fun i hi z1 z2 => (by by_cases e : i = k; (subst e; first | exact absurd z1 hq1 | exact absurd z2 hq2); exact hI31.2.2.1 i (by omega) z1 z2), fun z => (by obtain ⟨i, hi, z⟩ := hI31.2.2.2.1 z; exact ⟨i, by omega, z⟩), fun z i hi z1 z2 => (by by_cases e : i = k; (subst e; first | exact hq1 z1 | exact hq2 z2); exact hI31.2.2.2.2 z i (by omega) z1 z2)⟩)
        · skip
          refine qG.blk 1 (pc' := 93) (ls' := [(2, 95), (0, ((n : Nat) : Int)), (0, ((m : Nat) : Int)), (0, x3), (0, wrp (((k : Nat) : Int) + 1))]) (st' := []) (w' := w) (n' := 142) rfl ?_
          rw [show wrp (((k : Nat) : Int) + 1) = ((k + 1 : Nat) : Int) from wrp_id (by omega) (by omega)]
          refine qG.blk 1 (pc' := 31) (ls' := [(2, 95), (0, ((n : Nat) : Int)), (0, ((m : Nat) : Int)), (0, x3), (0, ((k + 1 : Nat) : Int))]) (st' := []) (w' := w) (n' := 142) rfl ?_
          exact ih31 _ (by omega) (k + 1) (x3) rfl (⟨by omega, hI31.2.1, fun i hi z1 z2 => (by by_cases e : i = k; (subst e; first | exact absurd z1 hq1 | exact absurd z2 hq2); exact hI31.2.2.1 i (by omega) z1 z2), fun z => (by obtain ⟨i, hi, z⟩ := hI31.2.2.2.1 z; exact ⟨i, by omega, z⟩), fun z i hi z1 z2 => (by by_cases e : i = k; (subst e; first | exact hq1 z1 | exact hq2 z2); exact hI31.2.2.2.2 z i (by omega) z1 z2)⟩)
      · skip
        refine qG.blk 1 (pc' := 97) (ls' := [(2, 95), (0, ((n : Nat) : Int)), (0, ((m : Nat) : Int)), (0, x3), (0, ((k : Nat) : Int))]) (st' := [(0, x3)]) (w' := w) (n' := 142) rfl ?_
        refine qG.br (P := x3 = 0) (pc1 := 100) (pc2 := 104) (st1 := []) rfl (fun hx => ?_) (fun hx => ?_)
        · skip
          refine qG.blk 2 (pc' := 105) (ls' := [(2, 95), (0, ((n : Nat) : Int)), (0, ((m : Nat) : Int)), (0, x3), (0, ((k : Nat) : Int))]) (st' := [(0, 1)]) (w' := w) (n' := 142) rfl ?_
          refine qG.ret rfl (by first | rfl | exact decide_eq_true (by omega)) ?_
          subst hQ9
          refine ⟨?_, rfl, rfl⟩; first | exact .inr ⟨fun z => hy0 z.1, rfl⟩ | exact .inl ⟨⟨hy0, .inr ⟨k, by omega, hq1, hq2, hq3⟩⟩, rfl⟩ | exact .inl ⟨⟨hy0, .inl (fun i hi z1 => hI31.2.2.2.2 (by omega) i (by omega) z1)⟩, rfl⟩ | exact .inr ⟨fun z => (by obtain ⟨i, hi, i1, i2⟩ := hI31.2.2.2.1 (by omega); rcases z.2 with z | ⟨j, j1, j2, j3, j4⟩; exact z i (by omega) i1 i2; exact hI31.2.2.1 j (by omega) j2 j3 j4), rfl⟩
        · skip
          refine qG.blk 1 (pc' := 105) (ls' := [(2, 95), (0, ((n : Nat) : Int)), (0, ((m : Nat) : Int)), (0, x3), (0, ((k : Nat) : Int))]) (st' := [(0, 0)]) (w' := w) (n' := 142) rfl ?_
          refine qG.ret rfl (by first | rfl | exact decide_eq_true (by omega)) ?_
          subst hQ9
          refine ⟨?_, rfl, rfl⟩; first | exact .inr ⟨fun z => hy0 z.1, rfl⟩ | exact .inl ⟨⟨hy0, .inr ⟨k, by omega, hq1, hq2, hq3⟩⟩, rfl⟩ | exact .inl ⟨⟨hy0, .inl (fun i hi z1 => hI31.2.2.2.2 (by omega) i (by omega) z1)⟩, rfl⟩ | exact .inr ⟨fun z => (by obtain ⟨i, hi, i1, i2⟩ := hI31.2.2.2.1 (by omega); rcases z.2 with z | ⟨j, j1, j2, j3, j4⟩; exact z i (by omega) i1 i2; exact hI31.2.2.1 j (by omega) j2 j3 j4), rfl⟩
    exact L31 _ (0) (0) rfl (⟨by omega, .inl rfl, fun i hi => absurd hi (Nat.not_lt_zero i), fun z => absurd z (by decide), fun _ i hi => absurd hi (Nat.not_lt_zero i)⟩)
theorem K_weight {d : Nat} (hd : 2 ≤ d) (n m M N : Nat) (w : qW) (hI : yInv zgf zga zra zSp w) (hM : w 95 55 = (M : Int)) (hN : w 95 57 = (N : Int)) (hm : m < M) (hn : n < N)  : qG none d 285 0 [(2, 95), (0, ((n : Nat) : Int)), (0, ((m : Nat) : Int)), (9, 0), (9, 0)] [] w 142 (fun (r : qV) (w1 : qW) (n1 : Nat) => r = (0, wgV w n m) ∧ w1 = w ∧ n1 = 142) := by
  generalize hQ9 : (fun (r : qV) (w1 : qW) (n1 : Nat) => r = (0, wgV w n m) ∧ w1 = w ∧ n1 = 142) = Q9
  have hR := rgN_of hI
  have h55 := zfld hI (j := 55) (b := (0, 12)) rfl
  have b55 : w 95 55 ≤ (12 : Int) := h55.2
  have h57 := zfld hI (j := 57) (b := (0, 60)) rfl
  have b57 : w 95 57 ≤ (60 : Int) := h57.2
  have hgw := gw_in hR n m
  have hha := haV_in hR n m
  have hp9 := mul_9 hgw.1 hgw.2 hha.1 hha.2
  have q125 := hR.1 m
  have q134 := hR.2.2.2.2.2.2.1 n
  have q135 := hR.2.2.2.2.2.2.2.1 n
  have q136 := hR.2.2.2.2.2.2.2.2.1 n
  have hc := adV_c (w 125 m - w 134 n)
  obtain ⟨d9, hd9⟩ : ∃ z : Int, w 125 m - w 134 n = z := ⟨_, rfl⟩
  obtain ⟨d, rfl⟩ : ∃ d9, d = d9 + 1 := ⟨d - 1, by omega⟩
  refine qG.blk 3 (pc' := 3) (ls' := [(2, 95), (0, ((n : Nat) : Int)), (0, ((m : Nat) : Int)), (9, 0), (9, 0)]) (st' := [(0, ((m : Nat) : Int)), (0, ((n : Nat) : Int)), (2, 95)]) (w' := w) (n' := 142) rfl ?_
  refine qG.call (t := 284) (na := 3) (sk := 1) (md := 1) (ls1 := [(2, 95), (0, ((n : Nat) : Int)), (0, ((m : Nat) : Int)), (9, 0), (9, 0)]) (r1 := []) rfl rfl rfl rfl rfl (K_mayBe (by omega) n m M N w hI hM hN hm hn) ?_
  rintro ⟨_, x9⟩ w7 _ ⟨⟨hmy, hx9⟩ | ⟨hmn, hx9⟩, hw7, rfl⟩ <;> obtain ⟨rfl, rfl⟩ := Prod.mk.inj hx9 <;> rw [hw7]
  · skip
    show qG none (d + 1) 285 6 [(2, 95), (0, ((n : Nat) : Int)), (0, ((m : Nat) : Int)), (9, 0), (9, 0)] [(0, 1)] w 142 Q9
    refine qG.br (P := (1 : Int) = 0) (pc1 := 9) (pc2 := 11) (st1 := []) rfl (fun h1 => ?_) (fun h1 => ?_)
    · exact absurd h1 (by decide)
    · skip
      refine qG.blk 2 (pc' := 15) (ls' := [(2, 95), (0, ((n : Nat) : Int)), (0, ((m : Nat) : Int)), (9, 0), (9, 0)]) (st' := [(2, w 95 58)]) (w' := w) (n' := 142) rfl ?_
      rw [show w 95 58 = 125 from zref hI rfl rfl]
      refine qG.blk 1 (pc' := 16) (ls' := [(2, 95), (0, ((n : Nat) : Int)), (0, ((m : Nat) : Int)), (9, 0), (9, 0)]) (st' := [(0, ((m : Nat) : Int)), (2, 125)]) (w' := w) (n' := 142) rfl ?_
      refine qG.ar (P := 0 ≤ ((m : Nat) : Int) ∧ ((m : Nat) : Int) < ((12 : Nat) : Int)) (P2 := 0 < (125 : Int) ∧ (125 : Int) ≤ ((142 : Nat) : Int)) (pc' := 17) (ls' := [(2, 95), (0, ((n : Nat) : Int)), (0, ((m : Nat) : Int)), (9, 0), (9, 0)]) (st' := [(0, w 125 m)]) (w' := w) (n' := 142) rfl (by omega) (by decide) ?_
      refine qG.blk 2 (pc' := 21) (ls' := [(2, 95), (0, ((n : Nat) : Int)), (0, ((m : Nat) : Int)), (9, 0), (9, 0)]) (st' := [(2, w 95 67), (0, w 125 m)]) (w' := w) (n' := 142) rfl ?_
      rw [show w 95 67 = 134 from zref hI rfl rfl]
      refine qG.blk 1 (pc' := 22) (ls' := [(2, 95), (0, ((n : Nat) : Int)), (0, ((m : Nat) : Int)), (9, 0), (9, 0)]) (st' := [(0, ((n : Nat) : Int)), (2, 134), (0, w 125 m)]) (w' := w) (n' := 142) rfl ?_
      refine qG.ar (P := 0 ≤ ((n : Nat) : Int) ∧ ((n : Nat) : Int) < ((60 : Nat) : Int)) (P2 := 0 < (134 : Int) ∧ (134 : Int) ≤ ((142 : Nat) : Int)) (pc' := 23) (ls' := [(2, 95), (0, ((n : Nat) : Int)), (0, ((m : Nat) : Int)), (9, 0), (9, 0)]) (st' := [(0, w 134 n), (0, w 125 m)]) (w' := w) (n' := 142) rfl (by omega) (by decide) ?_
      refine qG.blk 1 (pc' := 24) (ls' := [(2, 95), (0, ((n : Nat) : Int)), (0, ((m : Nat) : Int)), (9, 0), (9, 0)]) (st' := [(0, wrp ((w 125 m) - (w 134 n)))]) (w' := w) (n' := 142) rfl ?_
      rw [show wrp ((w 125 m) - (w 134 n)) = d9 from by rw [wrp_id (by omega) (by omega)]; exact hd9]
      refine qG.blk 3 (pc' := 29) (ls' := [(2, 95), (0, ((n : Nat) : Int)), (0, ((m : Nat) : Int)), (0, d9), (9, 0)]) (st' := [(2, w 95 68)]) (w' := w) (n' := 142) rfl ?_
      rw [show w 95 68 = 135 from zref hI rfl rfl]
      refine qG.blk 1 (pc' := 30) (ls' := [(2, 95), (0, ((n : Nat) : Int)), (0, ((m : Nat) : Int)), (0, d9), (9, 0)]) (st' := [(0, ((n : Nat) : Int)), (2, 135)]) (w' := w) (n' := 142) rfl ?_
      refine qG.ar (P := 0 ≤ ((n : Nat) : Int) ∧ ((n : Nat) : Int) < ((60 : Nat) : Int)) (P2 := 0 < (135 : Int) ∧ (135 : Int) ≤ ((142 : Nat) : Int)) (pc' := 31) (ls' := [(2, 95), (0, ((n : Nat) : Int)), (0, ((m : Nat) : Int)), (0, d9), (9, 0)]) (st' := [(0, w 135 n)]) (w' := w) (n' := 142) rfl (by omega) (by decide) ?_
      refine qG.blk 1 (pc' := 32) (ls' := [(2, 95), (0, ((n : Nat) : Int)), (0, ((m : Nat) : Int)), (0, d9), (9, 0)]) (st' := [(0, 2), (0, w 135 n)]) (w' := w) (n' := 142) rfl ?_
      refine qG.br (P := w 135 n = 2) (pc1 := 35) (pc2 := 42) (st1 := []) rfl (fun he2 => ?_) (fun he2 => ?_)
      · skip
        refine qG.blk 3 (pc' := 39) (ls' := [(2, 95), (0, ((n : Nat) : Int)), (0, ((m : Nat) : Int)), (0, d9), (9, 0)]) (st' := [(0, wrp (50 + d9))]) (w' := w) (n' := 142) rfl ?_
        rw [show wrp (50 + d9) = 50 + d9 from wrp_id (by omega) (by omega)]
        refine qG.blk 4 (pc' := 78) (ls' := [(2, 95), (0, ((n : Nat) : Int)), (0, ((m : Nat) : Int)), (0, d9), (0, 50 + d9)]) (st' := [(0, 1), (0, 50 + d9)]) (w' := w) (n' := 142) rfl ?_
        refine qG.br (P := 50 + d9 < 1) (pc1 := 81) (pc2 := 85) (st1 := []) rfl (fun hv1 => ?_) (fun hv1 => ?_)
        · skip
          refine qG.blk 3 (pc' := 111) (ls' := [(2, 95), (0, ((n : Nat) : Int)), (0, ((m : Nat) : Int)), (0, d9), (0, 1)]) (st' := []) (w' := w) (n' := 142) rfl ?_
          have egw : (1 : Int) = gwV (w 125 m - w 134 n) (w 135 n) := (by rw [hd9]; rw [hd9] at hc; unfold gwV; (repeat' split) <;> omega)
          rw [egw]
          refine qG.blk 3 (pc' := 117) (ls' := [(2, 95), (0, ((n : Nat) : Int)), (0, ((m : Nat) : Int)), (0, d9), (0, gwV (w 125 m - w 134 n) (w 135 n))]) (st' := [(2, w 95 69), (0, gwV (w 125 m - w 134 n) (w 135 n))]) (w' := w) (n' := 142) rfl ?_
          rw [show w 95 69 = 136 from zref hI rfl rfl]
          refine qG.blk 1 (pc' := 118) (ls' := [(2, 95), (0, ((n : Nat) : Int)), (0, ((m : Nat) : Int)), (0, d9), (0, gwV (w 125 m - w 134 n) (w 135 n))]) (st' := [(0, ((n : Nat) : Int)), (2, 136), (0, gwV (w 125 m - w 134 n) (w 135 n))]) (w' := w) (n' := 142) rfl ?_
          refine qG.ar (P := 0 ≤ ((n : Nat) : Int) ∧ ((n : Nat) : Int) < ((60 : Nat) : Int)) (P2 := 0 < (136 : Int) ∧ (136 : Int) ≤ ((142 : Nat) : Int)) (pc' := 119) (ls' := [(2, 95), (0, ((n : Nat) : Int)), (0, ((m : Nat) : Int)), (0, d9), (0, gwV (w 125 m - w 134 n) (w 135 n))]) (st' := [(0, w 136 n), (0, gwV (w 125 m - w 134 n) (w 135 n))]) (w' := w) (n' := 142) rfl (by omega) (by decide) ?_
          refine qG.blk 1 (pc' := 120) (ls' := [(2, 95), (0, ((n : Nat) : Int)), (0, ((m : Nat) : Int)), (0, d9), (0, gwV (w 125 m - w 134 n) (w 135 n))]) (st' := [(0, (-1)), (0, w 136 n), (0, gwV (w 125 m - w 134 n) (w 135 n))]) (w' := w) (n' := 142) rfl ?_
          refine qG.br (P := w 136 n = (-1)) (pc1 := 123) (pc2 := 127) (st1 := [(0, gwV (w 125 m - w 134 n) (w 135 n))]) rfl (fun ha1 => ?_) (fun ha1 => ?_)
          · skip
            refine qG.blk 3 (pc' := 143) (ls' := [(2, 95), (0, ((n : Nat) : Int)), (0, ((m : Nat) : Int)), (0, d9), (0, gwV (w 125 m - w 134 n) (w 135 n))]) (st' := [(0, wrp ((gwV (w 125 m - w 134 n) (w 135 n)) * 1))]) (w' := w) (n' := 142) rfl ?_
            rw [show wrp ((gwV (w 125 m - w 134 n) (w 135 n)) * 1) = (gwV (w 125 m - w 134 n) (w 135 n)) * 1 from wrp_id (by omega) (by omega)]
            refine qG.ret rfl rfl ?_
            subst hQ9
            exact ⟨congrArg (Prod.mk (0 : Nat)) (by first | exact (wg_n hmn).symm | (rw [wg_y hmy, hha2]; done) | (rw [wg_y hmy, show haV w n m = 1 from if_pos ha1]; done)), rfl, rfl⟩
          · skip
            obtain ⟨a9, ha9⟩ : ∃ q : Nat, w 136 n = (q : Int) := ⟨(w 136 n).toNat, by omega⟩
            have hha2 : haV w n m = w 128 (m * 3 + a9) := (by unfold haV; rw [if_neg (by omega), ha9, Int.toNat_natCast])
            rw [hha2] at hp9
            refine qG.blk 2 (pc' := 131) (ls' := [(2, 95), (0, ((n : Nat) : Int)), (0, ((m : Nat) : Int)), (0, d9), (0, gwV (w 125 m - w 134 n) (w 135 n))]) (st' := [(2, w 95 61), (0, gwV (w 125 m - w 134 n) (w 135 n))]) (w' := w) (n' := 142) rfl ?_
            rw [show w 95 61 = 128 from zref hI rfl rfl]
            refine qG.blk 3 (pc' := 134) (ls' := [(2, 95), (0, ((n : Nat) : Int)), (0, ((m : Nat) : Int)), (0, d9), (0, gwV (w 125 m - w 134 n) (w 135 n))]) (st' := [(0, wrp (3 * ((m : Nat) : Int))), (2, 128), (0, gwV (w 125 m - w 134 n) (w 135 n))]) (w' := w) (n' := 142) rfl ?_
            rw [show wrp (3 * ((m : Nat) : Int)) = ((3 * m : Nat) : Int) from by rw [wrp_id (by omega) (by omega)]; omega]
            refine qG.blk 2 (pc' := 138) (ls' := [(2, 95), (0, ((n : Nat) : Int)), (0, ((m : Nat) : Int)), (0, d9), (0, gwV (w 125 m - w 134 n) (w 135 n))]) (st' := [(2, w 95 69), (0, ((3 * m : Nat) : Int)), (2, 128), (0, gwV (w 125 m - w 134 n) (w 135 n))]) (w' := w) (n' := 142) rfl ?_
            rw [show w 95 69 = 136 from zref hI rfl rfl]
            refine qG.blk 1 (pc' := 139) (ls' := [(2, 95), (0, ((n : Nat) : Int)), (0, ((m : Nat) : Int)), (0, d9), (0, gwV (w 125 m - w 134 n) (w 135 n))]) (st' := [(0, ((n : Nat) : Int)), (2, 136), (0, ((3 * m : Nat) : Int)), (2, 128), (0, gwV (w 125 m - w 134 n) (w 135 n))]) (w' := w) (n' := 142) rfl ?_
            refine qG.ar (P := 0 ≤ ((n : Nat) : Int) ∧ ((n : Nat) : Int) < ((60 : Nat) : Int)) (P2 := 0 < (136 : Int) ∧ (136 : Int) ≤ ((142 : Nat) : Int)) (pc' := 140) (ls' := [(2, 95), (0, ((n : Nat) : Int)), (0, ((m : Nat) : Int)), (0, d9), (0, gwV (w 125 m - w 134 n) (w 135 n))]) (st' := [(0, w 136 n), (0, ((3 * m : Nat) : Int)), (2, 128), (0, gwV (w 125 m - w 134 n) (w 135 n))]) (w' := w) (n' := 142) rfl (by omega) (by decide) ?_
            refine qG.blk 1 (pc' := 141) (ls' := [(2, 95), (0, ((n : Nat) : Int)), (0, ((m : Nat) : Int)), (0, d9), (0, gwV (w 125 m - w 134 n) (w 135 n))]) (st' := [(0, wrp (((3 * m : Nat) : Int) + (w 136 n))), (2, 128), (0, gwV (w 125 m - w 134 n) (w 135 n))]) (w' := w) (n' := 142) rfl ?_
            rw [show wrp (((3 * m : Nat) : Int) + (w 136 n)) = ((m * 3 + a9 : Nat) : Int) from by rw [ha9, wrp_id (by omega) (by omega)]; omega]
            refine qG.ar (P := 0 ≤ ((m * 3 + a9 : Nat) : Int) ∧ ((m * 3 + a9 : Nat) : Int) < ((36 : Nat) : Int)) (P2 := 0 < (128 : Int) ∧ (128 : Int) ≤ ((142 : Nat) : Int)) (pc' := 142) (ls' := [(2, 95), (0, ((n : Nat) : Int)), (0, ((m : Nat) : Int)), (0, d9), (0, gwV (w 125 m - w 134 n) (w 135 n))]) (st' := [(0, w 128 (m * 3 + a9)), (0, gwV (w 125 m - w 134 n) (w 135 n))]) (w' := w) (n' := 142) rfl (by omega) (by decide) ?_
            refine qG.blk 1 (pc' := 143) (ls' := [(2, 95), (0, ((n : Nat) : Int)), (0, ((m : Nat) : Int)), (0, d9), (0, gwV (w 125 m - w 134 n) (w 135 n))]) (st' := [(0, wrp ((gwV (w 125 m - w 134 n) (w 135 n)) * (w 128 (m * 3 + a9))))]) (w' := w) (n' := 142) rfl ?_
            rw [show wrp ((gwV (w 125 m - w 134 n) (w 135 n)) * (w 128 (m * 3 + a9))) = (gwV (w 125 m - w 134 n) (w 135 n)) * (w 128 (m * 3 + a9)) from wrp_id (by omega) (by omega)]
            refine qG.ret rfl rfl ?_
            subst hQ9
            exact ⟨congrArg (Prod.mk (0 : Nat)) (by first | exact (wg_n hmn).symm | (rw [wg_y hmy, hha2]; done) | (rw [wg_y hmy, show haV w n m = 1 from if_pos ha1]; done)), rfl, rfl⟩
        · skip
          refine qG.blk 2 (pc' := 89) (ls' := [(2, 95), (0, ((n : Nat) : Int)), (0, ((m : Nat) : Int)), (0, d9), (0, 50 + d9)]) (st' := [(2, w 95 68)]) (w' := w) (n' := 142) rfl ?_
          rw [show w 95 68 = 135 from zref hI rfl rfl]
          refine qG.blk 1 (pc' := 90) (ls' := [(2, 95), (0, ((n : Nat) : Int)), (0, ((m : Nat) : Int)), (0, d9), (0, 50 + d9)]) (st' := [(0, ((n : Nat) : Int)), (2, 135)]) (w' := w) (n' := 142) rfl ?_
          refine qG.ar (P := 0 ≤ ((n : Nat) : Int) ∧ ((n : Nat) : Int) < ((60 : Nat) : Int)) (P2 := 0 < (135 : Int) ∧ (135 : Int) ≤ ((142 : Nat) : Int)) (pc' := 91) (ls' := [(2, 95), (0, ((n : Nat) : Int)), (0, ((m : Nat) : Int)), (0, d9), (0, 50 + d9)]) (st' := [(0, w 135 n)]) (w' := w) (n' := 142) rfl (by omega) (by decide) ?_
          refine qG.blk 1 (pc' := 92) (ls' := [(2, 95), (0, ((n : Nat) : Int)), (0, ((m : Nat) : Int)), (0, d9), (0, 50 + d9)]) (st' := [(0, 1), (0, w 135 n)]) (w' := w) (n' := 142) rfl ?_
          refine qG.br (P := w 135 n = 1) (pc1 := 107) (pc2 := 95) (st1 := []) rfl (fun he1 => ?_) (fun he1 => ?_)
          · skip
            refine qG.blk 2 (pc' := 111) (ls' := [(2, 95), (0, ((n : Nat) : Int)), (0, ((m : Nat) : Int)), (0, d9), (0, 50 + d9)]) (st' := []) (w' := w) (n' := 142) rfl ?_
            have egw : (50 + d9 : Int) = gwV (w 125 m - w 134 n) (w 135 n) := (by rw [hd9]; rw [hd9] at hc; unfold gwV; (repeat' split) <;> omega)
            rw [egw]
            refine qG.blk 3 (pc' := 117) (ls' := [(2, 95), (0, ((n : Nat) : Int)), (0, ((m : Nat) : Int)), (0, d9), (0, gwV (w 125 m - w 134 n) (w 135 n))]) (st' := [(2, w 95 69), (0, gwV (w 125 m - w 134 n) (w 135 n))]) (w' := w) (n' := 142) rfl ?_
            rw [show w 95 69 = 136 from zref hI rfl rfl]
            refine qG.blk 1 (pc' := 118) (ls' := [(2, 95), (0, ((n : Nat) : Int)), (0, ((m : Nat) : Int)), (0, d9), (0, gwV (w 125 m - w 134 n) (w 135 n))]) (st' := [(0, ((n : Nat) : Int)), (2, 136), (0, gwV (w 125 m - w 134 n) (w 135 n))]) (w' := w) (n' := 142) rfl ?_
            refine qG.ar (P := 0 ≤ ((n : Nat) : Int) ∧ ((n : Nat) : Int) < ((60 : Nat) : Int)) (P2 := 0 < (136 : Int) ∧ (136 : Int) ≤ ((142 : Nat) : Int)) (pc' := 119) (ls' := [(2, 95), (0, ((n : Nat) : Int)), (0, ((m : Nat) : Int)), (0, d9), (0, gwV (w 125 m - w 134 n) (w 135 n))]) (st' := [(0, w 136 n), (0, gwV (w 125 m - w 134 n) (w 135 n))]) (w' := w) (n' := 142) rfl (by omega) (by decide) ?_
            refine qG.blk 1 (pc' := 120) (ls' := [(2, 95), (0, ((n : Nat) : Int)), (0, ((m : Nat) : Int)), (0, d9), (0, gwV (w 125 m - w 134 n) (w 135 n))]) (st' := [(0, (-1)), (0, w 136 n), (0, gwV (w 125 m - w 134 n) (w 135 n))]) (w' := w) (n' := 142) rfl ?_
            refine qG.br (P := w 136 n = (-1)) (pc1 := 123) (pc2 := 127) (st1 := [(0, gwV (w 125 m - w 134 n) (w 135 n))]) rfl (fun ha1 => ?_) (fun ha1 => ?_)
            · skip
              refine qG.blk 3 (pc' := 143) (ls' := [(2, 95), (0, ((n : Nat) : Int)), (0, ((m : Nat) : Int)), (0, d9), (0, gwV (w 125 m - w 134 n) (w 135 n))]) (st' := [(0, wrp ((gwV (w 125 m - w 134 n) (w 135 n)) * 1))]) (w' := w) (n' := 142) rfl ?_
              rw [show wrp ((gwV (w 125 m - w 134 n) (w 135 n)) * 1) = (gwV (w 125 m - w 134 n) (w 135 n)) * 1 from wrp_id (by omega) (by omega)]
              refine qG.ret rfl rfl ?_
              subst hQ9
              exact ⟨congrArg (Prod.mk (0 : Nat)) (by first | exact (wg_n hmn).symm | (rw [wg_y hmy, hha2]; done) | (rw [wg_y hmy, show haV w n m = 1 from if_pos ha1]; done)), rfl, rfl⟩
            · skip
              obtain ⟨a9, ha9⟩ : ∃ q : Nat, w 136 n = (q : Int) := ⟨(w 136 n).toNat, by omega⟩
              have hha2 : haV w n m = w 128 (m * 3 + a9) := (by unfold haV; rw [if_neg (by omega), ha9, Int.toNat_natCast])
              rw [hha2] at hp9
              refine qG.blk 2 (pc' := 131) (ls' := [(2, 95), (0, ((n : Nat) : Int)), (0, ((m : Nat) : Int)), (0, d9), (0, gwV (w 125 m - w 134 n) (w 135 n))]) (st' := [(2, w 95 61), (0, gwV (w 125 m - w 134 n) (w 135 n))]) (w' := w) (n' := 142) rfl ?_
              rw [show w 95 61 = 128 from zref hI rfl rfl]
              refine qG.blk 3 (pc' := 134) (ls' := [(2, 95), (0, ((n : Nat) : Int)), (0, ((m : Nat) : Int)), (0, d9), (0, gwV (w 125 m - w 134 n) (w 135 n))]) (st' := [(0, wrp (3 * ((m : Nat) : Int))), (2, 128), (0, gwV (w 125 m - w 134 n) (w 135 n))]) (w' := w) (n' := 142) rfl ?_
              rw [show wrp (3 * ((m : Nat) : Int)) = ((3 * m : Nat) : Int) from by rw [wrp_id (by omega) (by omega)]; omega]
              refine qG.blk 2 (pc' := 138) (ls' := [(2, 95), (0, ((n : Nat) : Int)), (0, ((m : Nat) : Int)), (0, d9), (0, gwV (w 125 m - w 134 n) (w 135 n))]) (st' := [(2, w 95 69), (0, ((3 * m : Nat) : Int)), (2, 128), (0, gwV (w 125 m - w 134 n) (w 135 n))]) (w' := w) (n' := 142) rfl ?_
              rw [show w 95 69 = 136 from zref hI rfl rfl]
              refine qG.blk 1 (pc' := 139) (ls' := [(2, 95), (0, ((n : Nat) : Int)), (0, ((m : Nat) : Int)), (0, d9), (0, gwV (w 125 m - w 134 n) (w 135 n))]) (st' := [(0, ((n : Nat) : Int)), (2, 136), (0, ((3 * m : Nat) : Int)), (2, 128), (0, gwV (w 125 m - w 134 n) (w 135 n))]) (w' := w) (n' := 142) rfl ?_
              refine qG.ar (P := 0 ≤ ((n : Nat) : Int) ∧ ((n : Nat) : Int) < ((60 : Nat) : Int)) (P2 := 0 < (136 : Int) ∧ (136 : Int) ≤ ((142 : Nat) : Int)) (pc' := 140) (ls' := [(2, 95), (0, ((n : Nat) : Int)), (0, ((m : Nat) : Int)), (0, d9), (0, gwV (w 125 m - w 134 n) (w 135 n))]) (st' := [(0, w 136 n), (0, ((3 * m : Nat) : Int)), (2, 128), (0, gwV (w 125 m - w 134 n) (w 135 n))]) (w' := w) (n' := 142) rfl (by omega) (by decide) ?_
              refine qG.blk 1 (pc' := 141) (ls' := [(2, 95), (0, ((n : Nat) : Int)), (0, ((m : Nat) : Int)), (0, d9), (0, gwV (w 125 m - w 134 n) (w 135 n))]) (st' := [(0, wrp (((3 * m : Nat) : Int) + (w 136 n))), (2, 128), (0, gwV (w 125 m - w 134 n) (w 135 n))]) (w' := w) (n' := 142) rfl ?_
              rw [show wrp (((3 * m : Nat) : Int) + (w 136 n)) = ((m * 3 + a9 : Nat) : Int) from by rw [ha9, wrp_id (by omega) (by omega)]; omega]
              refine qG.ar (P := 0 ≤ ((m * 3 + a9 : Nat) : Int) ∧ ((m * 3 + a9 : Nat) : Int) < ((36 : Nat) : Int)) (P2 := 0 < (128 : Int) ∧ (128 : Int) ≤ ((142 : Nat) : Int)) (pc' := 142) (ls' := [(2, 95), (0, ((n : Nat) : Int)), (0, ((m : Nat) : Int)), (0, d9), (0, gwV (w 125 m - w 134 n) (w 135 n))]) (st' := [(0, w 128 (m * 3 + a9)), (0, gwV (w 125 m - w 134 n) (w 135 n))]) (w' := w) (n' := 142) rfl (by omega) (by decide) ?_
              refine qG.blk 1 (pc' := 143) (ls' := [(2, 95), (0, ((n : Nat) : Int)), (0, ((m : Nat) : Int)), (0, d9), (0, gwV (w 125 m - w 134 n) (w 135 n))]) (st' := [(0, wrp ((gwV (w 125 m - w 134 n) (w 135 n)) * (w 128 (m * 3 + a9))))]) (w' := w) (n' := 142) rfl ?_
              rw [show wrp ((gwV (w 125 m - w 134 n) (w 135 n)) * (w 128 (m * 3 + a9))) = (gwV (w 125 m - w 134 n) (w 135 n)) * (w 128 (m * 3 + a9)) from wrp_id (by omega) (by omega)]
              refine qG.ret rfl rfl ?_
              subst hQ9
              exact ⟨congrArg (Prod.mk (0 : Nat)) (by first | exact (wg_n hmn).symm | (rw [wg_y hmy, hha2]; done) | (rw [wg_y hmy, show haV w n m = 1 from if_pos ha1]; done)), rfl, rfl⟩
          · skip
            refine qG.blk 2 (pc' := 99) (ls' := [(2, 95), (0, ((n : Nat) : Int)), (0, ((m : Nat) : Int)), (0, d9), (0, 50 + d9)]) (st' := [(0, 99), (0, 50 + d9)]) (w' := w) (n' := 142) rfl ?_
            refine qG.br (P := 99 < 50 + d9) (pc1 := 102) (pc2 := 107) (st1 := []) rfl (fun hv9 => ?_) (fun hv9 => ?_)
            · skip
              refine qG.blk 3 (pc' := 111) (ls' := [(2, 95), (0, ((n : Nat) : Int)), (0, ((m : Nat) : Int)), (0, d9), (0, 99)]) (st' := []) (w' := w) (n' := 142) rfl ?_
              have egw : (99 : Int) = gwV (w 125 m - w 134 n) (w 135 n) := (by rw [hd9]; rw [hd9] at hc; unfold gwV; (repeat' split) <;> omega)
              rw [egw]
              refine qG.blk 3 (pc' := 117) (ls' := [(2, 95), (0, ((n : Nat) : Int)), (0, ((m : Nat) : Int)), (0, d9), (0, gwV (w 125 m - w 134 n) (w 135 n))]) (st' := [(2, w 95 69), (0, gwV (w 125 m - w 134 n) (w 135 n))]) (w' := w) (n' := 142) rfl ?_
              rw [show w 95 69 = 136 from zref hI rfl rfl]
              refine qG.blk 1 (pc' := 118) (ls' := [(2, 95), (0, ((n : Nat) : Int)), (0, ((m : Nat) : Int)), (0, d9), (0, gwV (w 125 m - w 134 n) (w 135 n))]) (st' := [(0, ((n : Nat) : Int)), (2, 136), (0, gwV (w 125 m - w 134 n) (w 135 n))]) (w' := w) (n' := 142) rfl ?_
              refine qG.ar (P := 0 ≤ ((n : Nat) : Int) ∧ ((n : Nat) : Int) < ((60 : Nat) : Int)) (P2 := 0 < (136 : Int) ∧ (136 : Int) ≤ ((142 : Nat) : Int)) (pc' := 119) (ls' := [(2, 95), (0, ((n : Nat) : Int)), (0, ((m : Nat) : Int)), (0, d9), (0, gwV (w 125 m - w 134 n) (w 135 n))]) (st' := [(0, w 136 n), (0, gwV (w 125 m - w 134 n) (w 135 n))]) (w' := w) (n' := 142) rfl (by omega) (by decide) ?_
              refine qG.blk 1 (pc' := 120) (ls' := [(2, 95), (0, ((n : Nat) : Int)), (0, ((m : Nat) : Int)), (0, d9), (0, gwV (w 125 m - w 134 n) (w 135 n))]) (st' := [(0, (-1)), (0, w 136 n), (0, gwV (w 125 m - w 134 n) (w 135 n))]) (w' := w) (n' := 142) rfl ?_
              refine qG.br (P := w 136 n = (-1)) (pc1 := 123) (pc2 := 127) (st1 := [(0, gwV (w 125 m - w 134 n) (w 135 n))]) rfl (fun ha1 => ?_) (fun ha1 => ?_)
              · skip
                refine qG.blk 3 (pc' := 143) (ls' := [(2, 95), (0, ((n : Nat) : Int)), (0, ((m : Nat) : Int)), (0, d9), (0, gwV (w 125 m - w 134 n) (w 135 n))]) (st' := [(0, wrp ((gwV (w 125 m - w 134 n) (w 135 n)) * 1))]) (w' := w) (n' := 142) rfl ?_
                rw [show wrp ((gwV (w 125 m - w 134 n) (w 135 n)) * 1) = (gwV (w 125 m - w 134 n) (w 135 n)) * 1 from wrp_id (by omega) (by omega)]
                refine qG.ret rfl rfl ?_
                subst hQ9
                exact ⟨congrArg (Prod.mk (0 : Nat)) (by first | exact (wg_n hmn).symm | (rw [wg_y hmy, hha2]; done) | (rw [wg_y hmy, show haV w n m = 1 from if_pos ha1]; done)), rfl, rfl⟩
              · skip
                obtain ⟨a9, ha9⟩ : ∃ q : Nat, w 136 n = (q : Int) := ⟨(w 136 n).toNat, by omega⟩
                have hha2 : haV w n m = w 128 (m * 3 + a9) := (by unfold haV; rw [if_neg (by omega), ha9, Int.toNat_natCast])
                rw [hha2] at hp9
                refine qG.blk 2 (pc' := 131) (ls' := [(2, 95), (0, ((n : Nat) : Int)), (0, ((m : Nat) : Int)), (0, d9), (0, gwV (w 125 m - w 134 n) (w 135 n))]) (st' := [(2, w 95 61), (0, gwV (w 125 m - w 134 n) (w 135 n))]) (w' := w) (n' := 142) rfl ?_
                rw [show w 95 61 = 128 from zref hI rfl rfl]
                refine qG.blk 3 (pc' := 134) (ls' := [(2, 95), (0, ((n : Nat) : Int)), (0, ((m : Nat) : Int)), (0, d9), (0, gwV (w 125 m - w 134 n) (w 135 n))]) (st' := [(0, wrp (3 * ((m : Nat) : Int))), (2, 128), (0, gwV (w 125 m - w 134 n) (w 135 n))]) (w' := w) (n' := 142) rfl ?_
                rw [show wrp (3 * ((m : Nat) : Int)) = ((3 * m : Nat) : Int) from by rw [wrp_id (by omega) (by omega)]; omega]
                refine qG.blk 2 (pc' := 138) (ls' := [(2, 95), (0, ((n : Nat) : Int)), (0, ((m : Nat) : Int)), (0, d9), (0, gwV (w 125 m - w 134 n) (w 135 n))]) (st' := [(2, w 95 69), (0, ((3 * m : Nat) : Int)), (2, 128), (0, gwV (w 125 m - w 134 n) (w 135 n))]) (w' := w) (n' := 142) rfl ?_
                rw [show w 95 69 = 136 from zref hI rfl rfl]
                refine qG.blk 1 (pc' := 139) (ls' := [(2, 95), (0, ((n : Nat) : Int)), (0, ((m : Nat) : Int)), (0, d9), (0, gwV (w 125 m - w 134 n) (w 135 n))]) (st' := [(0, ((n : Nat) : Int)), (2, 136), (0, ((3 * m : Nat) : Int)), (2, 128), (0, gwV (w 125 m - w 134 n) (w 135 n))]) (w' := w) (n' := 142) rfl ?_
                refine qG.ar (P := 0 ≤ ((n : Nat) : Int) ∧ ((n : Nat) : Int) < ((60 : Nat) : Int)) (P2 := 0 < (136 : Int) ∧ (136 : Int) ≤ ((142 : Nat) : Int)) (pc' := 140) (ls' := [(2, 95), (0, ((n : Nat) : Int)), (0, ((m : Nat) : Int)), (0, d9), (0, gwV (w 125 m - w 134 n) (w 135 n))]) (st' := [(0, w 136 n), (0, ((3 * m : Nat) : Int)), (2, 128), (0, gwV (w 125 m - w 134 n) (w 135 n))]) (w' := w) (n' := 142) rfl (by omega) (by decide) ?_
                refine qG.blk 1 (pc' := 141) (ls' := [(2, 95), (0, ((n : Nat) : Int)), (0, ((m : Nat) : Int)), (0, d9), (0, gwV (w 125 m - w 134 n) (w 135 n))]) (st' := [(0, wrp (((3 * m : Nat) : Int) + (w 136 n))), (2, 128), (0, gwV (w 125 m - w 134 n) (w 135 n))]) (w' := w) (n' := 142) rfl ?_
                rw [show wrp (((3 * m : Nat) : Int) + (w 136 n)) = ((m * 3 + a9 : Nat) : Int) from by rw [ha9, wrp_id (by omega) (by omega)]; omega]
                refine qG.ar (P := 0 ≤ ((m * 3 + a9 : Nat) : Int) ∧ ((m * 3 + a9 : Nat) : Int) < ((36 : Nat) : Int)) (P2 := 0 < (128 : Int) ∧ (128 : Int) ≤ ((142 : Nat) : Int)) (pc' := 142) (ls' := [(2, 95), (0, ((n : Nat) : Int)), (0, ((m : Nat) : Int)), (0, d9), (0, gwV (w 125 m - w 134 n) (w 135 n))]) (st' := [(0, w 128 (m * 3 + a9)), (0, gwV (w 125 m - w 134 n) (w 135 n))]) (w' := w) (n' := 142) rfl (by omega) (by decide) ?_
                refine qG.blk 1 (pc' := 143) (ls' := [(2, 95), (0, ((n : Nat) : Int)), (0, ((m : Nat) : Int)), (0, d9), (0, gwV (w 125 m - w 134 n) (w 135 n))]) (st' := [(0, wrp ((gwV (w 125 m - w 134 n) (w 135 n)) * (w 128 (m * 3 + a9))))]) (w' := w) (n' := 142) rfl ?_
                rw [show wrp ((gwV (w 125 m - w 134 n) (w 135 n)) * (w 128 (m * 3 + a9))) = (gwV (w 125 m - w 134 n) (w 135 n)) * (w 128 (m * 3 + a9)) from wrp_id (by omega) (by omega)]
                refine qG.ret rfl rfl ?_
                subst hQ9
                exact ⟨congrArg (Prod.mk (0 : Nat)) (by first | exact (wg_n hmn).symm | (rw [wg_y hmy, hha2]; done) | (rw [wg_y hmy, show haV w n m = 1 from if_pos ha1]; done)), rfl, rfl⟩
            · skip
              refine qG.blk 2 (pc' := 111) (ls' := [(2, 95), (0, ((n : Nat) : Int)), (0, ((m : Nat) : Int)), (0, d9), (0, 50 + d9)]) (st' := []) (w' := w) (n' := 142) rfl ?_
              have egw : (50 + d9 : Int) = gwV (w 125 m - w 134 n) (w 135 n) := (by rw [hd9]; rw [hd9] at hc; unfold gwV; (repeat' split) <;> omega)
              rw [egw]
              refine qG.blk 3 (pc' := 117) (ls' := [(2, 95), (0, ((n : Nat) : Int)), (0, ((m : Nat) : Int)), (0, d9), (0, gwV (w 125 m - w 134 n) (w 135 n))]) (st' := [(2, w 95 69), (0, gwV (w 125 m - w 134 n) (w 135 n))]) (w' := w) (n' := 142) rfl ?_
              rw [show w 95 69 = 136 from zref hI rfl rfl]
              refine qG.blk 1 (pc' := 118) (ls' := [(2, 95), (0, ((n : Nat) : Int)), (0, ((m : Nat) : Int)), (0, d9), (0, gwV (w 125 m - w 134 n) (w 135 n))]) (st' := [(0, ((n : Nat) : Int)), (2, 136), (0, gwV (w 125 m - w 134 n) (w 135 n))]) (w' := w) (n' := 142) rfl ?_
              refine qG.ar (P := 0 ≤ ((n : Nat) : Int) ∧ ((n : Nat) : Int) < ((60 : Nat) : Int)) (P2 := 0 < (136 : Int) ∧ (136 : Int) ≤ ((142 : Nat) : Int)) (pc' := 119) (ls' := [(2, 95), (0, ((n : Nat) : Int)), (0, ((m : Nat) : Int)), (0, d9), (0, gwV (w 125 m - w 134 n) (w 135 n))]) (st' := [(0, w 136 n), (0, gwV (w 125 m - w 134 n) (w 135 n))]) (w' := w) (n' := 142) rfl (by omega) (by decide) ?_
              refine qG.blk 1 (pc' := 120) (ls' := [(2, 95), (0, ((n : Nat) : Int)), (0, ((m : Nat) : Int)), (0, d9), (0, gwV (w 125 m - w 134 n) (w 135 n))]) (st' := [(0, (-1)), (0, w 136 n), (0, gwV (w 125 m - w 134 n) (w 135 n))]) (w' := w) (n' := 142) rfl ?_
              refine qG.br (P := w 136 n = (-1)) (pc1 := 123) (pc2 := 127) (st1 := [(0, gwV (w 125 m - w 134 n) (w 135 n))]) rfl (fun ha1 => ?_) (fun ha1 => ?_)
              · skip
                refine qG.blk 3 (pc' := 143) (ls' := [(2, 95), (0, ((n : Nat) : Int)), (0, ((m : Nat) : Int)), (0, d9), (0, gwV (w 125 m - w 134 n) (w 135 n))]) (st' := [(0, wrp ((gwV (w 125 m - w 134 n) (w 135 n)) * 1))]) (w' := w) (n' := 142) rfl ?_
                rw [show wrp ((gwV (w 125 m - w 134 n) (w 135 n)) * 1) = (gwV (w 125 m - w 134 n) (w 135 n)) * 1 from wrp_id (by omega) (by omega)]
                refine qG.ret rfl rfl ?_
                subst hQ9
                exact ⟨congrArg (Prod.mk (0 : Nat)) (by first | exact (wg_n hmn).symm | (rw [wg_y hmy, hha2]; done) | (rw [wg_y hmy, show haV w n m = 1 from if_pos ha1]; done)), rfl, rfl⟩
              · skip
                obtain ⟨a9, ha9⟩ : ∃ q : Nat, w 136 n = (q : Int) := ⟨(w 136 n).toNat, by omega⟩
                have hha2 : haV w n m = w 128 (m * 3 + a9) := (by unfold haV; rw [if_neg (by omega), ha9, Int.toNat_natCast])
                rw [hha2] at hp9
                refine qG.blk 2 (pc' := 131) (ls' := [(2, 95), (0, ((n : Nat) : Int)), (0, ((m : Nat) : Int)), (0, d9), (0, gwV (w 125 m - w 134 n) (w 135 n))]) (st' := [(2, w 95 61), (0, gwV (w 125 m - w 134 n) (w 135 n))]) (w' := w) (n' := 142) rfl ?_
                rw [show w 95 61 = 128 from zref hI rfl rfl]
                refine qG.blk 3 (pc' := 134) (ls' := [(2, 95), (0, ((n : Nat) : Int)), (0, ((m : Nat) : Int)), (0, d9), (0, gwV (w 125 m - w 134 n) (w 135 n))]) (st' := [(0, wrp (3 * ((m : Nat) : Int))), (2, 128), (0, gwV (w 125 m - w 134 n) (w 135 n))]) (w' := w) (n' := 142) rfl ?_
                rw [show wrp (3 * ((m : Nat) : Int)) = ((3 * m : Nat) : Int) from by rw [wrp_id (by omega) (by omega)]; omega]
                refine qG.blk 2 (pc' := 138) (ls' := [(2, 95), (0, ((n : Nat) : Int)), (0, ((m : Nat) : Int)), (0, d9), (0, gwV (w 125 m - w 134 n) (w 135 n))]) (st' := [(2, w 95 69), (0, ((3 * m : Nat) : Int)), (2, 128), (0, gwV (w 125 m - w 134 n) (w 135 n))]) (w' := w) (n' := 142) rfl ?_
                rw [show w 95 69 = 136 from zref hI rfl rfl]
                refine qG.blk 1 (pc' := 139) (ls' := [(2, 95), (0, ((n : Nat) : Int)), (0, ((m : Nat) : Int)), (0, d9), (0, gwV (w 125 m - w 134 n) (w 135 n))]) (st' := [(0, ((n : Nat) : Int)), (2, 136), (0, ((3 * m : Nat) : Int)), (2, 128), (0, gwV (w 125 m - w 134 n) (w 135 n))]) (w' := w) (n' := 142) rfl ?_
                refine qG.ar (P := 0 ≤ ((n : Nat) : Int) ∧ ((n : Nat) : Int) < ((60 : Nat) : Int)) (P2 := 0 < (136 : Int) ∧ (136 : Int) ≤ ((142 : Nat) : Int)) (pc' := 140) (ls' := [(2, 95), (0, ((n : Nat) : Int)), (0, ((m : Nat) : Int)), (0, d9), (0, gwV (w 125 m - w 134 n) (w 135 n))]) (st' := [(0, w 136 n), (0, ((3 * m : Nat) : Int)), (2, 128), (0, gwV (w 125 m - w 134 n) (w 135 n))]) (w' := w) (n' := 142) rfl (by omega) (by decide) ?_
                refine qG.blk 1 (pc' := 141) (ls' := [(2, 95), (0, ((n : Nat) : Int)), (0, ((m : Nat) : Int)), (0, d9), (0, gwV (w 125 m - w 134 n) (w 135 n))]) (st' := [(0, wrp (((3 * m : Nat) : Int) + (w 136 n))), (2, 128), (0, gwV (w 125 m - w 134 n) (w 135 n))]) (w' := w) (n' := 142) rfl ?_
                rw [show wrp (((3 * m : Nat) : Int) + (w 136 n)) = ((m * 3 + a9 : Nat) : Int) from by rw [ha9, wrp_id (by omega) (by omega)]; omega]
                refine qG.ar (P := 0 ≤ ((m * 3 + a9 : Nat) : Int) ∧ ((m * 3 + a9 : Nat) : Int) < ((36 : Nat) : Int)) (P2 := 0 < (128 : Int) ∧ (128 : Int) ≤ ((142 : Nat) : Int)) (pc' := 142) (ls' := [(2, 95), (0, ((n : Nat) : Int)), (0, ((m : Nat) : Int)), (0, d9), (0, gwV (w 125 m - w 134 n) (w 135 n))]) (st' := [(0, w 128 (m * 3 + a9)), (0, gwV (w 125 m - w 134 n) (w 135 n))]) (w' := w) (n' := 142) rfl (by omega) (by decide) ?_
                refine qG.blk 1 (pc' := 143) (ls' := [(2, 95), (0, ((n : Nat) : Int)), (0, ((m : Nat) : Int)), (0, d9), (0, gwV (w 125 m - w 134 n) (w 135 n))]) (st' := [(0, wrp ((gwV (w 125 m - w 134 n) (w 135 n)) * (w 128 (m * 3 + a9))))]) (w' := w) (n' := 142) rfl ?_
                rw [show wrp ((gwV (w 125 m - w 134 n) (w 135 n)) * (w 128 (m * 3 + a9))) = (gwV (w 125 m - w 134 n) (w 135 n)) * (w 128 (m * 3 + a9)) from wrp_id (by omega) (by omega)]
                refine qG.ret rfl rfl ?_
                subst hQ9
                exact ⟨congrArg (Prod.mk (0 : Nat)) (by first | exact (wg_n hmn).symm | (rw [wg_y hmy, hha2]; done) | (rw [wg_y hmy, show haV w n m = 1 from if_pos ha1]; done)), rfl, rfl⟩
      · skip
        refine qG.blk 2 (pc' := 46) (ls' := [(2, 95), (0, ((n : Nat) : Int)), (0, ((m : Nat) : Int)), (0, d9), (9, 0)]) (st' := [(2, w 95 68)]) (w' := w) (n' := 142) rfl ?_
        rw [show w 95 68 = 135 from zref hI rfl rfl]
        refine qG.blk 1 (pc' := 47) (ls' := [(2, 95), (0, ((n : Nat) : Int)), (0, ((m : Nat) : Int)), (0, d9), (9, 0)]) (st' := [(0, ((n : Nat) : Int)), (2, 135)]) (w' := w) (n' := 142) rfl ?_
        refine qG.ar (P := 0 ≤ ((n : Nat) : Int) ∧ ((n : Nat) : Int) < ((60 : Nat) : Int)) (P2 := 0 < (135 : Int) ∧ (135 : Int) ≤ ((142 : Nat) : Int)) (pc' := 48) (ls' := [(2, 95), (0, ((n : Nat) : Int)), (0, ((m : Nat) : Int)), (0, d9), (9, 0)]) (st' := [(0, w 135 n)]) (w' := w) (n' := 142) rfl (by omega) (by decide) ?_
        refine qG.br (P := w 135 n = 0) (pc1 := 51) (pc2 := 58) (st1 := []) rfl (fun he0 => ?_) (fun he0 => ?_)
        · skip
          refine qG.blk 3 (pc' := 55) (ls' := [(2, 95), (0, ((n : Nat) : Int)), (0, ((m : Nat) : Int)), (0, d9), (9, 0)]) (st' := [(0, wrp (50 - d9))]) (w' := w) (n' := 142) rfl ?_
          rw [show wrp (50 - d9) = 50 - d9 from wrp_id (by omega) (by omega)]
          refine qG.blk 4 (pc' := 78) (ls' := [(2, 95), (0, ((n : Nat) : Int)), (0, ((m : Nat) : Int)), (0, d9), (0, 50 - d9)]) (st' := [(0, 1), (0, 50 - d9)]) (w' := w) (n' := 142) rfl ?_
          refine qG.br (P := 50 - d9 < 1) (pc1 := 81) (pc2 := 85) (st1 := []) rfl (fun hv1 => ?_) (fun hv1 => ?_)
          · skip
            refine qG.blk 3 (pc' := 111) (ls' := [(2, 95), (0, ((n : Nat) : Int)), (0, ((m : Nat) : Int)), (0, d9), (0, 1)]) (st' := []) (w' := w) (n' := 142) rfl ?_
            have egw : (1 : Int) = gwV (w 125 m - w 134 n) (w 135 n) := (by rw [hd9]; rw [hd9] at hc; unfold gwV; (repeat' split) <;> omega)
            rw [egw]
            refine qG.blk 3 (pc' := 117) (ls' := [(2, 95), (0, ((n : Nat) : Int)), (0, ((m : Nat) : Int)), (0, d9), (0, gwV (w 125 m - w 134 n) (w 135 n))]) (st' := [(2, w 95 69), (0, gwV (w 125 m - w 134 n) (w 135 n))]) (w' := w) (n' := 142) rfl ?_
            rw [show w 95 69 = 136 from zref hI rfl rfl]
            refine qG.blk 1 (pc' := 118) (ls' := [(2, 95), (0, ((n : Nat) : Int)), (0, ((m : Nat) : Int)), (0, d9), (0, gwV (w 125 m - w 134 n) (w 135 n))]) (st' := [(0, ((n : Nat) : Int)), (2, 136), (0, gwV (w 125 m - w 134 n) (w 135 n))]) (w' := w) (n' := 142) rfl ?_
            refine qG.ar (P := 0 ≤ ((n : Nat) : Int) ∧ ((n : Nat) : Int) < ((60 : Nat) : Int)) (P2 := 0 < (136 : Int) ∧ (136 : Int) ≤ ((142 : Nat) : Int)) (pc' := 119) (ls' := [(2, 95), (0, ((n : Nat) : Int)), (0, ((m : Nat) : Int)), (0, d9), (0, gwV (w 125 m - w 134 n) (w 135 n))]) (st' := [(0, w 136 n), (0, gwV (w 125 m - w 134 n) (w 135 n))]) (w' := w) (n' := 142) rfl (by omega) (by decide) ?_
            refine qG.blk 1 (pc' := 120) (ls' := [(2, 95), (0, ((n : Nat) : Int)), (0, ((m : Nat) : Int)), (0, d9), (0, gwV (w 125 m - w 134 n) (w 135 n))]) (st' := [(0, (-1)), (0, w 136 n), (0, gwV (w 125 m - w 134 n) (w 135 n))]) (w' := w) (n' := 142) rfl ?_
            refine qG.br (P := w 136 n = (-1)) (pc1 := 123) (pc2 := 127) (st1 := [(0, gwV (w 125 m - w 134 n) (w 135 n))]) rfl (fun ha1 => ?_) (fun ha1 => ?_)
            · skip
              refine qG.blk 3 (pc' := 143) (ls' := [(2, 95), (0, ((n : Nat) : Int)), (0, ((m : Nat) : Int)), (0, d9), (0, gwV (w 125 m - w 134 n) (w 135 n))]) (st' := [(0, wrp ((gwV (w 125 m - w 134 n) (w 135 n)) * 1))]) (w' := w) (n' := 142) rfl ?_
              rw [show wrp ((gwV (w 125 m - w 134 n) (w 135 n)) * 1) = (gwV (w 125 m - w 134 n) (w 135 n)) * 1 from wrp_id (by omega) (by omega)]
              refine qG.ret rfl rfl ?_
              subst hQ9
              exact ⟨congrArg (Prod.mk (0 : Nat)) (by first | exact (wg_n hmn).symm | (rw [wg_y hmy, hha2]; done) | (rw [wg_y hmy, show haV w n m = 1 from if_pos ha1]; done)), rfl, rfl⟩
            · skip
              obtain ⟨a9, ha9⟩ : ∃ q : Nat, w 136 n = (q : Int) := ⟨(w 136 n).toNat, by omega⟩
              have hha2 : haV w n m = w 128 (m * 3 + a9) := (by unfold haV; rw [if_neg (by omega), ha9, Int.toNat_natCast])
              rw [hha2] at hp9
              refine qG.blk 2 (pc' := 131) (ls' := [(2, 95), (0, ((n : Nat) : Int)), (0, ((m : Nat) : Int)), (0, d9), (0, gwV (w 125 m - w 134 n) (w 135 n))]) (st' := [(2, w 95 61), (0, gwV (w 125 m - w 134 n) (w 135 n))]) (w' := w) (n' := 142) rfl ?_
              rw [show w 95 61 = 128 from zref hI rfl rfl]
              refine qG.blk 3 (pc' := 134) (ls' := [(2, 95), (0, ((n : Nat) : Int)), (0, ((m : Nat) : Int)), (0, d9), (0, gwV (w 125 m - w 134 n) (w 135 n))]) (st' := [(0, wrp (3 * ((m : Nat) : Int))), (2, 128), (0, gwV (w 125 m - w 134 n) (w 135 n))]) (w' := w) (n' := 142) rfl ?_
              rw [show wrp (3 * ((m : Nat) : Int)) = ((3 * m : Nat) : Int) from by rw [wrp_id (by omega) (by omega)]; omega]
              refine qG.blk 2 (pc' := 138) (ls' := [(2, 95), (0, ((n : Nat) : Int)), (0, ((m : Nat) : Int)), (0, d9), (0, gwV (w 125 m - w 134 n) (w 135 n))]) (st' := [(2, w 95 69), (0, ((3 * m : Nat) : Int)), (2, 128), (0, gwV (w 125 m - w 134 n) (w 135 n))]) (w' := w) (n' := 142) rfl ?_
              rw [show w 95 69 = 136 from zref hI rfl rfl]
              refine qG.blk 1 (pc' := 139) (ls' := [(2, 95), (0, ((n : Nat) : Int)), (0, ((m : Nat) : Int)), (0, d9), (0, gwV (w 125 m - w 134 n) (w 135 n))]) (st' := [(0, ((n : Nat) : Int)), (2, 136), (0, ((3 * m : Nat) : Int)), (2, 128), (0, gwV (w 125 m - w 134 n) (w 135 n))]) (w' := w) (n' := 142) rfl ?_
              refine qG.ar (P := 0 ≤ ((n : Nat) : Int) ∧ ((n : Nat) : Int) < ((60 : Nat) : Int)) (P2 := 0 < (136 : Int) ∧ (136 : Int) ≤ ((142 : Nat) : Int)) (pc' := 140) (ls' := [(2, 95), (0, ((n : Nat) : Int)), (0, ((m : Nat) : Int)), (0, d9), (0, gwV (w 125 m - w 134 n) (w 135 n))]) (st' := [(0, w 136 n), (0, ((3 * m : Nat) : Int)), (2, 128), (0, gwV (w 125 m - w 134 n) (w 135 n))]) (w' := w) (n' := 142) rfl (by omega) (by decide) ?_
              refine qG.blk 1 (pc' := 141) (ls' := [(2, 95), (0, ((n : Nat) : Int)), (0, ((m : Nat) : Int)), (0, d9), (0, gwV (w 125 m - w 134 n) (w 135 n))]) (st' := [(0, wrp (((3 * m : Nat) : Int) + (w 136 n))), (2, 128), (0, gwV (w 125 m - w 134 n) (w 135 n))]) (w' := w) (n' := 142) rfl ?_
              rw [show wrp (((3 * m : Nat) : Int) + (w 136 n)) = ((m * 3 + a9 : Nat) : Int) from by rw [ha9, wrp_id (by omega) (by omega)]; omega]
              refine qG.ar (P := 0 ≤ ((m * 3 + a9 : Nat) : Int) ∧ ((m * 3 + a9 : Nat) : Int) < ((36 : Nat) : Int)) (P2 := 0 < (128 : Int) ∧ (128 : Int) ≤ ((142 : Nat) : Int)) (pc' := 142) (ls' := [(2, 95), (0, ((n : Nat) : Int)), (0, ((m : Nat) : Int)), (0, d9), (0, gwV (w 125 m - w 134 n) (w 135 n))]) (st' := [(0, w 128 (m * 3 + a9)), (0, gwV (w 125 m - w 134 n) (w 135 n))]) (w' := w) (n' := 142) rfl (by omega) (by decide) ?_
              refine qG.blk 1 (pc' := 143) (ls' := [(2, 95), (0, ((n : Nat) : Int)), (0, ((m : Nat) : Int)), (0, d9), (0, gwV (w 125 m - w 134 n) (w 135 n))]) (st' := [(0, wrp ((gwV (w 125 m - w 134 n) (w 135 n)) * (w 128 (m * 3 + a9))))]) (w' := w) (n' := 142) rfl ?_
              rw [show wrp ((gwV (w 125 m - w 134 n) (w 135 n)) * (w 128 (m * 3 + a9))) = (gwV (w 125 m - w 134 n) (w 135 n)) * (w 128 (m * 3 + a9)) from wrp_id (by omega) (by omega)]
              refine qG.ret rfl rfl ?_
              subst hQ9
              exact ⟨congrArg (Prod.mk (0 : Nat)) (by first | exact (wg_n hmn).symm | (rw [wg_y hmy, hha2]; done) | (rw [wg_y hmy, show haV w n m = 1 from if_pos ha1]; done)), rfl, rfl⟩
          · skip
            refine qG.blk 2 (pc' := 89) (ls' := [(2, 95), (0, ((n : Nat) : Int)), (0, ((m : Nat) : Int)), (0, d9), (0, 50 - d9)]) (st' := [(2, w 95 68)]) (w' := w) (n' := 142) rfl ?_
            rw [show w 95 68 = 135 from zref hI rfl rfl]
            refine qG.blk 1 (pc' := 90) (ls' := [(2, 95), (0, ((n : Nat) : Int)), (0, ((m : Nat) : Int)), (0, d9), (0, 50 - d9)]) (st' := [(0, ((n : Nat) : Int)), (2, 135)]) (w' := w) (n' := 142) rfl ?_
            refine qG.ar (P := 0 ≤ ((n : Nat) : Int) ∧ ((n : Nat) : Int) < ((60 : Nat) : Int)) (P2 := 0 < (135 : Int) ∧ (135 : Int) ≤ ((142 : Nat) : Int)) (pc' := 91) (ls' := [(2, 95), (0, ((n : Nat) : Int)), (0, ((m : Nat) : Int)), (0, d9), (0, 50 - d9)]) (st' := [(0, w 135 n)]) (w' := w) (n' := 142) rfl (by omega) (by decide) ?_
            refine qG.blk 1 (pc' := 92) (ls' := [(2, 95), (0, ((n : Nat) : Int)), (0, ((m : Nat) : Int)), (0, d9), (0, 50 - d9)]) (st' := [(0, 1), (0, w 135 n)]) (w' := w) (n' := 142) rfl ?_
            refine qG.br (P := w 135 n = 1) (pc1 := 107) (pc2 := 95) (st1 := []) rfl (fun he1 => ?_) (fun he1 => ?_)
            · skip
              refine qG.blk 2 (pc' := 111) (ls' := [(2, 95), (0, ((n : Nat) : Int)), (0, ((m : Nat) : Int)), (0, d9), (0, 50 - d9)]) (st' := []) (w' := w) (n' := 142) rfl ?_
              have egw : (50 - d9 : Int) = gwV (w 125 m - w 134 n) (w 135 n) := (by rw [hd9]; rw [hd9] at hc; unfold gwV; (repeat' split) <;> omega)
              rw [egw]
              refine qG.blk 3 (pc' := 117) (ls' := [(2, 95), (0, ((n : Nat) : Int)), (0, ((m : Nat) : Int)), (0, d9), (0, gwV (w 125 m - w 134 n) (w 135 n))]) (st' := [(2, w 95 69), (0, gwV (w 125 m - w 134 n) (w 135 n))]) (w' := w) (n' := 142) rfl ?_
              rw [show w 95 69 = 136 from zref hI rfl rfl]
              refine qG.blk 1 (pc' := 118) (ls' := [(2, 95), (0, ((n : Nat) : Int)), (0, ((m : Nat) : Int)), (0, d9), (0, gwV (w 125 m - w 134 n) (w 135 n))]) (st' := [(0, ((n : Nat) : Int)), (2, 136), (0, gwV (w 125 m - w 134 n) (w 135 n))]) (w' := w) (n' := 142) rfl ?_
              refine qG.ar (P := 0 ≤ ((n : Nat) : Int) ∧ ((n : Nat) : Int) < ((60 : Nat) : Int)) (P2 := 0 < (136 : Int) ∧ (136 : Int) ≤ ((142 : Nat) : Int)) (pc' := 119) (ls' := [(2, 95), (0, ((n : Nat) : Int)), (0, ((m : Nat) : Int)), (0, d9), (0, gwV (w 125 m - w 134 n) (w 135 n))]) (st' := [(0, w 136 n), (0, gwV (w 125 m - w 134 n) (w 135 n))]) (w' := w) (n' := 142) rfl (by omega) (by decide) ?_
              refine qG.blk 1 (pc' := 120) (ls' := [(2, 95), (0, ((n : Nat) : Int)), (0, ((m : Nat) : Int)), (0, d9), (0, gwV (w 125 m - w 134 n) (w 135 n))]) (st' := [(0, (-1)), (0, w 136 n), (0, gwV (w 125 m - w 134 n) (w 135 n))]) (w' := w) (n' := 142) rfl ?_
              refine qG.br (P := w 136 n = (-1)) (pc1 := 123) (pc2 := 127) (st1 := [(0, gwV (w 125 m - w 134 n) (w 135 n))]) rfl (fun ha1 => ?_) (fun ha1 => ?_)
              · skip
                refine qG.blk 3 (pc' := 143) (ls' := [(2, 95), (0, ((n : Nat) : Int)), (0, ((m : Nat) : Int)), (0, d9), (0, gwV (w 125 m - w 134 n) (w 135 n))]) (st' := [(0, wrp ((gwV (w 125 m - w 134 n) (w 135 n)) * 1))]) (w' := w) (n' := 142) rfl ?_
                rw [show wrp ((gwV (w 125 m - w 134 n) (w 135 n)) * 1) = (gwV (w 125 m - w 134 n) (w 135 n)) * 1 from wrp_id (by omega) (by omega)]
                refine qG.ret rfl rfl ?_
                subst hQ9
                exact ⟨congrArg (Prod.mk (0 : Nat)) (by first | exact (wg_n hmn).symm | (rw [wg_y hmy, hha2]; done) | (rw [wg_y hmy, show haV w n m = 1 from if_pos ha1]; done)), rfl, rfl⟩
              · skip
                obtain ⟨a9, ha9⟩ : ∃ q : Nat, w 136 n = (q : Int) := ⟨(w 136 n).toNat, by omega⟩
                have hha2 : haV w n m = w 128 (m * 3 + a9) := (by unfold haV; rw [if_neg (by omega), ha9, Int.toNat_natCast])
                rw [hha2] at hp9
                refine qG.blk 2 (pc' := 131) (ls' := [(2, 95), (0, ((n : Nat) : Int)), (0, ((m : Nat) : Int)), (0, d9), (0, gwV (w 125 m - w 134 n) (w 135 n))]) (st' := [(2, w 95 61), (0, gwV (w 125 m - w 134 n) (w 135 n))]) (w' := w) (n' := 142) rfl ?_
                rw [show w 95 61 = 128 from zref hI rfl rfl]
                refine qG.blk 3 (pc' := 134) (ls' := [(2, 95), (0, ((n : Nat) : Int)), (0, ((m : Nat) : Int)), (0, d9), (0, gwV (w 125 m - w 134 n) (w 135 n))]) (st' := [(0, wrp (3 * ((m : Nat) : Int))), (2, 128), (0, gwV (w 125 m - w 134 n) (w 135 n))]) (w' := w) (n' := 142) rfl ?_
                rw [show wrp (3 * ((m : Nat) : Int)) = ((3 * m : Nat) : Int) from by rw [wrp_id (by omega) (by omega)]; omega]
                refine qG.blk 2 (pc' := 138) (ls' := [(2, 95), (0, ((n : Nat) : Int)), (0, ((m : Nat) : Int)), (0, d9), (0, gwV (w 125 m - w 134 n) (w 135 n))]) (st' := [(2, w 95 69), (0, ((3 * m : Nat) : Int)), (2, 128), (0, gwV (w 125 m - w 134 n) (w 135 n))]) (w' := w) (n' := 142) rfl ?_
                rw [show w 95 69 = 136 from zref hI rfl rfl]
                refine qG.blk 1 (pc' := 139) (ls' := [(2, 95), (0, ((n : Nat) : Int)), (0, ((m : Nat) : Int)), (0, d9), (0, gwV (w 125 m - w 134 n) (w 135 n))]) (st' := [(0, ((n : Nat) : Int)), (2, 136), (0, ((3 * m : Nat) : Int)), (2, 128), (0, gwV (w 125 m - w 134 n) (w 135 n))]) (w' := w) (n' := 142) rfl ?_
                refine qG.ar (P := 0 ≤ ((n : Nat) : Int) ∧ ((n : Nat) : Int) < ((60 : Nat) : Int)) (P2 := 0 < (136 : Int) ∧ (136 : Int) ≤ ((142 : Nat) : Int)) (pc' := 140) (ls' := [(2, 95), (0, ((n : Nat) : Int)), (0, ((m : Nat) : Int)), (0, d9), (0, gwV (w 125 m - w 134 n) (w 135 n))]) (st' := [(0, w 136 n), (0, ((3 * m : Nat) : Int)), (2, 128), (0, gwV (w 125 m - w 134 n) (w 135 n))]) (w' := w) (n' := 142) rfl (by omega) (by decide) ?_
                refine qG.blk 1 (pc' := 141) (ls' := [(2, 95), (0, ((n : Nat) : Int)), (0, ((m : Nat) : Int)), (0, d9), (0, gwV (w 125 m - w 134 n) (w 135 n))]) (st' := [(0, wrp (((3 * m : Nat) : Int) + (w 136 n))), (2, 128), (0, gwV (w 125 m - w 134 n) (w 135 n))]) (w' := w) (n' := 142) rfl ?_
                rw [show wrp (((3 * m : Nat) : Int) + (w 136 n)) = ((m * 3 + a9 : Nat) : Int) from by rw [ha9, wrp_id (by omega) (by omega)]; omega]
                refine qG.ar (P := 0 ≤ ((m * 3 + a9 : Nat) : Int) ∧ ((m * 3 + a9 : Nat) : Int) < ((36 : Nat) : Int)) (P2 := 0 < (128 : Int) ∧ (128 : Int) ≤ ((142 : Nat) : Int)) (pc' := 142) (ls' := [(2, 95), (0, ((n : Nat) : Int)), (0, ((m : Nat) : Int)), (0, d9), (0, gwV (w 125 m - w 134 n) (w 135 n))]) (st' := [(0, w 128 (m * 3 + a9)), (0, gwV (w 125 m - w 134 n) (w 135 n))]) (w' := w) (n' := 142) rfl (by omega) (by decide) ?_
                refine qG.blk 1 (pc' := 143) (ls' := [(2, 95), (0, ((n : Nat) : Int)), (0, ((m : Nat) : Int)), (0, d9), (0, gwV (w 125 m - w 134 n) (w 135 n))]) (st' := [(0, wrp ((gwV (w 125 m - w 134 n) (w 135 n)) * (w 128 (m * 3 + a9))))]) (w' := w) (n' := 142) rfl ?_
                rw [show wrp ((gwV (w 125 m - w 134 n) (w 135 n)) * (w 128 (m * 3 + a9))) = (gwV (w 125 m - w 134 n) (w 135 n)) * (w 128 (m * 3 + a9)) from wrp_id (by omega) (by omega)]
                refine qG.ret rfl rfl ?_
                subst hQ9
                exact ⟨congrArg (Prod.mk (0 : Nat)) (by first | exact (wg_n hmn).symm | (rw [wg_y hmy, hha2]; done) | (rw [wg_y hmy, show haV w n m = 1 from if_pos ha1]; done)), rfl, rfl⟩
            · skip
              refine qG.blk 2 (pc' := 99) (ls' := [(2, 95), (0, ((n : Nat) : Int)), (0, ((m : Nat) : Int)), (0, d9), (0, 50 - d9)]) (st' := [(0, 99), (0, 50 - d9)]) (w' := w) (n' := 142) rfl ?_
              refine qG.br (P := 99 < 50 - d9) (pc1 := 102) (pc2 := 107) (st1 := []) rfl (fun hv9 => ?_) (fun hv9 => ?_)
              · skip
                refine qG.blk 3 (pc' := 111) (ls' := [(2, 95), (0, ((n : Nat) : Int)), (0, ((m : Nat) : Int)), (0, d9), (0, 99)]) (st' := []) (w' := w) (n' := 142) rfl ?_
                have egw : (99 : Int) = gwV (w 125 m - w 134 n) (w 135 n) := (by rw [hd9]; rw [hd9] at hc; unfold gwV; (repeat' split) <;> omega)
                rw [egw]
                refine qG.blk 3 (pc' := 117) (ls' := [(2, 95), (0, ((n : Nat) : Int)), (0, ((m : Nat) : Int)), (0, d9), (0, gwV (w 125 m - w 134 n) (w 135 n))]) (st' := [(2, w 95 69), (0, gwV (w 125 m - w 134 n) (w 135 n))]) (w' := w) (n' := 142) rfl ?_
                rw [show w 95 69 = 136 from zref hI rfl rfl]
                refine qG.blk 1 (pc' := 118) (ls' := [(2, 95), (0, ((n : Nat) : Int)), (0, ((m : Nat) : Int)), (0, d9), (0, gwV (w 125 m - w 134 n) (w 135 n))]) (st' := [(0, ((n : Nat) : Int)), (2, 136), (0, gwV (w 125 m - w 134 n) (w 135 n))]) (w' := w) (n' := 142) rfl ?_
                refine qG.ar (P := 0 ≤ ((n : Nat) : Int) ∧ ((n : Nat) : Int) < ((60 : Nat) : Int)) (P2 := 0 < (136 : Int) ∧ (136 : Int) ≤ ((142 : Nat) : Int)) (pc' := 119) (ls' := [(2, 95), (0, ((n : Nat) : Int)), (0, ((m : Nat) : Int)), (0, d9), (0, gwV (w 125 m - w 134 n) (w 135 n))]) (st' := [(0, w 136 n), (0, gwV (w 125 m - w 134 n) (w 135 n))]) (w' := w) (n' := 142) rfl (by omega) (by decide) ?_
                refine qG.blk 1 (pc' := 120) (ls' := [(2, 95), (0, ((n : Nat) : Int)), (0, ((m : Nat) : Int)), (0, d9), (0, gwV (w 125 m - w 134 n) (w 135 n))]) (st' := [(0, (-1)), (0, w 136 n), (0, gwV (w 125 m - w 134 n) (w 135 n))]) (w' := w) (n' := 142) rfl ?_
                refine qG.br (P := w 136 n = (-1)) (pc1 := 123) (pc2 := 127) (st1 := [(0, gwV (w 125 m - w 134 n) (w 135 n))]) rfl (fun ha1 => ?_) (fun ha1 => ?_)
                · skip
                  refine qG.blk 3 (pc' := 143) (ls' := [(2, 95), (0, ((n : Nat) : Int)), (0, ((m : Nat) : Int)), (0, d9), (0, gwV (w 125 m - w 134 n) (w 135 n))]) (st' := [(0, wrp ((gwV (w 125 m - w 134 n) (w 135 n)) * 1))]) (w' := w) (n' := 142) rfl ?_
                  rw [show wrp ((gwV (w 125 m - w 134 n) (w 135 n)) * 1) = (gwV (w 125 m - w 134 n) (w 135 n)) * 1 from wrp_id (by omega) (by omega)]
                  refine qG.ret rfl rfl ?_
                  subst hQ9
                  exact ⟨congrArg (Prod.mk (0 : Nat)) (by first | exact (wg_n hmn).symm | (rw [wg_y hmy, hha2]; done) | (rw [wg_y hmy, show haV w n m = 1 from if_pos ha1]; done)), rfl, rfl⟩
                · skip
                  obtain ⟨a9, ha9⟩ : ∃ q : Nat, w 136 n = (q : Int) := ⟨(w 136 n).toNat, by omega⟩
                  have hha2 : haV w n m = w 128 (m * 3 + a9) := (by unfold haV; rw [if_neg (by omega), ha9, Int.toNat_natCast])
                  rw [hha2] at hp9
                  refine qG.blk 2 (pc' := 131) (ls' := [(2, 95), (0, ((n : Nat) : Int)), (0, ((m : Nat) : Int)), (0, d9), (0, gwV (w 125 m - w 134 n) (w 135 n))]) (st' := [(2, w 95 61), (0, gwV (w 125 m - w 134 n) (w 135 n))]) (w' := w) (n' := 142) rfl ?_
                  rw [show w 95 61 = 128 from zref hI rfl rfl]
                  refine qG.blk 3 (pc' := 134) (ls' := [(2, 95), (0, ((n : Nat) : Int)), (0, ((m : Nat) : Int)), (0, d9), (0, gwV (w 125 m - w 134 n) (w 135 n))]) (st' := [(0, wrp (3 * ((m : Nat) : Int))), (2, 128), (0, gwV (w 125 m - w 134 n) (w 135 n))]) (w' := w) (n' := 142) rfl ?_
                  rw [show wrp (3 * ((m : Nat) : Int)) = ((3 * m : Nat) : Int) from by rw [wrp_id (by omega) (by omega)]; omega]
                  refine qG.blk 2 (pc' := 138) (ls' := [(2, 95), (0, ((n : Nat) : Int)), (0, ((m : Nat) : Int)), (0, d9), (0, gwV (w 125 m - w 134 n) (w 135 n))]) (st' := [(2, w 95 69), (0, ((3 * m : Nat) : Int)), (2, 128), (0, gwV (w 125 m - w 134 n) (w 135 n))]) (w' := w) (n' := 142) rfl ?_
                  rw [show w 95 69 = 136 from zref hI rfl rfl]
                  refine qG.blk 1 (pc' := 139) (ls' := [(2, 95), (0, ((n : Nat) : Int)), (0, ((m : Nat) : Int)), (0, d9), (0, gwV (w 125 m - w 134 n) (w 135 n))]) (st' := [(0, ((n : Nat) : Int)), (2, 136), (0, ((3 * m : Nat) : Int)), (2, 128), (0, gwV (w 125 m - w 134 n) (w 135 n))]) (w' := w) (n' := 142) rfl ?_
                  refine qG.ar (P := 0 ≤ ((n : Nat) : Int) ∧ ((n : Nat) : Int) < ((60 : Nat) : Int)) (P2 := 0 < (136 : Int) ∧ (136 : Int) ≤ ((142 : Nat) : Int)) (pc' := 140) (ls' := [(2, 95), (0, ((n : Nat) : Int)), (0, ((m : Nat) : Int)), (0, d9), (0, gwV (w 125 m - w 134 n) (w 135 n))]) (st' := [(0, w 136 n), (0, ((3 * m : Nat) : Int)), (2, 128), (0, gwV (w 125 m - w 134 n) (w 135 n))]) (w' := w) (n' := 142) rfl (by omega) (by decide) ?_
                  refine qG.blk 1 (pc' := 141) (ls' := [(2, 95), (0, ((n : Nat) : Int)), (0, ((m : Nat) : Int)), (0, d9), (0, gwV (w 125 m - w 134 n) (w 135 n))]) (st' := [(0, wrp (((3 * m : Nat) : Int) + (w 136 n))), (2, 128), (0, gwV (w 125 m - w 134 n) (w 135 n))]) (w' := w) (n' := 142) rfl ?_
                  rw [show wrp (((3 * m : Nat) : Int) + (w 136 n)) = ((m * 3 + a9 : Nat) : Int) from by rw [ha9, wrp_id (by omega) (by omega)]; omega]
                  refine qG.ar (P := 0 ≤ ((m * 3 + a9 : Nat) : Int) ∧ ((m * 3 + a9 : Nat) : Int) < ((36 : Nat) : Int)) (P2 := 0 < (128 : Int) ∧ (128 : Int) ≤ ((142 : Nat) : Int)) (pc' := 142) (ls' := [(2, 95), (0, ((n : Nat) : Int)), (0, ((m : Nat) : Int)), (0, d9), (0, gwV (w 125 m - w 134 n) (w 135 n))]) (st' := [(0, w 128 (m * 3 + a9)), (0, gwV (w 125 m - w 134 n) (w 135 n))]) (w' := w) (n' := 142) rfl (by omega) (by decide) ?_
                  refine qG.blk 1 (pc' := 143) (ls' := [(2, 95), (0, ((n : Nat) : Int)), (0, ((m : Nat) : Int)), (0, d9), (0, gwV (w 125 m - w 134 n) (w 135 n))]) (st' := [(0, wrp ((gwV (w 125 m - w 134 n) (w 135 n)) * (w 128 (m * 3 + a9))))]) (w' := w) (n' := 142) rfl ?_
                  rw [show wrp ((gwV (w 125 m - w 134 n) (w 135 n)) * (w 128 (m * 3 + a9))) = (gwV (w 125 m - w 134 n) (w 135 n)) * (w 128 (m * 3 + a9)) from wrp_id (by omega) (by omega)]
                  refine qG.ret rfl rfl ?_
                  subst hQ9
                  exact ⟨congrArg (Prod.mk (0 : Nat)) (by first | exact (wg_n hmn).symm | (rw [wg_y hmy, hha2]; done) | (rw [wg_y hmy, show haV w n m = 1 from if_pos ha1]; done)), rfl, rfl⟩
              · skip
                refine qG.blk 2 (pc' := 111) (ls' := [(2, 95), (0, ((n : Nat) : Int)), (0, ((m : Nat) : Int)), (0, d9), (0, 50 - d9)]) (st' := []) (w' := w) (n' := 142) rfl ?_
                have egw : (50 - d9 : Int) = gwV (w 125 m - w 134 n) (w 135 n) := (by rw [hd9]; rw [hd9] at hc; unfold gwV; (repeat' split) <;> omega)
                rw [egw]
                refine qG.blk 3 (pc' := 117) (ls' := [(2, 95), (0, ((n : Nat) : Int)), (0, ((m : Nat) : Int)), (0, d9), (0, gwV (w 125 m - w 134 n) (w 135 n))]) (st' := [(2, w 95 69), (0, gwV (w 125 m - w 134 n) (w 135 n))]) (w' := w) (n' := 142) rfl ?_
                rw [show w 95 69 = 136 from zref hI rfl rfl]
                refine qG.blk 1 (pc' := 118) (ls' := [(2, 95), (0, ((n : Nat) : Int)), (0, ((m : Nat) : Int)), (0, d9), (0, gwV (w 125 m - w 134 n) (w 135 n))]) (st' := [(0, ((n : Nat) : Int)), (2, 136), (0, gwV (w 125 m - w 134 n) (w 135 n))]) (w' := w) (n' := 142) rfl ?_
                refine qG.ar (P := 0 ≤ ((n : Nat) : Int) ∧ ((n : Nat) : Int) < ((60 : Nat) : Int)) (P2 := 0 < (136 : Int) ∧ (136 : Int) ≤ ((142 : Nat) : Int)) (pc' := 119) (ls' := [(2, 95), (0, ((n : Nat) : Int)), (0, ((m : Nat) : Int)), (0, d9), (0, gwV (w 125 m - w 134 n) (w 135 n))]) (st' := [(0, w 136 n), (0, gwV (w 125 m - w 134 n) (w 135 n))]) (w' := w) (n' := 142) rfl (by omega) (by decide) ?_
                refine qG.blk 1 (pc' := 120) (ls' := [(2, 95), (0, ((n : Nat) : Int)), (0, ((m : Nat) : Int)), (0, d9), (0, gwV (w 125 m - w 134 n) (w 135 n))]) (st' := [(0, (-1)), (0, w 136 n), (0, gwV (w 125 m - w 134 n) (w 135 n))]) (w' := w) (n' := 142) rfl ?_
                refine qG.br (P := w 136 n = (-1)) (pc1 := 123) (pc2 := 127) (st1 := [(0, gwV (w 125 m - w 134 n) (w 135 n))]) rfl (fun ha1 => ?_) (fun ha1 => ?_)
                · skip
                  refine qG.blk 3 (pc' := 143) (ls' := [(2, 95), (0, ((n : Nat) : Int)), (0, ((m : Nat) : Int)), (0, d9), (0, gwV (w 125 m - w 134 n) (w 135 n))]) (st' := [(0, wrp ((gwV (w 125 m - w 134 n) (w 135 n)) * 1))]) (w' := w) (n' := 142) rfl ?_
                  rw [show wrp ((gwV (w 125 m - w 134 n) (w 135 n)) * 1) = (gwV (w 125 m - w 134 n) (w 135 n)) * 1 from wrp_id (by omega) (by omega)]
                  refine qG.ret rfl rfl ?_
                  subst hQ9
                  exact ⟨congrArg (Prod.mk (0 : Nat)) (by first | exact (wg_n hmn).symm | (rw [wg_y hmy, hha2]; done) | (rw [wg_y hmy, show haV w n m = 1 from if_pos ha1]; done)), rfl, rfl⟩
                · skip
                  obtain ⟨a9, ha9⟩ : ∃ q : Nat, w 136 n = (q : Int) := ⟨(w 136 n).toNat, by omega⟩
                  have hha2 : haV w n m = w 128 (m * 3 + a9) := (by unfold haV; rw [if_neg (by omega), ha9, Int.toNat_natCast])
                  rw [hha2] at hp9
                  refine qG.blk 2 (pc' := 131) (ls' := [(2, 95), (0, ((n : Nat) : Int)), (0, ((m : Nat) : Int)), (0, d9), (0, gwV (w 125 m - w 134 n) (w 135 n))]) (st' := [(2, w 95 61), (0, gwV (w 125 m - w 134 n) (w 135 n))]) (w' := w) (n' := 142) rfl ?_
                  rw [show w 95 61 = 128 from zref hI rfl rfl]
                  refine qG.blk 3 (pc' := 134) (ls' := [(2, 95), (0, ((n : Nat) : Int)), (0, ((m : Nat) : Int)), (0, d9), (0, gwV (w 125 m - w 134 n) (w 135 n))]) (st' := [(0, wrp (3 * ((m : Nat) : Int))), (2, 128), (0, gwV (w 125 m - w 134 n) (w 135 n))]) (w' := w) (n' := 142) rfl ?_
                  rw [show wrp (3 * ((m : Nat) : Int)) = ((3 * m : Nat) : Int) from by rw [wrp_id (by omega) (by omega)]; omega]
                  refine qG.blk 2 (pc' := 138) (ls' := [(2, 95), (0, ((n : Nat) : Int)), (0, ((m : Nat) : Int)), (0, d9), (0, gwV (w 125 m - w 134 n) (w 135 n))]) (st' := [(2, w 95 69), (0, ((3 * m : Nat) : Int)), (2, 128), (0, gwV (w 125 m - w 134 n) (w 135 n))]) (w' := w) (n' := 142) rfl ?_
                  rw [show w 95 69 = 136 from zref hI rfl rfl]
                  refine qG.blk 1 (pc' := 139) (ls' := [(2, 95), (0, ((n : Nat) : Int)), (0, ((m : Nat) : Int)), (0, d9), (0, gwV (w 125 m - w 134 n) (w 135 n))]) (st' := [(0, ((n : Nat) : Int)), (2, 136), (0, ((3 * m : Nat) : Int)), (2, 128), (0, gwV (w 125 m - w 134 n) (w 135 n))]) (w' := w) (n' := 142) rfl ?_
                  refine qG.ar (P := 0 ≤ ((n : Nat) : Int) ∧ ((n : Nat) : Int) < ((60 : Nat) : Int)) (P2 := 0 < (136 : Int) ∧ (136 : Int) ≤ ((142 : Nat) : Int)) (pc' := 140) (ls' := [(2, 95), (0, ((n : Nat) : Int)), (0, ((m : Nat) : Int)), (0, d9), (0, gwV (w 125 m - w 134 n) (w 135 n))]) (st' := [(0, w 136 n), (0, ((3 * m : Nat) : Int)), (2, 128), (0, gwV (w 125 m - w 134 n) (w 135 n))]) (w' := w) (n' := 142) rfl (by omega) (by decide) ?_
                  refine qG.blk 1 (pc' := 141) (ls' := [(2, 95), (0, ((n : Nat) : Int)), (0, ((m : Nat) : Int)), (0, d9), (0, gwV (w 125 m - w 134 n) (w 135 n))]) (st' := [(0, wrp (((3 * m : Nat) : Int) + (w 136 n))), (2, 128), (0, gwV (w 125 m - w 134 n) (w 135 n))]) (w' := w) (n' := 142) rfl ?_
                  rw [show wrp (((3 * m : Nat) : Int) + (w 136 n)) = ((m * 3 + a9 : Nat) : Int) from by rw [ha9, wrp_id (by omega) (by omega)]; omega]
                  refine qG.ar (P := 0 ≤ ((m * 3 + a9 : Nat) : Int) ∧ ((m * 3 + a9 : Nat) : Int) < ((36 : Nat) : Int)) (P2 := 0 < (128 : Int) ∧ (128 : Int) ≤ ((142 : Nat) : Int)) (pc' := 142) (ls' := [(2, 95), (0, ((n : Nat) : Int)), (0, ((m : Nat) : Int)), (0, d9), (0, gwV (w 125 m - w 134 n) (w 135 n))]) (st' := [(0, w 128 (m * 3 + a9)), (0, gwV (w 125 m - w 134 n) (w 135 n))]) (w' := w) (n' := 142) rfl (by omega) (by decide) ?_
                  refine qG.blk 1 (pc' := 143) (ls' := [(2, 95), (0, ((n : Nat) : Int)), (0, ((m : Nat) : Int)), (0, d9), (0, gwV (w 125 m - w 134 n) (w 135 n))]) (st' := [(0, wrp ((gwV (w 125 m - w 134 n) (w 135 n)) * (w 128 (m * 3 + a9))))]) (w' := w) (n' := 142) rfl ?_
                  rw [show wrp ((gwV (w 125 m - w 134 n) (w 135 n)) * (w 128 (m * 3 + a9))) = (gwV (w 125 m - w 134 n) (w 135 n)) * (w 128 (m * 3 + a9)) from wrp_id (by omega) (by omega)]
                  refine qG.ret rfl rfl ?_
                  subst hQ9
                  exact ⟨congrArg (Prod.mk (0 : Nat)) (by first | exact (wg_n hmn).symm | (rw [wg_y hmy, hha2]; done) | (rw [wg_y hmy, show haV w n m = 1 from if_pos ha1]; done)), rfl, rfl⟩
        · skip
          refine qG.blk 2 (pc' := 61) (ls' := [(2, 95), (0, ((n : Nat) : Int)), (0, ((m : Nat) : Int)), (0, d9), (9, 0)]) (st' := [(0, d9), (0, 50)]) (w' := w) (n' := 142) rfl ?_
          refine qG.br (P := d9 < 0) (pc1 := 64) (pc2 := 69) (st1 := [(0, 50)]) rfl (fun hd0 => ?_) (fun hd0 => ?_)
          · skip
            refine qG.blk 2 (pc' := 66) (ls' := [(2, 95), (0, ((n : Nat) : Int)), (0, ((m : Nat) : Int)), (0, d9), (9, 0)]) (st' := [(0, wrp (-d9)), (0, 50)]) (w' := w) (n' := 142) rfl ?_
            rw [show wrp (-d9) = -d9 from wrp_id (by omega) (by omega)]
            refine qG.blk 2 (pc' := 71) (ls' := [(2, 95), (0, ((n : Nat) : Int)), (0, ((m : Nat) : Int)), (0, d9), (9, 0)]) (st' := [(0, 2), (0, -d9), (0, 50)]) (w' := w) (n' := 142) rfl ?_
            refine qG.gn (P := 2 = 0) (pc' := 72) (ls' := [(2, 95), (0, ((n : Nat) : Int)), (0, ((m : Nat) : Int)), (0, d9), (9, 0)]) (st' := [(0, qdiv (-d9) 2), (0, 50)]) (w' := w) (n' := 142) rfl (by decide) ?_
            rw [show qdiv (-d9) 2 = (-d9) / 2 from qdiv_z (by omega) (by omega)]
            refine qG.blk 1 (pc' := 73) (ls' := [(2, 95), (0, ((n : Nat) : Int)), (0, ((m : Nat) : Int)), (0, d9), (9, 0)]) (st' := [(0, wrp (50 - ((-d9) / 2)))]) (w' := w) (n' := 142) rfl ?_
            rw [show wrp (50 - ((-d9) / 2)) = 50 - ((-d9) / 2) from wrp_id (by omega) (by omega)]
            refine qG.blk 3 (pc' := 78) (ls' := [(2, 95), (0, ((n : Nat) : Int)), (0, ((m : Nat) : Int)), (0, d9), (0, 50 - ((-d9) / 2))]) (st' := [(0, 1), (0, 50 - ((-d9) / 2))]) (w' := w) (n' := 142) rfl ?_
            refine qG.br (P := 50 - ((-d9) / 2) < 1) (pc1 := 81) (pc2 := 85) (st1 := []) rfl (fun hv1 => ?_) (fun hv1 => ?_)
            · skip
              refine qG.blk 3 (pc' := 111) (ls' := [(2, 95), (0, ((n : Nat) : Int)), (0, ((m : Nat) : Int)), (0, d9), (0, 1)]) (st' := []) (w' := w) (n' := 142) rfl ?_
              have egw : (1 : Int) = gwV (w 125 m - w 134 n) (w 135 n) := (by rw [hd9]; rw [hd9] at hc; unfold gwV; (repeat' split) <;> omega)
              rw [egw]
              refine qG.blk 3 (pc' := 117) (ls' := [(2, 95), (0, ((n : Nat) : Int)), (0, ((m : Nat) : Int)), (0, d9), (0, gwV (w 125 m - w 134 n) (w 135 n))]) (st' := [(2, w 95 69), (0, gwV (w 125 m - w 134 n) (w 135 n))]) (w' := w) (n' := 142) rfl ?_
              rw [show w 95 69 = 136 from zref hI rfl rfl]
              refine qG.blk 1 (pc' := 118) (ls' := [(2, 95), (0, ((n : Nat) : Int)), (0, ((m : Nat) : Int)), (0, d9), (0, gwV (w 125 m - w 134 n) (w 135 n))]) (st' := [(0, ((n : Nat) : Int)), (2, 136), (0, gwV (w 125 m - w 134 n) (w 135 n))]) (w' := w) (n' := 142) rfl ?_
              refine qG.ar (P := 0 ≤ ((n : Nat) : Int) ∧ ((n : Nat) : Int) < ((60 : Nat) : Int)) (P2 := 0 < (136 : Int) ∧ (136 : Int) ≤ ((142 : Nat) : Int)) (pc' := 119) (ls' := [(2, 95), (0, ((n : Nat) : Int)), (0, ((m : Nat) : Int)), (0, d9), (0, gwV (w 125 m - w 134 n) (w 135 n))]) (st' := [(0, w 136 n), (0, gwV (w 125 m - w 134 n) (w 135 n))]) (w' := w) (n' := 142) rfl (by omega) (by decide) ?_
              refine qG.blk 1 (pc' := 120) (ls' := [(2, 95), (0, ((n : Nat) : Int)), (0, ((m : Nat) : Int)), (0, d9), (0, gwV (w 125 m - w 134 n) (w 135 n))]) (st' := [(0, (-1)), (0, w 136 n), (0, gwV (w 125 m - w 134 n) (w 135 n))]) (w' := w) (n' := 142) rfl ?_
              refine qG.br (P := w 136 n = (-1)) (pc1 := 123) (pc2 := 127) (st1 := [(0, gwV (w 125 m - w 134 n) (w 135 n))]) rfl (fun ha1 => ?_) (fun ha1 => ?_)
              · skip
                refine qG.blk 3 (pc' := 143) (ls' := [(2, 95), (0, ((n : Nat) : Int)), (0, ((m : Nat) : Int)), (0, d9), (0, gwV (w 125 m - w 134 n) (w 135 n))]) (st' := [(0, wrp ((gwV (w 125 m - w 134 n) (w 135 n)) * 1))]) (w' := w) (n' := 142) rfl ?_
                rw [show wrp ((gwV (w 125 m - w 134 n) (w 135 n)) * 1) = (gwV (w 125 m - w 134 n) (w 135 n)) * 1 from wrp_id (by omega) (by omega)]
                refine qG.ret rfl rfl ?_
                subst hQ9
                exact ⟨congrArg (Prod.mk (0 : Nat)) (by first | exact (wg_n hmn).symm | (rw [wg_y hmy, hha2]; done) | (rw [wg_y hmy, show haV w n m = 1 from if_pos ha1]; done)), rfl, rfl⟩
              · skip
                obtain ⟨a9, ha9⟩ : ∃ q : Nat, w 136 n = (q : Int) := ⟨(w 136 n).toNat, by omega⟩
                have hha2 : haV w n m = w 128 (m * 3 + a9) := (by unfold haV; rw [if_neg (by omega), ha9, Int.toNat_natCast])
                rw [hha2] at hp9
                refine qG.blk 2 (pc' := 131) (ls' := [(2, 95), (0, ((n : Nat) : Int)), (0, ((m : Nat) : Int)), (0, d9), (0, gwV (w 125 m - w 134 n) (w 135 n))]) (st' := [(2, w 95 61), (0, gwV (w 125 m - w 134 n) (w 135 n))]) (w' := w) (n' := 142) rfl ?_
                rw [show w 95 61 = 128 from zref hI rfl rfl]
                refine qG.blk 3 (pc' := 134) (ls' := [(2, 95), (0, ((n : Nat) : Int)), (0, ((m : Nat) : Int)), (0, d9), (0, gwV (w 125 m - w 134 n) (w 135 n))]) (st' := [(0, wrp (3 * ((m : Nat) : Int))), (2, 128), (0, gwV (w 125 m - w 134 n) (w 135 n))]) (w' := w) (n' := 142) rfl ?_
                rw [show wrp (3 * ((m : Nat) : Int)) = ((3 * m : Nat) : Int) from by rw [wrp_id (by omega) (by omega)]; omega]
                refine qG.blk 2 (pc' := 138) (ls' := [(2, 95), (0, ((n : Nat) : Int)), (0, ((m : Nat) : Int)), (0, d9), (0, gwV (w 125 m - w 134 n) (w 135 n))]) (st' := [(2, w 95 69), (0, ((3 * m : Nat) : Int)), (2, 128), (0, gwV (w 125 m - w 134 n) (w 135 n))]) (w' := w) (n' := 142) rfl ?_
                rw [show w 95 69 = 136 from zref hI rfl rfl]
                refine qG.blk 1 (pc' := 139) (ls' := [(2, 95), (0, ((n : Nat) : Int)), (0, ((m : Nat) : Int)), (0, d9), (0, gwV (w 125 m - w 134 n) (w 135 n))]) (st' := [(0, ((n : Nat) : Int)), (2, 136), (0, ((3 * m : Nat) : Int)), (2, 128), (0, gwV (w 125 m - w 134 n) (w 135 n))]) (w' := w) (n' := 142) rfl ?_
                refine qG.ar (P := 0 ≤ ((n : Nat) : Int) ∧ ((n : Nat) : Int) < ((60 : Nat) : Int)) (P2 := 0 < (136 : Int) ∧ (136 : Int) ≤ ((142 : Nat) : Int)) (pc' := 140) (ls' := [(2, 95), (0, ((n : Nat) : Int)), (0, ((m : Nat) : Int)), (0, d9), (0, gwV (w 125 m - w 134 n) (w 135 n))]) (st' := [(0, w 136 n), (0, ((3 * m : Nat) : Int)), (2, 128), (0, gwV (w 125 m - w 134 n) (w 135 n))]) (w' := w) (n' := 142) rfl (by omega) (by decide) ?_
                refine qG.blk 1 (pc' := 141) (ls' := [(2, 95), (0, ((n : Nat) : Int)), (0, ((m : Nat) : Int)), (0, d9), (0, gwV (w 125 m - w 134 n) (w 135 n))]) (st' := [(0, wrp (((3 * m : Nat) : Int) + (w 136 n))), (2, 128), (0, gwV (w 125 m - w 134 n) (w 135 n))]) (w' := w) (n' := 142) rfl ?_
                rw [show wrp (((3 * m : Nat) : Int) + (w 136 n)) = ((m * 3 + a9 : Nat) : Int) from by rw [ha9, wrp_id (by omega) (by omega)]; omega]
                refine qG.ar (P := 0 ≤ ((m * 3 + a9 : Nat) : Int) ∧ ((m * 3 + a9 : Nat) : Int) < ((36 : Nat) : Int)) (P2 := 0 < (128 : Int) ∧ (128 : Int) ≤ ((142 : Nat) : Int)) (pc' := 142) (ls' := [(2, 95), (0, ((n : Nat) : Int)), (0, ((m : Nat) : Int)), (0, d9), (0, gwV (w 125 m - w 134 n) (w 135 n))]) (st' := [(0, w 128 (m * 3 + a9)), (0, gwV (w 125 m - w 134 n) (w 135 n))]) (w' := w) (n' := 142) rfl (by omega) (by decide) ?_
                refine qG.blk 1 (pc' := 143) (ls' := [(2, 95), (0, ((n : Nat) : Int)), (0, ((m : Nat) : Int)), (0, d9), (0, gwV (w 125 m - w 134 n) (w 135 n))]) (st' := [(0, wrp ((gwV (w 125 m - w 134 n) (w 135 n)) * (w 128 (m * 3 + a9))))]) (w' := w) (n' := 142) rfl ?_
                rw [show wrp ((gwV (w 125 m - w 134 n) (w 135 n)) * (w 128 (m * 3 + a9))) = (gwV (w 125 m - w 134 n) (w 135 n)) * (w 128 (m * 3 + a9)) from wrp_id (by omega) (by omega)]
                refine qG.ret rfl rfl ?_
                subst hQ9
                exact ⟨congrArg (Prod.mk (0 : Nat)) (by first | exact (wg_n hmn).symm | (rw [wg_y hmy, hha2]; done) | (rw [wg_y hmy, show haV w n m = 1 from if_pos ha1]; done)), rfl, rfl⟩
            · skip
              refine qG.blk 2 (pc' := 89) (ls' := [(2, 95), (0, ((n : Nat) : Int)), (0, ((m : Nat) : Int)), (0, d9), (0, 50 - ((-d9) / 2))]) (st' := [(2, w 95 68)]) (w' := w) (n' := 142) rfl ?_
              rw [show w 95 68 = 135 from zref hI rfl rfl]
              refine qG.blk 1 (pc' := 90) (ls' := [(2, 95), (0, ((n : Nat) : Int)), (0, ((m : Nat) : Int)), (0, d9), (0, 50 - ((-d9) / 2))]) (st' := [(0, ((n : Nat) : Int)), (2, 135)]) (w' := w) (n' := 142) rfl ?_
              refine qG.ar (P := 0 ≤ ((n : Nat) : Int) ∧ ((n : Nat) : Int) < ((60 : Nat) : Int)) (P2 := 0 < (135 : Int) ∧ (135 : Int) ≤ ((142 : Nat) : Int)) (pc' := 91) (ls' := [(2, 95), (0, ((n : Nat) : Int)), (0, ((m : Nat) : Int)), (0, d9), (0, 50 - ((-d9) / 2))]) (st' := [(0, w 135 n)]) (w' := w) (n' := 142) rfl (by omega) (by decide) ?_
              refine qG.blk 1 (pc' := 92) (ls' := [(2, 95), (0, ((n : Nat) : Int)), (0, ((m : Nat) : Int)), (0, d9), (0, 50 - ((-d9) / 2))]) (st' := [(0, 1), (0, w 135 n)]) (w' := w) (n' := 142) rfl ?_
              refine qG.br (P := w 135 n = 1) (pc1 := 107) (pc2 := 95) (st1 := []) rfl (fun he1 => ?_) (fun he1 => ?_)
              · skip
                refine qG.blk 2 (pc' := 111) (ls' := [(2, 95), (0, ((n : Nat) : Int)), (0, ((m : Nat) : Int)), (0, d9), (0, 50 - ((-d9) / 2))]) (st' := []) (w' := w) (n' := 142) rfl ?_
                have egw : (50 - ((-d9) / 2) : Int) = gwV (w 125 m - w 134 n) (w 135 n) := (by rw [hd9]; rw [hd9] at hc; unfold gwV; (repeat' split) <;> omega)
                rw [egw]
                refine qG.blk 3 (pc' := 117) (ls' := [(2, 95), (0, ((n : Nat) : Int)), (0, ((m : Nat) : Int)), (0, d9), (0, gwV (w 125 m - w 134 n) (w 135 n))]) (st' := [(2, w 95 69), (0, gwV (w 125 m - w 134 n) (w 135 n))]) (w' := w) (n' := 142) rfl ?_
                rw [show w 95 69 = 136 from zref hI rfl rfl]
                refine qG.blk 1 (pc' := 118) (ls' := [(2, 95), (0, ((n : Nat) : Int)), (0, ((m : Nat) : Int)), (0, d9), (0, gwV (w 125 m - w 134 n) (w 135 n))]) (st' := [(0, ((n : Nat) : Int)), (2, 136), (0, gwV (w 125 m - w 134 n) (w 135 n))]) (w' := w) (n' := 142) rfl ?_
                refine qG.ar (P := 0 ≤ ((n : Nat) : Int) ∧ ((n : Nat) : Int) < ((60 : Nat) : Int)) (P2 := 0 < (136 : Int) ∧ (136 : Int) ≤ ((142 : Nat) : Int)) (pc' := 119) (ls' := [(2, 95), (0, ((n : Nat) : Int)), (0, ((m : Nat) : Int)), (0, d9), (0, gwV (w 125 m - w 134 n) (w 135 n))]) (st' := [(0, w 136 n), (0, gwV (w 125 m - w 134 n) (w 135 n))]) (w' := w) (n' := 142) rfl (by omega) (by decide) ?_
                refine qG.blk 1 (pc' := 120) (ls' := [(2, 95), (0, ((n : Nat) : Int)), (0, ((m : Nat) : Int)), (0, d9), (0, gwV (w 125 m - w 134 n) (w 135 n))]) (st' := [(0, (-1)), (0, w 136 n), (0, gwV (w 125 m - w 134 n) (w 135 n))]) (w' := w) (n' := 142) rfl ?_
                refine qG.br (P := w 136 n = (-1)) (pc1 := 123) (pc2 := 127) (st1 := [(0, gwV (w 125 m - w 134 n) (w 135 n))]) rfl (fun ha1 => ?_) (fun ha1 => ?_)
                · skip
                  refine qG.blk 3 (pc' := 143) (ls' := [(2, 95), (0, ((n : Nat) : Int)), (0, ((m : Nat) : Int)), (0, d9), (0, gwV (w 125 m - w 134 n) (w 135 n))]) (st' := [(0, wrp ((gwV (w 125 m - w 134 n) (w 135 n)) * 1))]) (w' := w) (n' := 142) rfl ?_
                  rw [show wrp ((gwV (w 125 m - w 134 n) (w 135 n)) * 1) = (gwV (w 125 m - w 134 n) (w 135 n)) * 1 from wrp_id (by omega) (by omega)]
                  refine qG.ret rfl rfl ?_
                  subst hQ9
                  exact ⟨congrArg (Prod.mk (0 : Nat)) (by first | exact (wg_n hmn).symm | (rw [wg_y hmy, hha2]; done) | (rw [wg_y hmy, show haV w n m = 1 from if_pos ha1]; done)), rfl, rfl⟩
                · skip
                  obtain ⟨a9, ha9⟩ : ∃ q : Nat, w 136 n = (q : Int) := ⟨(w 136 n).toNat, by omega⟩
                  have hha2 : haV w n m = w 128 (m * 3 + a9) := (by unfold haV; rw [if_neg (by omega), ha9, Int.toNat_natCast])
                  rw [hha2] at hp9
                  refine qG.blk 2 (pc' := 131) (ls' := [(2, 95), (0, ((n : Nat) : Int)), (0, ((m : Nat) : Int)), (0, d9), (0, gwV (w 125 m - w 134 n) (w 135 n))]) (st' := [(2, w 95 61), (0, gwV (w 125 m - w 134 n) (w 135 n))]) (w' := w) (n' := 142) rfl ?_
                  rw [show w 95 61 = 128 from zref hI rfl rfl]
                  refine qG.blk 3 (pc' := 134) (ls' := [(2, 95), (0, ((n : Nat) : Int)), (0, ((m : Nat) : Int)), (0, d9), (0, gwV (w 125 m - w 134 n) (w 135 n))]) (st' := [(0, wrp (3 * ((m : Nat) : Int))), (2, 128), (0, gwV (w 125 m - w 134 n) (w 135 n))]) (w' := w) (n' := 142) rfl ?_
                  rw [show wrp (3 * ((m : Nat) : Int)) = ((3 * m : Nat) : Int) from by rw [wrp_id (by omega) (by omega)]; omega]
                  refine qG.blk 2 (pc' := 138) (ls' := [(2, 95), (0, ((n : Nat) : Int)), (0, ((m : Nat) : Int)), (0, d9), (0, gwV (w 125 m - w 134 n) (w 135 n))]) (st' := [(2, w 95 69), (0, ((3 * m : Nat) : Int)), (2, 128), (0, gwV (w 125 m - w 134 n) (w 135 n))]) (w' := w) (n' := 142) rfl ?_
                  rw [show w 95 69 = 136 from zref hI rfl rfl]
                  refine qG.blk 1 (pc' := 139) (ls' := [(2, 95), (0, ((n : Nat) : Int)), (0, ((m : Nat) : Int)), (0, d9), (0, gwV (w 125 m - w 134 n) (w 135 n))]) (st' := [(0, ((n : Nat) : Int)), (2, 136), (0, ((3 * m : Nat) : Int)), (2, 128), (0, gwV (w 125 m - w 134 n) (w 135 n))]) (w' := w) (n' := 142) rfl ?_
                  refine qG.ar (P := 0 ≤ ((n : Nat) : Int) ∧ ((n : Nat) : Int) < ((60 : Nat) : Int)) (P2 := 0 < (136 : Int) ∧ (136 : Int) ≤ ((142 : Nat) : Int)) (pc' := 140) (ls' := [(2, 95), (0, ((n : Nat) : Int)), (0, ((m : Nat) : Int)), (0, d9), (0, gwV (w 125 m - w 134 n) (w 135 n))]) (st' := [(0, w 136 n), (0, ((3 * m : Nat) : Int)), (2, 128), (0, gwV (w 125 m - w 134 n) (w 135 n))]) (w' := w) (n' := 142) rfl (by omega) (by decide) ?_
                  refine qG.blk 1 (pc' := 141) (ls' := [(2, 95), (0, ((n : Nat) : Int)), (0, ((m : Nat) : Int)), (0, d9), (0, gwV (w 125 m - w 134 n) (w 135 n))]) (st' := [(0, wrp (((3 * m : Nat) : Int) + (w 136 n))), (2, 128), (0, gwV (w 125 m - w 134 n) (w 135 n))]) (w' := w) (n' := 142) rfl ?_
                  rw [show wrp (((3 * m : Nat) : Int) + (w 136 n)) = ((m * 3 + a9 : Nat) : Int) from by rw [ha9, wrp_id (by omega) (by omega)]; omega]
                  refine qG.ar (P := 0 ≤ ((m * 3 + a9 : Nat) : Int) ∧ ((m * 3 + a9 : Nat) : Int) < ((36 : Nat) : Int)) (P2 := 0 < (128 : Int) ∧ (128 : Int) ≤ ((142 : Nat) : Int)) (pc' := 142) (ls' := [(2, 95), (0, ((n : Nat) : Int)), (0, ((m : Nat) : Int)), (0, d9), (0, gwV (w 125 m - w 134 n) (w 135 n))]) (st' := [(0, w 128 (m * 3 + a9)), (0, gwV (w 125 m - w 134 n) (w 135 n))]) (w' := w) (n' := 142) rfl (by omega) (by decide) ?_
                  refine qG.blk 1 (pc' := 143) (ls' := [(2, 95), (0, ((n : Nat) : Int)), (0, ((m : Nat) : Int)), (0, d9), (0, gwV (w 125 m - w 134 n) (w 135 n))]) (st' := [(0, wrp ((gwV (w 125 m - w 134 n) (w 135 n)) * (w 128 (m * 3 + a9))))]) (w' := w) (n' := 142) rfl ?_
                  rw [show wrp ((gwV (w 125 m - w 134 n) (w 135 n)) * (w 128 (m * 3 + a9))) = (gwV (w 125 m - w 134 n) (w 135 n)) * (w 128 (m * 3 + a9)) from wrp_id (by omega) (by omega)]
                  refine qG.ret rfl rfl ?_
                  subst hQ9
                  exact ⟨congrArg (Prod.mk (0 : Nat)) (by first | exact (wg_n hmn).symm | (rw [wg_y hmy, hha2]; done) | (rw [wg_y hmy, show haV w n m = 1 from if_pos ha1]; done)), rfl, rfl⟩
              · skip
                refine qG.blk 2 (pc' := 99) (ls' := [(2, 95), (0, ((n : Nat) : Int)), (0, ((m : Nat) : Int)), (0, d9), (0, 50 - ((-d9) / 2))]) (st' := [(0, 99), (0, 50 - ((-d9) / 2))]) (w' := w) (n' := 142) rfl ?_
                refine qG.br (P := 99 < 50 - ((-d9) / 2)) (pc1 := 102) (pc2 := 107) (st1 := []) rfl (fun hv9 => ?_) (fun hv9 => ?_)
                · skip
                  refine qG.blk 3 (pc' := 111) (ls' := [(2, 95), (0, ((n : Nat) : Int)), (0, ((m : Nat) : Int)), (0, d9), (0, 99)]) (st' := []) (w' := w) (n' := 142) rfl ?_
                  have egw : (99 : Int) = gwV (w 125 m - w 134 n) (w 135 n) := (by rw [hd9]; rw [hd9] at hc; unfold gwV; (repeat' split) <;> omega)
                  rw [egw]
                  refine qG.blk 3 (pc' := 117) (ls' := [(2, 95), (0, ((n : Nat) : Int)), (0, ((m : Nat) : Int)), (0, d9), (0, gwV (w 125 m - w 134 n) (w 135 n))]) (st' := [(2, w 95 69), (0, gwV (w 125 m - w 134 n) (w 135 n))]) (w' := w) (n' := 142) rfl ?_
                  rw [show w 95 69 = 136 from zref hI rfl rfl]
                  refine qG.blk 1 (pc' := 118) (ls' := [(2, 95), (0, ((n : Nat) : Int)), (0, ((m : Nat) : Int)), (0, d9), (0, gwV (w 125 m - w 134 n) (w 135 n))]) (st' := [(0, ((n : Nat) : Int)), (2, 136), (0, gwV (w 125 m - w 134 n) (w 135 n))]) (w' := w) (n' := 142) rfl ?_
                  refine qG.ar (P := 0 ≤ ((n : Nat) : Int) ∧ ((n : Nat) : Int) < ((60 : Nat) : Int)) (P2 := 0 < (136 : Int) ∧ (136 : Int) ≤ ((142 : Nat) : Int)) (pc' := 119) (ls' := [(2, 95), (0, ((n : Nat) : Int)), (0, ((m : Nat) : Int)), (0, d9), (0, gwV (w 125 m - w 134 n) (w 135 n))]) (st' := [(0, w 136 n), (0, gwV (w 125 m - w 134 n) (w 135 n))]) (w' := w) (n' := 142) rfl (by omega) (by decide) ?_
                  refine qG.blk 1 (pc' := 120) (ls' := [(2, 95), (0, ((n : Nat) : Int)), (0, ((m : Nat) : Int)), (0, d9), (0, gwV (w 125 m - w 134 n) (w 135 n))]) (st' := [(0, (-1)), (0, w 136 n), (0, gwV (w 125 m - w 134 n) (w 135 n))]) (w' := w) (n' := 142) rfl ?_
                  refine qG.br (P := w 136 n = (-1)) (pc1 := 123) (pc2 := 127) (st1 := [(0, gwV (w 125 m - w 134 n) (w 135 n))]) rfl (fun ha1 => ?_) (fun ha1 => ?_)
                  · skip
                    refine qG.blk 3 (pc' := 143) (ls' := [(2, 95), (0, ((n : Nat) : Int)), (0, ((m : Nat) : Int)), (0, d9), (0, gwV (w 125 m - w 134 n) (w 135 n))]) (st' := [(0, wrp ((gwV (w 125 m - w 134 n) (w 135 n)) * 1))]) (w' := w) (n' := 142) rfl ?_
                    rw [show wrp ((gwV (w 125 m - w 134 n) (w 135 n)) * 1) = (gwV (w 125 m - w 134 n) (w 135 n)) * 1 from wrp_id (by omega) (by omega)]
                    refine qG.ret rfl rfl ?_
                    subst hQ9
                    exact ⟨congrArg (Prod.mk (0 : Nat)) (by first | exact (wg_n hmn).symm | (rw [wg_y hmy, hha2]; done) | (rw [wg_y hmy, show haV w n m = 1 from if_pos ha1]; done)), rfl, rfl⟩
                  · skip
                    obtain ⟨a9, ha9⟩ : ∃ q : Nat, w 136 n = (q : Int) := ⟨(w 136 n).toNat, by omega⟩
                    have hha2 : haV w n m = w 128 (m * 3 + a9) := (by unfold haV; rw [if_neg (by omega), ha9, Int.toNat_natCast])
                    rw [hha2] at hp9
                    refine qG.blk 2 (pc' := 131) (ls' := [(2, 95), (0, ((n : Nat) : Int)), (0, ((m : Nat) : Int)), (0, d9), (0, gwV (w 125 m - w 134 n) (w 135 n))]) (st' := [(2, w 95 61), (0, gwV (w 125 m - w 134 n) (w 135 n))]) (w' := w) (n' := 142) rfl ?_
                    rw [show w 95 61 = 128 from zref hI rfl rfl]
                    refine qG.blk 3 (pc' := 134) (ls' := [(2, 95), (0, ((n : Nat) : Int)), (0, ((m : Nat) : Int)), (0, d9), (0, gwV (w 125 m - w 134 n) (w 135 n))]) (st' := [(0, wrp (3 * ((m : Nat) : Int))), (2, 128), (0, gwV (w 125 m - w 134 n) (w 135 n))]) (w' := w) (n' := 142) rfl ?_
                    rw [show wrp (3 * ((m : Nat) : Int)) = ((3 * m : Nat) : Int) from by rw [wrp_id (by omega) (by omega)]; omega]
                    refine qG.blk 2 (pc' := 138) (ls' := [(2, 95), (0, ((n : Nat) : Int)), (0, ((m : Nat) : Int)), (0, d9), (0, gwV (w 125 m - w 134 n) (w 135 n))]) (st' := [(2, w 95 69), (0, ((3 * m : Nat) : Int)), (2, 128), (0, gwV (w 125 m - w 134 n) (w 135 n))]) (w' := w) (n' := 142) rfl ?_
                    rw [show w 95 69 = 136 from zref hI rfl rfl]
                    refine qG.blk 1 (pc' := 139) (ls' := [(2, 95), (0, ((n : Nat) : Int)), (0, ((m : Nat) : Int)), (0, d9), (0, gwV (w 125 m - w 134 n) (w 135 n))]) (st' := [(0, ((n : Nat) : Int)), (2, 136), (0, ((3 * m : Nat) : Int)), (2, 128), (0, gwV (w 125 m - w 134 n) (w 135 n))]) (w' := w) (n' := 142) rfl ?_
                    refine qG.ar (P := 0 ≤ ((n : Nat) : Int) ∧ ((n : Nat) : Int) < ((60 : Nat) : Int)) (P2 := 0 < (136 : Int) ∧ (136 : Int) ≤ ((142 : Nat) : Int)) (pc' := 140) (ls' := [(2, 95), (0, ((n : Nat) : Int)), (0, ((m : Nat) : Int)), (0, d9), (0, gwV (w 125 m - w 134 n) (w 135 n))]) (st' := [(0, w 136 n), (0, ((3 * m : Nat) : Int)), (2, 128), (0, gwV (w 125 m - w 134 n) (w 135 n))]) (w' := w) (n' := 142) rfl (by omega) (by decide) ?_
                    refine qG.blk 1 (pc' := 141) (ls' := [(2, 95), (0, ((n : Nat) : Int)), (0, ((m : Nat) : Int)), (0, d9), (0, gwV (w 125 m - w 134 n) (w 135 n))]) (st' := [(0, wrp (((3 * m : Nat) : Int) + (w 136 n))), (2, 128), (0, gwV (w 125 m - w 134 n) (w 135 n))]) (w' := w) (n' := 142) rfl ?_
                    rw [show wrp (((3 * m : Nat) : Int) + (w 136 n)) = ((m * 3 + a9 : Nat) : Int) from by rw [ha9, wrp_id (by omega) (by omega)]; omega]
                    refine qG.ar (P := 0 ≤ ((m * 3 + a9 : Nat) : Int) ∧ ((m * 3 + a9 : Nat) : Int) < ((36 : Nat) : Int)) (P2 := 0 < (128 : Int) ∧ (128 : Int) ≤ ((142 : Nat) : Int)) (pc' := 142) (ls' := [(2, 95), (0, ((n : Nat) : Int)), (0, ((m : Nat) : Int)), (0, d9), (0, gwV (w 125 m - w 134 n) (w 135 n))]) (st' := [(0, w 128 (m * 3 + a9)), (0, gwV (w 125 m - w 134 n) (w 135 n))]) (w' := w) (n' := 142) rfl (by omega) (by decide) ?_
                    refine qG.blk 1 (pc' := 143) (ls' := [(2, 95), (0, ((n : Nat) : Int)), (0, ((m : Nat) : Int)), (0, d9), (0, gwV (w 125 m - w 134 n) (w 135 n))]) (st' := [(0, wrp ((gwV (w 125 m - w 134 n) (w 135 n)) * (w 128 (m * 3 + a9))))]) (w' := w) (n' := 142) rfl ?_
                    rw [show wrp ((gwV (w 125 m - w 134 n) (w 135 n)) * (w 128 (m * 3 + a9))) = (gwV (w 125 m - w 134 n) (w 135 n)) * (w 128 (m * 3 + a9)) from wrp_id (by omega) (by omega)]
                    refine qG.ret rfl rfl ?_
                    subst hQ9
                    exact ⟨congrArg (Prod.mk (0 : Nat)) (by first | exact (wg_n hmn).symm | (rw [wg_y hmy, hha2]; done) | (rw [wg_y hmy, show haV w n m = 1 from if_pos ha1]; done)), rfl, rfl⟩
                · skip
                  refine qG.blk 2 (pc' := 111) (ls' := [(2, 95), (0, ((n : Nat) : Int)), (0, ((m : Nat) : Int)), (0, d9), (0, 50 - ((-d9) / 2))]) (st' := []) (w' := w) (n' := 142) rfl ?_
                  have egw : (50 - ((-d9) / 2) : Int) = gwV (w 125 m - w 134 n) (w 135 n) := (by rw [hd9]; rw [hd9] at hc; unfold gwV; (repeat' split) <;> omega)
                  rw [egw]
                  refine qG.blk 3 (pc' := 117) (ls' := [(2, 95), (0, ((n : Nat) : Int)), (0, ((m : Nat) : Int)), (0, d9), (0, gwV (w 125 m - w 134 n) (w 135 n))]) (st' := [(2, w 95 69), (0, gwV (w 125 m - w 134 n) (w 135 n))]) (w' := w) (n' := 142) rfl ?_
                  rw [show w 95 69 = 136 from zref hI rfl rfl]
                  refine qG.blk 1 (pc' := 118) (ls' := [(2, 95), (0, ((n : Nat) : Int)), (0, ((m : Nat) : Int)), (0, d9), (0, gwV (w 125 m - w 134 n) (w 135 n))]) (st' := [(0, ((n : Nat) : Int)), (2, 136), (0, gwV (w 125 m - w 134 n) (w 135 n))]) (w' := w) (n' := 142) rfl ?_
                  refine qG.ar (P := 0 ≤ ((n : Nat) : Int) ∧ ((n : Nat) : Int) < ((60 : Nat) : Int)) (P2 := 0 < (136 : Int) ∧ (136 : Int) ≤ ((142 : Nat) : Int)) (pc' := 119) (ls' := [(2, 95), (0, ((n : Nat) : Int)), (0, ((m : Nat) : Int)), (0, d9), (0, gwV (w 125 m - w 134 n) (w 135 n))]) (st' := [(0, w 136 n), (0, gwV (w 125 m - w 134 n) (w 135 n))]) (w' := w) (n' := 142) rfl (by omega) (by decide) ?_
                  refine qG.blk 1 (pc' := 120) (ls' := [(2, 95), (0, ((n : Nat) : Int)), (0, ((m : Nat) : Int)), (0, d9), (0, gwV (w 125 m - w 134 n) (w 135 n))]) (st' := [(0, (-1)), (0, w 136 n), (0, gwV (w 125 m - w 134 n) (w 135 n))]) (w' := w) (n' := 142) rfl ?_
                  refine qG.br (P := w 136 n = (-1)) (pc1 := 123) (pc2 := 127) (st1 := [(0, gwV (w 125 m - w 134 n) (w 135 n))]) rfl (fun ha1 => ?_) (fun ha1 => ?_)
                  · skip
                    refine qG.blk 3 (pc' := 143) (ls' := [(2, 95), (0, ((n : Nat) : Int)), (0, ((m : Nat) : Int)), (0, d9), (0, gwV (w 125 m - w 134 n) (w 135 n))]) (st' := [(0, wrp ((gwV (w 125 m - w 134 n) (w 135 n)) * 1))]) (w' := w) (n' := 142) rfl ?_
                    rw [show wrp ((gwV (w 125 m - w 134 n) (w 135 n)) * 1) = (gwV (w 125 m - w 134 n) (w 135 n)) * 1 from wrp_id (by omega) (by omega)]
                    refine qG.ret rfl rfl ?_
                    subst hQ9
                    exact ⟨congrArg (Prod.mk (0 : Nat)) (by first | exact (wg_n hmn).symm | (rw [wg_y hmy, hha2]; done) | (rw [wg_y hmy, show haV w n m = 1 from if_pos ha1]; done)), rfl, rfl⟩
                  · skip
                    obtain ⟨a9, ha9⟩ : ∃ q : Nat, w 136 n = (q : Int) := ⟨(w 136 n).toNat, by omega⟩
                    have hha2 : haV w n m = w 128 (m * 3 + a9) := (by unfold haV; rw [if_neg (by omega), ha9, Int.toNat_natCast])
                    rw [hha2] at hp9
                    refine qG.blk 2 (pc' := 131) (ls' := [(2, 95), (0, ((n : Nat) : Int)), (0, ((m : Nat) : Int)), (0, d9), (0, gwV (w 125 m - w 134 n) (w 135 n))]) (st' := [(2, w 95 61), (0, gwV (w 125 m - w 134 n) (w 135 n))]) (w' := w) (n' := 142) rfl ?_
                    rw [show w 95 61 = 128 from zref hI rfl rfl]
                    refine qG.blk 3 (pc' := 134) (ls' := [(2, 95), (0, ((n : Nat) : Int)), (0, ((m : Nat) : Int)), (0, d9), (0, gwV (w 125 m - w 134 n) (w 135 n))]) (st' := [(0, wrp (3 * ((m : Nat) : Int))), (2, 128), (0, gwV (w 125 m - w 134 n) (w 135 n))]) (w' := w) (n' := 142) rfl ?_
                    rw [show wrp (3 * ((m : Nat) : Int)) = ((3 * m : Nat) : Int) from by rw [wrp_id (by omega) (by omega)]; omega]
                    refine qG.blk 2 (pc' := 138) (ls' := [(2, 95), (0, ((n : Nat) : Int)), (0, ((m : Nat) : Int)), (0, d9), (0, gwV (w 125 m - w 134 n) (w 135 n))]) (st' := [(2, w 95 69), (0, ((3 * m : Nat) : Int)), (2, 128), (0, gwV (w 125 m - w 134 n) (w 135 n))]) (w' := w) (n' := 142) rfl ?_
                    rw [show w 95 69 = 136 from zref hI rfl rfl]
                    refine qG.blk 1 (pc' := 139) (ls' := [(2, 95), (0, ((n : Nat) : Int)), (0, ((m : Nat) : Int)), (0, d9), (0, gwV (w 125 m - w 134 n) (w 135 n))]) (st' := [(0, ((n : Nat) : Int)), (2, 136), (0, ((3 * m : Nat) : Int)), (2, 128), (0, gwV (w 125 m - w 134 n) (w 135 n))]) (w' := w) (n' := 142) rfl ?_
                    refine qG.ar (P := 0 ≤ ((n : Nat) : Int) ∧ ((n : Nat) : Int) < ((60 : Nat) : Int)) (P2 := 0 < (136 : Int) ∧ (136 : Int) ≤ ((142 : Nat) : Int)) (pc' := 140) (ls' := [(2, 95), (0, ((n : Nat) : Int)), (0, ((m : Nat) : Int)), (0, d9), (0, gwV (w 125 m - w 134 n) (w 135 n))]) (st' := [(0, w 136 n), (0, ((3 * m : Nat) : Int)), (2, 128), (0, gwV (w 125 m - w 134 n) (w 135 n))]) (w' := w) (n' := 142) rfl (by omega) (by decide) ?_
                    refine qG.blk 1 (pc' := 141) (ls' := [(2, 95), (0, ((n : Nat) : Int)), (0, ((m : Nat) : Int)), (0, d9), (0, gwV (w 125 m - w 134 n) (w 135 n))]) (st' := [(0, wrp (((3 * m : Nat) : Int) + (w 136 n))), (2, 128), (0, gwV (w 125 m - w 134 n) (w 135 n))]) (w' := w) (n' := 142) rfl ?_
                    rw [show wrp (((3 * m : Nat) : Int) + (w 136 n)) = ((m * 3 + a9 : Nat) : Int) from by rw [ha9, wrp_id (by omega) (by omega)]; omega]
                    refine qG.ar (P := 0 ≤ ((m * 3 + a9 : Nat) : Int) ∧ ((m * 3 + a9 : Nat) : Int) < ((36 : Nat) : Int)) (P2 := 0 < (128 : Int) ∧ (128 : Int) ≤ ((142 : Nat) : Int)) (pc' := 142) (ls' := [(2, 95), (0, ((n : Nat) : Int)), (0, ((m : Nat) : Int)), (0, d9), (0, gwV (w 125 m - w 134 n) (w 135 n))]) (st' := [(0, w 128 (m * 3 + a9)), (0, gwV (w 125 m - w 134 n) (w 135 n))]) (w' := w) (n' := 142) rfl (by omega) (by decide) ?_
                    refine qG.blk 1 (pc' := 143) (ls' := [(2, 95), (0, ((n : Nat) : Int)), (0, ((m : Nat) : Int)), (0, d9), (0, gwV (w 125 m - w 134 n) (w 135 n))]) (st' := [(0, wrp ((gwV (w 125 m - w 134 n) (w 135 n)) * (w 128 (m * 3 + a9))))]) (w' := w) (n' := 142) rfl ?_
                    rw [show wrp ((gwV (w 125 m - w 134 n) (w 135 n)) * (w 128 (m * 3 + a9))) = (gwV (w 125 m - w 134 n) (w 135 n)) * (w 128 (m * 3 + a9)) from wrp_id (by omega) (by omega)]
                    refine qG.ret rfl rfl ?_
                    subst hQ9
                    exact ⟨congrArg (Prod.mk (0 : Nat)) (by first | exact (wg_n hmn).symm | (rw [wg_y hmy, hha2]; done) | (rw [wg_y hmy, show haV w n m = 1 from if_pos ha1]; done)), rfl, rfl⟩
          · skip
            refine qG.blk 2 (pc' := 71) (ls' := [(2, 95), (0, ((n : Nat) : Int)), (0, ((m : Nat) : Int)), (0, d9), (9, 0)]) (st' := [(0, 2), (0, d9), (0, 50)]) (w' := w) (n' := 142) rfl ?_
            refine qG.gn (P := 2 = 0) (pc' := 72) (ls' := [(2, 95), (0, ((n : Nat) : Int)), (0, ((m : Nat) : Int)), (0, d9), (9, 0)]) (st' := [(0, qdiv d9 2), (0, 50)]) (w' := w) (n' := 142) rfl (by decide) ?_
            rw [show qdiv d9 2 = d9 / 2 from qdiv_z (by omega) (by omega)]
            refine qG.blk 1 (pc' := 73) (ls' := [(2, 95), (0, ((n : Nat) : Int)), (0, ((m : Nat) : Int)), (0, d9), (9, 0)]) (st' := [(0, wrp (50 - (d9 / 2)))]) (w' := w) (n' := 142) rfl ?_
            rw [show wrp (50 - (d9 / 2)) = 50 - (d9 / 2) from wrp_id (by omega) (by omega)]
            refine qG.blk 3 (pc' := 78) (ls' := [(2, 95), (0, ((n : Nat) : Int)), (0, ((m : Nat) : Int)), (0, d9), (0, 50 - (d9 / 2))]) (st' := [(0, 1), (0, 50 - (d9 / 2))]) (w' := w) (n' := 142) rfl ?_
            refine qG.br (P := 50 - (d9 / 2) < 1) (pc1 := 81) (pc2 := 85) (st1 := []) rfl (fun hv1 => ?_) (fun hv1 => ?_)
            · skip
              refine qG.blk 3 (pc' := 111) (ls' := [(2, 95), (0, ((n : Nat) : Int)), (0, ((m : Nat) : Int)), (0, d9), (0, 1)]) (st' := []) (w' := w) (n' := 142) rfl ?_
              have egw : (1 : Int) = gwV (w 125 m - w 134 n) (w 135 n) := (by rw [hd9]; rw [hd9] at hc; unfold gwV; (repeat' split) <;> omega)
              rw [egw]
              refine qG.blk 3 (pc' := 117) (ls' := [(2, 95), (0, ((n : Nat) : Int)), (0, ((m : Nat) : Int)), (0, d9), (0, gwV (w 125 m - w 134 n) (w 135 n))]) (st' := [(2, w 95 69), (0, gwV (w 125 m - w 134 n) (w 135 n))]) (w' := w) (n' := 142) rfl ?_
              rw [show w 95 69 = 136 from zref hI rfl rfl]
              refine qG.blk 1 (pc' := 118) (ls' := [(2, 95), (0, ((n : Nat) : Int)), (0, ((m : Nat) : Int)), (0, d9), (0, gwV (w 125 m - w 134 n) (w 135 n))]) (st' := [(0, ((n : Nat) : Int)), (2, 136), (0, gwV (w 125 m - w 134 n) (w 135 n))]) (w' := w) (n' := 142) rfl ?_
              refine qG.ar (P := 0 ≤ ((n : Nat) : Int) ∧ ((n : Nat) : Int) < ((60 : Nat) : Int)) (P2 := 0 < (136 : Int) ∧ (136 : Int) ≤ ((142 : Nat) : Int)) (pc' := 119) (ls' := [(2, 95), (0, ((n : Nat) : Int)), (0, ((m : Nat) : Int)), (0, d9), (0, gwV (w 125 m - w 134 n) (w 135 n))]) (st' := [(0, w 136 n), (0, gwV (w 125 m - w 134 n) (w 135 n))]) (w' := w) (n' := 142) rfl (by omega) (by decide) ?_
              refine qG.blk 1 (pc' := 120) (ls' := [(2, 95), (0, ((n : Nat) : Int)), (0, ((m : Nat) : Int)), (0, d9), (0, gwV (w 125 m - w 134 n) (w 135 n))]) (st' := [(0, (-1)), (0, w 136 n), (0, gwV (w 125 m - w 134 n) (w 135 n))]) (w' := w) (n' := 142) rfl ?_
              refine qG.br (P := w 136 n = (-1)) (pc1 := 123) (pc2 := 127) (st1 := [(0, gwV (w 125 m - w 134 n) (w 135 n))]) rfl (fun ha1 => ?_) (fun ha1 => ?_)
              · skip
                refine qG.blk 3 (pc' := 143) (ls' := [(2, 95), (0, ((n : Nat) : Int)), (0, ((m : Nat) : Int)), (0, d9), (0, gwV (w 125 m - w 134 n) (w 135 n))]) (st' := [(0, wrp ((gwV (w 125 m - w 134 n) (w 135 n)) * 1))]) (w' := w) (n' := 142) rfl ?_
                rw [show wrp ((gwV (w 125 m - w 134 n) (w 135 n)) * 1) = (gwV (w 125 m - w 134 n) (w 135 n)) * 1 from wrp_id (by omega) (by omega)]
                refine qG.ret rfl rfl ?_
                subst hQ9
                exact ⟨congrArg (Prod.mk (0 : Nat)) (by first | exact (wg_n hmn).symm | (rw [wg_y hmy, hha2]; done) | (rw [wg_y hmy, show haV w n m = 1 from if_pos ha1]; done)), rfl, rfl⟩
              · skip
                obtain ⟨a9, ha9⟩ : ∃ q : Nat, w 136 n = (q : Int) := ⟨(w 136 n).toNat, by omega⟩
                have hha2 : haV w n m = w 128 (m * 3 + a9) := (by unfold haV; rw [if_neg (by omega), ha9, Int.toNat_natCast])
                rw [hha2] at hp9
                refine qG.blk 2 (pc' := 131) (ls' := [(2, 95), (0, ((n : Nat) : Int)), (0, ((m : Nat) : Int)), (0, d9), (0, gwV (w 125 m - w 134 n) (w 135 n))]) (st' := [(2, w 95 61), (0, gwV (w 125 m - w 134 n) (w 135 n))]) (w' := w) (n' := 142) rfl ?_
                rw [show w 95 61 = 128 from zref hI rfl rfl]
                refine qG.blk 3 (pc' := 134) (ls' := [(2, 95), (0, ((n : Nat) : Int)), (0, ((m : Nat) : Int)), (0, d9), (0, gwV (w 125 m - w 134 n) (w 135 n))]) (st' := [(0, wrp (3 * ((m : Nat) : Int))), (2, 128), (0, gwV (w 125 m - w 134 n) (w 135 n))]) (w' := w) (n' := 142) rfl ?_
                rw [show wrp (3 * ((m : Nat) : Int)) = ((3 * m : Nat) : Int) from by rw [wrp_id (by omega) (by omega)]; omega]
                refine qG.blk 2 (pc' := 138) (ls' := [(2, 95), (0, ((n : Nat) : Int)), (0, ((m : Nat) : Int)), (0, d9), (0, gwV (w 125 m - w 134 n) (w 135 n))]) (st' := [(2, w 95 69), (0, ((3 * m : Nat) : Int)), (2, 128), (0, gwV (w 125 m - w 134 n) (w 135 n))]) (w' := w) (n' := 142) rfl ?_
                rw [show w 95 69 = 136 from zref hI rfl rfl]
                refine qG.blk 1 (pc' := 139) (ls' := [(2, 95), (0, ((n : Nat) : Int)), (0, ((m : Nat) : Int)), (0, d9), (0, gwV (w 125 m - w 134 n) (w 135 n))]) (st' := [(0, ((n : Nat) : Int)), (2, 136), (0, ((3 * m : Nat) : Int)), (2, 128), (0, gwV (w 125 m - w 134 n) (w 135 n))]) (w' := w) (n' := 142) rfl ?_
                refine qG.ar (P := 0 ≤ ((n : Nat) : Int) ∧ ((n : Nat) : Int) < ((60 : Nat) : Int)) (P2 := 0 < (136 : Int) ∧ (136 : Int) ≤ ((142 : Nat) : Int)) (pc' := 140) (ls' := [(2, 95), (0, ((n : Nat) : Int)), (0, ((m : Nat) : Int)), (0, d9), (0, gwV (w 125 m - w 134 n) (w 135 n))]) (st' := [(0, w 136 n), (0, ((3 * m : Nat) : Int)), (2, 128), (0, gwV (w 125 m - w 134 n) (w 135 n))]) (w' := w) (n' := 142) rfl (by omega) (by decide) ?_
                refine qG.blk 1 (pc' := 141) (ls' := [(2, 95), (0, ((n : Nat) : Int)), (0, ((m : Nat) : Int)), (0, d9), (0, gwV (w 125 m - w 134 n) (w 135 n))]) (st' := [(0, wrp (((3 * m : Nat) : Int) + (w 136 n))), (2, 128), (0, gwV (w 125 m - w 134 n) (w 135 n))]) (w' := w) (n' := 142) rfl ?_
                rw [show wrp (((3 * m : Nat) : Int) + (w 136 n)) = ((m * 3 + a9 : Nat) : Int) from by rw [ha9, wrp_id (by omega) (by omega)]; omega]
                refine qG.ar (P := 0 ≤ ((m * 3 + a9 : Nat) : Int) ∧ ((m * 3 + a9 : Nat) : Int) < ((36 : Nat) : Int)) (P2 := 0 < (128 : Int) ∧ (128 : Int) ≤ ((142 : Nat) : Int)) (pc' := 142) (ls' := [(2, 95), (0, ((n : Nat) : Int)), (0, ((m : Nat) : Int)), (0, d9), (0, gwV (w 125 m - w 134 n) (w 135 n))]) (st' := [(0, w 128 (m * 3 + a9)), (0, gwV (w 125 m - w 134 n) (w 135 n))]) (w' := w) (n' := 142) rfl (by omega) (by decide) ?_
                refine qG.blk 1 (pc' := 143) (ls' := [(2, 95), (0, ((n : Nat) : Int)), (0, ((m : Nat) : Int)), (0, d9), (0, gwV (w 125 m - w 134 n) (w 135 n))]) (st' := [(0, wrp ((gwV (w 125 m - w 134 n) (w 135 n)) * (w 128 (m * 3 + a9))))]) (w' := w) (n' := 142) rfl ?_
                rw [show wrp ((gwV (w 125 m - w 134 n) (w 135 n)) * (w 128 (m * 3 + a9))) = (gwV (w 125 m - w 134 n) (w 135 n)) * (w 128 (m * 3 + a9)) from wrp_id (by omega) (by omega)]
                refine qG.ret rfl rfl ?_
                subst hQ9
                exact ⟨congrArg (Prod.mk (0 : Nat)) (by first | exact (wg_n hmn).symm | (rw [wg_y hmy, hha2]; done) | (rw [wg_y hmy, show haV w n m = 1 from if_pos ha1]; done)), rfl, rfl⟩
            · skip
              refine qG.blk 2 (pc' := 89) (ls' := [(2, 95), (0, ((n : Nat) : Int)), (0, ((m : Nat) : Int)), (0, d9), (0, 50 - (d9 / 2))]) (st' := [(2, w 95 68)]) (w' := w) (n' := 142) rfl ?_
              rw [show w 95 68 = 135 from zref hI rfl rfl]
              refine qG.blk 1 (pc' := 90) (ls' := [(2, 95), (0, ((n : Nat) : Int)), (0, ((m : Nat) : Int)), (0, d9), (0, 50 - (d9 / 2))]) (st' := [(0, ((n : Nat) : Int)), (2, 135)]) (w' := w) (n' := 142) rfl ?_
              refine qG.ar (P := 0 ≤ ((n : Nat) : Int) ∧ ((n : Nat) : Int) < ((60 : Nat) : Int)) (P2 := 0 < (135 : Int) ∧ (135 : Int) ≤ ((142 : Nat) : Int)) (pc' := 91) (ls' := [(2, 95), (0, ((n : Nat) : Int)), (0, ((m : Nat) : Int)), (0, d9), (0, 50 - (d9 / 2))]) (st' := [(0, w 135 n)]) (w' := w) (n' := 142) rfl (by omega) (by decide) ?_
              refine qG.blk 1 (pc' := 92) (ls' := [(2, 95), (0, ((n : Nat) : Int)), (0, ((m : Nat) : Int)), (0, d9), (0, 50 - (d9 / 2))]) (st' := [(0, 1), (0, w 135 n)]) (w' := w) (n' := 142) rfl ?_
              refine qG.br (P := w 135 n = 1) (pc1 := 107) (pc2 := 95) (st1 := []) rfl (fun he1 => ?_) (fun he1 => ?_)
              · skip
                refine qG.blk 2 (pc' := 111) (ls' := [(2, 95), (0, ((n : Nat) : Int)), (0, ((m : Nat) : Int)), (0, d9), (0, 50 - (d9 / 2))]) (st' := []) (w' := w) (n' := 142) rfl ?_
                have egw : (50 - (d9 / 2) : Int) = gwV (w 125 m - w 134 n) (w 135 n) := (by rw [hd9]; rw [hd9] at hc; unfold gwV; (repeat' split) <;> omega)
                rw [egw]
                refine qG.blk 3 (pc' := 117) (ls' := [(2, 95), (0, ((n : Nat) : Int)), (0, ((m : Nat) : Int)), (0, d9), (0, gwV (w 125 m - w 134 n) (w 135 n))]) (st' := [(2, w 95 69), (0, gwV (w 125 m - w 134 n) (w 135 n))]) (w' := w) (n' := 142) rfl ?_
                rw [show w 95 69 = 136 from zref hI rfl rfl]
                refine qG.blk 1 (pc' := 118) (ls' := [(2, 95), (0, ((n : Nat) : Int)), (0, ((m : Nat) : Int)), (0, d9), (0, gwV (w 125 m - w 134 n) (w 135 n))]) (st' := [(0, ((n : Nat) : Int)), (2, 136), (0, gwV (w 125 m - w 134 n) (w 135 n))]) (w' := w) (n' := 142) rfl ?_
                refine qG.ar (P := 0 ≤ ((n : Nat) : Int) ∧ ((n : Nat) : Int) < ((60 : Nat) : Int)) (P2 := 0 < (136 : Int) ∧ (136 : Int) ≤ ((142 : Nat) : Int)) (pc' := 119) (ls' := [(2, 95), (0, ((n : Nat) : Int)), (0, ((m : Nat) : Int)), (0, d9), (0, gwV (w 125 m - w 134 n) (w 135 n))]) (st' := [(0, w 136 n), (0, gwV (w 125 m - w 134 n) (w 135 n))]) (w' := w) (n' := 142) rfl (by omega) (by decide) ?_
                refine qG.blk 1 (pc' := 120) (ls' := [(2, 95), (0, ((n : Nat) : Int)), (0, ((m : Nat) : Int)), (0, d9), (0, gwV (w 125 m - w 134 n) (w 135 n))]) (st' := [(0, (-1)), (0, w 136 n), (0, gwV (w 125 m - w 134 n) (w 135 n))]) (w' := w) (n' := 142) rfl ?_
                refine qG.br (P := w 136 n = (-1)) (pc1 := 123) (pc2 := 127) (st1 := [(0, gwV (w 125 m - w 134 n) (w 135 n))]) rfl (fun ha1 => ?_) (fun ha1 => ?_)
                · skip
                  refine qG.blk 3 (pc' := 143) (ls' := [(2, 95), (0, ((n : Nat) : Int)), (0, ((m : Nat) : Int)), (0, d9), (0, gwV (w 125 m - w 134 n) (w 135 n))]) (st' := [(0, wrp ((gwV (w 125 m - w 134 n) (w 135 n)) * 1))]) (w' := w) (n' := 142) rfl ?_
                  rw [show wrp ((gwV (w 125 m - w 134 n) (w 135 n)) * 1) = (gwV (w 125 m - w 134 n) (w 135 n)) * 1 from wrp_id (by omega) (by omega)]
                  refine qG.ret rfl rfl ?_
                  subst hQ9
                  exact ⟨congrArg (Prod.mk (0 : Nat)) (by first | exact (wg_n hmn).symm | (rw [wg_y hmy, hha2]; done) | (rw [wg_y hmy, show haV w n m = 1 from if_pos ha1]; done)), rfl, rfl⟩
                · skip
                  obtain ⟨a9, ha9⟩ : ∃ q : Nat, w 136 n = (q : Int) := ⟨(w 136 n).toNat, by omega⟩
                  have hha2 : haV w n m = w 128 (m * 3 + a9) := (by unfold haV; rw [if_neg (by omega), ha9, Int.toNat_natCast])
                  rw [hha2] at hp9
                  refine qG.blk 2 (pc' := 131) (ls' := [(2, 95), (0, ((n : Nat) : Int)), (0, ((m : Nat) : Int)), (0, d9), (0, gwV (w 125 m - w 134 n) (w 135 n))]) (st' := [(2, w 95 61), (0, gwV (w 125 m - w 134 n) (w 135 n))]) (w' := w) (n' := 142) rfl ?_
                  rw [show w 95 61 = 128 from zref hI rfl rfl]
                  refine qG.blk 3 (pc' := 134) (ls' := [(2, 95), (0, ((n : Nat) : Int)), (0, ((m : Nat) : Int)), (0, d9), (0, gwV (w 125 m - w 134 n) (w 135 n))]) (st' := [(0, wrp (3 * ((m : Nat) : Int))), (2, 128), (0, gwV (w 125 m - w 134 n) (w 135 n))]) (w' := w) (n' := 142) rfl ?_
                  rw [show wrp (3 * ((m : Nat) : Int)) = ((3 * m : Nat) : Int) from by rw [wrp_id (by omega) (by omega)]; omega]
                  refine qG.blk 2 (pc' := 138) (ls' := [(2, 95), (0, ((n : Nat) : Int)), (0, ((m : Nat) : Int)), (0, d9), (0, gwV (w 125 m - w 134 n) (w 135 n))]) (st' := [(2, w 95 69), (0, ((3 * m : Nat) : Int)), (2, 128), (0, gwV (w 125 m - w 134 n) (w 135 n))]) (w' := w) (n' := 142) rfl ?_
                  rw [show w 95 69 = 136 from zref hI rfl rfl]
                  refine qG.blk 1 (pc' := 139) (ls' := [(2, 95), (0, ((n : Nat) : Int)), (0, ((m : Nat) : Int)), (0, d9), (0, gwV (w 125 m - w 134 n) (w 135 n))]) (st' := [(0, ((n : Nat) : Int)), (2, 136), (0, ((3 * m : Nat) : Int)), (2, 128), (0, gwV (w 125 m - w 134 n) (w 135 n))]) (w' := w) (n' := 142) rfl ?_
                  refine qG.ar (P := 0 ≤ ((n : Nat) : Int) ∧ ((n : Nat) : Int) < ((60 : Nat) : Int)) (P2 := 0 < (136 : Int) ∧ (136 : Int) ≤ ((142 : Nat) : Int)) (pc' := 140) (ls' := [(2, 95), (0, ((n : Nat) : Int)), (0, ((m : Nat) : Int)), (0, d9), (0, gwV (w 125 m - w 134 n) (w 135 n))]) (st' := [(0, w 136 n), (0, ((3 * m : Nat) : Int)), (2, 128), (0, gwV (w 125 m - w 134 n) (w 135 n))]) (w' := w) (n' := 142) rfl (by omega) (by decide) ?_
                  refine qG.blk 1 (pc' := 141) (ls' := [(2, 95), (0, ((n : Nat) : Int)), (0, ((m : Nat) : Int)), (0, d9), (0, gwV (w 125 m - w 134 n) (w 135 n))]) (st' := [(0, wrp (((3 * m : Nat) : Int) + (w 136 n))), (2, 128), (0, gwV (w 125 m - w 134 n) (w 135 n))]) (w' := w) (n' := 142) rfl ?_
                  rw [show wrp (((3 * m : Nat) : Int) + (w 136 n)) = ((m * 3 + a9 : Nat) : Int) from by rw [ha9, wrp_id (by omega) (by omega)]; omega]
                  refine qG.ar (P := 0 ≤ ((m * 3 + a9 : Nat) : Int) ∧ ((m * 3 + a9 : Nat) : Int) < ((36 : Nat) : Int)) (P2 := 0 < (128 : Int) ∧ (128 : Int) ≤ ((142 : Nat) : Int)) (pc' := 142) (ls' := [(2, 95), (0, ((n : Nat) : Int)), (0, ((m : Nat) : Int)), (0, d9), (0, gwV (w 125 m - w 134 n) (w 135 n))]) (st' := [(0, w 128 (m * 3 + a9)), (0, gwV (w 125 m - w 134 n) (w 135 n))]) (w' := w) (n' := 142) rfl (by omega) (by decide) ?_
                  refine qG.blk 1 (pc' := 143) (ls' := [(2, 95), (0, ((n : Nat) : Int)), (0, ((m : Nat) : Int)), (0, d9), (0, gwV (w 125 m - w 134 n) (w 135 n))]) (st' := [(0, wrp ((gwV (w 125 m - w 134 n) (w 135 n)) * (w 128 (m * 3 + a9))))]) (w' := w) (n' := 142) rfl ?_
                  rw [show wrp ((gwV (w 125 m - w 134 n) (w 135 n)) * (w 128 (m * 3 + a9))) = (gwV (w 125 m - w 134 n) (w 135 n)) * (w 128 (m * 3 + a9)) from wrp_id (by omega) (by omega)]
                  refine qG.ret rfl rfl ?_
                  subst hQ9
                  exact ⟨congrArg (Prod.mk (0 : Nat)) (by first | exact (wg_n hmn).symm | (rw [wg_y hmy, hha2]; done) | (rw [wg_y hmy, show haV w n m = 1 from if_pos ha1]; done)), rfl, rfl⟩
              · skip
                refine qG.blk 2 (pc' := 99) (ls' := [(2, 95), (0, ((n : Nat) : Int)), (0, ((m : Nat) : Int)), (0, d9), (0, 50 - (d9 / 2))]) (st' := [(0, 99), (0, 50 - (d9 / 2))]) (w' := w) (n' := 142) rfl ?_
                refine qG.br (P := 99 < 50 - (d9 / 2)) (pc1 := 102) (pc2 := 107) (st1 := []) rfl (fun hv9 => ?_) (fun hv9 => ?_)
                · skip
                  refine qG.blk 3 (pc' := 111) (ls' := [(2, 95), (0, ((n : Nat) : Int)), (0, ((m : Nat) : Int)), (0, d9), (0, 99)]) (st' := []) (w' := w) (n' := 142) rfl ?_
                  have egw : (99 : Int) = gwV (w 125 m - w 134 n) (w 135 n) := (by rw [hd9]; rw [hd9] at hc; unfold gwV; (repeat' split) <;> omega)
                  rw [egw]
                  refine qG.blk 3 (pc' := 117) (ls' := [(2, 95), (0, ((n : Nat) : Int)), (0, ((m : Nat) : Int)), (0, d9), (0, gwV (w 125 m - w 134 n) (w 135 n))]) (st' := [(2, w 95 69), (0, gwV (w 125 m - w 134 n) (w 135 n))]) (w' := w) (n' := 142) rfl ?_
                  rw [show w 95 69 = 136 from zref hI rfl rfl]
                  refine qG.blk 1 (pc' := 118) (ls' := [(2, 95), (0, ((n : Nat) : Int)), (0, ((m : Nat) : Int)), (0, d9), (0, gwV (w 125 m - w 134 n) (w 135 n))]) (st' := [(0, ((n : Nat) : Int)), (2, 136), (0, gwV (w 125 m - w 134 n) (w 135 n))]) (w' := w) (n' := 142) rfl ?_
                  refine qG.ar (P := 0 ≤ ((n : Nat) : Int) ∧ ((n : Nat) : Int) < ((60 : Nat) : Int)) (P2 := 0 < (136 : Int) ∧ (136 : Int) ≤ ((142 : Nat) : Int)) (pc' := 119) (ls' := [(2, 95), (0, ((n : Nat) : Int)), (0, ((m : Nat) : Int)), (0, d9), (0, gwV (w 125 m - w 134 n) (w 135 n))]) (st' := [(0, w 136 n), (0, gwV (w 125 m - w 134 n) (w 135 n))]) (w' := w) (n' := 142) rfl (by omega) (by decide) ?_
                  refine qG.blk 1 (pc' := 120) (ls' := [(2, 95), (0, ((n : Nat) : Int)), (0, ((m : Nat) : Int)), (0, d9), (0, gwV (w 125 m - w 134 n) (w 135 n))]) (st' := [(0, (-1)), (0, w 136 n), (0, gwV (w 125 m - w 134 n) (w 135 n))]) (w' := w) (n' := 142) rfl ?_
                  refine qG.br (P := w 136 n = (-1)) (pc1 := 123) (pc2 := 127) (st1 := [(0, gwV (w 125 m - w 134 n) (w 135 n))]) rfl (fun ha1 => ?_) (fun ha1 => ?_)
                  · skip
                    refine qG.blk 3 (pc' := 143) (ls' := [(2, 95), (0, ((n : Nat) : Int)), (0, ((m : Nat) : Int)), (0, d9), (0, gwV (w 125 m - w 134 n) (w 135 n))]) (st' := [(0, wrp ((gwV (w 125 m - w 134 n) (w 135 n)) * 1))]) (w' := w) (n' := 142) rfl ?_
                    rw [show wrp ((gwV (w 125 m - w 134 n) (w 135 n)) * 1) = (gwV (w 125 m - w 134 n) (w 135 n)) * 1 from wrp_id (by omega) (by omega)]
                    refine qG.ret rfl rfl ?_
                    subst hQ9
                    exact ⟨congrArg (Prod.mk (0 : Nat)) (by first | exact (wg_n hmn).symm | (rw [wg_y hmy, hha2]; done) | (rw [wg_y hmy, show haV w n m = 1 from if_pos ha1]; done)), rfl, rfl⟩
                  · skip
                    obtain ⟨a9, ha9⟩ : ∃ q : Nat, w 136 n = (q : Int) := ⟨(w 136 n).toNat, by omega⟩
                    have hha2 : haV w n m = w 128 (m * 3 + a9) := (by unfold haV; rw [if_neg (by omega), ha9, Int.toNat_natCast])
                    rw [hha2] at hp9
                    refine qG.blk 2 (pc' := 131) (ls' := [(2, 95), (0, ((n : Nat) : Int)), (0, ((m : Nat) : Int)), (0, d9), (0, gwV (w 125 m - w 134 n) (w 135 n))]) (st' := [(2, w 95 61), (0, gwV (w 125 m - w 134 n) (w 135 n))]) (w' := w) (n' := 142) rfl ?_
                    rw [show w 95 61 = 128 from zref hI rfl rfl]
                    refine qG.blk 3 (pc' := 134) (ls' := [(2, 95), (0, ((n : Nat) : Int)), (0, ((m : Nat) : Int)), (0, d9), (0, gwV (w 125 m - w 134 n) (w 135 n))]) (st' := [(0, wrp (3 * ((m : Nat) : Int))), (2, 128), (0, gwV (w 125 m - w 134 n) (w 135 n))]) (w' := w) (n' := 142) rfl ?_
                    rw [show wrp (3 * ((m : Nat) : Int)) = ((3 * m : Nat) : Int) from by rw [wrp_id (by omega) (by omega)]; omega]
                    refine qG.blk 2 (pc' := 138) (ls' := [(2, 95), (0, ((n : Nat) : Int)), (0, ((m : Nat) : Int)), (0, d9), (0, gwV (w 125 m - w 134 n) (w 135 n))]) (st' := [(2, w 95 69), (0, ((3 * m : Nat) : Int)), (2, 128), (0, gwV (w 125 m - w 134 n) (w 135 n))]) (w' := w) (n' := 142) rfl ?_
                    rw [show w 95 69 = 136 from zref hI rfl rfl]
                    refine qG.blk 1 (pc' := 139) (ls' := [(2, 95), (0, ((n : Nat) : Int)), (0, ((m : Nat) : Int)), (0, d9), (0, gwV (w 125 m - w 134 n) (w 135 n))]) (st' := [(0, ((n : Nat) : Int)), (2, 136), (0, ((3 * m : Nat) : Int)), (2, 128), (0, gwV (w 125 m - w 134 n) (w 135 n))]) (w' := w) (n' := 142) rfl ?_
                    refine qG.ar (P := 0 ≤ ((n : Nat) : Int) ∧ ((n : Nat) : Int) < ((60 : Nat) : Int)) (P2 := 0 < (136 : Int) ∧ (136 : Int) ≤ ((142 : Nat) : Int)) (pc' := 140) (ls' := [(2, 95), (0, ((n : Nat) : Int)), (0, ((m : Nat) : Int)), (0, d9), (0, gwV (w 125 m - w 134 n) (w 135 n))]) (st' := [(0, w 136 n), (0, ((3 * m : Nat) : Int)), (2, 128), (0, gwV (w 125 m - w 134 n) (w 135 n))]) (w' := w) (n' := 142) rfl (by omega) (by decide) ?_
                    refine qG.blk 1 (pc' := 141) (ls' := [(2, 95), (0, ((n : Nat) : Int)), (0, ((m : Nat) : Int)), (0, d9), (0, gwV (w 125 m - w 134 n) (w 135 n))]) (st' := [(0, wrp (((3 * m : Nat) : Int) + (w 136 n))), (2, 128), (0, gwV (w 125 m - w 134 n) (w 135 n))]) (w' := w) (n' := 142) rfl ?_
                    rw [show wrp (((3 * m : Nat) : Int) + (w 136 n)) = ((m * 3 + a9 : Nat) : Int) from by rw [ha9, wrp_id (by omega) (by omega)]; omega]
                    refine qG.ar (P := 0 ≤ ((m * 3 + a9 : Nat) : Int) ∧ ((m * 3 + a9 : Nat) : Int) < ((36 : Nat) : Int)) (P2 := 0 < (128 : Int) ∧ (128 : Int) ≤ ((142 : Nat) : Int)) (pc' := 142) (ls' := [(2, 95), (0, ((n : Nat) : Int)), (0, ((m : Nat) : Int)), (0, d9), (0, gwV (w 125 m - w 134 n) (w 135 n))]) (st' := [(0, w 128 (m * 3 + a9)), (0, gwV (w 125 m - w 134 n) (w 135 n))]) (w' := w) (n' := 142) rfl (by omega) (by decide) ?_
                    refine qG.blk 1 (pc' := 143) (ls' := [(2, 95), (0, ((n : Nat) : Int)), (0, ((m : Nat) : Int)), (0, d9), (0, gwV (w 125 m - w 134 n) (w 135 n))]) (st' := [(0, wrp ((gwV (w 125 m - w 134 n) (w 135 n)) * (w 128 (m * 3 + a9))))]) (w' := w) (n' := 142) rfl ?_
                    rw [show wrp ((gwV (w 125 m - w 134 n) (w 135 n)) * (w 128 (m * 3 + a9))) = (gwV (w 125 m - w 134 n) (w 135 n)) * (w 128 (m * 3 + a9)) from wrp_id (by omega) (by omega)]
                    refine qG.ret rfl rfl ?_
                    subst hQ9
                    exact ⟨congrArg (Prod.mk (0 : Nat)) (by first | exact (wg_n hmn).symm | (rw [wg_y hmy, hha2]; done) | (rw [wg_y hmy, show haV w n m = 1 from if_pos ha1]; done)), rfl, rfl⟩
                · skip
                  refine qG.blk 2 (pc' := 111) (ls' := [(2, 95), (0, ((n : Nat) : Int)), (0, ((m : Nat) : Int)), (0, d9), (0, 50 - (d9 / 2))]) (st' := []) (w' := w) (n' := 142) rfl ?_
                  have egw : (50 - (d9 / 2) : Int) = gwV (w 125 m - w 134 n) (w 135 n) := (by rw [hd9]; rw [hd9] at hc; unfold gwV; (repeat' split) <;> omega)
                  rw [egw]
                  refine qG.blk 3 (pc' := 117) (ls' := [(2, 95), (0, ((n : Nat) : Int)), (0, ((m : Nat) : Int)), (0, d9), (0, gwV (w 125 m - w 134 n) (w 135 n))]) (st' := [(2, w 95 69), (0, gwV (w 125 m - w 134 n) (w 135 n))]) (w' := w) (n' := 142) rfl ?_
                  rw [show w 95 69 = 136 from zref hI rfl rfl]
                  refine qG.blk 1 (pc' := 118) (ls' := [(2, 95), (0, ((n : Nat) : Int)), (0, ((m : Nat) : Int)), (0, d9), (0, gwV (w 125 m - w 134 n) (w 135 n))]) (st' := [(0, ((n : Nat) : Int)), (2, 136), (0, gwV (w 125 m - w 134 n) (w 135 n))]) (w' := w) (n' := 142) rfl ?_
                  refine qG.ar (P := 0 ≤ ((n : Nat) : Int) ∧ ((n : Nat) : Int) < ((60 : Nat) : Int)) (P2 := 0 < (136 : Int) ∧ (136 : Int) ≤ ((142 : Nat) : Int)) (pc' := 119) (ls' := [(2, 95), (0, ((n : Nat) : Int)), (0, ((m : Nat) : Int)), (0, d9), (0, gwV (w 125 m - w 134 n) (w 135 n))]) (st' := [(0, w 136 n), (0, gwV (w 125 m - w 134 n) (w 135 n))]) (w' := w) (n' := 142) rfl (by omega) (by decide) ?_
                  refine qG.blk 1 (pc' := 120) (ls' := [(2, 95), (0, ((n : Nat) : Int)), (0, ((m : Nat) : Int)), (0, d9), (0, gwV (w 125 m - w 134 n) (w 135 n))]) (st' := [(0, (-1)), (0, w 136 n), (0, gwV (w 125 m - w 134 n) (w 135 n))]) (w' := w) (n' := 142) rfl ?_
                  refine qG.br (P := w 136 n = (-1)) (pc1 := 123) (pc2 := 127) (st1 := [(0, gwV (w 125 m - w 134 n) (w 135 n))]) rfl (fun ha1 => ?_) (fun ha1 => ?_)
                  · skip
                    refine qG.blk 3 (pc' := 143) (ls' := [(2, 95), (0, ((n : Nat) : Int)), (0, ((m : Nat) : Int)), (0, d9), (0, gwV (w 125 m - w 134 n) (w 135 n))]) (st' := [(0, wrp ((gwV (w 125 m - w 134 n) (w 135 n)) * 1))]) (w' := w) (n' := 142) rfl ?_
                    rw [show wrp ((gwV (w 125 m - w 134 n) (w 135 n)) * 1) = (gwV (w 125 m - w 134 n) (w 135 n)) * 1 from wrp_id (by omega) (by omega)]
                    refine qG.ret rfl rfl ?_
                    subst hQ9
                    exact ⟨congrArg (Prod.mk (0 : Nat)) (by first | exact (wg_n hmn).symm | (rw [wg_y hmy, hha2]; done) | (rw [wg_y hmy, show haV w n m = 1 from if_pos ha1]; done)), rfl, rfl⟩
                  · skip
                    obtain ⟨a9, ha9⟩ : ∃ q : Nat, w 136 n = (q : Int) := ⟨(w 136 n).toNat, by omega⟩
                    have hha2 : haV w n m = w 128 (m * 3 + a9) := (by unfold haV; rw [if_neg (by omega), ha9, Int.toNat_natCast])
                    rw [hha2] at hp9
                    refine qG.blk 2 (pc' := 131) (ls' := [(2, 95), (0, ((n : Nat) : Int)), (0, ((m : Nat) : Int)), (0, d9), (0, gwV (w 125 m - w 134 n) (w 135 n))]) (st' := [(2, w 95 61), (0, gwV (w 125 m - w 134 n) (w 135 n))]) (w' := w) (n' := 142) rfl ?_
                    rw [show w 95 61 = 128 from zref hI rfl rfl]
                    refine qG.blk 3 (pc' := 134) (ls' := [(2, 95), (0, ((n : Nat) : Int)), (0, ((m : Nat) : Int)), (0, d9), (0, gwV (w 125 m - w 134 n) (w 135 n))]) (st' := [(0, wrp (3 * ((m : Nat) : Int))), (2, 128), (0, gwV (w 125 m - w 134 n) (w 135 n))]) (w' := w) (n' := 142) rfl ?_
                    rw [show wrp (3 * ((m : Nat) : Int)) = ((3 * m : Nat) : Int) from by rw [wrp_id (by omega) (by omega)]; omega]
                    refine qG.blk 2 (pc' := 138) (ls' := [(2, 95), (0, ((n : Nat) : Int)), (0, ((m : Nat) : Int)), (0, d9), (0, gwV (w 125 m - w 134 n) (w 135 n))]) (st' := [(2, w 95 69), (0, ((3 * m : Nat) : Int)), (2, 128), (0, gwV (w 125 m - w 134 n) (w 135 n))]) (w' := w) (n' := 142) rfl ?_
                    rw [show w 95 69 = 136 from zref hI rfl rfl]
                    refine qG.blk 1 (pc' := 139) (ls' := [(2, 95), (0, ((n : Nat) : Int)), (0, ((m : Nat) : Int)), (0, d9), (0, gwV (w 125 m - w 134 n) (w 135 n))]) (st' := [(0, ((n : Nat) : Int)), (2, 136), (0, ((3 * m : Nat) : Int)), (2, 128), (0, gwV (w 125 m - w 134 n) (w 135 n))]) (w' := w) (n' := 142) rfl ?_
                    refine qG.ar (P := 0 ≤ ((n : Nat) : Int) ∧ ((n : Nat) : Int) < ((60 : Nat) : Int)) (P2 := 0 < (136 : Int) ∧ (136 : Int) ≤ ((142 : Nat) : Int)) (pc' := 140) (ls' := [(2, 95), (0, ((n : Nat) : Int)), (0, ((m : Nat) : Int)), (0, d9), (0, gwV (w 125 m - w 134 n) (w 135 n))]) (st' := [(0, w 136 n), (0, ((3 * m : Nat) : Int)), (2, 128), (0, gwV (w 125 m - w 134 n) (w 135 n))]) (w' := w) (n' := 142) rfl (by omega) (by decide) ?_
                    refine qG.blk 1 (pc' := 141) (ls' := [(2, 95), (0, ((n : Nat) : Int)), (0, ((m : Nat) : Int)), (0, d9), (0, gwV (w 125 m - w 134 n) (w 135 n))]) (st' := [(0, wrp (((3 * m : Nat) : Int) + (w 136 n))), (2, 128), (0, gwV (w 125 m - w 134 n) (w 135 n))]) (w' := w) (n' := 142) rfl ?_
                    rw [show wrp (((3 * m : Nat) : Int) + (w 136 n)) = ((m * 3 + a9 : Nat) : Int) from by rw [ha9, wrp_id (by omega) (by omega)]; omega]
                    refine qG.ar (P := 0 ≤ ((m * 3 + a9 : Nat) : Int) ∧ ((m * 3 + a9 : Nat) : Int) < ((36 : Nat) : Int)) (P2 := 0 < (128 : Int) ∧ (128 : Int) ≤ ((142 : Nat) : Int)) (pc' := 142) (ls' := [(2, 95), (0, ((n : Nat) : Int)), (0, ((m : Nat) : Int)), (0, d9), (0, gwV (w 125 m - w 134 n) (w 135 n))]) (st' := [(0, w 128 (m * 3 + a9)), (0, gwV (w 125 m - w 134 n) (w 135 n))]) (w' := w) (n' := 142) rfl (by omega) (by decide) ?_
                    refine qG.blk 1 (pc' := 143) (ls' := [(2, 95), (0, ((n : Nat) : Int)), (0, ((m : Nat) : Int)), (0, d9), (0, gwV (w 125 m - w 134 n) (w 135 n))]) (st' := [(0, wrp ((gwV (w 125 m - w 134 n) (w 135 n)) * (w 128 (m * 3 + a9))))]) (w' := w) (n' := 142) rfl ?_
                    rw [show wrp ((gwV (w 125 m - w 134 n) (w 135 n)) * (w 128 (m * 3 + a9))) = (gwV (w 125 m - w 134 n) (w 135 n)) * (w 128 (m * 3 + a9)) from wrp_id (by omega) (by omega)]
                    refine qG.ret rfl rfl ?_
                    subst hQ9
                    exact ⟨congrArg (Prod.mk (0 : Nat)) (by first | exact (wg_n hmn).symm | (rw [wg_y hmy, hha2]; done) | (rw [wg_y hmy, show haV w n m = 1 from if_pos ha1]; done)), rfl, rfl⟩
  · skip
    show qG none (d + 1) 285 6 [(2, 95), (0, ((n : Nat) : Int)), (0, ((m : Nat) : Int)), (9, 0), (9, 0)] [(0, 0)] w 142 Q9
    refine qG.br (P := (0 : Int) = 0) (pc1 := 9) (pc2 := 11) (st1 := []) rfl (fun h2 => ?_) (fun h2 => ?_)
    · skip
      refine qG.blk 1 (pc' := 10) (ls' := [(2, 95), (0, ((n : Nat) : Int)), (0, ((m : Nat) : Int)), (9, 0), (9, 0)]) (st' := [(0, 0)]) (w' := w) (n' := 142) rfl ?_
      refine qG.ret rfl rfl ?_
      subst hQ9
      exact ⟨congrArg (Prod.mk (0 : Nat)) (by first | exact (wg_n hmn).symm | (rw [wg_y hmy, hha2]; done) | (rw [wg_y hmy, show haV w n m = 1 from if_pos ha1]; done)), rfl, rfl⟩
    · exact absurd h2 (by decide)
end
section
/-! who and all, on both sides -/
noncomputable def smF (f : Nat → Int) : Nat → Int
  | 0 => 0
  | k + 1 => smF f k + f k
theorem smF_in {f : Nat → Int} {t : Int} : ∀ k : Nat, (∀ j, j < k → 0 ≤ f j ∧ f j ≤ t) → 0 ≤ smF f k ∧ smF f k ≤ t * (k : Int)
  | 0, _ => by
    show (0 : Int) ≤ 0 ∧ (0 : Int) ≤ t * 0
    rw [Int.mul_zero]; exact ⟨Int.le_refl _, Int.le_refl _⟩
  | k + 1, h => by
    have ih := smF_in k (fun j hj => h j (by omega))
    have hk := h k (by omega)
    show 0 ≤ smF f k + f k ∧ smF f k + f k ≤ t * ((k + 1 : Nat) : Int)
    rw [show ((k + 1 : Nat) : Int) = (k : Int) + 1 from by omega, Int.mul_add, Int.mul_one]
    omega
theorem smF_m {f : Nat → Int} {m : Nat} : ∀ k : Nat, (∀ j, j < k → 0 ≤ f j) → m < k → f m ≤ smF f k
  | 0, _, hm => absurd hm (Nat.not_lt_zero _)
  | k + 1, h, hm => by
    show f m ≤ smF f k + f k
    have hk := h k (by omega)
    have h0 : 0 ≤ smF f k := by
      have : ∀ q : Nat, q ≤ k → 0 ≤ smF f q := by
        intro q
        induction q with
        | zero => intro _; exact Int.le_refl _
        | succ q ih => intro hq; have a := ih (by omega); have b := h q (by omega); show 0 ≤ smF f q + f q; omega
      exact this k (Nat.le_refl k)
    by_cases e : m = k
    · rw [e]; omega
    · have := smF_m k (fun j hj => h j (by omega)) (by omega : m < k); omega
/-- the largest of the first k, 0 at least -/
noncomputable def mxF (f : Nat → Int) : Nat → Int
  | 0 => 0
  | k + 1 => if mxF f k < f k then f k else mxF f k
theorem mxF_le {f : Nat → Int} {t : Int} (ht : 0 ≤ t) : ∀ k : Nat, mxF f k ≤ t ↔ ∀ j, j < k → f j ≤ t
  | 0 => ⟨fun _ j hj => absurd hj (Nat.not_lt_zero j), fun _ => ht⟩
  | k + 1 => by
    have ih := mxF_le (f := f) ht k
    show (if mxF f k < f k then f k else mxF f k) ≤ t ↔ _
    constructor
    · intro z j hj
      by_cases e : j = k
      · rw [e]; split at z <;> omega
      · exact ih.mp (by split at z <;> omega) j (by omega)
    · intro z
      have z1 := z k (by omega)
      have z2 := ih.mpr (fun j hj => z j (by omega))
      split <;> omega
theorem mxF_cg {f g : Nat → Int} : ∀ k : Nat, (∀ j, j < k → f j = g j) → mxF f k = mxF g k
  | 0, _ => rfl
  | k + 1, h => by
    show (if mxF f k < f k then f k else mxF f k) = (if mxF g k < g k then g k else mxF g k)
    rw [mxF_cg k (fun j hj => h j (by omega)), h k (by omega)]
/-- of 1000 the m-th's share -/
noncomputable def odV (f : Nat → Int) (M m : Nat) : Int := if smF f M = 0 then -1 else (1000 * f m).tdiv (smF f M)
theorem odV_in {f : Nat → Int} {M m : Nat} (hm : m < M) (h : ∀ j, j < M → 0 ≤ f j) (h0 : ¬ smF f M = 0) : 0 ≤ (1000 * f m).tdiv (smF f M) ∧ (1000 * f m).tdiv (smF f M) ≤ 1000 := by
  have hp := smF_m M h hm
  have h1 := h m hm
  rw [Int.tdiv_eq_ediv_of_nonneg (by omega)]
  refine ⟨Int.ediv_nonneg (by omega) (by omega), ?_⟩
  have := Int.ediv_le_ediv (c := smF f M) (by omega) (show 1000 * f m ≤ 1000 * smF f M by omega)
  rw [Int.mul_ediv_cancel _ h0] at this
  exact this
theorem wg_aw {w w9 : qW} {p : Nat} (hp : p = 56 ∨ p = 137) (h : AW [p] w w9) (n m : Nat) : wgV w9 n m = wgV w n m := by
  have r : ∀ q, q < 1000 → q ≠ p → ∀ j, w9 q j = w q j := fun q hq hn j => h.2 q j (fun _ => by
    show (ymem q [p] || ymem (1000 * (j + 1) + q) [p]) = false
    show ((Nat.beq p q || false) || (Nat.beq p (1000 * (j + 1) + q) || false)) = false
    rw [Bool.or_false, Bool.or_false, Bool.or_eq_false_iff]
    refine ⟨?_, ?_⟩
    · cases e : Nat.beq p q
      · rfl
      · exact absurd (Nat.eq_of_beq_eq_true e).symm hn
    · cases e : Nat.beq p (1000 * (j + 1) + q)
      · rfl
      · have := Nat.eq_of_beq_eq_true e; omega)
  have em : mbP w9 n m = mbP w n m := by
    unfold mbP
    rw [r 126 (by decide) (by omega), r 132 (by decide) (by omega), r 127 (by decide) (by omega), r 133 (by decide) (by omega), r 95 (by decide) (by omega) 56]
    have a : ∀ k, w9 129 k = w 129 k := r 129 (by decide) (by omega)
    have b : ∀ k, w9 130 k = w 130 k := r 130 (by decide) (by omega)
    have c : ∀ k, w9 131 k = w 131 k := r 131 (by decide) (by omega)
    simp only [a, b, c]
  have eh : haV w9 n m = haV w n m := by
    unfold haV
    rw [r 136 (by decide) (by omega), r 128 (by decide) (by omega)]
  unfold wgV
  rw [em, eh, r 125 (by decide) (by omega), r 134 (by decide) (by omega), r 135 (by decide) (by omega)]
/-- after one night: each one's weight multiplied, all held -/
noncomputable def stepF (f g : Nat → Int) (M : Nat) : Nat → Int := if 1000000000 < mxF (fun j => f j * g j) M then (fun j => (f j * g j) / 1000) else fun j => f j * g j
noncomputable def prF (w : qW) (a M : Nat) : Nat → Nat → Int
  | 0 => fun _ => 1
  | i + 1 => stepF (prF w a M i) (fun j => wgV w (a + i) j) M
theorem stepF_in {f g : Nat → Int} {M : Nat} (hf : ∀ j, j < M → 0 ≤ f j ∧ f j ≤ 1000000000) (hg : ∀ j, 0 ≤ g j ∧ g j ≤ 891) : ∀ j, j < M → 0 ≤ stepF f g M j ∧ stepF f g M j ≤ 1000000000 := by
  intro j hj
  have hm := mul_b (hf j hj).1 (hf j hj).2 (hg j).1 (hg j).2
  unfold stepF
  by_cases c : 1000000000 < mxF (fun j => f j * g j) M
  · rw [if_pos c]; show 0 ≤ f j * g j / 1000 ∧ f j * g j / 1000 ≤ 1000000000; omega
  · rw [if_neg c]
    have := (mxF_le (f := fun j => f j * g j) (t := 1000000000) (by decide) M).mp (by omega) j hj
    exact ⟨hm.1, this⟩
theorem prF_in {w : qW} (h : rgN w) (a M : Nat) : ∀ i j, j < M → 0 ≤ prF w a M i j ∧ prF w a M i j ≤ 1000000000
  | 0, _, _ => ⟨by show (0 : Int) ≤ 1; decide, by show (1 : Int) ≤ 1000000000; decide⟩
  | i + 1, j, hj => stepF_in (prF_in h a M i) (fun j => wgV_in h (a + i) j) j hj
noncomputable def allV (w : qW) (a b m : Int) : Int := if (0 ≤ a ∧ a < w 95 57) ∧ (a ≤ b ∧ b < w 95 57) ∧ 0 ≤ m ∧ m < w 95 55 then odV (prF w a.toNat (w 95 55).toNat (b + 1 - a).toNat) (w 95 55).toNat m.toNat else -1
theorem allV_n {w : qW} {a b m : Int} (h : ¬ ((0 ≤ a ∧ a < w 95 57) ∧ (a ≤ b ∧ b < w 95 57) ∧ 0 ≤ m ∧ m < w 95 55)) : allV w a b m = -1 := if_neg h
/-- numbers in array p: the first k are f's, the rest g's -/
noncomputable def PV (p : Nat) (w w9 : qW) (k : Nat) (f g : Nat → Int) : Prop := AW [p] w w9 ∧ (∀ j, j < k → w9 p j = f j) ∧ ∀ j, k ≤ j → w9 p j = g j
theorem PV.up {p : Nat} {w w9 : qW} {k : Nat} {f g : Nat → Int} {v : Int} (hp : p = 56 ∨ p = 137) (h : PV p w w9 k f g) (hv : v = f k) (h0 : -9223372036854775808 ≤ v) (h1 : v ≤ 9223372036854775807) : PV p w (qup w9 p k v) (k + 1) f g := by
  refine ⟨⟨?_, fun q j hq => ?_⟩, fun j hj => ?_, fun j hj => ?_⟩
  · rcases hp with rfl | rfl
    · exact zup_a h.1.1 (b := (-9223372036854775808, 9223372036854775807)) rfl rfl ⟨h0, h1⟩
    · exact zup_a h.1.1 (b := (-9223372036854775808, 9223372036854775807)) rfl rfl ⟨h0, h1⟩
  · rw [qup_ne (fun z => by have hq := hq (by omega); rw [z] at hq; rcases hp with rfl | rfl <;> cases hq)]
    exact h.1.2 q j hq
  · by_cases e : j = k
    · rw [e, qup_k]; exact hv
    · rw [qup_j e]; exact h.2.1 j (by omega)
  · rw [qup_j (by omega)]; exact h.2.2 j (by omega)
theorem K_startW {d : Nat} (hd : 0 ≤ d) (w : qW) (hI : yInv zgf zga zra zSp w) : qG none d 67 0 [(2, 45), (9, 0)] [] w 142 (fun (r : qV) (w1 : qW) (n1 : Nat) => r = (9, 0) ∧ n1 = 142 ∧ AW [56] w w1 ∧ ∀ j, j < 12 → w1 56 j = 1) := by
  generalize hQ9 : (fun (r : qV) (w1 : qW) (n1 : Nat) => r = (9, 0) ∧ n1 = 142 ∧ AW [56] w w1 ∧ ∀ j, j < 12 → w1 56 j = 1) = Q9
  refine qG.blk 2 (pc' := 2) (ls' := [(2, 45), (0, 0)]) (st' := []) (w' := w) (n' := 142) rfl ?_
  have L2 : ∀ (m9 : Nat) (k : Nat) (w9 : qW), 12 - k = m9 → (k ≤ 12 ∧ AW [56] w w9 ∧ (∀ j, j < k → w9 56 j = 1)) → qG none d 67 2 [(2, 45), (0, ((k : Nat) : Int))] [] w9 142 Q9 := by
    intro m9
    induction m9 using Nat.strongRecOn with
    | ind m9 ih2 =>
    intro k w9 hm2 hI2
    refine qG.blk 2 (pc' := 5) (ls' := [(2, 45), (0, ((k : Nat) : Int))]) (st' := [(0, 12), (0, ((k : Nat) : Int))]) (w' := w9) (n' := 142) rfl ?_
    refine qG.br (P := ((k : Nat) : Int) < 12) (pc1 := 8) (pc2 := 21) (st1 := []) rfl (fun h1 => ?_) (fun h1 => ?_)
    · skip
      refine qG.blk 2 (pc' := 12) (ls' := [(2, 45), (0, ((k : Nat) : Int))]) (st' := [(2, w9 45 13)]) (w' := w9) (n' := 142) rfl ?_
      rw [show w9 45 13 = 56 from zref hI2.2.1.1 rfl rfl]
      refine qG.blk 2 (pc' := 14) (ls' := [(2, 45), (0, ((k : Nat) : Int))]) (st' := [(1, 1), (0, ((k : Nat) : Int)), (2, 56)]) (w' := w9) (n' := 142) rfl ?_
      refine qG.ar (P := 0 ≤ ((k : Nat) : Int) ∧ ((k : Nat) : Int) < ((12 : Nat) : Int)) (P2 := 0 < (56 : Int) ∧ (56 : Int) ≤ ((142 : Nat) : Int)) (pc' := 15) (ls' := [(2, 45), (0, ((k : Nat) : Int))]) (st' := []) (w' := (qup w9 56 k 1)) (n' := 142) rfl (by omega) (by decide) ?_
      refine qG.blk 1 (pc' := 18) (ls' := [(2, 45), (0, wrp (((k : Nat) : Int) + 1))]) (st' := []) (w' := (qup w9 56 k 1)) (n' := 142) rfl ?_
      rw [show wrp (((k : Nat) : Int) + 1) = ((k + 1 : Nat) : Int) from wrp_id (by omega) (by omega)]
      refine qG.blk 1 (pc' := 2) (ls' := [(2, 45), (0, ((k + 1 : Nat) : Int))]) (st' := []) (w' := (qup w9 56 k 1)) (n' := 142) rfl ?_
      exact ih2 _ (by omega) (k + 1) ((qup w9 56 k 1)) rfl ((by have q := PV.up (f := fun _ => 1) (g := w9 56) (k := k) (v := 1) (.inl rfl) ⟨hI2.2.1, hI2.2.2, fun _ _ => rfl⟩ rfl (by decide) (by decide); exact ⟨by omega, q.1, q.2.1⟩))
    · skip
      refine qG.retv rfl rfl ?_
      subst hQ9
      exact ⟨rfl, rfl, hI2.2.1, fun j hj => hI2.2.2 j (by omega)⟩
  exact L2 _ (0) (w) rfl (⟨by omega, AW.rf hI, fun j hj => absurd hj (Nat.not_lt_zero j)⟩)
theorem K_mulW {d : Nat} (hd : 3 ≤ d) (n M N : Nat) (w : qW) (hI : yInv zgf zga zra zSp w) (hJ : JQ w) (hM : w 95 55 = (M : Int)) (hN : w 95 57 = (N : Int)) (hn : n < N) (u : Nat → Int) (hu : ∀ j, j < M → 0 ≤ u j ∧ u j ≤ 1000000000) (hw : ∀ j, w 56 j = u j) : qG none d 68 0 [(2, 45), (0, ((n : Nat) : Int)), (9, 0)] [] w 142 (fun (r : qV) (w1 : qW) (n1 : Nat) => r = (9, 0) ∧ n1 = 142 ∧ AW [56] w w1 ∧ ∀ j, j < M → w1 56 j = u j * wgV w n j) := by
  generalize hQ9 : (fun (r : qV) (w1 : qW) (n1 : Nat) => r = (9, 0) ∧ n1 = 142 ∧ AW [56] w w1 ∧ ∀ j, j < M → w1 56 j = u j * wgV w n j) = Q9
  have h55 := zfld hI (j := 55) (b := (0, 12)) rfl
  have b55 : w 95 55 ≤ (12 : Int) := h55.2
  have hM4 : w 45 0 = (M : Int) := hJ.1.1.1.trans hM
  obtain ⟨d, rfl⟩ : ∃ d9, d = d9 + 1 := ⟨d - 1, by omega⟩
  refine qG.blk 2 (pc' := 2) (ls' := [(2, 45), (0, ((n : Nat) : Int)), (0, 0)]) (st' := []) (w' := w) (n' := 142) rfl ?_
  have L2 : ∀ (m9 : Nat) (k : Nat) (w9 : qW), M - k = m9 → (k ≤ M ∧ PV 56 w w9 k (fun j => u j * wgV w n j) u) → qG none (d + 1) 68 2 [(2, 45), (0, ((n : Nat) : Int)), (0, ((k : Nat) : Int))] [] w9 142 Q9 := by
    intro m9
    induction m9 using Nat.strongRecOn with
    | ind m9 ih2 =>
    intro k w9 hm2 hI2
    refine qG.blk 3 (pc' := 7) (ls' := [(2, 45), (0, ((n : Nat) : Int)), (0, ((k : Nat) : Int))]) (st' := [(0, w9 45 0), (0, ((k : Nat) : Int))]) (w' := w9) (n' := 142) rfl ?_
    rw [show w9 45 0 = ((M : Nat) : Int) from (hI2.2.1.2 45 0 (fun _ => rfl)).trans hM4]
    refine qG.br (P := ((k : Nat) : Int) < ((M : Nat) : Int)) (pc1 := 10) (pc2 := 38) (st1 := []) rfl (fun h1 => ?_) (fun h1 => ?_)
    · skip
      refine qG.blk 2 (pc' := 13) (ls' := [(2, 45), (0, ((n : Nat) : Int)), (0, ((k : Nat) : Int))]) (st' := [(0, 12), (0, ((k : Nat) : Int))]) (w' := w9) (n' := 142) rfl ?_
      refine qG.br (P := ((k : Nat) : Int) < 12) (pc1 := 16) (pc2 := 38) (st1 := []) rfl (fun h2 => ?_) (fun h2 => ?_)
      · skip
        refine qG.blk 2 (pc' := 20) (ls' := [(2, 45), (0, ((n : Nat) : Int)), (0, ((k : Nat) : Int))]) (st' := [(2, w9 45 13)]) (w' := w9) (n' := 142) rfl ?_
        rw [show w9 45 13 = 56 from zref hI2.2.1.1 rfl rfl]
        refine qG.blk 2 (pc' := 22) (ls' := [(2, 45), (0, ((n : Nat) : Int)), (0, ((k : Nat) : Int))]) (st' := [(0, ((k : Nat) : Int)), (2, 56), (0, ((k : Nat) : Int)), (2, 56)]) (w' := w9) (n' := 142) rfl ?_
        refine qG.ar (P := 0 ≤ ((k : Nat) : Int) ∧ ((k : Nat) : Int) < ((12 : Nat) : Int)) (P2 := 0 < (56 : Int) ∧ (56 : Int) ≤ ((142 : Nat) : Int)) (pc' := 23) (ls' := [(2, 45), (0, ((n : Nat) : Int)), (0, ((k : Nat) : Int))]) (st' := [(1, w9 56 k), (0, ((k : Nat) : Int)), (2, 56)]) (w' := w9) (n' := 142) rfl (by omega) (by decide) ?_
        rw [show w9 56 k = u k from hI2.2.2.2 k (Nat.le_refl k)]
        refine qG.blk 3 (pc' := 26) (ls' := [(2, 45), (0, ((n : Nat) : Int)), (0, ((k : Nat) : Int))]) (st' := [(0, ((n : Nat) : Int)), (0, ((k : Nat) : Int)), (2, 45), (1, u k), (0, ((k : Nat) : Int)), (2, 56)]) (w' := w9) (n' := 142) rfl ?_
        have hJ9 := hJ.aw hI2.2.1 (by decide +kernel)
        have hwg := wg_aw (.inl rfl) hI2.2.1 n k
        have hR9 := rgN_of hI2.2.1.1
        have hwi := wgV_in hR9 n k
        refine qG.call (t := 71) (na := 3) (sk := 1) (md := 1) (ls1 := [(2, 45), (0, ((k : Nat) : Int)), (0, ((n : Nat) : Int)), (9, 0), (9, 0)]) (r1 := [(1, u k), (0, ((k : Nat) : Int)), (2, 56)]) rfl rfl rfl rfl rfl (K_weightOf (by omega) k n M N w9 hI2.2.1.1 hJ9 ((hI2.2.1.2 95 55 (fun _ => rfl)).trans hM) ((hI2.2.1.2 95 57 (fun _ => rfl)).trans hN) (by omega) hn) ?_
        rintro _ w7 _ ⟨rfl, hw7, rfl⟩
        rw [hw7, hwg]
        rw [hwg] at hwi
        have hmb := mul_b (hu k (by omega)).1 (hu k (by omega)).2 hwi.1 hwi.2
        show qG none (d + 1) 68 29 [(2, 45), (0, ((n : Nat) : Int)), (0, ((k : Nat) : Int))] [(0, wgV w n k), (1, u k), (0, ((k : Nat) : Int)), (2, 56)] w9 142 Q9
        refine qG.blk 2 (pc' := 31) (ls' := [(2, 45), (0, ((n : Nat) : Int)), (0, ((k : Nat) : Int))]) (st' := [(1, wrl ((u k) * (wgV w n k))), (0, ((k : Nat) : Int)), (2, 56)]) (w' := w9) (n' := 142) rfl ?_
        rw [show wrl ((u k) * (wgV w n k)) = u k * wgV w n k from wrl_id (by omega) (by omega)]
        refine qG.ar (P := 0 ≤ ((k : Nat) : Int) ∧ ((k : Nat) : Int) < ((12 : Nat) : Int)) (P2 := 0 < (56 : Int) ∧ (56 : Int) ≤ ((142 : Nat) : Int)) (pc' := 32) (ls' := [(2, 45), (0, ((n : Nat) : Int)), (0, ((k : Nat) : Int))]) (st' := []) (w' := (qup w9 56 k (u k * wgV w n k))) (n' := 142) rfl (by omega) (by decide) ?_
        refine qG.blk 1 (pc' := 35) (ls' := [(2, 45), (0, ((n : Nat) : Int)), (0, wrp (((k : Nat) : Int) + 1))]) (st' := []) (w' := (qup w9 56 k (u k * wgV w n k))) (n' := 142) rfl ?_
        rw [show wrp (((k : Nat) : Int) + 1) = ((k + 1 : Nat) : Int) from wrp_id (by omega) (by omega)]
        refine qG.blk 1 (pc' := 2) (ls' := [(2, 45), (0, ((n : Nat) : Int)), (0, ((k + 1 : Nat) : Int))]) (st' := []) (w' := (qup w9 56 k (u k * wgV w n k))) (n' := 142) rfl ?_
        exact ih2 _ (by omega) (k + 1) ((qup w9 56 k (u k * wgV w n k))) rfl (⟨by omega, PV.up (.inl rfl) hI2.2 rfl (by omega) (by omega)⟩)
      · skip
        refine qG.retv rfl rfl ?_
        subst hQ9
        exact ⟨rfl, rfl, hI2.2.1, fun j hj => hI2.2.2.1 j (by omega)⟩
    · skip
      refine qG.retv rfl rfl ?_
      subst hQ9
      exact ⟨rfl, rfl, hI2.2.1, fun j hj => hI2.2.2.1 j (by omega)⟩
  exact L2 _ (0) (w) rfl (⟨by omega, AW.rf hI, fun j hj => absurd hj (Nat.not_lt_zero j), fun j _ => hw j⟩)
theorem K_oddsOf {d : Nat} (hd : 1 ≤ d) (m M : Nat) (hM9 : M ≤ 12) (hm : m < M) (w : qW) (hI : yInv zgf zga zra zSp w) (hM4 : w 45 0 = (M : Int)) (u : Nat → Int) (hu : ∀ j, j < M → 0 ≤ u j ∧ u j ≤ 1000000000) (hw : ∀ j, j < M → w 56 j = u j) : qG none d 70 0 [(2, 45), (0, ((m : Nat) : Int)), (9, 0), (9, 0), (9, 0)] [] w 142 (fun (r : qV) (w1 : qW) (n1 : Nat) => r = (0, odV u M m) ∧ w1 = w ∧ n1 = 142) := by
  generalize hQ9 : (fun (r : qV) (w1 : qW) (n1 : Nat) => r = (0, odV u M m) ∧ w1 = w ∧ n1 = 142) = Q9
  have hsM := smF_in M hu
  have hbM : (1000000000 : Int) * (M : Int) ≤ 12000000000 := by omega
  obtain ⟨d, rfl⟩ : ∃ d9, d = d9 + 1 := ⟨d - 1, by omega⟩
  refine qG.blk 4 (pc' := 5) (ls' := [(2, 45), (0, ((m : Nat) : Int)), (1, 0), (9, 0), (0, 0)]) (st' := []) (w' := w) (n' := 142) rfl ?_
  have L5 : ∀ (m9 : Nat) (k : Nat), M - k = m9 → (k ≤ M) → qG none (d + 1) 70 5 [(2, 45), (0, ((m : Nat) : Int)), (1, smF u k), (9, 0), (0, ((k : Nat) : Int))] [] w 142 Q9 := by
    intro m9
    induction m9 using Nat.strongRecOn with
    | ind m9 ih5 =>
    intro k hm5 hI5
    have hsk := smF_in k (fun j hj => hu j (by omega))
    have hbk : (1000000000 : Int) * (k : Int) ≤ 12000000000 := by omega
    refine qG.blk 3 (pc' := 11) (ls' := [(2, 45), (0, ((m : Nat) : Int)), (1, smF u k), (9, 0), (0, ((k : Nat) : Int))]) (st' := [(0, w 45 0), (0, ((k : Nat) : Int))]) (w' := w) (n' := 142) rfl ?_
    rw [show w 45 0 = ((M : Nat) : Int) from hM4]
    refine qG.br (P := ((k : Nat) : Int) < ((M : Nat) : Int)) (pc1 := 14) (pc2 := 37) (st1 := []) rfl (fun hkM => ?_) (fun hkM => ?_)
    · skip
      refine qG.blk 2 (pc' := 18) (ls' := [(2, 45), (0, ((m : Nat) : Int)), (1, smF u k), (9, 0), (0, ((k : Nat) : Int))]) (st' := [(0, 12), (0, ((k : Nat) : Int))]) (w' := w) (n' := 142) rfl ?_
      refine qG.br (P := ((k : Nat) : Int) < 12) (pc1 := 21) (pc2 := 37) (st1 := []) rfl (fun hk12 => ?_) (fun hk12 => ?_)
      · skip
        refine qG.blk 3 (pc' := 26) (ls' := [(2, 45), (0, ((m : Nat) : Int)), (1, smF u k), (9, 0), (0, ((k : Nat) : Int))]) (st' := [(2, w 45 13), (1, smF u k)]) (w' := w) (n' := 142) rfl ?_
        rw [show w 45 13 = 56 from zref hI rfl rfl]
        refine qG.blk 1 (pc' := 28) (ls' := [(2, 45), (0, ((m : Nat) : Int)), (1, smF u k), (9, 0), (0, ((k : Nat) : Int))]) (st' := [(0, ((k : Nat) : Int)), (2, 56), (1, smF u k)]) (w' := w) (n' := 142) rfl ?_
        refine qG.ar (P := 0 ≤ ((k : Nat) : Int) ∧ ((k : Nat) : Int) < ((12 : Nat) : Int)) (P2 := 0 < (56 : Int) ∧ (56 : Int) ≤ ((142 : Nat) : Int)) (pc' := 29) (ls' := [(2, 45), (0, ((m : Nat) : Int)), (1, smF u k), (9, 0), (0, ((k : Nat) : Int))]) (st' := [(1, w 56 k), (1, smF u k)]) (w' := w) (n' := 142) rfl (by omega) (by decide) ?_
        rw [show w 56 k = u k from hw k (by omega)]
        refine qG.blk 1 (pc' := 30) (ls' := [(2, 45), (0, ((m : Nat) : Int)), (1, smF u k), (9, 0), (0, ((k : Nat) : Int))]) (st' := [(1, wrl ((smF u k) + (u k)))]) (w' := w) (n' := 142) rfl ?_
        rw [show wrl ((smF u k) + (u k)) = smF u (k + 1) from wrl_id (by have := hu k (by omega); omega) (by have := hu k (by omega); omega)]
        refine qG.blk 2 (pc' := 34) (ls' := [(2, 45), (0, ((m : Nat) : Int)), (1, smF u (k + 1)), (9, 0), (0, wrp (((k : Nat) : Int) + 1))]) (st' := []) (w' := w) (n' := 142) rfl ?_
        rw [show wrp (((k : Nat) : Int) + 1) = ((k + 1 : Nat) : Int) from wrp_id (by omega) (by omega)]
        refine qG.blk 1 (pc' := 5) (ls' := [(2, 45), (0, ((m : Nat) : Int)), (1, smF u (k + 1)), (9, 0), (0, ((k + 1 : Nat) : Int))]) (st' := []) (w' := w) (n' := 142) rfl ?_
        exact ih5 _ (by omega) (k + 1) rfl (by omega)
      · exfalso; omega
    · skip
      have hek : k = M := by omega
      rw [hek]
      refine qG.blk 3 (pc' := 40) (ls' := [(2, 45), (0, ((m : Nat) : Int)), (1, smF u M), (9, 0), (0, ((M : Nat) : Int))]) (st' := [(0, qcmp (smF u M) 0)]) (w' := w) (n' := 142) rfl ?_
      refine qG.br (P := 0 < qcmp (smF u M) 0) (pc1 := 43) (pc2 := 51) (st1 := []) rfl (fun hs0 => ?_) (fun hs0 => ?_)
      · skip
        rw [qcmp_p] at hs0
        have hum := hu m hm
        have hoi := odV_in hm (fun j hj => (hu j hj).1) (show ¬ smF u M = 0 by omega)
        refine qG.blk 2 (pc' := 45) (ls' := [(2, 45), (0, ((m : Nat) : Int)), (1, smF u M), (9, 0), (0, ((M : Nat) : Int))]) (st' := [(0, ((m : Nat) : Int)), (2, 45)]) (w' := w) (n' := 142) rfl ?_
        refine qG.call (t := 59) (na := 2) (sk := 1) (md := 1) (ls1 := [(2, 45), (0, ((m : Nat) : Int))]) (r1 := []) rfl rfl rfl rfl rfl (K_X4_isMaster (Nat.zero_le _) ((m : Nat) : Int) w hI) ?_
        rintro _ w7 _ ⟨rfl, hw7, rfl⟩
        rw [hw7]
        show qG none (d + 1) 70 48 [(2, 45), (0, ((m : Nat) : Int)), (1, smF u M), (9, 0), (0, ((M : Nat) : Int))] [(0, isInV ((m : Nat) : Int) 0 (w 45 0 - 1))] w 142 Q9
        refine qG.br (P := isInV ((m : Nat) : Int) 0 (w 45 0 - 1) = 0) (pc1 := 51) (pc2 := 53) (st1 := []) rfl (fun hmm => ?_) (fun hmm => ?_)
        · exfalso; rw [isIn_b] at hmm; omega
        · skip
          refine qG.blk 3 (pc' := 60) (ls' := [(2, 45), (0, ((m : Nat) : Int)), (1, smF u M), (9, 0), (0, ((M : Nat) : Int))]) (st' := [(2, w 45 13), (1, 1000)]) (w' := w) (n' := 142) rfl ?_
          rw [show w 45 13 = 56 from zref hI rfl rfl]
          refine qG.blk 1 (pc' := 61) (ls' := [(2, 45), (0, ((m : Nat) : Int)), (1, smF u M), (9, 0), (0, ((M : Nat) : Int))]) (st' := [(0, ((m : Nat) : Int)), (2, 56), (1, 1000)]) (w' := w) (n' := 142) rfl ?_
          refine qG.ar (P := 0 ≤ ((m : Nat) : Int) ∧ ((m : Nat) : Int) < ((12 : Nat) : Int)) (P2 := 0 < (56 : Int) ∧ (56 : Int) ≤ ((142 : Nat) : Int)) (pc' := 62) (ls' := [(2, 45), (0, ((m : Nat) : Int)), (1, smF u M), (9, 0), (0, ((M : Nat) : Int))]) (st' := [(1, w 56 m), (1, 1000)]) (w' := w) (n' := 142) rfl (by omega) (by decide) ?_
          rw [show w 56 m = u m from hw m (by omega)]
          refine qG.blk 1 (pc' := 63) (ls' := [(2, 45), (0, ((m : Nat) : Int)), (1, smF u M), (9, 0), (0, ((M : Nat) : Int))]) (st' := [(1, wrl (1000 * (u m)))]) (w' := w) (n' := 142) rfl ?_
          rw [show wrl (1000 * (u m)) = 1000 * u m from wrl_id (by omega) (by omega)]
          refine qG.blk 1 (pc' := 64) (ls' := [(2, 45), (0, ((m : Nat) : Int)), (1, smF u M), (9, 0), (0, ((M : Nat) : Int))]) (st' := [(1, smF u M), (1, 1000 * u m)]) (w' := w) (n' := 142) rfl ?_
          refine qG.gn (P := smF u M = 0) (pc' := 65) (ls' := [(2, 45), (0, ((m : Nat) : Int)), (1, smF u M), (9, 0), (0, ((M : Nat) : Int))]) (st' := [(1, qldiv (1000 * u m) (smF u M))]) (w' := w) (n' := 142) rfl (by omega) ?_
          rw [show qldiv (1000 * u m) (smF u M) = (1000 * u m).tdiv (smF u M) from by unfold qldiv; exact wrl_id (by omega) (by omega)]
          refine qG.blk 1 (pc' := 66) (ls' := [(2, 45), (0, ((m : Nat) : Int)), (1, smF u M), (9, 0), (0, ((M : Nat) : Int))]) (st' := [(0, wrp ((1000 * u m).tdiv (smF u M)))]) (w' := w) (n' := 142) rfl ?_
          rw [show wrp ((1000 * u m).tdiv (smF u M)) = (1000 * u m).tdiv (smF u M) from wrp_id (by omega) (by omega)]
          refine qG.ret rfl rfl ?_
          subst hQ9
          exact ⟨congrArg (Prod.mk (0 : Nat)) (by unfold odV; first | (rw [if_pos (by omega)]; done) | (rw [if_neg (by omega)]; done)), rfl, rfl⟩
      · skip
        rw [qcmp_p] at hs0
        refine qG.blk 1 (pc' := 52) (ls' := [(2, 45), (0, ((m : Nat) : Int)), (1, smF u M), (9, 0), (0, ((M : Nat) : Int))]) (st' := [(0, (-1))]) (w' := w) (n' := 142) rfl ?_
        refine qG.ret rfl rfl ?_
        subst hQ9
        exact ⟨congrArg (Prod.mk (0 : Nat)) (by unfold odV; first | (rw [if_pos (by omega)]; done) | (rw [if_neg (by omega)]; done)), rfl, rfl⟩
  exact L5 _ (0) rfl (by omega)
noncomputable def masH (s g a b : Int) (n : Nat) (w w1 : qW) : Prop := (¬ masC s g a b n ∧ w1 = w) ∨ (masC s g a b n ∧ ∀ k, w1 128 k = if k = 3 * n + 2 then 1 else if k = 3 * n + 1 then 1 else if k = 3 * n + 0 then 1 else w 128 k)
theorem K_X12_masterH {d : Nat} (hd : 2 ≤ d) (s g a b : Int) (n : Nat) (hn9 : n ≤ 60) (w : qW) (hI : yInv zgf zga zra zSp w) (hn : w 95 55 = (n : Int)) : qG none d 280 0 [(2, 95), (0, s), (0, g), (0, a), (0, b), (9, 0)] [] w 142 (fun (_ : qV) (w1 : qW) (_ : Nat) => masH s g a b n w w1) := by
  generalize hQ9 : (fun (_ : qV) (w1 : qW) (_ : Nat) => masH s g a b n w w1) = Q9
  have h55 := zfld hI (j := 55) (b := (0, 12)) rfl
  have b55 : w 95 55 ≤ (12 : Int) := h55.2
  rw [hn] at b55
  obtain ⟨d, rfl⟩ : ∃ d9, d = d9 + 1 := ⟨d - 1, by omega⟩
  refine qG.blk 1 (pc' := 1) (ls' := [(2, 95), (0, s), (0, g), (0, a), (0, b), (9, 0)]) (st' := [(0, s)]) (w' := w) (n' := 142) rfl ?_
  refine qG.call (t := 210) (na := 1) (sk := 0) (md := 0) (ls1 := [(0, s)]) (r1 := []) rfl rfl rfl rfl rfl (K_isSize (by omega) _ _) ?_
  rintro _ w7 _ ⟨rfl, hw7, rfl⟩
  rw [hw7]
  show qG none (d + 1) 280 4 [(2, 95), (0, s), (0, g), (0, a), (0, b), (9, 0)] [(0, isInV s 1 4)] w 142 Q9
  refine qG.br (P := isInV s 1 4 = 0) (pc1 := 47) (pc2 := 7) (st1 := []) rfl (fun h1 => ?_) (fun h1 => ?_)
  · skip
    rw [isIn_b] at h1
    refine qG.blk 1 (pc' := 48) (ls' := [(2, 95), (0, s), (0, g), (0, a), (0, b), (9, 0)]) (st' := [(0, (-1))]) (w' := w) (n' := 142) rfl ?_
    refine qG.ret rfl rfl ?_
    subst hQ9
    first | exact .inl ⟨by unfold masC; omega, rfl⟩ | exact .inr ⟨by unfold masC; omega, fun k => by simp (disch := decide) only [qup_ne, qup_if]⟩
  · skip
    rw [isIn_p] at h1
    refine qG.blk 3 (pc' := 11) (ls' := [(2, 95), (0, s), (0, g), (0, a), (0, b), (9, 0)]) (st' := [(0, 99), (0, 0), (0, g)]) (w' := w) (n' := 142) rfl ?_
    refine qG.call (t := 206) (na := 3) (sk := 0) (md := 0) (ls1 := [(0, g), (0, 0), (0, 99)]) (r1 := []) rfl rfl rfl rfl rfl (K_isIn (Nat.zero_le _) _ _ _ _) ?_
    rintro _ w7 _ ⟨rfl, hw7, rfl⟩
    rw [hw7]
    show qG none (d + 1) 280 14 [(2, 95), (0, s), (0, g), (0, a), (0, b), (9, 0)] [(0, isInV (g) (0) (99))] w 142 Q9
    refine qG.br (P := isInV (g) (0) (99) = 0) (pc1 := 47) (pc2 := 17) (st1 := []) rfl (fun h2 => ?_) (fun h2 => ?_)
    · skip
      rw [isIn_b] at h2
      refine qG.blk 1 (pc' := 48) (ls' := [(2, 95), (0, s), (0, g), (0, a), (0, b), (9, 0)]) (st' := [(0, (-1))]) (w' := w) (n' := 142) rfl ?_
      refine qG.ret rfl rfl ?_
      subst hQ9
      first | exact .inl ⟨by unfold masC; omega, rfl⟩ | exact .inr ⟨by unfold masC; omega, fun k => by simp (disch := decide) only [qup_ne, qup_if]⟩
    · skip
      rw [isIn_p] at h2
      refine qG.blk 3 (pc' := 21) (ls' := [(2, 95), (0, s), (0, g), (0, a), (0, b), (9, 0)]) (st' := [(0, 99), (0, 0), (0, a)]) (w' := w) (n' := 142) rfl ?_
      refine qG.call (t := 206) (na := 3) (sk := 0) (md := 0) (ls1 := [(0, a), (0, 0), (0, 99)]) (r1 := []) rfl rfl rfl rfl rfl (K_isIn (Nat.zero_le _) _ _ _ _) ?_
      rintro _ w7 _ ⟨rfl, hw7, rfl⟩
      rw [hw7]
      show qG none (d + 1) 280 24 [(2, 95), (0, s), (0, g), (0, a), (0, b), (9, 0)] [(0, isInV (a) (0) (99))] w 142 Q9
      refine qG.br (P := isInV (a) (0) (99) = 0) (pc1 := 47) (pc2 := 27) (st1 := []) rfl (fun h3 => ?_) (fun h3 => ?_)
      · skip
        rw [isIn_b] at h3
        refine qG.blk 1 (pc' := 48) (ls' := [(2, 95), (0, s), (0, g), (0, a), (0, b), (9, 0)]) (st' := [(0, (-1))]) (w' := w) (n' := 142) rfl ?_
        refine qG.ret rfl rfl ?_
        subst hQ9
        first | exact .inl ⟨by unfold masC; omega, rfl⟩ | exact .inr ⟨by unfold masC; omega, fun k => by simp (disch := decide) only [qup_ne, qup_if]⟩
      · skip
        rw [isIn_p] at h3
        refine qG.blk 3 (pc' := 32) (ls' := [(2, 95), (0, s), (0, g), (0, a), (0, b), (9, 0)]) (st' := [(0, 99), (0, a), (0, b)]) (w' := w) (n' := 142) rfl ?_
        refine qG.call (t := 206) (na := 3) (sk := 0) (md := 0) (ls1 := [(0, b), (0, a), (0, 99)]) (r1 := []) rfl rfl rfl rfl rfl (K_isIn (Nat.zero_le _) _ _ _ _) ?_
        rintro _ w7 _ ⟨rfl, hw7, rfl⟩
        rw [hw7]
        show qG none (d + 1) 280 35 [(2, 95), (0, s), (0, g), (0, a), (0, b), (9, 0)] [(0, isInV (b) (a) (99))] w 142 Q9
        refine qG.br (P := isInV (b) (a) (99) = 0) (pc1 := 47) (pc2 := 38) (st1 := []) rfl (fun h4 => ?_) (fun h4 => ?_)
        · skip
          rw [isIn_b] at h4
          refine qG.blk 1 (pc' := 48) (ls' := [(2, 95), (0, s), (0, g), (0, a), (0, b), (9, 0)]) (st' := [(0, (-1))]) (w' := w) (n' := 142) rfl ?_
          refine qG.ret rfl rfl ?_
          subst hQ9
          first | exact .inl ⟨by unfold masC; omega, rfl⟩ | exact .inr ⟨by unfold masC; omega, fun k => by simp (disch := decide) only [qup_ne, qup_if]⟩
        · skip
          rw [isIn_p] at h4
          refine qG.blk 2 (pc' := 42) (ls' := [(2, 95), (0, s), (0, g), (0, a), (0, b), (9, 0)]) (st' := [(0, w 95 55)]) (w' := w) (n' := 142) rfl ?_
          rw [show w 95 55 = ((n : Nat) : Int) from hn]
          refine qG.blk 1 (pc' := 44) (ls' := [(2, 95), (0, s), (0, g), (0, a), (0, b), (9, 0)]) (st' := [(0, 12), (0, ((n : Nat) : Int))]) (w' := w) (n' := 142) rfl ?_
          refine qG.br (P := ((n : Nat) : Int) = 12) (pc1 := 47) (pc2 := 49) (st1 := []) rfl (fun h5 => ?_) (fun h5 => ?_)
          · skip
            refine qG.blk 1 (pc' := 48) (ls' := [(2, 95), (0, s), (0, g), (0, a), (0, b), (9, 0)]) (st' := [(0, (-1))]) (w' := w) (n' := 142) rfl ?_
            refine qG.ret rfl rfl ?_
            subst hQ9
            first | exact .inl ⟨by unfold masC; omega, rfl⟩ | exact .inr ⟨by unfold masC; omega, fun k => by simp (disch := decide) only [qup_ne, qup_if]⟩
          · skip
            refine qG.blk 2 (pc' := 53) (ls' := [(2, 95), (0, s), (0, g), (0, a), (0, b), (9, 0)]) (st' := [(2, w 95 58)]) (w' := w) (n' := 142) rfl ?_
            rw [show w 95 58 = 125 from zref hI rfl rfl]
            refine qG.blk 2 (pc' := 57) (ls' := [(2, 95), (0, s), (0, g), (0, a), (0, b), (9, 0)]) (st' := [(0, w 95 55), (2, 125)]) (w' := w) (n' := 142) rfl ?_
            rw [show w 95 55 = ((n : Nat) : Int) from hn]
            refine qG.blk 1 (pc' := 58) (ls' := [(2, 95), (0, s), (0, g), (0, a), (0, b), (9, 0)]) (st' := [(0, g), (0, ((n : Nat) : Int)), (2, 125)]) (w' := w) (n' := 142) rfl ?_
            refine qG.ar (P := 0 ≤ ((n : Nat) : Int) ∧ ((n : Nat) : Int) < ((12 : Nat) : Int)) (P2 := 0 < (125 : Int) ∧ (125 : Int) ≤ ((142 : Nat) : Int)) (pc' := 59) (ls' := [(2, 95), (0, s), (0, g), (0, a), (0, b), (9, 0)]) (st' := []) (w' := (qup w 125 n g)) (n' := 142) rfl (by omega) (by decide) ?_
            refine qG.blk 2 (pc' := 63) (ls' := [(2, 95), (0, s), (0, g), (0, a), (0, b), (9, 0)]) (st' := [(2, w 95 59)]) (w' := (qup w 125 n g)) (n' := 142) rfl ?_
            rw [show w 95 59 = 126 from zref hI rfl rfl]
            refine qG.blk 2 (pc' := 67) (ls' := [(2, 95), (0, s), (0, g), (0, a), (0, b), (9, 0)]) (st' := [(0, w 95 55), (2, 126)]) (w' := (qup w 125 n g)) (n' := 142) rfl ?_
            rw [show w 95 55 = ((n : Nat) : Int) from hn]
            refine qG.blk 1 (pc' := 68) (ls' := [(2, 95), (0, s), (0, g), (0, a), (0, b), (9, 0)]) (st' := [(0, a), (0, ((n : Nat) : Int)), (2, 126)]) (w' := (qup w 125 n g)) (n' := 142) rfl ?_
            refine qG.ar (P := 0 ≤ ((n : Nat) : Int) ∧ ((n : Nat) : Int) < ((12 : Nat) : Int)) (P2 := 0 < (126 : Int) ∧ (126 : Int) ≤ ((142 : Nat) : Int)) (pc' := 69) (ls' := [(2, 95), (0, s), (0, g), (0, a), (0, b), (9, 0)]) (st' := []) (w' := (qup (qup w 125 n g) 126 n a)) (n' := 142) rfl (by omega) (by decide) ?_
            refine qG.blk 2 (pc' := 73) (ls' := [(2, 95), (0, s), (0, g), (0, a), (0, b), (9, 0)]) (st' := [(2, w 95 60)]) (w' := (qup (qup w 125 n g) 126 n a)) (n' := 142) rfl ?_
            rw [show w 95 60 = 127 from zref hI rfl rfl]
            refine qG.blk 2 (pc' := 77) (ls' := [(2, 95), (0, s), (0, g), (0, a), (0, b), (9, 0)]) (st' := [(0, w 95 55), (2, 127)]) (w' := (qup (qup w 125 n g) 126 n a)) (n' := 142) rfl ?_
            rw [show w 95 55 = ((n : Nat) : Int) from hn]
            refine qG.blk 1 (pc' := 79) (ls' := [(2, 95), (0, s), (0, g), (0, a), (0, b), (9, 0)]) (st' := [(0, b), (0, ((n : Nat) : Int)), (2, 127)]) (w' := (qup (qup w 125 n g) 126 n a)) (n' := 142) rfl ?_
            refine qG.ar (P := 0 ≤ ((n : Nat) : Int) ∧ ((n : Nat) : Int) < ((12 : Nat) : Int)) (P2 := 0 < (127 : Int) ∧ (127 : Int) ≤ ((142 : Nat) : Int)) (pc' := 80) (ls' := [(2, 95), (0, s), (0, g), (0, a), (0, b), (9, 0)]) (st' := []) (w' := (qup (qup (qup w 125 n g) 126 n a) 127 n b)) (n' := 142) rfl (by omega) (by decide) ?_
            refine qG.blk 4 (pc' := 86) (ls' := [(2, 95), (0, s), (0, g), (0, a), (0, b), (0, 0)]) (st' := [(0, 3), (0, 0)]) (w' := (qup (qup (qup w 125 n g) 126 n a) 127 n b)) (n' := 142) rfl ?_
            refine qG.br (P := (0 : Int) < 3) (pc1 := 89) (pc2 := 110) (st1 := []) rfl (fun h1 => ?_) (fun h1 => ?_)
            · skip
              refine qG.blk 2 (pc' := 93) (ls' := [(2, 95), (0, s), (0, g), (0, a), (0, b), (0, 0)]) (st' := [(2, w 95 61)]) (w' := (qup (qup (qup w 125 n g) 126 n a) 127 n b)) (n' := 142) rfl ?_
              rw [show w 95 61 = 128 from zref hI rfl rfl]
              refine qG.blk 3 (pc' := 98) (ls' := [(2, 95), (0, s), (0, g), (0, a), (0, b), (0, 0)]) (st' := [(0, w 95 55), (0, 3), (2, 128)]) (w' := (qup (qup (qup w 125 n g) 126 n a) 127 n b)) (n' := 142) rfl ?_
              rw [show w 95 55 = ((n : Nat) : Int) from hn]
              refine qG.blk 1 (pc' := 99) (ls' := [(2, 95), (0, s), (0, g), (0, a), (0, b), (0, 0)]) (st' := [(0, wrp (3 * ((n : Nat) : Int))), (2, 128)]) (w' := (qup (qup (qup w 125 n g) 126 n a) 127 n b)) (n' := 142) rfl ?_
              rw [show wrp (3 * ((n : Nat) : Int)) = ((3 * n : Nat) : Int) from by rw [wrp_id (by omega) (by omega)]; omega]
              refine qG.blk 2 (pc' := 102) (ls' := [(2, 95), (0, s), (0, g), (0, a), (0, b), (0, 0)]) (st' := [(0, wrp (((3 * n : Nat) : Int) + 0)), (2, 128)]) (w' := (qup (qup (qup w 125 n g) 126 n a) 127 n b)) (n' := 142) rfl ?_
              rw [show wrp (((3 * n : Nat) : Int) + 0) = ((3 * n + 0 : Nat) : Int) from by rw [wrp_id (by omega) (by omega)]; omega]
              refine qG.blk 1 (pc' := 103) (ls' := [(2, 95), (0, s), (0, g), (0, a), (0, b), (0, 0)]) (st' := [(0, 1), (0, ((3 * n + 0 : Nat) : Int)), (2, 128)]) (w' := (qup (qup (qup w 125 n g) 126 n a) 127 n b)) (n' := 142) rfl ?_
              refine qG.ar (P := 0 ≤ ((3 * n + 0 : Nat) : Int) ∧ ((3 * n + 0 : Nat) : Int) < ((36 : Nat) : Int)) (P2 := 0 < (128 : Int) ∧ (128 : Int) ≤ ((142 : Nat) : Int)) (pc' := 104) (ls' := [(2, 95), (0, s), (0, g), (0, a), (0, b), (0, 0)]) (st' := []) (w' := (qup (qup (qup (qup w 125 n g) 126 n a) 127 n b) 128 (3 * n + 0) 1)) (n' := 142) rfl (by omega) (by decide) ?_
              refine qG.blk 1 (pc' := 107) (ls' := [(2, 95), (0, s), (0, g), (0, a), (0, b), (0, wrp (0 + 1))]) (st' := []) (w' := (qup (qup (qup (qup w 125 n g) 126 n a) 127 n b) 128 (3 * n + 0) 1)) (n' := 142) rfl ?_
              rw [show wrp (0 + 1) = 1 from wrp_id (by omega) (by omega)]
              refine qG.blk 3 (pc' := 86) (ls' := [(2, 95), (0, s), (0, g), (0, a), (0, b), (0, 1)]) (st' := [(0, 3), (0, 1)]) (w' := (qup (qup (qup (qup w 125 n g) 126 n a) 127 n b) 128 (3 * n + 0) 1)) (n' := 142) rfl ?_
              refine qG.br (P := (1 : Int) < 3) (pc1 := 89) (pc2 := 110) (st1 := []) rfl (fun h2 => ?_) (fun h2 => ?_)
              · skip
                refine qG.blk 2 (pc' := 93) (ls' := [(2, 95), (0, s), (0, g), (0, a), (0, b), (0, 1)]) (st' := [(2, w 95 61)]) (w' := (qup (qup (qup (qup w 125 n g) 126 n a) 127 n b) 128 (3 * n + 0) 1)) (n' := 142) rfl ?_
                rw [show w 95 61 = 128 from zref hI rfl rfl]
                refine qG.blk 3 (pc' := 98) (ls' := [(2, 95), (0, s), (0, g), (0, a), (0, b), (0, 1)]) (st' := [(0, w 95 55), (0, 3), (2, 128)]) (w' := (qup (qup (qup (qup w 125 n g) 126 n a) 127 n b) 128 (3 * n + 0) 1)) (n' := 142) rfl ?_
                rw [show w 95 55 = ((n : Nat) : Int) from hn]
                refine qG.blk 1 (pc' := 99) (ls' := [(2, 95), (0, s), (0, g), (0, a), (0, b), (0, 1)]) (st' := [(0, wrp (3 * ((n : Nat) : Int))), (2, 128)]) (w' := (qup (qup (qup (qup w 125 n g) 126 n a) 127 n b) 128 (3 * n + 0) 1)) (n' := 142) rfl ?_
                rw [show wrp (3 * ((n : Nat) : Int)) = ((3 * n : Nat) : Int) from by rw [wrp_id (by omega) (by omega)]; omega]
                refine qG.blk 2 (pc' := 102) (ls' := [(2, 95), (0, s), (0, g), (0, a), (0, b), (0, 1)]) (st' := [(0, wrp (((3 * n : Nat) : Int) + 1)), (2, 128)]) (w' := (qup (qup (qup (qup w 125 n g) 126 n a) 127 n b) 128 (3 * n + 0) 1)) (n' := 142) rfl ?_
                rw [show wrp (((3 * n : Nat) : Int) + 1) = ((3 * n + 1 : Nat) : Int) from by rw [wrp_id (by omega) (by omega)]; omega]
                refine qG.blk 1 (pc' := 103) (ls' := [(2, 95), (0, s), (0, g), (0, a), (0, b), (0, 1)]) (st' := [(0, 1), (0, ((3 * n + 1 : Nat) : Int)), (2, 128)]) (w' := (qup (qup (qup (qup w 125 n g) 126 n a) 127 n b) 128 (3 * n + 0) 1)) (n' := 142) rfl ?_
                refine qG.ar (P := 0 ≤ ((3 * n + 1 : Nat) : Int) ∧ ((3 * n + 1 : Nat) : Int) < ((36 : Nat) : Int)) (P2 := 0 < (128 : Int) ∧ (128 : Int) ≤ ((142 : Nat) : Int)) (pc' := 104) (ls' := [(2, 95), (0, s), (0, g), (0, a), (0, b), (0, 1)]) (st' := []) (w' := (qup (qup (qup (qup (qup w 125 n g) 126 n a) 127 n b) 128 (3 * n + 0) 1) 128 (3 * n + 1) 1)) (n' := 142) rfl (by omega) (by decide) ?_
                refine qG.blk 1 (pc' := 107) (ls' := [(2, 95), (0, s), (0, g), (0, a), (0, b), (0, wrp (1 + 1))]) (st' := []) (w' := (qup (qup (qup (qup (qup w 125 n g) 126 n a) 127 n b) 128 (3 * n + 0) 1) 128 (3 * n + 1) 1)) (n' := 142) rfl ?_
                rw [show wrp (1 + 1) = 2 from wrp_id (by omega) (by omega)]
                refine qG.blk 3 (pc' := 86) (ls' := [(2, 95), (0, s), (0, g), (0, a), (0, b), (0, 2)]) (st' := [(0, 3), (0, 2)]) (w' := (qup (qup (qup (qup (qup w 125 n g) 126 n a) 127 n b) 128 (3 * n + 0) 1) 128 (3 * n + 1) 1)) (n' := 142) rfl ?_
                refine qG.br (P := (2 : Int) < 3) (pc1 := 89) (pc2 := 110) (st1 := []) rfl (fun h3 => ?_) (fun h3 => ?_)
                · skip
                  refine qG.blk 2 (pc' := 93) (ls' := [(2, 95), (0, s), (0, g), (0, a), (0, b), (0, 2)]) (st' := [(2, w 95 61)]) (w' := (qup (qup (qup (qup (qup w 125 n g) 126 n a) 127 n b) 128 (3 * n + 0) 1) 128 (3 * n + 1) 1)) (n' := 142) rfl ?_
                  rw [show w 95 61 = 128 from zref hI rfl rfl]
                  refine qG.blk 3 (pc' := 98) (ls' := [(2, 95), (0, s), (0, g), (0, a), (0, b), (0, 2)]) (st' := [(0, w 95 55), (0, 3), (2, 128)]) (w' := (qup (qup (qup (qup (qup w 125 n g) 126 n a) 127 n b) 128 (3 * n + 0) 1) 128 (3 * n + 1) 1)) (n' := 142) rfl ?_
                  rw [show w 95 55 = ((n : Nat) : Int) from hn]
                  refine qG.blk 1 (pc' := 99) (ls' := [(2, 95), (0, s), (0, g), (0, a), (0, b), (0, 2)]) (st' := [(0, wrp (3 * ((n : Nat) : Int))), (2, 128)]) (w' := (qup (qup (qup (qup (qup w 125 n g) 126 n a) 127 n b) 128 (3 * n + 0) 1) 128 (3 * n + 1) 1)) (n' := 142) rfl ?_
                  rw [show wrp (3 * ((n : Nat) : Int)) = ((3 * n : Nat) : Int) from by rw [wrp_id (by omega) (by omega)]; omega]
                  refine qG.blk 2 (pc' := 102) (ls' := [(2, 95), (0, s), (0, g), (0, a), (0, b), (0, 2)]) (st' := [(0, wrp (((3 * n : Nat) : Int) + 2)), (2, 128)]) (w' := (qup (qup (qup (qup (qup w 125 n g) 126 n a) 127 n b) 128 (3 * n + 0) 1) 128 (3 * n + 1) 1)) (n' := 142) rfl ?_
                  rw [show wrp (((3 * n : Nat) : Int) + 2) = ((3 * n + 2 : Nat) : Int) from by rw [wrp_id (by omega) (by omega)]; omega]
                  refine qG.blk 1 (pc' := 103) (ls' := [(2, 95), (0, s), (0, g), (0, a), (0, b), (0, 2)]) (st' := [(0, 1), (0, ((3 * n + 2 : Nat) : Int)), (2, 128)]) (w' := (qup (qup (qup (qup (qup w 125 n g) 126 n a) 127 n b) 128 (3 * n + 0) 1) 128 (3 * n + 1) 1)) (n' := 142) rfl ?_
                  refine qG.ar (P := 0 ≤ ((3 * n + 2 : Nat) : Int) ∧ ((3 * n + 2 : Nat) : Int) < ((36 : Nat) : Int)) (P2 := 0 < (128 : Int) ∧ (128 : Int) ≤ ((142 : Nat) : Int)) (pc' := 104) (ls' := [(2, 95), (0, s), (0, g), (0, a), (0, b), (0, 2)]) (st' := []) (w' := (qup (qup (qup (qup (qup (qup w 125 n g) 126 n a) 127 n b) 128 (3 * n + 0) 1) 128 (3 * n + 1) 1) 128 (3 * n + 2) 1)) (n' := 142) rfl (by omega) (by decide) ?_
                  refine qG.blk 1 (pc' := 107) (ls' := [(2, 95), (0, s), (0, g), (0, a), (0, b), (0, wrp (2 + 1))]) (st' := []) (w' := (qup (qup (qup (qup (qup (qup w 125 n g) 126 n a) 127 n b) 128 (3 * n + 0) 1) 128 (3 * n + 1) 1) 128 (3 * n + 2) 1)) (n' := 142) rfl ?_
                  rw [show wrp (2 + 1) = 3 from wrp_id (by omega) (by omega)]
                  refine qG.blk 3 (pc' := 86) (ls' := [(2, 95), (0, s), (0, g), (0, a), (0, b), (0, 3)]) (st' := [(0, 3), (0, 3)]) (w' := (qup (qup (qup (qup (qup (qup w 125 n g) 126 n a) 127 n b) 128 (3 * n + 0) 1) 128 (3 * n + 1) 1) 128 (3 * n + 2) 1)) (n' := 142) rfl ?_
                  refine qG.br (P := (3 : Int) < 3) (pc1 := 89) (pc2 := 110) (st1 := []) rfl (fun h4 => ?_) (fun h4 => ?_)
                  · exact absurd h4 (by decide)
                  · skip
                    refine qG.blk 3 (pc' := 115) (ls' := [(2, 95), (0, s), (0, g), (0, a), (0, b), (0, 3)]) (st' := [(0, w 95 55), (2, 95)]) (w' := (qup (qup (qup (qup (qup (qup w 125 n g) 126 n a) 127 n b) 128 (3 * n + 0) 1) 128 (3 * n + 1) 1) 128 (3 * n + 2) 1)) (n' := 142) rfl ?_
                    rw [show w 95 55 = ((n : Nat) : Int) from hn]
                    refine qG.blk 2 (pc' := 117) (ls' := [(2, 95), (0, s), (0, g), (0, a), (0, b), (0, 3)]) (st' := [(0, wrp (((n : Nat) : Int) + 1)), (2, 95)]) (w' := (qup (qup (qup (qup (qup (qup w 125 n g) 126 n a) 127 n b) 128 (3 * n + 0) 1) 128 (3 * n + 1) 1) 128 (3 * n + 2) 1)) (n' := 142) rfl ?_
                    rw [show wrp (((n : Nat) : Int) + 1) = ((n + 1 : Nat) : Int) from by rw [wrp_id (by omega) (by omega)]; omega]
                    refine qG.blk 5 (pc' := 126) (ls' := [(2, 95), (0, s), (0, g), (0, a), (0, b), (0, 3)]) (st' := [(0, wrp (((n + 1 : Nat) : Int) - 1))]) (w' := (qup (qup (qup (qup (qup (qup (qup w 125 n g) 126 n a) 127 n b) 128 (3 * n + 0) 1) 128 (3 * n + 1) 1) 128 (3 * n + 2) 1) 95 55 ((n + 1 : Nat) : Int))) (n' := 142) rfl ?_
                    rw [show wrp (((n + 1 : Nat) : Int) - 1) = ((n : Nat) : Int) from by rw [wrp_id (by omega) (by omega)]; omega]
                    refine qG.ret rfl rfl ?_
                    subst hQ9
                    first | exact .inl ⟨by unfold masC; omega, rfl⟩ | exact .inr ⟨by unfold masC; omega, fun k => by simp (disch := decide) only [qup_ne, qup_if]⟩
                · exact absurd h3 (by decide)
              · exact absurd h2 (by decide)
            · exact absurd h1 (by decide)
noncomputable def habC (m a v n : Int) : Prop := (0 ≤ m ∧ m < n) ∧ (0 ≤ a ∧ a ≤ 2) ∧ 0 ≤ v ∧ v ≤ 9
noncomputable def habE (p : Nat) (m a v n : Int) (w : qW) (r : qV) (w1 : qW) : Prop := (¬ habC m a v n ∧ r = (0, 0) ∧ w1 = w) ∨ (habC m a v n ∧ ∃ m9 a9 : Nat, m = (m9 : Int) ∧ a = (a9 : Int) ∧ r = (0, 1) ∧ w1 = qup w p (3 * m9 + a9) v)
theorem K_putHabitE {d : Nat} (hd : 1 ≤ d) (m a v : Int) (w : qW) (hI : yInv zgf zga zra zSp w) : qG none d 63 0 [(2, 45), (0, m), (0, a), (0, v)] [] w 142 (fun (r : qV) (w1 : qW) (n1 : Nat) => n1 = 142 ∧ habE 49 m a v (w 45 0) w r w1) := by
  generalize hQ9 : (fun (r : qV) (w1 : qW) (n1 : Nat) => n1 = 142 ∧ habE 49 m a v (w 45 0) w r w1) = Q9
  have q12 := hI.1 45 0 (0, 12) rfl rfl
  have b12 : w 45 0 ≤ (12 : Int) := q12.2
  obtain ⟨d, rfl⟩ : ∃ d9, d = d9 + 1 := ⟨d - 1, by omega⟩
  refine qG.blk 2 (pc' := 2) (ls' := [(2, 45), (0, m), (0, a), (0, v)]) (st' := [(0, m), (2, 45)]) (w' := w) (n' := 142) rfl ?_
  refine qG.call (t := 59) (na := 2) (sk := 1) (md := 1) (ls1 := [(2, 45), (0, m)]) (r1 := []) rfl rfl rfl rfl rfl (K_X4_isMaster (Nat.zero_le _) m w hI) ?_
  rintro _ w7 _ ⟨rfl, hw7, rfl⟩
  rw [hw7]
  show qG none (d + 1) 63 5 [(2, 45), (0, m), (0, a), (0, v)] [(0, isInV m 0 (w 45 0 - 1))] w 142 Q9
  refine qG.br (P := isInV m 0 (w 45 0 - 1) = 0) (pc1 := 25) (pc2 := 8) (st1 := []) rfl (fun h1 => ?_) (fun h1 => ?_)
  · skip
    rw [isIn_b] at h1
    refine qG.blk 1 (pc' := 26) (ls' := [(2, 45), (0, m), (0, a), (0, v)]) (st' := [(0, 0)]) (w' := w) (n' := 142) rfl ?_
    refine qG.ret rfl (by first | rfl | exact decide_eq_true (by omega)) ?_
    subst hQ9
    refine ⟨rfl, ?_⟩; first | exact .inl ⟨by unfold habC; omega, rfl, rfl⟩ | exact .inr ⟨by unfold habC; omega, m9, a9, rfl, rfl, rfl, rfl⟩
  · skip
    rw [isIn_p] at h1
    obtain ⟨m9, rfl⟩ : ∃ q : Nat, m = (q : Int) := ⟨m.toNat, by omega⟩
    refine qG.blk 1 (pc' := 9) (ls' := [(2, 45), (0, ((m9 : Nat) : Int)), (0, a), (0, v)]) (st' := [(0, a)]) (w' := w) (n' := 142) rfl ?_
    refine qG.call (t := 58) (na := 1) (sk := 0) (md := 0) (ls1 := [(0, a)]) (r1 := []) rfl rfl rfl rfl rfl (K_X4_isAnswer (Nat.zero_le _) _ _) ?_
    rintro _ w7 _ ⟨rfl, hw7, rfl⟩
    rw [hw7]
    show qG none (d + 1) 63 12 [(2, 45), (0, ((m9 : Nat) : Int)), (0, a), (0, v)] [(0, isInV a 0 2)] w 142 Q9
    refine qG.br (P := isInV a 0 2 = 0) (pc1 := 25) (pc2 := 15) (st1 := []) rfl (fun h2 => ?_) (fun h2 => ?_)
    · skip
      rw [isIn_b] at h2
      refine qG.blk 1 (pc' := 26) (ls' := [(2, 45), (0, ((m9 : Nat) : Int)), (0, a), (0, v)]) (st' := [(0, 0)]) (w' := w) (n' := 142) rfl ?_
      refine qG.ret rfl (by first | rfl | exact decide_eq_true (by omega)) ?_
      subst hQ9
      refine ⟨rfl, ?_⟩; first | exact .inl ⟨by unfold habC; omega, rfl, rfl⟩ | exact .inr ⟨by unfold habC; omega, m9, a9, rfl, rfl, rfl, rfl⟩
    · skip
      rw [isIn_p] at h2
      obtain ⟨a9, rfl⟩ : ∃ q : Nat, a = (q : Int) := ⟨a.toNat, by omega⟩
      refine qG.blk 1 (pc' := 16) (ls' := [(2, 45), (0, ((m9 : Nat) : Int)), (0, ((a9 : Nat) : Int)), (0, v)]) (st' := [(0, v)]) (w' := w) (n' := 142) rfl ?_
      refine qG.br (P := v < 0) (pc1 := 25) (pc2 := 19) (st1 := []) rfl (fun h1 => ?_) (fun h1 => ?_)
      · skip
        refine qG.blk 1 (pc' := 26) (ls' := [(2, 45), (0, ((m9 : Nat) : Int)), (0, ((a9 : Nat) : Int)), (0, v)]) (st' := [(0, 0)]) (w' := w) (n' := 142) rfl ?_
        refine qG.ret rfl (by first | rfl | exact decide_eq_true (by omega)) ?_
        subst hQ9
        refine ⟨rfl, ?_⟩; first | exact .inl ⟨by unfold habC; omega, rfl, rfl⟩ | exact .inr ⟨by unfold habC; omega, m9, a9, rfl, rfl, rfl, rfl⟩
      · skip
        refine qG.blk 2 (pc' := 22) (ls' := [(2, 45), (0, ((m9 : Nat) : Int)), (0, ((a9 : Nat) : Int)), (0, v)]) (st' := [(0, 9), (0, v)]) (w' := w) (n' := 142) rfl ?_
        refine qG.br (P := 9 < v) (pc1 := 25) (pc2 := 27) (st1 := []) rfl (fun h2 => ?_) (fun h2 => ?_)
        · skip
          refine qG.blk 1 (pc' := 26) (ls' := [(2, 45), (0, ((m9 : Nat) : Int)), (0, ((a9 : Nat) : Int)), (0, v)]) (st' := [(0, 0)]) (w' := w) (n' := 142) rfl ?_
          refine qG.ret rfl (by first | rfl | exact decide_eq_true (by omega)) ?_
          subst hQ9
          refine ⟨rfl, ?_⟩; first | exact .inl ⟨by unfold habC; omega, rfl, rfl⟩ | exact .inr ⟨by unfold habC; omega, m9, a9, rfl, rfl, rfl, rfl⟩
        · skip
          refine qG.blk 2 (pc' := 31) (ls' := [(2, 45), (0, ((m9 : Nat) : Int)), (0, ((a9 : Nat) : Int)), (0, v)]) (st' := [(2, w 45 4)]) (w' := w) (n' := 142) rfl ?_
          rw [show w 45 4 = 49 from zref hI rfl rfl]
          refine qG.blk 3 (pc' := 34) (ls' := [(2, 45), (0, ((m9 : Nat) : Int)), (0, ((a9 : Nat) : Int)), (0, v)]) (st' := [(0, wrp (((m9 : Nat) : Int) * 3)), (2, 49)]) (w' := w) (n' := 142) rfl ?_
          rw [show wrp (((m9 : Nat) : Int) * 3) = ((3 * m9 : Nat) : Int) from by rw [wrp_id (by omega) (by omega)]; omega]
          refine qG.blk 2 (pc' := 36) (ls' := [(2, 45), (0, ((m9 : Nat) : Int)), (0, ((a9 : Nat) : Int)), (0, v)]) (st' := [(0, wrp (((3 * m9 : Nat) : Int) + ((a9 : Nat) : Int))), (2, 49)]) (w' := w) (n' := 142) rfl ?_
          rw [show wrp (((3 * m9 : Nat) : Int) + ((a9 : Nat) : Int)) = ((3 * m9 + a9 : Nat) : Int) from by rw [wrp_id (by omega) (by omega)]; omega]
          refine qG.blk 1 (pc' := 37) (ls' := [(2, 45), (0, ((m9 : Nat) : Int)), (0, ((a9 : Nat) : Int)), (0, v)]) (st' := [(0, v), (0, ((3 * m9 + a9 : Nat) : Int)), (2, 49)]) (w' := w) (n' := 142) rfl ?_
          refine qG.ar (P := 0 ≤ ((3 * m9 + a9 : Nat) : Int) ∧ ((3 * m9 + a9 : Nat) : Int) < ((36 : Nat) : Int)) (P2 := 0 < (49 : Int) ∧ (49 : Int) ≤ ((142 : Nat) : Int)) (pc' := 38) (ls' := [(2, 45), (0, ((m9 : Nat) : Int)), (0, ((a9 : Nat) : Int)), (0, v)]) (st' := []) (w' := (qup w 49 (3 * m9 + a9) v)) (n' := 142) rfl (by omega) (by decide) ?_
          refine qG.blk 1 (pc' := 39) (ls' := [(2, 45), (0, ((m9 : Nat) : Int)), (0, ((a9 : Nat) : Int)), (0, v)]) (st' := [(0, 1)]) (w' := (qup w 49 (3 * m9 + a9) v)) (n' := 142) rfl ?_
          refine qG.ret rfl (by first | rfl | exact decide_eq_true (by omega)) ?_
          subst hQ9
          refine ⟨rfl, ?_⟩; first | exact .inl ⟨by unfold habC; omega, rfl, rfl⟩ | exact .inr ⟨by unfold habC; omega, m9, a9, rfl, rfl, rfl, rfl⟩
theorem K_X11_habitE {d : Nat} (hd : 2 ≤ d) (m a v : Int) (w : qW) (hI : yInv zgf zga zra zSp w) : qG none d 187 0 [(2, 1), (0, m), (0, a), (0, v)] [] w 142 (fun (r : qV) (w1 : qW) (n1 : Nat) => n1 = 142 ∧ habE 49 m a v (w 45 0) w r w1) := by
  generalize hQ9 : (fun (r : qV) (w1 : qW) (n1 : Nat) => n1 = 142 ∧ habE 49 m a v (w 45 0) w r w1) = Q9
  obtain ⟨d, rfl⟩ : ∃ d9, d = d9 + 1 := ⟨d - 1, by omega⟩
  refine qG.blk 2 (pc' := 4) (ls' := [(2, 1), (0, m), (0, a), (0, v)]) (st' := [(2, w 1 7)]) (w' := w) (n' := 142) rfl ?_
  rw [show w 1 7 = 45 from zref hI rfl rfl]
  refine qG.blk 3 (pc' := 7) (ls' := [(2, 1), (0, m), (0, a), (0, v)]) (st' := [(0, v), (0, a), (0, m), (2, 45)]) (w' := w) (n' := 142) rfl ?_
  refine qG.call (t := 63) (na := 4) (sk := 1) (md := 1) (ls1 := [(2, 45), (0, m), (0, a), (0, v)]) (r1 := []) rfl rfl rfl rfl rfl (K_putHabitE (by omega) m a v w hI) ?_
  rintro ⟨_, x9⟩ w1 _ ⟨rfl, hE⟩
  have hk9 : ∃ y, ((_ : Nat), x9) = ((0 : Nat), y) ∧ (y = 0 ∨ y = 1) := (by rcases hE with ⟨-, h, -⟩ | ⟨-, -, -, -, -, h, -⟩ <;> first | exact ⟨_, h, .inl rfl⟩ | exact ⟨_, h, .inr rfl⟩)
  obtain ⟨y9, hy9, hz9⟩ := hk9
  obtain ⟨rfl, rfl⟩ := Prod.mk.inj hy9
  show qG none (d + 1) 187 10 [(2, 1), (0, m), (0, a), (0, v)] [(0, x9)] w1 142 Q9
  refine qG.ret rfl (by exact decide_eq_true (by omega)) ?_
  subst hQ9
  exact ⟨rfl, hE⟩
theorem K_X12_habitE {d : Nat} (hd : 2 ≤ d) (m a v : Int) (w : qW) (hI : yInv zgf zga zra zSp w) : qG none d 282 0 [(2, 95), (0, m), (0, a), (0, v)] [] w 142 (fun (r : qV) (w1 : qW) (n1 : Nat) => n1 = 142 ∧ habE 128 m a v (w 95 55) w r w1) := by
  generalize hQ9 : (fun (r : qV) (w1 : qW) (n1 : Nat) => n1 = 142 ∧ habE 128 m a v (w 95 55) w r w1) = Q9
  have h55 := zfld hI (j := 55) (b := (0, 12)) rfl
  have b55 : w 95 55 ≤ (12 : Int) := h55.2
  obtain ⟨d, rfl⟩ : ∃ d9, d = d9 + 1 := ⟨d - 1, by omega⟩
  refine qG.blk 2 (pc' := 2) (ls' := [(2, 95), (0, m), (0, a), (0, v)]) (st' := [(0, m), (2, 95)]) (w' := w) (n' := 142) rfl ?_
  refine qG.call (t := 279) (na := 2) (sk := 1) (md := 1) (ls1 := [(2, 95), (0, m)]) (r1 := []) rfl rfl rfl rfl rfl (K_isMaster (by omega) m w hI) ?_
  rintro _ w7 _ ⟨rfl, hw7, rfl⟩
  rw [hw7]
  show qG none (d + 1) 282 5 [(2, 95), (0, m), (0, a), (0, v)] [(0, isInV m 0 (w 95 55 - 1))] w 142 Q9
  refine qG.br (P := isInV m 0 (w 95 55 - 1) = 0) (pc1 := 27) (pc2 := 8) (st1 := []) rfl (fun h1 => ?_) (fun h1 => ?_)
  · skip
    rw [isIn_b] at h1
    refine qG.blk 1 (pc' := 28) (ls' := [(2, 95), (0, m), (0, a), (0, v)]) (st' := [(0, 0)]) (w' := w) (n' := 142) rfl ?_
    refine qG.ret rfl (by first | rfl | exact decide_eq_true (by omega)) ?_
    subst hQ9
    refine ⟨rfl, ?_⟩; first | exact .inl ⟨by unfold habC; omega, rfl, rfl⟩ | exact .inr ⟨by unfold habC; omega, m9, a9, rfl, rfl, rfl, rfl⟩
  · skip
    rw [isIn_p] at h1
    obtain ⟨m9, rfl⟩ : ∃ q : Nat, m = (q : Int) := ⟨m.toNat, by omega⟩
    refine qG.blk 3 (pc' := 11) (ls' := [(2, 95), (0, ((m9 : Nat) : Int)), (0, a), (0, v)]) (st' := [(0, 2), (0, 0), (0, a)]) (w' := w) (n' := 142) rfl ?_
    refine qG.call (t := 206) (na := 3) (sk := 0) (md := 0) (ls1 := [(0, a), (0, 0), (0, 2)]) (r1 := []) rfl rfl rfl rfl rfl (K_isIn (Nat.zero_le _) _ _ _ _) ?_
    rintro _ w7 _ ⟨rfl, hw7, rfl⟩
    rw [hw7]
    show qG none (d + 1) 282 14 [(2, 95), (0, ((m9 : Nat) : Int)), (0, a), (0, v)] [(0, isInV (a) (0) (2))] w 142 Q9
    refine qG.br (P := isInV (a) (0) (2) = 0) (pc1 := 27) (pc2 := 17) (st1 := []) rfl (fun h2 => ?_) (fun h2 => ?_)
    · skip
      rw [isIn_b] at h2
      refine qG.blk 1 (pc' := 28) (ls' := [(2, 95), (0, ((m9 : Nat) : Int)), (0, a), (0, v)]) (st' := [(0, 0)]) (w' := w) (n' := 142) rfl ?_
      refine qG.ret rfl (by first | rfl | exact decide_eq_true (by omega)) ?_
      subst hQ9
      refine ⟨rfl, ?_⟩; first | exact .inl ⟨by unfold habC; omega, rfl, rfl⟩ | exact .inr ⟨by unfold habC; omega, m9, a9, rfl, rfl, rfl, rfl⟩
    · skip
      rw [isIn_p] at h2
      obtain ⟨a9, rfl⟩ : ∃ q : Nat, a = (q : Int) := ⟨a.toNat, by omega⟩
      refine qG.blk 3 (pc' := 21) (ls' := [(2, 95), (0, ((m9 : Nat) : Int)), (0, ((a9 : Nat) : Int)), (0, v)]) (st' := [(0, 9), (0, 0), (0, v)]) (w' := w) (n' := 142) rfl ?_
      refine qG.call (t := 206) (na := 3) (sk := 0) (md := 0) (ls1 := [(0, v), (0, 0), (0, 9)]) (r1 := []) rfl rfl rfl rfl rfl (K_isIn (Nat.zero_le _) _ _ _ _) ?_
      rintro _ w7 _ ⟨rfl, hw7, rfl⟩
      rw [hw7]
      show qG none (d + 1) 282 24 [(2, 95), (0, ((m9 : Nat) : Int)), (0, ((a9 : Nat) : Int)), (0, v)] [(0, isInV (v) (0) (9))] w 142 Q9
      refine qG.br (P := isInV (v) (0) (9) = 0) (pc1 := 27) (pc2 := 29) (st1 := []) rfl (fun h3 => ?_) (fun h3 => ?_)
      · skip
        rw [isIn_b] at h3
        refine qG.blk 1 (pc' := 28) (ls' := [(2, 95), (0, ((m9 : Nat) : Int)), (0, ((a9 : Nat) : Int)), (0, v)]) (st' := [(0, 0)]) (w' := w) (n' := 142) rfl ?_
        refine qG.ret rfl (by first | rfl | exact decide_eq_true (by omega)) ?_
        subst hQ9
        refine ⟨rfl, ?_⟩; first | exact .inl ⟨by unfold habC; omega, rfl, rfl⟩ | exact .inr ⟨by unfold habC; omega, m9, a9, rfl, rfl, rfl, rfl⟩
      · skip
        rw [isIn_p] at h3
        refine qG.blk 2 (pc' := 33) (ls' := [(2, 95), (0, ((m9 : Nat) : Int)), (0, ((a9 : Nat) : Int)), (0, v)]) (st' := [(2, w 95 61)]) (w' := w) (n' := 142) rfl ?_
        rw [show w 95 61 = 128 from zref hI rfl rfl]
        refine qG.blk 3 (pc' := 36) (ls' := [(2, 95), (0, ((m9 : Nat) : Int)), (0, ((a9 : Nat) : Int)), (0, v)]) (st' := [(0, wrp (3 * ((m9 : Nat) : Int))), (2, 128)]) (w' := w) (n' := 142) rfl ?_
        rw [show wrp (3 * ((m9 : Nat) : Int)) = ((3 * m9 : Nat) : Int) from by rw [wrp_id (by omega) (by omega)]; omega]
        refine qG.blk 2 (pc' := 38) (ls' := [(2, 95), (0, ((m9 : Nat) : Int)), (0, ((a9 : Nat) : Int)), (0, v)]) (st' := [(0, wrp (((3 * m9 : Nat) : Int) + ((a9 : Nat) : Int))), (2, 128)]) (w' := w) (n' := 142) rfl ?_
        rw [show wrp (((3 * m9 : Nat) : Int) + ((a9 : Nat) : Int)) = ((3 * m9 + a9 : Nat) : Int) from by rw [wrp_id (by omega) (by omega)]; omega]
        refine qG.blk 1 (pc' := 39) (ls' := [(2, 95), (0, ((m9 : Nat) : Int)), (0, ((a9 : Nat) : Int)), (0, v)]) (st' := [(0, v), (0, ((3 * m9 + a9 : Nat) : Int)), (2, 128)]) (w' := w) (n' := 142) rfl ?_
        refine qG.ar (P := 0 ≤ ((3 * m9 + a9 : Nat) : Int) ∧ ((3 * m9 + a9 : Nat) : Int) < ((36 : Nat) : Int)) (P2 := 0 < (128 : Int) ∧ (128 : Int) ≤ ((142 : Nat) : Int)) (pc' := 40) (ls' := [(2, 95), (0, ((m9 : Nat) : Int)), (0, ((a9 : Nat) : Int)), (0, v)]) (st' := []) (w' := (qup w 128 (3 * m9 + a9) v)) (n' := 142) rfl (by omega) (by decide) ?_
        refine qG.blk 1 (pc' := 41) (ls' := [(2, 95), (0, ((m9 : Nat) : Int)), (0, ((a9 : Nat) : Int)), (0, v)]) (st' := [(0, 1)]) (w' := (qup w 128 (3 * m9 + a9) v)) (n' := 142) rfl ?_
        refine qG.ret rfl (by first | rfl | exact decide_eq_true (by omega)) ?_
        subst hQ9
        refine ⟨rfl, ?_⟩; first | exact .inl ⟨by unfold habC; omega, rfl, rfl⟩ | exact .inr ⟨by unfold habC; omega, m9, a9, rfl, rfl, rfl, rfl⟩
theorem JH.master {w w1 w2 : qW} {s g a b : Int} {n : Nat} {r r2 : qV} (h : JH w) (hM : w 95 55 = (n : Int)) (hX : masE 45 0 46 47 48 [46, 47, 48] s g a b n w r w1) (hR : masE 95 55 125 126 127 [125, 126, 127, 128] s g a b n w1 r2 w2) (hH : masH s g a b n w1 w2) : JH w2 := by
  rcases hX with ⟨c1, -, rfl⟩ | ⟨c1, -, -, -, -, -, s1⟩ <;> rcases hR with ⟨c2, -, rfl⟩ | ⟨c2, -, t2, -, -, -, s2⟩
  · exact h
  · exact absurd c2 c1
  · exact absurd c1 c2
  · rcases hH with ⟨c3, -⟩ | ⟨-, h3⟩
    · exact absurd c1 c3
    · have n12 : n < 12 := c1.2
      have e49 : ∀ k, w2 49 k = w 49 k := fun k => (s2 49 k (by decide) (fun z => by cases z.1)).trans (s1 49 k (by decide) (fun z => by cases z.1))
      have e128 : ∀ k, w1 128 k = w 128 k := fun k => s1 128 k (by decide) (fun z => by cases z.1)
      refine ⟨fun k hk => ?_, fun k hk h36 => ?_⟩
      · rw [t2] at hk
        rw [e49, h3, e128]
        by_cases q : (k : Int) < 3 * (n : Int)
        · rw [if_neg (by omega), if_neg (by omega), if_neg (by omega)]
          exact h.1 k (by omega)
        · rw [h.2 k (by omega) (by omega)]
          split
          · rfl
          · split
            · rfl
            · rw [if_pos (by omega)]
      · rw [t2] at hk
        rw [e49]
        exact h.2 k (by omega) h36
theorem JH.habit {w w1 w2 : qW} {m a v : Int} {r r2 : qV} (h : JH w) (hj : w 45 0 = w 95 55) (hX : habE 49 m a v (w 45 0) w r w1) (hR : habE 128 m a v (w1 95 55) w1 r2 w2) : JH w2 ∧ r = r2 := by
  rcases hX with ⟨c1, rfl, rfl⟩ | ⟨c1, m9, a9, em, ea, rfl, rfl⟩
  · rcases hR with ⟨c2, rfl, rfl⟩ | ⟨c2, -⟩
    · exact ⟨h, rfl⟩
    · rw [← hj] at c2; exact absurd c2 c1
  · have h55 : qup w 49 (3 * m9 + a9) v 95 55 = w 95 55 := by simp (disch := decide) only [qup_ne]
    rcases hR with ⟨c2, rfl, rfl⟩ | ⟨c2, m8, a8, em2, ea2, rfl, ew⟩
    · rw [h55, ← hj] at c2; exact absurd c1 c2
    · obtain rfl : m8 = m9 := by omega
      obtain rfl : a8 = a9 := by omega
      have g49 : ∀ k, w2 49 k = if k = 3 * m8 + a8 then v else w 49 k := fun k => by rw [ew]; simp (disch := decide) only [qup_ne, qup_if]
      have g128 : ∀ k, w2 128 k = if k = 3 * m8 + a8 then v else w 128 k := fun k => by rw [ew]; simp (disch := decide) only [qup_ne, qup_if]
      have g55 : w2 95 55 = w 95 55 := by rw [ew]; simp (disch := decide) only [qup_ne]
      unfold habC at c1
      refine ⟨⟨fun k hk => ?_, fun k hk h36 => ?_⟩, rfl⟩
      · rw [g55] at hk
        rw [g49, g128]
        split
        · rfl
        · exact h.1 k hk
      · rw [g55] at hk
        rw [g49, if_neg (by omega)]
        exact h.2 k hk h36
theorem JQ.habit {w w1 w2 : qW} {m a v : Int} {r r2 : qV} {m1 m2 : List Nat} (h : JQ w) (hX : habE 49 m a v (w 45 0) w r w1) (a1 : AW m1 w w1) (hm1 : jsM m1 = true) (hR : habE 128 m a v (w1 95 55) w1 r2 w2) (a2 : AW m2 w1 w2) (hm2 : jsM m2 = true) : JQ w2 ∧ r = r2 := by
  have q := JH.habit h.2 h.1.1.1 hX hR
  exact ⟨⟨(h.1.aw a1 hm1).aw a2 hm2, q.1⟩, q.2⟩
end
section
/-! all, on both sides -/
theorem AW.pp {p : Nat} {w w1 w2 : qW} (hp : p = 56 ∨ p = 137) (h : AW [p] w w1) (h2 : AW [p] w1 w2) : AW [p] w w2 := by
  rcases hp with rfl | rfl <;> exact h.tr h2 (by decide +kernel)
theorem stepF_d {f g : Nat → Int} {M : Nat} (h : 1000000000 < mxF (fun j => f j * g j) M) (j : Nat) : stepF f g M j = f j * g j / 1000 := by
  unfold stepF
  rw [if_pos h]
theorem stepF_k {f g : Nat → Int} {M : Nat} (h : ¬ 1000000000 < mxF (fun j => f j * g j) M) (j : Nat) : stepF f g M j = f j * g j := by
  unfold stepF
  rw [if_neg h]
theorem K_shrinkW {d : Nat} (hd : 1 ≤ d) (M : Nat) (hM9 : M ≤ 12) (w : qW) (hI : yInv zgf zga zra zSp w) (hM4 : w 45 0 = (M : Int)) (u : Nat → Int) (hu : ∀ j, j < M → 0 ≤ u j ∧ u j ≤ 891000000000) (hw : ∀ j, w 56 j = u j) : qG none d 69 0 [(2, 45), (9, 0), (9, 0), (9, 0)] [] w 142 (fun (r : qV) (w1 : qW) (n1 : Nat) => r = (9, 0) ∧ n1 = 142 ∧ AW [56] w w1 ∧ ((1000000000 < mxF u M ∧ ∀ j, j < M → w1 56 j = u j / 1000) ∨ (¬ 1000000000 < mxF u M ∧ ∀ j, j < M → w1 56 j = u j))) := by
  generalize hQ9 : (fun (r : qV) (w1 : qW) (n1 : Nat) => r = (9, 0) ∧ n1 = 142 ∧ AW [56] w w1 ∧ ((1000000000 < mxF u M ∧ ∀ j, j < M → w1 56 j = u j / 1000) ∨ (¬ 1000000000 < mxF u M ∧ ∀ j, j < M → w1 56 j = u j))) = Q9
  obtain ⟨d, rfl⟩ : ∃ d9, d = d9 + 1 := ⟨d - 1, by omega⟩
  refine qG.blk 4 (pc' := 4) (ls' := [(2, 45), (1, 0), (9, 0), (0, 0)]) (st' := []) (w' := w) (n' := 142) rfl ?_
  have L4 : ∀ (m9 : Nat) (k : Nat), M - k = m9 → (k ≤ M) → qG none (d + 1) 69 4 [(2, 45), (1, mxF u k), (9, 0), (0, ((k : Nat) : Int))] [] w 142 Q9 := by
    intro m9
    induction m9 using Nat.strongRecOn with
    | ind m9 ih4 =>
    intro k hm4 hI4
    refine qG.blk 3 (pc' := 9) (ls' := [(2, 45), (1, mxF u k), (9, 0), (0, ((k : Nat) : Int))]) (st' := [(0, w 45 0), (0, ((k : Nat) : Int))]) (w' := w) (n' := 142) rfl ?_
    rw [show w 45 0 = ((M : Nat) : Int) from hM4]
    refine qG.br (P := ((k : Nat) : Int) < ((M : Nat) : Int)) (pc1 := 12) (pc2 := 35) (st1 := []) rfl (fun hkM => ?_) (fun hkM => ?_)
    · skip
      refine qG.blk 2 (pc' := 15) (ls' := [(2, 45), (1, mxF u k), (9, 0), (0, ((k : Nat) : Int))]) (st' := [(0, 12), (0, ((k : Nat) : Int))]) (w' := w) (n' := 142) rfl ?_
      refine qG.br (P := ((k : Nat) : Int) < 12) (pc1 := 18) (pc2 := 35) (st1 := []) rfl (fun hk12 => ?_) (fun hk12 => ?_)
      · skip
        refine qG.blk 3 (pc' := 23) (ls' := [(2, 45), (1, mxF u k), (9, 0), (0, ((k : Nat) : Int))]) (st' := [(2, w 45 13), (1, mxF u k)]) (w' := w) (n' := 142) rfl ?_
        rw [show w 45 13 = 56 from zref hI rfl rfl]
        refine qG.blk 1 (pc' := 24) (ls' := [(2, 45), (1, mxF u k), (9, 0), (0, ((k : Nat) : Int))]) (st' := [(0, ((k : Nat) : Int)), (2, 56), (1, mxF u k)]) (w' := w) (n' := 142) rfl ?_
        refine qG.ar (P := 0 ≤ ((k : Nat) : Int) ∧ ((k : Nat) : Int) < ((12 : Nat) : Int)) (P2 := 0 < (56 : Int) ∧ (56 : Int) ≤ ((142 : Nat) : Int)) (pc' := 25) (ls' := [(2, 45), (1, mxF u k), (9, 0), (0, ((k : Nat) : Int))]) (st' := [(1, w 56 k), (1, mxF u k)]) (w' := w) (n' := 142) rfl (by omega) (by decide) ?_
        rw [show w 56 k = u k from hw k]
        refine qG.mth rfl rfl rfl rfl (pc' := 28) (ls' := [(2, 45), (1, mxF u k), (9, 0), (0, ((k : Nat) : Int))]) (st' := [(1, (if u k < mxF u k then mxF u k else u k))]) (w' := w) (n' := 142) rfl ?_
        rw [show (if u k < mxF u k then mxF u k else u k) = mxF u (k + 1) from by show (if u k < mxF u k then mxF u k else u k) = (if mxF u k < u k then u k else mxF u k); (repeat' split) <;> omega]
        refine qG.blk 2 (pc' := 32) (ls' := [(2, 45), (1, mxF u (k + 1)), (9, 0), (0, wrp (((k : Nat) : Int) + 1))]) (st' := []) (w' := w) (n' := 142) rfl ?_
        rw [show wrp (((k : Nat) : Int) + 1) = ((k + 1 : Nat) : Int) from wrp_id (by omega) (by omega)]
        refine qG.blk 1 (pc' := 4) (ls' := [(2, 45), (1, mxF u (k + 1)), (9, 0), (0, ((k + 1 : Nat) : Int))]) (st' := []) (w' := w) (n' := 142) rfl ?_
        exact ih4 _ (by omega) (k + 1) rfl (by omega)
      · exfalso; omega
    · skip
      have hek : k = M := by omega
      rw [hek]
      refine qG.blk 2 (pc' := 37) (ls' := [(2, 45), (1, mxF u M), (9, 0), (0, 0)]) (st' := []) (w' := w) (n' := 142) rfl ?_
      have L37 : ∀ (m9 : Nat) (k : Nat) (w9 : qW), M - k = m9 → (k ≤ M ∧ PV 56 w w9 k (fun j => u j / 1000) u ∧ (0 < k → 1000000000 < mxF u M)) → qG none (d + 1) 69 37 [(2, 45), (1, mxF u M), (9, 0), (0, ((k : Nat) : Int))] [] w9 142 Q9 := by
        intro m9
        induction m9 using Nat.strongRecOn with
        | ind m9 ih37 =>
        intro k w9 hm37 hI37
        refine qG.blk 3 (pc' := 42) (ls' := [(2, 45), (1, mxF u M), (9, 0), (0, ((k : Nat) : Int))]) (st' := [(0, w9 45 0), (0, ((k : Nat) : Int))]) (w' := w9) (n' := 142) rfl ?_
        rw [show w9 45 0 = ((M : Nat) : Int) from (hI37.2.1.1.2 45 0 (fun _ => rfl)).trans hM4]
        refine qG.br (P := ((k : Nat) : Int) < ((M : Nat) : Int)) (pc1 := 45) (pc2 := 77) (st1 := []) rfl (fun hkN => ?_) (fun hkN => ?_)
        · skip
          refine qG.blk 2 (pc' := 48) (ls' := [(2, 45), (1, mxF u M), (9, 0), (0, ((k : Nat) : Int))]) (st' := [(0, 12), (0, ((k : Nat) : Int))]) (w' := w9) (n' := 142) rfl ?_
          refine qG.br (P := ((k : Nat) : Int) < 12) (pc1 := 51) (pc2 := 77) (st1 := []) rfl (fun hk13 => ?_) (fun hk13 => ?_)
          · skip
            refine qG.blk 3 (pc' := 56) (ls' := [(2, 45), (1, mxF u M), (9, 0), (0, ((k : Nat) : Int))]) (st' := [(0, qcmp (mxF u M) 1000000000)]) (w' := w9) (n' := 142) rfl ?_
            refine qG.br (P := 0 < qcmp (mxF u M) 1000000000) (pc1 := 59) (pc2 := 77) (st1 := []) rfl (fun hmx => ?_) (fun hmx => ?_)
            · skip
              rw [qcmp_p] at hmx
              refine qG.blk 2 (pc' := 63) (ls' := [(2, 45), (1, mxF u M), (9, 0), (0, ((k : Nat) : Int))]) (st' := [(2, w9 45 13)]) (w' := w9) (n' := 142) rfl ?_
              rw [show w9 45 13 = 56 from zref hI37.2.1.1.1 rfl rfl]
              refine qG.blk 2 (pc' := 65) (ls' := [(2, 45), (1, mxF u M), (9, 0), (0, ((k : Nat) : Int))]) (st' := [(0, ((k : Nat) : Int)), (2, 56), (0, ((k : Nat) : Int)), (2, 56)]) (w' := w9) (n' := 142) rfl ?_
              refine qG.ar (P := 0 ≤ ((k : Nat) : Int) ∧ ((k : Nat) : Int) < ((12 : Nat) : Int)) (P2 := 0 < (56 : Int) ∧ (56 : Int) ≤ ((142 : Nat) : Int)) (pc' := 66) (ls' := [(2, 45), (1, mxF u M), (9, 0), (0, ((k : Nat) : Int))]) (st' := [(1, w9 56 k), (0, ((k : Nat) : Int)), (2, 56)]) (w' := w9) (n' := 142) rfl (by omega) (by decide) ?_
              rw [show w9 56 k = u k from hI37.2.1.2.2 k (Nat.le_refl k)]
              refine qG.blk 1 (pc' := 69) (ls' := [(2, 45), (1, mxF u M), (9, 0), (0, ((k : Nat) : Int))]) (st' := [(1, 1000), (1, u k), (0, ((k : Nat) : Int)), (2, 56)]) (w' := w9) (n' := 142) rfl ?_
              refine qG.gn (P := 1000 = 0) (pc' := 70) (ls' := [(2, 45), (1, mxF u M), (9, 0), (0, ((k : Nat) : Int))]) (st' := [(1, qldiv (u k) 1000), (0, ((k : Nat) : Int)), (2, 56)]) (w' := w9) (n' := 142) rfl (by decide) ?_
              rw [show qldiv (u k) 1000 = u k / 1000 from qldiv_k (hu k (by omega)).1 (hu k (by omega)).2]
              refine qG.ar (P := 0 ≤ ((k : Nat) : Int) ∧ ((k : Nat) : Int) < ((12 : Nat) : Int)) (P2 := 0 < (56 : Int) ∧ (56 : Int) ≤ ((142 : Nat) : Int)) (pc' := 71) (ls' := [(2, 45), (1, mxF u M), (9, 0), (0, ((k : Nat) : Int))]) (st' := []) (w' := (qup w9 56 k (u k / 1000))) (n' := 142) rfl (by omega) (by decide) ?_
              refine qG.blk 1 (pc' := 74) (ls' := [(2, 45), (1, mxF u M), (9, 0), (0, wrp (((k : Nat) : Int) + 1))]) (st' := []) (w' := (qup w9 56 k (u k / 1000))) (n' := 142) rfl ?_
              rw [show wrp (((k : Nat) : Int) + 1) = ((k + 1 : Nat) : Int) from wrp_id (by omega) (by omega)]
              refine qG.blk 1 (pc' := 37) (ls' := [(2, 45), (1, mxF u M), (9, 0), (0, ((k + 1 : Nat) : Int))]) (st' := []) (w' := (qup w9 56 k (u k / 1000))) (n' := 142) rfl ?_
              exact ih37 _ (by omega) (k + 1) ((qup w9 56 k (u k / 1000))) rfl (⟨by omega, PV.up (.inl rfl) hI37.2.1 rfl (by have q := hu k (by omega); omega) (by have q := hu k (by omega); omega), fun _ => hmx⟩)
            · skip
              rw [qcmp_p] at hmx
              refine qG.retv rfl rfl ?_
              subst hQ9
              refine ⟨rfl, rfl, hI37.2.1.1, ?_⟩; first | exact .inr ⟨hmx, fun j hj => (by by_cases z : 0 < k; exact absurd (hI37.2.2 z) hmx; exact (hI37.2.1.2.2 j (by omega)))⟩ | (by_cases z : 1000000000 < mxF u M; exact .inl ⟨z, fun j hj => hI37.2.1.2.1 j (by omega)⟩; refine .inr ⟨z, fun j hj => ?_⟩; by_cases z2 : 0 < k; exact absurd (hI37.2.2 z2) z; exact hI37.2.1.2.2 j (by omega))
          · exfalso; omega
        · skip
          refine qG.retv rfl rfl ?_
          subst hQ9
          refine ⟨rfl, rfl, hI37.2.1.1, ?_⟩; first | exact .inr ⟨hmx, fun j hj => (by by_cases z : 0 < k; exact absurd (hI37.2.2 z) hmx; exact (hI37.2.1.2.2 j (by omega)))⟩ | (by_cases z : 1000000000 < mxF u M; exact .inl ⟨z, fun j hj => hI37.2.1.2.1 j (by omega)⟩; refine .inr ⟨z, fun j hj => ?_⟩; by_cases z2 : 0 < k; exact absurd (hI37.2.2 z2) z; exact hI37.2.1.2.2 j (by omega))
      exact L37 _ (0) (w) rfl (⟨by omega, ⟨AW.rf hI, fun j hj => absurd hj (Nat.not_lt_zero j), fun j _ => hw j⟩, fun z => absurd z (Nat.lt_irrefl 0)⟩)
  exact L4 _ (0) rfl (by omega)
theorem K_guessRun {d : Nat} (hd : 4 ≤ d) (a b m : Int) (M N : Nat) (w : qW) (hI : yInv zgf zga zra zSp w) (hJ : JQ w) (hM : w 95 55 = (M : Int)) (hN : w 95 57 = (N : Int))  : qG none d 66 0 [(2, 45), (0, a), (0, b), (0, m), (9, 0)] [] w 142 (fun (r : qV) (_ : qW) (n1 : Nat) => r = (0, allV w a b m) ∧ n1 = 142) := by
  generalize hQ9 : (fun (r : qV) (_ : qW) (n1 : Nat) => r = (0, allV w a b m) ∧ n1 = 142) = Q9
  have h55 := zfld hI (j := 55) (b := (0, 12)) rfl
  have a55 : (0 : Int) ≤ w 95 55 := h55.1
  have b55 : w 95 55 ≤ (12 : Int) := h55.2
  have h57 := zfld hI (j := 57) (b := (0, 60)) rfl
  have b57 : w 95 57 ≤ (60 : Int) := h57.2
  have j45 := hJ.1.1.1
  have j457 := hJ.1.1.2.1
  have hR := rgN_of hI
  obtain ⟨d, rfl⟩ : ∃ d9, d = d9 + 1 := ⟨d - 1, by omega⟩
  refine qG.blk 2 (pc' := 2) (ls' := [(2, 45), (0, a), (0, b), (0, m), (9, 0)]) (st' := [(0, a), (2, 45)]) (w' := w) (n' := 142) rfl ?_
  refine qG.call (t := 60) (na := 2) (sk := 1) (md := 1) (ls1 := [(2, 45), (0, a)]) (r1 := []) rfl rfl rfl rfl rfl (K_X4_isNight (Nat.zero_le _) a w hI) ?_
  rintro _ w7 _ ⟨rfl, hw7, rfl⟩
  rw [hw7]
  show qG none (d + 1) 66 5 [(2, 45), (0, a), (0, b), (0, m), (9, 0)] [(0, isInV a 0 (w 45 7 - 1))] w 142 Q9
  refine qG.br (P := isInV a 0 (w 45 7 - 1) = 0) (pc1 := 29) (pc2 := 8) (st1 := []) rfl (fun h1 => ?_) (fun h1 => ?_)
  · skip
    rw [isIn_b] at h1
    refine qG.blk 1 (pc' := 30) (ls' := [(2, 45), (0, a), (0, b), (0, m), (9, 0)]) (st' := [(0, (-1))]) (w' := w) (n' := 142) rfl ?_
    refine qG.ret rfl rfl ?_
    subst hQ9
    exact ⟨congrArg (Prod.mk (0 : Nat)) (by first | exact (allV_n (by omega)).symm | (unfold allV; rw [if_pos (by omega), hM, Int.toNat_natCast, Int.toNat_natCast, Int.toNat_natCast, show (((b9 : Nat) : Int) + 1 - ((a9 : Nat) : Int)).toNat = n - a9 by omega]; done)), rfl⟩
  · skip
    rw [isIn_p] at h1
    obtain ⟨a9, rfl⟩ : ∃ q : Nat, a = (q : Int) := ⟨a.toNat, by omega⟩
    refine qG.blk 2 (pc' := 10) (ls' := [(2, 45), (0, ((a9 : Nat) : Int)), (0, b), (0, m), (9, 0)]) (st' := [(0, b), (2, 45)]) (w' := w) (n' := 142) rfl ?_
    refine qG.call (t := 60) (na := 2) (sk := 1) (md := 1) (ls1 := [(2, 45), (0, b)]) (r1 := []) rfl rfl rfl rfl rfl (K_X4_isNight (Nat.zero_le _) b w hI) ?_
    rintro _ w7 _ ⟨rfl, hw7, rfl⟩
    rw [hw7]
    show qG none (d + 1) 66 13 [(2, 45), (0, ((a9 : Nat) : Int)), (0, b), (0, m), (9, 0)] [(0, isInV b 0 (w 45 7 - 1))] w 142 Q9
    refine qG.br (P := isInV b 0 (w 45 7 - 1) = 0) (pc1 := 29) (pc2 := 16) (st1 := []) rfl (fun h2 => ?_) (fun h2 => ?_)
    · skip
      rw [isIn_b] at h2
      refine qG.blk 1 (pc' := 30) (ls' := [(2, 45), (0, ((a9 : Nat) : Int)), (0, b), (0, m), (9, 0)]) (st' := [(0, (-1))]) (w' := w) (n' := 142) rfl ?_
      refine qG.ret rfl rfl ?_
      subst hQ9
      exact ⟨congrArg (Prod.mk (0 : Nat)) (by first | exact (allV_n (by omega)).symm | (unfold allV; rw [if_pos (by omega), hM, Int.toNat_natCast, Int.toNat_natCast, Int.toNat_natCast, show (((b9 : Nat) : Int) + 1 - ((a9 : Nat) : Int)).toNat = n - a9 by omega]; done)), rfl⟩
    · skip
      rw [isIn_p] at h2
      obtain ⟨b9, rfl⟩ : ∃ q : Nat, b = (q : Int) := ⟨b.toNat, by omega⟩
      refine qG.blk 2 (pc' := 18) (ls' := [(2, 45), (0, ((a9 : Nat) : Int)), (0, ((b9 : Nat) : Int)), (0, m), (9, 0)]) (st' := [(0, ((b9 : Nat) : Int)), (0, ((a9 : Nat) : Int))]) (w' := w) (n' := 142) rfl ?_
      refine qG.br (P := ((b9 : Nat) : Int) < ((a9 : Nat) : Int)) (pc1 := 29) (pc2 := 21) (st1 := []) rfl (fun h3 => ?_) (fun h3 => ?_)
      · skip
        refine qG.blk 1 (pc' := 30) (ls' := [(2, 45), (0, ((a9 : Nat) : Int)), (0, ((b9 : Nat) : Int)), (0, m), (9, 0)]) (st' := [(0, (-1))]) (w' := w) (n' := 142) rfl ?_
        refine qG.ret rfl rfl ?_
        subst hQ9
        exact ⟨congrArg (Prod.mk (0 : Nat)) (by first | exact (allV_n (by omega)).symm | (unfold allV; rw [if_pos (by omega), hM, Int.toNat_natCast, Int.toNat_natCast, Int.toNat_natCast, show (((b9 : Nat) : Int) + 1 - ((a9 : Nat) : Int)).toNat = n - a9 by omega]; done)), rfl⟩
      · skip
        refine qG.blk 2 (pc' := 23) (ls' := [(2, 45), (0, ((a9 : Nat) : Int)), (0, ((b9 : Nat) : Int)), (0, m), (9, 0)]) (st' := [(0, m), (2, 45)]) (w' := w) (n' := 142) rfl ?_
        refine qG.call (t := 59) (na := 2) (sk := 1) (md := 1) (ls1 := [(2, 45), (0, m)]) (r1 := []) rfl rfl rfl rfl rfl (K_X4_isMaster (Nat.zero_le _) m w hI) ?_
        rintro _ w7 _ ⟨rfl, hw7, rfl⟩
        rw [hw7]
        show qG none (d + 1) 66 26 [(2, 45), (0, ((a9 : Nat) : Int)), (0, ((b9 : Nat) : Int)), (0, m), (9, 0)] [(0, isInV m 0 (w 45 0 - 1))] w 142 Q9
        refine qG.br (P := isInV m 0 (w 45 0 - 1) = 0) (pc1 := 29) (pc2 := 31) (st1 := []) rfl (fun h4 => ?_) (fun h4 => ?_)
        · skip
          rw [isIn_b] at h4
          refine qG.blk 1 (pc' := 30) (ls' := [(2, 45), (0, ((a9 : Nat) : Int)), (0, ((b9 : Nat) : Int)), (0, m), (9, 0)]) (st' := [(0, (-1))]) (w' := w) (n' := 142) rfl ?_
          refine qG.ret rfl rfl ?_
          subst hQ9
          exact ⟨congrArg (Prod.mk (0 : Nat)) (by first | exact (allV_n (by omega)).symm | (unfold allV; rw [if_pos (by omega), hM, Int.toNat_natCast, Int.toNat_natCast, Int.toNat_natCast, show (((b9 : Nat) : Int) + 1 - ((a9 : Nat) : Int)).toNat = n - a9 by omega]; done)), rfl⟩
        · skip
          rw [isIn_p] at h4
          obtain ⟨g9, rfl⟩ : ∃ q : Nat, m = (q : Int) := ⟨m.toNat, by omega⟩
          refine qG.blk 1 (pc' := 32) (ls' := [(2, 45), (0, ((a9 : Nat) : Int)), (0, ((b9 : Nat) : Int)), (0, ((g9 : Nat) : Int)), (9, 0)]) (st' := [(2, 45)]) (w' := w) (n' := 142) rfl ?_
          refine qG.call (t := 67) (na := 1) (sk := 1) (md := 1) (ls1 := [(2, 45), (9, 0)]) (r1 := []) rfl rfl rfl rfl rfl (K_startW (by omega) w hI) ?_
          rintro _ w1 _ ⟨rfl, rfl, hA1, hS1⟩
          show qG none (d + 1) 66 35 [(2, 45), (0, ((a9 : Nat) : Int)), (0, ((b9 : Nat) : Int)), (0, ((g9 : Nat) : Int)), (9, 0)] [] w1 142 Q9
          refine qG.blk 2 (pc' := 38) (ls' := [(2, 45), (0, ((a9 : Nat) : Int)), (0, ((b9 : Nat) : Int)), (0, ((g9 : Nat) : Int)), (0, ((a9 : Nat) : Int))]) (st' := []) (w' := w1) (n' := 142) rfl ?_
          have L38 : ∀ (m9 : Nat) (n : Nat) (w8 : qW), b9 + 1 - n = m9 → ((a9 ≤ n ∧ n ≤ b9 + 1) ∧ n ≤ 60 ∧ AW [56] w w8 ∧ ∀ j, j < M → w8 56 j = prF w a9 M (n - a9) j) → qG none (d + 1) 66 38 [(2, 45), (0, ((a9 : Nat) : Int)), (0, ((b9 : Nat) : Int)), (0, ((g9 : Nat) : Int)), (0, ((n : Nat) : Int))] [] w8 142 Q9 := by
            intro m9
            induction m9 using Nat.strongRecOn with
            | ind m9 ih38 =>
            intro n w8 hm38 hI38
            refine qG.blk 2 (pc' := 41) (ls' := [(2, 45), (0, ((a9 : Nat) : Int)), (0, ((b9 : Nat) : Int)), (0, ((g9 : Nat) : Int)), (0, ((n : Nat) : Int))]) (st' := [(0, ((b9 : Nat) : Int)), (0, ((n : Nat) : Int))]) (w' := w8) (n' := 142) rfl ?_
            refine qG.br (P := ((b9 : Nat) : Int) < ((n : Nat) : Int)) (pc1 := 60) (pc2 := 44) (st1 := []) rfl (fun h5 => ?_) (fun h5 => ?_)
            · skip
              refine qG.blk 2 (pc' := 62) (ls' := [(2, 45), (0, ((a9 : Nat) : Int)), (0, ((b9 : Nat) : Int)), (0, ((g9 : Nat) : Int)), (0, ((n : Nat) : Int))]) (st' := [(0, ((g9 : Nat) : Int)), (2, 45)]) (w' := w8) (n' := 142) rfl ?_
              have hM8 : w8 45 0 = (M : Int) := (hI38.2.2.1.2 45 0 (fun _ => rfl)).trans (hJ.1.1.1.trans hM)
              have hen : n = b9 + 1 := by omega
              refine qG.call (t := 70) (na := 2) (sk := 1) (md := 1) (ls1 := [(2, 45), (0, ((g9 : Nat) : Int)), (9, 0), (9, 0), (9, 0)]) (r1 := []) rfl rfl rfl rfl rfl (K_oddsOf (by omega) g9 M (by omega) (by omega) w8 hI38.2.2.1.1 hM8 (prF w a9 M (n - a9)) (prF_in hR a9 M (n - a9)) hI38.2.2.2) ?_
              rintro _ w7 _ ⟨rfl, hw7, rfl⟩
              rw [hw7]
              show qG none (d + 1) 66 65 [(2, 45), (0, ((a9 : Nat) : Int)), (0, ((b9 : Nat) : Int)), (0, ((g9 : Nat) : Int)), (0, ((n : Nat) : Int))] [(0, odV (prF w a9 M (n - a9)) M g9)] w8 142 Q9
              refine qG.ret rfl rfl ?_
              subst hQ9
              exact ⟨congrArg (Prod.mk (0 : Nat)) (by first | exact (allV_n (by omega)).symm | (unfold allV; rw [if_pos (by omega), hM, Int.toNat_natCast, Int.toNat_natCast, Int.toNat_natCast, show (((b9 : Nat) : Int) + 1 - ((a9 : Nat) : Int)).toNat = n - a9 by omega]; done)), rfl⟩
            · skip
              refine qG.blk 2 (pc' := 47) (ls' := [(2, 45), (0, ((a9 : Nat) : Int)), (0, ((b9 : Nat) : Int)), (0, ((g9 : Nat) : Int)), (0, ((n : Nat) : Int))]) (st' := [(0, ((n : Nat) : Int)), (2, 45)]) (w' := w8) (n' := 142) rfl ?_
              have hJ8 := hJ.aw hI38.2.2.1 (by decide +kernel)
              have hM8 := (hI38.2.2.1.2 95 55 (fun _ => rfl)).trans hM
              have hN8 := (hI38.2.2.1.2 95 57 (fun _ => rfl)).trans hN
              refine qG.call (t := 68) (na := 2) (sk := 1) (md := 1) (ls1 := [(2, 45), (0, ((n : Nat) : Int)), (9, 0)]) (r1 := []) rfl rfl rfl rfl rfl (K_mulW (by omega) n M N w8 hI38.2.2.1.1 hJ8 hM8 hN8 (by omega) (w8 56) (fun j hj => by rw [hI38.2.2.2 j hj]; exact prF_in hR a9 M (n - a9) j hj) (fun _ => rfl)) ?_
              rintro _ w2 _ ⟨rfl, rfl, hA2, hS2⟩
              have hu : ∀ j, j < M → w2 56 j = prF w a9 M (n - a9) j * wgV w n j := fun j hj => by rw [hS2 j hj, hI38.2.2.2 j hj]; rw [wg_aw (.inl rfl) hI38.2.2.1 n j]
              have hub : ∀ j, j < M → 0 ≤ w2 56 j ∧ w2 56 j ≤ 891000000000 := fun j hj => by rw [hu j hj]; have q1 := prF_in hR a9 M (n - a9) j hj; have q2 := wgV_in hR n j; exact mul_b q1.1 q1.2 q2.1 q2.2
              have hA28 := AW.pp (.inl rfl) hI38.2.2.1 hA2
              have hM2 : w2 45 0 = (M : Int) := (hA28.2 45 0 (fun _ => rfl)).trans (hJ.1.1.1.trans hM)
              show qG none (d + 1) 66 50 [(2, 45), (0, ((a9 : Nat) : Int)), (0, ((b9 : Nat) : Int)), (0, ((g9 : Nat) : Int)), (0, ((n : Nat) : Int))] [] w2 142 Q9
              refine qG.blk 1 (pc' := 51) (ls' := [(2, 45), (0, ((a9 : Nat) : Int)), (0, ((b9 : Nat) : Int)), (0, ((g9 : Nat) : Int)), (0, ((n : Nat) : Int))]) (st' := [(2, 45)]) (w' := w2) (n' := 142) rfl ?_
              refine qG.call (t := 69) (na := 1) (sk := 1) (md := 1) (ls1 := [(2, 45), (9, 0), (9, 0), (9, 0)]) (r1 := []) rfl rfl rfl rfl rfl (K_shrinkW (by omega) M (by omega) w2 hA2.1 hM2 (w2 56) hub (fun _ => rfl)) ?_
              rintro _ w3 _ ⟨rfl, rfl, hA3, hS3⟩
              have hA38 := AW.pp (.inl rfl) hA28 hA3
              have hmc : mxF (w2 56) M = mxF (fun j => prF w a9 M (n - a9) j * wgV w n j) M := mxF_cg M hu
              have hst : ∀ j, j < M → w3 56 j = prF w a9 M (n + 1 - a9) j := fun j hj => (by rw [show n + 1 - a9 = (n - a9) + 1 by omega]; show w3 56 j = stepF (prF w a9 M (n - a9)) (fun j => wgV w (a9 + (n - a9)) j) M j; rw [show a9 + (n - a9) = n by omega]; rcases hS3 with ⟨z, z2⟩ | ⟨z, z2⟩; (rw [hmc] at z; rw [z2 j hj, hu j hj, stepF_d z]); (rw [hmc] at z; rw [z2 j hj, hu j hj, stepF_k z]))
              show qG none (d + 1) 66 54 [(2, 45), (0, ((a9 : Nat) : Int)), (0, ((b9 : Nat) : Int)), (0, ((g9 : Nat) : Int)), (0, ((n : Nat) : Int))] [] w3 142 Q9
              refine qG.blk 1 (pc' := 57) (ls' := [(2, 45), (0, ((a9 : Nat) : Int)), (0, ((b9 : Nat) : Int)), (0, ((g9 : Nat) : Int)), (0, wrp (((n : Nat) : Int) + 1))]) (st' := []) (w' := w3) (n' := 142) rfl ?_
              rw [show wrp (((n : Nat) : Int) + 1) = ((n + 1 : Nat) : Int) from wrp_id (by omega) (by omega)]
              refine qG.blk 1 (pc' := 38) (ls' := [(2, 45), (0, ((a9 : Nat) : Int)), (0, ((b9 : Nat) : Int)), (0, ((g9 : Nat) : Int)), (0, ((n + 1 : Nat) : Int))]) (st' := []) (w' := w3) (n' := 142) rfl ?_
              exact ih38 _ (by omega) (n + 1) (w3) rfl (⟨⟨by omega, by omega⟩, by omega, hA38, hst⟩)
          exact L38 _ (a9) (w1) rfl (⟨⟨by omega, by omega⟩, by omega, hA1, fun j hj => by rw [hS1 j (by omega), Nat.sub_self]; rfl⟩)
theorem K_X11_all {d : Nat} (hd : 5 ≤ d) (a b m : Int) (M N : Nat) (w : qW) (hI : yInv zgf zga zra zSp w) (hJ : JQ w) (hM : w 95 55 = (M : Int)) (hN : w 95 57 = (N : Int))  : qG none d 190 0 [(2, 1), (0, a), (0, b), (0, m)] [] w 142 (fun (r : qV) (_ : qW) (_ : Nat) => r = (0, allV w a b m)) := by
  generalize hQ9 : (fun (r : qV) (_ : qW) (_ : Nat) => r = (0, allV w a b m)) = Q9
  obtain ⟨d, rfl⟩ : ∃ d9, d = d9 + 1 := ⟨d - 1, by omega⟩
  refine qG.blk 2 (pc' := 4) (ls' := [(2, 1), (0, a), (0, b), (0, m)]) (st' := [(2, w 1 7)]) (w' := w) (n' := 142) rfl ?_
  rw [show w 1 7 = 45 from zref hI rfl rfl]
  refine qG.blk 3 (pc' := 7) (ls' := [(2, 1), (0, a), (0, b), (0, m)]) (st' := [(0, m), (0, b), (0, a), (2, 45)]) (w' := w) (n' := 142) rfl ?_
  refine qG.call (t := 66) (na := 4) (sk := 1) (md := 1) (ls1 := [(2, 45), (0, a), (0, b), (0, m), (9, 0)]) (r1 := []) rfl rfl rfl rfl rfl (K_guessRun (by omega) a b m M N w hI hJ hM hN) ?_
  rintro _ w8 _ ⟨rfl, rfl⟩
  show qG none (d + 1) 190 10 [(2, 1), (0, a), (0, b), (0, m)] [(0, allV w a b m)] w8 142 Q9
  refine qG.ret rfl rfl ?_
  subst hQ9
  exact rfl
theorem mx_1 {f : Nat → Int} {k : Nat} (h : 1000000000 < mxF f k) : 1000000000 < mxF f (k + 1) := by
  show 1000000000 < (if mxF f k < f k then f k else mxF f k)
  split <;> omega
theorem mx_2 {f : Nat → Int} {k : Nat} (h : 1000000000 < f k) : 1000000000 < mxF f (k + 1) := by
  show 1000000000 < (if mxF f k < f k then f k else mxF f k)
  split <;> omega
theorem mx_3 {f : Nat → Int} {k : Nat} (h : ¬ 1000000000 < mxF f k) (h2 : ¬ 1000000000 < f k) : ¬ 1000000000 < mxF f (k + 1) := by
  show ¬ 1000000000 < (if mxF f k < f k then f k else mxF f k)
  split <;> omega
theorem pr_s {w : qW} {a M n : Nat} (hn : a ≤ n) (j : Nat) : prF w a M (n + 1 - a) j = stepF (prF w a M (n - a)) (fun j => wgV w n j) M j := by
  rw [show n + 1 - a = (n - a) + 1 by omega]
  show stepF (prF w a M (n - a)) (fun j => wgV w (a + (n - a)) j) M j = _
  rw [show a + (n - a) = n by omega]
theorem K_X12_all9 {d : Nat} (hd : 4 ≤ d) (a b m : Int) (M N : Nat) (w : qW) (hI : yInv zgf zga zra zSp w) (hM : w 95 55 = (M : Int)) (hN : w 95 57 = (N : Int))  : qG none d 287 0 [(2, 95), (0, a), (0, b), (0, m), (9, 0), (9, 0), (9, 0)] [] w 142 (fun (r : qV) (_ : qW) (_ : Nat) => r = (0, allV w a b m)) := by
  generalize hQ9 : (fun (r : qV) (_ : qW) (_ : Nat) => r = (0, allV w a b m)) = Q9
  have h55 := zfld hI (j := 55) (b := (0, 12)) rfl
  have a55 : (0 : Int) ≤ w 95 55 := h55.1
  have b55 : w 95 55 ≤ (12 : Int) := h55.2
  have h57 := zfld hI (j := 57) (b := (0, 60)) rfl
  have b57 : w 95 57 ≤ (60 : Int) := h57.2
  have hR := rgN_of hI
  have a57 : (0 : Int) ≤ w 95 57 := h57.1
  obtain ⟨d, rfl⟩ : ∃ d9, d = d9 + 1 := ⟨d - 1, by omega⟩
  refine qG.blk 6 (pc' := 8) (ls' := [(2, 95), (0, a), (0, b), (0, m), (9, 0), (9, 0), (9, 0)]) (st' := [(0, wrp ((w 95 57) - 1)), (0, 0), (0, a)]) (w' := w) (n' := 142) rfl ?_
  rw [show wrp ((w 95 57) - 1) = w 95 57 - 1 from wrp_id (by omega) (by omega)]
  refine qG.call (t := 206) (na := 3) (sk := 0) (md := 0) (ls1 := [(0, a), (0, 0), (0, w 95 57 - 1)]) (r1 := []) rfl rfl rfl rfl rfl (K_isIn (Nat.zero_le _) _ _ _ _) ?_
  rintro _ w7 _ ⟨rfl, hw7, rfl⟩
  rw [hw7]
  show qG none (d + 1) 287 11 [(2, 95), (0, a), (0, b), (0, m), (9, 0), (9, 0), (9, 0)] [(0, isInV a 0 (w 95 57 - 1))] w 142 Q9
  refine qG.br (P := isInV a 0 (w 95 57 - 1) = 0) (pc1 := 36) (pc2 := 14) (st1 := []) rfl (fun h1 => ?_) (fun h1 => ?_)
  · skip
    rw [isIn_b] at h1
    refine qG.blk 1 (pc' := 37) (ls' := [(2, 95), (0, a), (0, b), (0, m), (9, 0), (9, 0), (9, 0)]) (st' := [(0, (-1))]) (w' := w) (n' := 142) rfl ?_
    refine qG.ret rfl rfl ?_
    subst hQ9
    exact congrArg (Prod.mk (0 : Nat)) (by first | exact (allV_n (by omega)).symm | (unfold allV odV; rw [if_pos (by omega), hM, Int.toNat_natCast, Int.toNat_natCast, Int.toNat_natCast, show (((b9 : Nat) : Int) + 1 - ((a9 : Nat) : Int)).toNat = n - a9 by omega]; first | (rw [if_pos hs0]; done) | (rw [if_neg hs0]; done) | (rw [if_pos hs0]; rfl) | (rw [if_neg hs0]; rfl)))
  · skip
    rw [isIn_p] at h1
    obtain ⟨a9, rfl⟩ : ∃ q : Nat, a = (q : Int) := ⟨a.toNat, by omega⟩
    refine qG.blk 6 (pc' := 22) (ls' := [(2, 95), (0, ((a9 : Nat) : Int)), (0, b), (0, m), (9, 0), (9, 0), (9, 0)]) (st' := [(0, wrp ((w 95 57) - 1)), (0, ((a9 : Nat) : Int)), (0, b)]) (w' := w) (n' := 142) rfl ?_
    rw [show wrp ((w 95 57) - 1) = w 95 57 - 1 from wrp_id (by omega) (by omega)]
    refine qG.call (t := 206) (na := 3) (sk := 0) (md := 0) (ls1 := [(0, b), (0, ((a9 : Nat) : Int)), (0, w 95 57 - 1)]) (r1 := []) rfl rfl rfl rfl rfl (K_isIn (Nat.zero_le _) _ _ _ _) ?_
    rintro _ w7 _ ⟨rfl, hw7, rfl⟩
    rw [hw7]
    show qG none (d + 1) 287 25 [(2, 95), (0, ((a9 : Nat) : Int)), (0, b), (0, m), (9, 0), (9, 0), (9, 0)] [(0, isInV b ((a9 : Nat) : Int) (w 95 57 - 1))] w 142 Q9
    refine qG.br (P := isInV b ((a9 : Nat) : Int) (w 95 57 - 1) = 0) (pc1 := 36) (pc2 := 28) (st1 := []) rfl (fun h2 => ?_) (fun h2 => ?_)
    · skip
      rw [isIn_b] at h2
      refine qG.blk 1 (pc' := 37) (ls' := [(2, 95), (0, ((a9 : Nat) : Int)), (0, b), (0, m), (9, 0), (9, 0), (9, 0)]) (st' := [(0, (-1))]) (w' := w) (n' := 142) rfl ?_
      refine qG.ret rfl rfl ?_
      subst hQ9
      exact congrArg (Prod.mk (0 : Nat)) (by first | exact (allV_n (by omega)).symm | (unfold allV odV; rw [if_pos (by omega), hM, Int.toNat_natCast, Int.toNat_natCast, Int.toNat_natCast, show (((b9 : Nat) : Int) + 1 - ((a9 : Nat) : Int)).toNat = n - a9 by omega]; first | (rw [if_pos hs0]; done) | (rw [if_neg hs0]; done) | (rw [if_pos hs0]; rfl) | (rw [if_neg hs0]; rfl)))
    · skip
      rw [isIn_p] at h2
      obtain ⟨b9, rfl⟩ : ∃ q : Nat, b = (q : Int) := ⟨b.toNat, by omega⟩
      refine qG.blk 2 (pc' := 30) (ls' := [(2, 95), (0, ((a9 : Nat) : Int)), (0, ((b9 : Nat) : Int)), (0, m), (9, 0), (9, 0), (9, 0)]) (st' := [(0, m), (2, 95)]) (w' := w) (n' := 142) rfl ?_
      refine qG.call (t := 279) (na := 2) (sk := 1) (md := 1) (ls1 := [(2, 95), (0, m)]) (r1 := []) rfl rfl rfl rfl rfl (K_isMaster (by omega) m w hI) ?_
      rintro _ w7 _ ⟨rfl, hw7, rfl⟩
      rw [hw7]
      show qG none (d + 1) 287 33 [(2, 95), (0, ((a9 : Nat) : Int)), (0, ((b9 : Nat) : Int)), (0, m), (9, 0), (9, 0), (9, 0)] [(0, isInV m 0 (w 95 55 - 1))] w 142 Q9
      refine qG.br (P := isInV m 0 (w 95 55 - 1) = 0) (pc1 := 36) (pc2 := 38) (st1 := []) rfl (fun h3 => ?_) (fun h3 => ?_)
      · skip
        rw [isIn_b] at h3
        refine qG.blk 1 (pc' := 37) (ls' := [(2, 95), (0, ((a9 : Nat) : Int)), (0, ((b9 : Nat) : Int)), (0, m), (9, 0), (9, 0), (9, 0)]) (st' := [(0, (-1))]) (w' := w) (n' := 142) rfl ?_
        refine qG.ret rfl rfl ?_
        subst hQ9
        exact congrArg (Prod.mk (0 : Nat)) (by first | exact (allV_n (by omega)).symm | (unfold allV odV; rw [if_pos (by omega), hM, Int.toNat_natCast, Int.toNat_natCast, Int.toNat_natCast, show (((b9 : Nat) : Int) + 1 - ((a9 : Nat) : Int)).toNat = n - a9 by omega]; first | (rw [if_pos hs0]; done) | (rw [if_neg hs0]; done) | (rw [if_pos hs0]; rfl) | (rw [if_neg hs0]; rfl)))
      · skip
        rw [isIn_p] at h3
        obtain ⟨g9, rfl⟩ : ∃ q : Nat, m = (q : Int) := ⟨m.toNat, by omega⟩
        refine qG.blk 2 (pc' := 41) (ls' := [(2, 95), (0, ((a9 : Nat) : Int)), (0, ((b9 : Nat) : Int)), (0, ((g9 : Nat) : Int)), (0, 0), (9, 0), (9, 0)]) (st' := []) (w' := w) (n' := 142) rfl ?_
        have L41 : ∀ (m9 : Nat) (k : Nat) (w9 : qW), M - k = m9 → (k ≤ M ∧ AW [137] w w9 ∧ (∀ j : Nat, j < k → w9 137 j = 1)) → qG none (d + 1) 287 41 [(2, 95), (0, ((a9 : Nat) : Int)), (0, ((b9 : Nat) : Int)), (0, ((g9 : Nat) : Int)), (0, ((k : Nat) : Int)), (9, 0), (9, 0)] [] w9 142 Q9 := by
          intro m9
          induction m9 using Nat.strongRecOn with
          | ind m9 ih41 =>
          intro k w9 hm41 hI41
          refine qG.blk 3 (pc' := 47) (ls' := [(2, 95), (0, ((a9 : Nat) : Int)), (0, ((b9 : Nat) : Int)), (0, ((g9 : Nat) : Int)), (0, ((k : Nat) : Int)), (9, 0), (9, 0)]) (st' := [(0, w9 95 55), (0, ((k : Nat) : Int))]) (w' := w9) (n' := 142) rfl ?_
          rw [show w9 95 55 = ((M : Nat) : Int) from (hI41.2.1.2 95 55 (fun _ => rfl)).trans hM]
          refine qG.br (P := ((k : Nat) : Int) < ((M : Nat) : Int)) (pc1 := 50) (pc2 := 64) (st1 := []) rfl (fun h1 => ?_) (fun h1 => ?_)
          · skip
            refine qG.blk 2 (pc' := 54) (ls' := [(2, 95), (0, ((a9 : Nat) : Int)), (0, ((b9 : Nat) : Int)), (0, ((g9 : Nat) : Int)), (0, ((k : Nat) : Int)), (9, 0), (9, 0)]) (st' := [(2, w9 95 70)]) (w' := w9) (n' := 142) rfl ?_
            rw [show w9 95 70 = 137 from zref hI41.2.1.1 rfl rfl]
            refine qG.blk 2 (pc' := 57) (ls' := [(2, 95), (0, ((a9 : Nat) : Int)), (0, ((b9 : Nat) : Int)), (0, ((g9 : Nat) : Int)), (0, ((k : Nat) : Int)), (9, 0), (9, 0)]) (st' := [(1, 1), (0, ((k : Nat) : Int)), (2, 137)]) (w' := w9) (n' := 142) rfl ?_
            refine qG.ar (P := 0 ≤ ((k : Nat) : Int) ∧ ((k : Nat) : Int) < ((12 : Nat) : Int)) (P2 := 0 < (137 : Int) ∧ (137 : Int) ≤ ((142 : Nat) : Int)) (pc' := 58) (ls' := [(2, 95), (0, ((a9 : Nat) : Int)), (0, ((b9 : Nat) : Int)), (0, ((g9 : Nat) : Int)), (0, ((k : Nat) : Int)), (9, 0), (9, 0)]) (st' := []) (w' := (qup w9 137 k 1)) (n' := 142) rfl (by omega) (by decide) ?_
            refine qG.blk 1 (pc' := 61) (ls' := [(2, 95), (0, ((a9 : Nat) : Int)), (0, ((b9 : Nat) : Int)), (0, ((g9 : Nat) : Int)), (0, wrp (((k : Nat) : Int) + 1)), (9, 0), (9, 0)]) (st' := []) (w' := (qup w9 137 k 1)) (n' := 142) rfl ?_
            rw [show wrp (((k : Nat) : Int) + 1) = ((k + 1 : Nat) : Int) from wrp_id (by omega) (by omega)]
            refine qG.blk 1 (pc' := 41) (ls' := [(2, 95), (0, ((a9 : Nat) : Int)), (0, ((b9 : Nat) : Int)), (0, ((g9 : Nat) : Int)), (0, ((k + 1 : Nat) : Int)), (9, 0), (9, 0)]) (st' := []) (w' := (qup w9 137 k 1)) (n' := 142) rfl ?_
            exact ih41 _ (by omega) (k + 1) ((qup w9 137 k 1)) rfl ((by have q := PV.up (f := fun _ => 1) (g := w9 137) (k := k) (v := 1) (.inr rfl) ⟨hI41.2.1, hI41.2.2, fun _ _ => rfl⟩ rfl (by decide) (by decide); exact ⟨by omega, q.1, q.2.1⟩))
          · skip
            refine qG.blk 2 (pc' := 67) (ls' := [(2, 95), (0, ((a9 : Nat) : Int)), (0, ((b9 : Nat) : Int)), (0, ((g9 : Nat) : Int)), (0, ((a9 : Nat) : Int)), (9, 0), (9, 0)]) (st' := []) (w' := w9) (n' := 142) rfl ?_
            have L67 : ∀ (m9 : Nat) (n : Nat) (w8 : qW) (x5 x6 : qV), b9 + 1 - n = m9 → ((a9 ≤ n ∧ n ≤ b9 + 1) ∧ AW [137] w w8 ∧ ∀ j : Nat, j < M → w8 137 j = prF w a9 M (n - a9) j) → qG none (d + 1) 287 67 [(2, 95), (0, ((a9 : Nat) : Int)), (0, ((b9 : Nat) : Int)), (0, ((g9 : Nat) : Int)), (0, ((n : Nat) : Int)), x5, x6] [] w8 142 Q9 := by
              intro m9
              induction m9 using Nat.strongRecOn with
              | ind m9 ih67 =>
              intro n w8 x5 x6 hm67 hI67
              refine qG.blk 2 (pc' := 70) (ls' := [(2, 95), (0, ((a9 : Nat) : Int)), (0, ((b9 : Nat) : Int)), (0, ((g9 : Nat) : Int)), (0, ((n : Nat) : Int)), x5, x6]) (st' := [(0, ((b9 : Nat) : Int)), (0, ((n : Nat) : Int))]) (w' := w8) (n' := 142) rfl ?_
              refine qG.br (P := ((b9 : Nat) : Int) < ((n : Nat) : Int)) (pc1 := 213) (pc2 := 73) (st1 := []) rfl (fun h67 => ?_) (fun h67 => ?_)
              · skip
                refine qG.blk 4 (pc' := 219) (ls' := [(2, 95), (0, ((a9 : Nat) : Int)), (0, ((b9 : Nat) : Int)), (0, ((g9 : Nat) : Int)), (1, 0), (9, 0), (0, 0)]) (st' := []) (w' := w8) (n' := 142) rfl ?_
                have L219 : ∀ (m9 : Nat) (k : Nat), M - k = m9 → (k ≤ M) → qG none (d + 1) 287 219 [(2, 95), (0, ((a9 : Nat) : Int)), (0, ((b9 : Nat) : Int)), (0, ((g9 : Nat) : Int)), (1, smF (prF w a9 M (n - a9)) k), (9, 0), (0, ((k : Nat) : Int))] [] w8 142 Q9 := by
                  intro m9
                  induction m9 using Nat.strongRecOn with
                  | ind m9 ih219 =>
                  intro k hm219 hI219
                  have hsk := smF_in k (fun j hj => prF_in hR a9 M (n - a9) j (by omega))
                  have hbk : (1000000000 : Int) * (k : Int) ≤ 12000000000 := by omega
                  refine qG.blk 3 (pc' := 225) (ls' := [(2, 95), (0, ((a9 : Nat) : Int)), (0, ((b9 : Nat) : Int)), (0, ((g9 : Nat) : Int)), (1, smF (prF w a9 M (n - a9)) k), (9, 0), (0, ((k : Nat) : Int))]) (st' := [(0, w8 95 55), (0, ((k : Nat) : Int))]) (w' := w8) (n' := 142) rfl ?_
                  rw [show w8 95 55 = ((M : Nat) : Int) from (hI67.2.1.2 95 55 (fun _ => rfl)).trans hM]
                  refine qG.br (P := ((k : Nat) : Int) < ((M : Nat) : Int)) (pc1 := 228) (pc2 := 246) (st1 := []) rfl (fun hkM => ?_) (fun hkM => ?_)
                  · skip
                    refine qG.blk 3 (pc' := 234) (ls' := [(2, 95), (0, ((a9 : Nat) : Int)), (0, ((b9 : Nat) : Int)), (0, ((g9 : Nat) : Int)), (1, smF (prF w a9 M (n - a9)) k), (9, 0), (0, ((k : Nat) : Int))]) (st' := [(2, w8 95 70), (1, smF (prF w a9 M (n - a9)) k)]) (w' := w8) (n' := 142) rfl ?_
                    rw [show w8 95 70 = 137 from zref hI67.2.1.1 rfl rfl]
                    refine qG.blk 1 (pc' := 236) (ls' := [(2, 95), (0, ((a9 : Nat) : Int)), (0, ((b9 : Nat) : Int)), (0, ((g9 : Nat) : Int)), (1, smF (prF w a9 M (n - a9)) k), (9, 0), (0, ((k : Nat) : Int))]) (st' := [(0, ((k : Nat) : Int)), (2, 137), (1, smF (prF w a9 M (n - a9)) k)]) (w' := w8) (n' := 142) rfl ?_
                    refine qG.ar (P := 0 ≤ ((k : Nat) : Int) ∧ ((k : Nat) : Int) < ((12 : Nat) : Int)) (P2 := 0 < (137 : Int) ∧ (137 : Int) ≤ ((142 : Nat) : Int)) (pc' := 237) (ls' := [(2, 95), (0, ((a9 : Nat) : Int)), (0, ((b9 : Nat) : Int)), (0, ((g9 : Nat) : Int)), (1, smF (prF w a9 M (n - a9)) k), (9, 0), (0, ((k : Nat) : Int))]) (st' := [(1, w8 137 k), (1, smF (prF w a9 M (n - a9)) k)]) (w' := w8) (n' := 142) rfl (by omega) (by decide) ?_
                    rw [show w8 137 k = prF w a9 M (n - a9) k from hI67.2.2 k (by omega)]
                    refine qG.blk 1 (pc' := 238) (ls' := [(2, 95), (0, ((a9 : Nat) : Int)), (0, ((b9 : Nat) : Int)), (0, ((g9 : Nat) : Int)), (1, smF (prF w a9 M (n - a9)) k), (9, 0), (0, ((k : Nat) : Int))]) (st' := [(1, wrl ((smF (prF w a9 M (n - a9)) k) + (prF w a9 M (n - a9) k)))]) (w' := w8) (n' := 142) rfl ?_
                    rw [show wrl ((smF (prF w a9 M (n - a9)) k) + (prF w a9 M (n - a9) k)) = smF (prF w a9 M (n - a9)) (k + 1) from wrl_id (by have q := prF_in hR a9 M (n - a9) k (by omega); omega) (by have q := prF_in hR a9 M (n - a9) k (by omega); omega)]
                    refine qG.blk 2 (pc' := 243) (ls' := [(2, 95), (0, ((a9 : Nat) : Int)), (0, ((b9 : Nat) : Int)), (0, ((g9 : Nat) : Int)), (1, smF (prF w a9 M (n - a9)) (k + 1)), (9, 0), (0, wrp (((k : Nat) : Int) + 1))]) (st' := []) (w' := w8) (n' := 142) rfl ?_
                    rw [show wrp (((k : Nat) : Int) + 1) = ((k + 1 : Nat) : Int) from wrp_id (by omega) (by omega)]
                    refine qG.blk 1 (pc' := 219) (ls' := [(2, 95), (0, ((a9 : Nat) : Int)), (0, ((b9 : Nat) : Int)), (0, ((g9 : Nat) : Int)), (1, smF (prF w a9 M (n - a9)) (k + 1)), (9, 0), (0, ((k + 1 : Nat) : Int))]) (st' := []) (w' := w8) (n' := 142) rfl ?_
                    exact ih219 _ (by omega) (k + 1) rfl (by omega)
                  · skip
                    have hek : k = M := by omega
                    rw [hek]
                    have hsM := smF_in M (prF_in hR a9 M (n - a9))
                    have hbM : (1000000000 : Int) * (M : Int) ≤ 12000000000 := by omega
                    refine qG.blk 3 (pc' := 250) (ls' := [(2, 95), (0, ((a9 : Nat) : Int)), (0, ((b9 : Nat) : Int)), (0, ((g9 : Nat) : Int)), (1, smF (prF w a9 M (n - a9)) M), (9, 0), (0, ((M : Nat) : Int))]) (st' := [(0, qcmp (smF (prF w a9 M (n - a9)) M) 0)]) (w' := w8) (n' := 142) rfl ?_
                    refine qG.br (P := qcmp (smF (prF w a9 M (n - a9)) M) 0 = 0) (pc1 := 253) (pc2 := 257) (st1 := []) rfl (fun hs0 => ?_) (fun hs0 => ?_)
                    · skip
                      rw [qcmp_z] at hs0
                      have hen : n = b9 + 1 := by omega
                      refine qG.blk 2 (pc' := 271) (ls' := [(2, 95), (0, ((a9 : Nat) : Int)), (0, ((b9 : Nat) : Int)), (0, ((g9 : Nat) : Int)), (1, smF (prF w a9 M (n - a9)) M), (9, 0), (0, ((M : Nat) : Int))]) (st' := [(0, (-1))]) (w' := w8) (n' := 142) rfl ?_
                      refine qG.ret rfl rfl ?_
                      subst hQ9
                      exact congrArg (Prod.mk (0 : Nat)) (by first | exact (allV_n (by omega)).symm | (unfold allV odV; rw [if_pos (by omega), hM, Int.toNat_natCast, Int.toNat_natCast, Int.toNat_natCast, show (((b9 : Nat) : Int) + 1 - ((a9 : Nat) : Int)).toNat = n - a9 by omega]; first | (rw [if_pos hs0]; done) | (rw [if_neg hs0]; done) | (rw [if_pos hs0]; rfl) | (rw [if_neg hs0]; rfl)))
                    · skip
                      rw [qcmp_z] at hs0
                      have hen : n = b9 + 1 := by omega
                      have hum := prF_in hR a9 M (n - a9) g9 (by omega)
                      have hoi := odV_in (f := prF w a9 M (n - a9)) (M := M) (m := g9) (by omega) (fun j hj => (prF_in hR a9 M (n - a9) j hj).1) hs0
                      refine qG.blk 3 (pc' := 264) (ls' := [(2, 95), (0, ((a9 : Nat) : Int)), (0, ((b9 : Nat) : Int)), (0, ((g9 : Nat) : Int)), (1, smF (prF w a9 M (n - a9)) M), (9, 0), (0, ((M : Nat) : Int))]) (st' := [(2, w8 95 70), (1, 1000)]) (w' := w8) (n' := 142) rfl ?_
                      rw [show w8 95 70 = 137 from zref hI67.2.1.1 rfl rfl]
                      refine qG.blk 1 (pc' := 265) (ls' := [(2, 95), (0, ((a9 : Nat) : Int)), (0, ((b9 : Nat) : Int)), (0, ((g9 : Nat) : Int)), (1, smF (prF w a9 M (n - a9)) M), (9, 0), (0, ((M : Nat) : Int))]) (st' := [(0, ((g9 : Nat) : Int)), (2, 137), (1, 1000)]) (w' := w8) (n' := 142) rfl ?_
                      refine qG.ar (P := 0 ≤ ((g9 : Nat) : Int) ∧ ((g9 : Nat) : Int) < ((12 : Nat) : Int)) (P2 := 0 < (137 : Int) ∧ (137 : Int) ≤ ((142 : Nat) : Int)) (pc' := 266) (ls' := [(2, 95), (0, ((a9 : Nat) : Int)), (0, ((b9 : Nat) : Int)), (0, ((g9 : Nat) : Int)), (1, smF (prF w a9 M (n - a9)) M), (9, 0), (0, ((M : Nat) : Int))]) (st' := [(1, w8 137 g9), (1, 1000)]) (w' := w8) (n' := 142) rfl (by omega) (by decide) ?_
                      rw [show w8 137 g9 = prF w a9 M (n - a9) g9 from hI67.2.2 g9 (by omega)]
                      refine qG.blk 1 (pc' := 267) (ls' := [(2, 95), (0, ((a9 : Nat) : Int)), (0, ((b9 : Nat) : Int)), (0, ((g9 : Nat) : Int)), (1, smF (prF w a9 M (n - a9)) M), (9, 0), (0, ((M : Nat) : Int))]) (st' := [(1, wrl (1000 * (prF w a9 M (n - a9) g9)))]) (w' := w8) (n' := 142) rfl ?_
                      rw [show wrl (1000 * (prF w a9 M (n - a9) g9)) = 1000 * prF w a9 M (n - a9) g9 from wrl_id (by omega) (by omega)]
                      refine qG.blk 1 (pc' := 269) (ls' := [(2, 95), (0, ((a9 : Nat) : Int)), (0, ((b9 : Nat) : Int)), (0, ((g9 : Nat) : Int)), (1, smF (prF w a9 M (n - a9)) M), (9, 0), (0, ((M : Nat) : Int))]) (st' := [(1, smF (prF w a9 M (n - a9)) M), (1, 1000 * prF w a9 M (n - a9) g9)]) (w' := w8) (n' := 142) rfl ?_
                      refine qG.gn (P := smF (prF w a9 M (n - a9)) M = 0) (pc' := 270) (ls' := [(2, 95), (0, ((a9 : Nat) : Int)), (0, ((b9 : Nat) : Int)), (0, ((g9 : Nat) : Int)), (1, smF (prF w a9 M (n - a9)) M), (9, 0), (0, ((M : Nat) : Int))]) (st' := [(1, qldiv (1000 * prF w a9 M (n - a9) g9) (smF (prF w a9 M (n - a9)) M))]) (w' := w8) (n' := 142) rfl (by exact hs0) ?_
                      rw [show qldiv (1000 * prF w a9 M (n - a9) g9) (smF (prF w a9 M (n - a9)) M) = (1000 * prF w a9 M (n - a9) g9).tdiv (smF (prF w a9 M (n - a9)) M) from by unfold qldiv; exact wrl_id (by omega) (by omega)]
                      refine qG.blk 1 (pc' := 271) (ls' := [(2, 95), (0, ((a9 : Nat) : Int)), (0, ((b9 : Nat) : Int)), (0, ((g9 : Nat) : Int)), (1, smF (prF w a9 M (n - a9)) M), (9, 0), (0, ((M : Nat) : Int))]) (st' := [(0, wrp ((1000 * prF w a9 M (n - a9) g9).tdiv (smF (prF w a9 M (n - a9)) M)))]) (w' := w8) (n' := 142) rfl ?_
                      rw [show wrp ((1000 * prF w a9 M (n - a9) g9).tdiv (smF (prF w a9 M (n - a9)) M)) = (1000 * prF w a9 M (n - a9) g9).tdiv (smF (prF w a9 M (n - a9)) M) from wrp_id (by omega) (by omega)]
                      refine qG.ret rfl rfl ?_
                      subst hQ9
                      exact congrArg (Prod.mk (0 : Nat)) (by first | exact (allV_n (by omega)).symm | (unfold allV odV; rw [if_pos (by omega), hM, Int.toNat_natCast, Int.toNat_natCast, Int.toNat_natCast, show (((b9 : Nat) : Int) + 1 - ((a9 : Nat) : Int)).toNat = n - a9 by omega]; first | (rw [if_pos hs0]; done) | (rw [if_neg hs0]; done) | (rw [if_pos hs0]; rfl) | (rw [if_neg hs0]; rfl)))
                exact L219 _ (0) rfl (by omega)
              · skip
                refine qG.blk 4 (pc' := 79) (ls' := [(2, 95), (0, ((a9 : Nat) : Int)), (0, ((b9 : Nat) : Int)), (0, ((g9 : Nat) : Int)), (0, ((n : Nat) : Int)), (0, 0), (0, 0)]) (st' := []) (w' := w8) (n' := 142) rfl ?_
                have L79 : ∀ (m9 : Nat) (k : Nat) (w7a : qW) (x5 : Int), M - k = m9 → (k ≤ M ∧ PV 137 w w7a k (fun j => prF w a9 M (n - a9) j * wgV w n j) (w8 137) ∧ ((x5 = 0 ∧ ¬ 1000000000 < mxF (fun j => prF w a9 M (n - a9) j * wgV w n j) k) ∨ (x5 = 1 ∧ 1000000000 < mxF (fun j => prF w a9 M (n - a9) j * wgV w n j) k))) → qG none (d + 1) 287 79 [(2, 95), (0, ((a9 : Nat) : Int)), (0, ((b9 : Nat) : Int)), (0, ((g9 : Nat) : Int)), (0, ((n : Nat) : Int)), (0, x5), (0, ((k : Nat) : Int))] [] w7a 142 Q9 := by
                  intro m9
                  induction m9 using Nat.strongRecOn with
                  | ind m9 ih79 =>
                  intro k w7a x5 hm79 hI79
                  refine qG.blk 3 (pc' := 85) (ls' := [(2, 95), (0, ((a9 : Nat) : Int)), (0, ((b9 : Nat) : Int)), (0, ((g9 : Nat) : Int)), (0, ((n : Nat) : Int)), (0, x5), (0, ((k : Nat) : Int))]) (st' := [(0, w7a 95 55), (0, ((k : Nat) : Int))]) (w' := w7a) (n' := 142) rfl ?_
                  rw [show w7a 95 55 = ((M : Nat) : Int) from (hI79.2.1.1.2 95 55 (fun _ => rfl)).trans hM]
                  refine qG.br (P := ((k : Nat) : Int) < ((M : Nat) : Int)) (pc1 := 88) (pc2 := 139) (st1 := []) rfl (fun h2 => ?_) (fun h2 => ?_)
                  · skip
                    refine qG.blk 2 (pc' := 92) (ls' := [(2, 95), (0, ((a9 : Nat) : Int)), (0, ((b9 : Nat) : Int)), (0, ((g9 : Nat) : Int)), (0, ((n : Nat) : Int)), (0, x5), (0, ((k : Nat) : Int))]) (st' := [(2, w7a 95 70)]) (w' := w7a) (n' := 142) rfl ?_
                    rw [show w7a 95 70 = 137 from zref hI79.2.1.1.1 rfl rfl]
                    refine qG.blk 2 (pc' := 95) (ls' := [(2, 95), (0, ((a9 : Nat) : Int)), (0, ((b9 : Nat) : Int)), (0, ((g9 : Nat) : Int)), (0, ((n : Nat) : Int)), (0, x5), (0, ((k : Nat) : Int))]) (st' := [(0, ((k : Nat) : Int)), (2, 137), (0, ((k : Nat) : Int)), (2, 137)]) (w' := w7a) (n' := 142) rfl ?_
                    refine qG.ar (P := 0 ≤ ((k : Nat) : Int) ∧ ((k : Nat) : Int) < ((12 : Nat) : Int)) (P2 := 0 < (137 : Int) ∧ (137 : Int) ≤ ((142 : Nat) : Int)) (pc' := 96) (ls' := [(2, 95), (0, ((a9 : Nat) : Int)), (0, ((b9 : Nat) : Int)), (0, ((g9 : Nat) : Int)), (0, ((n : Nat) : Int)), (0, x5), (0, ((k : Nat) : Int))]) (st' := [(1, w7a 137 k), (0, ((k : Nat) : Int)), (2, 137)]) (w' := w7a) (n' := 142) rfl (by omega) (by decide) ?_
                    rw [show w7a 137 k = prF w a9 M (n - a9) k from (hI79.2.1.2.2 k (Nat.le_refl k)).trans (hI67.2.2 k (by omega))]
                    refine qG.blk 3 (pc' := 101) (ls' := [(2, 95), (0, ((a9 : Nat) : Int)), (0, ((b9 : Nat) : Int)), (0, ((g9 : Nat) : Int)), (0, ((n : Nat) : Int)), (0, x5), (0, ((k : Nat) : Int))]) (st' := [(0, ((k : Nat) : Int)), (0, ((n : Nat) : Int)), (2, 95), (1, prF w a9 M (n - a9) k), (0, ((k : Nat) : Int)), (2, 137)]) (w' := w7a) (n' := 142) rfl ?_
                    have hwg := wg_aw (.inr rfl) hI79.2.1.1 n k
                    have hq1 := prF_in hR a9 M (n - a9) k (by omega)
                    have hq2 := wgV_in hR n k
                    have hmb := mul_b hq1.1 hq1.2 hq2.1 hq2.2
                    refine qG.call (t := 285) (na := 3) (sk := 1) (md := 1) (ls1 := [(2, 95), (0, ((n : Nat) : Int)), (0, ((k : Nat) : Int)), (9, 0), (9, 0)]) (r1 := [(1, prF w a9 M (n - a9) k), (0, ((k : Nat) : Int)), (2, 137)]) rfl rfl rfl rfl rfl (K_weight (by omega) n k M N w7a hI79.2.1.1.1 ((hI79.2.1.1.2 95 55 (fun _ => rfl)).trans hM) ((hI79.2.1.1.2 95 57 (fun _ => rfl)).trans hN) (by omega) (by omega)) ?_
                    rintro _ w7 _ ⟨rfl, hw7, rfl⟩
                    rw [hw7, hwg]
                    show qG none (d + 1) 287 104 [(2, 95), (0, ((a9 : Nat) : Int)), (0, ((b9 : Nat) : Int)), (0, ((g9 : Nat) : Int)), (0, ((n : Nat) : Int)), (0, x5), (0, ((k : Nat) : Int))] [(0, wgV w n k), (1, prF w a9 M (n - a9) k), (0, ((k : Nat) : Int)), (2, 137)] w7a 142 Q9
                    refine qG.blk 2 (pc' := 106) (ls' := [(2, 95), (0, ((a9 : Nat) : Int)), (0, ((b9 : Nat) : Int)), (0, ((g9 : Nat) : Int)), (0, ((n : Nat) : Int)), (0, x5), (0, ((k : Nat) : Int))]) (st' := [(1, wrl ((prF w a9 M (n - a9) k) * (wgV w n k))), (0, ((k : Nat) : Int)), (2, 137)]) (w' := w7a) (n' := 142) rfl ?_
                    rw [show wrl ((prF w a9 M (n - a9) k) * (wgV w n k)) = prF w a9 M (n - a9) k * wgV w n k from wrl_id (by omega) (by omega)]
                    refine qG.ar (P := 0 ≤ ((k : Nat) : Int) ∧ ((k : Nat) : Int) < ((12 : Nat) : Int)) (P2 := 0 < (137 : Int) ∧ (137 : Int) ≤ ((142 : Nat) : Int)) (pc' := 107) (ls' := [(2, 95), (0, ((a9 : Nat) : Int)), (0, ((b9 : Nat) : Int)), (0, ((g9 : Nat) : Int)), (0, ((n : Nat) : Int)), (0, x5), (0, ((k : Nat) : Int))]) (st' := []) (w' := (qup w7a 137 k (prF w a9 M (n - a9) k * wgV w n k))) (n' := 142) rfl (by omega) (by decide) ?_
                    refine qG.blk 1 (pc' := 109) (ls' := [(2, 95), (0, ((a9 : Nat) : Int)), (0, ((b9 : Nat) : Int)), (0, ((g9 : Nat) : Int)), (0, ((n : Nat) : Int)), (0, x5), (0, ((k : Nat) : Int))]) (st' := [(0, x5)]) (w' := (qup w7a 137 k (prF w a9 M (n - a9) k * wgV w n k))) (n' := 142) rfl ?_
                    refine qG.br (P := x5 = 0) (pc1 := 112) (pc2 := 126) (st1 := []) rfl (fun h5 => ?_) (fun h5 => ?_)
                    · skip
                      refine qG.blk 2 (pc' := 116) (ls' := [(2, 95), (0, ((a9 : Nat) : Int)), (0, ((b9 : Nat) : Int)), (0, ((g9 : Nat) : Int)), (0, ((n : Nat) : Int)), (0, x5), (0, ((k : Nat) : Int))]) (st' := [(2, w7a 95 70)]) (w' := (qup w7a 137 k (prF w a9 M (n - a9) k * wgV w n k))) (n' := 142) rfl ?_
                      rw [show w7a 95 70 = 137 from zref hI79.2.1.1.1 rfl rfl]
                      refine qG.blk 1 (pc' := 118) (ls' := [(2, 95), (0, ((a9 : Nat) : Int)), (0, ((b9 : Nat) : Int)), (0, ((g9 : Nat) : Int)), (0, ((n : Nat) : Int)), (0, x5), (0, ((k : Nat) : Int))]) (st' := [(0, ((k : Nat) : Int)), (2, 137)]) (w' := (qup w7a 137 k (prF w a9 M (n - a9) k * wgV w n k))) (n' := 142) rfl ?_
                      refine qG.ar (P := 0 ≤ ((k : Nat) : Int) ∧ ((k : Nat) : Int) < ((12 : Nat) : Int)) (P2 := 0 < (137 : Int) ∧ (137 : Int) ≤ ((142 : Nat) : Int)) (pc' := 119) (ls' := [(2, 95), (0, ((a9 : Nat) : Int)), (0, ((b9 : Nat) : Int)), (0, ((g9 : Nat) : Int)), (0, ((n : Nat) : Int)), (0, x5), (0, ((k : Nat) : Int))]) (st' := [(1, (qup w7a 137 k (prF w a9 M (n - a9) k * wgV w n k)) 137 k)]) (w' := (qup w7a 137 k (prF w a9 M (n - a9) k * wgV w n k))) (n' := 142) rfl (by omega) (by decide) ?_
                      rw [qup_k]
                      refine qG.blk 2 (pc' := 123) (ls' := [(2, 95), (0, ((a9 : Nat) : Int)), (0, ((b9 : Nat) : Int)), (0, ((g9 : Nat) : Int)), (0, ((n : Nat) : Int)), (0, x5), (0, ((k : Nat) : Int))]) (st' := [(0, qcmp (prF w a9 M (n - a9) k * wgV w n k) 1000000000)]) (w' := (qup w7a 137 k (prF w a9 M (n - a9) k * wgV w n k))) (n' := 142) rfl ?_
                      refine qG.br (P := 0 < qcmp (prF w a9 M (n - a9) k * wgV w n k) 1000000000) (pc1 := 126) (pc2 := 130) (st1 := []) rfl (fun hc => ?_) (fun hc => ?_)
                      · skip
                        refine qG.blk 4 (pc' := 136) (ls' := [(2, 95), (0, ((a9 : Nat) : Int)), (0, ((b9 : Nat) : Int)), (0, ((g9 : Nat) : Int)), (0, ((n : Nat) : Int)), (0, 1), (0, wrp (((k : Nat) : Int) + 1))]) (st' := []) (w' := (qup w7a 137 k (prF w a9 M (n - a9) k * wgV w n k))) (n' := 142) rfl ?_
                        rw [show wrp (((k : Nat) : Int) + 1) = ((k + 1 : Nat) : Int) from wrp_id (by omega) (by omega)]
                        refine qG.blk 1 (pc' := 79) (ls' := [(2, 95), (0, ((a9 : Nat) : Int)), (0, ((b9 : Nat) : Int)), (0, ((g9 : Nat) : Int)), (0, ((n : Nat) : Int)), (0, 1), (0, ((k + 1 : Nat) : Int))]) (st' := []) (w' := (qup w7a 137 k (prF w a9 M (n - a9) k * wgV w n k))) (n' := 142) rfl ?_
                        exact ih79 _ (by omega) (k + 1) ((qup w7a 137 k (prF w a9 M (n - a9) k * wgV w n k))) (1) rfl (⟨by omega, PV.up (.inr rfl) hI79.2.1 rfl (by omega) (by omega), by first | exact .inr ⟨rfl, mx_1 ((hI79.2.2.resolve_left (fun z => h5 z.1)).2)⟩ | exact .inr ⟨rfl, mx_2 (f := (fun j => prF w a9 M (n - a9) j * wgV w n j)) (qcmp_p.mp hc)⟩ | exact .inl ⟨rfl, mx_3 (f := (fun j => prF w a9 M (n - a9) j * wgV w n j)) ((hI79.2.2.resolve_right (fun z => by omega)).2) (fun z => hc (qcmp_p.mpr z))⟩⟩)
                      · skip
                        refine qG.blk 3 (pc' := 136) (ls' := [(2, 95), (0, ((a9 : Nat) : Int)), (0, ((b9 : Nat) : Int)), (0, ((g9 : Nat) : Int)), (0, ((n : Nat) : Int)), (0, 0), (0, wrp (((k : Nat) : Int) + 1))]) (st' := []) (w' := (qup w7a 137 k (prF w a9 M (n - a9) k * wgV w n k))) (n' := 142) rfl ?_
                        rw [show wrp (((k : Nat) : Int) + 1) = ((k + 1 : Nat) : Int) from wrp_id (by omega) (by omega)]
                        refine qG.blk 1 (pc' := 79) (ls' := [(2, 95), (0, ((a9 : Nat) : Int)), (0, ((b9 : Nat) : Int)), (0, ((g9 : Nat) : Int)), (0, ((n : Nat) : Int)), (0, 0), (0, ((k + 1 : Nat) : Int))]) (st' := []) (w' := (qup w7a 137 k (prF w a9 M (n - a9) k * wgV w n k))) (n' := 142) rfl ?_
                        exact ih79 _ (by omega) (k + 1) ((qup w7a 137 k (prF w a9 M (n - a9) k * wgV w n k))) (0) rfl (⟨by omega, PV.up (.inr rfl) hI79.2.1 rfl (by omega) (by omega), by first | exact .inr ⟨rfl, mx_1 ((hI79.2.2.resolve_left (fun z => h5 z.1)).2)⟩ | exact .inr ⟨rfl, mx_2 (f := (fun j => prF w a9 M (n - a9) j * wgV w n j)) (qcmp_p.mp hc)⟩ | exact .inl ⟨rfl, mx_3 (f := (fun j => prF w a9 M (n - a9) j * wgV w n j)) ((hI79.2.2.resolve_right (fun z => by omega)).2) (fun z => hc (qcmp_p.mpr z))⟩⟩)
                    · skip
                      refine qG.blk 4 (pc' := 136) (ls' := [(2, 95), (0, ((a9 : Nat) : Int)), (0, ((b9 : Nat) : Int)), (0, ((g9 : Nat) : Int)), (0, ((n : Nat) : Int)), (0, 1), (0, wrp (((k : Nat) : Int) + 1))]) (st' := []) (w' := (qup w7a 137 k (prF w a9 M (n - a9) k * wgV w n k))) (n' := 142) rfl ?_
                      rw [show wrp (((k : Nat) : Int) + 1) = ((k + 1 : Nat) : Int) from wrp_id (by omega) (by omega)]
                      refine qG.blk 1 (pc' := 79) (ls' := [(2, 95), (0, ((a9 : Nat) : Int)), (0, ((b9 : Nat) : Int)), (0, ((g9 : Nat) : Int)), (0, ((n : Nat) : Int)), (0, 1), (0, ((k + 1 : Nat) : Int))]) (st' := []) (w' := (qup w7a 137 k (prF w a9 M (n - a9) k * wgV w n k))) (n' := 142) rfl ?_
                      exact ih79 _ (by omega) (k + 1) ((qup w7a 137 k (prF w a9 M (n - a9) k * wgV w n k))) (1) rfl (⟨by omega, PV.up (.inr rfl) hI79.2.1 rfl (by omega) (by omega), by first | exact .inr ⟨rfl, mx_1 ((hI79.2.2.resolve_left (fun z => h5 z.1)).2)⟩ | exact .inr ⟨rfl, mx_2 (f := (fun j => prF w a9 M (n - a9) j * wgV w n j)) (qcmp_p.mp hc)⟩ | exact .inl ⟨rfl, mx_3 (f := (fun j => prF w a9 M (n - a9) j * wgV w n j)) ((hI79.2.2.resolve_right (fun z => by omega)).2) (fun z => hc (qcmp_p.mpr z))⟩⟩)
                  · skip
                    have L139 : ∀ (m9 : Nat) (p : Nat) (w6 : qW) (x5 : Int) (x6 : qV), p = m9 → (AW [137] w w6 ∧ ((p = 1 ∧ (∀ j : Nat, j < M → w6 137 j = (fun j => prF w a9 M (n - a9) j * wgV w n j) j) ∧ ((x5 = 0 ∧ ¬ 1000000000 < mxF (fun j => prF w a9 M (n - a9) j * wgV w n j) M) ∨ (x5 = 1 ∧ 1000000000 < mxF (fun j => prF w a9 M (n - a9) j * wgV w n j) M))) ∨ (p = 0 ∧ x5 = 0 ∧ 1000000000 < mxF (fun j => prF w a9 M (n - a9) j * wgV w n j) M ∧ ∀ j : Nat, j < M → w6 137 j = (fun j => prF w a9 M (n - a9) j * wgV w n j) j / 1000))) → qG none (d + 1) 287 139 [(2, 95), (0, ((a9 : Nat) : Int)), (0, ((b9 : Nat) : Int)), (0, ((g9 : Nat) : Int)), (0, ((n : Nat) : Int)), (0, x5), x6] [] w6 142 Q9 := by
                      intro m9
                      induction m9 using Nat.strongRecOn with
                      | ind m9 ih139 =>
                      intro p w6 x5 x6 hm139 hI139
                      refine qG.blk 1 (pc' := 141) (ls' := [(2, 95), (0, ((a9 : Nat) : Int)), (0, ((b9 : Nat) : Int)), (0, ((g9 : Nat) : Int)), (0, ((n : Nat) : Int)), (0, x5), x6]) (st' := [(0, x5)]) (w' := w6) (n' := 142) rfl ?_
                      refine qG.br (P := x5 = 0) (pc1 := 207) (pc2 := 144) (st1 := []) rfl (fun h5b => ?_) (fun h5b => ?_)
                      · skip
                        refine qG.blk 1 (pc' := 210) (ls' := [(2, 95), (0, ((a9 : Nat) : Int)), (0, ((b9 : Nat) : Int)), (0, ((g9 : Nat) : Int)), (0, wrp (((n : Nat) : Int) + 1)), (0, x5), x6]) (st' := []) (w' := w6) (n' := 142) rfl ?_
                        rw [show wrp (((n : Nat) : Int) + 1) = ((n + 1 : Nat) : Int) from wrp_id (by omega) (by omega)]
                        refine qG.blk 1 (pc' := 67) (ls' := [(2, 95), (0, ((a9 : Nat) : Int)), (0, ((b9 : Nat) : Int)), (0, ((g9 : Nat) : Int)), (0, ((n + 1 : Nat) : Int)), (0, x5), x6]) (st' := []) (w' := w6) (n' := 142) rfl ?_
                        exact ih67 _ (by omega) (n + 1) (w6) ((0, x5)) (x6) rfl (⟨⟨by omega, by omega⟩, hI139.1, fun j hj => (by rw [pr_s hI67.1.1]; rcases hI139.2 with ⟨-, z2, z3⟩ | ⟨-, -, z3, z4⟩; (rcases z3 with ⟨-, z5⟩ | ⟨z5, -⟩; rw [z2 j hj, stepF_k z5]; (exfalso; omega)); rw [z4 j hj, stepF_d z3])⟩)
                      · skip
                        have hp9 := hI139.2.resolve_right (fun z => h5b z.2.1)
                        have hmx9 := (hp9.2.2.resolve_left (fun z => h5b z.1)).2
                        refine qG.blk 4 (pc' := 150) (ls' := [(2, 95), (0, ((a9 : Nat) : Int)), (0, ((b9 : Nat) : Int)), (0, ((g9 : Nat) : Int)), (0, ((n : Nat) : Int)), (0, 0), (0, 0)]) (st' := []) (w' := w6) (n' := 142) rfl ?_
                        have L150 : ∀ (m9 : Nat) (k : Nat) (w5 : qW) (x5b : Int), M - k = m9 → (k ≤ M ∧ PV 137 w w5 k (fun j => (fun j => prF w a9 M (n - a9) j * wgV w n j) j / 1000) (w6 137) ∧ x5b = 0) → qG none (d + 1) 287 150 [(2, 95), (0, ((a9 : Nat) : Int)), (0, ((b9 : Nat) : Int)), (0, ((g9 : Nat) : Int)), (0, ((n : Nat) : Int)), (0, x5b), (0, ((k : Nat) : Int))] [] w5 142 Q9 := by
                          intro m9
                          induction m9 using Nat.strongRecOn with
                          | ind m9 ih150 =>
                          intro k w5 x5b hm150 hI150
                          have hq1 := fun (h : k < M) => prF_in hR a9 M (n - a9) k h
                          have hq2 := wgV_in hR n k
                          have hmb := fun (h : k < M) => mul_b (hq1 h).1 (hq1 h).2 hq2.1 hq2.2
                          refine qG.blk 3 (pc' := 156) (ls' := [(2, 95), (0, ((a9 : Nat) : Int)), (0, ((b9 : Nat) : Int)), (0, ((g9 : Nat) : Int)), (0, ((n : Nat) : Int)), (0, x5b), (0, ((k : Nat) : Int))]) (st' := [(0, w5 95 55), (0, ((k : Nat) : Int))]) (w' := w5) (n' := 142) rfl ?_
                          rw [show w5 95 55 = ((M : Nat) : Int) from (hI150.2.1.1.2 95 55 (fun _ => rfl)).trans hM]
                          refine qG.br (P := ((k : Nat) : Int) < ((M : Nat) : Int)) (pc1 := 159) (pc2 := 204) (st1 := []) rfl (fun hkD => ?_) (fun hkD => ?_)
                          · skip
                            have hmb := hmb (by omega)
                            refine qG.blk 2 (pc' := 163) (ls' := [(2, 95), (0, ((a9 : Nat) : Int)), (0, ((b9 : Nat) : Int)), (0, ((g9 : Nat) : Int)), (0, ((n : Nat) : Int)), (0, x5b), (0, ((k : Nat) : Int))]) (st' := [(2, w5 95 70)]) (w' := w5) (n' := 142) rfl ?_
                            rw [show w5 95 70 = 137 from zref hI150.2.1.1.1 rfl rfl]
                            refine qG.blk 2 (pc' := 166) (ls' := [(2, 95), (0, ((a9 : Nat) : Int)), (0, ((b9 : Nat) : Int)), (0, ((g9 : Nat) : Int)), (0, ((n : Nat) : Int)), (0, x5b), (0, ((k : Nat) : Int))]) (st' := [(0, ((k : Nat) : Int)), (2, 137), (0, ((k : Nat) : Int)), (2, 137)]) (w' := w5) (n' := 142) rfl ?_
                            refine qG.ar (P := 0 ≤ ((k : Nat) : Int) ∧ ((k : Nat) : Int) < ((12 : Nat) : Int)) (P2 := 0 < (137 : Int) ∧ (137 : Int) ≤ ((142 : Nat) : Int)) (pc' := 167) (ls' := [(2, 95), (0, ((a9 : Nat) : Int)), (0, ((b9 : Nat) : Int)), (0, ((g9 : Nat) : Int)), (0, ((n : Nat) : Int)), (0, x5b), (0, ((k : Nat) : Int))]) (st' := [(1, w5 137 k), (0, ((k : Nat) : Int)), (2, 137)]) (w' := w5) (n' := 142) rfl (by omega) (by decide) ?_
                            rw [show w5 137 k = prF w a9 M (n - a9) k * wgV w n k from (hI150.2.1.2.2 k (Nat.le_refl k)).trans (hp9.2.1 k (by omega))]
                            refine qG.blk 1 (pc' := 170) (ls' := [(2, 95), (0, ((a9 : Nat) : Int)), (0, ((b9 : Nat) : Int)), (0, ((g9 : Nat) : Int)), (0, ((n : Nat) : Int)), (0, x5b), (0, ((k : Nat) : Int))]) (st' := [(1, 1000), (1, prF w a9 M (n - a9) k * wgV w n k), (0, ((k : Nat) : Int)), (2, 137)]) (w' := w5) (n' := 142) rfl ?_
                            refine qG.gn (P := 1000 = 0) (pc' := 171) (ls' := [(2, 95), (0, ((a9 : Nat) : Int)), (0, ((b9 : Nat) : Int)), (0, ((g9 : Nat) : Int)), (0, ((n : Nat) : Int)), (0, x5b), (0, ((k : Nat) : Int))]) (st' := [(1, qldiv (prF w a9 M (n - a9) k * wgV w n k) 1000), (0, ((k : Nat) : Int)), (2, 137)]) (w' := w5) (n' := 142) rfl (by decide) ?_
                            rw [show qldiv (prF w a9 M (n - a9) k * wgV w n k) 1000 = prF w a9 M (n - a9) k * wgV w n k / 1000 from qldiv_k hmb.1 hmb.2]
                            refine qG.ar (P := 0 ≤ ((k : Nat) : Int) ∧ ((k : Nat) : Int) < ((12 : Nat) : Int)) (P2 := 0 < (137 : Int) ∧ (137 : Int) ≤ ((142 : Nat) : Int)) (pc' := 172) (ls' := [(2, 95), (0, ((a9 : Nat) : Int)), (0, ((b9 : Nat) : Int)), (0, ((g9 : Nat) : Int)), (0, ((n : Nat) : Int)), (0, x5b), (0, ((k : Nat) : Int))]) (st' := []) (w' := (qup w5 137 k (prF w a9 M (n - a9) k * wgV w n k / 1000))) (n' := 142) rfl (by omega) (by decide) ?_
                            refine qG.blk 1 (pc' := 174) (ls' := [(2, 95), (0, ((a9 : Nat) : Int)), (0, ((b9 : Nat) : Int)), (0, ((g9 : Nat) : Int)), (0, ((n : Nat) : Int)), (0, x5b), (0, ((k : Nat) : Int))]) (st' := [(0, x5b)]) (w' := (qup w5 137 k (prF w a9 M (n - a9) k * wgV w n k / 1000))) (n' := 142) rfl ?_
                            refine qG.br (P := x5b = 0) (pc1 := 177) (pc2 := 191) (st1 := []) rfl (fun h5c => ?_) (fun h5c => ?_)
                            · skip
                              refine qG.blk 2 (pc' := 181) (ls' := [(2, 95), (0, ((a9 : Nat) : Int)), (0, ((b9 : Nat) : Int)), (0, ((g9 : Nat) : Int)), (0, ((n : Nat) : Int)), (0, x5b), (0, ((k : Nat) : Int))]) (st' := [(2, w5 95 70)]) (w' := (qup w5 137 k (prF w a9 M (n - a9) k * wgV w n k / 1000))) (n' := 142) rfl ?_
                              rw [show w5 95 70 = 137 from zref hI150.2.1.1.1 rfl rfl]
                              refine qG.blk 1 (pc' := 183) (ls' := [(2, 95), (0, ((a9 : Nat) : Int)), (0, ((b9 : Nat) : Int)), (0, ((g9 : Nat) : Int)), (0, ((n : Nat) : Int)), (0, x5b), (0, ((k : Nat) : Int))]) (st' := [(0, ((k : Nat) : Int)), (2, 137)]) (w' := (qup w5 137 k (prF w a9 M (n - a9) k * wgV w n k / 1000))) (n' := 142) rfl ?_
                              refine qG.ar (P := 0 ≤ ((k : Nat) : Int) ∧ ((k : Nat) : Int) < ((12 : Nat) : Int)) (P2 := 0 < (137 : Int) ∧ (137 : Int) ≤ ((142 : Nat) : Int)) (pc' := 184) (ls' := [(2, 95), (0, ((a9 : Nat) : Int)), (0, ((b9 : Nat) : Int)), (0, ((g9 : Nat) : Int)), (0, ((n : Nat) : Int)), (0, x5b), (0, ((k : Nat) : Int))]) (st' := [(1, (qup w5 137 k (prF w a9 M (n - a9) k * wgV w n k / 1000)) 137 k)]) (w' := (qup w5 137 k (prF w a9 M (n - a9) k * wgV w n k / 1000))) (n' := 142) rfl (by omega) (by decide) ?_
                              rw [qup_k]
                              refine qG.blk 2 (pc' := 188) (ls' := [(2, 95), (0, ((a9 : Nat) : Int)), (0, ((b9 : Nat) : Int)), (0, ((g9 : Nat) : Int)), (0, ((n : Nat) : Int)), (0, x5b), (0, ((k : Nat) : Int))]) (st' := [(0, qcmp (prF w a9 M (n - a9) k * wgV w n k / 1000) 1000000000)]) (w' := (qup w5 137 k (prF w a9 M (n - a9) k * wgV w n k / 1000))) (n' := 142) rfl ?_
                              refine qG.br (P := 0 < qcmp (prF w a9 M (n - a9) k * wgV w n k / 1000) 1000000000) (pc1 := 191) (pc2 := 195) (st1 := []) rfl (fun hc2 => ?_) (fun hc2 => ?_)
                              · skip
                                refine qG.blk 4 (pc' := 201) (ls' := [(2, 95), (0, ((a9 : Nat) : Int)), (0, ((b9 : Nat) : Int)), (0, ((g9 : Nat) : Int)), (0, ((n : Nat) : Int)), (0, 1), (0, wrp (((k : Nat) : Int) + 1))]) (st' := []) (w' := (qup w5 137 k (prF w a9 M (n - a9) k * wgV w n k / 1000))) (n' := 142) rfl ?_
                                rw [show wrp (((k : Nat) : Int) + 1) = ((k + 1 : Nat) : Int) from wrp_id (by omega) (by omega)]
                                refine qG.blk 1 (pc' := 150) (ls' := [(2, 95), (0, ((a9 : Nat) : Int)), (0, ((b9 : Nat) : Int)), (0, ((g9 : Nat) : Int)), (0, ((n : Nat) : Int)), (0, 1), (0, ((k + 1 : Nat) : Int))]) (st' := []) (w' := (qup w5 137 k (prF w a9 M (n - a9) k * wgV w n k / 1000))) (n' := 142) rfl ?_
                                exact ih150 _ (by omega) (k + 1) ((qup w5 137 k (prF w a9 M (n - a9) k * wgV w n k / 1000))) (1) rfl (⟨by omega, PV.up (.inr rfl) hI150.2.1 rfl (by omega) (by omega), by first | rfl | (exfalso; rw [qcmp_p] at hc2; omega) | (exfalso; omega)⟩)
                              · skip
                                refine qG.blk 3 (pc' := 201) (ls' := [(2, 95), (0, ((a9 : Nat) : Int)), (0, ((b9 : Nat) : Int)), (0, ((g9 : Nat) : Int)), (0, ((n : Nat) : Int)), (0, 0), (0, wrp (((k : Nat) : Int) + 1))]) (st' := []) (w' := (qup w5 137 k (prF w a9 M (n - a9) k * wgV w n k / 1000))) (n' := 142) rfl ?_
                                rw [show wrp (((k : Nat) : Int) + 1) = ((k + 1 : Nat) : Int) from wrp_id (by omega) (by omega)]
                                refine qG.blk 1 (pc' := 150) (ls' := [(2, 95), (0, ((a9 : Nat) : Int)), (0, ((b9 : Nat) : Int)), (0, ((g9 : Nat) : Int)), (0, ((n : Nat) : Int)), (0, 0), (0, ((k + 1 : Nat) : Int))]) (st' := []) (w' := (qup w5 137 k (prF w a9 M (n - a9) k * wgV w n k / 1000))) (n' := 142) rfl ?_
                                exact ih150 _ (by omega) (k + 1) ((qup w5 137 k (prF w a9 M (n - a9) k * wgV w n k / 1000))) (0) rfl (⟨by omega, PV.up (.inr rfl) hI150.2.1 rfl (by omega) (by omega), by first | rfl | (exfalso; rw [qcmp_p] at hc2; omega) | (exfalso; omega)⟩)
                            · skip
                              refine qG.blk 4 (pc' := 201) (ls' := [(2, 95), (0, ((a9 : Nat) : Int)), (0, ((b9 : Nat) : Int)), (0, ((g9 : Nat) : Int)), (0, ((n : Nat) : Int)), (0, 1), (0, wrp (((k : Nat) : Int) + 1))]) (st' := []) (w' := (qup w5 137 k (prF w a9 M (n - a9) k * wgV w n k / 1000))) (n' := 142) rfl ?_
                              rw [show wrp (((k : Nat) : Int) + 1) = ((k + 1 : Nat) : Int) from wrp_id (by omega) (by omega)]
                              refine qG.blk 1 (pc' := 150) (ls' := [(2, 95), (0, ((a9 : Nat) : Int)), (0, ((b9 : Nat) : Int)), (0, ((g9 : Nat) : Int)), (0, ((n : Nat) : Int)), (0, 1), (0, ((k + 1 : Nat) : Int))]) (st' := []) (w' := (qup w5 137 k (prF w a9 M (n - a9) k * wgV w n k / 1000))) (n' := 142) rfl ?_
                              exact ih150 _ (by omega) (k + 1) ((qup w5 137 k (prF w a9 M (n - a9) k * wgV w n k / 1000))) (1) rfl (⟨by omega, PV.up (.inr rfl) hI150.2.1 rfl (by omega) (by omega), by first | rfl | (exfalso; rw [qcmp_p] at hc2; omega) | (exfalso; omega)⟩)
                          · skip
                            refine qG.blk 1 (pc' := 139) (ls' := [(2, 95), (0, ((a9 : Nat) : Int)), (0, ((b9 : Nat) : Int)), (0, ((g9 : Nat) : Int)), (0, ((n : Nat) : Int)), (0, x5b), (0, ((k : Nat) : Int))]) (st' := []) (w' := w5) (n' := 142) rfl ?_
                            exact ih139 _ (by omega) (0) (w5) (x5b) ((0, ((k : Nat) : Int))) rfl (⟨hI150.2.1.1, .inr ⟨rfl, hI150.2.2, hmx9, fun j hj => hI150.2.1.2.1 j (by omega)⟩⟩)
                        exact L150 _ (0) (w6) (0) rfl (⟨by omega, ⟨hI139.1, fun j hj => absurd hj (Nat.not_lt_zero j), fun j _ => rfl⟩, rfl⟩)
                    exact L139 _ (1) (w7a) (x5) ((0, ((k : Nat) : Int))) rfl (⟨hI79.2.1.1, .inl ⟨rfl, fun j hj => hI79.2.1.2.1 j (by omega), (show k = M by omega) ▸ hI79.2.2⟩⟩)
                exact L79 _ (0) (w8) (0) rfl (⟨by omega, ⟨hI67.2.1, fun j hj => absurd hj (Nat.not_lt_zero j), fun j _ => rfl⟩, .inl ⟨rfl, by show ¬ (1000000000 : Int) < 0; decide⟩⟩)
            exact L67 _ (a9) (w9) ((9, 0)) ((9, 0)) rfl (⟨⟨by omega, by omega⟩, hI41.2.1, fun j hj => by rw [hI41.2.2 j (by omega), Nat.sub_self]; rfl⟩)
        exact L41 _ (0) (w) rfl (⟨by omega, AW.rf hI, fun j hj => absurd hj (Nat.not_lt_zero j)⟩)
theorem allV_aw {w w9 : qW} (h : AW [56] w w9) (a b m : Int) : allV w9 a b m = allV w a b m := by
  have e : ∀ n m, wgV w9 n m = wgV w n m := fun n m => wg_aw (.inl rfl) h n m
  have e2 : ∀ a M i, prF w9 a M i = prF w a M i := by
    intro a M i
    induction i with
    | zero => rfl
    | succ i ih =>
      show stepF (prF w9 a M i) (fun j => wgV w9 (a + i) j) M = stepF (prF w a M i) (fun j => wgV w (a + i) j) M
      rw [ih]
      simp only [e]
  unfold allV
  rw [h.2 95 55 (fun _ => rfl), h.2 95 57 (fun _ => rfl), e2]
theorem K_X11_allQ {d : Nat} (hd : 5 ≤ d) (a b m : Int) (w : qW) (hI : yInv zgf zga zra zSp w) (hJ : JQ w) : qG none d 190 0 (qini 190 [(2, 1), (0, a), (0, b), (0, m)]) [] w 142 (fun (r : qV) (_ : qW) (_ : Nat) => r = (0, allV w a b m)) := by
  have h55 := zfld hI (j := 55) (b := (0, 12)) rfl
  have a55 : (0 : Int) ≤ w 95 55 := h55.1
  have h57 := zfld hI (j := 57) (b := (0, 60)) rfl
  have a57 : (0 : Int) ≤ w 95 57 := h57.1
  obtain ⟨M, hM⟩ : ∃ M : Nat, w 95 55 = (M : Int) := ⟨(w 95 55).toNat, by omega⟩
  obtain ⟨N, hN⟩ : ∃ N : Nat, w 95 57 = (N : Int) := ⟨(w 95 57).toNat, by omega⟩
  exact K_X11_all hd a b m M N w hI hJ hM hN
theorem K_X12_allQ {d : Nat} (hd : 4 ≤ d) (a b m : Int) (w : qW) (hI : yInv zgf zga zra zSp w) : qG none d 287 0 [(2, 95), (0, a), (0, b), (0, m), (9, 0), (9, 0), (9, 0)] [] w 142 (fun (r : qV) (_ : qW) (_ : Nat) => r = (0, allV w a b m)) := by
  have h55 := zfld hI (j := 55) (b := (0, 12)) rfl
  have a55 : (0 : Int) ≤ w 95 55 := h55.1
  have h57 := zfld hI (j := 57) (b := (0, 60)) rfl
  have a57 : (0 : Int) ≤ w 95 57 := h57.1
  obtain ⟨M, hM⟩ : ∃ M : Nat, w 95 55 = (M : Int) := ⟨(w 95 55).toNat, by omega⟩
  obtain ⟨N, hN⟩ : ∃ N : Nat, w 95 57 = (N : Int) := ⟨(w 95 57).toNat, by omega⟩
  exact K_X12_all9 hd a b m M N w hI hM hN
end
section
/-! the chests' works and doors on both sides; air -/
noncomputable def wkN (v s b : Int) : Int := if b = 0 then qand v (qxor (qshl 1 s) (-1)) else qor v (qshl 1 s)
noncomputable def isWk (c s : Int) : Prop := (0 ≤ c ∧ c ≤ 2) ∧ 0 ≤ s ∧ s ≤ 15
noncomputable def wkX (c s b : Int) (w : qW) (r : qV) (w1 : qW) : Prop := (¬ isWk c s ∧ r = (0, 0) ∧ w1 = w) ∨ (isWk c s ∧ ∃ c9 : Nat, c = (c9 : Int) ∧ r = (0, 1) ∧ w1 (64 + 5 * c9) 0 = wkN (w (64 + 5 * c9) 0) s b ∧ ∀ q k, ¬ (q = 64 + 5 * c9 ∧ (k = 0 ∨ k = 1)) → w1 q k = w q k)
noncomputable def wkR (c s b : Int) (w : qW) (r : qV) (w1 : qW) : Prop := (¬ isWk c s ∧ r = (0, 0) ∧ w1 = w) ∨ (isWk c s ∧ ∃ c9 : Nat, c = (c9 : Int) ∧ r = (0, 1) ∧ w1 96 c9 = wkN (w 96 c9) s b ∧ ∀ q k, ¬ (q = 96 ∧ k = c9) → ¬ (q = 95 ∧ k = 9) → w1 q k = w q k)
noncomputable def drX (c d1 s v b : Int) (w : qW) (r : qV) (w1 : qW) : Prop := (doorV c d1 s v = 0 ∧ r = (0, 0) ∧ w1 = w) ∨ (doorV c d1 s v = 1 ∧ r = (0, 1) ∧ ∃ c9 d9 : Nat, c = (c9 : Int) ∧ d1 = (d9 : Int) ∧ c9 < 3 ∧ d9 < 10 ∧ (∀ k, w1 (67 + 5 * c9) k = if k = d9 then v else w (67 + 5 * c9) k) ∧ (∀ k, w1 (68 + 5 * c9) k = if k = d9 then b else w (68 + 5 * c9) k) ∧ ∀ q k, q ≠ 66 + 5 * c9 → q ≠ 67 + 5 * c9 → q ≠ 68 + 5 * c9 → w1 q k = w q k)
noncomputable def drR (c d1 s v b : Int) (w : qW) (r : qV) (w1 : qW) : Prop := (doorV c d1 s v = 0 ∧ r = (0, 0) ∧ w1 = w) ∨ (doorV c d1 s v = 1 ∧ r = (0, 1) ∧ ∃ c9 d9 : Nat, c = (c9 : Int) ∧ d1 = (d9 : Int) ∧ c9 < 3 ∧ d9 < 10 ∧ (∀ k, w1 98 k = if k = 10 * c9 + d9 then v else w 98 k) ∧ (∀ k, w1 100 k = if k = 10 * c9 + d9 then b else w 100 k) ∧ ∀ q k, q ≠ 97 → q ≠ 98 → q ≠ 100 → w1 q k = w q k)
noncomputable def JD (w : qW) : Prop := ∀ c : Nat, c < 3 → w (64 + 5 * c) 0 = w 96 c ∧ ∀ d : Nat, d < 10 → w (67 + 5 * c) d = w 98 (10 * c + d) ∧ w (68 + 5 * c) d = w 100 (10 * c + d)
noncomputable def jdM (m : List Nat) : Bool := spo m 67 && (spo m 68 && (spo m 72 && (spo m 73 && (spo m 77 && (spo m 78 && (spo m 96 && (spo m 98 && (spo m 100 && (!ymo 64 0 m && (!ymo 69 0 m && !ymo 74 0 m))))))))))
theorem JD.aw {m : List Nat} {w w1 : qW} (h : JD w) (a : AW m w w1) (hm : jdM m = true) : JD w1 := by
  unfold jdM at hm
  simp only [Bool.and_eq_true, Bool.not_eq_true'] at hm
  obtain ⟨m67, m68, m72, m73, m77, m78, m96, m98, m100, n64, n69, n74⟩ := hm
  intro c hc
  have h0 := h c hc
  rw [a.a (by decide) m96]
  refine ⟨?_, fun d hd => ?_⟩
  · rw [← h0.1]
    rcases (show c = 0 ∨ c = 1 ∨ c = 2 by omega) with rfl | rfl | rfl
    · exact a.2 64 0 (fun _ => n64)
    · exact a.2 69 0 (fun _ => n69)
    · exact a.2 74 0 (fun _ => n74)
  · rw [a.a (by decide) m98, a.a (by decide) m100, ← (h0.2 d hd).1, ← (h0.2 d hd).2]
    rcases (show c = 0 ∨ c = 1 ∨ c = 2 by omega) with rfl | rfl | rfl
    · exact ⟨a.a (p := 67) (by decide) m67 d, a.a (p := 68) (by decide) m68 d⟩
    · exact ⟨a.a (p := 72) (by decide) m72 d, a.a (p := 73) (by decide) m73 d⟩
    · exact ⟨a.a (p := 77) (by decide) m77 d, a.a (p := 78) (by decide) m78 d⟩
theorem JD.works {w w1 w2 : qW} {c s b : Int} {r r2 : qV} (h : JD w) (hX : wkX c s b w r w1) (hR : wkR c s b w1 r2 w2) : JD w2 ∧ r = r2 := by
  rcases hX with ⟨c1, rfl, rfl⟩ | ⟨c1, c9, ec, rfl, x1, x2⟩
  · rcases hR with ⟨c2, rfl, rfl⟩ | ⟨c2, -⟩
    · exact ⟨h, rfl⟩
    · exact absurd c2 c1
  · rcases hR with ⟨c2, -⟩ | ⟨-, c8, ec2, rfl, y1, y2⟩
    · exact absurd c1 c2
    · obtain rfl : c8 = c9 := by omega
      unfold isWk at c1
      refine ⟨fun c' hc' => ?_, rfl⟩
      have h0 := h c' hc'
      have e64 : w2 (64 + 5 * c') 0 = w1 (64 + 5 * c') 0 := y2 _ _ (by omega) (by omega)
      have e96 : w1 96 c' = w 96 c' := x2 _ _ (by omega)
      refine ⟨?_, fun d hd => ?_⟩
      · rw [e64]
        by_cases e : c' = c8
        · subst e
          rw [x1, y1, e96, h0.1]
        · rw [x2 _ _ (by omega), y2 96 c' (by omega) (by omega), e96]
          exact h0.1
      · rw [y2 (67 + 5 * c') d (by omega) (by omega), x2 (67 + 5 * c') d (by omega), y2 98 _ (by omega) (by omega), x2 98 _ (by omega), y2 (68 + 5 * c') d (by omega) (by omega), x2 (68 + 5 * c') d (by omega), y2 100 _ (by omega) (by omega), x2 100 _ (by omega)]
        exact h0.2 d hd
theorem JD.door {w w1 w2 : qW} {c d1 s v b : Int} {r r2 : qV} (h : JD w) (hX : drX c d1 s v b w r w1) (hR : drR c d1 s v b w1 r2 w2) : JD w2 ∧ r = r2 := by
  rcases hX with ⟨c1, rfl, rfl⟩ | ⟨c1, rfl, c9, d9, ec, ed, hc9, hd9, x1, x2, x3⟩
  · rcases hR with ⟨c2, rfl, rfl⟩ | ⟨c2, -⟩
    · exact ⟨h, rfl⟩
    · omega
  · rcases hR with ⟨c2, -⟩ | ⟨-, rfl, c8, d8, ec2, ed2, -, -, y1, y2, y3⟩
    · omega
    · obtain rfl : c8 = c9 := by omega
      obtain rfl : d8 = d9 := by omega
      refine ⟨fun c' hc' => ?_, rfl⟩
      have h0 := h c' hc'
      refine ⟨?_, fun d hd => ?_⟩
      · rw [y3 (64 + 5 * c') 0 (by omega) (by omega) (by omega), x3 (64 + 5 * c') 0 (by omega) (by omega) (by omega), y3 96 c' (by decide) (by decide) (by decide), x3 96 c' (by omega) (by omega) (by omega)]
        exact h0.1
      · have z := h0.2 d hd
        rw [y3 (67 + 5 * c') d (by omega) (by omega) (by omega), y3 (68 + 5 * c') d (by omega) (by omega) (by omega), y1, y2, x3 98 _ (by omega) (by omega) (by omega), x3 100 _ (by omega) (by omega) (by omega)]
        by_cases e : c' = c8
        · subst e
          rw [x1, x2]
          by_cases e2 : d = d8
          · rw [if_pos e2, if_pos e2, if_pos (by omega), if_pos (by omega)]; exact ⟨rfl, rfl⟩
          · rw [if_neg e2, if_neg e2, if_neg (by omega), if_neg (by omega)]; exact z
        · rw [x3 (67 + 5 * c') d (by omega) (by omega) (by omega), x3 (68 + 5 * c') d (by omega) (by omega) (by omega), if_neg (by omega), if_neg (by omega)]
          exact z
end
section
/-! how long the tape is, on both sides -/
noncomputable def fdX (n : Nat) (w : qW) (r : qV) (w1 : qW) : Prop := (¬ n + 20 ≤ 600 ∧ r = (0, -1) ∧ w1 = w) ∨ (n + 20 ≤ 600 ∧ r = (0, ((n + 20 : Nat) : Int)) ∧ w1 8 1 = ((n + 20 : Nat) : Int) ∧ w1 95 25 = w 95 25)
noncomputable def fdR (n : Nat) (w : qW) (r : qV) (w1 : qW) : Prop := (¬ n + 20 ≤ 600 ∧ r = (0, -1) ∧ w1 = w) ∨ (n + 20 ≤ 600 ∧ r = (0, ((n + 20 : Nat) : Int)) ∧ w1 95 25 = ((n + 20 : Nat) : Int) ∧ w1 8 1 = w 8 1)
noncomputable def enX (v : Int) (n : Nat) (w : qW) (r : qV) (w1 : qW) : Prop := (¬ (0 ≤ v ∧ v ≤ (n : Int)) ∧ r = (0, 0) ∧ w1 = w) ∨ ((0 ≤ v ∧ v ≤ (n : Int)) ∧ r = (0, 1) ∧ w1 = qup w 8 1 v)
noncomputable def enR (v : Int) (n : Nat) (w : qW) (r : qV) (w1 : qW) : Prop := (¬ (0 ≤ v ∧ v ≤ (n : Int)) ∧ r = (0, 0) ∧ w1 = w) ∨ ((0 ≤ v ∧ v ≤ (n : Int)) ∧ r = (0, 1) ∧ w1 = qup w 95 25 v)
noncomputable def JL (w : qW) : Prop := w 8 1 = w 95 25
noncomputable def jlM (m : List Nat) : Bool := !ymo 8 1 m && !ymo 95 25 m
theorem JL.aw {m : List Nat} {w w1 : qW} (h : JL w) (a : AW m w w1) (hm : jlM m = true) : JL w1 := by
  unfold jlM at hm
  simp only [Bool.and_eq_true, Bool.not_eq_true'] at hm
  unfold JL
  rw [a.2 8 1 (fun _ => hm.1), a.2 95 25 (fun _ => hm.2)]
  exact h
theorem JL.e {w : qW} (h : JL w) : w 8 1 = w 95 25 := h
theorem JL.feed {w w1 w2 : qW} {n : Nat} {r r2 : qV} (h : JL w) (hX : fdX n w r w1) (hR : fdR n w1 r2 w2) : JL w2 ∧ r = r2 := by
  rcases hX with ⟨c1, rfl, rfl⟩ | ⟨c1, rfl, x1, x2⟩ <;> rcases hR with ⟨c2, rfl, rfl⟩ | ⟨c2, rfl, y1, y2⟩
  · exact ⟨h, rfl⟩
  · exact absurd c2 c1
  · exact absurd c1 c2
  · exact ⟨by unfold JL; rw [y1, y2, x1], rfl⟩
theorem JL.fin {w w1 w2 : qW} {v : Int} {n : Nat} {r r2 : qV} (h : JL w) (hX : enX v n w r w1) (hR : enR v n w1 r2 w2) : JL w2 ∧ r = r2 := by
  rcases hX with ⟨c1, rfl, rfl⟩ | ⟨c1, rfl, rfl⟩ <;> rcases hR with ⟨c2, rfl, rfl⟩ | ⟨c2, rfl, rfl⟩
  · exact ⟨h, rfl⟩
  · exact absurd c2 c1
  · exact absurd c1 c2
  · exact ⟨by unfold JL; simp (disch := decide) only [qup_ne, qup_k], rfl⟩
end
section
/-! the class's hangsTogether and the reference's hangs agree on sets of four spaces at most (pure) -/
theorem hb_t {n j : Nat} (hn : n < 65536) (hj : j < 16) : hbit (n : Int) j = n.testBit j := by
  unfold hbit
  rw [hb_bit hn hj]
  cases n.testBit j <;> rfl
theorem tb_hi {n i : Nat} (hn : n < 65536) (hi : ¬ i < 16) : n.testBit i = false :=
  Nat.testBit_lt_two_pow (Nat.lt_of_lt_of_le (show n < 2 ^ 16 from hn) (Nat.pow_le_pow_right (by decide) (by omega)))
theorem hb_ext {a b : Int} (ha : 0 ≤ a ∧ a ≤ 65535) (hb : 0 ≤ b ∧ b ≤ 65535) (h : ∀ s, s < 16 → hbit a s = hbit b s) : a = b := by
  obtain ⟨n, rfl⟩ : ∃ n : Nat, a = n := ⟨a.toNat, by omega⟩
  obtain ⟨m, rfl⟩ : ∃ m : Nat, b = m := ⟨b.toNat, by omega⟩
  have e : n = m := by
    apply Nat.eq_of_testBit_eq
    intro i
    by_cases hi : i < 16
    · have := h i hi
      rw [hb_t (by omega) hi, hb_t (by omega) hi] at this
      exact this
    · rw [tb_hi (by omega) hi, tb_hi (by omega) hi]
  rw [e]
noncomputable def sbs (a b : Int) : Prop := ∀ s, s < 16 → hbit a s = true → hbit b s = true
theorem sbs.rf (a : Int) : sbs a a := fun _ _ h => h
theorem sbs.tr {a b c : Int} (h : sbs a b) (h2 : sbs b c) : sbs a c := fun s hs z => h2 s hs (h s hs z)
theorem sbs.eq {a b : Int} (ha : 0 ≤ a ∧ a ≤ 65535) (hb : 0 ≤ b ∧ b ≤ 65535) (h : sbs a b) (h2 : sbs b a) : a = b := by
  refine hb_ext ha hb (fun s hs => ?_)
  cases e : hbit a s
  · cases e2 : hbit b s
    · rfl
    · rw [h2 s hs e2] at e; cases e
  · exact (h s hs e).symm
end
section
/-! the class's lowest bit, next set of as many, next spaces, hangsTogether -/
noncomputable def ntz1 (y : Int) : Int × Int := if 65536 < y then (17, qush y 16) else (1, y)
noncomputable def ntz2 (p : Int × Int) : Int × Int := if 256 < p.2 then (p.1 + 8, qush p.2 8) else p
noncomputable def ntz3 (p : Int × Int) : Int × Int := if 16 < p.2 then (p.1 + 4, qush p.2 4) else p
noncomputable def ntz4 (p : Int × Int) : Int × Int := if 4 < p.2 then (p.1 + 2, qush p.2 2) else p
noncomputable def ntz5 (p : Int × Int) : Int := wrp (p.1 + qush p.2 1)
noncomputable def ntzF (x : Int) : Int := if 0 < qand (qxor x (-1)) (wrp (x - 1)) then ntz5 (ntz4 (ntz3 (ntz2 (ntz1 (qand (qxor x (-1)) (wrp (x - 1))))))) else qand (qand (qxor x (-1)) (wrp (x - 1))) 32
noncomputable def gosF (x : Int) : Int := qor (wrp (x + qand x (wrp (-x)))) (qush (qxor x (wrp (x + qand x (wrp (-x))))) (wrp (2 + ntzF x)))
end
section
/-! the class's sets of as many: all of them, in their order -/
noncomputable def gosN (m : Nat) : Nat := (gosF (m : Int)).toNat
noncomputable def gN (m : Nat) : Nat → Nat
  | 0 => m
  | i + 1 => gN (gosN m) i
/-- the first i sets that are poses -/
noncomputable def fpG (w : qW) (c k m i : Nat) : List Nat := ((List.range i).map (gN m)).filter (fpd w c k)
theorem fpG_y {w : qW} {c k m i : Nat} (h : fpd w c k (gN m i) = true) : fpG w c k m (i + 1) = fpG w c k m i ++ [gN m i] := by
  unfold fpG
  rw [List.range_succ, List.map_append, List.filter_append]
  show _ ++ List.filter (fpd w c k) [gN m i] = _
  rw [List.filter_cons_of_pos h]; rfl
theorem fpG_n {w : qW} {c k m i : Nat} (h : fpd w c k (gN m i) = false) : fpG w c k m (i + 1) = fpG w c k m i := by
  unfold fpG
  rw [List.range_succ, List.map_append, List.filter_append]
  show _ ++ List.filter (fpd w c k) [gN m i] = _
  rw [List.filter_cons_of_neg (by rw [h]; exact Bool.false_ne_true)]
  exact List.append_nil _
end
section
/-! the class's findSets: how many poses, and which -/
/-- the class's table after i sets -/
noncomputable def FS (w : qW) (c k m i : Nat) (w9 : qW) : Prop := w9 24 3 = (((fpG w c k m i).length : Nat) : Int) ∧ (∀ j, j < (fpG w c k m i).length → w9 25 j = (((fpG w c k m i).getD j 0 : Nat) : Int)) ∧ ∀ q j, q ≠ 25 → ¬ (q = 24 ∧ j = 3) → w9 q j = w q j
theorem FS.no {w w9 : qW} {c k m i : Nat} (h : FS w c k m i w9) (e : fpd w c k (gN m i) = false) : FS w c k m (i + 1) w9 := by
  unfold FS
  rw [fpG_n e]
  exact h
theorem FS.yes {w w9 : qW} {c k m i : Nat} (h : FS w c k m i w9) (e : fpd w c k (gN m i) = true) : FS w c k m (i + 1) (qup (qup w9 25 (fpG w c k m i).length ((gN m i : Nat) : Int)) 24 3 (((fpG w c k m i).length + 1 : Nat) : Int)) := by
  obtain ⟨h1, h2, h3⟩ := h
  unfold FS
  rw [fpG_y e]
  refine ⟨?_, fun j hj => ?_, fun q j hq hf => ?_⟩
  · rw [qup_k, List.length_append]; rfl
  · rw [List.length_append] at hj
    have hj : j < (fpG w c k m i).length + 1 := hj
    rw [qup_ne (by decide)]
    by_cases z : j = (fpG w c k m i).length
    · rw [z, qup_k, List.getD_eq_getElem?_getD, List.getElem?_append_right (Nat.le_refl _), Nat.sub_self]; rfl
    · rw [qup_j z, h2 j (by omega), List.getD_eq_getElem?_getD, List.getD_eq_getElem?_getD, List.getElem?_append_left (by omega)]
  · rw [qup_f hf, qup_ne hq]
    exact h3 q j hq hf
end
section
/-! the tape's bytes, on both sides -/
theorem low8 {x : Int} {s : Nat} (hs : s ≤ 24) : qand (qshr x (s : Int)) 255 = qand (qush x (s : Int)) 255 := by
  unfold qand qshr qush
  rw [Int32.ofInt_toInt, Int32.ofInt_toInt]
  have a : ∀ i, i < 8 → (Int32.ofInt x >>> (Int32.ofInt (s : Int) &&& 31)).toBitVec.getLsbD i = (Int32.ofInt x).toBitVec.getLsbD (s + i) := fun i hi => by
    rw [Int32.toBitVec_shiftRight, BitVec.sshiftRight', shs32 s (by omega), BitVec.getLsbD_sshiftRight]
    simp [show s + i < 32 by omega, show i < 32 by omega]
  have b : ∀ i, i < 8 → ((Int32.ofInt x).toUInt32 >>> ((Int32.ofInt (s : Int)).toUInt32 &&& Int32.toUInt32 31)).toInt32.toBitVec.getLsbD i = (Int32.ofInt x).toBitVec.getLsbD (s + i) := fun i hi => by
    show ((Int32.ofInt x).toUInt32 >>> ((Int32.ofInt (s : Int)).toUInt32 &&& Int32.toUInt32 31)).toBitVec.getLsbD i = _
    rw [UInt32.toBitVec_shiftRight, BitVec.ushiftRight_eq', ush32 s (by omega), BitVec.getLsbD_ushiftRight]
    rfl
  generalize Int32.ofInt x >>> (Int32.ofInt (s : Int) &&& 31) = z1 at a ⊢
  generalize ((Int32.ofInt x).toUInt32 >>> ((Int32.ofInt (s : Int)).toUInt32 &&& Int32.toUInt32 31)).toInt32 = z2 at b ⊢
  show (z1 &&& Int32.ofInt 255).toBitVec.toInt = (z2 &&& Int32.ofInt 255).toBitVec.toInt
  refine congrArg BitVec.toInt ?_
  rw [Int32.toBitVec_and, Int32.toBitVec_and]
  apply BitVec.eq_of_getLsbD_eq
  intro i hi
  rw [BitVec.getLsbD_and, BitVec.getLsbD_and]
  by_cases h8 : i < 8
  · rw [a i h8, b i h8]
  · have c : (Int32.ofInt 255).toBitVec.getLsbD i = false := Nat.testBit_lt_two_pow (Nat.lt_of_lt_of_le (show (Int32.ofInt 255).toBitVec.toNat < 2 ^ 8 by decide) (Nat.pow_le_pow_right (by decide) (by omega)))
    rw [c, Bool.and_false, Bool.and_false]
theorem and255 (x : Int) : qand x 255 = x % 256 := by
  have h := qand_r (x := x) (b := 255) (by decide)
  have h : qand x 255 = (((x % 4294967296).toNat &&& 255 : Nat) : Int) := h
  rw [h, show (x % 4294967296).toNat &&& 255 = (x % 4294967296).toNat % 256 from Nat.and_two_pow_sub_one_eq_mod _ 8]
  omega
theorem byte_eq {x : Int} {s : Nat} (hs : s ≤ 24) : qand (qshr x (s : Int)) 255 = qi2b (qush x (s : Int)) % 256 := by
  rw [low8 hs, and255]
  unfold qi2b
  omega
noncomputable def vF (a b c e f : Int) (i : Nat) : Int := if i < 4 then a else if i < 8 then b else if i < 12 then c else if i < 16 then e else f
noncomputable def fbX (a b c e f : Int) (n : Nat) (w : qW) (r : qV) (w1 : qW) : Prop := (¬ n + 20 ≤ 600 ∧ r = (0, -1) ∧ w1 = w) ∨ (n + 20 ≤ 600 ∧ r = (0, ((n + 20 : Nat) : Int)) ∧ w1 8 1 = ((n + 20 : Nat) : Int) ∧ (∀ i, i < 20 → w1 9 (n + i) = qi2b (qush (vF a b c e f i) ((24 - 8 * (i % 4) : Nat) : Int))) ∧ ∀ q k, ¬ (q = 9 ∧ n ≤ k ∧ k < n + 20) → ¬ (q = 8 ∧ k = 1) → w1 q k = w q k)
noncomputable def fbR (a b c e f : Int) (n : Nat) (w : qW) (r : qV) (w1 : qW) : Prop := (¬ n + 20 ≤ 600 ∧ r = (0, -1) ∧ w1 = w) ∨ (n + 20 ≤ 600 ∧ r = (0, ((n + 20 : Nat) : Int)) ∧ w1 95 25 = ((n + 20 : Nat) : Int) ∧ (∀ i, i < 20 → w1 114 (n + i) = qand (qshr (vF a b c e f i) ((24 - 8 * (i % 4) : Nat) : Int)) 255) ∧ ∀ q k, ¬ (q = 114 ∧ n ≤ k ∧ k < n + 20) → ¬ (q = 95 ∧ k = 25) → w1 q k = w q k)
/-- as long, and the same bytes -/
noncomputable def JM (w : qW) : Prop := w 8 1 = w 95 25 ∧ ∀ j : Nat, (j : Int) < w 95 25 → w 114 j = w 9 j % 256

noncomputable def jmM (m : List Nat) : Bool := spo m 9 && (spo m 114 && (!ymo 8 1 m && !ymo 95 25 m))
theorem JM.aw {m : List Nat} {w w1 : qW} (h : JM w) (a : AW m w w1) (hm : jmM m = true) : JM w1 := by
  unfold jmM at hm
  simp only [Bool.and_eq_true, Bool.not_eq_true'] at hm
  obtain ⟨m1, m2, m3, m4⟩ := hm
  refine ⟨?_, fun j hj => ?_⟩
  · rw [a.2 8 1 (fun _ => m3), a.2 95 25 (fun _ => m4)]; exact h.1
  · rw [a.2 95 25 (fun _ => m4)] at hj
    rw [a.a (by decide) m1, a.a (by decide) m2]; exact h.2 j hj
theorem JM.feed {w w1 w2 : qW} {a b c e f : Int} {n : Nat} {r r2 : qV} (h : JM w) (hn : w 8 1 = (n : Int)) (hX : fbX a b c e f n w r w1) (hR : fbR a b c e f n w1 r2 w2) : JM w2 ∧ r = r2 := by
  rcases hX with ⟨c1, rfl, rfl⟩ | ⟨c1, rfl, x1, x2, x3⟩ <;> rcases hR with ⟨c2, rfl, rfl⟩ | ⟨c2, rfl, y1, y2, y3⟩
  · exact ⟨h, rfl⟩
  · exact absurd c2 c1
  · exact absurd c1 c2
  · refine ⟨⟨?_, fun j hj => ?_⟩, rfl⟩
    · rw [y1, y3 8 1 (by omega) (by omega), x1]
    · rw [y1] at hj
      by_cases hjn : j < n
      · rw [y3 114 j (by omega) (by omega), y3 9 j (by omega) (by omega), x3 114 j (by omega) (by omega), x3 9 j (by omega) (by omega)]
        exact h.2 j (by rw [← h.1, hn]; omega)
      · obtain ⟨i, rfl⟩ : ∃ i, j = n + i := ⟨j - n, by omega⟩
        rw [y2 i (by omega), y3 9 (n + i) (by omega) (by omega), x2 i (by omega)]
        exact byte_eq (by omega)
theorem JM.fin {w w1 w2 : qW} {v : Int} {n : Nat} {r r2 : qV} (h : JM w) (hn : w 8 1 = (n : Int)) (hX : enX v n w r w1) (hR : enR v n w1 r2 w2) : JM w2 ∧ r = r2 := by
  rcases hX with ⟨c1, rfl, rfl⟩ | ⟨c1, rfl, rfl⟩ <;> rcases hR with ⟨c2, rfl, rfl⟩ | ⟨c2, rfl, rfl⟩
  · exact ⟨h, rfl⟩
  · exact absurd c2 c1
  · exact absurd c1 c2
  · refine ⟨⟨by simp (disch := decide) only [qup_ne, qup_k], fun j hj => ?_⟩, rfl⟩
    rw [qup_k] at hj
    rw [qup_ne (by decide), qup_ne (by decide), qup_ne (by decide), qup_ne (by decide)]
    exact h.2 j (by rw [← h.1, hn]; omega)
theorem JM.zero {w2 : qW} (hX : w2 8 1 = 0) (hR : w2 95 25 = 0) : JM w2 := ⟨hX.trans hR.symm, fun j hj => absurd hj (by rw [hR]; omega)⟩
end
