section
/-! what holds between the law's calls -/
noncomputable def SP (w : qW) : Prop := yInv zgf zga zra zSp w ∧ Sp1 w ∧ Sp2 w ∧ S3 w
noncomputable def spo (m : List Nat) (p : Nat) : Bool := m.all (fun e => !Nat.beq (e % 1000) p)
noncomputable def spm2 (m : List Nat) : Bool := spo m 104 && (spo m 105 && (spo m 111 && (spo m 112 && !ymo 95 22 m)))
noncomputable def spm (m : List Nat) : Bool := spm2 m && (spo m 102 && (spo m 103 && !ymo 95 8 m))
theorem SP.aw2 {m : List Nat} {w w1 : qW} (h : SP w) (a : AW m w w1) (hm : spm2 m = true) (hS : S3 w1) : SP w1 := by
  unfold spm2 at hm
  simp only [Bool.and_eq_true, Bool.not_eq_true'] at hm
  obtain ⟨m1, m2, m3, m4, m5⟩ := hm
  exact ⟨a.1, h.2.1.aw a m1 m2, h.2.2.1.aw a m5 m3 m4, hS⟩
theorem SP.aw {m : List Nat} {w w1 : qW} (h : SP w) (a : AW m w w1) (hm : spm m = true) : SP w1 := by
  unfold spm at hm
  simp only [Bool.and_eq_true, Bool.not_eq_true'] at hm
  obtain ⟨m1, m2, m3, m4⟩ := hm
  exact h.aw2 a m1 (h.2.2.2.aw a m4 m2 m3)
theorem SP.sq {m : List Nat} {w w1 : qW} {r : qV} {n1 : Nat} (h : SP w) (q : SQ m w r w1 n1) (hm : spm2 m = true) : SP w1 := h.aw2 q.2.2.1 hm q.2.2.2
theorem SP.tx {w w1 : qW} {r : qV} {n1 : Nat} (h : SP w) (q : TXQ w r w1 n1) : SP w1 := ⟨q.2.2.1.1, q.2.2.2.1 h.2.1, q.2.2.2.2 h.2.2.1, h.2.2.2.aw q.2.2.1 rfl (by decide) (by decide)⟩
/-- a call by its contract -/
theorem SP.use {t : Nat} {c : yC} {w : qW} {d : Nat} {as : List qV} (T : yCOK w zgf zga zra zSp zgh t c) (h : SP w) (hd : c.1 ≤ d) (ha : yamc c.2.1 as) (hn : c.2.2.2.2.1 = []) (hp : c.2.2.2.2.2.1 = []) (hs : spm c.2.2.2.1 = true) : qG none d t 0 (qini t as) [] w 142 (fun v w' n' => ∃ x, v = (c.2.2.1.1, x) ∧ c.2.2.1.2.1 ≤ x ∧ x ≤ c.2.2.1.2.2 ∧ SP w' ∧ n' = 142) := by
  refine qG.mono (T d as w hd ha h.1 (fun p hp => by rw [hn] at hp; cases hp) (fun e he => by rw [hp] at he; cases he)) (fun v w' n' hh => ?_)
  obtain ⟨⟨h1, h2, h3⟩, h4, h5, h6, -, -⟩ := hh
  exact ⟨v.2, Prod.ext h1 rfl, h2, h3, h.aw (m := c.2.2.2.1) ⟨h4, h6⟩ hs, h5⟩
end
section
/-! what wall answers -/
theorem qG.and {sc : Option (Nat × (Nat → Int))} {d k pc n : Nat} {ls st : List qV} {w : qW} {Q R : qV → qW → Nat → Prop} (h : qG sc d k pc ls st w n Q) (h2 : qG sc d k pc ls st w n R) : qG sc d k pc ls st w n (fun v w' n' => Q v w' n' ∧ R v w' n') := by
  obtain ⟨f, v, w1, n1, e, q⟩ := h
  obtain ⟨g, v2, w2, n2, e2, q2⟩ := h2
  have a := qex_le (Nat.le_max_left f g) _ _ _ _ _ _ _ _ _ e
  have b := qex_le (Nat.le_max_right f g) _ _ _ _ _ _ _ _ _ e2
  rw [a] at b
  cases b
  exact ⟨_, v, w1, n1, a, q, q2⟩
end
section
/-! what door answers -/
/-- what putDoor answers -/
noncomputable def pdV (d s v : Int) : Int := if ((0 ≤ d ∧ d ≤ 9) ∧ 0 ≤ s ∧ s ≤ 1) ∧ (0 ≤ v ∧ v ≤ 65535) ∧ qand v (if s = 0 then 65280 else 255) = 0 then 1 else 0
noncomputable def doorV (c d s v : Int) : Int := if isInV c 0 2 = 0 then 0 else pdV d s v
theorem isIn_b {c a b : Int} : isInV c a b = 0 ↔ ¬ (a ≤ c ∧ c ≤ b) := by unfold isInV; split <;> (try split) <;> constructor <;> intro h <;> omega
end
section
/-! the couples told and the moves played, on both sides -/
/-- a call by its contract: SP is kept, and what its places leave alone; joined with what a walk by hand tells -/
theorem SP.useX {t : Nat} {c : yC} {w : qW} {d : Nat} {as : List qV} {R : qV → qW → Nat → Prop} (T : yCOK w zgf zga zra zSp zgh t c) (h : SP w) (hd : c.1 ≤ d) (ha : yamc c.2.1 as) (hn : c.2.2.2.2.1 = []) (hp : c.2.2.2.2.2.1 = []) (hs : spm c.2.2.2.1 = true) (hx : qG none d t 0 (qini t as) [] w 142 R) : qG none d t 0 (qini t as) [] w 142 (fun v w' n' => (∃ x, v = (c.2.2.1.1, x)) ∧ SP w' ∧ n' = 142 ∧ AW c.2.2.2.1 w w' ∧ R v w' n') := by
  refine qG.mono (qG.and (T d as w hd ha h.1 (fun p hp => by rw [hn] at hp; cases hp) (fun e he => by rw [hp] at he; cases he)) hx) (fun v w' n' hh => ?_)
  obtain ⟨⟨⟨h1, h2, h3⟩, h4, h5, h6, -, -⟩, h7⟩ := hh
  have a : AW c.2.2.2.1 w w' := ⟨h4, h6⟩
  exact ⟨⟨v.2, Prod.ext h1 rfl⟩, h.aw a hs, h5, a, h7⟩
theorem SP.useA {t : Nat} {c : yC} {w : qW} {d : Nat} {as : List qV} (T : yCOK w zgf zga zra zSp zgh t c) (h : SP w) (hd : c.1 ≤ d) (ha : yamc c.2.1 as) (hn : c.2.2.2.2.1 = []) (hp : c.2.2.2.2.2.1 = []) (hs : spm c.2.2.2.1 = true) : qG none d t 0 (qini t as) [] w 142 (fun v w' n' => ∃ x, v = (c.2.2.1.1, x) ∧ c.2.2.1.2.1 ≤ x ∧ x ≤ c.2.2.1.2.2 ∧ SP w' ∧ n' = 142 ∧ AW c.2.2.2.1 w w' ∧ ∀ e ∈ c.2.2.2.2.2.2.1, w' e.1 e.2.1 = e.2.2) := by
  refine qG.mono (T d as w hd ha h.1 (fun p hp => by rw [hn] at hp; cases hp) (fun e he => by rw [hp] at he; cases he)) (fun v w' n' hh => ?_)
  obtain ⟨⟨h1, h2, h3⟩, h4, h5, h6, h7, -⟩ := hh
  have a : AW c.2.2.2.1 w w' := ⟨h4, h6⟩
  exact ⟨v.2, Prod.ext h1 rfl, h2, h3, h.aw a hs, h5, a, fun e he => (h7 e he).2⟩
theorem isIn_p {c a b : Int} : (¬ isInV c a b = 0) ↔ (a ≤ c ∧ c ≤ b) := by rw [isIn_b]; exact Decidable.not_not
/-- two moves told as a couple, one move played -/
noncomputable def camC (f t a b : Int) (n : Nat) : Prop := ((((0 ≤ f ∧ f ≤ 63) ∧ 0 ≤ t ∧ t ≤ 63) ∧ ¬ f = t) ∧ ((0 ≤ a ∧ a ≤ 63) ∧ 0 ≤ b ∧ b ≤ 63) ∧ ¬ a = b) ∧ n < 60
noncomputable def camW (p j q1 q2 : Nat) (f t a b : Int) (n : Nat) (w : qW) : qW := qup (qup (qup w q1 n (64 * f + t)) q2 n (64 * a + b)) p j ((n + 1 : Nat) : Int)
noncomputable def camE (p j q1 q2 : Nat) (f t a b : Int) (n : Nat) (w : qW) (r : qV) (w1 : qW) : Prop := (¬ camC f t a b n ∧ r = (0, -1) ∧ w1 = w) ∨ (camC f t a b n ∧ r = (0, ((n + 1 : Nat) : Int)) ∧ w1 = camW p j q1 q2 f t a b n w)
noncomputable def gamC (f t : Int) (n : Nat) : Prop := (((0 ≤ f ∧ f ≤ 63) ∧ 0 ≤ t ∧ t ≤ 63) ∧ ¬ f = t) ∧ n < 40
noncomputable def gamE (p j q1 : Nat) (f t : Int) (n : Nat) (w : qW) (r : qV) (w1 : qW) : Prop := (¬ gamC f t n ∧ r = (0, -1) ∧ w1 = w) ∨ (gamC f t n ∧ r = (0, ((n + 1 : Nat) : Int)) ∧ w1 = qup (qup w q1 n (64 * f + t)) p j ((n + 1 : Nat) : Int))
noncomputable def JA (w : qW) : Prop := w 57 2 = w 95 71 ∧ w 57 4 = w 95 72 ∧ (∀ j, w 58 j = w 138 j) ∧ (∀ j, w 59 j = w 139 j) ∧ ∀ j, w 60 j = w 140 j
noncomputable def jaM (m : List Nat) : Bool := spo m 58 && (spo m 59 && (spo m 60 && (spo m 138 && (spo m 139 && (spo m 140 && (!ymo 57 2 m && (!ymo 57 4 m && (!ymo 95 71 m && !ymo 95 72 m))))))))
theorem JA.aw {m : List Nat} {w w1 : qW} (h : JA w) (a : AW m w w1) (hm : jaM m = true) : JA w1 := by
  unfold jaM at hm
  simp only [Bool.and_eq_true, Bool.not_eq_true'] at hm
  obtain ⟨m1, m2, m3, m4, m5, m6, m7, m8, m9, m10⟩ := hm
  refine ⟨?_, ?_, fun j => ?_, fun j => ?_, fun j => ?_⟩
  · rw [a.2 57 2 (fun _ => m7), a.2 95 71 (fun _ => m9)]; exact h.1
  · rw [a.2 57 4 (fun _ => m8), a.2 95 72 (fun _ => m10)]; exact h.2.1
  · rw [a.a (by decide) m1, a.a (by decide) m4]; exact h.2.2.1 j
  · rw [a.a (by decide) m2, a.a (by decide) m5]; exact h.2.2.2.1 j
  · rw [a.a (by decide) m3, a.a (by decide) m6]; exact h.2.2.2.2 j
theorem qup_if {w : qW} {p n : Nat} {v : Int} (j : Nat) : qup w p n v p j = if j = n then v else w p j := by
  split
  · rename_i e; rw [e, qup_k]
  · rename_i e; rw [qup_j e]
theorem JA.cam {w w1 w2 : qW} {f t a b : Int} {n : Nat} {r r2 : qV} (h : JA w) (hX : camE 57 2 58 59 f t a b n w r w1) (hR : camE 95 71 138 139 f t a b n w1 r2 w2) : JA w2 ∧ r = r2 := by
  rcases hX with ⟨c1, rfl, rfl⟩ | ⟨c1, rfl, rfl⟩ <;> rcases hR with ⟨c2, rfl, rfl⟩ | ⟨c2, rfl, rfl⟩
  · exact ⟨h, rfl⟩
  · exact absurd c2 c1
  · exact absurd c1 c2
  · refine ⟨⟨?_, ?_, fun j => ?_, fun j => ?_, fun j => ?_⟩, rfl⟩
    · unfold camW; simp (disch := decide) only [qup_ne, qup_k]
    · unfold camW; simp (disch := decide) only [qup_ne, qup_j]; exact h.2.1
    · unfold camW; simp (disch := decide) only [qup_ne, qup_if]; rw [h.2.2.1 j]
    · unfold camW; simp (disch := decide) only [qup_ne, qup_if]; rw [h.2.2.2.1 j]
    · unfold camW; simp (disch := decide) only [qup_ne]; exact h.2.2.2.2 j
theorem JA.game {w w1 w2 : qW} {f t : Int} {n : Nat} {r r2 : qV} (h : JA w) (hX : gamE 57 4 60 f t n w r w1) (hR : gamE 95 72 140 f t n w1 r2 w2) : JA w2 ∧ r = r2 := by
  rcases hX with ⟨c1, rfl, rfl⟩ | ⟨c1, rfl, rfl⟩ <;> rcases hR with ⟨c2, rfl, rfl⟩ | ⟨c2, rfl, rfl⟩
  · exact ⟨h, rfl⟩
  · exact absurd c2 c1
  · exact absurd c1 c2
  · refine ⟨⟨?_, ?_, fun j => ?_, fun j => ?_, fun j => ?_⟩, rfl⟩
    · simp (disch := decide) only [qup_ne, qup_j]; exact h.1
    · simp (disch := decide) only [qup_ne, qup_k]
    · simp (disch := decide) only [qup_ne]; exact h.2.2.1 j
    · simp (disch := decide) only [qup_ne]; exact h.2.2.2.1 j
    · simp (disch := decide) only [qup_ne, qup_if]; rw [h.2.2.2.2 j]
theorem JA.alone {w w1 w2 : qW} {x : Int} (h : JA w) (a : AW [5057] w w1) (e : w1 57 4 = if x = 2 then 0 else w 57 4) (a2 : AW [73095] w1 w2) (e2 : w2 95 72 = if x = 2 then 0 else w1 95 72) : JA w2 := by
  have q : ∀ p j, ymo p j [5057] = false → ymo p j [73095] = false → w2 p j = w p j := fun p j h1 h2 => (a2.2 p j (fun _ => h2)).trans (a.2 p j (fun _ => h1))
  have r : ∀ p, p < 1000 → spo [5057] p = true → spo [73095] p = true → ∀ j, w2 p j = w p j := fun p hp h1 h2 j => q p j (ymo_far hp h1 j) (ymo_far hp h2 j)
  refine ⟨?_, ?_, fun j => ?_, fun j => ?_, fun j => ?_⟩
  · rw [q 57 2 rfl rfl, q 95 71 rfl rfl]; exact h.1
  · rw [a2.2 57 4 (fun _ => rfl), e, e2, a.2 95 72 (fun _ => rfl)]
    split
    · rfl
    · exact h.2.1
  · rw [r 58 (by decide) (by decide) (by decide), r 138 (by decide) (by decide) (by decide)]; exact h.2.2.1 j
  · rw [r 59 (by decide) (by decide) (by decide), r 139 (by decide) (by decide) (by decide)]; exact h.2.2.2.1 j
  · rw [r 60 (by decide) (by decide) (by decide), r 140 (by decide) (by decide) (by decide)]; exact h.2.2.2.2 j
end
section
/-! the board on both sides -/
noncomputable def nbF (B : Nat → Int) (f t : Nat) (bc : Int) (j : Nat) : Int := if j = f then 0 else if j = t then (if bc = -1 then B f else bc) else B j
noncomputable def nkF (K S : Nat → Int) (f t : Nat) (j : Nat) : Int := if S t = 0 ∧ j = t then (if S f = 0 then (if K f = 0 then 13 else K f) else 13) else if S f = 0 ∧ j = f then 0 else K j
noncomputable def movC (B : Nat → Int) (f t bc : Int) : Prop := ((((0 ≤ f ∧ f ≤ 63) ∧ 0 ≤ t ∧ t ≤ 63) ∧ ¬ f = t) ∧ ¬ B f.toNat = 0) ∧ (bc = -1 ∨ (1 ≤ bc ∧ bc ≤ 12))
noncomputable def movE (a b c : Nat) (f t bc : Int) (w : qW) (r : qV) (w1 : qW) : Prop := (¬ movC (w a) f t bc ∧ r = (0, 0) ∧ w1 = w) ∨ (movC (w a) f t bc ∧ r = (0, 1) ∧ (∀ j, w1 a j = nbF (w a) f.toNat t.toNat bc j) ∧ (∀ j, w1 b j = nkF (w b) (w c) f.toNat t.toNat j) ∧ ∀ j, w1 c j = w c j)
noncomputable def pieE (a b c : Nat) (s p : Int) (w : qW) (r : qV) (w1 : qW) : Prop := (¬ ((0 ≤ s ∧ s ≤ 63) ∧ 0 ≤ p ∧ p ≤ 12) ∧ r = (0, 0) ∧ w1 = w) ∨ (((0 ≤ s ∧ s ≤ 63) ∧ 0 ≤ p ∧ p ≤ 12) ∧ r = (0, 1) ∧ (∀ j, w1 a j = if j = s.toNat then p else w a j) ∧ (∀ j, w1 b j = if j = s.toNat then p else w b j) ∧ ∀ j, w1 c j = w c j)
noncomputable def stiE (a b c : Nat) (s p : Int) (w : qW) (r : qV) (w1 : qW) : Prop := (¬ (0 ≤ s ∧ s ≤ 63) ∧ r = (0, 0) ∧ w1 = w) ∨ ((0 ≤ s ∧ s ≤ 63) ∧ r = (0, 1) ∧ (∀ j, w1 a j = w a j) ∧ (∀ j, w1 b j = w b j) ∧ ∀ j, w1 c j = if j = s.toNat then p else w c j)
noncomputable def JB (w : qW) : Prop := (∀ j, w 42 j = w 122 j) ∧ (∀ j, w 43 j = w 123 j) ∧ ∀ j, w 44 j = w 124 j
noncomputable def jbM (m : List Nat) : Bool := spo m 42 && (spo m 43 && (spo m 44 && (spo m 122 && (spo m 123 && spo m 124))))
theorem JB.aw {m : List Nat} {w w1 : qW} (h : JB w) (a : AW m w w1) (hm : jbM m = true) : JB w1 := by
  unfold jbM at hm
  simp only [Bool.and_eq_true] at hm
  obtain ⟨m1, m2, m3, m4, m5, m6⟩ := hm
  refine ⟨fun j => ?_, fun j => ?_, fun j => ?_⟩
  · rw [a.a (by decide) m1, a.a (by decide) m4]; exact h.1 j
  · rw [a.a (by decide) m2, a.a (by decide) m5]; exact h.2.1 j
  · rw [a.a (by decide) m3, a.a (by decide) m6]; exact h.2.2 j
/-- the class's call leaves the reference's rows alone, and the other way round -/
theorem JB.fr {m : List Nat} {w w1 : qW} (a : AW m w w1) (h4 : spo m 122 = true) (h5 : spo m 123 = true) (h6 : spo m 124 = true) : w1 122 = w 122 ∧ w1 123 = w 123 ∧ w1 124 = w 124 := ⟨funext (a.a (by decide) h4), funext (a.a (by decide) h5), funext (a.a (by decide) h6)⟩
theorem JB.fx {m : List Nat} {w w1 : qW} (a : AW m w w1) (h4 : spo m 42 = true) (h5 : spo m 43 = true) (h6 : spo m 44 = true) : w1 42 = w 42 ∧ w1 43 = w 43 ∧ w1 44 = w 44 := ⟨funext (a.a (by decide) h4), funext (a.a (by decide) h5), funext (a.a (by decide) h6)⟩
theorem JB.eq {w : qW} (h : JB w) : w 42 = w 122 ∧ w 43 = w 123 ∧ w 44 = w 124 := ⟨funext h.1, funext h.2.1, funext h.2.2⟩
theorem JB.move {m m2 : List Nat} {w w1 w2 : qW} {f t bc : Int} {r r2 : qV} (h : JB w) (hX : movE 42 43 44 f t bc w r w1) (a : AW m w w1) (hm : (spo m 122 && (spo m 123 && spo m 124)) = true) (hR : movE 122 123 124 f t bc w1 r2 w2) (a2 : AW m2 w1 w2) (hm2 : (spo m2 42 && (spo m2 43 && spo m2 44)) = true) : JB w2 ∧ r = r2 := by
  simp only [Bool.and_eq_true] at hm hm2
  obtain ⟨q1, q2, q3⟩ := JB.fr a hm.1 hm.2.1 hm.2.2
  obtain ⟨p1, p2, p3⟩ := JB.fx a2 hm2.1 hm2.2.1 hm2.2.2
  obtain ⟨e1, e2, e3⟩ := h.eq
  unfold movE at hR
  rw [q1, q2, q3, ← e1, ← e2, ← e3] at hR
  unfold JB
  rw [p1, p2, p3]
  rcases hX with ⟨c1, rfl, rfl⟩ | ⟨c1, rfl, b1, b2, b3⟩ <;> rcases hR with ⟨c2, rfl, rfl⟩ | ⟨c2, rfl, d1, d2, d3⟩
  · exact ⟨h, rfl⟩
  · exact absurd c2 c1
  · exact absurd c1 c2
  · exact ⟨⟨fun j => (b1 j).trans (d1 j).symm, fun j => (b2 j).trans (d2 j).symm, fun j => (b3 j).trans (d3 j).symm⟩, rfl⟩
theorem JB.piece {m m2 : List Nat} {w w1 w2 : qW} {s p : Int} {r r2 : qV} (h : JB w) (hX : pieE 42 43 44 s p w r w1) (a : AW m w w1) (hm : (spo m 122 && (spo m 123 && spo m 124)) = true) (hR : pieE 122 123 124 s p w1 r2 w2) (a2 : AW m2 w1 w2) (hm2 : (spo m2 42 && (spo m2 43 && spo m2 44)) = true) : JB w2 ∧ r = r2 := by
  simp only [Bool.and_eq_true] at hm hm2
  obtain ⟨q1, q2, q3⟩ := JB.fr a hm.1 hm.2.1 hm.2.2
  obtain ⟨p1, p2, p3⟩ := JB.fx a2 hm2.1 hm2.2.1 hm2.2.2
  obtain ⟨e1, e2, e3⟩ := h.eq
  unfold pieE at hR
  rw [q1, q2, q3, ← e1, ← e2, ← e3] at hR
  unfold JB
  rw [p1, p2, p3]
  rcases hX with ⟨c1, rfl, rfl⟩ | ⟨c1, rfl, b1, b2, b3⟩ <;> rcases hR with ⟨c2, rfl, rfl⟩ | ⟨c2, rfl, d1, d2, d3⟩
  · exact ⟨h, rfl⟩
  · exact absurd c2 c1
  · exact absurd c1 c2
  · exact ⟨⟨fun j => (b1 j).trans (d1 j).symm, fun j => (b2 j).trans (d2 j).symm, fun j => (b3 j).trans (d3 j).symm⟩, rfl⟩
theorem JB.stick {m m2 : List Nat} {w w1 w2 : qW} {s p : Int} {r r2 : qV} (h : JB w) (hX : stiE 42 43 44 s p w r w1) (a : AW m w w1) (hm : (spo m 122 && (spo m 123 && spo m 124)) = true) (hR : stiE 122 123 124 s p w1 r2 w2) (a2 : AW m2 w1 w2) (hm2 : (spo m2 42 && (spo m2 43 && spo m2 44)) = true) : JB w2 ∧ r = r2 := by
  simp only [Bool.and_eq_true] at hm hm2
  obtain ⟨q1, q2, q3⟩ := JB.fr a hm.1 hm.2.1 hm.2.2
  obtain ⟨p1, p2, p3⟩ := JB.fx a2 hm2.1 hm2.2.1 hm2.2.2
  obtain ⟨e1, e2, e3⟩ := h.eq
  unfold stiE at hR
  rw [q1, q2, q3, ← e1, ← e2, ← e3] at hR
  unfold JB
  rw [p1, p2, p3]
  rcases hX with ⟨c1, rfl, rfl⟩ | ⟨c1, rfl, b1, b2, b3⟩ <;> rcases hR with ⟨c2, rfl, rfl⟩ | ⟨c2, rfl, d1, d2, d3⟩
  · exact ⟨h, rfl⟩
  · exact absurd c2 c1
  · exact absurd c1 c2
  · exact ⟨⟨fun j => (b1 j).trans (d1 j).symm, fun j => (b2 j).trans (d2 j).symm, fun j => (b3 j).trans (d3 j).symm⟩, rfl⟩
end
section
/-! the writers on both sides -/
noncomputable def wriC (y c : Int) (n : Nat) : Prop := ((0 ≤ y ∧ y ≤ 99) ∧ 0 ≤ c ∧ c ≤ 1073741823) ∧ n < 20
noncomputable def wriE (p j q1 q2 : Nat) (y c : Int) (n : Nat) (w : qW) (r : qV) (w1 : qW) : Prop := (¬ wriC y c n ∧ r = (0, -1) ∧ w1 = w) ∨ (wriC y c n ∧ r = (0, ((n : Nat) : Int)) ∧ w1 = qup (qup (qup w q1 n y) q2 n c) p j ((n + 1 : Nat) : Int))
noncomputable def truE (p j : Nat) (c : Int) (w : qW) (r : qV) (w1 : qW) : Prop := (¬ (0 ≤ c ∧ c ≤ 1073741823) ∧ r = (0, 0) ∧ w1 = w) ∨ ((0 ≤ c ∧ c ≤ 1073741823) ∧ r = (0, 1) ∧ w1 = qup w p j c)
theorem K_X10_add {d : Nat} (hd : 0 ≤ d) (y c : Int) (n : Nat) (hn9 : n ≤ 20) (w : qW) (hI : yInv zgf zga zra zSp w) (hn : w 61 2 = (n : Int)) : qG none d 155 0 [(2, 61), (0, y), (0, c)] [] w 142 (fun (r : qV) (w1 : qW) (n1 : Nat) => n1 = 142 ∧ wriE 61 2 62 63 y c n w r w1) := by
  generalize hQ9 : (fun (r : qV) (w1 : qW) (n1 : Nat) => n1 = 142 ∧ wriE 61 2 62 63 y c n w r w1) = Q9
  obtain ⟨N6, hN6⟩ : ∃ N : Int, N = 1073741823 := ⟨_, rfl⟩
  refine qG.blk 1 (pc' := 1) (ls' := [(2, 61), (0, y), (0, c)]) (st' := [(0, y)]) (w' := w) (n' := 142) rfl ?_
  refine qG.br (P := y < 0) (pc1 := 29) (pc2 := 4) (st1 := []) rfl (fun h1 => ?_) (fun h1 => ?_)
  · skip
    refine qG.blk 1 (pc' := 30) (ls' := [(2, 61), (0, y), (0, c)]) (st' := [(0, (-1))]) (w' := w) (n' := 142) rfl ?_
    refine qG.ret rfl rfl ?_
    subst hQ9
    refine ⟨rfl, ?_⟩; (first | exact .inl ⟨by unfold wriC; omega, rfl, rfl⟩ | exact .inr ⟨by unfold wriC; omega, rfl, rfl⟩)
  · skip
    refine qG.blk 2 (pc' := 7) (ls' := [(2, 61), (0, y), (0, c)]) (st' := [(0, 99), (0, y)]) (w' := w) (n' := 142) rfl ?_
    refine qG.br (P := 99 < y) (pc1 := 29) (pc2 := 10) (st1 := []) rfl (fun h2 => ?_) (fun h2 => ?_)
    · skip
      refine qG.blk 1 (pc' := 30) (ls' := [(2, 61), (0, y), (0, c)]) (st' := [(0, (-1))]) (w' := w) (n' := 142) rfl ?_
      refine qG.ret rfl rfl ?_
      subst hQ9
      refine ⟨rfl, ?_⟩; (first | exact .inl ⟨by unfold wriC; omega, rfl, rfl⟩ | exact .inr ⟨by unfold wriC; omega, rfl, rfl⟩)
    · skip
      refine qG.blk 1 (pc' := 11) (ls' := [(2, 61), (0, y), (0, c)]) (st' := [(0, c)]) (w' := w) (n' := 142) rfl ?_
      refine qG.br (P := c < 0) (pc1 := 29) (pc2 := 14) (st1 := []) rfl (fun h3 => ?_) (fun h3 => ?_)
      · skip
        refine qG.blk 1 (pc' := 30) (ls' := [(2, 61), (0, y), (0, c)]) (st' := [(0, (-1))]) (w' := w) (n' := 142) rfl ?_
        refine qG.ret rfl rfl ?_
        subst hQ9
        refine ⟨rfl, ?_⟩; (first | exact .inl ⟨by unfold wriC; omega, rfl, rfl⟩ | exact .inr ⟨by unfold wriC; omega, rfl, rfl⟩)
      · skip
        refine qG.blk 2 (pc' := 17) (ls' := [(2, 61), (0, y), (0, c)]) (st' := [(0, 1073741823), (0, c)]) (w' := w) (n' := 142) rfl ?_
        rw [show (1073741823 : Int) = N6 from hN6.symm]
        refine qG.br (P := N6 < c) (pc1 := 29) (pc2 := 20) (st1 := []) rfl (fun h4 => ?_) (fun h4 => ?_)
        · skip
          refine qG.blk 1 (pc' := 30) (ls' := [(2, 61), (0, y), (0, c)]) (st' := [(0, (-1))]) (w' := w) (n' := 142) rfl ?_
          refine qG.ret rfl rfl ?_
          subst hQ9
          refine ⟨rfl, ?_⟩; (first | exact .inl ⟨by unfold wriC; omega, rfl, rfl⟩ | exact .inr ⟨by unfold wriC; omega, rfl, rfl⟩)
        · skip
          refine qG.blk 2 (pc' := 24) (ls' := [(2, 61), (0, y), (0, c)]) (st' := [(0, w 61 2)]) (w' := w) (n' := 142) rfl ?_
          rw [show w 61 2 = ((n : Nat) : Int) from hn]
          refine qG.blk 1 (pc' := 26) (ls' := [(2, 61), (0, y), (0, c)]) (st' := [(0, 20), (0, ((n : Nat) : Int))]) (w' := w) (n' := 142) rfl ?_
          refine qG.br (P := ((n : Nat) : Int) < 20) (pc1 := 31) (pc2 := 29) (st1 := []) rfl (fun hc => ?_) (fun hc => ?_)
          · skip
            refine qG.blk 2 (pc' := 35) (ls' := [(2, 61), (0, y), (0, c)]) (st' := [(2, w 61 0)]) (w' := w) (n' := 142) rfl ?_
            rw [show w 61 0 = 62 from zref hI rfl rfl]
            refine qG.blk 2 (pc' := 39) (ls' := [(2, 61), (0, y), (0, c)]) (st' := [(0, w 61 2), (2, 62)]) (w' := w) (n' := 142) rfl ?_
            rw [show w 61 2 = ((n : Nat) : Int) from hn]
            refine qG.blk 1 (pc' := 40) (ls' := [(2, 61), (0, y), (0, c)]) (st' := [(0, y), (0, ((n : Nat) : Int)), (2, 62)]) (w' := w) (n' := 142) rfl ?_
            refine qG.ar (P := 0 ≤ ((n : Nat) : Int) ∧ ((n : Nat) : Int) < ((20 : Nat) : Int)) (P2 := 0 < (62 : Int) ∧ (62 : Int) ≤ ((142 : Nat) : Int)) (pc' := 41) (ls' := [(2, 61), (0, y), (0, c)]) (st' := []) (w' := (qup w 62 n y)) (n' := 142) rfl (by omega) (by decide) ?_
            refine qG.blk 2 (pc' := 45) (ls' := [(2, 61), (0, y), (0, c)]) (st' := [(2, w 61 1)]) (w' := (qup w 62 n y)) (n' := 142) rfl ?_
            rw [show w 61 1 = 63 from zref hI rfl rfl]
            refine qG.blk 2 (pc' := 49) (ls' := [(2, 61), (0, y), (0, c)]) (st' := [(0, w 61 2), (2, 63)]) (w' := (qup w 62 n y)) (n' := 142) rfl ?_
            rw [show w 61 2 = ((n : Nat) : Int) from hn]
            refine qG.blk 1 (pc' := 50) (ls' := [(2, 61), (0, y), (0, c)]) (st' := [(0, c), (0, ((n : Nat) : Int)), (2, 63)]) (w' := (qup w 62 n y)) (n' := 142) rfl ?_
            refine qG.ar (P := 0 ≤ ((n : Nat) : Int) ∧ ((n : Nat) : Int) < ((20 : Nat) : Int)) (P2 := 0 < (63 : Int) ∧ (63 : Int) ≤ ((142 : Nat) : Int)) (pc' := 51) (ls' := [(2, 61), (0, y), (0, c)]) (st' := []) (w' := (qup (qup w 62 n y) 63 n c)) (n' := 142) rfl (by omega) (by decide) ?_
            refine qG.blk 3 (pc' := 56) (ls' := [(2, 61), (0, y), (0, c)]) (st' := [(0, w 61 2), (2, 61)]) (w' := (qup (qup w 62 n y) 63 n c)) (n' := 142) rfl ?_
            rw [show w 61 2 = ((n : Nat) : Int) from hn]
            refine qG.blk 2 (pc' := 58) (ls' := [(2, 61), (0, y), (0, c)]) (st' := [(0, wrp (((n : Nat) : Int) + 1)), (2, 61)]) (w' := (qup (qup w 62 n y) 63 n c)) (n' := 142) rfl ?_
            rw [show wrp (((n : Nat) : Int) + 1) = ((n + 1 : Nat) : Int) from by rw [wrp_id (by omega) (by omega)]; omega]
            refine qG.blk 5 (pc' := 67) (ls' := [(2, 61), (0, y), (0, c)]) (st' := [(0, wrp (((n + 1 : Nat) : Int) - 1))]) (w' := (qup (qup (qup w 62 n y) 63 n c) 61 2 ((n + 1 : Nat) : Int))) (n' := 142) rfl ?_
            rw [show wrp (((n + 1 : Nat) : Int) - 1) = ((n : Nat) : Int) from by rw [wrp_id (by omega) (by omega)]; omega]
            refine qG.ret rfl rfl ?_
            subst hQ9
            refine ⟨rfl, ?_⟩; (first | exact .inl ⟨by unfold wriC; omega, rfl, rfl⟩ | exact .inr ⟨by unfold wriC; omega, rfl, rfl⟩)
          · skip
            refine qG.blk 1 (pc' := 30) (ls' := [(2, 61), (0, y), (0, c)]) (st' := [(0, (-1))]) (w' := w) (n' := 142) rfl ?_
            refine qG.ret rfl rfl ?_
            subst hQ9
            refine ⟨rfl, ?_⟩; (first | exact .inl ⟨by unfold wriC; omega, rfl, rfl⟩ | exact .inr ⟨by unfold wriC; omega, rfl, rfl⟩)
theorem K_X10_putTruth {d : Nat} (hd : 0 ≤ d) (c : Int) (w : qW) (hI : yInv zgf zga zra zSp w) : qG none d 156 0 [(2, 61), (0, c)] [] w 142 (fun (r : qV) (w1 : qW) (n1 : Nat) => n1 = 142 ∧ truE 61 3 c w r w1) := by
  generalize hQ9 : (fun (r : qV) (w1 : qW) (n1 : Nat) => n1 = 142 ∧ truE 61 3 c w r w1) = Q9
  obtain ⟨N6, hN6⟩ : ∃ N : Int, N = 1073741823 := ⟨_, rfl⟩
  refine qG.blk 1 (pc' := 1) (ls' := [(2, 61), (0, c)]) (st' := [(0, c)]) (w' := w) (n' := 142) rfl ?_
  refine qG.br (P := c < 0) (pc1 := 10) (pc2 := 4) (st1 := []) rfl (fun h1 => ?_) (fun h1 => ?_)
  · skip
    refine qG.blk 1 (pc' := 11) (ls' := [(2, 61), (0, c)]) (st' := [(0, 0)]) (w' := w) (n' := 142) rfl ?_
    refine qG.ret rfl (by first | rfl | exact decide_eq_true (by omega)) ?_
    subst hQ9
    exact ⟨rfl, by first | exact .inl ⟨by omega, rfl, rfl⟩ | exact .inr ⟨by omega, rfl, rfl⟩⟩
  · skip
    refine qG.blk 2 (pc' := 7) (ls' := [(2, 61), (0, c)]) (st' := [(0, 1073741823), (0, c)]) (w' := w) (n' := 142) rfl ?_
    rw [show (1073741823 : Int) = N6 from hN6.symm]
    refine qG.br (P := N6 < c) (pc1 := 10) (pc2 := 12) (st1 := []) rfl (fun h2 => ?_) (fun h2 => ?_)
    · skip
      refine qG.blk 1 (pc' := 11) (ls' := [(2, 61), (0, c)]) (st' := [(0, 0)]) (w' := w) (n' := 142) rfl ?_
      refine qG.ret rfl (by first | rfl | exact decide_eq_true (by omega)) ?_
      subst hQ9
      exact ⟨rfl, by first | exact .inl ⟨by omega, rfl, rfl⟩ | exact .inr ⟨by omega, rfl, rfl⟩⟩
    · skip
      refine qG.blk 4 (pc' := 18) (ls' := [(2, 61), (0, c)]) (st' := [(0, 1)]) (w' := (qup w 61 3 c)) (n' := 142) rfl ?_
      refine qG.ret rfl (by first | rfl | exact decide_eq_true (by omega)) ?_
      subst hQ9
      exact ⟨rfl, by first | exact .inl ⟨by omega, rfl, rfl⟩ | exact .inr ⟨by omega, rfl, rfl⟩⟩
theorem K_X12_areClaims {d : Nat} (hd : 1 ≤ d) (c : Int) (w : qW) : qG none d 292 0 [(0, c)] [] w 142 (fun (r : qV) (w1 : qW) (n1 : Nat) => r = (0, isInV c 0 1073741823) ∧ w1 = w ∧ n1 = 142) := by
  generalize hQ9 : (fun (r : qV) (w1 : qW) (n1 : Nat) => r = (0, isInV c 0 1073741823) ∧ w1 = w ∧ n1 = 142) = Q9
  obtain ⟨d, rfl⟩ : ∃ d9, d = d9 + 1 := ⟨d - 1, by omega⟩
  refine qG.blk 3 (pc' := 5) (ls' := [(0, c)]) (st' := [(0, 1073741823), (0, 0), (0, c)]) (w' := w) (n' := 142) rfl ?_
  refine qG.call (t := 206) (na := 3) (sk := 0) (md := 0) (ls1 := [(0, c), (0, 0), (0, 1073741823)]) (r1 := []) rfl rfl rfl rfl rfl (K_isIn (Nat.zero_le _) _ _ _ _) ?_
  rintro _ w7 _ ⟨rfl, hw7, rfl⟩
  rw [hw7]
  show qG none (d + 1) 292 8 [(0, c)] [(0, isInV (c) (0) (1073741823))] w 142 Q9
  refine qG.ret rfl (by have q9 := isInV_01 c 0 1073741823; exact decide_eq_true (by omega)) ?_
  subst hQ9
  exact ⟨rfl, rfl, rfl⟩
theorem K_X11_writer {d : Nat} (hd : 1 ≤ d) (y c : Int) (n : Nat) (hn9 : n ≤ 20) (w : qW) (hI : yInv zgf zga zra zSp w) (hn : w 61 2 = (n : Int)) : qG none d 194 0 [(2, 1), (0, y), (0, c)] [] w 142 (fun (r : qV) (w1 : qW) (n1 : Nat) => n1 = 142 ∧ wriE 61 2 62 63 y c n w r w1) := by
  generalize hQ9 : (fun (r : qV) (w1 : qW) (n1 : Nat) => n1 = 142 ∧ wriE 61 2 62 63 y c n w r w1) = Q9
  obtain ⟨d, rfl⟩ : ∃ d9, d = d9 + 1 := ⟨d - 1, by omega⟩
  refine qG.blk 2 (pc' := 4) (ls' := [(2, 1), (0, y), (0, c)]) (st' := [(2, w 1 9)]) (w' := w) (n' := 142) rfl ?_
  rw [show w 1 9 = 61 from zref hI rfl rfl]
  refine qG.blk 2 (pc' := 6) (ls' := [(2, 1), (0, y), (0, c)]) (st' := [(0, c), (0, y), (2, 61)]) (w' := w) (n' := 142) rfl ?_
  refine qG.call (t := 155) (na := 3) (sk := 1) (md := 1) (ls1 := [(2, 61), (0, y), (0, c)]) (r1 := []) rfl rfl rfl rfl rfl (K_X10_add (by omega) y c n hn9 w hI hn) ?_
  rintro ⟨_, x9⟩ w1 _ ⟨rfl, hE⟩
  have hk9 : ∃ y, ((_ : Nat), x9) = ((0 : Nat), y) := (by rcases hE with ⟨-, h, -⟩ | ⟨-, h, -⟩ <;> exact ⟨_, h⟩)
  obtain ⟨y9, hy9⟩ := hk9
  obtain ⟨rfl, rfl⟩ := Prod.mk.inj hy9
  show qG none (d + 1) 194 9 [(2, 1), (0, y), (0, c)] [(0, x9)] w1 142 Q9
  refine qG.ret rfl rfl ?_
  subst hQ9
  exact ⟨rfl, hE⟩
theorem K_X11_truthE {d : Nat} (hd : 1 ≤ d) (c : Int) (w : qW) (hI : yInv zgf zga zra zSp w) : qG none d 195 0 [(2, 1), (0, c)] [] w 142 (fun (r : qV) (w1 : qW) (n1 : Nat) => n1 = 142 ∧ truE 61 3 c w r w1) := by
  generalize hQ9 : (fun (r : qV) (w1 : qW) (n1 : Nat) => n1 = 142 ∧ truE 61 3 c w r w1) = Q9
  obtain ⟨d, rfl⟩ : ∃ d9, d = d9 + 1 := ⟨d - 1, by omega⟩
  refine qG.blk 2 (pc' := 4) (ls' := [(2, 1), (0, c)]) (st' := [(2, w 1 9)]) (w' := w) (n' := 142) rfl ?_
  rw [show w 1 9 = 61 from zref hI rfl rfl]
  refine qG.blk 1 (pc' := 5) (ls' := [(2, 1), (0, c)]) (st' := [(0, c), (2, 61)]) (w' := w) (n' := 142) rfl ?_
  refine qG.call (t := 156) (na := 2) (sk := 1) (md := 1) (ls1 := [(2, 61), (0, c)]) (r1 := []) rfl rfl rfl rfl rfl (K_X10_putTruth (by omega) c w hI) ?_
  rintro ⟨_, x9⟩ w1 _ ⟨rfl, hE⟩
  have hk9 : ∃ y, ((_ : Nat), x9) = ((0 : Nat), y) := (by rcases hE with ⟨-, h, -⟩ | ⟨-, h, -⟩ <;> exact ⟨_, h⟩)
  obtain ⟨y9, hy9⟩ := hk9
  obtain ⟨rfl, rfl⟩ := Prod.mk.inj hy9
  show qG none (d + 1) 195 8 [(2, 1), (0, c)] [(0, x9)] w1 142 Q9
  refine qG.ret rfl (by rcases hE with ⟨-, h, -⟩ | ⟨-, h, -⟩ <;> (obtain ⟨-, rfl⟩ := Prod.mk.inj h; rfl)) ?_
  subst hQ9
  exact ⟨rfl, hE⟩
theorem K_X12_writer {d : Nat} (hd : 2 ≤ d) (y c : Int) (n : Nat) (hn9 : n ≤ 20) (w : qW) (hI : yInv zgf zga zra zSp w) (hn : w 95 76 = (n : Int)) : qG none d 294 0 [(2, 95), (0, y), (0, c)] [] w 142 (fun (r : qV) (w1 : qW) (n1 : Nat) => n1 = 142 ∧ wriE 95 76 141 142 y c n w r w1) := by
  generalize hQ9 : (fun (r : qV) (w1 : qW) (n1 : Nat) => n1 = 142 ∧ wriE 95 76 141 142 y c n w r w1) = Q9
  obtain ⟨d, rfl⟩ : ∃ d9, d = d9 + 1 := ⟨d - 1, by omega⟩
  refine qG.blk 3 (pc' := 4) (ls' := [(2, 95), (0, y), (0, c)]) (st' := [(0, 99), (0, 0), (0, y)]) (w' := w) (n' := 142) rfl ?_
  refine qG.call (t := 206) (na := 3) (sk := 0) (md := 0) (ls1 := [(0, y), (0, 0), (0, 99)]) (r1 := []) rfl rfl rfl rfl rfl (K_isIn (Nat.zero_le _) _ _ _ _) ?_
  rintro _ w7 _ ⟨rfl, hw7, rfl⟩
  rw [hw7]
  show qG none (d + 1) 294 7 [(2, 95), (0, y), (0, c)] [(0, isInV (y) (0) (99))] w 142 Q9
  refine qG.br (P := isInV (y) (0) (99) = 0) (pc1 := 26) (pc2 := 10) (st1 := []) rfl (fun h1 => ?_) (fun h1 => ?_)
  · skip
    rw [isIn_b] at h1
    refine qG.blk 1 (pc' := 27) (ls' := [(2, 95), (0, y), (0, c)]) (st' := [(0, (-1))]) (w' := w) (n' := 142) rfl ?_
    refine qG.ret rfl rfl ?_
    subst hQ9
    refine ⟨rfl, ?_⟩; (first | exact .inl ⟨by unfold wriC; omega, rfl, rfl⟩ | exact .inr ⟨by unfold wriC; omega, rfl, rfl⟩)
  · skip
    rw [isIn_p] at h1
    refine qG.blk 1 (pc' := 11) (ls' := [(2, 95), (0, y), (0, c)]) (st' := [(0, c)]) (w' := w) (n' := 142) rfl ?_
    refine qG.call (t := 292) (na := 1) (sk := 0) (md := 0) (ls1 := [(0, c)]) (r1 := []) rfl rfl rfl rfl rfl (K_X12_areClaims (by omega) _ _) ?_
    rintro _ w7 _ ⟨rfl, hw7, rfl⟩
    rw [hw7]
    show qG none (d + 1) 294 14 [(2, 95), (0, y), (0, c)] [(0, isInV c 0 1073741823)] w 142 Q9
    refine qG.br (P := isInV c 0 1073741823 = 0) (pc1 := 26) (pc2 := 17) (st1 := []) rfl (fun h2 => ?_) (fun h2 => ?_)
    · skip
      rw [isIn_b] at h2
      refine qG.blk 1 (pc' := 27) (ls' := [(2, 95), (0, y), (0, c)]) (st' := [(0, (-1))]) (w' := w) (n' := 142) rfl ?_
      refine qG.ret rfl rfl ?_
      subst hQ9
      refine ⟨rfl, ?_⟩; (first | exact .inl ⟨by unfold wriC; omega, rfl, rfl⟩ | exact .inr ⟨by unfold wriC; omega, rfl, rfl⟩)
    · skip
      rw [isIn_p] at h2
      refine qG.blk 2 (pc' := 21) (ls' := [(2, 95), (0, y), (0, c)]) (st' := [(0, w 95 76)]) (w' := w) (n' := 142) rfl ?_
      rw [show w 95 76 = ((n : Nat) : Int) from hn]
      refine qG.blk 1 (pc' := 23) (ls' := [(2, 95), (0, y), (0, c)]) (st' := [(0, 20), (0, ((n : Nat) : Int))]) (w' := w) (n' := 142) rfl ?_
      refine qG.br (P := ((n : Nat) : Int) = 20) (pc1 := 26) (pc2 := 28) (st1 := []) rfl (fun h7 => ?_) (fun h7 => ?_)
      · skip
        refine qG.blk 1 (pc' := 27) (ls' := [(2, 95), (0, y), (0, c)]) (st' := [(0, (-1))]) (w' := w) (n' := 142) rfl ?_
        refine qG.ret rfl rfl ?_
        subst hQ9
        refine ⟨rfl, ?_⟩; (first | exact .inl ⟨by unfold wriC; omega, rfl, rfl⟩ | exact .inr ⟨by unfold wriC; omega, rfl, rfl⟩)
      · skip
        refine qG.blk 2 (pc' := 32) (ls' := [(2, 95), (0, y), (0, c)]) (st' := [(2, w 95 78)]) (w' := w) (n' := 142) rfl ?_
        rw [show w 95 78 = 141 from zref hI rfl rfl]
        refine qG.blk 2 (pc' := 36) (ls' := [(2, 95), (0, y), (0, c)]) (st' := [(0, w 95 76), (2, 141)]) (w' := w) (n' := 142) rfl ?_
        rw [show w 95 76 = ((n : Nat) : Int) from hn]
        refine qG.blk 1 (pc' := 37) (ls' := [(2, 95), (0, y), (0, c)]) (st' := [(0, y), (0, ((n : Nat) : Int)), (2, 141)]) (w' := w) (n' := 142) rfl ?_
        refine qG.ar (P := 0 ≤ ((n : Nat) : Int) ∧ ((n : Nat) : Int) < ((20 : Nat) : Int)) (P2 := 0 < (141 : Int) ∧ (141 : Int) ≤ ((142 : Nat) : Int)) (pc' := 38) (ls' := [(2, 95), (0, y), (0, c)]) (st' := []) (w' := (qup w 141 n y)) (n' := 142) rfl (by omega) (by decide) ?_
        refine qG.blk 2 (pc' := 42) (ls' := [(2, 95), (0, y), (0, c)]) (st' := [(2, w 95 79)]) (w' := (qup w 141 n y)) (n' := 142) rfl ?_
        rw [show w 95 79 = 142 from zref hI rfl rfl]
        refine qG.blk 2 (pc' := 46) (ls' := [(2, 95), (0, y), (0, c)]) (st' := [(0, w 95 76), (2, 142)]) (w' := (qup w 141 n y)) (n' := 142) rfl ?_
        rw [show w 95 76 = ((n : Nat) : Int) from hn]
        refine qG.blk 1 (pc' := 47) (ls' := [(2, 95), (0, y), (0, c)]) (st' := [(0, c), (0, ((n : Nat) : Int)), (2, 142)]) (w' := (qup w 141 n y)) (n' := 142) rfl ?_
        refine qG.ar (P := 0 ≤ ((n : Nat) : Int) ∧ ((n : Nat) : Int) < ((20 : Nat) : Int)) (P2 := 0 < (142 : Int) ∧ (142 : Int) ≤ ((142 : Nat) : Int)) (pc' := 48) (ls' := [(2, 95), (0, y), (0, c)]) (st' := []) (w' := (qup (qup w 141 n y) 142 n c)) (n' := 142) rfl (by omega) (by decide) ?_
        refine qG.blk 3 (pc' := 53) (ls' := [(2, 95), (0, y), (0, c)]) (st' := [(0, w 95 76), (2, 95)]) (w' := (qup (qup w 141 n y) 142 n c)) (n' := 142) rfl ?_
        rw [show w 95 76 = ((n : Nat) : Int) from hn]
        refine qG.blk 2 (pc' := 55) (ls' := [(2, 95), (0, y), (0, c)]) (st' := [(0, wrp (((n : Nat) : Int) + 1)), (2, 95)]) (w' := (qup (qup w 141 n y) 142 n c)) (n' := 142) rfl ?_
        rw [show wrp (((n : Nat) : Int) + 1) = ((n + 1 : Nat) : Int) from by rw [wrp_id (by omega) (by omega)]; omega]
        refine qG.blk 5 (pc' := 64) (ls' := [(2, 95), (0, y), (0, c)]) (st' := [(0, wrp (((n + 1 : Nat) : Int) - 1))]) (w' := (qup (qup (qup w 141 n y) 142 n c) 95 76 ((n + 1 : Nat) : Int))) (n' := 142) rfl ?_
        rw [show wrp (((n + 1 : Nat) : Int) - 1) = ((n : Nat) : Int) from by rw [wrp_id (by omega) (by omega)]; omega]
        refine qG.ret rfl rfl ?_
        subst hQ9
        refine ⟨rfl, ?_⟩; (first | exact .inl ⟨by unfold wriC; omega, rfl, rfl⟩ | exact .inr ⟨by unfold wriC; omega, rfl, rfl⟩)
theorem K_X12_truthE {d : Nat} (hd : 2 ≤ d) (c : Int) (w : qW) (hI : yInv zgf zga zra zSp w) : qG none d 295 0 [(2, 95), (0, c)] [] w 142 (fun (r : qV) (w1 : qW) (n1 : Nat) => n1 = 142 ∧ truE 95 77 c w r w1) := by
  generalize hQ9 : (fun (r : qV) (w1 : qW) (n1 : Nat) => n1 = 142 ∧ truE 95 77 c w r w1) = Q9
  obtain ⟨d, rfl⟩ : ∃ d9, d = d9 + 1 := ⟨d - 1, by omega⟩
  refine qG.blk 1 (pc' := 1) (ls' := [(2, 95), (0, c)]) (st' := [(0, c)]) (w' := w) (n' := 142) rfl ?_
  refine qG.call (t := 292) (na := 1) (sk := 0) (md := 0) (ls1 := [(0, c)]) (r1 := []) rfl rfl rfl rfl rfl (K_X12_areClaims (by omega) _ _) ?_
  rintro _ w7 _ ⟨rfl, hw7, rfl⟩
  rw [hw7]
  show qG none (d + 1) 295 4 [(2, 95), (0, c)] [(0, isInV c 0 1073741823)] w 142 Q9
  refine qG.br (P := isInV c 0 1073741823 = 0) (pc1 := 7) (pc2 := 9) (st1 := []) rfl (fun h1 => ?_) (fun h1 => ?_)
  · skip
    rw [isIn_b] at h1
    refine qG.blk 1 (pc' := 8) (ls' := [(2, 95), (0, c)]) (st' := [(0, 0)]) (w' := w) (n' := 142) rfl ?_
    refine qG.ret rfl (by first | rfl | exact decide_eq_true (by omega)) ?_
    subst hQ9
    exact ⟨rfl, by first | exact .inl ⟨by omega, rfl, rfl⟩ | exact .inr ⟨by omega, rfl, rfl⟩⟩
  · skip
    rw [isIn_p] at h1
    refine qG.blk 4 (pc' := 15) (ls' := [(2, 95), (0, c)]) (st' := [(0, 1)]) (w' := (qup w 95 77 c)) (n' := 142) rfl ?_
    refine qG.ret rfl (by first | rfl | exact decide_eq_true (by omega)) ?_
    subst hQ9
    exact ⟨rfl, by first | exact .inl ⟨by omega, rfl, rfl⟩ | exact .inr ⟨by omega, rfl, rfl⟩⟩
noncomputable def JW (w : qW) : Prop := w 61 2 = w 95 76 ∧ w 61 3 = w 95 77 ∧ (∀ j, w 62 j = w 141 j) ∧ ∀ j, w 63 j = w 142 j
noncomputable def jwM (m : List Nat) : Bool := spo m 62 && (spo m 63 && (spo m 141 && (spo m 142 && (!ymo 61 2 m && (!ymo 61 3 m && (!ymo 95 76 m && !ymo 95 77 m))))))
theorem JW.aw {m : List Nat} {w w1 : qW} (h : JW w) (a : AW m w w1) (hm : jwM m = true) : JW w1 := by
  unfold jwM at hm
  simp only [Bool.and_eq_true, Bool.not_eq_true'] at hm
  obtain ⟨m1, m2, m4, m5, m7, m8, m9, m10⟩ := hm
  refine ⟨?_, ?_, fun j => ?_, fun j => ?_⟩
  · rw [a.2 61 2 (fun _ => m7), a.2 95 76 (fun _ => m9)]; exact h.1
  · rw [a.2 61 3 (fun _ => m8), a.2 95 77 (fun _ => m10)]; exact h.2.1
  · rw [a.a (by decide) m1, a.a (by decide) m4]; exact h.2.2.1 j
  · rw [a.a (by decide) m2, a.a (by decide) m5]; exact h.2.2.2 j
theorem JW.writer {w w1 w2 : qW} {y c : Int} {n : Nat} {r r2 : qV} (h : JW w) (hX : wriE 61 2 62 63 y c n w r w1) (hR : wriE 95 76 141 142 y c n w1 r2 w2) : JW w2 ∧ r = r2 := by
  rcases hX with ⟨c1, rfl, rfl⟩ | ⟨c1, rfl, rfl⟩ <;> rcases hR with ⟨c2, rfl, rfl⟩ | ⟨c2, rfl, rfl⟩
  · exact ⟨h, rfl⟩
  · exact absurd c2 c1
  · exact absurd c1 c2
  · refine ⟨⟨?_, ?_, fun j => ?_, fun j => ?_⟩, rfl⟩
    · simp (disch := decide) only [qup_ne, qup_k]
    · simp (disch := decide) only [qup_ne, qup_j]; exact h.2.1
    · simp (disch := decide) only [qup_ne, qup_if]; rw [h.2.2.1 j]
    · simp (disch := decide) only [qup_ne, qup_if]; rw [h.2.2.2 j]
theorem JW.truth {w w1 w2 : qW} {c : Int} {r r2 : qV} (h : JW w) (hX : truE 61 3 c w r w1) (hR : truE 95 77 c w1 r2 w2) : JW w2 ∧ r = r2 := by
  rcases hX with ⟨c1, rfl, rfl⟩ | ⟨c1, rfl, rfl⟩ <;> rcases hR with ⟨c2, rfl, rfl⟩ | ⟨c2, rfl, rfl⟩
  · exact ⟨h, rfl⟩
  · exact absurd c2 c1
  · exact absurd c1 c2
  · refine ⟨⟨?_, ?_, fun j => ?_, fun j => ?_⟩, rfl⟩
    · simp (disch := decide) only [qup_ne, qup_j]; exact h.1
    · simp (disch := decide) only [qup_ne, qup_k]
    · simp (disch := decide) only [qup_ne]; exact h.2.2.1 j
    · simp (disch := decide) only [qup_ne]; exact h.2.2.2 j
end
section
/-! the masters and the nights on both sides -/
theorem qup_f {w : qW} {p j q i : Nat} {v : Int} (h : ¬ (q = p ∧ i = j)) : qup w p j v q i = w q i := by
  by_cases hp : q = p
  · subst hp; exact qup_j (fun z => h ⟨rfl, z⟩)
  · rw [qup_ne hp]
noncomputable def masC (s g a b : Int) (n : Nat) : Prop := ((1 ≤ s ∧ s ≤ 4) ∧ (0 ≤ g ∧ g ≤ 99) ∧ (0 ≤ a ∧ a ≤ 99) ∧ a ≤ b ∧ b ≤ 99) ∧ n < 12
noncomputable def masE (p j q1 q2 q3 : Nat) (L : List Nat) (s g a b : Int) (n : Nat) (w : qW) (r : qV) (w1 : qW) : Prop := (¬ masC s g a b n ∧ r = (0, -1) ∧ w1 = w) ∨ (masC s g a b n ∧ r = (0, ((n : Nat) : Int)) ∧ w1 p j = ((n + 1 : Nat) : Int) ∧ (∀ k, w1 q1 k = if k = n then g else w q1 k) ∧ (∀ k, w1 q2 k = if k = n then a else w q2 k) ∧ (∀ k, w1 q3 k = if k = n then b else w q3 k) ∧ ∀ q k, q ∉ L → ¬ (q = p ∧ k = j) → w1 q k = w q k)
noncomputable def nigC (y t g e a : Int) (n : Nat) : Prop := ((0 ≤ y ∧ y ≤ 99) ∧ (0 ≤ t ∧ t ≤ 9) ∧ (0 ≤ g ∧ g ≤ 99) ∧ (0 ≤ e ∧ e ≤ 2) ∧ -1 ≤ a ∧ a ≤ 2) ∧ n < 60
noncomputable def nigE (p j q1 q2 q3 q4 q5 : Nat) (y t g e a : Int) (n : Nat) (w : qW) (r : qV) (w1 : qW) : Prop := (¬ nigC y t g e a n ∧ r = (0, -1) ∧ w1 = w) ∨ (nigC y t g e a n ∧ r = (0, ((n : Nat) : Int)) ∧ w1 p j = ((n + 1 : Nat) : Int) ∧ (∀ k, w1 q1 k = if k = n then y else w q1 k) ∧ (∀ k, w1 q2 k = if k = n then t else w q2 k) ∧ (∀ k, w1 q3 k = if k = n then g else w q3 k) ∧ (∀ k, w1 q4 k = if k = n then e else w q4 k) ∧ (∀ k, w1 q5 k = if k = n then a else w q5 k) ∧ ∀ q k, q ∉ [q1, q2, q3, q4, q5] → ¬ (q = p ∧ k = j) → w1 q k = w q k)
noncomputable def JN (w : qW) : Prop := w 45 0 = w 95 55 ∧ w 45 7 = w 95 57 ∧ (∀ k, w 46 k = w 125 k) ∧ (∀ k, w 47 k = w 126 k) ∧ (∀ k, w 48 k = w 127 k) ∧ (∀ k, w 51 k = w 132 k) ∧ (∀ k, w 52 k = w 133 k) ∧ (∀ k, w 53 k = w 134 k) ∧ (∀ k, w 54 k = w 135 k) ∧ (∀ k, w 55 k = w 136 k)
noncomputable def jnM (m : List Nat) : Bool := spo m 46 && (spo m 47 && (spo m 48 && (spo m 51 && (spo m 52 && (spo m 53 && (spo m 54 && (spo m 55 && (spo m 125 && (spo m 126 && (spo m 127 && (spo m 132 && (spo m 133 && (spo m 134 && (spo m 135 && (spo m 136 && (!ymo 45 0 m && (!ymo 45 7 m && (!ymo 95 55 m && (!ymo 95 57 m)))))))))))))))))))
theorem JN.aw {m : List Nat} {w w1 : qW} (h : JN w) (a : AW m w w1) (hm : jnM m = true) : JN w1 := by
  unfold jnM at hm
  simp only [Bool.and_eq_true, Bool.not_eq_true'] at hm
  obtain ⟨m0, m1, m2, m3, m4, m5, m6, m7, m8, m9, m10, m11, m12, m13, m14, m15, m16, m17, m18, m19⟩ := hm
  refine ⟨?_, ?_, fun k => ?_, fun k => ?_, fun k => ?_, fun k => ?_, fun k => ?_, fun k => ?_, fun k => ?_, fun k => ?_⟩
  · rw [a.2 45 0 (fun _ => m16), a.2 95 55 (fun _ => m18)]; exact h.1
  · rw [a.2 45 7 (fun _ => m17), a.2 95 57 (fun _ => m19)]; exact h.2.1
  · rw [a.a (by decide) m0, a.a (by decide) m8]; exact h.2.2.1 k
  · rw [a.a (by decide) m1, a.a (by decide) m9]; exact h.2.2.2.1 k
  · rw [a.a (by decide) m2, a.a (by decide) m10]; exact h.2.2.2.2.1 k
  · rw [a.a (by decide) m3, a.a (by decide) m11]; exact h.2.2.2.2.2.1 k
  · rw [a.a (by decide) m4, a.a (by decide) m12]; exact h.2.2.2.2.2.2.1 k
  · rw [a.a (by decide) m5, a.a (by decide) m13]; exact h.2.2.2.2.2.2.2.1 k
  · rw [a.a (by decide) m6, a.a (by decide) m14]; exact h.2.2.2.2.2.2.2.2.1 k
  · rw [a.a (by decide) m7, a.a (by decide) m15]; exact h.2.2.2.2.2.2.2.2.2 k
theorem JN.master {w w1 w2 : qW} {s g a b : Int} {n : Nat} {r r2 : qV} (h : JN w) (hX : masE 45 0 46 47 48 [46, 47, 48] s g a b n w r w1) (hR : masE 95 55 125 126 127 [125, 126, 127, 128] s g a b n w1 r2 w2) : JN w2 ∧ r = r2 := by
  rcases hX with ⟨c1, rfl, rfl⟩ | ⟨c1, rfl, t1, x0, x1, x2, s1⟩ <;> rcases hR with ⟨c2, rfl, rfl⟩ | ⟨c2, rfl, t2, y0, y1, y2, s2⟩
  · exact ⟨h, rfl⟩
  · exact absurd c2 c1
  · exact absurd c1 c2
  · refine ⟨⟨?_, ?_, fun k => ?_, fun k => ?_, fun k => ?_, fun k => ?_, fun k => ?_, fun k => ?_, fun k => ?_, fun k => ?_⟩, rfl⟩
    · rw [s2 45 0 (by decide) (fun z => by cases z.1), t1, t2]
    · rw [s2 45 7 (by decide) (fun z => by cases z.1), s1 45 7 (by decide) (fun z => by cases z.2), s2 95 57 (by decide) (fun z => by cases z.2), s1 95 57 (by decide) (fun z => by cases z.1)]; exact h.2.1
    · rw [s2 46 k (by decide) (fun z => by cases z.1), x0 k, y0 k, s1 125 k (by decide) (fun z => by cases z.1), h.2.2.1 k]
    · rw [s2 47 k (by decide) (fun z => by cases z.1), x1 k, y1 k, s1 126 k (by decide) (fun z => by cases z.1), h.2.2.2.1 k]
    · rw [s2 48 k (by decide) (fun z => by cases z.1), x2 k, y2 k, s1 127 k (by decide) (fun z => by cases z.1), h.2.2.2.2.1 k]
    · rw [s2 51 k (by decide) (fun z => by cases z.1), s1 51 k (by decide) (fun z => by cases z.1), s2 132 k (by decide) (fun z => by cases z.1), s1 132 k (by decide) (fun z => by cases z.1)]; exact h.2.2.2.2.2.1 k
    · rw [s2 52 k (by decide) (fun z => by cases z.1), s1 52 k (by decide) (fun z => by cases z.1), s2 133 k (by decide) (fun z => by cases z.1), s1 133 k (by decide) (fun z => by cases z.1)]; exact h.2.2.2.2.2.2.1 k
    · rw [s2 53 k (by decide) (fun z => by cases z.1), s1 53 k (by decide) (fun z => by cases z.1), s2 134 k (by decide) (fun z => by cases z.1), s1 134 k (by decide) (fun z => by cases z.1)]; exact h.2.2.2.2.2.2.2.1 k
    · rw [s2 54 k (by decide) (fun z => by cases z.1), s1 54 k (by decide) (fun z => by cases z.1), s2 135 k (by decide) (fun z => by cases z.1), s1 135 k (by decide) (fun z => by cases z.1)]; exact h.2.2.2.2.2.2.2.2.1 k
    · rw [s2 55 k (by decide) (fun z => by cases z.1), s1 55 k (by decide) (fun z => by cases z.1), s2 136 k (by decide) (fun z => by cases z.1), s1 136 k (by decide) (fun z => by cases z.1)]; exact h.2.2.2.2.2.2.2.2.2 k
theorem JN.night {w w1 w2 : qW} {y t g e a : Int} {n : Nat} {r r2 : qV} (h : JN w) (hX : nigE 45 7 51 52 53 54 55 y t g e a n w r w1) (hR : nigE 95 57 132 133 134 135 136 y t g e a n w1 r2 w2) : JN w2 ∧ r = r2 := by
  rcases hX with ⟨c1, rfl, rfl⟩ | ⟨c1, rfl, t1, x0, x1, x2, x3, x4, s1⟩ <;> rcases hR with ⟨c2, rfl, rfl⟩ | ⟨c2, rfl, t2, y0, y1, y2, y3, y4, s2⟩
  · exact ⟨h, rfl⟩
  · exact absurd c2 c1
  · exact absurd c1 c2
  · refine ⟨⟨?_, ?_, fun k => ?_, fun k => ?_, fun k => ?_, fun k => ?_, fun k => ?_, fun k => ?_, fun k => ?_, fun k => ?_⟩, rfl⟩
    · rw [s2 45 0 (by decide) (fun z => by cases z.1), s1 45 0 (by decide) (fun z => by cases z.2), s2 95 55 (by decide) (fun z => by cases z.2), s1 95 55 (by decide) (fun z => by cases z.1)]; exact h.1
    · rw [s2 45 7 (by decide) (fun z => by cases z.1), t1, t2]
    · rw [s2 46 k (by decide) (fun z => by cases z.1), s1 46 k (by decide) (fun z => by cases z.1), s2 125 k (by decide) (fun z => by cases z.1), s1 125 k (by decide) (fun z => by cases z.1)]; exact h.2.2.1 k
    · rw [s2 47 k (by decide) (fun z => by cases z.1), s1 47 k (by decide) (fun z => by cases z.1), s2 126 k (by decide) (fun z => by cases z.1), s1 126 k (by decide) (fun z => by cases z.1)]; exact h.2.2.2.1 k
    · rw [s2 48 k (by decide) (fun z => by cases z.1), s1 48 k (by decide) (fun z => by cases z.1), s2 127 k (by decide) (fun z => by cases z.1), s1 127 k (by decide) (fun z => by cases z.1)]; exact h.2.2.2.2.1 k
    · rw [s2 51 k (by decide) (fun z => by cases z.1), x0 k, y0 k, s1 132 k (by decide) (fun z => by cases z.1), h.2.2.2.2.2.1 k]
    · rw [s2 52 k (by decide) (fun z => by cases z.1), x1 k, y1 k, s1 133 k (by decide) (fun z => by cases z.1), h.2.2.2.2.2.2.1 k]
    · rw [s2 53 k (by decide) (fun z => by cases z.1), x2 k, y2 k, s1 134 k (by decide) (fun z => by cases z.1), h.2.2.2.2.2.2.2.1 k]
    · rw [s2 54 k (by decide) (fun z => by cases z.1), x3 k, y3 k, s1 135 k (by decide) (fun z => by cases z.1), h.2.2.2.2.2.2.2.2.1 k]
    · rw [s2 55 k (by decide) (fun z => by cases z.1), x4 k, y4 k, s1 136 k (by decide) (fun z => by cases z.1), h.2.2.2.2.2.2.2.2.2 k]
end
section
/-! what alone answers -/
noncomputable def anF (H O : Nat → Int) (v : Int) : Nat → Int
  | 0 => -1
  | k + 1 => if H k = v then O k else anF H O v k
noncomputable def okM (H O G : Nat → Int) (c i : Nat) : Prop := anF H O (G (2 * i)) c = G (2 * i + 1)
/-- n moves of his own were answered as told, and the next was not -/
noncomputable def plS (H O G : Nat → Int) (c M n : Nat) : Prop := (∀ i, i < n → 2 * i + 1 < M ∧ okM H O G c i) ∧ ¬ (2 * n + 1 < M ∧ okM H O G c n)
theorem plS.eq {H O G : Nat → Int} {c M n m : Nat} (h : plS H O G c M n) (h2 : plS H O G c M m) : n = m := by
  rcases Nat.lt_trichotomy n m with q | q | q
  · exact absurd (h2.1 n q) h.2
  · exact q
  · exact absurd (h.1 m q) h2.2
noncomputable def alE (H O G : Nat → Int) (c M : Nat) (v : Int) (r : qV) : Prop := (¬ (0 ≤ v ∧ v ≤ 2) ∧ r = (0, -1)) ∨ (v = 2 ∧ r = (0, (M : Int))) ∨ ((v = 0 ∨ v = 1) ∧ ∃ n : Nat, plS H O G c M n ∧ r = (0, if v = 0 then (n : Int) else if n = M / 2 then 1 else 0))
theorem alE.eq {H O G : Nat → Int} {c M : Nat} {v : Int} {r r2 : qV} (h : alE H O G c M v r) (h2 : alE H O G c M v r2) : r = r2 := by
  rcases h with ⟨a, rfl⟩ | ⟨a, rfl⟩ | ⟨a, n, hn, rfl⟩ <;> rcases h2 with ⟨b, rfl⟩ | ⟨b, rfl⟩ | ⟨b, m, hm, rfl⟩ <;> first | rfl | (exfalso; omega) | (rw [hn.eq hm])
end
section
/-! what first answers -/
theorem ush32 : ∀ s : Nat, s < 32 → (((Int32.ofInt (s : Int)).toUInt32 &&& Int32.toUInt32 31).toBitVec % 32).toNat = s := by decide +kernel
theorem ush_b {x : Int} {s : Nat} (hs : s < 32) : qand (qush x (s : Int)) 1 = if hbit x s = true then 1 else 0 := by
  rw [hbit_b hs]
  unfold qand qush
  rw [Int32.ofInt_toInt]
  have e : ((Int32.ofInt x).toUInt32 >>> ((Int32.ofInt (s : Int)).toUInt32 &&& Int32.toUInt32 31)).toInt32.toBitVec.getLsbD 0 = (Int32.ofInt x).toBitVec.getLsbD s := by
    show ((Int32.ofInt x).toUInt32 >>> ((Int32.ofInt (s : Int)).toUInt32 &&& Int32.toUInt32 31)).toBitVec.getLsbD 0 = _
    rw [UInt32.toBitVec_shiftRight, BitVec.ushiftRight_eq', ush32 s hs, BitVec.getLsbD_ushiftRight]
    rfl
  rw [← e]
  generalize ((Int32.ofInt x).toUInt32 >>> ((Int32.ofInt (s : Int)).toUInt32 &&& Int32.toUInt32 31)).toInt32 = z
  have h2 : (z &&& Int32.ofInt 1).toBitVec = if z.toBitVec.getLsbD 0 = true then 1#32 else 0#32 := by
    rw [Int32.toBitVec_and]
    apply BitVec.eq_of_getLsbD_eq
    intro i hi
    rw [BitVec.getLsbD_and]
    have h3 : (Int32.ofInt 1).toBitVec = 1#32 := rfl
    rw [h3, BitVec.getLsbD_one]
    by_cases hi0 : i = 0
    · subst hi0; cases z.toBitVec.getLsbD 0 <;> simp
    · cases z.toBitVec.getLsbD 0 <;> simp [hi0, BitVec.getLsbD_one]
  show (z &&& Int32.ofInt 1).toBitVec.toInt = _
  rw [h2]
  split <;> rfl
noncomputable def ahR (Y : Nat → Int) (a b : Nat) : Bool := decide (Y a < Y b ∨ (Y a = Y b ∧ a < b))
noncomputable def fsF (Y C : Nat → Int) (c : Nat) : Nat → Int
  | 0 => -1
  | k + 1 => if hbit (C k) c = true ∧ (fsF Y C c k = -1 ∨ ahR Y k (fsF Y C c k).toNat = true) then (k : Int) else fsF Y C c k
theorem fs_1 {Y C : Nat → Int} {c k : Nat} (h : hbit (C k) c = true) (h2 : fsF Y C c k = -1 ∨ ahR Y k (fsF Y C c k).toNat = true) : fsF Y C c (k + 1) = (k : Int) := if_pos ⟨h, h2⟩
theorem fs_n {Y C : Nat → Int} {c k : Nat} (h : ¬ hbit (C k) c = true) : fsF Y C c (k + 1) = fsF Y C c k := if_neg (fun z => h z.1)
theorem fs_0 {Y C : Nat → Int} {c k : Nat} (h2 : ¬ fsF Y C c k = -1) (h3 : ¬ ahR Y k (fsF Y C c k).toNat = true) : fsF Y C c (k + 1) = fsF Y C c k := if_neg (fun z => z.2.elim h2 h3)
noncomputable def fiV (Y C : Nat → Int) (n : Nat) (c : Int) : Int := if 0 ≤ c ∧ c ≤ 29 then fsF Y C c.toNat n else -1
theorem K_isWriter {d : Nat} (hd : 0 ≤ d) (a : Nat) (n : Nat) (hn9 : n ≤ 20) (w : qW) (hI : yInv zgf zga zra zSp w) (hn : w 61 2 = (n : Int)) (ha : a < n) : qG none d 159 0 [(2, 61), (0, ((a : Nat) : Int))] [] w 142 (fun (r : qV) (w1 : qW) (n1 : Nat) => r = (0, 1) ∧ w1 = w ∧ n1 = 142) := by
  generalize hQ9 : (fun (r : qV) (w1 : qW) (n1 : Nat) => r = (0, 1) ∧ w1 = w ∧ n1 = 142) = Q9
  refine qG.blk 1 (pc' := 1) (ls' := [(2, 61), (0, ((a : Nat) : Int))]) (st' := [(0, ((a : Nat) : Int))]) (w' := w) (n' := 142) rfl ?_
  refine qG.br (P := ((a : Nat) : Int) < 0) (pc1 := 22) (pc2 := 4) (st1 := []) rfl (fun h1 => ?_) (fun h1 => ?_)
  · skip
    refine qG.blk 1 (pc' := 23) (ls' := [(2, 61), (0, ((a : Nat) : Int))]) (st' := [(0, 0)]) (w' := w) (n' := 142) rfl ?_
    refine qG.ret rfl (by first | rfl | exact decide_eq_true (by omega)) ?_
    subst hQ9
    first | exact ⟨rfl, rfl, rfl⟩ | (exfalso; omega)
  · skip
    refine qG.blk 3 (pc' := 9) (ls' := [(2, 61), (0, ((a : Nat) : Int))]) (st' := [(0, w 61 2), (0, ((a : Nat) : Int))]) (w' := w) (n' := 142) rfl ?_
    rw [show w 61 2 = ((n : Nat) : Int) from hn]
    refine qG.br (P := ((a : Nat) : Int) < ((n : Nat) : Int)) (pc1 := 12) (pc2 := 22) (st1 := []) rfl (fun h2 => ?_) (fun h2 => ?_)
    · skip
      refine qG.blk 2 (pc' := 15) (ls' := [(2, 61), (0, ((a : Nat) : Int))]) (st' := [(0, 20), (0, ((a : Nat) : Int))]) (w' := w) (n' := 142) rfl ?_
      refine qG.br (P := ((a : Nat) : Int) < 20) (pc1 := 18) (pc2 := 22) (st1 := []) rfl (fun h3 => ?_) (fun h3 => ?_)
      · skip
        refine qG.blk 2 (pc' := 23) (ls' := [(2, 61), (0, ((a : Nat) : Int))]) (st' := [(0, 1)]) (w' := w) (n' := 142) rfl ?_
        refine qG.ret rfl (by first | rfl | exact decide_eq_true (by omega)) ?_
        subst hQ9
        first | exact ⟨rfl, rfl, rfl⟩ | (exfalso; omega)
      · skip
        refine qG.blk 1 (pc' := 23) (ls' := [(2, 61), (0, ((a : Nat) : Int))]) (st' := [(0, 0)]) (w' := w) (n' := 142) rfl ?_
        refine qG.ret rfl (by first | rfl | exact decide_eq_true (by omega)) ?_
        subst hQ9
        first | exact ⟨rfl, rfl, rfl⟩ | (exfalso; omega)
    · skip
      refine qG.blk 1 (pc' := 23) (ls' := [(2, 61), (0, ((a : Nat) : Int))]) (st' := [(0, 0)]) (w' := w) (n' := 142) rfl ?_
      refine qG.ret rfl (by first | rfl | exact decide_eq_true (by omega)) ?_
      subst hQ9
      first | exact ⟨rfl, rfl, rfl⟩ | (exfalso; omega)
theorem K_wroteBefore {d : Nat} (hd : 1 ≤ d) (a b : Nat) (n : Nat) (hn9 : n ≤ 20) (w : qW) (hI : yInv zgf zga zra zSp w) (hn : w 61 2 = (n : Int)) (ha : a < n) (hb : b < n) : qG none d 160 0 [(2, 61), (0, ((a : Nat) : Int)), (0, ((b : Nat) : Int))] [] w 142 (fun (r : qV) (w1 : qW) (n1 : Nat) => r = (0, if ahR (w 62) a b = true then 1 else 0) ∧ w1 = w ∧ n1 = 142) := by
  generalize hQ9 : (fun (r : qV) (w1 : qW) (n1 : Nat) => r = (0, if ahR (w 62) a b = true then 1 else 0) ∧ w1 = w ∧ n1 = 142) = Q9
  obtain ⟨d, rfl⟩ : ∃ d9, d = d9 + 1 := ⟨d - 1, by omega⟩
  refine qG.blk 2 (pc' := 2) (ls' := [(2, 61), (0, ((a : Nat) : Int)), (0, ((b : Nat) : Int))]) (st' := [(0, ((a : Nat) : Int)), (2, 61)]) (w' := w) (n' := 142) rfl ?_
  refine qG.call (t := 159) (na := 2) (sk := 1) (md := 1) (ls1 := [(2, 61), (0, ((a : Nat) : Int))]) (r1 := []) rfl rfl rfl rfl rfl (K_isWriter (by omega) a n hn9 w hI hn (by omega)) ?_
  rintro _ w7 _ ⟨rfl, hw7, rfl⟩
  rw [hw7]
  show qG none (d + 1) 160 5 [(2, 61), (0, ((a : Nat) : Int)), (0, ((b : Nat) : Int))] [(0, 1)] w 142 Q9
  refine qG.br (P := (1 : Int) = 0) (pc1 := 16) (pc2 := 8) (st1 := []) rfl (fun h1 => ?_) (fun h1 => ?_)
  · exact absurd h1 (by decide)
  · skip
    refine qG.blk 2 (pc' := 10) (ls' := [(2, 61), (0, ((a : Nat) : Int)), (0, ((b : Nat) : Int))]) (st' := [(0, ((b : Nat) : Int)), (2, 61)]) (w' := w) (n' := 142) rfl ?_
    refine qG.call (t := 159) (na := 2) (sk := 1) (md := 1) (ls1 := [(2, 61), (0, ((b : Nat) : Int))]) (r1 := []) rfl rfl rfl rfl rfl (K_isWriter (by omega) b n hn9 w hI hn (by omega)) ?_
    rintro _ w7 _ ⟨rfl, hw7, rfl⟩
    rw [hw7]
    show qG none (d + 1) 160 13 [(2, 61), (0, ((a : Nat) : Int)), (0, ((b : Nat) : Int))] [(0, 1)] w 142 Q9
    refine qG.br (P := (1 : Int) = 0) (pc1 := 16) (pc2 := 18) (st1 := []) rfl (fun h2 => ?_) (fun h2 => ?_)
    · exact absurd h2 (by decide)
    · skip
      refine qG.blk 2 (pc' := 22) (ls' := [(2, 61), (0, ((a : Nat) : Int)), (0, ((b : Nat) : Int))]) (st' := [(2, w 61 0)]) (w' := w) (n' := 142) rfl ?_
      rw [show w 61 0 = 62 from zref hI rfl rfl]
      refine qG.blk 1 (pc' := 23) (ls' := [(2, 61), (0, ((a : Nat) : Int)), (0, ((b : Nat) : Int))]) (st' := [(0, ((a : Nat) : Int)), (2, 62)]) (w' := w) (n' := 142) rfl ?_
      refine qG.ar (P := 0 ≤ ((a : Nat) : Int) ∧ ((a : Nat) : Int) < ((20 : Nat) : Int)) (P2 := 0 < (62 : Int) ∧ (62 : Int) ≤ ((142 : Nat) : Int)) (pc' := 24) (ls' := [(2, 61), (0, ((a : Nat) : Int)), (0, ((b : Nat) : Int))]) (st' := [(0, w 62 a)]) (w' := w) (n' := 142) rfl (by omega) (by decide) ?_
      refine qG.blk 2 (pc' := 28) (ls' := [(2, 61), (0, ((a : Nat) : Int)), (0, ((b : Nat) : Int))]) (st' := [(2, w 61 0), (0, w 62 a)]) (w' := w) (n' := 142) rfl ?_
      rw [show w 61 0 = 62 from zref hI rfl rfl]
      refine qG.blk 1 (pc' := 29) (ls' := [(2, 61), (0, ((a : Nat) : Int)), (0, ((b : Nat) : Int))]) (st' := [(0, ((b : Nat) : Int)), (2, 62), (0, w 62 a)]) (w' := w) (n' := 142) rfl ?_
      refine qG.ar (P := 0 ≤ ((b : Nat) : Int) ∧ ((b : Nat) : Int) < ((20 : Nat) : Int)) (P2 := 0 < (62 : Int) ∧ (62 : Int) ≤ ((142 : Nat) : Int)) (pc' := 30) (ls' := [(2, 61), (0, ((a : Nat) : Int)), (0, ((b : Nat) : Int))]) (st' := [(0, w 62 b), (0, w 62 a)]) (w' := w) (n' := 142) rfl (by omega) (by decide) ?_
      refine qG.br (P := w 62 a < w 62 b) (pc1 := 53) (pc2 := 33) (st1 := []) rfl (fun h1 => ?_) (fun h1 => ?_)
      · skip
        refine qG.blk 2 (pc' := 58) (ls' := [(2, 61), (0, ((a : Nat) : Int)), (0, ((b : Nat) : Int))]) (st' := [(0, 1)]) (w' := w) (n' := 142) rfl ?_
        refine qG.ret rfl (by first | rfl | exact decide_eq_true (by omega)) ?_
        subst hQ9
        exact ⟨congrArg (Prod.mk (0 : Nat)) (by unfold ahR; first | exact (if_pos (decide_eq_true (by omega))).symm | exact (if_neg (by rw [decide_eq_true_eq]; omega)).symm), rfl, rfl⟩
      · skip
        refine qG.blk 2 (pc' := 37) (ls' := [(2, 61), (0, ((a : Nat) : Int)), (0, ((b : Nat) : Int))]) (st' := [(2, w 61 0)]) (w' := w) (n' := 142) rfl ?_
        rw [show w 61 0 = 62 from zref hI rfl rfl]
        refine qG.blk 1 (pc' := 38) (ls' := [(2, 61), (0, ((a : Nat) : Int)), (0, ((b : Nat) : Int))]) (st' := [(0, ((a : Nat) : Int)), (2, 62)]) (w' := w) (n' := 142) rfl ?_
        refine qG.ar (P := 0 ≤ ((a : Nat) : Int) ∧ ((a : Nat) : Int) < ((20 : Nat) : Int)) (P2 := 0 < (62 : Int) ∧ (62 : Int) ≤ ((142 : Nat) : Int)) (pc' := 39) (ls' := [(2, 61), (0, ((a : Nat) : Int)), (0, ((b : Nat) : Int))]) (st' := [(0, w 62 a)]) (w' := w) (n' := 142) rfl (by omega) (by decide) ?_
        refine qG.blk 2 (pc' := 43) (ls' := [(2, 61), (0, ((a : Nat) : Int)), (0, ((b : Nat) : Int))]) (st' := [(2, w 61 0), (0, w 62 a)]) (w' := w) (n' := 142) rfl ?_
        rw [show w 61 0 = 62 from zref hI rfl rfl]
        refine qG.blk 1 (pc' := 44) (ls' := [(2, 61), (0, ((a : Nat) : Int)), (0, ((b : Nat) : Int))]) (st' := [(0, ((b : Nat) : Int)), (2, 62), (0, w 62 a)]) (w' := w) (n' := 142) rfl ?_
        refine qG.ar (P := 0 ≤ ((b : Nat) : Int) ∧ ((b : Nat) : Int) < ((20 : Nat) : Int)) (P2 := 0 < (62 : Int) ∧ (62 : Int) ≤ ((142 : Nat) : Int)) (pc' := 45) (ls' := [(2, 61), (0, ((a : Nat) : Int)), (0, ((b : Nat) : Int))]) (st' := [(0, w 62 b), (0, w 62 a)]) (w' := w) (n' := 142) rfl (by omega) (by decide) ?_
        refine qG.br (P := w 62 a = w 62 b) (pc1 := 48) (pc2 := 57) (st1 := []) rfl (fun h2 => ?_) (fun h2 => ?_)
        · skip
          refine qG.blk 2 (pc' := 50) (ls' := [(2, 61), (0, ((a : Nat) : Int)), (0, ((b : Nat) : Int))]) (st' := [(0, ((b : Nat) : Int)), (0, ((a : Nat) : Int))]) (w' := w) (n' := 142) rfl ?_
          refine qG.br (P := ((a : Nat) : Int) < ((b : Nat) : Int)) (pc1 := 53) (pc2 := 57) (st1 := []) rfl (fun h3 => ?_) (fun h3 => ?_)
          · skip
            refine qG.blk 2 (pc' := 58) (ls' := [(2, 61), (0, ((a : Nat) : Int)), (0, ((b : Nat) : Int))]) (st' := [(0, 1)]) (w' := w) (n' := 142) rfl ?_
            refine qG.ret rfl (by first | rfl | exact decide_eq_true (by omega)) ?_
            subst hQ9
            exact ⟨congrArg (Prod.mk (0 : Nat)) (by unfold ahR; first | exact (if_pos (decide_eq_true (by omega))).symm | exact (if_neg (by rw [decide_eq_true_eq]; omega)).symm), rfl, rfl⟩
          · skip
            refine qG.blk 1 (pc' := 58) (ls' := [(2, 61), (0, ((a : Nat) : Int)), (0, ((b : Nat) : Int))]) (st' := [(0, 0)]) (w' := w) (n' := 142) rfl ?_
            refine qG.ret rfl (by first | rfl | exact decide_eq_true (by omega)) ?_
            subst hQ9
            exact ⟨congrArg (Prod.mk (0 : Nat)) (by unfold ahR; first | exact (if_pos (decide_eq_true (by omega))).symm | exact (if_neg (by rw [decide_eq_true_eq]; omega)).symm), rfl, rfl⟩
        · skip
          refine qG.blk 1 (pc' := 58) (ls' := [(2, 61), (0, ((a : Nat) : Int)), (0, ((b : Nat) : Int))]) (st' := [(0, 0)]) (w' := w) (n' := 142) rfl ?_
          refine qG.ret rfl (by first | rfl | exact decide_eq_true (by omega)) ?_
          subst hQ9
          exact ⟨congrArg (Prod.mk (0 : Nat)) (by unfold ahR; first | exact (if_pos (decide_eq_true (by omega))).symm | exact (if_neg (by rw [decide_eq_true_eq]; omega)).symm), rfl, rfl⟩
theorem K_firstWith {d : Nat} (hd : 2 ≤ d) (c : Int) (n : Nat) (hn9 : n ≤ 20) (w : qW) (hI : yInv zgf zga zra zSp w) (hn : w 61 2 = (n : Int)) : qG none d 157 0 [(2, 61), (0, c), (9, 0), (9, 0)] [] w 142 (fun (r : qV) (_ : qW) (n1 : Nat) => r = (0, fiV (w 62) (w 63) n c) ∧ n1 = 142) := by
  generalize hQ9 : (fun (r : qV) (_ : qW) (n1 : Nat) => r = (0, fiV (w 62) (w 63) n c) ∧ n1 = 142) = Q9
  obtain ⟨d, rfl⟩ : ∃ d9, d = d9 + 1 := ⟨d - 1, by omega⟩
  refine qG.blk 1 (pc' := 1) (ls' := [(2, 61), (0, c), (9, 0), (9, 0)]) (st' := [(0, c)]) (w' := w) (n' := 142) rfl ?_
  refine qG.br (P := c < 0) (pc1 := 10) (pc2 := 4) (st1 := []) rfl (fun h1 => ?_) (fun h1 => ?_)
  · skip
    refine qG.blk 1 (pc' := 11) (ls' := [(2, 61), (0, c), (9, 0), (9, 0)]) (st' := [(0, (-1))]) (w' := w) (n' := 142) rfl ?_
    refine qG.ret rfl rfl ?_
    subst hQ9
    exact ⟨(by unfold fiV; first | (rw [if_neg (by omega)]; done) | (rw [if_pos (by omega), Int.toNat_natCast, hI16.2.1, show k = n by omega]; done)), rfl⟩
  · skip
    refine qG.blk 2 (pc' := 7) (ls' := [(2, 61), (0, c), (9, 0), (9, 0)]) (st' := [(0, 30), (0, c)]) (w' := w) (n' := 142) rfl ?_
    refine qG.br (P := c < 30) (pc1 := 12) (pc2 := 10) (st1 := []) rfl (fun h30 => ?_) (fun h30 => ?_)
    · skip
      obtain ⟨c9, rfl⟩ : ∃ q : Nat, c = (q : Int) := ⟨c.toNat, by omega⟩
      refine qG.blk 4 (pc' := 16) (ls' := [(2, 61), (0, ((c9 : Nat) : Int)), (0, (-1)), (0, 0)]) (st' := []) (w' := w) (n' := 142) rfl ?_
      have L16 : ∀ (m9 : Nat) (k : Nat) (x2 : Int), n - k = m9 → (k ≤ n ∧ x2 = fsF (w 62) (w 63) c9 k ∧ -1 ≤ x2 ∧ x2 < (k : Int)) → qG none (d + 1) 157 16 [(2, 61), (0, ((c9 : Nat) : Int)), (0, x2), (0, ((k : Nat) : Int))] [] w 142 Q9 := by
        intro m9
        induction m9 using Nat.strongRecOn with
        | ind m9 ih16 =>
        intro k x2 hm16 hI16
        refine qG.blk 3 (pc' := 21) (ls' := [(2, 61), (0, ((c9 : Nat) : Int)), (0, x2), (0, ((k : Nat) : Int))]) (st' := [(0, w 61 2), (0, ((k : Nat) : Int))]) (w' := w) (n' := 142) rfl ?_
        rw [show w 61 2 = ((n : Nat) : Int) from hn]
        refine qG.br (P := ((k : Nat) : Int) < ((n : Nat) : Int)) (pc1 := 24) (pc2 := 65) (st1 := []) rfl (fun h2 => ?_) (fun h2 => ?_)
        · skip
          refine qG.blk 2 (pc' := 27) (ls' := [(2, 61), (0, ((c9 : Nat) : Int)), (0, x2), (0, ((k : Nat) : Int))]) (st' := [(0, 20), (0, ((k : Nat) : Int))]) (w' := w) (n' := 142) rfl ?_
          refine qG.br (P := ((k : Nat) : Int) < 20) (pc1 := 30) (pc2 := 65) (st1 := []) rfl (fun h3 => ?_) (fun h3 => ?_)
          · skip
            refine qG.blk 2 (pc' := 34) (ls' := [(2, 61), (0, ((c9 : Nat) : Int)), (0, x2), (0, ((k : Nat) : Int))]) (st' := [(2, w 61 1)]) (w' := w) (n' := 142) rfl ?_
            rw [show w 61 1 = 63 from zref hI rfl rfl]
            refine qG.blk 1 (pc' := 35) (ls' := [(2, 61), (0, ((c9 : Nat) : Int)), (0, x2), (0, ((k : Nat) : Int))]) (st' := [(0, ((k : Nat) : Int)), (2, 63)]) (w' := w) (n' := 142) rfl ?_
            refine qG.ar (P := 0 ≤ ((k : Nat) : Int) ∧ ((k : Nat) : Int) < ((20 : Nat) : Int)) (P2 := 0 < (63 : Int) ∧ (63 : Int) ≤ ((142 : Nat) : Int)) (pc' := 36) (ls' := [(2, 61), (0, ((c9 : Nat) : Int)), (0, x2), (0, ((k : Nat) : Int))]) (st' := [(0, w 63 k)]) (w' := w) (n' := 142) rfl (by omega) (by decide) ?_
            refine qG.blk 4 (pc' := 40) (ls' := [(2, 61), (0, ((c9 : Nat) : Int)), (0, x2), (0, ((k : Nat) : Int))]) (st' := [(0, qand (qush (w 63 k) ((c9 : Nat) : Int)) 1)]) (w' := w) (n' := 142) rfl ?_
            rw [show qand (qush (w 63 k) ((c9 : Nat) : Int)) 1 = (if hbit (w 63 k) c9 = true then 1 else 0) from ush_b (by omega)]
            refine qG.br (P := (if hbit (w 63 k) c9 = true then 1 else 0) = 0) (pc1 := 59) (pc2 := 43) (st1 := []) rfl (fun hb9 => ?_) (fun hb9 => ?_)
            · skip
              have hb : ¬ hbit (w 63 k) c9 = true := fun z => (by rw [if_pos z] at hb9; cases hb9)
              refine qG.blk 1 (pc' := 62) (ls' := [(2, 61), (0, ((c9 : Nat) : Int)), (0, x2), (0, wrp (((k : Nat) : Int) + 1))]) (st' := []) (w' := w) (n' := 142) rfl ?_
              rw [show wrp (((k : Nat) : Int) + 1) = ((k + 1 : Nat) : Int) from wrp_id (by omega) (by omega)]
              refine qG.blk 1 (pc' := 16) (ls' := [(2, 61), (0, ((c9 : Nat) : Int)), (0, x2), (0, ((k + 1 : Nat) : Int))]) (st' := []) (w' := w) (n' := 142) rfl ?_
              exact ih16 _ (by omega) (k + 1) (x2) rfl (⟨by omega, by first | exact (fs_1 hb (.inl (hI16.2.1.symm.trans h1))).symm | exact (fs_1 hb (.inr (by rw [← hI16.2.1]; exact ha))).symm | (rw [fs_0 (fun z => h1 (hI16.2.1.trans z)) (by rw [← hI16.2.1]; exact ha)]; exact hI16.2.1) | (rw [fs_n hb]; exact hI16.2.1), by omega, by omega⟩)
            · skip
              have hb : hbit (w 63 k) c9 = true := Decidable.byContradiction (fun z => hb9 (if_neg z))
              refine qG.blk 2 (pc' := 45) (ls' := [(2, 61), (0, ((c9 : Nat) : Int)), (0, x2), (0, ((k : Nat) : Int))]) (st' := [(0, (-1)), (0, x2)]) (w' := w) (n' := 142) rfl ?_
              refine qG.br (P := x2 = (-1)) (pc1 := 57) (pc2 := 48) (st1 := []) rfl (fun h1 => ?_) (fun h1 => ?_)
              · skip
                refine qG.blk 3 (pc' := 62) (ls' := [(2, 61), (0, ((c9 : Nat) : Int)), (0, ((k : Nat) : Int)), (0, wrp (((k : Nat) : Int) + 1))]) (st' := []) (w' := w) (n' := 142) rfl ?_
                rw [show wrp (((k : Nat) : Int) + 1) = ((k + 1 : Nat) : Int) from wrp_id (by omega) (by omega)]
                refine qG.blk 1 (pc' := 16) (ls' := [(2, 61), (0, ((c9 : Nat) : Int)), (0, ((k : Nat) : Int)), (0, ((k + 1 : Nat) : Int))]) (st' := []) (w' := w) (n' := 142) rfl ?_
                exact ih16 _ (by omega) (k + 1) (((k : Nat) : Int)) rfl (⟨by omega, by first | exact (fs_1 hb (.inl (hI16.2.1.symm.trans h1))).symm | exact (fs_1 hb (.inr (by rw [← hI16.2.1]; exact ha))).symm | (rw [fs_0 (fun z => h1 (hI16.2.1.trans z)) (by rw [← hI16.2.1]; exact ha)]; exact hI16.2.1) | (rw [fs_n hb]; exact hI16.2.1), by omega, by omega⟩)
              · skip
                obtain ⟨f9, rfl⟩ : ∃ q : Nat, x2 = (q : Int) := ⟨x2.toNat, by omega⟩
                refine qG.blk 3 (pc' := 51) (ls' := [(2, 61), (0, ((c9 : Nat) : Int)), (0, ((f9 : Nat) : Int)), (0, ((k : Nat) : Int))]) (st' := [(0, ((f9 : Nat) : Int)), (0, ((k : Nat) : Int)), (2, 61)]) (w' := w) (n' := 142) rfl ?_
                refine qG.call (t := 160) (na := 3) (sk := 1) (md := 1) (ls1 := [(2, 61), (0, ((k : Nat) : Int)), (0, ((f9 : Nat) : Int))]) (r1 := []) rfl rfl rfl rfl rfl (K_wroteBefore (by omega) k f9 n hn9 w hI hn (by omega) (by omega)) ?_
                rintro _ w7 _ ⟨rfl, hw7, rfl⟩
                rw [hw7]
                show qG none (d + 1) 157 54 [(2, 61), (0, ((c9 : Nat) : Int)), (0, ((f9 : Nat) : Int)), (0, ((k : Nat) : Int))] [(0, (if ahR (w 62) k f9 = true then 1 else 0))] w 142 Q9
                refine qG.br (P := (if ahR (w 62) k f9 = true then 1 else 0) = 0) (pc1 := 59) (pc2 := 57) (st1 := []) rfl (fun ha9 => ?_) (fun ha9 => ?_)
                · skip
                  have ha : ¬ ahR (w 62) k (((f9 : Nat) : Int)).toNat = true := ite01.mp ha9
                  refine qG.blk 1 (pc' := 62) (ls' := [(2, 61), (0, ((c9 : Nat) : Int)), (0, ((f9 : Nat) : Int)), (0, wrp (((k : Nat) : Int) + 1))]) (st' := []) (w' := w) (n' := 142) rfl ?_
                  rw [show wrp (((k : Nat) : Int) + 1) = ((k + 1 : Nat) : Int) from wrp_id (by omega) (by omega)]
                  refine qG.blk 1 (pc' := 16) (ls' := [(2, 61), (0, ((c9 : Nat) : Int)), (0, ((f9 : Nat) : Int)), (0, ((k + 1 : Nat) : Int))]) (st' := []) (w' := w) (n' := 142) rfl ?_
                  exact ih16 _ (by omega) (k + 1) (((f9 : Nat) : Int)) rfl (⟨by omega, by first | exact (fs_1 hb (.inl (hI16.2.1.symm.trans h1))).symm | exact (fs_1 hb (.inr (by rw [← hI16.2.1]; exact ha))).symm | (rw [fs_0 (fun z => h1 (hI16.2.1.trans z)) (by rw [← hI16.2.1]; exact ha)]; exact hI16.2.1) | (rw [fs_n hb]; exact hI16.2.1), by omega, by omega⟩)
                · skip
                  have ha : ahR (w 62) k (((f9 : Nat) : Int)).toNat = true := Decidable.of_not_not (fun z => ha9 (ite01.mpr z))
                  refine qG.blk 3 (pc' := 62) (ls' := [(2, 61), (0, ((c9 : Nat) : Int)), (0, ((k : Nat) : Int)), (0, wrp (((k : Nat) : Int) + 1))]) (st' := []) (w' := w) (n' := 142) rfl ?_
                  rw [show wrp (((k : Nat) : Int) + 1) = ((k + 1 : Nat) : Int) from wrp_id (by omega) (by omega)]
                  refine qG.blk 1 (pc' := 16) (ls' := [(2, 61), (0, ((c9 : Nat) : Int)), (0, ((k : Nat) : Int)), (0, ((k + 1 : Nat) : Int))]) (st' := []) (w' := w) (n' := 142) rfl ?_
                  exact ih16 _ (by omega) (k + 1) (((k : Nat) : Int)) rfl (⟨by omega, by first | exact (fs_1 hb (.inl (hI16.2.1.symm.trans h1))).symm | exact (fs_1 hb (.inr (by rw [← hI16.2.1]; exact ha))).symm | (rw [fs_0 (fun z => h1 (hI16.2.1.trans z)) (by rw [← hI16.2.1]; exact ha)]; exact hI16.2.1) | (rw [fs_n hb]; exact hI16.2.1), by omega, by omega⟩)
          · skip
            refine qG.blk 1 (pc' := 66) (ls' := [(2, 61), (0, ((c9 : Nat) : Int)), (0, x2), (0, ((k : Nat) : Int))]) (st' := [(0, x2)]) (w' := w) (n' := 142) rfl ?_
            refine qG.ret rfl rfl ?_
            subst hQ9
            exact ⟨(by unfold fiV; first | (rw [if_neg (by omega)]; done) | (rw [if_pos (by omega), Int.toNat_natCast, hI16.2.1, show k = n by omega]; done)), rfl⟩
        · skip
          refine qG.blk 1 (pc' := 66) (ls' := [(2, 61), (0, ((c9 : Nat) : Int)), (0, x2), (0, ((k : Nat) : Int))]) (st' := [(0, x2)]) (w' := w) (n' := 142) rfl ?_
          refine qG.ret rfl rfl ?_
          subst hQ9
          exact ⟨(by unfold fiV; first | (rw [if_neg (by omega)]; done) | (rw [if_pos (by omega), Int.toNat_natCast, hI16.2.1, show k = n by omega]; done)), rfl⟩
      exact L16 _ (0) ((-1)) rfl (⟨by omega, rfl, by omega, by omega⟩)
    · skip
      refine qG.blk 1 (pc' := 11) (ls' := [(2, 61), (0, c), (9, 0), (9, 0)]) (st' := [(0, (-1))]) (w' := w) (n' := 142) rfl ?_
      refine qG.ret rfl rfl ?_
      subst hQ9
      exact ⟨(by unfold fiV; first | (rw [if_neg (by omega)]; done) | (rw [if_pos (by omega), Int.toNat_natCast, hI16.2.1, show k = n by omega]; done)), rfl⟩
theorem K_X11_first {d : Nat} (hd : 3 ≤ d) (c : Int) (n : Nat) (hn9 : n ≤ 20) (w : qW) (hI : yInv zgf zga zra zSp w) (hn : w 61 2 = (n : Int)) : qG none d 196 0 [(2, 1), (0, c)] [] w 142 (fun (r : qV) (_ : qW) (_ : Nat) => r = (0, fiV (w 62) (w 63) n c)) := by
  generalize hQ9 : (fun (r : qV) (_ : qW) (_ : Nat) => r = (0, fiV (w 62) (w 63) n c)) = Q9
  obtain ⟨d, rfl⟩ : ∃ d9, d = d9 + 1 := ⟨d - 1, by omega⟩
  refine qG.blk 2 (pc' := 4) (ls' := [(2, 1), (0, c)]) (st' := [(2, w 1 9)]) (w' := w) (n' := 142) rfl ?_
  rw [show w 1 9 = 61 from zref hI rfl rfl]
  refine qG.blk 1 (pc' := 5) (ls' := [(2, 1), (0, c)]) (st' := [(0, c), (2, 61)]) (w' := w) (n' := 142) rfl ?_
  refine qG.call (t := 157) (na := 2) (sk := 1) (md := 1) (ls1 := [(2, 61), (0, c), (9, 0), (9, 0)]) (r1 := []) rfl rfl rfl rfl rfl (K_firstWith (by omega) c n hn9 w hI hn) ?_
  rintro _ w8 _ ⟨rfl, rfl⟩
  show qG none (d + 1) 196 8 [(2, 1), (0, c)] [(0, fiV (w 62) (w 63) n c)] w8 142 Q9
  refine qG.ret rfl rfl ?_
  subst hQ9
  exact rfl
theorem K_X12_first {d : Nat} (hd : 2 ≤ d) (c : Int) (n : Nat) (hn9 : n ≤ 20) (w : qW) (hI : yInv zgf zga zra zSp w) (hn : w 95 76 = (n : Int)) : qG none d 297 0 [(2, 95), (0, c), (9, 0), (9, 0)] [] w 142 (fun (r : qV) (_ : qW) (_ : Nat) => r = (0, fiV (w 141) (w 142) n c)) := by
  generalize hQ9 : (fun (r : qV) (_ : qW) (_ : Nat) => r = (0, fiV (w 141) (w 142) n c)) = Q9
  obtain ⟨d, rfl⟩ : ∃ d9, d = d9 + 1 := ⟨d - 1, by omega⟩
  refine qG.blk 3 (pc' := 4) (ls' := [(2, 95), (0, c), (9, 0), (9, 0)]) (st' := [(0, 29), (0, 0), (0, c)]) (w' := w) (n' := 142) rfl ?_
  refine qG.call (t := 206) (na := 3) (sk := 0) (md := 0) (ls1 := [(0, c), (0, 0), (0, 29)]) (r1 := []) rfl rfl rfl rfl rfl (K_isIn (Nat.zero_le _) _ _ _ _) ?_
  rintro _ w7 _ ⟨rfl, hw7, rfl⟩
  rw [hw7]
  show qG none (d + 1) 297 7 [(2, 95), (0, c), (9, 0), (9, 0)] [(0, isInV (c) (0) (29))] w 142 Q9
  refine qG.br (P := isInV (c) (0) (29) = 0) (pc1 := 10) (pc2 := 12) (st1 := []) rfl (fun h30 => ?_) (fun h30 => ?_)
  · skip
    rw [isIn_b] at h30
    refine qG.blk 1 (pc' := 11) (ls' := [(2, 95), (0, c), (9, 0), (9, 0)]) (st' := [(0, (-1))]) (w' := w) (n' := 142) rfl ?_
    refine qG.ret rfl rfl ?_
    subst hQ9
    exact (by unfold fiV; first | (rw [if_neg (by omega)]; done) | (rw [if_pos (by omega), Int.toNat_natCast, hI16.2.1, show k = n by omega]; done))
  · skip
    rw [isIn_p] at h30
    obtain ⟨c9, rfl⟩ : ∃ q : Nat, c = (q : Int) := ⟨c.toNat, by omega⟩
    refine qG.blk 4 (pc' := 16) (ls' := [(2, 95), (0, ((c9 : Nat) : Int)), (0, (-1)), (0, 0)]) (st' := []) (w' := w) (n' := 142) rfl ?_
    have L16 : ∀ (m9 : Nat) (k : Nat) (x2 : Int), n - k = m9 → (k ≤ n ∧ x2 = fsF (w 141) (w 142) c9 k ∧ -1 ≤ x2 ∧ x2 < (k : Int)) → qG none (d + 1) 297 16 [(2, 95), (0, ((c9 : Nat) : Int)), (0, x2), (0, ((k : Nat) : Int))] [] w 142 Q9 := by
      intro m9
      induction m9 using Nat.strongRecOn with
      | ind m9 ih16 =>
      intro k x2 hm16 hI16
      refine qG.blk 3 (pc' := 21) (ls' := [(2, 95), (0, ((c9 : Nat) : Int)), (0, x2), (0, ((k : Nat) : Int))]) (st' := [(0, w 95 76), (0, ((k : Nat) : Int))]) (w' := w) (n' := 142) rfl ?_
      rw [show w 95 76 = ((n : Nat) : Int) from hn]
      refine qG.br (P := ((k : Nat) : Int) < ((n : Nat) : Int)) (pc1 := 24) (pc2 := 60) (st1 := []) rfl (fun h1 => ?_) (fun h1 => ?_)
      · skip
        refine qG.blk 2 (pc' := 28) (ls' := [(2, 95), (0, ((c9 : Nat) : Int)), (0, x2), (0, ((k : Nat) : Int))]) (st' := [(2, w 95 79)]) (w' := w) (n' := 142) rfl ?_
        rw [show w 95 79 = 142 from zref hI rfl rfl]
        refine qG.blk 1 (pc' := 29) (ls' := [(2, 95), (0, ((c9 : Nat) : Int)), (0, x2), (0, ((k : Nat) : Int))]) (st' := [(0, ((k : Nat) : Int)), (2, 142)]) (w' := w) (n' := 142) rfl ?_
        refine qG.ar (P := 0 ≤ ((k : Nat) : Int) ∧ ((k : Nat) : Int) < ((20 : Nat) : Int)) (P2 := 0 < (142 : Int) ∧ (142 : Int) ≤ ((142 : Nat) : Int)) (pc' := 30) (ls' := [(2, 95), (0, ((c9 : Nat) : Int)), (0, x2), (0, ((k : Nat) : Int))]) (st' := [(0, w 142 k)]) (w' := w) (n' := 142) rfl (by omega) (by decide) ?_
        refine qG.blk 5 (pc' := 35) (ls' := [(2, 95), (0, ((c9 : Nat) : Int)), (0, x2), (0, ((k : Nat) : Int))]) (st' := [(0, 1), (0, qand (qshr (w 142 k) ((c9 : Nat) : Int)) 1)]) (w' := w) (n' := 142) rfl ?_
        refine qG.br (P := qand (qshr (w 142 k) ((c9 : Nat) : Int)) 1 = 1) (pc1 := 38) (pc2 := 54) (st1 := []) rfl (fun hb9 => ?_) (fun hb9 => ?_)
        · skip
          have hb : hbit (w 142 k) c9 = true := decide_eq_true hb9
          refine qG.blk 2 (pc' := 40) (ls' := [(2, 95), (0, ((c9 : Nat) : Int)), (0, x2), (0, ((k : Nat) : Int))]) (st' := [(0, (-1)), (0, x2)]) (w' := w) (n' := 142) rfl ?_
          refine qG.br (P := x2 = (-1)) (pc1 := 52) (pc2 := 43) (st1 := []) rfl (fun h1 => ?_) (fun h1 => ?_)
          · skip
            refine qG.blk 3 (pc' := 57) (ls' := [(2, 95), (0, ((c9 : Nat) : Int)), (0, ((k : Nat) : Int)), (0, wrp (((k : Nat) : Int) + 1))]) (st' := []) (w' := w) (n' := 142) rfl ?_
            rw [show wrp (((k : Nat) : Int) + 1) = ((k + 1 : Nat) : Int) from wrp_id (by omega) (by omega)]
            refine qG.blk 1 (pc' := 16) (ls' := [(2, 95), (0, ((c9 : Nat) : Int)), (0, ((k : Nat) : Int)), (0, ((k + 1 : Nat) : Int))]) (st' := []) (w' := w) (n' := 142) rfl ?_
            exact ih16 _ (by omega) (k + 1) (((k : Nat) : Int)) rfl (⟨by omega, by first | exact (fs_1 hb (.inl (hI16.2.1.symm.trans h1))).symm | exact (fs_1 hb (.inr (by rw [← hI16.2.1]; exact ha))).symm | (rw [fs_0 (fun z => h1 (hI16.2.1.trans z)) (by rw [← hI16.2.1]; exact ha)]; exact hI16.2.1) | (rw [fs_n hb]; exact hI16.2.1), by omega, by omega⟩)
          · skip
            obtain ⟨f9, rfl⟩ : ∃ q : Nat, x2 = (q : Int) := ⟨x2.toNat, by omega⟩
            refine qG.blk 3 (pc' := 46) (ls' := [(2, 95), (0, ((c9 : Nat) : Int)), (0, ((f9 : Nat) : Int)), (0, ((k : Nat) : Int))]) (st' := [(0, ((f9 : Nat) : Int)), (0, ((k : Nat) : Int)), (2, 95)]) (w' := w) (n' := 142) rfl ?_
            refine qG.call (t := 296) (na := 3) (sk := 1) (md := 1) (ls1 := [(2, 95), (0, ((k : Nat) : Int)), (0, ((f9 : Nat) : Int))]) (r1 := []) rfl rfl rfl rfl rfl ((K_isAhead (by omega) k f9 (by omega) (by omega) w hI)) ?_
            rintro _ w7 _ ⟨rfl, hw7, rfl⟩
            rw [hw7, show ahB w k f9 = ahR (w 141) k f9 from rfl]
            show qG none (d + 1) 297 49 [(2, 95), (0, ((c9 : Nat) : Int)), (0, ((f9 : Nat) : Int)), (0, ((k : Nat) : Int))] [(0, (if ahR (w 141) k f9 = true then 1 else 0))] w 142 Q9
            refine qG.br (P := (if ahR (w 141) k f9 = true then 1 else 0) = 0) (pc1 := 54) (pc2 := 52) (st1 := []) rfl (fun ha9 => ?_) (fun ha9 => ?_)
            · skip
              have ha : ¬ ahR (w 141) k (((f9 : Nat) : Int)).toNat = true := ite01.mp ha9
              refine qG.blk 1 (pc' := 57) (ls' := [(2, 95), (0, ((c9 : Nat) : Int)), (0, ((f9 : Nat) : Int)), (0, wrp (((k : Nat) : Int) + 1))]) (st' := []) (w' := w) (n' := 142) rfl ?_
              rw [show wrp (((k : Nat) : Int) + 1) = ((k + 1 : Nat) : Int) from wrp_id (by omega) (by omega)]
              refine qG.blk 1 (pc' := 16) (ls' := [(2, 95), (0, ((c9 : Nat) : Int)), (0, ((f9 : Nat) : Int)), (0, ((k + 1 : Nat) : Int))]) (st' := []) (w' := w) (n' := 142) rfl ?_
              exact ih16 _ (by omega) (k + 1) (((f9 : Nat) : Int)) rfl (⟨by omega, by first | exact (fs_1 hb (.inl (hI16.2.1.symm.trans h1))).symm | exact (fs_1 hb (.inr (by rw [← hI16.2.1]; exact ha))).symm | (rw [fs_0 (fun z => h1 (hI16.2.1.trans z)) (by rw [← hI16.2.1]; exact ha)]; exact hI16.2.1) | (rw [fs_n hb]; exact hI16.2.1), by omega, by omega⟩)
            · skip
              have ha : ahR (w 141) k (((f9 : Nat) : Int)).toNat = true := Decidable.of_not_not (fun z => ha9 (ite01.mpr z))
              refine qG.blk 3 (pc' := 57) (ls' := [(2, 95), (0, ((c9 : Nat) : Int)), (0, ((k : Nat) : Int)), (0, wrp (((k : Nat) : Int) + 1))]) (st' := []) (w' := w) (n' := 142) rfl ?_
              rw [show wrp (((k : Nat) : Int) + 1) = ((k + 1 : Nat) : Int) from wrp_id (by omega) (by omega)]
              refine qG.blk 1 (pc' := 16) (ls' := [(2, 95), (0, ((c9 : Nat) : Int)), (0, ((k : Nat) : Int)), (0, ((k + 1 : Nat) : Int))]) (st' := []) (w' := w) (n' := 142) rfl ?_
              exact ih16 _ (by omega) (k + 1) (((k : Nat) : Int)) rfl (⟨by omega, by first | exact (fs_1 hb (.inl (hI16.2.1.symm.trans h1))).symm | exact (fs_1 hb (.inr (by rw [← hI16.2.1]; exact ha))).symm | (rw [fs_0 (fun z => h1 (hI16.2.1.trans z)) (by rw [← hI16.2.1]; exact ha)]; exact hI16.2.1) | (rw [fs_n hb]; exact hI16.2.1), by omega, by omega⟩)
        · skip
          have hb : ¬ hbit (w 142 k) c9 = true := fun z => hb9 (of_decide_eq_true z)
          refine qG.blk 1 (pc' := 57) (ls' := [(2, 95), (0, ((c9 : Nat) : Int)), (0, x2), (0, wrp (((k : Nat) : Int) + 1))]) (st' := []) (w' := w) (n' := 142) rfl ?_
          rw [show wrp (((k : Nat) : Int) + 1) = ((k + 1 : Nat) : Int) from wrp_id (by omega) (by omega)]
          refine qG.blk 1 (pc' := 16) (ls' := [(2, 95), (0, ((c9 : Nat) : Int)), (0, x2), (0, ((k + 1 : Nat) : Int))]) (st' := []) (w' := w) (n' := 142) rfl ?_
          exact ih16 _ (by omega) (k + 1) (x2) rfl (⟨by omega, by first | exact (fs_1 hb (.inl (hI16.2.1.symm.trans h1))).symm | exact (fs_1 hb (.inr (by rw [← hI16.2.1]; exact ha))).symm | (rw [fs_0 (fun z => h1 (hI16.2.1.trans z)) (by rw [← hI16.2.1]; exact ha)]; exact hI16.2.1) | (rw [fs_n hb]; exact hI16.2.1), by omega, by omega⟩)
      · skip
        refine qG.blk 1 (pc' := 61) (ls' := [(2, 95), (0, ((c9 : Nat) : Int)), (0, x2), (0, ((k : Nat) : Int))]) (st' := [(0, x2)]) (w' := w) (n' := 142) rfl ?_
        refine qG.ret rfl rfl ?_
        subst hQ9
        exact (by unfold fiV; first | (rw [if_neg (by omega)]; done) | (rw [if_pos (by omega), Int.toNat_natCast, hI16.2.1, show k = n by omega]; done))
    exact L16 _ (0) ((-1)) rfl (⟨by omega, rfl, by omega, by omega⟩)
end
section
/-! what story answers -/
theorem AW.nil {w w1 : qW} (h : AW [] w w1) : w1 = w := funext (fun p => funext (fun j => h.2 p j (fun _ => rfl)))
end
section
/-! where masters were told to have been, on both sides -/
noncomputable def wasC (m t y M : Int) (n : Nat) : Prop := (0 ≤ m ∧ m < M) ∧ (0 ≤ t ∧ t ≤ 9) ∧ (0 ≤ y ∧ y ≤ 99) ∧ n < 200
noncomputable def wasX (m t y : Int) (n : Nat) (w : qW) (r : qV) (w1 : qW) : Prop := (¬ wasC m t y (w 45 0) n ∧ r = (0, 0) ∧ w1 = w) ∨ (wasC m t y (w 45 0) n ∧ ∃ m9 t9 y9 : Nat, m = (m9 : Int) ∧ t = (t9 : Int) ∧ y = (y9 : Int) ∧ ((hbit (w 50 (m9 * 100 + y9)) t9 = true ∧ r = (0, 0) ∧ w1 = w) ∨ (¬ hbit (w 50 (m9 * 100 + y9)) t9 = true ∧ r = (0, 1) ∧ w1 = qup (qup w 50 (m9 * 100 + y9) (qor (w 50 (m9 * 100 + y9)) (qshl 1 ((t9 : Nat) : Int)))) 45 6 ((n + 1 : Nat) : Int))))
noncomputable def wasK (m t y : Int) (n : Nat) (w : qW) : Prop := ∃ k : Nat, k < n ∧ w 129 k = m ∧ w 130 k = t ∧ w 131 k = y
noncomputable def wasR (m t y : Int) (n : Nat) (w : qW) (r : qV) (w1 : qW) : Prop := (¬ wasC m t y (w 95 55) n ∧ r = (0, 0) ∧ w1 = w) ∨ (wasC m t y (w 95 55) n ∧ ((wasK m t y n w ∧ r = (0, 0) ∧ w1 = w) ∨ (¬ wasK m t y n w ∧ r = (0, 1) ∧ w1 = qup (qup (qup (qup w 129 n m) 130 n t) 131 n y) 95 56 ((n + 1 : Nat) : Int))))
noncomputable def JT (w : qW) : Prop := w 45 6 = w 95 56 ∧ ∀ m t y : Nat, m < 12 → t < 10 → y < 100 → (hbit (w 50 (m * 100 + y)) t = true ↔ ∃ k : Nat, (k : Int) < w 95 56 ∧ w 129 k = (m : Int) ∧ w 130 k = (t : Int) ∧ w 131 k = (y : Int))
theorem JT.fr {w w2 : qW} (h : JT w) (a : w2 45 6 = w 45 6) (b : w2 95 56 = w 95 56) (c : ∀ k, w2 50 k = w 50 k) (d1 : ∀ k, w2 129 k = w 129 k) (d2 : ∀ k, w2 130 k = w 130 k) (d3 : ∀ k, w2 131 k = w 131 k) : JT w2 := by
  refine ⟨by rw [a, b]; exact h.1, fun m t y hm ht hy => ?_⟩
  rw [c, b, h.2 m t y hm ht hy]
  constructor
  · rintro ⟨k, z1, z2, z3, z4⟩
    exact ⟨k, z1, by rw [d1]; exact z2, by rw [d2]; exact z3, by rw [d3]; exact z4⟩
  · rintro ⟨k, z1, z2, z3, z4⟩
    exact ⟨k, z1, by rw [← d1]; exact z2, by rw [← d2]; exact z3, by rw [← d3]; exact z4⟩
noncomputable def JS (w : qW) : Prop := JN w ∧ JT w
noncomputable def jsM (m : List Nat) : Bool := jnM m && (spo m 50 && (spo m 129 && (spo m 130 && (spo m 131 && (!ymo 45 6 m && !ymo 95 56 m)))))
theorem JS.aw {m : List Nat} {w w1 : qW} (h : JS w) (a : AW m w w1) (hm : jsM m = true) : JS w1 := by
  unfold jsM at hm
  simp only [Bool.and_eq_true, Bool.not_eq_true'] at hm
  obtain ⟨m0, m1, m2, m3, m4, m5, m6⟩ := hm
  exact ⟨h.1.aw a m0, h.2.fr (a.2 45 6 (fun _ => m5)) (a.2 95 56 (fun _ => m6)) (fun k => a.a (by decide) m1 k) (fun k => a.a (by decide) m2 k) (fun k => a.a (by decide) m3 k) (fun k => a.a (by decide) m4 k)⟩
theorem JS.master {w w1 w2 : qW} {s g a b : Int} {n : Nat} {r r2 : qV} (h : JS w) (hX : masE 45 0 46 47 48 [46, 47, 48] s g a b n w r w1) (hR : masE 95 55 125 126 127 [125, 126, 127, 128] s g a b n w1 r2 w2) : JS w2 ∧ r = r2 := by
  have q := JN.master h.1 hX hR
  refine ⟨⟨q.1, ?_⟩, q.2⟩
  have e1 : ∀ p k, p ∉ [45, 46, 47, 48] ∨ (p = 45 ∧ k = 6) → w1 p k = w p k := fun p k hp => by
    rcases hX with ⟨-, -, rfl⟩ | ⟨-, -, -, -, -, -, s1⟩
    · rfl
    · rcases hp with hp | ⟨rfl, rfl⟩
      · simp only [List.mem_cons, List.not_mem_nil, or_false, not_or] at hp
        exact s1 p k (by simp only [List.mem_cons, List.not_mem_nil, or_false, not_or]; exact hp.2) (fun z => hp.1 z.1)
      · exact s1 45 6 (by decide) (by decide)
  have e2 : ∀ p k, p ∉ [95, 125, 126, 127, 128] ∨ (p = 95 ∧ k = 56) → w2 p k = w1 p k := fun p k hp => by
    rcases hR with ⟨-, -, rfl⟩ | ⟨-, -, -, -, -, -, s1⟩
    · rfl
    · rcases hp with hp | ⟨rfl, rfl⟩
      · simp only [List.mem_cons, List.not_mem_nil, or_false, not_or] at hp
        exact s1 p k (by simp only [List.mem_cons, List.not_mem_nil, or_false, not_or]; exact hp.2) (fun z => hp.1 z.1)
      · exact s1 95 56 (by decide) (by decide)
  have e : ∀ p k, (p = 50 ∨ p = 129 ∨ p = 130 ∨ p = 131) → w2 p k = w p k := fun p k hp => by
    rcases hp with rfl | rfl | rfl | rfl <;> exact (e2 _ k (.inl (by decide))).trans (e1 _ k (.inl (by decide)))
  exact h.2.fr ((e2 45 6 (.inl (by decide))).trans (e1 45 6 (.inr ⟨rfl, rfl⟩))) ((e2 95 56 (.inr ⟨rfl, rfl⟩)).trans (e1 95 56 (.inl (by decide)))) (fun k => e 50 k (.inl rfl)) (fun k => e 129 k (.inr (.inl rfl))) (fun k => e 130 k (.inr (.inr (.inl rfl)))) (fun k => e 131 k (.inr (.inr (.inr rfl))))
theorem JS.night {w w1 w2 : qW} {y t g e a : Int} {n : Nat} {r r2 : qV} (h : JS w) (hX : nigE 45 7 51 52 53 54 55 y t g e a n w r w1) (hR : nigE 95 57 132 133 134 135 136 y t g e a n w1 r2 w2) : JS w2 ∧ r = r2 := by
  have q := JN.night h.1 hX hR
  refine ⟨⟨q.1, ?_⟩, q.2⟩
  have e1 : ∀ p k, p ∉ [45, 51, 52, 53, 54, 55] ∨ (p = 45 ∧ k = 6) → w1 p k = w p k := fun p k hp => by
    rcases hX with ⟨-, -, rfl⟩ | ⟨-, -, -, -, -, -, -, -, s1⟩
    · rfl
    · rcases hp with hp | ⟨rfl, rfl⟩
      · simp only [List.mem_cons, List.not_mem_nil, or_false, not_or] at hp
        exact s1 p k (by simp only [List.mem_cons, List.not_mem_nil, or_false, not_or]; exact hp.2) (fun z => hp.1 z.1)
      · exact s1 45 6 (by decide) (by decide)
  have e2 : ∀ p k, p ∉ [95, 132, 133, 134, 135, 136] ∨ (p = 95 ∧ k = 56) → w2 p k = w1 p k := fun p k hp => by
    rcases hR with ⟨-, -, rfl⟩ | ⟨-, -, -, -, -, -, -, -, s1⟩
    · rfl
    · rcases hp with hp | ⟨rfl, rfl⟩
      · simp only [List.mem_cons, List.not_mem_nil, or_false, not_or] at hp
        exact s1 p k (by simp only [List.mem_cons, List.not_mem_nil, or_false, not_or]; exact hp.2) (fun z => hp.1 z.1)
      · exact s1 95 56 (by decide) (by decide)
  have e : ∀ p k, (p = 50 ∨ p = 129 ∨ p = 130 ∨ p = 131) → w2 p k = w p k := fun p k hp => by
    rcases hp with rfl | rfl | rfl | rfl <;> exact (e2 _ k (.inl (by decide))).trans (e1 _ k (.inl (by decide)))
  exact h.2.fr ((e2 45 6 (.inl (by decide))).trans (e1 45 6 (.inr ⟨rfl, rfl⟩))) ((e2 95 56 (.inr ⟨rfl, rfl⟩)).trans (e1 95 56 (.inl (by decide)))) (fun k => e 50 k (.inl rfl)) (fun k => e 129 k (.inr (.inl rfl))) (fun k => e 130 k (.inr (.inr (.inl rfl)))) (fun k => e 131 k (.inr (.inr (.inr rfl))))
theorem JT.was {w w1 w2 : qW} {m t y : Int} {n : Nat} {r r2 : qV} (hM : w 45 0 = w 95 55) (h12 : w 45 0 ≤ 12) (h : JT w) (hn : w 45 6 = (n : Int)) (hX : wasX m t y n w r w1) (hR : wasR m t y n w1 r2 w2) : JT w2 ∧ r = r2 := by
  have hT : w 95 56 = (n : Int) := h.1.symm.trans hn
  -- what was told is the same on both sides
  have key : ∀ m9 t9 y9 : Nat, m = (m9 : Int) → t = (t9 : Int) → y = (y9 : Int) → wasC m t y (w 45 0) n → (hbit (w 50 (m9 * 100 + y9)) t9 = true ↔ wasK m t y n w) := by
    rintro m9 t9 y9 rfl rfl rfl c
    unfold wasC at c
    rw [h.2 m9 t9 y9 (by omega) (by omega) (by omega), hT]
    constructor
    · rintro ⟨k, z1, z2⟩; exact ⟨k, by omega, z2⟩
    · rintro ⟨k, z1, z2⟩; exact ⟨k, by omega, z2⟩
  rcases hX with ⟨c1, rfl, rfl⟩ | ⟨c1, m9, t9, y9, em, et, ey, ⟨b1, rfl, rfl⟩ | ⟨b1, rfl, rfl⟩⟩
  · rcases hR with ⟨c2, rfl, rfl⟩ | ⟨c2, -⟩
    · exact ⟨h, rfl⟩
    · rw [← hM] at c2; exact absurd c2 c1
  · rcases hR with ⟨c2, rfl, rfl⟩ | ⟨c2, ⟨b2, rfl, rfl⟩ | ⟨b2, rfl, rfl⟩⟩
    · exact ⟨h, rfl⟩
    · exact ⟨h, rfl⟩
    · exact absurd ((key m9 t9 y9 em et ey c1).mp b1) b2
  · have hK : ∀ j, qup (qup w 50 (m9 * 100 + y9) (qor (w 50 (m9 * 100 + y9)) (qshl 1 ((t9 : Nat) : Int)))) 45 6 ((n + 1 : Nat) : Int) 129 j = w 129 j ∧ qup (qup w 50 (m9 * 100 + y9) (qor (w 50 (m9 * 100 + y9)) (qshl 1 ((t9 : Nat) : Int)))) 45 6 ((n + 1 : Nat) : Int) 130 j = w 130 j ∧ qup (qup w 50 (m9 * 100 + y9) (qor (w 50 (m9 * 100 + y9)) (qshl 1 ((t9 : Nat) : Int)))) 45 6 ((n + 1 : Nat) : Int) 131 j = w 131 j := fun j => by
      refine ⟨?_, ?_, ?_⟩ <;> simp (disch := decide) only [qup_ne]
    have h55 : qup (qup w 50 (m9 * 100 + y9) (qor (w 50 (m9 * 100 + y9)) (qshl 1 ((t9 : Nat) : Int)))) 45 6 ((n + 1 : Nat) : Int) 95 55 = w 95 55 := by simp (disch := decide) only [qup_ne]
    have hnk : ¬ wasK m t y n w := fun z => b1 ((key m9 t9 y9 em et ey c1).mpr z)
    rcases hR with ⟨c2, rfl, rfl⟩ | ⟨c2, ⟨b2, rfl, rfl⟩ | ⟨b2, rfl, ew⟩⟩
    · rw [h55, ← hM] at c2; exact absurd c1 c2
    · obtain ⟨k, z1, z2, z3, z4⟩ := b2
      rw [(hK k).1] at z2
      rw [(hK k).2.1] at z3
      rw [(hK k).2.2] at z4
      exact absurd ⟨k, z1, z2, z3, z4⟩ hnk
    · have g50 : ∀ k, w2 50 k = if k = m9 * 100 + y9 then qor (w 50 (m9 * 100 + y9)) (qshl 1 ((t9 : Nat) : Int)) else w 50 k := fun k => by rw [ew]; simp (disch := decide) only [qup_ne, qup_if]
      have q1 : ∀ k, w2 129 k = if k = n then m else w 129 k := fun k => by rw [ew]; simp (disch := decide) only [qup_ne, qup_if]
      have q2 : ∀ k, w2 130 k = if k = n then t else w 130 k := fun k => by rw [ew]; simp (disch := decide) only [qup_ne, qup_if]
      have q3 : ∀ k, w2 131 k = if k = n then y else w 131 k := fun k => by rw [ew]; simp (disch := decide) only [qup_ne, qup_if]
      have g95 : w2 95 56 = ((n + 1 : Nat) : Int) := by rw [ew]; exact qup_k
      have g45 : w2 45 6 = ((n + 1 : Nat) : Int) := by rw [ew]; simp (disch := decide) only [qup_ne, qup_k]
      refine ⟨⟨g45.trans g95.symm, fun m' t' y' hm' ht' hy' => ?_⟩, rfl⟩
      unfold wasC at c1
      have old := h.2 m' t' y' hm' ht' hy'
      rw [hT] at old
      have lhs : hbit (w2 50 (m' * 100 + y')) t' = true ↔ (hbit (w 50 (m' * 100 + y')) t' = true ∨ (m' = m9 ∧ y' = y9 ∧ t' = t9)) := by
        rw [g50]
        by_cases e : m' * 100 + y' = m9 * 100 + y9
        · have e1 : m' = m9 := by omega
          have e2 : y' = y9 := by omega
          rw [if_pos e, hbit_or (by omega), hbit_1 t9 (by omega) t' (by omega), Bool.or_eq_true, decide_eq_true_eq, e1, e2]
          constructor
          · rintro (z | z)
            · exact .inl z
            · exact .inr ⟨rfl, rfl, z.symm⟩
          · rintro (z | z)
            · exact .inl z
            · exact .inr z.2.2.symm
        · rw [if_neg e]
          constructor
          · exact .inl
          · rintro (z | ⟨z1, z2, -⟩)
            · exact z
            · exact absurd (by rw [z1, z2]) e
      refine lhs.trans ?_
      rw [old, g95]
      constructor
      · rintro (⟨k, z1, z2, z3, z4⟩ | ⟨z1, z2, z3⟩)
        · exact ⟨k, by omega, by rw [q1, if_neg (by omega)]; exact z2, by rw [q2, if_neg (by omega)]; exact z3, by rw [q3, if_neg (by omega)]; exact z4⟩
        · exact ⟨n, by omega, by rw [q1, if_pos rfl]; omega, by rw [q2, if_pos rfl]; omega, by rw [q3, if_pos rfl]; omega⟩
      · rintro ⟨k, z1, z2, z3, z4⟩
        rw [q1] at z2
        rw [q2] at z3
        rw [q3] at z4
        by_cases e : k = n
        · rw [if_pos e] at z2 z3 z4
          exact .inr ⟨by omega, by omega, by omega⟩
        · rw [if_neg e] at z2 z3 z4
          exact .inl ⟨k, by omega, z2, z3, z4⟩
theorem JS.was {w w1 w2 : qW} {m t y : Int} {n : Nat} {r r2 : qV} {m1 m2 : List Nat} (h12 : w 45 0 ≤ 12) (hn : w 45 6 = (n : Int)) (h : JS w) (hX : wasX m t y n w r w1) (a1 : AW m1 w w1) (hm1 : jnM m1 = true) (hR : wasR m t y n w1 r2 w2) (a2 : AW m2 w1 w2) (hm2 : jnM m2 = true) : JS w2 ∧ r = r2 := by
  have q := JT.was h.1.1 h12 h.2 hn hX hR
  exact ⟨⟨(h.1.aw a1 hm1).aw a2 hm2, q.1⟩, q.2⟩
end
section
/-! weights of masters for nights -/
/-- the habits on both sides -/
noncomputable def JH (w : qW) : Prop := (∀ k : Nat, (k : Int) < 3 * w 95 55 → w 49 k = w 128 k) ∧ ∀ k : Nat, 3 * w 95 55 ≤ (k : Int) → k < 36 → w 49 k = 1
noncomputable def JQ (w : qW) : Prop := JS w ∧ JH w
noncomputable def jhM (m : List Nat) : Bool := spo m 49 && (spo m 128 && !ymo 95 55 m)
theorem JH.aw {m : List Nat} {w w1 : qW} (h : JH w) (a : AW m w w1) (hm : jhM m = true) : JH w1 := by
  unfold jhM at hm
  simp only [Bool.and_eq_true, Bool.not_eq_true'] at hm
  obtain ⟨m1, m2, m3⟩ := hm
  refine ⟨fun k hk => ?_, fun k hk h36 => ?_⟩
  · rw [a.2 95 55 (fun _ => m3)] at hk
    rw [a.a (by decide) m1, a.a (by decide) m2]; exact h.1 k hk
  · rw [a.2 95 55 (fun _ => m3)] at hk
    rw [a.a (by decide) m1]; exact h.2 k hk h36
noncomputable def jqM (m : List Nat) : Bool := jsM m && jhM m
theorem JQ.aw {m : List Nat} {w w1 : qW} (h : JQ w) (a : AW m w w1) (hm : jqM m = true) : JQ w1 := by
  unfold jqM at hm
  rw [Bool.and_eq_true] at hm
  exact ⟨h.1.aw a hm.1, h.2.aw a hm.2⟩
end
section
/-! who and all, on both sides -/
/-- numbers in array p: the first k are f's, the rest g's -/
noncomputable def PV (p : Nat) (w w9 : qW) (k : Nat) (f g : Nat → Int) : Prop := AW [p] w w9 ∧ (∀ j, j < k → w9 p j = f j) ∧ ∀ j, k ≤ j → w9 p j = g j
theorem PV.up {p : Nat} {w w9 : qW} {k : Nat} {f g : Nat → Int} {v : Int} (hp : p = 56 ∨ p = 137) (h : PV p w w9 k f g) (hv : v = f k) (h0 : -9223372036854775808 ≤ v) (h1 : v ≤ 9223372036854775807) : PV p w (qup w9 p k v) (k + 1) f g := by
  refine ⟨⟨?_, fun q j hq => ?_⟩, fun j hj => ?_, fun j hj => ?_⟩
  · rcases hp with rfl | rfl
    · exact zup_a h.1.1 (b := (-9223372036854775808, 9223372036854775807)) rfl rfl ⟨h0, h1⟩
    · exact zup_a h.1.1 (b := (-9223372036854775808, 9223372036854775807)) rfl rfl ⟨h0, h1⟩
  · rw [qup_ne (fun z => by have hq := hq (by omega); rw [z] at hq; rcases hp with rfl | rfl <;> cases hq)]
    exact h.1.2 q j hq
  · by_cases e : j = k
    · rw [e, qup_k]; exact hv
    · rw [qup_j e]; exact h.2.1 j (by omega)
  · rw [qup_j (by omega)]; exact h.2.2 j (by omega)
noncomputable def masH (s g a b : Int) (n : Nat) (w w1 : qW) : Prop := (¬ masC s g a b n ∧ w1 = w) ∨ (masC s g a b n ∧ ∀ k, w1 128 k = if k = 3 * n + 2 then 1 else if k = 3 * n + 1 then 1 else if k = 3 * n + 0 then 1 else w 128 k)
noncomputable def habC (m a v n : Int) : Prop := (0 ≤ m ∧ m < n) ∧ (0 ≤ a ∧ a ≤ 2) ∧ 0 ≤ v ∧ v ≤ 9
noncomputable def habE (p : Nat) (m a v n : Int) (w : qW) (r : qV) (w1 : qW) : Prop := (¬ habC m a v n ∧ r = (0, 0) ∧ w1 = w) ∨ (habC m a v n ∧ ∃ m9 a9 : Nat, m = (m9 : Int) ∧ a = (a9 : Int) ∧ r = (0, 1) ∧ w1 = qup w p (3 * m9 + a9) v)
theorem JH.master {w w1 w2 : qW} {s g a b : Int} {n : Nat} {r r2 : qV} (h : JH w) (hM : w 95 55 = (n : Int)) (hX : masE 45 0 46 47 48 [46, 47, 48] s g a b n w r w1) (hR : masE 95 55 125 126 127 [125, 126, 127, 128] s g a b n w1 r2 w2) (hH : masH s g a b n w1 w2) : JH w2 := by
  rcases hX with ⟨c1, -, rfl⟩ | ⟨c1, -, -, -, -, -, s1⟩ <;> rcases hR with ⟨c2, -, rfl⟩ | ⟨c2, -, t2, -, -, -, s2⟩
  · exact h
  · exact absurd c2 c1
  · exact absurd c1 c2
  · rcases hH with ⟨c3, -⟩ | ⟨-, h3⟩
    · exact absurd c1 c3
    · have n12 : n < 12 := c1.2
      have e49 : ∀ k, w2 49 k = w 49 k := fun k => (s2 49 k (by decide) (fun z => by cases z.1)).trans (s1 49 k (by decide) (fun z => by cases z.1))
      have e128 : ∀ k, w1 128 k = w 128 k := fun k => s1 128 k (by decide) (fun z => by cases z.1)
      refine ⟨fun k hk => ?_, fun k hk h36 => ?_⟩
      · rw [t2] at hk
        rw [e49, h3, e128]
        by_cases q : (k : Int) < 3 * (n : Int)
        · rw [if_neg (by omega), if_neg (by omega), if_neg (by omega)]
          exact h.1 k (by omega)
        · rw [h.2 k (by omega) (by omega)]
          split
          · rfl
          · split
            · rfl
            · rw [if_pos (by omega)]
      · rw [t2] at hk
        rw [e49]
        exact h.2 k (by omega) h36
theorem JH.habit {w w1 w2 : qW} {m a v : Int} {r r2 : qV} (h : JH w) (hj : w 45 0 = w 95 55) (hX : habE 49 m a v (w 45 0) w r w1) (hR : habE 128 m a v (w1 95 55) w1 r2 w2) : JH w2 ∧ r = r2 := by
  rcases hX with ⟨c1, rfl, rfl⟩ | ⟨c1, m9, a9, em, ea, rfl, rfl⟩
  · rcases hR with ⟨c2, rfl, rfl⟩ | ⟨c2, -⟩
    · exact ⟨h, rfl⟩
    · rw [← hj] at c2; exact absurd c2 c1
  · have h55 : qup w 49 (3 * m9 + a9) v 95 55 = w 95 55 := by simp (disch := decide) only [qup_ne]
    rcases hR with ⟨c2, rfl, rfl⟩ | ⟨c2, m8, a8, em2, ea2, rfl, ew⟩
    · rw [h55, ← hj] at c2; exact absurd c1 c2
    · obtain rfl : m8 = m9 := by omega
      obtain rfl : a8 = a9 := by omega
      have g49 : ∀ k, w2 49 k = if k = 3 * m8 + a8 then v else w 49 k := fun k => by rw [ew]; simp (disch := decide) only [qup_ne, qup_if]
      have g128 : ∀ k, w2 128 k = if k = 3 * m8 + a8 then v else w 128 k := fun k => by rw [ew]; simp (disch := decide) only [qup_ne, qup_if]
      have g55 : w2 95 55 = w 95 55 := by rw [ew]; simp (disch := decide) only [qup_ne]
      unfold habC at c1
      refine ⟨⟨fun k hk => ?_, fun k hk h36 => ?_⟩, rfl⟩
      · rw [g55] at hk
        rw [g49, g128]
        split
        · rfl
        · exact h.1 k hk
      · rw [g55] at hk
        rw [g49, if_neg (by omega)]
        exact h.2 k hk h36
theorem JQ.habit {w w1 w2 : qW} {m a v : Int} {r r2 : qV} {m1 m2 : List Nat} (h : JQ w) (hX : habE 49 m a v (w 45 0) w r w1) (a1 : AW m1 w w1) (hm1 : jsM m1 = true) (hR : habE 128 m a v (w1 95 55) w1 r2 w2) (a2 : AW m2 w1 w2) (hm2 : jsM m2 = true) : JQ w2 ∧ r = r2 := by
  have q := JH.habit h.2 h.1.1.1 hX hR
  exact ⟨⟨(h.1.aw a1 hm1).aw a2 hm2, q.1⟩, q.2⟩
end
section
/-! the chests' works and doors on both sides; air -/
noncomputable def wkN (v s b : Int) : Int := if b = 0 then qand v (qxor (qshl 1 s) (-1)) else qor v (qshl 1 s)
noncomputable def isWk (c s : Int) : Prop := (0 ≤ c ∧ c ≤ 2) ∧ 0 ≤ s ∧ s ≤ 15
noncomputable def wkX (c s b : Int) (w : qW) (r : qV) (w1 : qW) : Prop := (¬ isWk c s ∧ r = (0, 0) ∧ w1 = w) ∨ (isWk c s ∧ ∃ c9 : Nat, c = (c9 : Int) ∧ r = (0, 1) ∧ w1 (64 + 5 * c9) 0 = wkN (w (64 + 5 * c9) 0) s b ∧ ∀ q k, ¬ (q = 64 + 5 * c9 ∧ (k = 0 ∨ k = 1)) → w1 q k = w q k)
noncomputable def wkR (c s b : Int) (w : qW) (r : qV) (w1 : qW) : Prop := (¬ isWk c s ∧ r = (0, 0) ∧ w1 = w) ∨ (isWk c s ∧ ∃ c9 : Nat, c = (c9 : Int) ∧ r = (0, 1) ∧ w1 96 c9 = wkN (w 96 c9) s b ∧ ∀ q k, ¬ (q = 96 ∧ k = c9) → ¬ (q = 95 ∧ k = 9) → w1 q k = w q k)
noncomputable def drX (c d1 s v b : Int) (w : qW) (r : qV) (w1 : qW) : Prop := (doorV c d1 s v = 0 ∧ r = (0, 0) ∧ w1 = w) ∨ (doorV c d1 s v = 1 ∧ r = (0, 1) ∧ ∃ c9 d9 : Nat, c = (c9 : Int) ∧ d1 = (d9 : Int) ∧ c9 < 3 ∧ d9 < 10 ∧ (∀ k, w1 (67 + 5 * c9) k = if k = d9 then v else w (67 + 5 * c9) k) ∧ (∀ k, w1 (68 + 5 * c9) k = if k = d9 then b else w (68 + 5 * c9) k) ∧ ∀ q k, q ≠ 66 + 5 * c9 → q ≠ 67 + 5 * c9 → q ≠ 68 + 5 * c9 → w1 q k = w q k)
noncomputable def drR (c d1 s v b : Int) (w : qW) (r : qV) (w1 : qW) : Prop := (doorV c d1 s v = 0 ∧ r = (0, 0) ∧ w1 = w) ∨ (doorV c d1 s v = 1 ∧ r = (0, 1) ∧ ∃ c9 d9 : Nat, c = (c9 : Int) ∧ d1 = (d9 : Int) ∧ c9 < 3 ∧ d9 < 10 ∧ (∀ k, w1 98 k = if k = 10 * c9 + d9 then v else w 98 k) ∧ (∀ k, w1 100 k = if k = 10 * c9 + d9 then b else w 100 k) ∧ ∀ q k, q ≠ 97 → q ≠ 98 → q ≠ 100 → w1 q k = w q k)
noncomputable def JD (w : qW) : Prop := ∀ c : Nat, c < 3 → w (64 + 5 * c) 0 = w 96 c ∧ ∀ d : Nat, d < 10 → w (67 + 5 * c) d = w 98 (10 * c + d) ∧ w (68 + 5 * c) d = w 100 (10 * c + d)
noncomputable def jdM (m : List Nat) : Bool := spo m 67 && (spo m 68 && (spo m 72 && (spo m 73 && (spo m 77 && (spo m 78 && (spo m 96 && (spo m 98 && (spo m 100 && (!ymo 64 0 m && (!ymo 69 0 m && !ymo 74 0 m))))))))))
theorem JD.aw {m : List Nat} {w w1 : qW} (h : JD w) (a : AW m w w1) (hm : jdM m = true) : JD w1 := by
  unfold jdM at hm
  simp only [Bool.and_eq_true, Bool.not_eq_true'] at hm
  obtain ⟨m67, m68, m72, m73, m77, m78, m96, m98, m100, n64, n69, n74⟩ := hm
  intro c hc
  have h0 := h c hc
  rw [a.a (by decide) m96]
  refine ⟨?_, fun d hd => ?_⟩
  · rw [← h0.1]
    rcases (show c = 0 ∨ c = 1 ∨ c = 2 by omega) with rfl | rfl | rfl
    · exact a.2 64 0 (fun _ => n64)
    · exact a.2 69 0 (fun _ => n69)
    · exact a.2 74 0 (fun _ => n74)
  · rw [a.a (by decide) m98, a.a (by decide) m100, ← (h0.2 d hd).1, ← (h0.2 d hd).2]
    rcases (show c = 0 ∨ c = 1 ∨ c = 2 by omega) with rfl | rfl | rfl
    · exact ⟨a.a (p := 67) (by decide) m67 d, a.a (p := 68) (by decide) m68 d⟩
    · exact ⟨a.a (p := 72) (by decide) m72 d, a.a (p := 73) (by decide) m73 d⟩
    · exact ⟨a.a (p := 77) (by decide) m77 d, a.a (p := 78) (by decide) m78 d⟩
theorem JD.works {w w1 w2 : qW} {c s b : Int} {r r2 : qV} (h : JD w) (hX : wkX c s b w r w1) (hR : wkR c s b w1 r2 w2) : JD w2 ∧ r = r2 := by
  rcases hX with ⟨c1, rfl, rfl⟩ | ⟨c1, c9, ec, rfl, x1, x2⟩
  · rcases hR with ⟨c2, rfl, rfl⟩ | ⟨c2, -⟩
    · exact ⟨h, rfl⟩
    · exact absurd c2 c1
  · rcases hR with ⟨c2, -⟩ | ⟨-, c8, ec2, rfl, y1, y2⟩
    · exact absurd c1 c2
    · obtain rfl : c8 = c9 := by omega
      unfold isWk at c1
      refine ⟨fun c' hc' => ?_, rfl⟩
      have h0 := h c' hc'
      have e64 : w2 (64 + 5 * c') 0 = w1 (64 + 5 * c') 0 := y2 _ _ (by omega) (by omega)
      have e96 : w1 96 c' = w 96 c' := x2 _ _ (by omega)
      refine ⟨?_, fun d hd => ?_⟩
      · rw [e64]
        by_cases e : c' = c8
        · subst e
          rw [x1, y1, e96, h0.1]
        · rw [x2 _ _ (by omega), y2 96 c' (by omega) (by omega), e96]
          exact h0.1
      · rw [y2 (67 + 5 * c') d (by omega) (by omega), x2 (67 + 5 * c') d (by omega), y2 98 _ (by omega) (by omega), x2 98 _ (by omega), y2 (68 + 5 * c') d (by omega) (by omega), x2 (68 + 5 * c') d (by omega), y2 100 _ (by omega) (by omega), x2 100 _ (by omega)]
        exact h0.2 d hd
theorem JD.door {w w1 w2 : qW} {c d1 s v b : Int} {r r2 : qV} (h : JD w) (hX : drX c d1 s v b w r w1) (hR : drR c d1 s v b w1 r2 w2) : JD w2 ∧ r = r2 := by
  rcases hX with ⟨c1, rfl, rfl⟩ | ⟨c1, rfl, c9, d9, ec, ed, hc9, hd9, x1, x2, x3⟩
  · rcases hR with ⟨c2, rfl, rfl⟩ | ⟨c2, -⟩
    · exact ⟨h, rfl⟩
    · omega
  · rcases hR with ⟨c2, -⟩ | ⟨-, rfl, c8, d8, ec2, ed2, -, -, y1, y2, y3⟩
    · omega
    · obtain rfl : c8 = c9 := by omega
      obtain rfl : d8 = d9 := by omega
      refine ⟨fun c' hc' => ?_, rfl⟩
      have h0 := h c' hc'
      refine ⟨?_, fun d hd => ?_⟩
      · rw [y3 (64 + 5 * c') 0 (by omega) (by omega) (by omega), x3 (64 + 5 * c') 0 (by omega) (by omega) (by omega), y3 96 c' (by decide) (by decide) (by decide), x3 96 c' (by omega) (by omega) (by omega)]
        exact h0.1
      · have z := h0.2 d hd
        rw [y3 (67 + 5 * c') d (by omega) (by omega) (by omega), y3 (68 + 5 * c') d (by omega) (by omega) (by omega), y1, y2, x3 98 _ (by omega) (by omega) (by omega), x3 100 _ (by omega) (by omega) (by omega)]
        by_cases e : c' = c8
        · subst e
          rw [x1, x2]
          by_cases e2 : d = d8
          · rw [if_pos e2, if_pos e2, if_pos (by omega), if_pos (by omega)]; exact ⟨rfl, rfl⟩
          · rw [if_neg e2, if_neg e2, if_neg (by omega), if_neg (by omega)]; exact z
        · rw [x3 (67 + 5 * c') d (by omega) (by omega) (by omega), x3 (68 + 5 * c') d (by omega) (by omega) (by omega), if_neg (by omega), if_neg (by omega)]
          exact z
end
section
/-! how long the tape is, on both sides -/
noncomputable def fdX (n : Nat) (w : qW) (r : qV) (w1 : qW) : Prop := (¬ n + 20 ≤ 600 ∧ r = (0, -1) ∧ w1 = w) ∨ (n + 20 ≤ 600 ∧ r = (0, ((n + 20 : Nat) : Int)) ∧ w1 8 1 = ((n + 20 : Nat) : Int) ∧ w1 95 25 = w 95 25)
noncomputable def fdR (n : Nat) (w : qW) (r : qV) (w1 : qW) : Prop := (¬ n + 20 ≤ 600 ∧ r = (0, -1) ∧ w1 = w) ∨ (n + 20 ≤ 600 ∧ r = (0, ((n + 20 : Nat) : Int)) ∧ w1 95 25 = ((n + 20 : Nat) : Int) ∧ w1 8 1 = w 8 1)
noncomputable def enX (v : Int) (n : Nat) (w : qW) (r : qV) (w1 : qW) : Prop := (¬ (0 ≤ v ∧ v ≤ (n : Int)) ∧ r = (0, 0) ∧ w1 = w) ∨ ((0 ≤ v ∧ v ≤ (n : Int)) ∧ r = (0, 1) ∧ w1 = qup w 8 1 v)
noncomputable def enR (v : Int) (n : Nat) (w : qW) (r : qV) (w1 : qW) : Prop := (¬ (0 ≤ v ∧ v ≤ (n : Int)) ∧ r = (0, 0) ∧ w1 = w) ∨ ((0 ≤ v ∧ v ≤ (n : Int)) ∧ r = (0, 1) ∧ w1 = qup w 95 25 v)
noncomputable def JL (w : qW) : Prop := w 8 1 = w 95 25
noncomputable def jlM (m : List Nat) : Bool := !ymo 8 1 m && !ymo 95 25 m
theorem JL.aw {m : List Nat} {w w1 : qW} (h : JL w) (a : AW m w w1) (hm : jlM m = true) : JL w1 := by
  unfold jlM at hm
  simp only [Bool.and_eq_true, Bool.not_eq_true'] at hm
  unfold JL
  rw [a.2 8 1 (fun _ => hm.1), a.2 95 25 (fun _ => hm.2)]
  exact h
theorem JL.e {w : qW} (h : JL w) : w 8 1 = w 95 25 := h
theorem JL.feed {w w1 w2 : qW} {n : Nat} {r r2 : qV} (h : JL w) (hX : fdX n w r w1) (hR : fdR n w1 r2 w2) : JL w2 ∧ r = r2 := by
  rcases hX with ⟨c1, rfl, rfl⟩ | ⟨c1, rfl, x1, x2⟩ <;> rcases hR with ⟨c2, rfl, rfl⟩ | ⟨c2, rfl, y1, y2⟩
  · exact ⟨h, rfl⟩
  · exact absurd c2 c1
  · exact absurd c1 c2
  · exact ⟨by unfold JL; rw [y1, y2, x1], rfl⟩
theorem JL.fin {w w1 w2 : qW} {v : Int} {n : Nat} {r r2 : qV} (h : JL w) (hX : enX v n w r w1) (hR : enR v n w1 r2 w2) : JL w2 ∧ r = r2 := by
  rcases hX with ⟨c1, rfl, rfl⟩ | ⟨c1, rfl, rfl⟩ <;> rcases hR with ⟨c2, rfl, rfl⟩ | ⟨c2, rfl, rfl⟩
  · exact ⟨h, rfl⟩
  · exact absurd c2 c1
  · exact absurd c1 c2
  · exact ⟨by unfold JL; simp (disch := decide) only [qup_ne, qup_k], rfl⟩
end
section
/-! the class's hangsTogether and the reference's hangs agree on sets of four spaces at most (pure) -/
theorem hb_t {n j : Nat} (hn : n < 65536) (hj : j < 16) : hbit (n : Int) j = n.testBit j := by
  unfold hbit
  rw [hb_bit hn hj]
  cases n.testBit j <;> rfl
theorem tb_hi {n i : Nat} (hn : n < 65536) (hi : ¬ i < 16) : n.testBit i = false :=
  Nat.testBit_lt_two_pow (Nat.lt_of_lt_of_le (show n < 2 ^ 16 from hn) (Nat.pow_le_pow_right (by decide) (by omega)))
theorem hb_ext {a b : Int} (ha : 0 ≤ a ∧ a ≤ 65535) (hb : 0 ≤ b ∧ b ≤ 65535) (h : ∀ s, s < 16 → hbit a s = hbit b s) : a = b := by
  obtain ⟨n, rfl⟩ : ∃ n : Nat, a = n := ⟨a.toNat, by omega⟩
  obtain ⟨m, rfl⟩ : ∃ m : Nat, b = m := ⟨b.toNat, by omega⟩
  have e : n = m := by
    apply Nat.eq_of_testBit_eq
    intro i
    by_cases hi : i < 16
    · have := h i hi
      rw [hb_t (by omega) hi, hb_t (by omega) hi] at this
      exact this
    · rw [tb_hi (by omega) hi, tb_hi (by omega) hi]
  rw [e]
noncomputable def sbs (a b : Int) : Prop := ∀ s, s < 16 → hbit a s = true → hbit b s = true
theorem sbs.rf (a : Int) : sbs a a := fun _ _ h => h
theorem sbs.tr {a b c : Int} (h : sbs a b) (h2 : sbs b c) : sbs a c := fun s hs z => h2 s hs (h s hs z)
theorem sbs.eq {a b : Int} (ha : 0 ≤ a ∧ a ≤ 65535) (hb : 0 ≤ b ∧ b ≤ 65535) (h : sbs a b) (h2 : sbs b a) : a = b := by
  refine hb_ext ha hb (fun s hs => ?_)
  cases e : hbit a s
  · cases e2 : hbit b s
    · rfl
    · rw [h2 s hs e2] at e; cases e
  · exact (h s hs e).symm
end
section
/-! the class's lowest bit, next set of as many, next spaces, hangsTogether -/
noncomputable def ntz1 (y : Int) : Int × Int := if 65536 < y then (17, qush y 16) else (1, y)
noncomputable def ntz2 (p : Int × Int) : Int × Int := if 256 < p.2 then (p.1 + 8, qush p.2 8) else p
noncomputable def ntz3 (p : Int × Int) : Int × Int := if 16 < p.2 then (p.1 + 4, qush p.2 4) else p
noncomputable def ntz4 (p : Int × Int) : Int × Int := if 4 < p.2 then (p.1 + 2, qush p.2 2) else p
noncomputable def ntz5 (p : Int × Int) : Int := wrp (p.1 + qush p.2 1)
noncomputable def ntzF (x : Int) : Int := if 0 < qand (qxor x (-1)) (wrp (x - 1)) then ntz5 (ntz4 (ntz3 (ntz2 (ntz1 (qand (qxor x (-1)) (wrp (x - 1))))))) else qand (qand (qxor x (-1)) (wrp (x - 1))) 32
noncomputable def gosF (x : Int) : Int := qor (wrp (x + qand x (wrp (-x)))) (qush (qxor x (wrp (x + qand x (wrp (-x))))) (wrp (2 + ntzF x)))
end
section
/-! the class's sets of as many: all of them, in their order -/
noncomputable def gosN (m : Nat) : Nat := (gosF (m : Int)).toNat
noncomputable def gN (m : Nat) : Nat → Nat
  | 0 => m
  | i + 1 => gN (gosN m) i
/-- the first i sets that are poses -/
noncomputable def fpG (w : qW) (c k m i : Nat) : List Nat := ((List.range i).map (gN m)).filter (fpd w c k)
theorem fpG_y {w : qW} {c k m i : Nat} (h : fpd w c k (gN m i) = true) : fpG w c k m (i + 1) = fpG w c k m i ++ [gN m i] := by
  unfold fpG
  rw [List.range_succ, List.map_append, List.filter_append]
  show _ ++ List.filter (fpd w c k) [gN m i] = _
  rw [List.filter_cons_of_pos h]; rfl
theorem fpG_n {w : qW} {c k m i : Nat} (h : fpd w c k (gN m i) = false) : fpG w c k m (i + 1) = fpG w c k m i := by
  unfold fpG
  rw [List.range_succ, List.map_append, List.filter_append]
  show _ ++ List.filter (fpd w c k) [gN m i] = _
  rw [List.filter_cons_of_neg (by rw [h]; exact Bool.false_ne_true)]
  exact List.append_nil _
end
section
/-! the class's findSets: how many poses, and which -/
/-- the class's table after i sets -/
noncomputable def FS (w : qW) (c k m i : Nat) (w9 : qW) : Prop := w9 24 3 = (((fpG w c k m i).length : Nat) : Int) ∧ (∀ j, j < (fpG w c k m i).length → w9 25 j = (((fpG w c k m i).getD j 0 : Nat) : Int)) ∧ ∀ q j, q ≠ 25 → ¬ (q = 24 ∧ j = 3) → w9 q j = w q j
theorem FS.no {w w9 : qW} {c k m i : Nat} (h : FS w c k m i w9) (e : fpd w c k (gN m i) = false) : FS w c k m (i + 1) w9 := by
  unfold FS
  rw [fpG_n e]
  exact h
theorem FS.yes {w w9 : qW} {c k m i : Nat} (h : FS w c k m i w9) (e : fpd w c k (gN m i) = true) : FS w c k m (i + 1) (qup (qup w9 25 (fpG w c k m i).length ((gN m i : Nat) : Int)) 24 3 (((fpG w c k m i).length + 1 : Nat) : Int)) := by
  obtain ⟨h1, h2, h3⟩ := h
  unfold FS
  rw [fpG_y e]
  refine ⟨?_, fun j hj => ?_, fun q j hq hf => ?_⟩
  · rw [qup_k, List.length_append]; rfl
  · rw [List.length_append] at hj
    have hj : j < (fpG w c k m i).length + 1 := hj
    rw [qup_ne (by decide)]
    by_cases z : j = (fpG w c k m i).length
    · rw [z, qup_k, List.getD_eq_getElem?_getD, List.getElem?_append_right (Nat.le_refl _), Nat.sub_self]; rfl
    · rw [qup_j z, h2 j (by omega), List.getD_eq_getElem?_getD, List.getD_eq_getElem?_getD, List.getElem?_append_left (by omega)]
  · rw [qup_f hf, qup_ne hq]
    exact h3 q j hq hf
end
section
/-! the tape's bytes, on both sides -/
theorem low8 {x : Int} {s : Nat} (hs : s ≤ 24) : qand (qshr x (s : Int)) 255 = qand (qush x (s : Int)) 255 := by
  unfold qand qshr qush
  rw [Int32.ofInt_toInt, Int32.ofInt_toInt]
  have a : ∀ i, i < 8 → (Int32.ofInt x >>> (Int32.ofInt (s : Int) &&& 31)).toBitVec.getLsbD i = (Int32.ofInt x).toBitVec.getLsbD (s + i) := fun i hi => by
    rw [Int32.toBitVec_shiftRight, BitVec.sshiftRight', shs32 s (by omega), BitVec.getLsbD_sshiftRight]
    simp [show s + i < 32 by omega, show i < 32 by omega]
  have b : ∀ i, i < 8 → ((Int32.ofInt x).toUInt32 >>> ((Int32.ofInt (s : Int)).toUInt32 &&& Int32.toUInt32 31)).toInt32.toBitVec.getLsbD i = (Int32.ofInt x).toBitVec.getLsbD (s + i) := fun i hi => by
    show ((Int32.ofInt x).toUInt32 >>> ((Int32.ofInt (s : Int)).toUInt32 &&& Int32.toUInt32 31)).toBitVec.getLsbD i = _
    rw [UInt32.toBitVec_shiftRight, BitVec.ushiftRight_eq', ush32 s (by omega), BitVec.getLsbD_ushiftRight]
    rfl
  generalize Int32.ofInt x >>> (Int32.ofInt (s : Int) &&& 31) = z1 at a ⊢
  generalize ((Int32.ofInt x).toUInt32 >>> ((Int32.ofInt (s : Int)).toUInt32 &&& Int32.toUInt32 31)).toInt32 = z2 at b ⊢
  show (z1 &&& Int32.ofInt 255).toBitVec.toInt = (z2 &&& Int32.ofInt 255).toBitVec.toInt
  refine congrArg BitVec.toInt ?_
  rw [Int32.toBitVec_and, Int32.toBitVec_and]
  apply BitVec.eq_of_getLsbD_eq
  intro i hi
  rw [BitVec.getLsbD_and, BitVec.getLsbD_and]
  by_cases h8 : i < 8
  · rw [a i h8, b i h8]
  · have c : (Int32.ofInt 255).toBitVec.getLsbD i = false := Nat.testBit_lt_two_pow (Nat.lt_of_lt_of_le (show (Int32.ofInt 255).toBitVec.toNat < 2 ^ 8 by decide) (Nat.pow_le_pow_right (by decide) (by omega)))
    rw [c, Bool.and_false, Bool.and_false]
theorem and255 (x : Int) : qand x 255 = x % 256 := by
  have h := qand_r (x := x) (b := 255) (by decide)
  have h : qand x 255 = (((x % 4294967296).toNat &&& 255 : Nat) : Int) := h
  rw [h, show (x % 4294967296).toNat &&& 255 = (x % 4294967296).toNat % 256 from Nat.and_two_pow_sub_one_eq_mod _ 8]
  omega
theorem byte_eq {x : Int} {s : Nat} (hs : s ≤ 24) : qand (qshr x (s : Int)) 255 = qi2b (qush x (s : Int)) % 256 := by
  rw [low8 hs, and255]
  unfold qi2b
  omega
noncomputable def vF (a b c e f : Int) (i : Nat) : Int := if i < 4 then a else if i < 8 then b else if i < 12 then c else if i < 16 then e else f
noncomputable def fbX (a b c e f : Int) (n : Nat) (w : qW) (r : qV) (w1 : qW) : Prop := (¬ n + 20 ≤ 600 ∧ r = (0, -1) ∧ w1 = w) ∨ (n + 20 ≤ 600 ∧ r = (0, ((n + 20 : Nat) : Int)) ∧ w1 8 1 = ((n + 20 : Nat) : Int) ∧ (∀ i, i < 20 → w1 9 (n + i) = qi2b (qush (vF a b c e f i) ((24 - 8 * (i % 4) : Nat) : Int))) ∧ ∀ q k, ¬ (q = 9 ∧ n ≤ k ∧ k < n + 20) → ¬ (q = 8 ∧ k = 1) → w1 q k = w q k)
noncomputable def fbR (a b c e f : Int) (n : Nat) (w : qW) (r : qV) (w1 : qW) : Prop := (¬ n + 20 ≤ 600 ∧ r = (0, -1) ∧ w1 = w) ∨ (n + 20 ≤ 600 ∧ r = (0, ((n + 20 : Nat) : Int)) ∧ w1 95 25 = ((n + 20 : Nat) : Int) ∧ (∀ i, i < 20 → w1 114 (n + i) = qand (qshr (vF a b c e f i) ((24 - 8 * (i % 4) : Nat) : Int)) 255) ∧ ∀ q k, ¬ (q = 114 ∧ n ≤ k ∧ k < n + 20) → ¬ (q = 95 ∧ k = 25) → w1 q k = w q k)
/-- as long, and the same bytes -/
noncomputable def JM (w : qW) : Prop := w 8 1 = w 95 25 ∧ ∀ j : Nat, (j : Int) < w 95 25 → w 114 j = w 9 j % 256

noncomputable def jmM (m : List Nat) : Bool := spo m 9 && (spo m 114 && (!ymo 8 1 m && !ymo 95 25 m))
theorem JM.aw {m : List Nat} {w w1 : qW} (h : JM w) (a : AW m w w1) (hm : jmM m = true) : JM w1 := by
  unfold jmM at hm
  simp only [Bool.and_eq_true, Bool.not_eq_true'] at hm
  obtain ⟨m1, m2, m3, m4⟩ := hm
  refine ⟨?_, fun j hj => ?_⟩
  · rw [a.2 8 1 (fun _ => m3), a.2 95 25 (fun _ => m4)]; exact h.1
  · rw [a.2 95 25 (fun _ => m4)] at hj
    rw [a.a (by decide) m1, a.a (by decide) m2]; exact h.2 j hj
theorem JM.feed {w w1 w2 : qW} {a b c e f : Int} {n : Nat} {r r2 : qV} (h : JM w) (hn : w 8 1 = (n : Int)) (hX : fbX a b c e f n w r w1) (hR : fbR a b c e f n w1 r2 w2) : JM w2 ∧ r = r2 := by
  rcases hX with ⟨c1, rfl, rfl⟩ | ⟨c1, rfl, x1, x2, x3⟩ <;> rcases hR with ⟨c2, rfl, rfl⟩ | ⟨c2, rfl, y1, y2, y3⟩
  · exact ⟨h, rfl⟩
  · exact absurd c2 c1
  · exact absurd c1 c2
  · refine ⟨⟨?_, fun j hj => ?_⟩, rfl⟩
    · rw [y1, y3 8 1 (by omega) (by omega), x1]
    · rw [y1] at hj
      by_cases hjn : j < n
      · rw [y3 114 j (by omega) (by omega), y3 9 j (by omega) (by omega), x3 114 j (by omega) (by omega), x3 9 j (by omega) (by omega)]
        exact h.2 j (by rw [← h.1, hn]; omega)
      · obtain ⟨i, rfl⟩ : ∃ i, j = n + i := ⟨j - n, by omega⟩
        rw [y2 i (by omega), y3 9 (n + i) (by omega) (by omega), x2 i (by omega)]
        exact byte_eq (by omega)
theorem JM.fin {w w1 w2 : qW} {v : Int} {n : Nat} {r r2 : qV} (h : JM w) (hn : w 8 1 = (n : Int)) (hX : enX v n w r w1) (hR : enR v n w1 r2 w2) : JM w2 ∧ r = r2 := by
  rcases hX with ⟨c1, rfl, rfl⟩ | ⟨c1, rfl, rfl⟩ <;> rcases hR with ⟨c2, rfl, rfl⟩ | ⟨c2, rfl, rfl⟩
  · exact ⟨h, rfl⟩
  · exact absurd c2 c1
  · exact absurd c1 c2
  · refine ⟨⟨by simp (disch := decide) only [qup_ne, qup_k], fun j hj => ?_⟩, rfl⟩
    rw [qup_k] at hj
    rw [qup_ne (by decide), qup_ne (by decide), qup_ne (by decide), qup_ne (by decide)]
    exact h.2 j (by rw [← h.1, hn]; omega)
theorem JM.zero {w2 : qW} (hX : w2 8 1 = 0) (hR : w2 95 25 = 0) : JM w2 := ⟨hX.trans hR.symm, fun j hj => absurd hj (by rw [hR]; omega)⟩
end
