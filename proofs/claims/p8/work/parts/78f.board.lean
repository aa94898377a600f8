/-! the board on both sides -/
noncomputable def nbF (B : Nat → Int) (f t : Nat) (bc : Int) (j : Nat) : Int := if j = f then 0 else if j = t then (if bc = -1 then B f else bc) else B j
noncomputable def nkF (K S : Nat → Int) (f t : Nat) (j : Nat) : Int := if S t = 0 ∧ j = t then (if S f = 0 then (if K f = 0 then 13 else K f) else 13) else if S f = 0 ∧ j = f then 0 else K j
noncomputable def movC (B : Nat → Int) (f t bc : Int) : Prop := ((((0 ≤ f ∧ f ≤ 63) ∧ 0 ≤ t ∧ t ≤ 63) ∧ ¬ f = t) ∧ ¬ B f.toNat = 0) ∧ (bc = -1 ∨ (1 ≤ bc ∧ bc ≤ 12))
noncomputable def movE (a b c : Nat) (f t bc : Int) (w : qW) (r : qV) (w1 : qW) : Prop := (¬ movC (w a) f t bc ∧ r = (0, 0) ∧ w1 = w) ∨ (movC (w a) f t bc ∧ r = (0, 1) ∧ (∀ j, w1 a j = nbF (w a) f.toNat t.toNat bc j) ∧ (∀ j, w1 b j = nkF (w b) (w c) f.toNat t.toNat j) ∧ ∀ j, w1 c j = w c j)
noncomputable def pieE (a b c : Nat) (s p : Int) (w : qW) (r : qV) (w1 : qW) : Prop := (¬ ((0 ≤ s ∧ s ≤ 63) ∧ 0 ≤ p ∧ p ≤ 12) ∧ r = (0, 0) ∧ w1 = w) ∨ (((0 ≤ s ∧ s ≤ 63) ∧ 0 ≤ p ∧ p ≤ 12) ∧ r = (0, 1) ∧ (∀ j, w1 a j = if j = s.toNat then p else w a j) ∧ (∀ j, w1 b j = if j = s.toNat then p else w b j) ∧ ∀ j, w1 c j = w c j)
noncomputable def stiE (a b c : Nat) (s p : Int) (w : qW) (r : qV) (w1 : qW) : Prop := (¬ (0 ≤ s ∧ s ≤ 63) ∧ r = (0, 0) ∧ w1 = w) ∨ ((0 ≤ s ∧ s ≤ 63) ∧ r = (0, 1) ∧ (∀ j, w1 a j = w a j) ∧ (∀ j, w1 b j = w b j) ∧ ∀ j, w1 c j = if j = s.toNat then p else w c j)
noncomputable def JB (w : qW) : Prop := (∀ j, w 42 j = w 122 j) ∧ (∀ j, w 43 j = w 123 j) ∧ ∀ j, w 44 j = w 124 j
noncomputable def jbM (m : List Nat) : Bool := spo m 42 && (spo m 43 && (spo m 44 && (spo m 122 && (spo m 123 && spo m 124))))
theorem JB.aw {m : List Nat} {w w1 : qW} (h : JB w) (a : AW m w w1) (hm : jbM m = true) : JB w1 := by
  unfold jbM at hm
  simp only [Bool.and_eq_true] at hm
  obtain ⟨m1, m2, m3, m4, m5, m6⟩ := hm
  refine ⟨fun j => ?_, fun j => ?_, fun j => ?_⟩
  · rw [a.a (by decide) m1, a.a (by decide) m4]; exact h.1 j
  · rw [a.a (by decide) m2, a.a (by decide) m5]; exact h.2.1 j
  · rw [a.a (by decide) m3, a.a (by decide) m6]; exact h.2.2 j
/-- the class's call leaves the reference's rows alone, and the other way round -/
theorem JB.fr {m : List Nat} {w w1 : qW} (a : AW m w w1) (h4 : spo m 122 = true) (h5 : spo m 123 = true) (h6 : spo m 124 = true) : w1 122 = w 122 ∧ w1 123 = w 123 ∧ w1 124 = w 124 := ⟨funext (a.a (by decide) h4), funext (a.a (by decide) h5), funext (a.a (by decide) h6)⟩
theorem JB.fx {m : List Nat} {w w1 : qW} (a : AW m w w1) (h4 : spo m 42 = true) (h5 : spo m 43 = true) (h6 : spo m 44 = true) : w1 42 = w 42 ∧ w1 43 = w 43 ∧ w1 44 = w 44 := ⟨funext (a.a (by decide) h4), funext (a.a (by decide) h5), funext (a.a (by decide) h6)⟩
theorem JB.eq {w : qW} (h : JB w) : w 42 = w 122 ∧ w 43 = w 123 ∧ w 44 = w 124 := ⟨funext h.1, funext h.2.1, funext h.2.2⟩
theorem JB.move {m m2 : List Nat} {w w1 w2 : qW} {f t bc : Int} {r r2 : qV} (h : JB w) (hX : movE 42 43 44 f t bc w r w1) (a : AW m w w1) (hm : (spo m 122 && (spo m 123 && spo m 124)) = true) (hR : movE 122 123 124 f t bc w1 r2 w2) (a2 : AW m2 w1 w2) (hm2 : (spo m2 42 && (spo m2 43 && spo m2 44)) = true) : JB w2 ∧ r = r2 := by
  simp only [Bool.and_eq_true] at hm hm2
  obtain ⟨q1, q2, q3⟩ := JB.fr a hm.1 hm.2.1 hm.2.2
  obtain ⟨p1, p2, p3⟩ := JB.fx a2 hm2.1 hm2.2.1 hm2.2.2
  obtain ⟨e1, e2, e3⟩ := h.eq
  unfold movE at hR
  rw [q1, q2, q3, ← e1, ← e2, ← e3] at hR
  unfold JB
  rw [p1, p2, p3]
  rcases hX with ⟨c1, rfl, rfl⟩ | ⟨c1, rfl, b1, b2, b3⟩ <;> rcases hR with ⟨c2, rfl, rfl⟩ | ⟨c2, rfl, d1, d2, d3⟩
  · exact ⟨h, rfl⟩
  · exact absurd c2 c1
  · exact absurd c1 c2
  · exact ⟨⟨fun j => (b1 j).trans (d1 j).symm, fun j => (b2 j).trans (d2 j).symm, fun j => (b3 j).trans (d3 j).symm⟩, rfl⟩
theorem JB.piece {m m2 : List Nat} {w w1 w2 : qW} {s p : Int} {r r2 : qV} (h : JB w) (hX : pieE 42 43 44 s p w r w1) (a : AW m w w1) (hm : (spo m 122 && (spo m 123 && spo m 124)) = true) (hR : pieE 122 123 124 s p w1 r2 w2) (a2 : AW m2 w1 w2) (hm2 : (spo m2 42 && (spo m2 43 && spo m2 44)) = true) : JB w2 ∧ r = r2 := by
  simp only [Bool.and_eq_true] at hm hm2
  obtain ⟨q1, q2, q3⟩ := JB.fr a hm.1 hm.2.1 hm.2.2
  obtain ⟨p1, p2, p3⟩ := JB.fx a2 hm2.1 hm2.2.1 hm2.2.2
  obtain ⟨e1, e2, e3⟩ := h.eq
  unfold pieE at hR
  rw [q1, q2, q3, ← e1, ← e2, ← e3] at hR
  unfold JB
  rw [p1, p2, p3]
  rcases hX with ⟨c1, rfl, rfl⟩ | ⟨c1, rfl, b1, b2, b3⟩ <;> rcases hR with ⟨c2, rfl, rfl⟩ | ⟨c2, rfl, d1, d2, d3⟩
  · exact ⟨h, rfl⟩
  · exact absurd c2 c1
  · exact absurd c1 c2
  · exact ⟨⟨fun j => (b1 j).trans (d1 j).symm, fun j => (b2 j).trans (d2 j).symm, fun j => (b3 j).trans (d3 j).symm⟩, rfl⟩
theorem JB.stick {m m2 : List Nat} {w w1 w2 : qW} {s p : Int} {r r2 : qV} (h : JB w) (hX : stiE 42 43 44 s p w r w1) (a : AW m w w1) (hm : (spo m 122 && (spo m 123 && spo m 124)) = true) (hR : stiE 122 123 124 s p w1 r2 w2) (a2 : AW m2 w1 w2) (hm2 : (spo m2 42 && (spo m2 43 && spo m2 44)) = true) : JB w2 ∧ r = r2 := by
  simp only [Bool.and_eq_true] at hm hm2
  obtain ⟨q1, q2, q3⟩ := JB.fr a hm.1 hm.2.1 hm.2.2
  obtain ⟨p1, p2, p3⟩ := JB.fx a2 hm2.1 hm2.2.1 hm2.2.2
  obtain ⟨e1, e2, e3⟩ := h.eq
  unfold stiE at hR
  rw [q1, q2, q3, ← e1, ← e2, ← e3] at hR
  unfold JB
  rw [p1, p2, p3]
  rcases hX with ⟨c1, rfl, rfl⟩ | ⟨c1, rfl, b1, b2, b3⟩ <;> rcases hR with ⟨c2, rfl, rfl⟩ | ⟨c2, rfl, d1, d2, d3⟩
  · exact ⟨h, rfl⟩
  · exact absurd c2 c1
  · exact absurd c1 c2
  · exact ⟨⟨fun j => (b1 j).trans (d1 j).symm, fun j => (b2 j).trans (d2 j).symm, fun j => (b3 j).trans (d3 j).symm⟩, rfl⟩
