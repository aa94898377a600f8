/-! how long the tape is, on both sides -/
noncomputable def fdX (n : Nat) (w : qW) (r : qV) (w1 : qW) : Prop := (¬ n + 20 ≤ 600 ∧ r = (0, -1) ∧ w1 = w) ∨ (n + 20 ≤ 600 ∧ r = (0, ((n + 20 : Nat) : Int)) ∧ w1 8 1 = ((n + 20 : Nat) : Int) ∧ w1 95 25 = w 95 25)
noncomputable def fdR (n : Nat) (w : qW) (r : qV) (w1 : qW) : Prop := (¬ n + 20 ≤ 600 ∧ r = (0, -1) ∧ w1 = w) ∨ (n + 20 ≤ 600 ∧ r = (0, ((n + 20 : Nat) : Int)) ∧ w1 95 25 = ((n + 20 : Nat) : Int) ∧ w1 8 1 = w 8 1)
noncomputable def enX (v : Int) (n : Nat) (w : qW) (r : qV) (w1 : qW) : Prop := (¬ (0 ≤ v ∧ v ≤ (n : Int)) ∧ r = (0, 0) ∧ w1 = w) ∨ ((0 ≤ v ∧ v ≤ (n : Int)) ∧ r = (0, 1) ∧ w1 = qup w 8 1 v)
noncomputable def enR (v : Int) (n : Nat) (w : qW) (r : qV) (w1 : qW) : Prop := (¬ (0 ≤ v ∧ v ≤ (n : Int)) ∧ r = (0, 0) ∧ w1 = w) ∨ ((0 ≤ v ∧ v ≤ (n : Int)) ∧ r = (0, 1) ∧ w1 = qup w 95 25 v)
noncomputable def JL (w : qW) : Prop := w 8 1 = w 95 25
noncomputable def jlM (m : List Nat) : Bool := !ymo 8 1 m && !ymo 95 25 m
theorem JL.aw {m : List Nat} {w w1 : qW} (h : JL w) (a : AW m w w1) (hm : jlM m = true) : JL w1 := by
  unfold jlM at hm
  simp only [Bool.and_eq_true, Bool.not_eq_true'] at hm
  unfold JL
  rw [a.2 8 1 (fun _ => hm.1), a.2 95 25 (fun _ => hm.2)]
  exact h
theorem JL.e {w : qW} (h : JL w) : w 8 1 = w 95 25 := h
theorem JL.feed {w w1 w2 : qW} {n : Nat} {r r2 : qV} (h : JL w) (hX : fdX n w r w1) (hR : fdR n w1 r2 w2) : JL w2 ∧ r = r2 := by
  rcases hX with ⟨c1, rfl, rfl⟩ | ⟨c1, rfl, x1, x2⟩ <;> rcases hR with ⟨c2, rfl, rfl⟩ | ⟨c2, rfl, y1, y2⟩
  · exact ⟨h, rfl⟩
  · exact absurd c2 c1
  · exact absurd c1 c2
  · exact ⟨by unfold JL; rw [y1, y2, x1], rfl⟩
theorem JL.fin {w w1 w2 : qW} {v : Int} {n : Nat} {r r2 : qV} (h : JL w) (hX : enX v n w r w1) (hR : enR v n w1 r2 w2) : JL w2 ∧ r = r2 := by
  rcases hX with ⟨c1, rfl, rfl⟩ | ⟨c1, rfl, rfl⟩ <;> rcases hR with ⟨c2, rfl, rfl⟩ | ⟨c2, rfl, rfl⟩
  · exact ⟨h, rfl⟩
  · exact absurd c2 c1
  · exact absurd c1 c2
  · exact ⟨by unfold JL; simp (disch := decide) only [qup_ne, qup_k], rfl⟩
