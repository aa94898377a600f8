/-! the writers on both sides -/
noncomputable def wriC (y c : Int) (n : Nat) : Prop := ((0 ≤ y ∧ y ≤ 99) ∧ 0 ≤ c ∧ c ≤ 1073741823) ∧ n < 20
noncomputable def wriE (p j q1 q2 : Nat) (y c : Int) (n : Nat) (w : qW) (r : qV) (w1 : qW) : Prop := (¬ wriC y c n ∧ r = (0, -1) ∧ w1 = w) ∨ (wriC y c n ∧ r = (0, ((n : Nat) : Int)) ∧ w1 = qup (qup (qup w q1 n y) q2 n c) p j ((n + 1 : Nat) : Int))
noncomputable def truE (p j : Nat) (c : Int) (w : qW) (r : qV) (w1 : qW) : Prop := (¬ (0 ≤ c ∧ c ≤ 1073741823) ∧ r = (0, 0) ∧ w1 = w) ∨ ((0 ≤ c ∧ c ≤ 1073741823) ∧ r = (0, 1) ∧ w1 = qup w p j c)
noncomputable def JW (w : qW) : Prop := w 61 2 = w 95 76 ∧ w 61 3 = w 95 77 ∧ (∀ j, w 62 j = w 141 j) ∧ ∀ j, w 63 j = w 142 j
noncomputable def jwM (m : List Nat) : Bool := spo m 62 && (spo m 63 && (spo m 141 && (spo m 142 && (!ymo 61 2 m && (!ymo 61 3 m && (!ymo 95 76 m && !ymo 95 77 m))))))
theorem JW.aw {m : List Nat} {w w1 : qW} (h : JW w) (a : AW m w w1) (hm : jwM m = true) : JW w1 := by
  unfold jwM at hm
  simp only [Bool.and_eq_true, Bool.not_eq_true'] at hm
  obtain ⟨m1, m2, m4, m5, m7, m8, m9, m10⟩ := hm
  refine ⟨?_, ?_, fun j => ?_, fun j => ?_⟩
  · rw [a.2 61 2 (fun _ => m7), a.2 95 76 (fun _ => m9)]; exact h.1
  · rw [a.2 61 3 (fun _ => m8), a.2 95 77 (fun _ => m10)]; exact h.2.1
  · rw [a.a (by decide) m1, a.a (by decide) m4]; exact h.2.2.1 j
  · rw [a.a (by decide) m2, a.a (by decide) m5]; exact h.2.2.2 j
theorem JW.writer {w w1 w2 : qW} {y c : Int} {n : Nat} {r r2 : qV} (h : JW w) (hX : wriE 61 2 62 63 y c n w r w1) (hR : wriE 95 76 141 142 y c n w1 r2 w2) : JW w2 ∧ r = r2 := by
  rcases hX with ⟨c1, rfl, rfl⟩ | ⟨c1, rfl, rfl⟩ <;> rcases hR with ⟨c2, rfl, rfl⟩ | ⟨c2, rfl, rfl⟩
  · exact ⟨h, rfl⟩
  · exact absurd c2 c1
  · exact absurd c1 c2
  · refine ⟨⟨?_, ?_, fun j => ?_, fun j => ?_⟩, rfl⟩
    · simp (disch := decide) only [qup_ne, qup_k]
    · simp (disch := decide) only [qup_ne, qup_j]; exact h.2.1
    · simp (disch := decide) only [qup_ne, qup_if]; rw [h.2.2.1 j]
    · simp (disch := decide) only [qup_ne, qup_if]; rw [h.2.2.2 j]
theorem JW.truth {w w1 w2 : qW} {c : Int} {r r2 : qV} (h : JW w) (hX : truE 61 3 c w r w1) (hR : truE 95 77 c w1 r2 w2) : JW w2 ∧ r = r2 := by
  rcases hX with ⟨c1, rfl, rfl⟩ | ⟨c1, rfl, rfl⟩ <;> rcases hR with ⟨c2, rfl, rfl⟩ | ⟨c2, rfl, rfl⟩
  · exact ⟨h, rfl⟩
  · exact absurd c2 c1
  · exact absurd c1 c2
  · refine ⟨⟨?_, ?_, fun j => ?_, fun j => ?_⟩, rfl⟩
    · simp (disch := decide) only [qup_ne, qup_j]; exact h.1
    · simp (disch := decide) only [qup_ne, qup_k]
    · simp (disch := decide) only [qup_ne]; exact h.2.2.1 j
    · simp (disch := decide) only [qup_ne]; exact h.2.2.2 j
