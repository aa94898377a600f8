/-! the masters and the nights on both sides -/
theorem qup_f {w : qW} {p j q i : Nat} {v : Int} (h : ¬ (q = p ∧ i = j)) : qup w p j v q i = w q i := by
  by_cases hp : q = p
  · subst hp; exact qup_j (fun z => h ⟨rfl, z⟩)
  · rw [qup_ne hp]
noncomputable def masC (s g a b : Int) (n : Nat) : Prop := ((1 ≤ s ∧ s ≤ 4) ∧ (0 ≤ g ∧ g ≤ 99) ∧ (0 ≤ a ∧ a ≤ 99) ∧ a ≤ b ∧ b ≤ 99) ∧ n < 12
noncomputable def masE (p j q1 q2 q3 : Nat) (L : List Nat) (s g a b : Int) (n : Nat) (w : qW) (r : qV) (w1 : qW) : Prop := (¬ masC s g a b n ∧ r = (0, -1) ∧ w1 = w) ∨ (masC s g a b n ∧ r = (0, ((n : Nat) : Int)) ∧ w1 p j = ((n + 1 : Nat) : Int) ∧ (∀ k, w1 q1 k = if k = n then g else w q1 k) ∧ (∀ k, w1 q2 k = if k = n then a else w q2 k) ∧ (∀ k, w1 q3 k = if k = n then b else w q3 k) ∧ ∀ q k, q ∉ L → ¬ (q = p ∧ k = j) → w1 q k = w q k)
noncomputable def nigC (y t g e a : Int) (n : Nat) : Prop := ((0 ≤ y ∧ y ≤ 99) ∧ (0 ≤ t ∧ t ≤ 9) ∧ (0 ≤ g ∧ g ≤ 99) ∧ (0 ≤ e ∧ e ≤ 2) ∧ -1 ≤ a ∧ a ≤ 2) ∧ n < 60
noncomputable def nigE (p j q1 q2 q3 q4 q5 : Nat) (y t g e a : Int) (n : Nat) (w : qW) (r : qV) (w1 : qW) : Prop := (¬ nigC y t g e a n ∧ r = (0, -1) ∧ w1 = w) ∨ (nigC y t g e a n ∧ r = (0, ((n : Nat) : Int)) ∧ w1 p j = ((n + 1 : Nat) : Int) ∧ (∀ k, w1 q1 k = if k = n then y else w q1 k) ∧ (∀ k, w1 q2 k = if k = n then t else w q2 k) ∧ (∀ k, w1 q3 k = if k = n then g else w q3 k) ∧ (∀ k, w1 q4 k = if k = n then e else w q4 k) ∧ (∀ k, w1 q5 k = if k = n then a else w q5 k) ∧ ∀ q k, q ∉ [q1, q2, q3, q4, q5] → ¬ (q = p ∧ k = j) → w1 q k = w q k)
noncomputable def JN (w : qW) : Prop := w 45 0 = w 95 55 ∧ w 45 7 = w 95 57 ∧ (∀ k, w 46 k = w 125 k) ∧ (∀ k, w 47 k = w 126 k) ∧ (∀ k, w 48 k = w 127 k) ∧ (∀ k, w 51 k = w 132 k) ∧ (∀ k, w 52 k = w 133 k) ∧ (∀ k, w 53 k = w 134 k) ∧ (∀ k, w 54 k = w 135 k) ∧ (∀ k, w 55 k = w 136 k)
noncomputable def jnM (m : List Nat) : Bool := spo m 46 && (spo m 47 && (spo m 48 && (spo m 51 && (spo m 52 && (spo m 53 && (spo m 54 && (spo m 55 && (spo m 125 && (spo m 126 && (spo m 127 && (spo m 132 && (spo m 133 && (spo m 134 && (spo m 135 && (spo m 136 && (!ymo 45 0 m && (!ymo 45 7 m && (!ymo 95 55 m && (!ymo 95 57 m)))))))))))))))))))
theorem JN.aw {m : List Nat} {w w1 : qW} (h : JN w) (a : AW m w w1) (hm : jnM m = true) : JN w1 := by
  unfold jnM at hm
  simp only [Bool.and_eq_true, Bool.not_eq_true'] at hm
  obtain ⟨m0, m1, m2, m3, m4, m5, m6, m7, m8, m9, m10, m11, m12, m13, m14, m15, m16, m17, m18, m19⟩ := hm
  refine ⟨?_, ?_, fun k => ?_, fun k => ?_, fun k => ?_, fun k => ?_, fun k => ?_, fun k => ?_, fun k => ?_, fun k => ?_⟩
  · rw [a.2 45 0 (fun _ => m16), a.2 95 55 (fun _ => m18)]; exact h.1
  · rw [a.2 45 7 (fun _ => m17), a.2 95 57 (fun _ => m19)]; exact h.2.1
  · rw [a.a (by decide) m0, a.a (by decide) m8]; exact h.2.2.1 k
  · rw [a.a (by decide) m1, a.a (by decide) m9]; exact h.2.2.2.1 k
  · rw [a.a (by decide) m2, a.a (by decide) m10]; exact h.2.2.2.2.1 k
  · rw [a.a (by decide) m3, a.a (by decide) m11]; exact h.2.2.2.2.2.1 k
  · rw [a.a (by decide) m4, a.a (by decide) m12]; exact h.2.2.2.2.2.2.1 k
  · rw [a.a (by decide) m5, a.a (by decide) m13]; exact h.2.2.2.2.2.2.2.1 k
  · rw [a.a (by decide) m6, a.a (by decide) m14]; exact h.2.2.2.2.2.2.2.2.1 k
  · rw [a.a (by decide) m7, a.a (by decide) m15]; exact h.2.2.2.2.2.2.2.2.2 k
theorem JN.master {w w1 w2 : qW} {s g a b : Int} {n : Nat} {r r2 : qV} (h : JN w) (hX : masE 45 0 46 47 48 [46, 47, 48] s g a b n w r w1) (hR : masE 95 55 125 126 127 [125, 126, 127, 128] s g a b n w1 r2 w2) : JN w2 ∧ r = r2 := by
  rcases hX with ⟨c1, rfl, rfl⟩ | ⟨c1, rfl, t1, x0, x1, x2, s1⟩ <;> rcases hR with ⟨c2, rfl, rfl⟩ | ⟨c2, rfl, t2, y0, y1, y2, s2⟩
  · exact ⟨h, rfl⟩
  · exact absurd c2 c1
  · exact absurd c1 c2
  · refine ⟨⟨?_, ?_, fun k => ?_, fun k => ?_, fun k => ?_, fun k => ?_, fun k => ?_, fun k => ?_, fun k => ?_, fun k => ?_⟩, rfl⟩
    · rw [s2 45 0 (by decide) (fun z => by cases z.1), t1, t2]
    · rw [s2 45 7 (by decide) (fun z => by cases z.1), s1 45 7 (by decide) (fun z => by cases z.2), s2 95 57 (by decide) (fun z => by cases z.2), s1 95 57 (by decide) (fun z => by cases z.1)]; exact h.2.1
    · rw [s2 46 k (by decide) (fun z => by cases z.1), x0 k, y0 k, s1 125 k (by decide) (fun z => by cases z.1), h.2.2.1 k]
    · rw [s2 47 k (by decide) (fun z => by cases z.1), x1 k, y1 k, s1 126 k (by decide) (fun z => by cases z.1), h.2.2.2.1 k]
    · rw [s2 48 k (by decide) (fun z => by cases z.1), x2 k, y2 k, s1 127 k (by decide) (fun z => by cases z.1), h.2.2.2.2.1 k]
    · rw [s2 51 k (by decide) (fun z => by cases z.1), s1 51 k (by decide) (fun z => by cases z.1), s2 132 k (by decide) (fun z => by cases z.1), s1 132 k (by decide) (fun z => by cases z.1)]; exact h.2.2.2.2.2.1 k
    · rw [s2 52 k (by decide) (fun z => by cases z.1), s1 52 k (by decide) (fun z => by cases z.1), s2 133 k (by decide) (fun z => by cases z.1), s1 133 k (by decide) (fun z => by cases z.1)]; exact h.2.2.2.2.2.2.1 k
    · rw [s2 53 k (by decide) (fun z => by cases z.1), s1 53 k (by decide) (fun z => by cases z.1), s2 134 k (by decide) (fun z => by cases z.1), s1 134 k (by decide) (fun z => by cases z.1)]; exact h.2.2.2.2.2.2.2.1 k
    · rw [s2 54 k (by decide) (fun z => by cases z.1), s1 54 k (by decide) (fun z => by cases z.1), s2 135 k (by decide) (fun z => by cases z.1), s1 135 k (by decide) (fun z => by cases z.1)]; exact h.2.2.2.2.2.2.2.2.1 k
    · rw [s2 55 k (by decide) (fun z => by cases z.1), s1 55 k (by decide) (fun z => by cases z.1), s2 136 k (by decide) (fun z => by cases z.1), s1 136 k (by decide) (fun z => by cases z.1)]; exact h.2.2.2.2.2.2.2.2.2 k
theorem JN.night {w w1 w2 : qW} {y t g e a : Int} {n : Nat} {r r2 : qV} (h : JN w) (hX : nigE 45 7 51 52 53 54 55 y t g e a n w r w1) (hR : nigE 95 57 132 133 134 135 136 y t g e a n w1 r2 w2) : JN w2 ∧ r = r2 := by
  rcases hX with ⟨c1, rfl, rfl⟩ | ⟨c1, rfl, t1, x0, x1, x2, x3, x4, s1⟩ <;> rcases hR with ⟨c2, rfl, rfl⟩ | ⟨c2, rfl, t2, y0, y1, y2, y3, y4, s2⟩
  · exact ⟨h, rfl⟩
  · exact absurd c2 c1
  · exact absurd c1 c2
  · refine ⟨⟨?_, ?_, fun k => ?_, fun k => ?_, fun k => ?_, fun k => ?_, fun k => ?_, fun k => ?_, fun k => ?_, fun k => ?_⟩, rfl⟩
    · rw [s2 45 0 (by decide) (fun z => by cases z.1), s1 45 0 (by decide) (fun z => by cases z.2), s2 95 55 (by decide) (fun z => by cases z.2), s1 95 55 (by decide) (fun z => by cases z.1)]; exact h.1
    · rw [s2 45 7 (by decide) (fun z => by cases z.1), t1, t2]
    · rw [s2 46 k (by decide) (fun z => by cases z.1), s1 46 k (by decide) (fun z => by cases z.1), s2 125 k (by decide) (fun z => by cases z.1), s1 125 k (by decide) (fun z => by cases z.1)]; exact h.2.2.1 k
    · rw [s2 47 k (by decide) (fun z => by cases z.1), s1 47 k (by decide) (fun z => by cases z.1), s2 126 k (by decide) (fun z => by cases z.1), s1 126 k (by decide) (fun z => by cases z.1)]; exact h.2.2.2.1 k
    · rw [s2 48 k (by decide) (fun z => by cases z.1), s1 48 k (by decide) (fun z => by cases z.1), s2 127 k (by decide) (fun z => by cases z.1), s1 127 k (by decide) (fun z => by cases z.1)]; exact h.2.2.2.2.1 k
    · rw [s2 51 k (by decide) (fun z => by cases z.1), x0 k, y0 k, s1 132 k (by decide) (fun z => by cases z.1), h.2.2.2.2.2.1 k]
    · rw [s2 52 k (by decide) (fun z => by cases z.1), x1 k, y1 k, s1 133 k (by decide) (fun z => by cases z.1), h.2.2.2.2.2.2.1 k]
    · rw [s2 53 k (by decide) (fun z => by cases z.1), x2 k, y2 k, s1 134 k (by decide) (fun z => by cases z.1), h.2.2.2.2.2.2.2.1 k]
    · rw [s2 54 k (by decide) (fun z => by cases z.1), x3 k, y3 k, s1 135 k (by decide) (fun z => by cases z.1), h.2.2.2.2.2.2.2.2.1 k]
    · rw [s2 55 k (by decide) (fun z => by cases z.1), x4 k, y4 k, s1 136 k (by decide) (fun z => by cases z.1), h.2.2.2.2.2.2.2.2.2 k]
