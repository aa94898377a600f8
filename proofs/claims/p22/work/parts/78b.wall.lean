/-! what wall answers -/
theorem qG.and {sc : Option (Nat × (Nat → Int))} {d k pc n : Nat} {ls st : List qV} {w : qW} {Q R : qV → qW → Nat → Prop} (h : qG sc d k pc ls st w n Q) (h2 : qG sc d k pc ls st w n R) : qG sc d k pc ls st w n (fun v w' n' => Q v w' n' ∧ R v w' n') := by
  obtain ⟨f, v, w1, n1, e, q⟩ := h
  obtain ⟨g, v2, w2, n2, e2, q2⟩ := h2
  have a := qex_le (Nat.le_max_left f g) _ _ _ _ _ _ _ _ _ e
  have b := qex_le (Nat.le_max_right f g) _ _ _ _ _ _ _ _ _ e2
  rw [a] at b
  cases b
  exact ⟨_, v, w1, n1, a, q, q2⟩
