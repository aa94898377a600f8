/-! what alone answers -/
noncomputable def anF (H O : Nat → Int) (v : Int) : Nat → Int
  | 0 => -1
  | k + 1 => if H k = v then O k else anF H O v k
noncomputable def okM (H O G : Nat → Int) (c i : Nat) : Prop := anF H O (G (2 * i)) c = G (2 * i + 1)
/-- n moves of his own were answered as told, and the next was not -/
noncomputable def plS (H O G : Nat → Int) (c M n : Nat) : Prop := (∀ i, i < n → 2 * i + 1 < M ∧ okM H O G c i) ∧ ¬ (2 * n + 1 < M ∧ okM H O G c n)
theorem plS.eq {H O G : Nat → Int} {c M n m : Nat} (h : plS H O G c M n) (h2 : plS H O G c M m) : n = m := by
  rcases Nat.lt_trichotomy n m with q | q | q
  · exact absurd (h2.1 n q) h.2
  · exact q
  · exact absurd (h.1 m q) h2.2
noncomputable def alE (H O G : Nat → Int) (c M : Nat) (v : Int) (r : qV) : Prop := (¬ (0 ≤ v ∧ v ≤ 2) ∧ r = (0, -1)) ∨ (v = 2 ∧ r = (0, (M : Int))) ∨ ((v = 0 ∨ v = 1) ∧ ∃ n : Nat, plS H O G c M n ∧ r = (0, if v = 0 then (n : Int) else if n = M / 2 then 1 else 0))
theorem alE.eq {H O G : Nat → Int} {c M : Nat} {v : Int} {r r2 : qV} (h : alE H O G c M v r) (h2 : alE H O G c M v r2) : r = r2 := by
  rcases h with ⟨a, rfl⟩ | ⟨a, rfl⟩ | ⟨a, n, hn, rfl⟩ <;> rcases h2 with ⟨b, rfl⟩ | ⟨b, rfl⟩ | ⟨b, m, hm, rfl⟩ <;> first | rfl | (exfalso; omega) | (rw [hn.eq hm])
