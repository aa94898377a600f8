/-! what holds between the calls -/
noncomputable def JP (n : Nat) (w : qW) : Prop := J9 n w ∧ JE w
noncomputable def jpM (m : List Nat) : Bool := j9m m && jeM m
theorem JP.up {n m : Nat} {w : qW} (h : JP n w) (hm : n ≤ m) : JP m w := ⟨h.1.up hm, h.2⟩
theorem JP.aw {n : Nat} {m : List Nat} {w w1 : qW} (h : JP n w) (a : AW m w w1) (hm : jpM m = true) : JP n w1 := by
  unfold jpM at hm
  rw [Bool.and_eq_true] at hm
  exact ⟨h.1.aw a hm.1, h.2.aw a hm.2⟩
