/-! the reference's findsPoses as contracts -/
noncomputable def zfpm : List Nat := [101, 102, 103, 9095, 10095]
theorem zfpm_f {w wA w1 : qW} {c k : Nat} (hA : fpI w c k 65536 wA) (hJ : fpJ wA w1) {p j : Nat} (h : p < 1000 → ymo p j zfpm = false) : w1 p j = w p j := by
  have key : p < 1000 → p ≠ 101 ∧ p ≠ 102 ∧ p ≠ 103 ∧ ¬ (p = 95 ∧ (j = 8 ∨ j = 9)) := fun hp => by
    have h := h hp
    refine ⟨fun z => (by rw [z] at h; cases h), fun z => (by rw [z] at h; cases h), fun z => (by rw [z] at h; cases h), fun z => ?_⟩
    rcases z with ⟨rfl, rfl | rfl⟩ <;> cases h
  by_cases hp : p < 1000
  · obtain ⟨k1, k2, k3, k4⟩ := key hp
    rw [hJ.1 p j k2 k3, hA.2.2.2.1 p j k1 k4]
  · rw [hJ.1 p j (by omega) (by omega), hA.2.2.2.1 p j (by omega) (fun z => by omega)]
