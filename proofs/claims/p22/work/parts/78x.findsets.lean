/-! the class's findSets: how many poses, and which -/
/-- the class's table after i sets -/
noncomputable def FS (w : qW) (c k m i : Nat) (w9 : qW) : Prop := w9 24 3 = (((fpG w c k m i).length : Nat) : Int) ∧ (∀ j, j < (fpG w c k m i).length → w9 25 j = (((fpG w c k m i).getD j 0 : Nat) : Int)) ∧ ∀ q j, q ≠ 25 → ¬ (q = 24 ∧ j = 3) → w9 q j = w q j
theorem FS.no {w w9 : qW} {c k m i : Nat} (h : FS w c k m i w9) (e : fpd w c k (gN m i) = false) : FS w c k m (i + 1) w9 := by
  unfold FS
  rw [fpG_n e]
  exact h
theorem FS.yes {w w9 : qW} {c k m i : Nat} (h : FS w c k m i w9) (e : fpd w c k (gN m i) = true) : FS w c k m (i + 1) (qup (qup w9 25 (fpG w c k m i).length ((gN m i : Nat) : Int)) 24 3 (((fpG w c k m i).length + 1 : Nat) : Int)) := by
  obtain ⟨h1, h2, h3⟩ := h
  unfold FS
  rw [fpG_y e]
  refine ⟨?_, fun j hj => ?_, fun q j hq hf => ?_⟩
  · rw [qup_k, List.length_append]; rfl
  · rw [List.length_append] at hj
    have hj : j < (fpG w c k m i).length + 1 := hj
    rw [qup_ne (by decide)]
    by_cases z : j = (fpG w c k m i).length
    · rw [z, qup_k, List.getD_eq_getElem?_getD, List.getElem?_append_right (Nat.le_refl _), Nat.sub_self]; rfl
    · rw [qup_j z, h2 j (by omega), List.getD_eq_getElem?_getD, List.getD_eq_getElem?_getD, List.getElem?_append_left (by omega)]
  · rw [qup_f hf, qup_ne hq]
    exact h3 q j hq hf
