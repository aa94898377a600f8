/-! weights of masters for nights -/
/-- the habits on both sides -/
noncomputable def JH (w : qW) : Prop := (∀ k : Nat, (k : Int) < 3 * w 95 55 → w 49 k = w 128 k) ∧ ∀ k : Nat, 3 * w 95 55 ≤ (k : Int) → k < 36 → w 49 k = 1
noncomputable def JQ (w : qW) : Prop := JS w ∧ JH w
noncomputable def jhM (m : List Nat) : Bool := spo m 49 && (spo m 128 && !ymo 95 55 m)
theorem JH.aw {m : List Nat} {w w1 : qW} (h : JH w) (a : AW m w w1) (hm : jhM m = true) : JH w1 := by
  unfold jhM at hm
  simp only [Bool.and_eq_true, Bool.not_eq_true'] at hm
  obtain ⟨m1, m2, m3⟩ := hm
  refine ⟨fun k hk => ?_, fun k hk h36 => ?_⟩
  · rw [a.2 95 55 (fun _ => m3)] at hk
    rw [a.a (by decide) m1, a.a (by decide) m2]; exact h.1 k hk
  · rw [a.2 95 55 (fun _ => m3)] at hk
    rw [a.a (by decide) m1]; exact h.2 k hk h36
noncomputable def jqM (m : List Nat) : Bool := jsM m && jhM m
theorem JQ.aw {m : List Nat} {w w1 : qW} (h : JQ w) (a : AW m w w1) (hm : jqM m = true) : JQ w1 := by
  unfold jqM at hm
  rw [Bool.and_eq_true] at hm
  exact ⟨h.1.aw a hm.1, h.2.aw a hm.2⟩
