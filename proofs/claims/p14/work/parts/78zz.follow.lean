/-! follow and hide -/
/-- behind g steps: how hiding stands -/
noncomputable def FLW (N : Nat) (P : Nat → Int) (M : Nat → Nat → Bool) (V : Nat → Int) (t S : Nat) (fl s2 : Int) (w1 : qW) : Prop := (fl = -1 ∧ 0 < N ∧ s2 = (t : Int) ∧ HOLD w1 27 (hz N P M V t) ∧ ¬ hzE (hz N P M V t)) ∨ (HOLD w1 27 (fun _ => false) ∧ ((N = 0 ∧ fl = 0) ∨ (0 < N ∧ ∃ f : Nat, f < S ∧ fl = (f : Int) ∧ ¬ hzE (hz N P M V f) ∧ hzE (hz N P M V (f + 1)))))
theorem ctb_hold {w : qW} {f : Nat → Bool} (h : HOLD w 27 f) : ctb (fun j => sb w 27 j) 192 = ctb f 192 := ctb_congr (fun i hi => h i hi)
theorem ctb_N {f : Nat → Bool} {N m : Nat} (hN : N ≤ m) (hf : ∀ j, ¬ j < N → f j = false) : ctb f m = ctb f N := by
  obtain ⟨k, rfl⟩ : ∃ k, m = N + k := ⟨m - N, by omega⟩
  rw [ctb_add, ctb_0.mpr (fun i _ => hf (N + i) (by omega)), Nat.add_zero]
theorem FLW.sp {N : Nat} {P : Nat → Int} {M : Nat → Nat → Bool} {V : Nat → Int} {S : Nat} {fl s2 : Int} {w1 : qW} (hN : N ≤ 180) (t : Nat) (ht : fl = -1 → t = S) (h : FLW N P M V t S fl s2 w1) : HSP N P M V S fl ((ctb (fun j => sb w1 27 j) 192 : Nat) : Int) := by
  rcases h with ⟨a, a2, -, b, c⟩ | ⟨b, ⟨c, d⟩ | ⟨c, f, d, e, g, g2⟩⟩
  · rw [ht a] at b c
    refine .inr ⟨a2, .inl ⟨a, ?_, c⟩⟩
    rw [ctb_hold b, ctb_N (show N ≤ 192 by omega) (fun j hj => hz_N hj)]
  · refine .inl ⟨c, d, ?_⟩
    rw [ctb_hold b, ctb_0.mpr (fun _ _ => rfl)]; rfl
  · refine .inr ⟨c, .inr ⟨f, d, e, ?_, g, g2⟩⟩
    rw [ctb_hold b, ctb_0.mpr (fun _ _ => rfl)]; rfl
theorem qand_z0 (x : Int) : qand x 0 = 0 := by
  have := qand_16 (a := x) (b := 0) ⟨Int.le_refl 0, by decide⟩
  rw [qand_c] at this ⊢
  have h := qand_hi (x := x) (y := 0) (d := 0) (Int.le_refl 0) (Int.le_refl 0) (by decide)
  have h1 : (0 : Int) ≤ qand x 0 := h.1
  have h2 : qand x 0 ≤ (0 : Int) := h.2
  rw [qand_c]; omega
