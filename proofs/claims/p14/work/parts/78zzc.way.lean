/-! way on both sides -/
theorem gzE {N : Nat} {P : Nat → Int} {M : Nat → Nat → Bool} {V : Nat → Int} {S : Nat} : hzE (gz N P M V S S) ↔ hzE (hz N P M V S) := by
  constructor
  · intro z
    by_cases q : hzE (hz N P M V S)
    · exact q
    · obtain ⟨i, -, hi⟩ := gz_hz.mpr q
      rw [z i] at hi; cases hi
  · intro z i
    cases hb : gz N P M V S S i with
    | false => rfl
    | true =>
      by_cases hi : i < N
      · exact absurd z (gz_hz.mp ⟨i, hi, hb⟩)
      · rw [gz_N hi] at hb; cases hb
theorem HSP.z {N : Nat} {P : Nat → Int} {M : Nat → Nat → Bool} {V : Nat → Int} {S : Nat} {fl cn : Int} (h : HSP N P M V S fl cn) : cn = 0 ↔ hzE (gz N P M V S S) := by
  rw [gzE]
  rcases h with ⟨a, -, b⟩ | ⟨a, ⟨-, b, c⟩ | ⟨f, a1, -, a3, -, a5⟩⟩
  · exact ⟨fun _ j => hz_N (by omega), fun _ => b⟩
  · have q := hz_c0 (N := N) (P := P) (M := M) (V := V) (t := S) (Nat.le_refl N)
    constructor
    · intro z; exact q.mp (by omega)
    · intro z; exact absurd z c
  · refine ⟨fun _ => ?_, fun _ => a3⟩
    have := hzE_u a5 (S - (f + 1))
    rw [show f + 1 + (S - (f + 1)) = S by omega] at this
    exact this
/-! the reference's way -/
