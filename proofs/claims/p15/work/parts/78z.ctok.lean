/-! the class's signs, exactly -/
def sgV (w : qW) (k : Nat) : Int := if (k : Int) < w 8 1 then w 9 k % 256 else 0
theorem sgV_in (w : qW) (k : Nat) : 0 ≤ sgV w k ∧ sgV w k ≤ 255 := by unfold sgV; split <;> omega
def CL (V : Int → Int) (w : qW) (n a e : Nat) : Prop := a ≤ e ∧ e ≤ n ∧ (∀ j, a ≤ j → j < e → V (sgV w j) = 1) ∧ ¬ V (sgV w e) = 1
def nmF (w : qW) (a : Nat) : Nat → Int
  | 0 => 0
  | n + 1 => 10 * nmF w a n + sgV w (a + n) - 48
theorem nm_in {w : qW} {a b : Nat} (h : ∀ j, a ≤ j → j < b → digV (sgV w j) = 1) : ∀ n, n ≤ 4 → a + n ≤ b → 0 ≤ nmF w a n ∧ nmF w a n ≤ 9999 ∧ (n = 0 → nmF w a n ≤ 0) ∧ (n = 1 → nmF w a n ≤ 9) ∧ (n = 2 → nmF w a n ≤ 99) ∧ (n = 3 → nmF w a n ≤ 999)
  | 0, _, _ => ⟨Int.le_refl 0, by show (0 : Int) ≤ _; decide, fun _ => Int.le_refl 0, fun z => by omega, fun z => by omega, fun z => by omega⟩
  | n + 1, h4, hn => by
    obtain ⟨h1, h2, h3, h4', h5, h6⟩ := nm_in h n (by omega) (by omega)
    have hd := digV_1.mp (h (a + n) (by omega) (by omega))
    unfold nmF
    refine ⟨by omega, ?_, fun z => by omega, fun z => ?_, fun z => ?_, fun z => ?_⟩
    · rcases (show n = 0 ∨ n = 1 ∨ n = 2 ∨ n = 3 by omega) with e | e | e | e
      · have := h3 e; omega
      · have := h4' e; omega
      · have := h5 e; omega
      · have := h6 e; omega
    · have := h3 (by omega); omega
    · have := h4' (by omega); omega
    · have := h5 (by omega); omega
