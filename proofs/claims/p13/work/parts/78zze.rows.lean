/-! order: the class's rows of doors -/
/-- the class holds s as what it kept -/
def OCs (w : qW) (s : oSt) : Prop := w 23 13 = s.1 ∧ w 23 14 = s.2.1 ∧ ∀ k : Nat, (k : Int) < s.1 → w 39 k = s.2.2 k
theorem OCs.cg {w w1 : qW} {s : oSt} (h : OCs w s) (e1 : w1 23 13 = w 23 13) (e2 : w1 23 14 = w 23 14) (e3 : ∀ k, w1 39 k = w 39 k) : OCs w1 s := ⟨e1.trans h.1, e2.trans h.2.1, fun k hk => (e3 k).trans (h.2.2 k hk)⟩
/-- what the class's rows stand on: the table of poses, the set of doors, the wait, the doors' views -/
def OW (N : Nat) (P : Nat → Int) (M : Nat → Nat → Bool) (D W : Nat) (fv : Nat → Int) (w : qW) : Prop := CTB N P M w ∧ w 23 7 = (D : Int) ∧ w 23 8 = (W : Int) ∧ ∀ j, j < 10 → w 31 j = fv j
/-- what tryRows leaves from the row n on -/
def OFR (n : Nat) (w w1 : qW) : Prop := ∀ q j, ¬ (27 ≤ q ∧ q ≤ 29) → ¬ (34 + n < q ∧ q ≤ 38) → q ≠ 39 → ¬ (q = 32 ∧ n ≤ j) → ¬ (q = 23 ∧ 13 ≤ j ∧ j ≤ 14) → w1 q j = w q j
theorem OFR.tr {n m : Nat} {w w1 w2 : qW} (h : OFR n w w1) (h2 : OFR m w1 w2) (hm : n ≤ m) : OFR n w w2 := fun q j a b c d e => (h2 q j a (by omega) c (by omega) e).trans (h q j a b c d e)
theorem OW.cg {N : Nat} {P : Nat → Int} {M : Nat → Nat → Bool} {D W : Nat} {fv : Nat → Int} {n : Nat} {w w1 : qW} (h : OW N P M D W fv w) (e : OFR n w w1) : OW N P M D W fv w1 := ⟨h.1.cg (fun q j hq => e q j (by omega) (by omega) (by omega) (by omega) (by omega)), (e 23 7 (by omega) (by omega) (by omega) (by omega) (by omega)).trans h.2.1, (e 23 8 (by omega) (by omega) (by omega) (by omega) (by omega)).trans h.2.2.1, fun j hj => (e 31 j (by omega) (by omega) (by omega) (by omega) (by omega)).trans (h.2.2.2 j hj)⟩
theorem OFR.hold {n m : Nat} {w w1 : qW} {f : Nat → Bool} (e : OFR n w w1) (hm : m ≤ n) (hm4 : m ≤ 4) (h : HOLD w (34 + m) f) : HOLD w1 (34 + m) f := fun j hj => by
  rw [show sb w1 (34 + m) j = sb w (34 + m) j from by unfold sb; rw [e (34 + m) _ (by omega) (by omega) (by omega) (by omega) (by omega)]]
  exact h j hj
