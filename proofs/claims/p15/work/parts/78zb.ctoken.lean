/-! one token of the class's -/
def wcP (w : qW) (l : List Int) (a b : Nat) (v : Int) : Prop := (∃ i, i ≤ l.length ∧ WM w l a b i ∧ v = 10000 + ((wkF l i : Nat) : Int)) ∨ ((∀ i, i ≤ l.length → ¬ WM w l a b i) ∧ v = -1)
/-- the token at a, its code, where it ends -/
def TKc (w : qW) (l l2 : List Int) (n a : Nat) (v : Int) (e : Nat) : Prop :=
  (letV (sgV w a) = 1 ∧ CL letV w n a e ∧ wcP w l a e v) ∨ (¬ letV (sgV w a) = 1 ∧ digV (sgV w a) = 1 ∧ CL digV w n a e ∧ v = if e - a ≤ 4 then nmF w a (e - a) else -1) ∨
  (¬ letV (sgV w a) = 1 ∧ ¬ digV (sgV w a) = 1 ∧ e = a + 1 ∧ v = if qix l2 (sgV w a) 0 < 0 then -1 else 20000 + sgV w a)
def adW (w : qW) (t : Nat) (v q : Int) : qW := qup (qup (qup w 10 t v) 11 t q) 8 4 ((t + 1 : Nat) : Int)
