/-! the class's words, exactly -/
abbrev EW (l : List Int) (i : Nat) : Prop := i = l.length ∨ l.getD i 0 = 32
def wkF (l : List Int) : Nat → Nat
  | 0 => 0
  | i + 1 => if EW l i then wkF l i + 1 else wkF l i
def wsF (l : List Int) : Nat → Nat
  | 0 => 0
  | i + 1 => if EW l i then i + 1 else wsF l i
/-- the word of the text that ends at i is the tape's from a to b -/
def WM (w : qW) (l : List Int) (a b i : Nat) : Prop := EW l i ∧ i - wsF l i = b - a ∧ ∀ j, j < i - wsF l i → l.getD (wsF l i + j) 0 = w 9 (a + j)
