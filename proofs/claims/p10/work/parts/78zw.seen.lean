/-! seen and run, on both sides -/
/-- the rows that a show run reads -/
def RRe (w w1 : qW) : Prop := ((∀ i, w1 96 i = w 96 i) ∧ (∀ i, w1 97 i = w 97 i) ∧ (∀ i, w1 98 i = w 98 i) ∧ ∀ i, w1 100 i = w 100 i) ∧ RwM w w1
def rreM (m : List Nat) : Bool := [96, 97, 98, 100, 104, 105, 106].all (fun p => m.all (fun e => !Nat.beq (e % 1000) p))
theorem RRe.aw {m : List Nat} {w w1 : qW} (a : AW m w w1) (hm : rreM m = true) : RRe w w1 := by
  have r : ∀ p ∈ ([96, 97, 98, 100, 104, 105, 106] : List Nat), ∀ j, w1 p j = w p j := fun p hp j => a.a (show p < 1000 by (have q : ∀ p ∈ ([96, 97, 98, 100, 104, 105, 106] : List Nat), p < 1000 := by decide); exact q p hp) (List.all_eq_true.mp hm p hp) j
  exact ⟨⟨r 96 (by decide), r 97 (by decide), r 98 (by decide), r 100 (by decide)⟩, fun q => ⟨r 104 (by decide) q, r 105 (by decide) q, r 106 (by decide) q⟩⟩
theorem CHP.row {p c : Nat} {w w1 : qW} {K N : Nat → Int} {i : Nat} (hp : SHOWP p) (h : CHP p c w K N i w1) : w1 (p + 1) = w (p + 1) ∧ w1 (p + 2) = w (p + 2) ∧ w1 p 2 = w p 2 ∧ ∀ q j, q < 4 ∨ 24 ≤ q ∧ q < 79 → w1 q j = w q j := by
  obtain ⟨-, -, -, -, -, -, -, e⟩ := h
  unfold SHOWP at hp
  exact ⟨funext fun j => e _ j (by omega) (by omega), funext fun j => e _ j (by omega) (by omega), e p 2 (by omega) (by omega), fun q j hq => e q j (by omega) (by omega)⟩
/-- what holds between the calls of the rows of shows -/
def JSh (n : Nat) (w : qW) : Prop := JP n w ∧ JM w ∧ JR w
def jtM (m : List Nat) : Bool := jpM m && (jmM m && jrM m)
theorem JSh.up {n m : Nat} {w : qW} (h : JSh n w) (hm : n ≤ m) : JSh m w := ⟨h.1.up hm, h.2⟩
theorem JSh.aw {n : Nat} {m : List Nat} {w w1 : qW} (h : JSh n w) (a : AW m w w1) (hm : jtM m = true) : JSh n w1 := by
  unfold jtM at hm
  simp only [Bool.and_eq_true] at hm
  exact ⟨h.1.aw a hm.1, h.2.1.aw a hm.2.1, h.2.2.aw a hm.2.2⟩
def jt2M (m : List Nat) : Bool := jmM m && jrM m
theorem JSh.aw2 {n : Nat} {m : List Nat} {w w1 : qW} (h : JSh n w) (a : AW m w w1) (hm : jt2M m = true) : JM w1 ∧ JR w1 := by
  unfold jt2M at hm
  simp only [Bool.and_eq_true] at hm
  exact ⟨h.2.1.aw a hm.1, h.2.2.aw a hm.2⟩
