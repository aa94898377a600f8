/-! order, told by rows of doors -/
/-- the steps of a row of doors: its candle, open, wait, shut -/
def kR (i : Nat) : Int := if i % 4 = 0 then 3 else if i % 4 = 1 then 0 else if i % 4 = 2 then 2 else 1
def nR (r : Nat → Nat) (W : Int) (i : Nat) : Int := if i % 4 = 2 then W else ((r (i / 4) : Nat) : Int)
def upR (r : Nat → Nat) (n j : Nat) : Nat → Nat := fun k => if k = n then j else r k
/-- he can stay unseen through the row -/
def okO (N : Nat) (P : Nat → Int) (M : Nat → Nat → Bool) (w : qW) (c : Nat) (W : Int) (n : Nat) (r : Nat → Nat) : Bool := !decide (ctb (hz N P M (fun t => siF w c kR (nR r W) (4 * n) t) (scF kR (nR r W) (4 * n))) N = 0)
def snO (w : qW) (c : Nat) (W : Int) (n : Nat) (r : Nat → Nat) : Int := asF w c kR (nR r W) (4 * n)
/-- what is kept: how many doors (-1: nothing), the spaces seen, the doors -/
abbrev oSt := Int × Int × (Nat → Int)
def kpO (ok : Nat → (Nat → Nat) → Bool) (sn : Nat → (Nat → Nat) → Int) (n : Nat) (r : Nat → Nat) (s : oSt) : oSt := if ok n r = true ∧ (s.1 = -1 ∨ bitsF s.2.1 16 < bitsF (sn n r) 16 ∨ (bitsF (sn n r) 16 = bitsF s.2.1 16 ∧ (n : Int) < s.1)) then ((n : Int), sn n r, fun k => ((r k : Nat) : Int)) else s
def flO (g : Nat → oSt → oSt) : Nat → oSt → oSt
  | 0, s => s
  | m + 1, s => g m (flO g m s)
def XPo (ok : Nat → (Nat → Nat) → Bool) (sn : Nat → (Nat → Nat) → Int) (D : Nat) : Nat → Nat → (Nat → Nat) → Nat → oSt → oSt
  | 0, n, r, _, s => kpO ok sn n r s
  | f + 1, n, r, U, s => flO (fun j s => if (trX D U).testBit j = true then XPo ok sn D f (n + 1) (upR r n j) (U ||| 2 ^ j) s else s) 10 (kpO ok sn n r s)
/-- what order keeps, and what it answers -/
def odS (w : qW) (c D : Nat) (W : Int) (s : Nat) : oSt := XPo (okO (pzN w c s) (pzP w c s) (pzM w c s) w c W) (snO w c W) D 4 0 (fun _ => 0) 0 (-1, 0, fun _ => 0)
def odA (s : oSt) (v : Int) : Int := if s.1 = -1 then -1 else if v < 0 then -1 else if v = 0 then bitsF s.2.1 16 else if v = 1 then s.1 else if v - 2 < s.1 then s.2.2 (v - 2).toNat else -1
def odB (c D W s : Int) : Prop := isInV c 0 2 = 0 ∨ isInV D 0 1023 = 0 ∨ 4 < bitsF D 16 ∨ isInV W 1 5 = 0 ∨ isInV s 1 4 = 0
def ORT (w : qW) (c D W s v x : Int) : Prop := (odB c D W s ∧ x = -1) ∨ (¬ odB c D W s ∧ x = odA (odS w c.toNat D.toNat W s.toNat) v)
theorem ORT.uniq {w : qW} {c D W s v x y : Int} (h : ORT w c D W s v x) (h2 : ORT w c D W s v y) : x = y := by
  rcases h with ⟨a, b⟩ | ⟨a, b⟩
  · rcases h2 with ⟨-, b2⟩ | ⟨a2, -⟩
    · rw [b, b2]
    · exact absurd a a2
  · rcases h2 with ⟨a2, -⟩ | ⟨-, b2⟩
    · exact absurd a2 a
    · rw [b, b2]
theorem odS_cg {w w1 : qW} (h : RRh w w1) (c D : Nat) (W : Int) (s : Nat) : odS w1 c D W s = odS w c D W s := by
  obtain ⟨⟨⟨h96, h97, h98, h100⟩, -⟩, h99⟩ := h
  obtain ⟨e1, e2, e3⟩ := pz_cg h96 h99 c s
  have e4 : snO w1 c W = snO w c W := funext fun n => funext fun r => asF_cg h96 h97 h98 h100 c _ _ _
  have e5 : ∀ N P M, okO N P M w1 c W = okO N P M w c W := fun N P M => funext fun n => funext fun r => by
    unfold okO
    rw [show (fun t => siF w1 c kR (nR r W) (4 * n) t) = (fun t => siF w c kR (nR r W) (4 * n) t) from funext fun t => siF_cg h96 h97 h98 h100 c _ _ t _]
  unfold odS
  rw [e1, e2, e3, e4, e5]
theorem ORT.cg {w w1 : qW} (h : RRh w w1) {c D W s v x : Int} (hd : ORT w1 c D W s v x) : ORT w c D W s v x := by
  rcases hd with q | ⟨a, e⟩
  · exact .inl q
  · rw [odS_cg h] at e
    exact .inr ⟨a, e⟩
