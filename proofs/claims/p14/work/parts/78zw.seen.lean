/-! seen and run, on both sides -/
theorem qG.sw4 {sc : Option (Nat × (Nat → Int))} {d k pc n : Nat} {ls st : List qV} {w : qW} {Q : qV → qW → Nat → Prop} {x : Int} {a0 a1 a2 a3 : Option qC} {pc' n' : Nat} {ls' st' : List qV} {w' : qW} (h : qone sc k pc ls st w n = if x = 0 then a0 else if x = 1 then a1 else if x = 2 then a2 else if x = 3 then a3 else some (pc', ls', st', w', n')) (hx : x < 0 ∨ 3 < x) (g : qG sc d k pc' ls' st' w' n' Q) : qG sc d k pc ls st w n Q := by
  rw [if_neg (by omega), if_neg (by omega), if_neg (by omega), if_neg (by omega)] at h
  exact qG.one h g
theorem vwF_cg {w w1 : qW} (h96 : ∀ i, w1 96 i = w 96 i) (h97 : ∀ i, w1 97 i = w 97 i) (h98 : ∀ i, w1 98 i = w 98 i) (h100 : ∀ i, w1 100 i = w 100 i) (c : Nat) (K N : Nat → Int) (i : Nat) : vwF w1 c K N i = vwF w c K N i := seG_cg h96 h97 h98 h100 c _ _ _ 10
theorem asF_cg {w w1 : qW} (h96 : ∀ i, w1 96 i = w 96 i) (h97 : ∀ i, w1 97 i = w 97 i) (h98 : ∀ i, w1 98 i = w 98 i) (h100 : ∀ i, w1 100 i = w 100 i) (c : Nat) (K N : Nat → Int) : ∀ i, asF w1 c K N i = asF w c K N i
  | 0 => rfl
  | i + 1 => by
    show qor _ _ = qor _ _
    rw [asF_cg h96 h97 h98 h100 c K N i, vwF_cg h96 h97 h98 h100]
theorem siF_cg {w w1 : qW} (h96 : ∀ i, w1 96 i = w 96 i) (h97 : ∀ i, w1 97 i = w 97 i) (h98 : ∀ i, w1 98 i = w 98 i) (h100 : ∀ i, w1 100 i = w 100 i) (c : Nat) (K N : Nat → Int) (s : Nat) : ∀ i, siF w1 c K N i s = siF w c K N i s
  | 0 => rfl
  | i + 1 => by
    show (if _ then _ else _) = (if _ then _ else _)
    rw [siF_cg h96 h97 h98 h100 c K N s i, vwF_cg h96 h97 h98 h100]
/-- the rows that a show run reads -/
noncomputable def RRe (w w1 : qW) : Prop := ((∀ i, w1 96 i = w 96 i) ∧ (∀ i, w1 97 i = w 97 i) ∧ (∀ i, w1 98 i = w 98 i) ∧ ∀ i, w1 100 i = w 100 i) ∧ RwM w w1
noncomputable def rreM (m : List Nat) : Bool := [96, 97, 98, 100, 104, 105, 106].all (fun p => m.all (fun e => !Nat.beq (e % 1000) p))
theorem RRe.aw {m : List Nat} {w w1 : qW} (a : AW m w w1) (hm : rreM m = true) : RRe w w1 := by
  have r : ∀ p ∈ ([96, 97, 98, 100, 104, 105, 106] : List Nat), ∀ j, w1 p j = w p j := fun p hp j => a.a (show p < 1000 by (have q : ∀ p ∈ ([96, 97, 98, 100, 104, 105, 106] : List Nat), p < 1000 := by decide); exact q p hp) (List.all_eq_true.mp hm p hp) j
  exact ⟨⟨r 96 (by decide), r 97 (by decide), r 98 (by decide), r 100 (by decide)⟩, fun q => ⟨r 104 (by decide) q, r 105 (by decide) q, r 106 (by decide) q⟩⟩
theorem CHP.row {p c : Nat} {w w1 : qW} {K N : Nat → Int} {i : Nat} (hp : SHOWP p) (h : CHP p c w K N i w1) : w1 (p + 1) = w (p + 1) ∧ w1 (p + 2) = w (p + 2) ∧ w1 p 2 = w p 2 ∧ ∀ q j, q < 4 ∨ 24 ≤ q ∧ q < 79 → w1 q j = w q j := by
  obtain ⟨-, -, -, -, -, -, -, e⟩ := h
  unfold SHOWP at hp
  exact ⟨funext fun j => e _ j (by omega) (by omega), funext fun j => e _ j (by omega) (by omega), e p 2 (by omega) (by omega), fun q j hq => e q j (by omega) (by omega)⟩
/-- what holds between the calls of the rows of shows -/
noncomputable def JSh (n : Nat) (w : qW) : Prop := JP n w ∧ JM w ∧ JR w
noncomputable def jtM (m : List Nat) : Bool := jpM m && (jmM m && jrM m)
theorem JSh.up {n m : Nat} {w : qW} (h : JSh n w) (hm : n ≤ m) : JSh m w := ⟨h.1.up hm, h.2⟩
theorem JSh.aw {n : Nat} {m : List Nat} {w w1 : qW} (h : JSh n w) (a : AW m w w1) (hm : jtM m = true) : JSh n w1 := by
  unfold jtM at hm
  simp only [Bool.and_eq_true] at hm
  exact ⟨h.1.aw a hm.1, h.2.1.aw a hm.2.1, h.2.2.aw a hm.2.2⟩
noncomputable def jt2M (m : List Nat) : Bool := jmM m && jrM m
theorem JSh.aw2 {n : Nat} {m : List Nat} {w w1 : qW} (h : JSh n w) (a : AW m w w1) (hm : jt2M m = true) : JM w1 ∧ JR w1 := by
  unfold jt2M at hm
  simp only [Bool.and_eq_true] at hm
  exact ⟨h.2.1.aw a hm.1, h.2.2.aw a hm.2⟩
