/-! to show what a plain run comes to -/
noncomputable def qLe (X Y : qXt) : Prop := ∀ sc d k pc ls st w n r, X sc d k pc ls st w n = some r → Y sc d k pc ls st w n = some r
theorem qgo_le {X Y : qXt} (h : qLe X Y) {sc : Option (Nat × (Nat → Int))} {d k : Nat} {o : Option qC} {r : qV × qW × Nat} (hx : qgo X sc d k o = some r) : qgo Y sc d k o = some r := by
  unfold qgo at hx ⊢
  split at hx
  · exact h _ _ _ _ _ _ _ _ _ hx
  · cases hx
theorem qcl1_le {X Y : qXt} (h : qLe X Y) {sc : Option (Nat × (Nat → Int))} {d k t na sk md pc n : Nat} {ls st : List qV} {w : qW} {r : qV × qW × Nat} (hx : qcl1 X sc d k t na sk md pc ls st w n = some r) : qcl1 Y sc d k t na sk md pc ls st w n = some r := by
  unfold qcl1 at hx ⊢
  split at hx
  · cases hx
  · split at hx
    · rename_i hc
      rw [if_pos hc]
      split at hx
      · rename_i v w' n' h1
        rw [h _ _ _ _ _ _ _ _ _ h1]
        exact h _ _ _ _ _ _ _ _ _ hx
      · cases hx
    · cases hx
theorem qinv_le {X Y : qXt} (h : qLe X Y) {sc : Option (Nat × (Nat → Int))} {d k i md pc n : Nat} {ls st : List qV} {w : qW} {r : qV × qW × Nat} (hx : qinv X sc d k i md pc ls st w n = some r) : qinv Y sc d k i md pc ls st w n = some r := by
  unfold qinv at hx ⊢
  split at hx
  · rename_i t na sk hq
    by_cases c0 : t = 900
    · rw [if_pos c0] at hx ⊢
      split at hx
      · split at hx
        · rename_i hc
          rw [if_pos hc]
          exact h _ _ _ _ _ _ _ _ _ hx
        · cases hx
      · cases hx
    · rw [if_neg c0] at hx ⊢
      by_cases c1 : t = 901
      · rw [if_pos c1] at hx ⊢
        split at hx
        · rename_i hc
          rw [if_pos hc]; exact qgo_le h hx
        · cases hx
      · rw [if_neg c1] at hx ⊢
        by_cases c2 : Nat.ble 902 t = true
        · rw [if_pos c2] at hx ⊢
          split at hx
          · rename_i hc
            rw [if_pos hc]; exact qgo_le h hx
          · cases hx
        · rw [if_neg c2] at hx ⊢
          exact qcl1_le h hx
  · cases hx
theorem qst1_le {X Y : qXt} (h : qLe X Y) {sc : Option (Nat × (Nat → Int))} {d k len pc n : Nat} {ins : Instr} {ls st : List qV} {w : qW} {r : qV × qW × Nat} (hx : qst1 X sc d k ins len pc ls st w n = some r) : qst1 Y sc d k ins len pc ls st w n = some r := by
  unfold qst1 at hx ⊢
  split at hx
  · exact hx
  · exact hx
  · exact qinv_le h hx
  · exact qinv_le h hx
  · exact qinv_le h hx
  · exact qgo_le h hx
theorem qex_s {f : Nat} {sc : Option (Nat × (Nat → Int))} {d k pc : Nat} {ls st : List qV} {w : qW} {n : Nat} : qex (f + 1) sc d k pc ls st w n = (match qcd k pc with
    | some (ins, len) => qst1 (qex f) sc d k ins len pc ls st w n
    | none => none) := rfl
theorem qex_le1 : ∀ f, qLe (qex f) (qex (f + 1))
  | 0 => fun sc d k pc ls st w n r h => by
    have h : (none : qR) = some r := h
    cases h
  | f + 1 => fun sc d k pc ls st w n r h => by
    rw [qex_s] at h
    rw [qex_s]
    split at h
    · exact qst1_le (qex_le1 f) h
    · cases h
theorem qex_le {f g : Nat} (h : f ≤ g) : qLe (qex f) (qex g) := by
  induction h with
  | refl => exact fun _ _ _ _ _ _ _ _ _ h => h
  | step _ ih => exact fun _ _ _ _ _ _ _ _ _ h => qex_le1 _ _ _ _ _ _ _ _ _ _ (ih _ _ _ _ _ _ _ _ _ h)
/-- method k, from this state on, comes to an end of which Q holds -/
noncomputable def qG (sc : Option (Nat × (Nat → Int))) (d k pc : Nat) (ls st : List qV) (w : qW) (n : Nat) (Q : qV → qW → Nat → Prop) : Prop := ∃ f v w' n', qex f sc d k pc ls st w n = some (v, w', n') ∧ Q v w' n'
noncomputable def qone (sc : Option (Nat × (Nat → Int))) (k pc : Nat) (ls st : List qV) (w : qW) (n : Nat) : Option qC := match qcd k pc with
  | some (ins, len) => qs1 sc k ins len pc ls st w n
  | none => none
noncomputable def qbk (sc : Option (Nat × (Nat → Int))) (k : Nat) : Nat → Nat → List qV → List qV → qW → Nat → Option qC
  | 0, pc, ls, st, w, n => some (pc, ls, st, w, n)
  | j + 1, pc, ls, st, w, n => match qone sc k pc ls st w n with
    | some (pc', ls', st', w', n') => qbk sc k j pc' ls' st' w' n'
    | none => none
theorem qst1_one {X : qXt} {sc : Option (Nat × (Nat → Int))} {d k len pc n : Nat} {ins : Instr} {ls st : List qV} {w : qW} {c : qC} (h : qs1 sc k ins len pc ls st w n = some c) : qst1 X sc d k ins len pc ls st w n = qgo X sc d k (some c) := by
  rw [← h]
  cases ins <;> first | rfl | (exfalso; have h : (none : Option qC) = some c := h; cases h)
section QG
variable {sc : Option (Nat × (Nat → Int))} {d k pc n : Nat} {ls st : List qV} {w : qW} {Q : qV → qW → Nat → Prop}
theorem qG.mono {Q' : qV → qW → Nat → Prop} (h : qG sc d k pc ls st w n Q) (hq : ∀ v w' n', Q v w' n' → Q' v w' n') : qG sc d k pc ls st w n Q' := by
  obtain ⟨f, v, w', n', h1, h2⟩ := h
  exact ⟨f, v, w', n', h1, hq _ _ _ h2⟩
theorem qG.one {pc' n' : Nat} {ls' st' : List qV} {w' : qW} (h : qone sc k pc ls st w n = some (pc', ls', st', w', n')) (g : qG sc d k pc' ls' st' w' n' Q) : qG sc d k pc ls st w n Q := by
  obtain ⟨f, v, w1, n1, h1, h2⟩ := g
  refine ⟨f + 1, v, w1, n1, ?_, h2⟩
  rw [qex_s]
  unfold qone at h
  split at h
  · rename_i ins len hq
    rw [qst1_one h]
    exact h1
  · cases h
theorem qG.blk : ∀ (j : Nat) {pc pc' n n' : Nat} {ls st ls' st' : List qV} {w w' : qW}, qbk sc k j pc ls st w n = some (pc', ls', st', w', n') → qG sc d k pc' ls' st' w' n' Q → qG sc d k pc ls st w n Q
  | 0, pc, pc', n, n', ls, st, ls', st', w, w', h, g => by
    have h : some (pc, ls, st, w, n) = some (pc', ls', st', w', n') := h
    cases h; exact g
  | j + 1, pc, pc', n, n', ls, st, ls', st', w, w', h, g => by
    have h : (match qone sc k pc ls st w n with
      | some (pc', ls', st', w', n') => qbk sc k j pc' ls' st' w' n'
      | none => none) = some (pc', ls', st', w', n') := h
    split at h
    · rename_i h1
      exact qG.one h1 (qG.blk j h g)
    · cases h
theorem qG.ite {P : Prop} [Decidable P] {a b : qC} (h : qone sc k pc ls st w n = if P then some a else some b) (hp : P → qG sc d k a.1 a.2.1 a.2.2.1 a.2.2.2.1 a.2.2.2.2 Q) (hn : ¬ P → qG sc d k b.1 b.2.1 b.2.2.1 b.2.2.2.1 b.2.2.2.2 Q) : qG sc d k pc ls st w n Q := by
  by_cases hP : P
  · rw [if_pos hP] at h; exact qG.one h (hp hP)
  · rw [if_neg hP] at h; exact qG.one h (hn hP)
/-- an instruction with a guard -/
theorem qG.gd {P : Prop} [Decidable P] {pc' n' : Nat} {ls' st' : List qV} {w' : qW} (h : qone sc k pc ls st w n = if P then some (pc', ls', st', w', n') else none) (hp : P) (g : qG sc d k pc' ls' st' w' n' Q) : qG sc d k pc ls st w n Q := by
  rw [if_pos hp] at h; exact qG.one h g
/-- a division -/
theorem qG.gn {P : Prop} [Decidable P] {pc' n' : Nat} {ls' st' : List qV} {w' : qW} (h : qone sc k pc ls st w n = if P then none else some (pc', ls', st', w', n')) (hp : ¬ P) (g : qG sc d k pc' ls' st' w' n' Q) : qG sc d k pc ls st w n Q := by
  rw [if_neg hp] at h; exact qG.one h g
/-- an array's place -/
theorem qG.ar {P P2 : Prop} [Decidable P] [Decidable P2] {pc' n' : Nat} {ls' st' : List qV} {w' : qW} (h : qone sc k pc ls st w n = if P then (if P2 then some (pc', ls', st', w', n') else none) else none) (hp : P) (hp2 : P2) (g : qG sc d k pc' ls' st' w' n' Q) : qG sc d k pc ls st w n Q := by
  rw [if_pos hp, if_pos hp2] at h; exact qG.one h g
theorem qG.ret {x : Int} (h : qcd k pc = some (.ireturn, 1)) (hok : qrok (qrt k) (0, x) = true) (hq : Q (0, x) w n) : qG sc d k pc ls [(0, x)] w n Q := by
  refine ⟨1, (0, x), w, n, ?_, hq⟩
  rw [qex_s, h]
  show (if qrok (qrt k) (0, x) = true then some ((0, x), w, n) else none) = _
  rw [if_pos hok]
theorem qG.retv (h : qcd k pc = some (.return_, 1)) (hok : Nat.beq (qrt k) 0 = true) (hq : Q (9, 0) w n) : qG sc d k pc ls [] w n Q := by
  refine ⟨1, (9, 0), w, n, ?_, hq⟩
  rw [qex_s, h]
  show (if Nat.beq (qrt k) 0 = true then some ((9, 0), w, n) else none) = _
  rw [if_pos hok]
/-- the call that stands at a place: method, arguments, kind, way -/
noncomputable def qcq (k pc : Nat) : Option (Nat × Nat × Nat × Nat) := match qcd k pc with
  | some (.invokestatic i, _) => (qmd (qow k) i).map (fun x => (x.1, x.2.1, x.2.2, 0))
  | some (.invokevirtual i, _) => (qmd (qow k) i).map (fun x => (x.1, x.2.1, x.2.2, 1))
  | some (.invokespecial i, _) => (qmd (qow k) i).map (fun x => (x.1, x.2.1, x.2.2, 2))
  | _ => none
noncomputable def qcok (t na sk md n : Nat) (st : List qV) : Bool := Nat.ble na st.length && Nat.ble (qcat (qdr na st)) 8 && qaok t sk n (qtk na st []) && Nat.ble (qlay (qtk na st [])).length (qml t) && qmok md sk t
theorem qcq_inv {X : qXt} {t na sk md : Nat} (h : qcq k pc = some (t, na, sk, md)) : ∃ i ins len, qcd k pc = some (ins, len) ∧ qmd (qow k) i = some (t, na, sk) ∧ ∀ X sc d ls st w n, qst1 X sc d k ins len pc ls st w n = qinv X sc d k i md pc ls st w n := by
  unfold qcq at h
  split at h
  · rename_i i len hq
    obtain ⟨x, h1, h2⟩ := Option.map_eq_some_iff.mp h
    cases h2
    exact ⟨i, _, len, hq, h1, fun _ _ _ _ _ _ _ => rfl⟩
  · rename_i i len hq
    obtain ⟨x, h1, h2⟩ := Option.map_eq_some_iff.mp h
    cases h2
    exact ⟨i, _, len, hq, h1, fun _ _ _ _ _ _ _ => rfl⟩
  · rename_i i len hq
    obtain ⟨x, h1, h2⟩ := Option.map_eq_some_iff.mp h
    cases h2
    exact ⟨i, _, len, hq, h1, fun _ _ _ _ _ _ _ => rfl⟩
  · cases h
/-- a call -/
theorem qG.call {t na sk md : Nat} {ls1 r1 : List qV} {Q1 : qV → qW → Nat → Prop} (hq : qcq k pc = some (t, na, sk, md)) (ht : Nat.ble 900 t = false) (hok : qcok t na sk md n st = true) (hl : qini t (qtk na st []) = ls1) (hr : qdr na st = r1) (hc : qG none d t 0 ls1 [] w n Q1)
    (hk : ∀ v w' n', Q1 v w' n' → qG sc (d + 1) k (pc + 3) ls (qpsh v r1) w' n' Q) : qG sc (d + 1) k pc ls st w n Q := by
  subst hl
  subst hr
  obtain ⟨f1, v1, w1, n1, h1, h2⟩ := hc
  obtain ⟨f2, v2, w2, n2, h3, h4⟩ := hk _ _ _ h2
  obtain ⟨i, ins, len, e1, e2, e3⟩ := qcq_inv (X := qex 0) hq
  have ht9 : ¬ 900 ≤ t := fun z => by rw [Nat.ble_eq_true_of_le z] at ht; cases ht
  refine ⟨f1 + f2 + 1, v2, w2, n2, ?_, h4⟩
  rw [qex_s, e1]
  show qst1 (qex (f1 + f2)) sc (d + 1) k ins len pc ls st w n = _
  rw [e3]
  unfold qinv
  rw [e2]
  show (if t = 900 then _ else if t = 901 then _ else if Nat.ble 902 t = true then _ else qcl1 (qex (f1 + f2)) sc (d + 1) k t na sk md pc ls st w n) = _
  rw [if_neg (by omega), if_neg (by omega), if_neg (fun z => ht9 (by have := Nat.le_of_ble_eq_true z; omega))]
  unfold qcl1
  show (if qcok t na sk md n st = true then _ else none) = _
  rw [if_pos hok, qex_le (Nat.le_add_right f1 f2) _ _ _ _ _ _ _ _ _ h1]
  exact qex_le (Nat.le_add_left f2 f1) _ _ _ _ _ _ _ _ _ h3
/-- Object.<init>, copying, Math -/
theorem qG.oin {na sk : Nat} {x : Int} {r : List qV} (hq : qcq k pc = some (900, na, sk, 2)) (h8 : Nat.ble (qcat r) 8 = true) (hx : 0 < x) (g : qG sc (d + 1) k (pc + 3) ls r w n Q) : qG sc (d + 1) k pc ls ((2, x) :: r) w n Q := by
  obtain ⟨f, v, w1, n1, h1, h2⟩ := g
  obtain ⟨i, ins, len, e1, e2, e3⟩ := qcq_inv (X := qex 0) hq
  refine ⟨f + 1, v, w1, n1, ?_, h2⟩
  rw [qex_s, e1]
  show qst1 (qex f) sc (d + 1) k ins len pc ls ((2, x) :: r) w n = _
  rw [e3]
  unfold qinv
  rw [e2]
  show (if Nat.ble 1 (d + 1) && Nat.ble (qcat r) 8 && decide (0 < x) then qex f sc (d + 1) k (pc + 3) ls r w n else none) = _
  rw [h8, decide_eq_true hx]
  exact h1
theorem qG.mth {t na sk md pc' n' : Nat} {ls' st' : List qV} {w' : qW} (hq : qcq k pc = some (t, na, sk, md)) (ht : Nat.ble 902 t = true) (hm : qmm t md (d + 1) = true) (h8 : Nat.ble (qcat (qdr na st)) 8 = true) (h : qmt t pc ls st w n = some (pc', ls', st', w', n')) (g : qG sc (d + 1) k pc' ls' st' w' n' Q) : qG sc (d + 1) k pc ls st w n Q := by
  obtain ⟨f, v, w1, n1, h1, h2⟩ := g
  obtain ⟨i, ins, len, e1, e2, e3⟩ := qcq_inv (X := qex 0) hq
  have ht9 := Nat.le_of_ble_eq_true ht
  refine ⟨f + 1, v, w1, n1, ?_, h2⟩
  rw [qex_s, e1]
  show qst1 (qex f) sc (d + 1) k ins len pc ls st w n = _
  rw [e3]
  unfold qinv
  rw [e2]
  show (if t = 900 then _ else if t = 901 then _ else if Nat.ble 902 t = true then (if qmm t md (d + 1) && Nat.ble (qcat (qdr na st)) 8 then qgo (qex f) sc (d + 1) k (qmt t pc ls st w n) else none) else _) = _
  rw [if_neg (by omega), if_neg (by omega), if_pos ht, hm, h8, h]
  exact h1
theorem qG.cpy {na sk pc' n' : Nat} {P : Prop} [Decidable P] {ls' st' : List qV} {w' : qW} (hq : qcq k pc = some (901, na, sk, 0)) (h8 : Nat.ble (qcat (qdr 5 st)) 8 = true) (h : qac pc ls st w n = if P then some (pc', ls', st', w', n') else none) (hp : P) (g : qG sc (d + 1) k pc' ls' st' w' n' Q) : qG sc (d + 1) k pc ls st w n Q := by
  rw [if_pos hp] at h
  obtain ⟨f, v, w1, n1, h1, h2⟩ := g
  obtain ⟨i, ins, len, e1, e2, e3⟩ := qcq_inv (X := qex 0) hq
  refine ⟨f + 1, v, w1, n1, ?_, h2⟩
  rw [qex_s, e1]
  show qst1 (qex f) sc (d + 1) k ins len pc ls st w n = _
  rw [e3]
  unfold qinv
  rw [e2]
  show (if Nat.beq 0 0 && Nat.ble 1 (d + 1) && Nat.ble (qcat (qdr 5 st)) 8 then qgo (qex f) sc (d + 1) k (qac pc ls st w n) else none) = _
  rw [h8, h]
  exact h1
end QG
