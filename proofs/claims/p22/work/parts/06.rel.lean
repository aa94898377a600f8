/-! the world of plain numbers over the machine's heap -/
noncomputable def qrf (ad : Nat → Nat) (x : Int) : Option Nat := if x = 0 then none else some (ad x.toNat)
noncomputable def qcv (ad sa : Nat → Nat) (v : qV) : Value := match v with
  | (0, x) => .int (Int32.ofInt x)
  | (1, x) => .long (Int64.ofInt x)
  | (2, x) => va_rf (qrf ad x)
  | (_, x) => .ref (sa x.toNat)
noncomputable def qrx (kd n : Nat) (x : Int) : Prop := match kd with
  | 1 => qi64 x
  | 2 => 0 ≤ x ∧ x ≤ n
  | _ => qi32 x
noncomputable def qrg (n : Nat) (v : qV) : Prop := v.1 < 3 → qrx v.1 n v.2
noncomputable def qfv (ad : Nat → Nat) (kd : Nat) (x : Int) : Value := match kd with
  | 1 => .long (Int64.ofInt x)
  | 2 => va_rf (qrf ad x)
  | _ => .int (Int32.ofInt x)
noncomputable def qca (ad : Nat → Nat) (e : Nat) (f : Nat → Int) : (Nat → Int32) ⊕ (Nat → Int64) ⊕ (Nat → UInt32) ⊕ (Nat → UInt64) ⊕ (Nat → Option Nat) := match e with
  | 1 => .inr (.inl (fun j => Int64.ofInt (f j)))
  | 2 => .inr (.inr (.inr (.inr (fun j => qrf ad (f j)))))
  | _ => .inl (fun j => Int32.ofInt (f j))
noncomputable def qce (ad : Nat → Nat) (ac : Nat → ClassId) (w : qW) (p : Nat) : va_E := match qpl p with
  | (0, c, m, _) => .inr (c, (List.range m).map (fun j => qfv ad (qfk c j) (w p j)))
  | (_, e, m, _) => .inl (ac p, m, qca ad e (w p))
noncomputable def qws (ad : Nat → Nat) (ac : Nat → ClassId) (w : qW) (n : Nat) : va_W := (List.range n).map (fun i => (ad (i + 1), qce ad ac w (i + 1)))
/-- what a slot of a cell holds -/
noncomputable def qkd (p j : Nat) : Nat := match qpl p with
  | (0, c, _, _) => qfk c j
  | (_, e, _, _) => e
noncomputable def qet (e c : Nat) : FieldType := match e with
  | 0 => .int
  | 1 => .long
  | 3 => .boolean
  | 4 => .byte
  | _ => if c = 99 then .array .long else .object (qcn c)
noncomputable def qSz (n : Nat) : Nat := ((List.range n).map (fun i => (qpl (i + 1)).2.2.1)).sum
noncomputable def qWr (D : va_G) (A : Nat → Prop) (s : State) (H : Heap) (ad : Nat → Nat) (ac : Nat → ClassId) (w : qW) (n : Nat) : Prop :=
  va_P D vwCl (qws ad ac w n) H ∧ va_D A (qws ad ac w n) ∧ va_K D vwCl [] s ∧ (∀ p e m c, 0 < p → p ≤ n → qpl p = (1, e, m, c) → va_K D vwCl [(ac p, qet e c)] s) ∧ ∀ p, 0 < p → p ≤ n → ∀ j, j < (qpl p).2.2.1 → qrx (qkd p j) n (w p j)
noncomputable def qLr (ad sa : Nat → Nat) (n : Nat) (ls : List qV) (arr : Array Slot) : Prop :=
  lv_has arr ls.length [] ∧ (∀ i, (qnt ls i).1 < 4 → arr[i]? = some (.val (qcv ad sa (qnt ls i)))) ∧ ∀ i, qrg n (qnt ls i)
noncomputable def qSr (n : Nat) (st : List qV) : Prop := ∀ v ∈ st, v.1 < 4 ∧ qrg n v
noncomputable def qRel (D : va_G) (A : Nat → Prop) (s : State) (H0 : Heap) (sa : Nat → Nat) (k : Nat) (ls st : List qV) (w : qW) (n : Nat) (ad : Nat → Nat) (ac : Nat → ClassId) (arr : Array Slot) (H : Heap) (locs : List Loc) : Prop :=
  qWr D A s H ad ac w n ∧ qLr ad sa n ls arr ∧ ls.length = qml k ∧ qSr n st ∧ va_S A H0 H locs
-- the words of the tables that hold all along
noncomputable def qAL : List Cond := lw_tbl.filter goodWord
/-- what the tables say beside their steady words: the texts' addresses, arrays over classes, nest mates -/
noncomputable def qSt (sa : Nat → Nat) (s : State) : Prop := (∀ (i : Nat) (x : String × Nat × String), qtx[i]? = some x → vk_R x.1 x.2.1 x.2.2 (sa (i + 1)) s) ∧ (∀ ty ∈ [FieldType.object (qcn 2), .object (qcn 7), .array .long], (Cond.arrayOver ty).before #[] s = true) ∧ ∀ (o i t na : Nat), qmd o i = some (t, na, 2) → va_Nw (.methodLinkNest (qcn o) i (qnm t) RX11) s
theorem qSt.warm {sa : Nat → Nat} {s U : State} (hW : s.WarmedH U.vm) (h : qSt sa s) : qSt sa U := by
  refine ⟨fun i x hx => (h.1 i x hx).warm hW, fun ty hty => ?_, fun o i t na hq => va_Nw.warmM hW (h.2.2 o i t na hq)⟩
  have e : (Cond.arrayOver ty).before #[] U = (Cond.arrayOver ty).before #[] (s.setVm U.vm) := by
    first | rfl | (simp only [Cond.before, Cond.holds, Cond.value, State.vm_setVm]; rfl)
  rw [e, Cond.arrayOver_setVmC hW.alike]
  exact h.2.1 ty hty
theorem qSt.same {sa : Nat → Nat} {s U : State} (hv : U.vm = s.vm) (h : qSt sa s) : qSt sa U := qSt.warm (by rw [hv]; exact State.WarmedH.refl s) h
noncomputable def qSc (sc : Option (Nat × (Nat → Int))) (sa : Nat → Nat) (A : Nat → Prop) (H0 : Heap) (s : State) : Prop := ∀ L xs, sc = some (L, xs) → va_X (sa 0) L (fun j => Int32.ofInt (xs j)) s H0 ∧ sa 0 < H0.size ∧ ¬ A (sa 0) ∧ L < 2147483648 ∧ ∀ j, qi32 (xs j)
/-- a text at an address: object, bytes; the statics that String wants -/
noncomputable def jq_T (a v L : Nat) (f : Nat → Int32) (A : Nat → Prop) (U : State) (H : Heap) : Prop := va_O "java/lang/String" a A U H ∧ va_OF "java/lang/String" "coder" "B" (.int 0) a A U H ∧ va_OF "java/lang/String" "value" "[B" (.ref v) a A U H ∧ va_T .byte v L (fun j => .int (f j)) A U H
noncomputable def jq_Z (A : Nat → Prop) (U : State) (H : Heap) : Prop := va_Z "java/lang/String" "COMPACT_STRINGS" "Z" (.int 1) A U H ∧ ((∃ r : Nat, va_Z "jdk/internal/util/Preconditions" "SIOOBE_FORMATTER" "Ljava/util/function/BiFunction;" (.ref r) A U H) ∨ va_Z "jdk/internal/util/Preconditions" "SIOOBE_FORMATTER" "Ljava/util/function/BiFunction;" .null A U H)
theorem jq_T.moved {a v L : Nat} {f : Nat → Int32} {A : Nat → Prop} {u U : State} {H : Heap} (hvm : u.vm.Alike U.vm) (h : jq_T a v L f A u H) : jq_T a v L f A U H := ⟨h.1.moved hvm, h.2.1.moved hvm, h.2.2.1.moved hvm, h.2.2.2.moved hvm⟩
theorem jq_Z.moved {A : Nat → Prop} {u U : State} {H : Heap} (hvm : u.vm.Alike U.vm) (h : jq_Z A u H) : jq_Z A U H := ⟨h.1.moved hvm, h.2.imp (fun h => h.imp fun _ h => h.moved hvm) (fun h => h.moved hvm)⟩
theorem jq_T.go {a v L : Nat} {f : Nat → Int32} {A B : Nat → Prop} {s : State} {H0 H : Heap} {locs : List Loc} (hS : va_S A H0 H locs) (hAB : ∀ q, B q → A q) (h : jq_T a v L f A s H0) : jq_T a v L f B s H := ⟨(h.1.kept hS.2.1).narrow hAB, (h.2.1.kept hS.2.1).narrow hAB, (h.2.2.1.kept hS.2.1).narrow hAB, (h.2.2.2.kept hS.2.1).narrow hAB⟩
theorem jq_Z.go {A B : Nat → Prop} {s : State} {H0 H : Heap} {locs : List Loc} (hS : va_S A H0 H locs) (hAB : ∀ q, B q → A q) (h : jq_Z A s H0) : jq_Z B s H := ⟨(h.1.kept hS.2.1).narrow hAB, h.2.imp (fun h => h.imp fun _ h => (h.kept hS.2.1).narrow hAB) (fun h => (h.kept hS.2.1).narrow hAB)⟩
noncomputable def qtf (l : List Int) (j : Nat) : Int32 := Int32.ofInt (l.getD j 0)
/-- the texts lie where the constants point, apart from what changes -/
noncomputable def qStr (sa : Nat → Nat) (A : Nat → Prop) (U : State) (H : Heap) : Prop := (∀ (i : Nat) (l : List Int), qtc[i]? = some l → ∃ v, jq_T (sa (i + 1)) v l.length (qtf l) A U H) ∧ jq_Z A U H
theorem qStr.moved {sa : Nat → Nat} {A : Nat → Prop} {u U : State} {H : Heap} (hvm : u.vm.Alike U.vm) (h : qStr sa A u H) : qStr sa A U H := ⟨fun i l hl => (h.1 i l hl).imp fun _ h => h.moved hvm, h.2.moved hvm⟩
theorem qStr.go {sa : Nat → Nat} {A B : Nat → Prop} {s : State} {H0 H : Heap} {locs : List Loc} (hS : va_S A H0 H locs) (hAB : ∀ q, B q → A q) (h : qStr sa A s H0) : qStr sa B s H := ⟨fun i l hl => (h.1 i l hl).imp fun _ h => h.go hS hAB, h.2.go hS hAB⟩
/-- what holds all along in a frame of method k -/
noncomputable def qFx (p : Program) (s : State) (m : MethodId) (args : Array Value) (meth : Method) (c : Code) (A : Nat → Prop) (H0 : Heap) (sa : Nat → Nat) (sc : Option (Nat × (Nat → Int))) (k : Nat) : Prop :=
  p.tables.exec = Jvm.exec ∧ c.code = qby k ∧ c.maxLocals = qml k ∧ s.vm.findClass (qcn (qow k)) = some m.cls ∧ (∀ w ∈ qAL, w.before args s = true) ∧ (qin k = true → meth.name = "<init>") ∧ (∀ q, H0.size ≤ q → A q) ∧ qSc sc sa A H0 s ∧ qSt sa s ∧ qStr sa A s H0
-- lists by places
theorem qnt_len : ∀ (l : List qV) (i : Nat), l.length ≤ i → qnt l i = (9, 0)
  | [], _, _ => rfl
  | _ :: _, 0, h => absurd h (by simp)
  | _ :: l, i + 1, h => qnt_len l i (by simpa using h)
theorem qset_len : ∀ (l : List qV) (i : Nat) (v : qV), (qset l i v).length = l.length
  | [], _, _ => rfl
  | _ :: _, 0, _ => rfl
  | _ :: l, i + 1, v => by show (qset l i v).length + 1 = l.length + 1; rw [qset_len l i v]
theorem qnt_set : ∀ (l : List qV) (i j : Nat) (v : qV), qnt (qset l i v) j = if j = i ∧ i < l.length then v else qnt l j
  | [], i, j, v => by rw [if_neg (by simp)]; rfl
  | a :: l, 0, 0, v => by rw [if_pos ⟨rfl, by simp⟩]; rfl
  | a :: l, 0, j + 1, v => by rw [if_neg (by omega)]; rfl
  | a :: l, i + 1, 0, v => by rw [if_neg (by omega)]; rfl
  | a :: l, i + 1, j + 1, v => by
    show qnt (qset l i v) j = _
    rw [qnt_set l i j v]
    by_cases h : j = i ∧ i < l.length
    · rw [if_pos h, if_pos ⟨by omega, by simpa using h.2⟩]
    · rw [if_neg h, if_neg (fun q => h ⟨by omega, by simpa using q.2⟩)]; rfl
theorem qhf_len (ls : List qV) (i : Nat) : (qhf ls i).length = ls.length := by
  unfold qhf
  split
  · rfl
  · split <;> simp [qset_len]
theorem qhf_nt (ls : List qV) (i j : Nat) (hi : i < ls.length) (hj : j ≠ i) : qnt (qhf ls i) j = if j + 1 = i ∧ (qnt ls j).1 = 1 then (9, 0) else qnt ls j := by
  unfold qhf
  split
  · rw [if_neg (by omega)]
  · rename_i i
    split
    · rename_i h
      rw [qnt_set]
      by_cases a : j = i
      · subst a
        rw [if_pos ⟨rfl, by omega⟩, if_pos ⟨rfl, by rw [h]⟩]
      · rw [if_neg (fun q => a q.1), if_neg (by omega)]
    · rename_i h
      rw [if_neg]
      intro q
      have e : j = i := by omega
      subst e
      exact h (qnt ls j).2 (Prod.ext q.2 rfl)
theorem qst_len (ls : List qV) (i : Nat) (v : qV) : (qst ls i v).length = ls.length := by
  unfold qst
  split <;> simp [qset_len, qhf_len]
theorem qst_nt (ls : List qV) (i j : Nat) (v : qV) (hi : i < ls.length) : qnt (qst ls i v) j = if j = i then v else if (v.1 = 1 ∧ j = i + 1) ∨ (j + 1 = i ∧ (qnt ls j).1 = 1) then (if j < ls.length then (9, 0) else qnt ls j) else qnt ls j := by
  have h1 := qhf_len ls i
  have h2 := fun j hj => qhf_nt ls i j hi hj
  unfold qst
  generalize qhf ls i = l1 at h1 h2 ⊢
  split
  · rename_i x
    rw [qnt_set, qset_len, h1, qnt_set, h1]
    by_cases a : j = i
    · subst a
      rw [if_neg (by omega), if_pos ⟨rfl, hi⟩, if_pos rfl]
    · rw [if_neg a]
      by_cases b : j = i + 1
      · subst b
        rw [if_pos (Or.inl ⟨rfl, rfl⟩)]
        by_cases c : i + 1 < ls.length
        · rw [if_pos ⟨rfl, c⟩, if_pos c]
        · rw [if_neg (fun q => c q.2), if_neg (fun q => a q.1), if_neg c, h2 _ a, if_neg (by omega)]
      · rw [if_neg (fun q => b q.1), if_neg (fun q => a q.1), h2 _ a]
        by_cases c : j + 1 = i ∧ (qnt ls j).1 = 1
        · rw [if_pos c, if_pos (Or.inr c), if_pos (by omega)]
        · rw [if_neg c, if_neg (by intro q; rcases q with q | q; exact b q.2; exact c q)]
  · rename_i h9
    have ht : ¬ v.1 = 1 := fun q => h9 v.2 (Prod.ext q rfl)
    rw [qnt_set, h1]
    by_cases a : j = i
    · subst a
      rw [if_pos ⟨rfl, hi⟩, if_pos rfl]
    · rw [if_neg (fun q => a q.1), if_neg a, h2 _ a]
      by_cases c : j + 1 = i ∧ (qnt ls j).1 = 1
      · rw [if_pos c, if_pos (Or.inr c), if_pos (by omega)]
      · rw [if_neg c, if_neg (by intro q; rcases q with q | q; exact ht q.1; exact c q)]
theorem qcv_cat {ad sa : Nat → Nat} {v : qV} (h : v.1 ≠ 1) : ¬ (qcv ad sa v).category = 2 := by
  obtain ⟨t, x⟩ := v
  match t, h with
  | 0, _ => simp [qcv, Value.category]
  | 1, h => exact absurd rfl h
  | 2, _ => cases hq : qrf ad x <;> simp [qcv, hq, va_rf, Value.category]
  | _ + 3, _ => simp [qcv, Value.category]
/-- the locals' list for a store -/
noncomputable def qll (ad sa : Nat → Nat) (ls : List qV) : List (Nat × Value) := (List.range ls.length).filterMap (fun i => if (qnt ls i).1 < 4 then some (i, qcv ad sa (qnt ls i)) else none)
theorem qLr.has {ad sa : Nat → Nat} {n : Nat} {ls : List qV} {arr : Array Slot} (h : qLr ad sa n ls arr) : lv_has arr ls.length (qll ad sa ls) := by
  refine ⟨h.1.1, h.1.2.1, fun q hq => ?_⟩
  obtain ⟨i, -, hi⟩ := List.mem_filterMap.mp hq
  by_cases c : (qnt ls i).1 < 4
  · rw [if_pos c] at hi
    cases hi
    exact h.2.1 i c
  · rw [if_neg c] at hi; cases hi
theorem qll_mem {ad sa : Nat → Nat} {ls : List qV} {j : Nat} (h : (qnt ls j).1 < 4) : (j, qcv ad sa (qnt ls j)) ∈ qll ad sa ls := by
  refine List.mem_filterMap.mpr ⟨j, List.mem_range.mpr ?_, if_pos h⟩
  by_cases c : j < ls.length
  · exact c
  · rw [qnt_len ls j (by omega)] at h; exact absurd h (by decide)
/-- behind a store of one slot -/
theorem qLr.put1 {ad sa : Nat → Nat} {n : Nat} {ls : List qV} {arr arr' : Array Slot} {i : Nat} {v : qV} (h : qLr ad sa n ls arr) (hi : i < ls.length) (hv : v.1 ≠ 1) (hr : qrg n v)
    (h' : lv_has arr' ls.length ((i, qcv ad sa v) :: (qll ad sa ls).filter (fun q => !(q.1 == i) && !(q.1 + 1 == i && q.2.category == 2)))) : qLr ad sa n (qst ls i v) arr' := by
  refine ⟨?_, fun j hj => ?_, fun j => ?_⟩
  · rw [qst_len]; exact ⟨h'.1, h'.2.1, fun q hq => by cases hq⟩
  · rw [qst_nt ls i j v hi] at hj ⊢
    by_cases a : j = i
    · subst a
      rw [if_pos rfl]
      exact h'.2.2 (j, qcv ad sa v) List.mem_cons_self
    · rw [if_neg a] at hj ⊢
      by_cases b : (v.1 = 1 ∧ j = i + 1) ∨ (j + 1 = i ∧ (qnt ls j).1 = 1)
      · rw [if_pos b] at hj ⊢
        by_cases c : j < ls.length
        · rw [if_pos c] at hj; exact absurd hj (by decide)
        · rw [if_neg c, qnt_len ls j (by omega)] at hj; exact absurd hj (by decide)
      · rw [if_neg b] at hj ⊢
        refine h'.2.2 (j, qcv ad sa (qnt ls j)) (List.mem_cons_of_mem _ (List.mem_filter.mpr ⟨qll_mem hj, ?_⟩))
        simp only [Bool.and_eq_true, Bool.not_eq_true', beq_eq_false_iff_ne, ne_eq, Bool.and_eq_false_iff]
        refine ⟨a, ?_⟩
        by_cases c : j + 1 = i
        · exact Or.inr (qcv_cat (fun q => b (Or.inr ⟨c, q⟩)))
        · exact Or.inl c
  · rw [qst_nt ls i j v hi]
    by_cases a : j = i
    · rw [if_pos a]; exact hr
    · rw [if_neg a]
      split
      · split
        · intro q; exact absurd q (by decide)
        · exact h.2.2 j
      · exact h.2.2 j
/-- behind a store of a long -/
theorem qLr.put2 {ad sa : Nat → Nat} {n : Nat} {ls : List qV} {arr arr' : Array Slot} {i : Nat} {v : qV} (h : qLr ad sa n ls arr) (hi : i < ls.length) (hv : v.1 = 1) (hr : qrg n v)
    (h' : lv_has arr' ls.length ((i, qcv ad sa v) :: (qll ad sa ls).filter (fun q => !(q.1 == i) && (!(q.1 == i + 1) && !(q.1 + 1 == i && q.2.category == 2))))) : qLr ad sa n (qst ls i v) arr' := by
  refine ⟨?_, fun j hj => ?_, fun j => ?_⟩
  · rw [qst_len]; exact ⟨h'.1, h'.2.1, fun q hq => by cases hq⟩
  · rw [qst_nt ls i j v hi] at hj ⊢
    by_cases a : j = i
    · subst a
      rw [if_pos rfl]
      exact h'.2.2 (j, qcv ad sa v) List.mem_cons_self
    · rw [if_neg a] at hj ⊢
      by_cases b : (v.1 = 1 ∧ j = i + 1) ∨ (j + 1 = i ∧ (qnt ls j).1 = 1)
      · rw [if_pos b] at hj ⊢
        by_cases c : j < ls.length
        · rw [if_pos c] at hj; exact absurd hj (by decide)
        · rw [if_neg c, qnt_len ls j (by omega)] at hj; exact absurd hj (by decide)
      · rw [if_neg b] at hj ⊢
        refine h'.2.2 (j, qcv ad sa (qnt ls j)) (List.mem_cons_of_mem _ (List.mem_filter.mpr ⟨qll_mem hj, ?_⟩))
        simp only [Bool.and_eq_true, Bool.not_eq_true', beq_eq_false_iff_ne, ne_eq, Bool.and_eq_false_iff]
        refine ⟨a, fun q => b (Or.inl ⟨hv, q⟩), ?_⟩
        by_cases c : j + 1 = i
        · exact Or.inr (qcv_cat (fun q => b (Or.inr ⟨c, q⟩)))
        · exact Or.inl c
  · rw [qst_nt ls i j v hi]
    by_cases a : j = i
    · rw [if_pos a]; exact hr
    · rw [if_neg a]
      split
      · split
        · intro q; exact absurd q (by decide)
        · exact h.2.2 j
      · exact h.2.2 j
-- the cells
theorem qws_at {ad : Nat → Nat} {ac : Nat → ClassId} {w : qW} {n p : Nat} (h0 : 0 < p) (h : p ≤ n) : (qws ad ac w n)[p - 1]? = some (ad p, qce ad ac w p) := by
  unfold qws
  rw [List.getElem?_map, List.getElem?_range (by omega)]
  show some (ad (p - 1 + 1), qce ad ac w (p - 1 + 1)) = _
  rw [show p - 1 + 1 = p by omega]
theorem qws_len {ad : Nat → Nat} {ac : Nat → ClassId} {w : qW} {n : Nat} : (qws ad ac w n).length = n := by simp [qws]
theorem qws_none {ad : Nat → Nat} {ac : Nat → ClassId} {w : qW} {n i : Nat} (h : n ≤ i) : (qws ad ac w n)[i]? = none := List.getElem?_eq_none (by rw [qws_len]; exact h)
/-- cells that differ at one place alone -/
theorem qws_set {ad : Nat → Nat} {ac : Nat → ClassId} {w w' : qW} {n p : Nat} (h0 : 0 < p) (h : p ≤ n) (hw : ∀ q, q ≠ p → w' q = w q) {x : va_E} (hx : x = qce ad ac w' p) : (qws ad ac w n).set (p - 1) (ad p, x) = qws ad ac w' n := by
  subst hx
  apply List.ext_getElem?
  intro i
  rw [List.getElem?_set, qws_len]
  by_cases c : i < n
  · have e1 := qws_at (ad := ad) (ac := ac) (w := w) (n := n) (p := i + 1) (by omega) (by omega)
    have e2 := qws_at (ad := ad) (ac := ac) (w := w') (n := n) (p := i + 1) (by omega) (by omega)
    rw [show i + 1 - 1 = i by omega] at e1 e2
    rw [e1, e2]
    by_cases a : p - 1 = i
    · subst a
      rw [if_pos rfl, if_pos (by omega), show p - 1 + 1 = p by omega]
    · rw [if_neg a]
      have : i + 1 ≠ p := by omega
      unfold qce
      rw [hw _ this]
  · rw [qws_none (by omega), qws_none (by omega), if_neg (by omega)]
theorem qup_ne {w : qW} {p j q : Nat} {v : Int} (h : q ≠ p) : qup w p j v q = w q := by unfold qup; rw [if_neg h]
theorem qup_p {w : qW} {p j : Nat} {v : Int} : qup w p j v p = fun j' => if j' = j then v else w p j' := by unfold qup; rw [if_pos rfl]
theorem qup_rng {w : qW} {n p j : Nat} {v : Int} (h : ∀ p, 0 < p → p ≤ n → ∀ j, j < (qpl p).2.2.1 → qrx (qkd p j) n (w p j)) (hv : qrx (qkd p j) n v) : ∀ p', 0 < p' → p' ≤ n → ∀ j', j' < (qpl p').2.2.1 → qrx (qkd p' j') n (qup w p j v p' j') := by
  intro p' h0 h1 j' hj
  by_cases a : p' = p
  · subst a
    rw [qup_p]
    show qrx _ _ (if j' = j then v else w p' j')
    by_cases b : j' = j
    · rw [if_pos b, b]; exact hv
    · rw [if_neg b]; exact h p' h0 h1 j' hj
  · rw [qup_ne a]; exact h p' h0 h1 j' hj
