/-! the run of the plain program is the machine's: calls, and all together -/
noncomputable def qwd (t : Nat) : List Cond := .code (qnm t) (qby t) (qml t) (qret t) :: qAL
noncomputable def qrm (d n n' : Nat) : Room := { frames := d, cells := n' - n, slots := qSz n' - qSz n, locals := 60 * d }
noncomputable def qB0 (D : va_G) (ad sa : Nat → Nat) (ac : Nat → ClassId) (w : qW) (n sz : Nat) : State → Prop := fun U => U.heap.size = sz ∧ qWr D (fun _ => True) U U.heap ad ac w n ∧ qSt sa U ∧ qStr sa (va_A (qws ad ac w n) sz) U U.heap
noncomputable def qB1 (D : va_G) (A : Nat → Prop) (ad : Nat → Nat) (ac : Nat → ClassId) (w1 : qW) (n n1 : Nat) : Unit → State → Prop := fun _ t => ∃ (ad' : Nat → Nat) (ac' : Nat → ClassId), (∀ i, i ≤ n → ad' i = ad i ∧ ac' i = ac i) ∧ qWr D A t t.heap ad' ac' w1 n1
noncomputable def qQc (v : qV) (D : va_G) (A : Nat → Prop) (ad : Nat → Nat) (ac : Nat → ClassId) (w1 : qW) (n n1 : Nat) : Array Value → State → Outcome → State → Prop := match v with
  | (9, _) => va_Qv (fun _ => True) (qB1 D A ad ac w1 n n1) A
  | (_, x) => va_Qi (fun r _ => r = Int32.ofInt x ∧ qi32 x) (qB1 D A ad ac w1 n n1) A
theorem qWr.moved {D : va_G} {A : Nat → Prop} {u U : State} {H : Heap} {ad : Nat → Nat} {ac : Nat → ClassId} {w : qW} {n : Nat} (hvm : u.vm.Alike U.vm) (h : qWr D A u H ad ac w n) : qWr D A U H ad ac w n :=
  ⟨h.1, h.2.1, h.2.2.1.moved hvm, fun p e m c h0 h1 hq => (h.2.2.2.1 p e m c h0 h1 hq).moved hvm, h.2.2.2.2⟩
theorem qWr.weaken {D : va_G} {A B : Nat → Prop} {s : State} {H : Heap} {ad : Nat → Nat} {ac : Nat → ClassId} {w : qW} {n : Nat} (h : qWr D A s H ad ac w n) (hAB : ∀ q, A q → B q) : qWr D B s H ad ac w n :=
  ⟨h.1, h.2.1.weaken (fun _ q _ z => hAB q.1 z), h.2.2.1, h.2.2.2.1, h.2.2.2.2⟩
/-- what is to be shown at a method's return -/
noncomputable def qEnd (p : Program) (l : Launch) (e : Env) (R : Room) (s : State) (m : MethodId) (args : Array Value) (below : List Frame) (meth : Method) (c : Code) (Q : State → Prop) (D : va_G) (A : Nat → Prop) (H0 : Heap) (k : Nat) (v : qV) (w' : qW) (n n' : Nat) (ad : Nat → Nat) (ac : Nat → ClassId) (cells slots : Nat) : Prop :=
  ∀ (pcr : Nat) (ad' : Nat → Nat) (ac' : Nat → ClassId) (arr' : Array Slot) (H' : Heap) (locs' : List Loc) (cells' slots' : Nat), (∀ i, i ≤ n → ad' i = ad i ∧ ac' i = ac i) → cells' + n = cells + n' → slots' + qSz n = slots + qSz n' → qWr D A s H' ad' ac' w' n' → va_S A H0 H' locs' →
    (∀ x, v = (0, x) → qi32 x → qrok (qrt k) (0, x) = true → decode (qby k) pcr = .ok (.ireturn, 1) → W p l e R s m args below meth c H' locs' cells' slots' Q (F0 m pcr arr' [.int (Int32.ofInt x)])) ∧
    (v = (9, 0) → qrt k = 0 → decode (qby k) pcr = .ok (.return_, 1) → W p l e R s m args below meth c H' locs' cells' slots' Q (F0 m pcr arr' []))
theorem qEnd.next {p : Program} {l : Launch} {e : Env} {R : Room} {s : State} {m : MethodId} {args : Array Value} {below : List Frame} {meth : Method} {c : Code} {Q : State → Prop} {D : va_G} {A : Nat → Prop} {H0 : Heap} {k : Nat} {v : qV} {w' : qW} {n n1 n' : Nat} {ad ad1 : Nat → Nat} {ac ac1 : Nat → ClassId} {cells slots cells1 slots1 : Nat}
    (h : qEnd p l e R s m args below meth c Q D A H0 k v w' n n' ad ac cells slots) (hext : ∀ i, i ≤ n → ad1 i = ad i ∧ ac1 i = ac i) (hn : n ≤ n1) (hc : cells1 + n = cells + n1) (hs : slots1 + qSz n = slots + qSz n1) : qEnd p l e R s m args below meth c Q D A H0 k v w' n1 n' ad1 ac1 cells1 slots1 :=
  fun pcr ad' ac' arr' H' locs' cells' slots' he h1 h2 hW hS => h pcr ad' ac' arr' H' locs' cells' slots' (fun i hi => ⟨(he i (Nat.le_trans hi hn)).1.trans (hext i hi).1, (he i (Nat.le_trans hi hn)).2.trans (hext i hi).2⟩) (by omega) (by omega) hW hS
/-- what a run of the plain program says of the machine -/
noncomputable def qSound (l : Launch) (X : qXt) : Prop :=
  ∀ (sc : Option (Nat × (Nat → Int))) (d k pc : Nat) (ls st : List qV) (w : qW) (n : Nat) (v : qV) (w' : qW) (n' : Nat), X sc d k pc ls st w n = some (v, w', n') → k < 306 →
  ∀ (p : Program) (e : Env) (R : Room) (s : State) (m : MethodId) (args : Array Value) (below : List Frame) (meth : Method) (c : Code) (Q : State → Prop) (D : va_G) (A : Nat → Prop) (H0 : Heap) (sa ad : Nat → Nat) (ac : Nat → ClassId) (arr : Array Slot) (H : Heap) (locs : List Loc) (cells slots : Nat),
  qFx p s m args meth c A H0 sa sc k → qRel D A s H0 sa k ls st w n ad ac arr H locs → (d ≤ R.frames ∧ 60 * d ≤ R.locals ∧ cells + n' ≤ R.cells + n ∧ slots + qSz n' ≤ R.slots + qSz n) →
  qEnd p l e R s m args below meth c Q D A H0 k v w' n n' ad ac cells slots →
  W p l e R s m args below meth c H locs cells slots Q (F0 m pc arr (st.map (qcv ad sa)))
theorem qT_in {t : Nat} (h : t < 305) : Cond.code (qnm t) (qby t) (qml t) (qret t) ∈ qAL ∧ (bif qis t then Cond.static (qnm t) else Cond.instanceMethod (qnm t)) ∈ qAL ∧ Cond.initialized (qnm t).cls ∈ qAL ∧ (qnm t).cls = qcn (qow t) ∧ ((qnm t).cls ≠ "java/lang/invoke/MethodHandle" ∧ (qnm t).cls ≠ "java/lang/invoke/VarHandle") ∧ (parseMethodDescriptor (qnm t).desc).map (fun d => d.parameters.length) = some (qnp t) ∧ plainName (qnm t).cls = true ∧ (qin t = decide ((qnm t).name = "<init>")) ∧ (qis t = false → qin t = false → Cond.selects (qcn (qow t)) (qnm t) (qnm t) ∈ qAL ∧ qow t < 13) ∧ (qin t = true → qret t = none ∧ qow t < 13 ∧ qis t = false) ∧ qml t ≤ 30 := by
  have hc := qckT_of h
  unfold qckT at hc
  simp only [Bool.and_eq_true, decide_eq_true_eq] at hc
  obtain ⟨⟨⟨⟨⟨⟨⟨⟨⟨⟨⟨⟨a1, a2⟩, a3⟩, a4⟩, a5⟩, a6⟩, a7⟩, a8⟩, a9⟩, a10⟩, a11⟩, a12⟩, a13⟩ := hc
  refine ⟨qwd1_in a1, qwd1_in a2, qwd1_in a3, a4, ⟨a5, a6⟩, a7, a8, a9, fun h1 h2 => ?_, fun h1 => ?_, Nat.le_of_ble_eq_true a12⟩
  · rw [h1, h2] at a10
    simp only [Bool.or_false, cond_false, Bool.and_eq_true, Nat.blt_eq] at a10
    exact ⟨qwd1_in a10.1, a10.2⟩
  · rw [h1] at a11
    simp only [cond_true, Bool.and_eq_true, decide_eq_true_eq, Nat.blt_eq, Bool.not_eq_true'] at a11
    exact ⟨a11.1.1, a11.1.2, a11.2⟩
theorem qM_in {o i t na sk : Nat} (h : qmd o i = some (t, na, sk)) : (t = 900 → Cond.methodLink (qcn o) i objectInit ∈ qAL) ∧ (t = 901 → Cond.methodLink (qcn o) i arraycopyName ∈ qAL) ∧ (t = 902 → Cond.methodLink (qcn o) i Lib.Math.abs.name ∈ qAL) ∧ (t = 903 → Cond.methodLink (qcn o) i Lib.Math.max.name ∈ qAL) ∧ (t = 904 → Cond.methodLink (qcn o) i Lib.Math.min.name ∈ qAL) ∧ (t = 905 → Cond.methodLink (qcn o) i Lib.MathLoose.max_long.x ∈ qAL) ∧
    (t < 900 ∨ 908 < t → t < 305 ∧ na = qnp t + (if sk = 0 then 0 else 1) ∧ qis t = Nat.beq sk 0 ∧ (sk ≠ 2 → Cond.methodLink (qcn o) i (qnm t) ∈ qAL)) ∧ (902 ≤ t → t ≤ 908 → na = (if t = 902 then 1 else if t = 906 then 1 else 2)) ∧ (t = 906 → Cond.methodLink (qcn o) i yJ0_length_8abf5 ∈ qAL) ∧ (t = 907 → Cond.methodLink (qcn o) i yJ0_charAt_5068e ∈ qAL) ∧ (t = 908 → Cond.methodLink (qcn o) i yJ0_indexOf_0f7a4 ∈ qAL) := by
  obtain ⟨h1, h2⟩ := qmd_bd h
  have hc := qckM_of h1 h2
  unfold qckM at hc
  rw [h] at hc
  replace hc : (if t = 900 then Nat.beq na 1 && qwd1 (qmp o i) (.methodLink (qcn o) i objectInit)
    else if t = 901 then Nat.beq na 5 && qwd1 (qmp o i) (.methodLink (qcn o) i arraycopyName)
    else if t = 902 then Nat.beq na 1 && qwd1 (qmp o i) (.methodLink (qcn o) i Lib.Math.abs.name)
    else if t = 903 then Nat.beq na 2 && qwd1 (qmp o i) (.methodLink (qcn o) i Lib.Math.max.name)
    else if t = 904 then Nat.beq na 2 && qwd1 (qmp o i) (.methodLink (qcn o) i Lib.Math.min.name)
    else if t = 905 then Nat.beq na 2 && qwd1 (qmp o i) (.methodLink (qcn o) i Lib.MathLoose.max_long.x)
    else if t = 906 then Nat.beq na 1 && qwd1 (qmp o i) (.methodLink (qcn o) i yJ0_length_8abf5)
    else if t = 907 then Nat.beq na 2 && qwd1 (qmp o i) (.methodLink (qcn o) i yJ0_charAt_5068e)
    else if t = 908 then Nat.beq na 2 && qwd1 (qmp o i) (.methodLink (qcn o) i yJ0_indexOf_0f7a4)
    else Nat.blt t 305 && Nat.beq na (qnp t + (if sk = 0 then 0 else 1)) && decide (qis t = Nat.beq sk 0) && (match (generalizing := false) sk with
      | 2 => decide (qwa (qmp o i) = some (.methodLinkNest (qcn o) i (qnm t) RX11))
      | _ => qwd1 (qmp o i) (.methodLink (qcn o) i (qnm t)))) = true := hc
  by_cases c0 : t = 900
  · subst c0
    rw [if_pos rfl, Bool.and_eq_true] at hc
    exact ⟨fun _ => qwd1_in hc.2, fun z => by omega, fun z => by omega, fun z => by omega, fun z => by omega, fun z => by omega, fun z => by omega, fun z z2 => by omega, fun z => by omega, fun z => by omega, fun z => by omega⟩
  rw [if_neg c0] at hc
  by_cases c1 : t = 901
  · subst c1
    rw [if_pos rfl, Bool.and_eq_true] at hc
    exact ⟨fun z => by omega, fun _ => qwd1_in hc.2, fun z => by omega, fun z => by omega, fun z => by omega, fun z => by omega, fun z => by omega, fun z z2 => by omega, fun z => by omega, fun z => by omega, fun z => by omega⟩
  rw [if_neg c1] at hc
  by_cases c2 : t = 902
  · subst c2
    rw [if_pos rfl, Bool.and_eq_true] at hc
    exact ⟨fun z => by omega, fun z => by omega, fun _ => qwd1_in hc.2, fun z => by omega, fun z => by omega, fun z => by omega, fun z => by omega, fun _ _ => Nat.eq_of_beq_eq_true hc.1, fun z => by omega, fun z => by omega, fun z => by omega⟩
  rw [if_neg c2] at hc
  by_cases c3 : t = 903
  · subst c3
    rw [if_pos rfl, Bool.and_eq_true] at hc
    exact ⟨fun z => by omega, fun z => by omega, fun z => by omega, fun _ => qwd1_in hc.2, fun z => by omega, fun z => by omega, fun z => by omega, fun _ _ => Nat.eq_of_beq_eq_true hc.1, fun z => by omega, fun z => by omega, fun z => by omega⟩
  rw [if_neg c3] at hc
  by_cases c4 : t = 904
  · subst c4
    rw [if_pos rfl, Bool.and_eq_true] at hc
    exact ⟨fun z => by omega, fun z => by omega, fun z => by omega, fun z => by omega, fun _ => qwd1_in hc.2, fun z => by omega, fun z => by omega, fun _ _ => Nat.eq_of_beq_eq_true hc.1, fun z => by omega, fun z => by omega, fun z => by omega⟩
  rw [if_neg c4] at hc
  by_cases c5 : t = 905
  · subst c5
    rw [if_pos rfl, Bool.and_eq_true] at hc
    exact ⟨fun z => by omega, fun z => by omega, fun z => by omega, fun z => by omega, fun z => by omega, fun _ => qwd1_in hc.2, fun z => by omega, fun _ _ => Nat.eq_of_beq_eq_true hc.1, fun z => by omega, fun z => by omega, fun z => by omega⟩
  rw [if_neg c5] at hc
  by_cases c6 : t = 906
  · subst c6
    rw [if_pos rfl, Bool.and_eq_true] at hc
    exact ⟨fun z => by omega, fun z => by omega, fun z => by omega, fun z => by omega, fun z => by omega, fun z => by omega, fun z => by omega, fun _ _ => Nat.eq_of_beq_eq_true hc.1, fun _ => qwd1_in hc.2, fun z => by omega, fun z => by omega⟩
  rw [if_neg c6] at hc
  by_cases c7 : t = 907
  · subst c7
    rw [if_pos rfl, Bool.and_eq_true] at hc
    exact ⟨fun z => by omega, fun z => by omega, fun z => by omega, fun z => by omega, fun z => by omega, fun z => by omega, fun z => by omega, fun _ _ => Nat.eq_of_beq_eq_true hc.1, fun z => by omega, fun _ => qwd1_in hc.2, fun z => by omega⟩
  rw [if_neg c7] at hc
  by_cases c8 : t = 908
  · subst c8
    rw [if_pos rfl, Bool.and_eq_true] at hc
    exact ⟨fun z => by omega, fun z => by omega, fun z => by omega, fun z => by omega, fun z => by omega, fun z => by omega, fun z => by omega, fun _ _ => Nat.eq_of_beq_eq_true hc.1, fun z => by omega, fun z => by omega, fun _ => qwd1_in hc.2⟩
  rw [if_neg c8] at hc
  simp only [Bool.and_eq_true, decide_eq_true_eq, Nat.blt_eq] at hc
  obtain ⟨⟨⟨b1, b2⟩, b3⟩, b4⟩ := hc
  refine ⟨fun z => by omega, fun z => by omega, fun z => by omega, fun z => by omega, fun z => by omega, fun z => by omega, fun _ => ⟨b1, Nat.eq_of_beq_eq_true b2, b3, fun h9 => ?_⟩, fun z z2 => by omega, fun z => by omega, fun z => by omega, fun z => by omega⟩
  split at b4
  · exact absurd rfl h9
  · exact qwd1_in b4
theorem qgood {ws : List Cond} (h : ∀ w ∈ ws, w ∈ qAL) : GoodIn qAL ws := fun w hw => ⟨h w hw, good_of_word (List.mem_filter.mp (h w hw)).2⟩
theorem qwd_in {t : Nat} (h : t < 305) : ∀ w ∈ qwd t, w ∈ qAL := fun w hw => by
  rcases List.mem_cons.mp hw with rfl | hw
  · exact (qT_in h).1
  · exact hw
-- the locals at the entry
theorem qpad_len : ∀ (m : Nat) (l : List qV), (qpad m l).length = m
  | 0, _ => rfl
  | m + 1, [] => by show (qpad m []).length + 1 = m + 1; rw [qpad_len m []]
  | m + 1, _ :: l => by show (qpad m l).length + 1 = m + 1; rw [qpad_len m l]
theorem qpad_nt : ∀ (m : Nat) (l : List qV) (j : Nat), qnt (qpad m l) j = if j < m then qnt l j else (9, 0)
  | 0, l, j => by rw [if_neg (by omega)]; rfl
  | m + 1, [], 0 => by rw [if_pos (by omega)]; rfl
  | m + 1, [], j + 1 => by
    show qnt (qpad m []) j = _
    rw [qpad_nt m [] j]
    by_cases h : j < m
    · rw [if_pos h, if_pos (by omega)]; rfl
    · rw [if_neg h, if_neg (by omega)]
  | m + 1, a :: l, 0 => by rw [if_pos (by omega)]; rfl
  | m + 1, a :: l, j + 1 => by
    show qnt (qpad m l) j = _
    rw [qpad_nt m l j]
    by_cases h : j < m
    · rw [if_pos h, if_pos (by omega)]; rfl
    · rw [if_neg h, if_neg (by omega)]
theorem qlay_1 (x : Int) (r : List qV) : qlay ((1, x) :: r) = (1, x) :: (9, 0) :: qlay r := rfl
theorem qlay_n {v : qV} (h : v.1 ≠ 1) (r : List qV) : qlay (v :: r) = v :: qlay r := by
  obtain ⟨t, x⟩ := v
  match t, h with
  | 0, _ => rfl
  | 1, h => exact absurd rfl h
  | _ + 2, _ => rfl
theorem qcv_c1 (ad sa : Nat → Nat) (x : Int) : (qcv ad sa (1, x)).category = 2 := rfl
theorem qlay_args (ad sa : Nat → Nat) : ∀ (as : List qV) (i j : Nat), (qnt (qlay as) j).1 < 4 → (i + j, qcv ad sa (qnt (qlay as) j)) ∈ lv_args i (as.map (qcv ad sa))
  | [], i, j, h => absurd (show (9 : Nat) < 4 from h) (by decide)
  | v :: r, i, j, h => by
    by_cases hv : v.1 = 1
    · obtain ⟨t, x⟩ := v
      have hv : t = 1 := hv
      subst hv
      rw [qlay_1] at h ⊢
      show _ ∈ (i, qcv ad sa (1, x)) :: lv_args (if (qcv ad sa (1, x)).category = 2 then i + 2 else i + 1) (r.map (qcv ad sa))
      rw [if_pos (qcv_c1 ad sa x)]
      match j, h with
      | 0, _ => exact List.mem_cons_self
      | 1, h => exact absurd (show (9 : Nat) < 4 from h) (by decide)
      | j + 2, h =>
        have := qlay_args ad sa r (i + 2) j h
        rw [show i + 2 + j = i + (j + 2) by omega] at this
        exact List.mem_cons_of_mem _ this
    · rw [qlay_n hv] at h ⊢
      show _ ∈ (i, qcv ad sa v) :: lv_args (if (qcv ad sa v).category = 2 then i + 2 else i + 1) (r.map (qcv ad sa))
      rw [if_neg (qcv_cat hv)]
      match j, h with
      | 0, _ => exact List.mem_cons_self
      | j + 1, h =>
        have := qlay_args ad sa r (i + 1) j h
        rw [show i + 1 + j = i + (j + 1) by omega] at this
        exact List.mem_cons_of_mem _ this
theorem qlay_sl (ad sa : Nat → Nat) : ∀ (as : List qV), (lg_sl (as.map (qcv ad sa))).length = (qlay as).length
  | [] => rfl
  | v :: r => by
    have ih := qlay_sl ad sa r
    have e : lg_sl ((v :: r).map (qcv ad sa)) = (if (qcv ad sa v).category = 2 then [Slot.val (qcv ad sa v), Slot.second] else [Slot.val (qcv ad sa v)]) ++ lg_sl (r.map (qcv ad sa)) := rfl
    rw [e, List.length_append, ih]
    by_cases hv : v.1 = 1
    · obtain ⟨t, x⟩ := v
      have hv : t = 1 := hv
      subst hv
      rw [if_pos (qcv_c1 ad sa x), qlay_1]
      simp; omega
    · rw [if_neg (qcv_cat hv), qlay_n hv]
      simp; omega
theorem qlay_rg {n : Nat} : ∀ (as : List qV), (∀ v ∈ as, qrg n v) → ∀ j, qrg n (qnt (qlay as) j)
  | [], _, j => fun h => absurd (show (9 : Nat) < 3 from h) (by decide)
  | v :: r, h, j => by
    have ih := qlay_rg r (fun x hx => h x (List.mem_cons_of_mem _ hx))
    by_cases hv : v.1 = 1
    · obtain ⟨t, x⟩ := v
      have hv : t = 1 := hv
      subst hv
      rw [qlay_1]
      match j with
      | 0 => exact h _ List.mem_cons_self
      | 1 => exact fun h => absurd (show (9 : Nat) < 3 from h) (by decide)
      | j + 2 => exact ih j
    · rw [qlay_n hv]
      match j with
      | 0 => exact h _ List.mem_cons_self
      | j + 1 => exact ih j
theorem qini_lr {t n : Nat} {as : List qV} {ad sa : Nat → Nat} {arr : Array Slot} (has : qSr n as) (hl : lv_has arr (qml t) (lv_args 0 (as.map (qcv ad sa)))) : qLr ad sa n (qini t as) arr := by
  refine ⟨?_, fun i hi => ?_, fun i => ?_⟩
  · unfold qini
    rw [qpad_len]
    exact ⟨hl.1, hl.2.1, fun q hq => by cases hq⟩
  · unfold qini at hi ⊢
    rw [qpad_nt] at hi ⊢
    by_cases h : i < qml t
    · rw [if_pos h] at hi ⊢
      have := qlay_args ad sa as 0 i hi
      rw [Nat.zero_add] at this
      exact hl.2.2 _ this
    · rw [if_neg h] at hi
      exact absurd hi (by decide)
  · unfold qini
    rw [qpad_nt]
    by_cases h : i < qml t
    · rw [if_pos h]; exact qlay_rg as (fun v hv => (has v hv).2) i
    · rw [if_neg h]; exact fun h => absurd (show (9 : Nat) < 3 from h) (by decide)
theorem qB0_blind (D : va_G) (ad sa : Nat → Nat) (ac : Nat → ClassId) (w : qW) (n sz : Nat) (av : List Value) : FrameBlind (va_Pc av (qB0 D ad sa ac w n sz)) := fun a U g mk q => by
  obtain ⟨q0, q1, q2, q3, q4⟩ := q
  exact ⟨q0, q1, q2.moved (u := U) (U := U.calling g mk a) (Vm.Alike.refl U.vm), qSt.same (s := U) (U := U.calling g mk a) rfl q3, q4.moved (u := U) (U := U.calling g mk a) (Vm.Alike.refl U.vm)⟩
/-- a method's contract out of its plain run -/
theorem q_met {l : Launch} {X : qXt} (hX : qSound l X) (hM : qMono X) {d t n n1 : Nat} {as : List qV} {w w1 : qW} {v : qV} (h : X none d t 0 (qini t as) [] w n = some (v, w1, n1)) (ht : t < 305) (has : qSr n as) (hlay : (qlay as).length ≤ qml t) (D : va_G) (ad sa : Nat → Nat) (ac : Nat → ClassId) (sz : Nat) :
    Met l (qnm t) (qwd t) (qrm d n n1) (va_Pc (as.map (qcv ad sa)) (qB0 D ad sa ac w n sz)) (qQc v D (va_A (qws ad ac w n) sz) ad ac w1 n n1) (n1 - n) (qSz n1 - qSz n) (va_A (qws ad ac w n) sz) := by
  obtain ⟨a1, a2, a3, a4, a5, a6, a7, a8, a9, a10, a11⟩ := qT_in ht
  refine Met.ofW (cc := qby t) (maxL := qml t) (ret := qret t) a7 rfl ?_
  intro p e s m args below meth c s₁ B hml hv
  obtain ⟨rfl, hsz, hW, hst, hstr⟩ := hv
  have hx := B.exec
  have hb := B.bytes
  have hr := B.returns
  have hts0 := atoms_spec (ws := qwd t) B.pre
  have hlocks := B.notSynchronized
  have hown : s.vm.findClass (qnm t).cls = some m.cls := findClass_of_methodNamed B.named
  have hnm : meth.name = (qnm t).name := (name_of_methodNamed B.named B.method).1
  subst hsz
  have hD := hW.2.1.self (sz := s.heap.size)
  generalize hAe : va_A (qws ad ac w n) s.heap.size = A at hD hstr ⊢
  have hA : ∀ q : Nat, s.heap.size ≤ q → A q := fun q h => by rw [← hAe]; exact Or.inr h
  have hl := lv_entry (as.map (qcv ad sa)) (n := qml t) (by rw [qlay_sl]; exact hlay)
  rw [lg_entry_eq]
  generalize (lg_sl (as.map (qcv ad sa)) ++ List.replicate (qml t - (lg_sl (as.map (qcv ad sa))).length) Slot.unset).toArray = arr at hl ⊢
  obtain ⟨hm1, hm2⟩ := hM _ _ _ _ _ _ _ _ _ _ _ h
  have hm3 := qSz_mono hm1
  refine hX none d t 0 (qini t as) [] w n v w1 n1 h (by omega) p e _ s m _ below meth c _ D A s.heap sa ad ac arr s.heap [] 0 0
    ⟨hx, hb, hml, by rw [← a4]; exact hown, fun w hw => hts0 w (List.mem_cons_of_mem _ hw), fun h9 => by rw [hnm]; rw [a8] at h9; exact of_decide_eq_true h9, hA, fun L xs h9 => (by cases h9), hst, hstr⟩
    ⟨⟨hW.1, hD, hW.2.2.1, hW.2.2.2.1, hW.2.2.2.2⟩, qini_lr has hl, qpad_len _ _, fun v hv => (by cases hv), va_S.rf⟩
    ⟨Nat.le_refl _, Nat.le_refl _, by show 0 + n1 ≤ (n1 - n) + n; omega, by show 0 + qSz n1 ≤ (qSz n1 - qSz n) + qSz n; omega⟩ ?_
  intro pcr ad' ac' arr' H' locs' cells' slots' hext hc hsl hW' hS'
  obtain rfl : cells' = n1 - n := by omega
  obtain rfl : slots' = qSz n1 - qSz n := by omega
  refine ⟨fun x hv hx32 hok hdec => ?_, fun hv h0 hdec => ?_⟩
  · subst hv
    have hq : ∀ t' : State, t'.heap = H' → s.WarmedH t'.vm → qQc (0, x) D A ad ac w1 n n1 (as.map (qcv ad sa)).toArray s (.returned (some (.int (Int32.ofInt x)))) t' := fun t' ht' hWm =>
      ⟨⟨Int32.ofInt x, (), rfl, ⟨rfl, hx32⟩, ad', ac', hext, by rw [ht']; exact hW'.moved hWm.alike⟩, hS'.F ht'⟩
    unfold qrok at hok
    split at hok
    · rename_i h9 h8
      have e1 : qret t = some .int := by unfold qret; rw [h9]; rfl
      exact W.iret hx hb (by rw [hr, e1]) hq hS'.2.2 hdec hlocks
    · rename_i y h9 h8
      cases h8
      have e1 : qret t = some .boolean := by unfold qret; rw [h9]; rfl
      exact W.zret (ty := .boolean) hx hb (by rw [hr, e1]) (q_b01 (of_decide_eq_true hok)).1 hq hS'.2.2 hdec hlocks
    · cases hok
  · subst hv
    have e1 : qret t = none := by unfold qret; rw [h0]; rfl
    exact W.vret hx hb (by rw [hr, e1]) (fun t' ht' hWm => ⟨⟨(), rfl, trivial, ad', ac', hext, by rw [ht']; exact hW'.moved hWm.alike⟩, hS'.F ht'⟩) hS'.2.2 hdec hlocks
theorem qcat_sum (ad sa : Nat → Nat) : ∀ (r : List qV), (((r.map (qcv ad sa)).map fun v => v.category).sum) = qcat r
  | [] => rfl
  | v :: r => by
    have ih := qcat_sum ad sa r
    rw [List.map_cons, List.map_cons, List.sum_cons, ih]
    obtain ⟨t, x⟩ := v
    match t with
    | 0 => rfl
    | 1 => rfl
    | 2 => show (va_rf _).category + _ = _; rw [va_rf_cat]; rfl
    | _ + 3 => rfl
theorem qtk_eq : ∀ (na : Nat) (st acc : List qV), na ≤ st.length → qtk na st acc = (st.take na).reverse ++ acc ∧ qdr na st = st.drop na
  | 0, st, acc, _ => ⟨rfl, rfl⟩
  | na + 1, [], acc, h => by simp at h
  | na + 1, a :: r, acc, h => by
    have ih := qtk_eq na r (a :: acc) (by simpa using h)
    exact ⟨by show qtk na r (a :: acc) = _; rw [ih.1]; simp, ih.2⟩
section QC
variable {p : Program} {l : Launch} {e : Env} {R : Room} {s : State} {m : MethodId} {args : Array Value} {below : List Frame} {meth : Method} {c : Code} {Q : State → Prop}
variable {D : va_G} {A : Nat → Prop} {H0 : Heap} {sa : Nat → Nat} {sc : Option (Nat × (Nat → Int))} {k : Nat}
/-- behind a call -/
theorem q_back {pc n n1 cells slots : Nat} {v1 : qV} {w w1 : qW} {ad : Nat → Nat} {ac : Nat → ClassId} {arr : Array Slot} {H : Heap} {locs : List Loc} {st0 : List Value} {rest : List qV} {a : Array Value}
    (hrun : va_Run p l e R s m args below meth c H locs cells slots (n1 - n) (qSz n1 - qSz n) (F0 m pc arr st0) (rest.map (qcv ad sa)) (qQc v1 D (va_A (qws ad ac w n) H.size) ad ac w1 n n1 a) (va_A (qws ad ac w n) H.size))
    (hv : v1 = (9, 0) ∨ ∃ x, v1 = (0, x)) (hnn : n ≤ n1) (hA : ∀ q, H0.size ≤ q → A q) (hW : qWr D A s H ad ac w n) (hs : qSr n rest) (hS : va_S A H0 H locs)
    (kk : ∀ (ad' : Nat → Nat) (ac' : Nat → ClassId) (H' : Heap) (locs' : List Loc), (∀ i, i ≤ n → ad' i = ad i ∧ ac' i = ac i) → qWr D A s H' ad' ac' w1 n1 → qSr n1 (qpsh v1 rest) → va_S A H0 H' locs' → W p l e R s m args below meth c H' locs' (cells + (n1 - n)) (slots + (qSz n1 - qSz n)) Q (F0 m (pc + 3) arr ((qpsh v1 rest).map (qcv ad' sa)))) :
    W p l e R s m args below meth c H locs cells slots Q (F0 m pc arr st0) := by
  have hsub : ∀ q, va_A (qws ad ac w n) H.size q → A q := fun q h => by
    rcases h with ⟨k, e, hk⟩ | h
    · exact hW.2.1.2 k _ hk
    · exact hA q (Nat.le_trans hS.1 h)
  rcases hv with rfl | ⟨x, rfl⟩
  · refine va_callv (a := a) (post := fun _ => True) (B := qB1 D (va_A (qws ad ac w n) H.size) ad ac w1 n n1) hrun hS (fun q _ h => hsub q h) hsub (fun u t H1 locs1 ht hvm _ hB _ _ hS1 => ?_)
    obtain ⟨ad', ac', hext, hW1⟩ := hB
    rw [ht] at hW1
    have K := kk ad' ac' H1 locs1 hext ((hW1.moved hvm.symm).weaken hsub) (hs.up hnn) hS1
    have e1 : (qpsh (9, 0) rest).map (qcv ad' sa) = rest.map (qcv ad sa) := q_stk hs (fun i hi => (hext i hi).1)
    rw [e1] at K
    exact K
  · refine va_calli (a := a) (post := fun r _ => r = Int32.ofInt x ∧ qi32 x) (B := qB1 D (va_A (qws ad ac w n) H.size) ad ac w1 n n1) hrun hS (fun q _ h => hsub q h) hsub (fun r u t H1 locs1 ht hvm hp hB _ _ hS1 => ?_)
    obtain ⟨ad', ac', hext, hW1⟩ := hB
    rw [ht] at hW1
    have K := kk ad' ac' H1 locs1 hext ((hW1.moved hvm.symm).weaken hsub) (.cn (q4 rfl) (.mki hp.2) (hs.up hnn)) hS1
    have e1 : (qpsh (0, x) rest).map (qcv ad' sa) = .int (Int32.ofInt x) :: rest.map (qcv ad sa) := by
      show qcv ad' sa (0, x) :: rest.map (qcv ad' sa) = _
      rw [q_stk hs (fun i hi => (hext i hi).1)]; rfl
    rw [e1] at K
    rw [hp.1]
    exact K
end QC
