/-! the reference's parser: the place of reading, the code that is laid -/
theorem ymo_far {p : Nat} (hp : p < 1000) : ∀ {m : List Nat}, m.all (fun e => !Nat.beq (e % 1000) p) = true → ∀ j, ymo p j m = false := by
  intro m h j
  have key : ∀ q, q % 1000 = p → ymem q m = false := fun q hq => by
    cases e : ymem q m with
    | false => rfl
    | true =>
      have := List.all_eq_true.mp h q (ymem_in e)
      rw [hq, Nat.beq_refl] at this; cases this
  show (ymem p m || ymem (1000 * (j + 1) + p) m) = false
  rw [key p (by omega), key _ (by omega)]; rfl
noncomputable def NM : List Nat := [27095, 28095, 29095, 30095]
noncomputable def PM : List Nat := [113, 25095, 27095, 28095, 29095, 30095, 31095, 32095, 34095]
theorem ymo95 {p j : Nat} {m : List Nat} (h : p < 1000 → ymo p j m = false) (hp : p = 95) : ymo 95 j m = false := hp ▸ h (by omega)
theorem NM_no {p j : Nat} (h : p < 1000 → ymo p j NM = false) : ¬ (p = 95 ∧ (j = 26 ∨ j = 27 ∨ j = 28 ∨ j = 29)) := fun z => by
  have h := ymo95 h z.1
  rcases z.2 with rfl | rfl | rfl | rfl <;> cases h
theorem tkW_o {w : qW} {a p j : Nat} (h : ¬ (p = 95 ∧ (j = 26 ∨ j = 28))) : tkW w a p j = w p j := by
  unfold tkW
  by_cases hp : p = 95
  · subst hp; rw [qup_j (fun z => h ⟨rfl, .inr z⟩), atW_o (fun z => h ⟨rfl, .inl z.2⟩)]
  · rw [qup_ne hp, atW_o (fun z => hp z.1)]
theorem qup95 {w : qW} {p j k : Nat} {v : Int} (h : ¬ (p = 95 ∧ j = k)) : qup w 95 k v p j = w p j := by
  by_cases hp : p = 95
  · subst hp; exact qup_j (fun z => h ⟨rfl, z⟩)
  · rw [qup_ne hp]
/-- what next0 does, as far as places go -/
theorem NX.look {w w' : qW} (hI : yInv zgf zga zra zSp w) (h : NX w w') : AW NM w w' ∧ w 95 26 ≤ w' 95 28 ∧ w' 95 28 ≤ w' 95 26 ∧ (w' 95 27 ≠ 0 → w' 95 28 + 1 ≤ w' 95 26) := by
  obtain ⟨a, hB, ha6, h⟩ := h
  have h26 := zfld hI (j := 26) (b := (0, 600)) rfl
  have a26 : (0 : Int) ≤ w 95 26 := h26.1
  have hBa := hB.1
  have hIT := tkW_I hI ha6
  have hs := seeV_in hI a
  have tk0 : ∀ (x : qW) (v : Int), yInv zgf zga zra zSp x → 0 ≤ v → v ≤ 355 → yInv zgf zga zra zSp (qup x 95 27 v) := fun x v hx h0 h1 => zup_f hx (b := (0, 355)) rfl rfl rfl ⟨h0, h1⟩
  rcases h with ⟨he, rfl⟩ | ⟨he, hl, b, hL, hb6, rfl⟩ | ⟨he, hl, hd, b, hD, hb6, rfl⟩ | ⟨he, hl, hd, ha, rfl⟩
  · refine ⟨⟨tk0 _ _ hIT (by omega) (by omega), fun p j hp => ?_⟩, ?_, ?_, fun z => absurd qup_k z⟩
    · have := NM_no hp
      rw [qup95 (by omega), tkW_o (by omega)]
    · rw [qup_j (by decide), tkW_tk]; omega
    · rw [qup_j (by decide), qup_j (by decide), tkW_tk, tkW_at]; omega
  · have hab : a + 1 ≤ b := by
      rcases (show a = b ∨ a + 1 ≤ b by have := hL.1; omega) with q | q
      · subst q; exact absurd hl hL.2.2
      · exact q
    have hw := wordV_in (atW (tkW w a) b)
    refine ⟨⟨tk0 _ _ (atW_I hIT hb6) (by omega) (by omega), fun p j hp => ?_⟩, ?_, ?_, fun _ => ?_⟩
    · have := NM_no hp
      rw [qup95 (by omega), atW_o (by omega), tkW_o (by omega)]
    · rw [qup_j (by decide), atW_o (by decide), tkW_tk]; omega
    · rw [qup_j (by decide), qup_j (by decide), atW_o (by decide), tkW_tk, atW_at]; omega
    · rw [qup_j (by decide), qup_j (by decide), atW_o (by decide), tkW_tk, atW_at]; omega
  · have hab : a + 1 ≤ b := by
      rcases (show a = b ∨ a + 1 ≤ b by have := hD.1; omega) with q | q
      · subst q; exact absurd hd hD.2.2
      · exact q
    have hv := valF_in hD.2.1 (b - a) (by omega)
    refine ⟨⟨tk0 _ _ (dgW_I hIT hb6 hv.1 hv.2.1) (by split <;> omega) (by split <;> omega), fun p j hp => ?_⟩, ?_, ?_, fun _ => ?_⟩
    · have := NM_no hp
      rw [qup95 (by omega), dgW_o (by omega), tkW_o (by omega)]
    · rw [qup_j (by decide), dgW_o (by decide), tkW_tk]; omega
    · rw [qup_j (by decide), qup_j (by decide), dgW_o (by decide), tkW_tk, dgW_at]; omega
    · rw [qup_j (by decide), qup_j (by decide), dgW_o (by decide), tkW_tk, dgW_at]; omega
  · refine ⟨⟨tk0 _ _ (atW_I hIT (by omega)) (by split <;> omega) (by split <;> omega), fun p j hp => ?_⟩, ?_, ?_, fun _ => ?_⟩
    · have := NM_no hp
      rw [qup95 (by omega), atW_o (by omega), tkW_o (by omega)]
    · rw [qup_j (by decide), atW_o (by decide), tkW_tk]; omega
    · rw [qup_j (by decide), qup_j (by decide), atW_o (by decide), tkW_tk, atW_at]; omega
    · rw [qup_j (by decide), qup_j (by decide), atW_o (by decide), tkW_tk, atW_at]; omega
/-- a program's step: how high the pile is then -/
noncomputable def stepH (s v : Int) (h : Nat) : Option Nat := if s < 8 then some (h + 1) else if s = 11 then (if 1 ≤ h ∧ 1 ≤ v then some h else none) else if s = 15 then (if 1 ≤ h then some h else none) else if 2 ≤ h then some (h - 1) else none
noncomputable def runS (f : Nat → Int) : Nat → Nat → Nat → Option Nat
  | _, 0, h => some h
  | b, n + 1, h => match stepH (f (2 * b)) (f (2 * b + 1)) h with
    | some h' => runS f (b + 1) n h'
    | none => none
theorem runS_app {f : Nat → Int} : ∀ (n : Nat) {m b h k : Nat}, runS f b n h = some k → runS f b (n + m) h = runS f (b + n) m k
  | 0, m, b, h, k, e => by
    have e : some h = some k := e
    cases e
    rw [Nat.zero_add, Nat.add_zero]
  | n + 1, m, b, h, k, e => by
    rw [show n + 1 + m = (n + m) + 1 by omega]
    have e : (match stepH (f (2 * b)) (f (2 * b + 1)) h with
      | some h' => runS f (b + 1) n h'
      | none => none) = some k := e
    show (match stepH (f (2 * b)) (f (2 * b + 1)) h with
      | some h' => runS f (b + 1) (n + m) h'
      | none => none) = _
    cases hq : stepH (f (2 * b)) (f (2 * b + 1)) h with
    | none => rw [hq] at e; cases e
    | some h' =>
      rw [hq] at e
      show runS f (b + 1) (n + m) h' = _
      rw [runS_app n e, show b + 1 + n = b + (n + 1) by omega]
theorem runS_cong {f g : Nat → Int} : ∀ (n : Nat) {b h : Nat}, (∀ j, 2 * b ≤ j → j < 2 * (b + n) → f j = g j) → runS f b n h = runS g b n h
  | 0, _, _, _ => rfl
  | n + 1, b, h, e => by
    show (match stepH (f (2 * b)) (f (2 * b + 1)) h with
      | some h' => runS f (b + 1) n h'
      | none => none) = (match stepH (g (2 * b)) (g (2 * b + 1)) h with
      | some h' => runS g (b + 1) n h'
      | none => none)
    rw [e (2 * b) (by omega) (by omega), e (2 * b + 1) (by omega) (by omega)]
    cases stepH (g (2 * b)) (g (2 * b + 1)) h with
    | none => rfl
    | some h' => exact runS_cong n (fun j h1 h2 => e j (by omega) (by omega))
/-- a state between tokens -/
noncomputable def PI (w : qW) : Prop := yInv zgf zga zra zSp w ∧ w 95 28 ≤ w 95 26 ∧ (w 95 27 ≠ 0 → w 95 28 + 1 ≤ w 95 26)
/-- from w to w' so much was read and laid: the pile had n and has m; the slack, the depth -/
noncomputable def PS (n m : Nat) (s dd : Int) (w w' : qW) : Prop := yInv zgf zga zra zSp w ∧ AW PM w w' ∧ PI w' ∧ w 95 28 ≤ w' 95 28 ∧ w 95 28 - w 95 24 + s ≤ w' 95 28 - w' 95 24 ∧ w' 95 33 = w 95 33 + dd ∧ w 95 24 ≤ w' 95 24 ∧ (∀ j : Nat, (j : Int) < 2 * w 95 24 → w' 113 j = w 113 j) ∧ ∀ h, runS (w' 113) (w 95 24).toNat (w' 95 24 - w 95 24).toNat (h + n) = some (h + m)
theorem PS.rf {w : qW} (h : PI w) : PS 0 0 0 0 w w := ⟨h.1, AW.rf h.1, h, Int.le_refl _, by omega, by omega, Int.le_refl _, fun _ _ => rfl, fun h => by rw [Int.sub_self]; rfl⟩
theorem PS.tr {n m a b : Nat} {s t d e : Int} {w w1 w2 : qW} (h : PS n m s d w w1) (h2 : PS a b t e w1 w2) (ha : a ≤ m) : PS n (m - a + b) (s + t) (d + e) w w2 := by
  obtain ⟨x0, x1, x2, x3, x4, x5, x6, x7, x8⟩ := h
  obtain ⟨y0, y1, y2, y3, y4, y5, y6, y7, y8⟩ := h2
  have g0 := zfld x0 (j := 24) (b := (0, 610)) rfl
  have hw : (0 : Int) ≤ w 95 24 := g0.1
  have f0 := zfld x1.1 (j := 24) (b := (0, 610)) rfl
  have f1 : (0 : Int) ≤ w1 95 24 := f0.1
  refine ⟨x0, x1.tr y1 (by decide +kernel), y2, by omega, by omega, by omega, by omega, fun j hj => (y7 j (by omega)).trans (x7 j hj), fun q => ?_⟩
  have e1 : (w2 95 24 - w 95 24).toNat = (w1 95 24 - w 95 24).toNat + (w2 95 24 - w1 95 24).toNat := by omega
  have e2 : runS (w2 113) (w 95 24).toNat (w1 95 24 - w 95 24).toNat (q + n) = some (q + m) := by
    rw [← x8 q]
    exact runS_cong _ (fun j h1 h2 => y7 j (by omega))
  rw [e1, runS_app _ e2, show (w 95 24).toNat + (w1 95 24 - w 95 24).toNat = (w1 95 24).toNat by omega]
  have := y8 (q + (m - a))
  rw [show q + (m - a) + a = q + m by omega] at this
  rw [this]
  congr 1; omega
theorem PS.cast {n m n' m' : Nat} {s d s' d' : Int} {w w1 : qW} (h : PS n m s d w w1) (e1 : n = n') (e2 : m = m') (e3 : s' ≤ s) (e4 : d = d') : PS n' m' s' d' w w1 := by
  subst e1; subst e2; subst e4
  obtain ⟨x0, x1, x2, x3, x4, x5, x6, x7, x8⟩ := h
  exact ⟨x0, x1, x2, x3, by omega, x5, x6, x7, x8⟩
/-- next0 over a token -/
theorem PS.next {w w1 : qW} (hP : PI w) (ht : w 95 27 ≠ 0) (h : NX w w1) : PS 0 0 1 0 w w1 ∧ w 95 28 + 1 ≤ w1 95 28 := by
  obtain ⟨hA, h1, h2, h3⟩ := h.look hP.1
  have e24 : w1 95 24 = w 95 24 := hA.2 95 24 (fun _ => rfl)
  have e33 : w1 95 33 = w 95 33 := hA.2 95 33 (fun _ => rfl)
  have hp := hP.2.2 ht
  refine ⟨⟨hP.1, ⟨hA.1, fun p j hp => hA.2 p j (fun k => ysubm_ok (b := PM) (by decide +kernel) k (hp k))⟩, ⟨hA.1, h2, h3⟩, by omega, by omega, by omega, by omega, fun j hj => hA.2 113 j (fun _ => ymo_far (by decide) (by decide +kernel) j), fun q => ?_⟩, by omega⟩
  rw [e24, Int.sub_self]; rfl
noncomputable def layW (w : qW) (k v : Int) : qW := qup (qup (qup w 113 (2 * (w 95 24).toNat) k) 113 (2 * (w 95 24).toNat + 1) v) 95 24 (w 95 24 + 1)
theorem layW_I {w : qW} {k v : Int} (hI : yInv zgf zga zra zSp w) (hf : w 95 24 ≤ 609) (hk : yin (-2147483648, 2147483647) k) (hv : yin (-2147483648, 2147483647) v) : yInv zgf zga zra zSp (layW w k v) := by
  have g0 := zfld hI (j := 24) (b := (0, 610)) rfl
  have hw : (0 : Int) ≤ w 95 24 := g0.1
  exact zup_f (zup_a (zup_a hI (b := (-2147483648, 2147483647)) rfl rfl hk) (b := (-2147483648, 2147483647)) rfl rfl hv) (b := (0, 610)) rfl rfl rfl ⟨by show (0 : Int) ≤ _; omega, by show _ ≤ (610 : Int); omega⟩
/-- a step is laid -/
theorem PS.lay {w : qW} {k v : Int} {n m : Nat} (hP : PI w) (hf : w 95 24 ≤ 609) (hk : yin (-2147483648, 2147483647) k) (hv : yin (-2147483648, 2147483647) v) (hs : ∀ h, stepH k v (h + n) = some (h + m)) : PS n m (-1) 0 w (layW w k v) := by
  have g0 := zfld hP.1 (j := 24) (b := (0, 610)) rfl
  have hw : (0 : Int) ≤ w 95 24 := g0.1
  have hI := layW_I hP.1 hf hk hv
  have o : ∀ j, j ≠ 24 → layW w k v 95 j = w 95 j := fun j hj => by unfold layW; rw [qup_j hj, qup_ne (by decide), qup_ne (by decide)]
  have e24 : layW w k v 95 24 = w 95 24 + 1 := qup_k
  have e113 : layW w k v 113 = (qup (qup w 113 (2 * (w 95 24).toNat) k) 113 (2 * (w 95 24).toNat + 1) v) 113 := qup_ne (by decide)
  refine ⟨hP.1, ⟨hI, fun p j hp => ?_⟩, ⟨hI, by rw [o 28 (by decide), o 26 (by decide)]; exact hP.2.1, fun z => by rw [o 27 (by decide)] at z; rw [o 28 (by decide), o 26 (by decide)]; exact hP.2.2 z⟩, by rw [o 28 (by decide)]; omega, by rw [o 28 (by decide), e24]; omega, by rw [o 33 (by decide)]; omega, by rw [e24]; omega, fun j hj => ?_, fun q => ?_⟩
  · have h1 : p ≠ 113 := fun z => by subst z; exact absurd (hp (by decide)) (by rw [show ymo 113 j PM = true from rfl]; decide)
    by_cases h2 : p = 95
    · subst h2
      exact o j (fun z => by subst z; exact absurd (hp (by decide)) (by decide))
    · unfold layW; rw [qup_ne h2, qup_ne h1, qup_ne h1]
  · rw [e113, qup_j (by omega), qup_j (by omega)]
  · rw [e24, show (w 95 24 + 1 - w 95 24).toNat = 1 by omega]
    show (match stepH (layW w k v 113 (2 * (w 95 24).toNat)) (layW w k v 113 (2 * (w 95 24).toNat + 1)) (q + n) with
      | some h' => some h'
      | none => none) = _
    rw [e113, qup_k, qup_j (by omega), qup_k, hs]
theorem PS.fs {n m : Nat} {s d : Int} {w w1 : qW} (h : PS n m s d w w1) : w1 95 24 ≤ w1 95 28 - (w 95 28 - w 95 24 + s) := by
  obtain ⟨x0, x1, x2, x3, x4, x5, x6, x7, x8⟩ := h
  omega
theorem PI.b {w : qW} (h : PI w) : 0 ≤ w 95 24 ∧ w 95 24 ≤ 610 ∧ 0 ≤ w 95 28 ∧ w 95 28 ≤ 600 ∧ 0 ≤ w 95 33 ∧ w 95 33 ≤ 8 ∧ 0 ≤ w 95 29 ∧ w 95 29 ≤ 9999 ∧ 0 ≤ w 95 27 ∧ w 95 27 ≤ 355 := by
  have a := zfld h.1 (j := 24) (b := (0, 610)) rfl
  have b := zfld h.1 (j := 28) (b := (0, 600)) rfl
  have c := zfld h.1 (j := 33) (b := (0, 8)) rfl
  have d := zfld h.1 (j := 29) (b := (0, 9999)) rfl
  have e := zfld h.1 (j := 27) (b := (0, 355)) rfl
  exact ⟨a.1, a.2, b.1, b.2, c.1, c.2, d.1, d.2, e.1, e.2⟩
/-- the depth is told anew -/
theorem PS.dep {n m : Nat} {s d d' v : Int} {w w1 : qW} (h : PS n m s d w w1) (h0 : 0 ≤ v) (h8 : v ≤ 8) (e : v = w 95 33 + d') : PS n m s d' w (qup w1 95 33 v) := by
  obtain ⟨x0, x1, x2, x3, x4, x5, x6, x7, x8⟩ := h
  have hI : yInv zgf zga zra zSp (qup w1 95 33 v) := zup_f x1.1 (b := (0, 8)) rfl rfl rfl ⟨h0, h8⟩
  have o : ∀ j, j ≠ 33 → qup w1 95 33 v 95 j = w1 95 j := fun j hj => qup_j hj
  have e113 : qup w1 95 33 v 113 = w1 113 := qup_ne (by decide)
  refine ⟨x0, ⟨hI, fun p j hp => ?_⟩, ⟨hI, by rw [o 28 (by decide), o 26 (by decide)]; exact x2.2.1, fun z => by rw [o 27 (by decide)] at z; rw [o 28 (by decide), o 26 (by decide)]; exact x2.2.2 z⟩, by rw [o 28 (by decide)]; omega, by rw [o 28 (by decide), o 24 (by decide)]; omega, by rw [qup_k]; exact e, by rw [o 24 (by decide)]; omega, fun j hj => by rw [e113]; exact x7 j hj, fun q => by rw [e113, o 24 (by decide)]; exact x8 q⟩
  by_cases h2 : p = 95
  · subst h2
    rw [o j (fun z => by subst z; exact absurd (hp (by decide)) (by decide))]
    exact x1.2 95 j hp
  · rw [qup_ne h2]; exact x1.2 p j hp
theorem AW.bad {w w1 : qW} {k : Int} (h : AW PM w w1) (h0 : 0 ≤ k) (h3 : k ≤ 3) : AW PM w (qup (qup w1 95 30 k) 95 31 (w1 95 28)) := by
  have b := zfld h.1 (j := 28) (b := (0, 600)) rfl
  refine ⟨zup_f (zup_f h.1 (b := (0, 3)) rfl rfl rfl ⟨h0, h3⟩) (b := (0, 600)) rfl rfl rfl b, fun p j hp => ?_⟩
  by_cases h2 : p = 95
  · subst h2
    rw [qup_j (fun z => by subst z; exact absurd (hp (by decide)) (by decide)), qup_j (fun z => by subst z; exact absurd (hp (by decide)) (by decide))]
    exact h.2 95 j hp
  · rw [qup_ne h2, qup_ne h2]; exact h.2 p j hp
theorem K_bad {d : Nat} (hd : 0 ≤ d) (k : Int) (w : qW) (hI : yInv zgf zga zra zSp w) (h0 : 0 ≤ k) (h3 : k ≤ 3) : qG none d 232 0 [(2, 95), (0, k)] [] w 142 (fun (r : qV) (w1 : qW) (n1 : Nat) => r = (0, 0) ∧ w1 = qup (qup w 95 30 k) 95 31 (w 95 28) ∧ n1 = 142) := by
  generalize hQ9 : (fun (r : qV) (w1 : qW) (n1 : Nat) => r = (0, 0) ∧ w1 = qup (qup w 95 30 k) 95 31 (w 95 28) ∧ n1 = 142) = Q9
  refine qG.blk 8 (pc' := 14) (ls' := [(2, 95), (0, k)]) (st' := [(0, 0)]) (w' := (qup (qup w 95 30 k) 95 31 (w 95 28))) (n' := 142) rfl ?_
  refine qG.ret rfl (by first | rfl | exact decide_eq_true (by omega)) ?_
  subst hQ9
  exact ⟨rfl, rfl, rfl⟩
theorem K_lay {d : Nat} (hd : 0 ≤ d) (k v : Int) (w : qW) (hI : yInv zgf zga zra zSp w) (hf : w 95 24 ≤ 609) : qG none d 235 0 [(2, 95), (0, k), (0, v)] [] w 142 (fun (r : qV) (w1 : qW) (n1 : Nat) => r = (9, 0) ∧ w1 = layW w k v ∧ n1 = 142) := by
  generalize hQ9 : (fun (r : qV) (w1 : qW) (n1 : Nat) => r = (9, 0) ∧ w1 = layW w k v ∧ n1 = 142) = Q9
  have h24 := zfld hI (j := 24) (b := (0, 610)) rfl
  have a24 : (0 : Int) ≤ w 95 24 := h24.1
  refine qG.blk 2 (pc' := 4) (ls' := [(2, 95), (0, k), (0, v)]) (st' := [(2, w 95 19)]) (w' := w) (n' := 142) rfl ?_
  rw [show w 95 19 = 113 from zref hI rfl rfl]
  refine qG.blk 4 (pc' := 10) (ls' := [(2, 95), (0, k), (0, v)]) (st' := [(0, wrp (2 * (w 95 24))), (2, 113)]) (w' := w) (n' := 142) rfl ?_
  rw [show wrp (2 * (w 95 24)) = ((2 * (w 95 24).toNat : Nat) : Int) from by rw [wrp_id (by omega) (by omega)]; omega]
  refine qG.blk 1 (pc' := 11) (ls' := [(2, 95), (0, k), (0, v)]) (st' := [(0, k), (0, ((2 * (w 95 24).toNat : Nat) : Int)), (2, 113)]) (w' := w) (n' := 142) rfl ?_
  refine qG.ist (m := 1220) rfl rfl (by omega) (by decide) ?_
  show qG none d 235 12 [(2, 95), (0, k), (0, v)] [] (qup w 113 (2 * (w 95 24).toNat) k) 142 Q9
  refine qG.blk 2 (pc' := 16) (ls' := [(2, 95), (0, k), (0, v)]) (st' := [(2, w 95 19)]) (w' := (qup w 113 (2 * (w 95 24).toNat) k)) (n' := 142) rfl ?_
  rw [show w 95 19 = 113 from zref hI rfl rfl]
  refine qG.blk 4 (pc' := 22) (ls' := [(2, 95), (0, k), (0, v)]) (st' := [(0, wrp (2 * (w 95 24))), (2, 113)]) (w' := (qup w 113 (2 * (w 95 24).toNat) k)) (n' := 142) rfl ?_
  rw [show wrp (2 * (w 95 24)) = ((2 * (w 95 24).toNat : Nat) : Int) from by rw [wrp_id (by omega) (by omega)]; omega]
  refine qG.blk 2 (pc' := 24) (ls' := [(2, 95), (0, k), (0, v)]) (st' := [(0, wrp (((2 * (w 95 24).toNat : Nat) : Int) + 1)), (2, 113)]) (w' := (qup w 113 (2 * (w 95 24).toNat) k)) (n' := 142) rfl ?_
  rw [show wrp (((2 * (w 95 24).toNat : Nat) : Int) + 1) = ((2 * (w 95 24).toNat + 1 : Nat) : Int) from by rw [wrp_id (by omega) (by omega)]; omega]
  refine qG.blk 1 (pc' := 25) (ls' := [(2, 95), (0, k), (0, v)]) (st' := [(0, v), (0, ((2 * (w 95 24).toNat + 1 : Nat) : Int)), (2, 113)]) (w' := (qup w 113 (2 * (w 95 24).toNat) k)) (n' := 142) rfl ?_
  refine qG.ist (m := 1220) rfl rfl (by omega) (by decide) ?_
  show qG none d 235 26 [(2, 95), (0, k), (0, v)] [] (qup (qup w 113 (2 * (w 95 24).toNat) k) 113 (2 * (w 95 24).toNat + 1) v) 142 Q9
  refine qG.blk 5 (pc' := 33) (ls' := [(2, 95), (0, k), (0, v)]) (st' := [(0, wrp ((w 95 24) + 1)), (2, 95)]) (w' := (qup (qup w 113 (2 * (w 95 24).toNat) k) 113 (2 * (w 95 24).toNat + 1) v)) (n' := 142) rfl ?_
  rw [show wrp ((w 95 24) + 1) = w 95 24 + 1 from wrp_id (by omega) (by omega)]
  refine qG.blk 1 (pc' := 36) (ls' := [(2, 95), (0, k), (0, v)]) (st' := []) (w' := (qup (qup (qup w 113 (2 * (w 95 24).toNat) k) 113 (2 * (w 95 24).toNat + 1) v) 95 24 (w 95 24 + 1))) (n' := 142) rfl ?_
  refine qG.retv rfl rfl ?_
  subst hQ9
  exact ⟨rfl, rfl, rfl⟩
theorem K_need {d : Nat} (hd : 8 ≤ d) (t : Int) (ht : t ≠ 0) (w : qW) (hP : PI w) : qG none d 233 0 [(2, 95), (0, t)] [] w 142 (fun (r : qV) (w1 : qW) (n1 : Nat) => n1 = 142 ∧ ((r = (0, 0) ∧ AW PM w w1) ∨ (r = (0, 1) ∧ PS 0 0 1 0 w w1))) := by
  generalize hQ9 : (fun (r : qV) (w1 : qW) (n1 : Nat) => n1 = 142 ∧ ((r = (0, 0) ∧ AW PM w w1) ∨ (r = (0, 1) ∧ PS 0 0 1 0 w w1))) = Q9
  have hb0 := hP.b
  obtain ⟨d, rfl⟩ : ∃ d9, d = d9 + 1 := ⟨d - 1, by omega⟩
  refine qG.blk 3 (pc' := 5) (ls' := [(2, 95), (0, t)]) (st' := [(0, t), (0, w 95 27)]) (w' := w) (n' := 142) rfl ?_
  refine qG.br (P := w 95 27 = t) (pc1 := 14) (pc2 := 8) (st1 := []) rfl (fun h1 => ?_) (fun h1 => ?_)
  · skip
    refine qG.blk 1 (pc' := 15) (ls' := [(2, 95), (0, t)]) (st' := [(2, 95)]) (w' := w) (n' := 142) rfl ?_
    refine qG.call (t := 231) (na := 1) (sk := 1) (md := 1) (ls1 := [(2, 95), (9, 0)]) (r1 := []) rfl rfl rfl rfl rfl (K_next0 (by omega) w hP.1) ?_
    rintro _ w2 _ ⟨rfl, rfl, hX2⟩
    have hn2 := PS.next hP (by omega) hX2
    have hP2 := PS.tr (PS.rf hP) hn2.1 (by omega)
    have hI2 : PI w2 := hn2.1.2.2.1
    have hg2 := hn2.2
    have hb2 := hI2.b
    have hq2 := hP2.fs
    have hd2 := hP2.2.2.2.2.2.1
    show qG none (d + 1) 233 18 [(2, 95), (0, t)] [] w2 142 Q9
    refine qG.blk 1 (pc' := 19) (ls' := [(2, 95), (0, t)]) (st' := [(0, 1)]) (w' := w2) (n' := 142) rfl ?_
    refine qG.ret rfl (by first | rfl | exact decide_eq_true (by omega)) ?_
    subst hQ9
    exact ⟨rfl, .inr ⟨rfl, hP2.cast (by omega) (by omega) (by omega) (by omega)⟩⟩
  · skip
    refine qG.blk 2 (pc' := 10) (ls' := [(2, 95), (0, t)]) (st' := [(0, 1), (2, 95)]) (w' := w) (n' := 142) rfl ?_
    refine qG.call (t := 232) (na := 2) (sk := 1) (md := 1) (ls1 := [(2, 95), (0, 1)]) (r1 := []) rfl rfl rfl rfl rfl (K_bad (by omega) 1 w hP.1 (by decide) (by decide)) ?_
    rintro _ _ _ ⟨rfl, rfl, rfl⟩
    show qG none (d + 1) 233 13 [(2, 95), (0, t)] [(0, 0)] (qup (qup w 95 30 1) 95 31 (w 95 28)) 142 Q9
    refine qG.ret rfl (by first | rfl | exact decide_eq_true (by omega)) ?_
    subst hQ9
    exact ⟨rfl, .inl ⟨rfl, AW.bad (PS.rf hP).2.1 (by decide) (by decide)⟩⟩
theorem K_number {d : Nat} (hd : 8 ≤ d) (a b : Int) (w : qW) (hP : PI w) : qG none d 234 0 [(2, 95), (0, a), (0, b)] [] w 142 (fun (r : qV) (w1 : qW) (n1 : Nat) => n1 = 142 ∧ ((r = (0, 0) ∧ AW PM w w1) ∨ (r = (0, 1) ∧ a ≤ w 95 29 ∧ w 95 29 ≤ b ∧ PS 0 0 1 0 w w1))) := by
  generalize hQ9 : (fun (r : qV) (w1 : qW) (n1 : Nat) => n1 = 142 ∧ ((r = (0, 0) ∧ AW PM w w1) ∨ (r = (0, 1) ∧ a ≤ w 95 29 ∧ w 95 29 ≤ b ∧ PS 0 0 1 0 w w1))) = Q9
  have hb0 := hP.b
  obtain ⟨d, rfl⟩ : ∃ d9, d = d9 + 1 := ⟨d - 1, by omega⟩
  refine qG.blk 3 (pc' := 5) (ls' := [(2, 95), (0, a), (0, b)]) (st' := [(0, 2), (0, w 95 27)]) (w' := w) (n' := 142) rfl ?_
  refine qG.br (P := w 95 27 = 2) (pc1 := 14) (pc2 := 8) (st1 := []) rfl (fun h1 => ?_) (fun h1 => ?_)
  · skip
    refine qG.blk 4 (pc' := 20) (ls' := [(2, 95), (0, a), (0, b)]) (st' := [(0, b), (0, a), (0, w 95 29)]) (w' := w) (n' := 142) rfl ?_
    refine qG.call (t := 206) (na := 3) (sk := 0) (md := 0) (ls1 := [(0, w 95 29), (0, a), (0, b)]) (r1 := []) rfl rfl rfl rfl rfl (K_isIn (by omega) _ _ _ _) ?_
    rintro _ w7 _ ⟨rfl, hw7, rfl⟩
    rw [hw7]
    show qG none (d + 1) 234 23 [(2, 95), (0, a), (0, b)] [(0, isInV (w 95 29) a b)] w 142 Q9
    refine qG.br (P := isInV (w 95 29) a b = 0) (pc1 := 26) (pc2 := 32) (st1 := []) rfl (fun hin => ?_) (fun hin => ?_)
    · skip
      refine qG.blk 2 (pc' := 28) (ls' := [(2, 95), (0, a), (0, b)]) (st' := [(0, 2), (2, 95)]) (w' := w) (n' := 142) rfl ?_
      refine qG.call (t := 232) (na := 2) (sk := 1) (md := 1) (ls1 := [(2, 95), (0, 2)]) (r1 := []) rfl rfl rfl rfl rfl (K_bad (by omega) 2 w hP.1 (by decide) (by decide)) ?_
      rintro _ _ _ ⟨rfl, rfl, rfl⟩
      show qG none (d + 1) 234 31 [(2, 95), (0, a), (0, b)] [(0, 0)] (qup (qup w 95 30 2) 95 31 (w 95 28)) 142 Q9
      refine qG.ret rfl (by first | rfl | exact decide_eq_true (by omega)) ?_
      subst hQ9
      exact ⟨rfl, .inl ⟨rfl, AW.bad (PS.rf hP).2.1 (by decide) (by decide)⟩⟩
    · skip
      refine qG.blk 1 (pc' := 33) (ls' := [(2, 95), (0, a), (0, b)]) (st' := [(2, 95)]) (w' := w) (n' := 142) rfl ?_
      refine qG.call (t := 231) (na := 1) (sk := 1) (md := 1) (ls1 := [(2, 95), (9, 0)]) (r1 := []) rfl rfl rfl rfl rfl (K_next0 (by omega) w hP.1) ?_
      rintro _ w2 _ ⟨rfl, rfl, hX2⟩
      have hn2 := PS.next hP (by omega) hX2
      have hP2 := PS.tr (PS.rf hP) hn2.1 (by omega)
      have hI2 : PI w2 := hn2.1.2.2.1
      have hg2 := hn2.2
      have hb2 := hI2.b
      have hq2 := hP2.fs
      have hd2 := hP2.2.2.2.2.2.1
      show qG none (d + 1) 234 36 [(2, 95), (0, a), (0, b)] [] w2 142 Q9
      refine qG.blk 1 (pc' := 37) (ls' := [(2, 95), (0, a), (0, b)]) (st' := [(0, 1)]) (w' := w2) (n' := 142) rfl ?_
      refine qG.ret rfl (by first | rfl | exact decide_eq_true (by omega)) ?_
      subst hQ9
      exact ⟨rfl, .inr ⟨rfl, by unfold isInV at hin; (repeat' split at hin) <;> omega, by unfold isInV at hin; (repeat' split at hin) <;> omega, hP2.cast (by omega) (by omega) (by omega) (by omega)⟩⟩
  · skip
    refine qG.blk 2 (pc' := 10) (ls' := [(2, 95), (0, a), (0, b)]) (st' := [(0, 1), (2, 95)]) (w' := w) (n' := 142) rfl ?_
    refine qG.call (t := 232) (na := 2) (sk := 1) (md := 1) (ls1 := [(2, 95), (0, 1)]) (r1 := []) rfl rfl rfl rfl rfl (K_bad (by omega) 1 w hP.1 (by decide) (by decide)) ?_
    rintro _ _ _ ⟨rfl, rfl, rfl⟩
    show qG none (d + 1) 234 13 [(2, 95), (0, a), (0, b)] [(0, 0)] (qup (qup w 95 30 1) 95 31 (w 95 28)) 142 Q9
    refine qG.ret rfl (by first | rfl | exact decide_eq_true (by omega)) ?_
    subst hQ9
    exact ⟨rfl, .inl ⟨rfl, AW.bad (PS.rf hP).2.1 (by decide) (by decide)⟩⟩
theorem K_opens {d : Nat} (hd : 8 ≤ d) (w : qW) (ht : w 95 27 ≠ 0) (hP : PI w) : qG none d 236 0 [(2, 95)] [] w 142 (fun (r : qV) (w1 : qW) (n1 : Nat) => n1 = 142 ∧ ((r = (0, 0) ∧ AW PM w w1) ∨ (r = (0, 1) ∧ PS 0 0 1 1 w w1))) := by
  generalize hQ9 : (fun (r : qV) (w1 : qW) (n1 : Nat) => n1 = 142 ∧ ((r = (0, 0) ∧ AW PM w w1) ∨ (r = (0, 1) ∧ PS 0 0 1 1 w w1))) = Q9
  have hb0 := hP.b
  obtain ⟨d, rfl⟩ : ∃ d9, d = d9 + 1 := ⟨d - 1, by omega⟩
  refine qG.blk 3 (pc' := 6) (ls' := [(2, 95)]) (st' := [(0, 8), (0, w 95 33)]) (w' := w) (n' := 142) rfl ?_
  refine qG.br (P := w 95 33 = 8) (pc1 := 9) (pc2 := 15) (st1 := []) rfl (fun h1 => ?_) (fun h1 => ?_)
  · skip
    refine qG.blk 2 (pc' := 11) (ls' := [(2, 95)]) (st' := [(0, 3), (2, 95)]) (w' := w) (n' := 142) rfl ?_
    refine qG.call (t := 232) (na := 2) (sk := 1) (md := 1) (ls1 := [(2, 95), (0, 3)]) (r1 := []) rfl rfl rfl rfl rfl (K_bad (by omega) 3 w hP.1 (by decide) (by decide)) ?_
    rintro _ _ _ ⟨rfl, rfl, rfl⟩
    show qG none (d + 1) 236 14 [(2, 95)] [(0, 0)] (qup (qup w 95 30 3) 95 31 (w 95 28)) 142 Q9
    refine qG.ret rfl (by first | rfl | exact decide_eq_true (by omega)) ?_
    subst hQ9
    exact ⟨rfl, .inl ⟨rfl, AW.bad (PS.rf hP).2.1 (by decide) (by decide)⟩⟩
  · skip
    refine qG.blk 5 (pc' := 22) (ls' := [(2, 95)]) (st' := [(0, wrp ((w 95 33) + 1)), (2, 95)]) (w' := w) (n' := 142) rfl ?_
    rw [show wrp ((w 95 33) + 1) = w 95 33 + 1 from wrp_id (by omega) (by omega)]
    refine qG.blk 2 (pc' := 26) (ls' := [(2, 95)]) (st' := [(2, 95)]) (w' := (qup w 95 33 (w 95 33 + 1))) (n' := 142) rfl ?_
    refine qG.call (t := 231) (na := 1) (sk := 1) (md := 1) (ls1 := [(2, 95), (9, 0)]) (r1 := []) rfl rfl rfl rfl rfl (K_next0 (by omega) (qup w 95 33 (w 95 33 + 1)) (PS.dep (d' := 1) (PS.rf hP) (v := w 95 33 + 1) (by omega) (by omega) (by omega)).2.2.1.1) ?_
    rintro _ w2 _ ⟨rfl, rfl, hX2⟩
    have hn2 := PS.next (PS.dep (d' := 1) (PS.rf hP) (v := w 95 33 + 1) (by omega) (by omega) (by omega)).2.2.1 (by rw [qup_j (by decide)]; omega) hX2
    have hP2 := PS.tr (PS.dep (d' := 1) (PS.rf hP) (v := w 95 33 + 1) (by omega) (by omega) (by omega)) hn2.1 (by omega)
    have hI2 : PI w2 := hn2.1.2.2.1
    have hg2 := hn2.2
    have hb2 := hI2.b
    have hq2 := hP2.fs
    have hd2 := hP2.2.2.2.2.2.1
    show qG none (d + 1) 236 29 [(2, 95)] [] w2 142 Q9
    refine qG.blk 1 (pc' := 30) (ls' := [(2, 95)]) (st' := [(0, 1)]) (w' := w2) (n' := 142) rfl ?_
    refine qG.ret rfl (by first | rfl | exact decide_eq_true (by omega)) ?_
    subst hQ9
    exact ⟨rfl, .inr ⟨rfl, hP2.cast (by omega) (by omega) (by omega) (by omega)⟩⟩
theorem K_unit {d : Nat} (hd : 9 ≤ d) (w : qW) (hP : PI w) (hD : w 95 24 ≤ w 95 28) : qG none d 239 0 [(2, 95), (9, 0), (9, 0)] [] w 142 (fun (r : qV) (w1 : qW) (n1 : Nat) => n1 = 142 ∧ ((r = (0, 0) ∧ AW PM w w1) ∨ (r = (0, 1) ∧ PS 0 1 0 0 w w1))) := by
  generalize hQ9 : (fun (r : qV) (w1 : qW) (n1 : Nat) => n1 = 142 ∧ ((r = (0, 0) ∧ AW PM w w1) ∨ (r = (0, 1) ∧ PS 0 1 0 0 w w1))) = Q9
  have hb0 := hP.b
  obtain ⟨d, rfl⟩ : ∃ d9, d = d9 + 1 := ⟨d - 1, by omega⟩
  refine qG.blk 5 (pc' := 7) (ls' := [(2, 95), (0, w 95 27), (9, 0)]) (st' := [(0, 2), (0, w 95 27)]) (w' := w) (n' := 142) rfl ?_
  refine qG.br (P := w 95 27 = 2) (pc1 := 10) (pc2 := 25) (st1 := []) rfl (fun ht2 => ?_) (fun ht2 => ?_)
  · skip
    refine qG.blk 4 (pc' := 16) (ls' := [(2, 95), (0, w 95 27), (9, 0)]) (st' := [(0, w 95 29), (0, 0), (2, 95)]) (w' := w) (n' := 142) rfl ?_
    refine qG.call (t := 235) (na := 3) (sk := 1) (md := 1) (ls1 := [(2, 95), (0, 0), (0, w 95 29)]) (r1 := []) rfl rfl rfl rfl rfl (K_lay (by omega) 0 (w 95 29) w hP.1 (by first | omega | (rw [qup_j (by decide)]; omega))) ?_
    rintro _ _ _ ⟨rfl, rfl, rfl⟩
    have hl1 := PS.lay (n := 0) (m := 1) hP (by first | omega | (rw [qup_j (by decide)]; omega)) (k := 0) (v := w 95 29) ⟨by show (-2147483648 : Int) ≤ _; omega, by show _ ≤ (2147483647 : Int); omega⟩ ⟨by show (-2147483648 : Int) ≤ _; omega, by show _ ≤ (2147483647 : Int); omega⟩ (fun h => by unfold stepH; rw [if_pos (by omega)])
    have hP1 := PS.tr (PS.rf hP) hl1 (by omega)
    have hI1 : PI (layW w 0 (w 95 29)) := hl1.2.2.1
    have hb1 := hI1.b
    have hq1 := hP1.fs
    have hd1 := hP1.2.2.2.2.2.1
    have hm1 := hl1.2.2.2.1
    show qG none (d + 1) 239 19 [(2, 95), (0, w 95 27), (9, 0)] [] (layW w 0 (w 95 29)) 142 Q9
    refine qG.blk 1 (pc' := 20) (ls' := [(2, 95), (0, w 95 27), (9, 0)]) (st' := [(2, 95)]) (w' := (layW w 0 (w 95 29))) (n' := 142) rfl ?_
    refine qG.call (t := 231) (na := 1) (sk := 1) (md := 1) (ls1 := [(2, 95), (9, 0)]) (r1 := []) rfl rfl rfl rfl rfl (K_next0 (by omega) (layW w 0 (w 95 29)) hI1.1) ?_
    rintro _ w2 _ ⟨rfl, rfl, hX2⟩
    have hn2 := PS.next hI1 (by unfold layW; rw [qup_j (by decide), qup_ne (by decide), qup_ne (by decide)]; omega) hX2
    have hP2 := PS.tr hP1 hn2.1 (by omega)
    have hI2 : PI w2 := hn2.1.2.2.1
    have hg2 := hn2.2
    have hb2 := hI2.b
    have hq2 := hP2.fs
    have hd2 := hP2.2.2.2.2.2.1
    show qG none (d + 1) 239 23 [(2, 95), (0, w 95 27), (9, 0)] [] w2 142 Q9
    refine qG.blk 1 (pc' := 24) (ls' := [(2, 95), (0, w 95 27), (9, 0)]) (st' := [(0, 1)]) (w' := w2) (n' := 142) rfl ?_
    refine qG.ret rfl (by first | rfl | exact decide_eq_true (by omega)) ?_
    subst hQ9
    exact ⟨rfl, .inr ⟨rfl, hP2.cast (by omega) (by omega) (by omega) (by omega)⟩⟩
  · skip
    refine qG.blk 3 (pc' := 30) (ls' := [(2, 95), (0, w 95 27), (9, 0)]) (st' := [(0, 47), (0, 41), (0, w 95 27)]) (w' := w) (n' := 142) rfl ?_
    refine qG.call (t := 206) (na := 3) (sk := 0) (md := 0) (ls1 := [(0, w 95 27), (0, 41), (0, 47)]) (r1 := []) rfl rfl rfl rfl rfl (K_isIn (by omega) _ _ _ _) ?_
    rintro _ w7 _ ⟨rfl, hw7, rfl⟩
    rw [hw7]
    show qG none (d + 1) 239 33 [(2, 95), (0, w 95 27), (9, 0)] [(0, isInV (w 95 27) 41 47)] w 142 Q9
    refine qG.br (P := isInV (w 95 27) 41 47 = 0) (pc1 := 36) (pc2 := 42) (st1 := []) rfl (fun hin => ?_) (fun hin => ?_)
    · skip
      refine qG.blk 2 (pc' := 38) (ls' := [(2, 95), (0, w 95 27), (9, 0)]) (st' := [(0, 1), (2, 95)]) (w' := w) (n' := 142) rfl ?_
      refine qG.call (t := 232) (na := 2) (sk := 1) (md := 1) (ls1 := [(2, 95), (0, 1)]) (r1 := []) rfl rfl rfl rfl rfl (K_bad (by omega) 1 w hP.1 (by decide) (by decide)) ?_
      rintro _ _ _ ⟨rfl, rfl, rfl⟩
      show qG none (d + 1) 239 41 [(2, 95), (0, w 95 27), (9, 0)] [(0, 0)] (qup (qup w 95 30 1) 95 31 (w 95 28)) 142 Q9
      refine qG.ret rfl (by first | rfl | exact decide_eq_true (by omega)) ?_
      subst hQ9
      exact ⟨rfl, .inl ⟨rfl, AW.bad (PS.rf hP).2.1 (by decide) (by decide)⟩⟩
    · skip
      have hin2 : 41 ≤ w 95 27 ∧ w 95 27 ≤ 47 := by unfold isInV at hin; (repeat' split at hin) <;> omega
      refine qG.blk 1 (pc' := 43) (ls' := [(2, 95), (0, w 95 27), (9, 0)]) (st' := [(2, 95)]) (w' := w) (n' := 142) rfl ?_
      refine qG.call (t := 231) (na := 1) (sk := 1) (md := 1) (ls1 := [(2, 95), (9, 0)]) (r1 := []) rfl rfl rfl rfl rfl (K_next0 (by omega) w hP.1) ?_
      rintro _ w3 _ ⟨rfl, rfl, hX3⟩
      have hn3 := PS.next hP (by omega) hX3
      have hP3 := PS.tr (PS.rf hP) hn3.1 (by omega)
      have hI3 : PI w3 := hn3.1.2.2.1
      have hg3 := hn3.2
      have hb3 := hI3.b
      have hq3 := hP3.fs
      have hd3 := hP3.2.2.2.2.2.1
      show qG none (d + 1) 239 46 [(2, 95), (0, w 95 27), (9, 0)] [] w3 142 Q9
      refine qG.blk 5 (pc' := 54) (ls' := [(2, 95), (0, w 95 27), (0, w3 95 29)]) (st' := [(0, 43), (0, w 95 27)]) (w' := w3) (n' := 142) rfl ?_
      refine qG.br (P := w 95 27 < 43) (pc1 := 57) (pc2 := 69) (st1 := []) rfl (fun ht43 => ?_) (fun ht43 => ?_)
      · skip
        refine qG.blk 3 (pc' := 61) (ls' := [(2, 95), (0, w 95 27), (0, w3 95 29)]) (st' := [(0, 15), (0, 0), (2, 95)]) (w' := w3) (n' := 142) rfl ?_
        refine qG.call (t := 234) (na := 3) (sk := 1) (md := 1) (ls1 := [(2, 95), (0, 0), (0, 15)]) (r1 := []) rfl rfl rfl rfl rfl (K_number (by omega) 0 15 w3 hI3) ?_
        rintro _ w4 _ ⟨rfl, ⟨rfl, hA4⟩ | ⟨rfl, hlo4, hhi4, hS4⟩⟩
        · skip
          show qG none (d + 1) 239 64 [(2, 95), (0, w 95 27), (0, w3 95 29)] [(0, 0)] w4 142 Q9
          have hBAD := hP3.2.1.tr hA4 (by decide +kernel)
          refine qG.br (P := (0 : Int) = 0) (pc1 := 67) (pc2 := 69) (st1 := []) rfl (fun h5 => ?_) (fun h5 => ?_)
          · skip
            refine qG.blk 1 (pc' := 68) (ls' := [(2, 95), (0, w 95 27), (0, w3 95 29)]) (st' := [(0, 0)]) (w' := w4) (n' := 142) rfl ?_
            refine qG.ret rfl (by first | rfl | exact decide_eq_true (by omega)) ?_
            subst hQ9
            exact ⟨rfl, .inl ⟨rfl, hBAD⟩⟩
          · exact absurd h5 (by decide)
        · skip
          show qG none (d + 1) 239 64 [(2, 95), (0, w 95 27), (0, w3 95 29)] [(0, 1)] w4 142 Q9
          have hP4 := PS.tr hP3 hS4 (by omega)
          have hI4 : PI w4 := hS4.2.2.1
          have hb4 := hI4.b
          have hq4 := hP4.fs
          have hd4 := hP4.2.2.2.2.2.1
          have hm4 := hS4.2.2.2.1
          refine qG.br (P := (1 : Int) = 0) (pc1 := 67) (pc2 := 69) (st1 := []) rfl (fun h6 => ?_) (fun h6 => ?_)
          · exact absurd h6 (by decide)
          · skip
            refine qG.blk 4 (pc' := 74) (ls' := [(2, 95), (0, w 95 27), (0, w3 95 29)]) (st' := [(0, wrp ((w 95 27) - 40)), (2, 95)]) (w' := w4) (n' := 142) rfl ?_
            rw [show wrp ((w 95 27) - 40) = w 95 27 - 40 from wrp_id (by omega) (by omega)]
            refine qG.blk 1 (pc' := 75) (ls' := [(2, 95), (0, w 95 27), (0, w3 95 29)]) (st' := [(0, w3 95 29), (0, w 95 27 - 40), (2, 95)]) (w' := w4) (n' := 142) rfl ?_
            refine qG.call (t := 235) (na := 3) (sk := 1) (md := 1) (ls1 := [(2, 95), (0, w 95 27 - 40), (0, w3 95 29)]) (r1 := []) rfl rfl rfl rfl rfl (K_lay (by omega) (w 95 27 - 40) (w3 95 29) w4 hI4.1 (by first | omega | (rw [qup_j (by decide)]; omega))) ?_
            rintro _ _ _ ⟨rfl, rfl, rfl⟩
            have hl7 := PS.lay (n := 0) (m := 1) hI4 (by first | omega | (rw [qup_j (by decide)]; omega)) (k := w 95 27 - 40) (v := w3 95 29) ⟨by show (-2147483648 : Int) ≤ _; omega, by show _ ≤ (2147483647 : Int); omega⟩ ⟨by show (-2147483648 : Int) ≤ _; omega, by show _ ≤ (2147483647 : Int); omega⟩ (fun h => by unfold stepH; rw [if_pos (by omega)])
            have hP7 := PS.tr hP4 hl7 (by omega)
            have hI7 : PI (layW w4 (w 95 27 - 40) (w3 95 29)) := hl7.2.2.1
            have hb7 := hI7.b
            have hq7 := hP7.fs
            have hd7 := hP7.2.2.2.2.2.1
            have hm7 := hl7.2.2.2.1
            show qG none (d + 1) 239 78 [(2, 95), (0, w 95 27), (0, w3 95 29)] [] (layW w4 (w 95 27 - 40) (w3 95 29)) 142 Q9
            refine qG.blk 1 (pc' := 79) (ls' := [(2, 95), (0, w 95 27), (0, w3 95 29)]) (st' := [(0, 1)]) (w' := (layW w4 (w 95 27 - 40) (w3 95 29))) (n' := 142) rfl ?_
            refine qG.ret rfl (by first | rfl | exact decide_eq_true (by omega)) ?_
            subst hQ9
            exact ⟨rfl, .inr ⟨rfl, hP7.cast (by omega) (by omega) (by omega) (by omega)⟩⟩
      · skip
        refine qG.blk 4 (pc' := 74) (ls' := [(2, 95), (0, w 95 27), (0, w3 95 29)]) (st' := [(0, wrp ((w 95 27) - 40)), (2, 95)]) (w' := w3) (n' := 142) rfl ?_
        rw [show wrp ((w 95 27) - 40) = w 95 27 - 40 from wrp_id (by omega) (by omega)]
        refine qG.blk 1 (pc' := 75) (ls' := [(2, 95), (0, w 95 27), (0, w3 95 29)]) (st' := [(0, w3 95 29), (0, w 95 27 - 40), (2, 95)]) (w' := w3) (n' := 142) rfl ?_
        refine qG.call (t := 235) (na := 3) (sk := 1) (md := 1) (ls1 := [(2, 95), (0, w 95 27 - 40), (0, w3 95 29)]) (r1 := []) rfl rfl rfl rfl rfl (K_lay (by omega) (w 95 27 - 40) (w3 95 29) w3 hI3.1 (by first | omega | (rw [qup_j (by decide)]; omega))) ?_
        rintro _ _ _ ⟨rfl, rfl, rfl⟩
        have hl8 := PS.lay (n := 0) (m := 1) hI3 (by first | omega | (rw [qup_j (by decide)]; omega)) (k := w 95 27 - 40) (v := w3 95 29) ⟨by show (-2147483648 : Int) ≤ _; omega, by show _ ≤ (2147483647 : Int); omega⟩ ⟨by show (-2147483648 : Int) ≤ _; omega, by show _ ≤ (2147483647 : Int); omega⟩ (fun h => by unfold stepH; rw [if_pos (by omega)])
        have hP8 := PS.tr hP3 hl8 (by omega)
        have hI8 : PI (layW w3 (w 95 27 - 40) (w3 95 29)) := hl8.2.2.1
        have hb8 := hI8.b
        have hq8 := hP8.fs
        have hd8 := hP8.2.2.2.2.2.1
        have hm8 := hl8.2.2.2.1
        show qG none (d + 1) 239 78 [(2, 95), (0, w 95 27), (0, w3 95 29)] [] (layW w3 (w 95 27 - 40) (w3 95 29)) 142 Q9
        refine qG.blk 1 (pc' := 79) (ls' := [(2, 95), (0, w 95 27), (0, w3 95 29)]) (st' := [(0, 1)]) (w' := (layW w3 (w 95 27 - 40) (w3 95 29))) (n' := 142) rfl ?_
        refine qG.ret rfl (by first | rfl | exact decide_eq_true (by omega)) ?_
        subst hQ9
        exact ⟨rfl, .inr ⟨rfl, hP8.cast (by omega) (by omega) (by omega) (by omega)⟩⟩
theorem K_product {d : Nat} (hd : 10 ≤ d) (w : qW) (hP : PI w) (hD : w 95 24 ≤ w 95 28) : qG none d 238 0 [(2, 95), (9, 0), (9, 0)] [] w 142 (fun (r : qV) (w1 : qW) (n1 : Nat) => n1 = 142 ∧ ((r = (0, 0) ∧ AW PM w w1) ∨ (r = (0, 1) ∧ PS 0 1 0 0 w w1))) := by
  generalize hQ9 : (fun (r : qV) (w1 : qW) (n1 : Nat) => n1 = 142 ∧ ((r = (0, 0) ∧ AW PM w w1) ∨ (r = (0, 1) ∧ PS 0 1 0 0 w w1))) = Q9
  have hb0 := hP.b
  obtain ⟨d, rfl⟩ : ∃ d9, d = d9 + 1 := ⟨d - 1, by omega⟩
  refine qG.blk 1 (pc' := 1) (ls' := [(2, 95), (9, 0), (9, 0)]) (st' := [(2, 95)]) (w' := w) (n' := 142) rfl ?_
  refine qG.call (t := 239) (na := 1) (sk := 1) (md := 1) (ls1 := [(2, 95), (9, 0), (9, 0)]) (r1 := []) rfl rfl rfl rfl rfl (K_unit (by omega) w hP (by omega)) ?_
  rintro _ w1 _ ⟨rfl, ⟨rfl, hA1⟩ | ⟨rfl, hS1⟩⟩
  · skip
    show qG none (d + 1) 238 4 [(2, 95), (9, 0), (9, 0)] [(0, 0)] w1 142 Q9
    have hBAD := (PS.rf hP).2.1.tr hA1 (by decide +kernel)
    refine qG.br (P := (0 : Int) = 0) (pc1 := 7) (pc2 := 9) (st1 := []) rfl (fun h2 => ?_) (fun h2 => ?_)
    · skip
      refine qG.blk 1 (pc' := 8) (ls' := [(2, 95), (9, 0), (9, 0)]) (st' := [(0, 0)]) (w' := w1) (n' := 142) rfl ?_
      refine qG.ret rfl (by first | rfl | exact decide_eq_true (by omega)) ?_
      subst hQ9
      exact ⟨rfl, .inl ⟨rfl, hBAD⟩⟩
    · exact absurd h2 (by decide)
  · skip
    show qG none (d + 1) 238 4 [(2, 95), (9, 0), (9, 0)] [(0, 1)] w1 142 Q9
    have hP1 := PS.tr (PS.rf hP) hS1 (by omega)
    have hI1 : PI w1 := hS1.2.2.1
    have hb1 := hI1.b
    have hq1 := hP1.fs
    have hd1 := hP1.2.2.2.2.2.1
    have hm1 := hS1.2.2.2.1
    refine qG.br (P := (1 : Int) = 0) (pc1 := 7) (pc2 := 9) (st1 := []) rfl (fun h3 => ?_) (fun h3 => ?_)
    · exact absurd h3 (by decide)
    · skip
      have L9 : ∀ (m9 : Nat) (q1 : qV) (q2 : qV) (wL : qW), (600 - wL 95 28).toNat = m9 → (PS 0 1 0 0 w wL) → qG none (d + 1) 238 9 [(2, 95), q1, q2] [] wL 142 Q9 := by
        intro m9
        induction m9 using Nat.strongRecOn with
        | ind m9 ih9 =>
        intro q1 q2 wL hm9 hI9
        have hPL : PS 0 1 0 0 w wL := hI9
        have hIL : PI wL := hPL.2.2.1
        have hbL := hIL.b
        have hqL := hPL.fs
        have hdL := hPL.2.2.2.2.2.1
        refine qG.blk 3 (pc' := 16) (ls' := [(2, 95), q1, q2]) (st' := [(0, 142), (0, wL 95 27)]) (w' := wL) (n' := 142) rfl ?_
        refine qG.br (P := wL 95 27 = 142) (pc1 := 29) (pc2 := 19) (st1 := []) rfl (fun h4 => ?_) (fun h4 => ?_)
        · skip
          refine qG.blk 3 (pc' := 36) (ls' := [(2, 95), q1, q2]) (st' := [(0, 147), (0, wL 95 27)]) (w' := wL) (n' := 142) rfl ?_
          refine qG.br (P := wL 95 27 = 147) (pc1 := 39) (pc2 := 43) (st1 := []) rfl (fun h5 => ?_) (fun h5 => ?_)
          · skip
            refine qG.blk 4 (pc' := 46) (ls' := [(2, 95), (0, 1), q2]) (st' := [(2, 95)]) (w' := wL) (n' := 142) rfl ?_
            refine qG.call (t := 231) (na := 1) (sk := 1) (md := 1) (ls1 := [(2, 95), (9, 0)]) (r1 := []) rfl rfl rfl rfl rfl (K_next0 (by omega) wL hIL.1) ?_
            rintro _ w6 _ ⟨rfl, rfl, hX6⟩
            have hn6 := PS.next hIL (by omega) hX6
            have hP6 := PS.tr hPL hn6.1 (by omega)
            have hI6 : PI w6 := hn6.1.2.2.1
            have hg6 := hn6.2
            have hb6 := hI6.b
            have hq6 := hP6.fs
            have hd6 := hP6.2.2.2.2.2.1
            show qG none (d + 1) 238 49 [(2, 95), (0, 1), q2] [] w6 142 Q9
            refine qG.blk 1 (pc' := 50) (ls' := [(2, 95), (0, 1), q2]) (st' := [(0, 1)]) (w' := w6) (n' := 142) rfl ?_
            refine qG.br (P := (1 : Int) = 0) (pc1 := 81) (pc2 := 53) (st1 := []) rfl (fun h7 => ?_) (fun h7 => ?_)
            · exact absurd h7 (by decide)
            · skip
              refine qG.blk 6 (pc' := 63) (ls' := [(2, 95), (0, 1), (0, w6 95 29)]) (st' := [(0, 9999), (0, 1), (2, 95)]) (w' := w6) (n' := 142) rfl ?_
              refine qG.call (t := 234) (na := 3) (sk := 1) (md := 1) (ls1 := [(2, 95), (0, 1), (0, 9999)]) (r1 := []) rfl rfl rfl rfl rfl (K_number (by omega) 1 9999 w6 hI6) ?_
              rintro _ w8 _ ⟨rfl, ⟨rfl, hA8⟩ | ⟨rfl, hlo8, hhi8, hS8⟩⟩
              · skip
                show qG none (d + 1) 238 66 [(2, 95), (0, 1), (0, w6 95 29)] [(0, 0)] w8 142 Q9
                have hBAD := hP6.2.1.tr hA8 (by decide +kernel)
                refine qG.br (P := (0 : Int) = 0) (pc1 := 69) (pc2 := 71) (st1 := []) rfl (fun h9 => ?_) (fun h9 => ?_)
                · skip
                  refine qG.blk 1 (pc' := 70) (ls' := [(2, 95), (0, 1), (0, w6 95 29)]) (st' := [(0, 0)]) (w' := w8) (n' := 142) rfl ?_
                  refine qG.ret rfl (by first | rfl | exact decide_eq_true (by omega)) ?_
                  subst hQ9
                  exact ⟨rfl, .inl ⟨rfl, hBAD⟩⟩
                · exact absurd h9 (by decide)
              · skip
                show qG none (d + 1) 238 66 [(2, 95), (0, 1), (0, w6 95 29)] [(0, 1)] w8 142 Q9
                have hP8 := PS.tr hP6 hS8 (by omega)
                have hI8 : PI w8 := hS8.2.2.1
                have hb8 := hI8.b
                have hq8 := hP8.fs
                have hd8 := hP8.2.2.2.2.2.1
                have hm8 := hS8.2.2.2.1
                refine qG.br (P := (1 : Int) = 0) (pc1 := 69) (pc2 := 71) (st1 := []) rfl (fun h10 => ?_) (fun h10 => ?_)
                · exact absurd h10 (by decide)
                · skip
                  refine qG.blk 3 (pc' := 75) (ls' := [(2, 95), (0, 1), (0, w6 95 29)]) (st' := [(0, w6 95 29), (0, 11), (2, 95)]) (w' := w8) (n' := 142) rfl ?_
                  refine qG.call (t := 235) (na := 3) (sk := 1) (md := 1) (ls1 := [(2, 95), (0, 11), (0, w6 95 29)]) (r1 := []) rfl rfl rfl rfl rfl (K_lay (by omega) 11 (w6 95 29) w8 hI8.1 (by first | omega | (rw [qup_j (by decide)]; omega))) ?_
                  rintro _ _ _ ⟨rfl, rfl, rfl⟩
                  have hl11 := PS.lay (n := 1) (m := 1) hI8 (by first | omega | (rw [qup_j (by decide)]; omega)) (k := 11) (v := w6 95 29) ⟨by show (-2147483648 : Int) ≤ _; omega, by show _ ≤ (2147483647 : Int); omega⟩ ⟨by show (-2147483648 : Int) ≤ _; omega, by show _ ≤ (2147483647 : Int); omega⟩ (fun h => by unfold stepH; rw [if_neg (by decide), if_pos rfl, if_pos ⟨by omega, by omega⟩])
                  have hP11 := PS.tr hP8 hl11 (by omega)
                  have hI11 : PI (layW w8 11 (w6 95 29)) := hl11.2.2.1
                  have hb11 := hI11.b
                  have hq11 := hP11.fs
                  have hd11 := hP11.2.2.2.2.2.1
                  have hm11 := hl11.2.2.2.1
                  show qG none (d + 1) 238 78 [(2, 95), (0, 1), (0, w6 95 29)] [] (layW w8 11 (w6 95 29)) 142 Q9
                  refine qG.blk 2 (pc' := 9) (ls' := [(2, 95), (0, 1), (0, w6 95 29)]) (st' := []) (w' := (layW w8 11 (w6 95 29))) (n' := 142) rfl ?_
                  exact ih9 _ (by omega) ((0, 1)) ((0, w6 95 29)) ((layW w8 11 (w6 95 29))) rfl (hP11.cast (by omega) (by omega) (by omega) (by omega))
          · skip
            refine qG.blk 3 (pc' := 46) (ls' := [(2, 95), (0, 0), q2]) (st' := [(2, 95)]) (w' := wL) (n' := 142) rfl ?_
            refine qG.call (t := 231) (na := 1) (sk := 1) (md := 1) (ls1 := [(2, 95), (9, 0)]) (r1 := []) rfl rfl rfl rfl rfl (K_next0 (by omega) wL hIL.1) ?_
            rintro _ w12 _ ⟨rfl, rfl, hX12⟩
            have hn12 := PS.next hIL (by omega) hX12
            have hP12 := PS.tr hPL hn12.1 (by omega)
            have hI12 : PI w12 := hn12.1.2.2.1
            have hg12 := hn12.2
            have hb12 := hI12.b
            have hq12 := hP12.fs
            have hd12 := hP12.2.2.2.2.2.1
            show qG none (d + 1) 238 49 [(2, 95), (0, 0), q2] [] w12 142 Q9
            refine qG.blk 1 (pc' := 50) (ls' := [(2, 95), (0, 0), q2]) (st' := [(0, 0)]) (w' := w12) (n' := 142) rfl ?_
            refine qG.br (P := (0 : Int) = 0) (pc1 := 81) (pc2 := 53) (st1 := []) rfl (fun h13 => ?_) (fun h13 => ?_)
            · skip
              refine qG.blk 1 (pc' := 82) (ls' := [(2, 95), (0, 0), q2]) (st' := [(2, 95)]) (w' := w12) (n' := 142) rfl ?_
              refine qG.call (t := 239) (na := 1) (sk := 1) (md := 1) (ls1 := [(2, 95), (9, 0), (9, 0)]) (r1 := []) rfl rfl rfl rfl rfl (K_unit (by omega) w12 hI12 (by omega)) ?_
              rintro _ w14 _ ⟨rfl, ⟨rfl, hA14⟩ | ⟨rfl, hS14⟩⟩
              · skip
                show qG none (d + 1) 238 85 [(2, 95), (0, 0), q2] [(0, 0)] w14 142 Q9
                have hBAD := hP12.2.1.tr hA14 (by decide +kernel)
                refine qG.br (P := (0 : Int) = 0) (pc1 := 88) (pc2 := 90) (st1 := []) rfl (fun h15 => ?_) (fun h15 => ?_)
                · skip
                  refine qG.blk 1 (pc' := 89) (ls' := [(2, 95), (0, 0), q2]) (st' := [(0, 0)]) (w' := w14) (n' := 142) rfl ?_
                  refine qG.ret rfl (by first | rfl | exact decide_eq_true (by omega)) ?_
                  subst hQ9
                  exact ⟨rfl, .inl ⟨rfl, hBAD⟩⟩
                · exact absurd h15 (by decide)
              · skip
                show qG none (d + 1) 238 85 [(2, 95), (0, 0), q2] [(0, 1)] w14 142 Q9
                have hP14 := PS.tr hP12 hS14 (by omega)
                have hI14 : PI w14 := hS14.2.2.1
                have hb14 := hI14.b
                have hq14 := hP14.fs
                have hd14 := hP14.2.2.2.2.2.1
                have hm14 := hS14.2.2.2.1
                refine qG.br (P := (1 : Int) = 0) (pc1 := 88) (pc2 := 90) (st1 := []) rfl (fun h16 => ?_) (fun h16 => ?_)
                · exact absurd h16 (by decide)
                · skip
                  refine qG.blk 3 (pc' := 94) (ls' := [(2, 95), (0, 0), q2]) (st' := [(0, 0), (0, 10), (2, 95)]) (w' := w14) (n' := 142) rfl ?_
                  refine qG.call (t := 235) (na := 3) (sk := 1) (md := 1) (ls1 := [(2, 95), (0, 10), (0, 0)]) (r1 := []) rfl rfl rfl rfl rfl (K_lay (by omega) 10 0 w14 hI14.1 (by first | omega | (rw [qup_j (by decide)]; omega))) ?_
                  rintro _ _ _ ⟨rfl, rfl, rfl⟩
                  have hl17 := PS.lay (n := 2) (m := 1) hI14 (by first | omega | (rw [qup_j (by decide)]; omega)) (k := 10) (v := 0) ⟨by show (-2147483648 : Int) ≤ _; omega, by show _ ≤ (2147483647 : Int); omega⟩ ⟨by show (-2147483648 : Int) ≤ _; omega, by show _ ≤ (2147483647 : Int); omega⟩ (fun h => by unfold stepH; rw [if_neg (by omega), if_neg (by omega), if_neg (by omega), if_pos (by omega)]; rfl)
                  have hP17 := PS.tr hP14 hl17 (by omega)
                  have hI17 : PI (layW w14 10 0) := hl17.2.2.1
                  have hb17 := hI17.b
                  have hq17 := hP17.fs
                  have hd17 := hP17.2.2.2.2.2.1
                  have hm17 := hl17.2.2.2.1
                  show qG none (d + 1) 238 97 [(2, 95), (0, 0), q2] [] (layW w14 10 0) 142 Q9
                  refine qG.blk 1 (pc' := 9) (ls' := [(2, 95), (0, 0), q2]) (st' := []) (w' := (layW w14 10 0)) (n' := 142) rfl ?_
                  exact ih9 _ (by omega) ((0, 0)) (q2) ((layW w14 10 0)) rfl (hP17.cast (by omega) (by omega) (by omega) (by omega))
            · exact absurd h13 (by decide)
        · skip
          refine qG.blk 3 (pc' := 26) (ls' := [(2, 95), q1, q2]) (st' := [(0, 147), (0, wL 95 27)]) (w' := wL) (n' := 142) rfl ?_
          refine qG.br (P := wL 95 27 = 147) (pc1 := 29) (pc2 := 100) (st1 := []) rfl (fun h18 => ?_) (fun h18 => ?_)
          · skip
            refine qG.blk 3 (pc' := 36) (ls' := [(2, 95), q1, q2]) (st' := [(0, 147), (0, wL 95 27)]) (w' := wL) (n' := 142) rfl ?_
            refine qG.br (P := wL 95 27 = 147) (pc1 := 39) (pc2 := 43) (st1 := []) rfl (fun h19 => ?_) (fun h19 => ?_)
            · skip
              refine qG.blk 4 (pc' := 46) (ls' := [(2, 95), (0, 1), q2]) (st' := [(2, 95)]) (w' := wL) (n' := 142) rfl ?_
              refine qG.call (t := 231) (na := 1) (sk := 1) (md := 1) (ls1 := [(2, 95), (9, 0)]) (r1 := []) rfl rfl rfl rfl rfl (K_next0 (by omega) wL hIL.1) ?_
              rintro _ w20 _ ⟨rfl, rfl, hX20⟩
              have hn20 := PS.next hIL (by omega) hX20
              have hP20 := PS.tr hPL hn20.1 (by omega)
              have hI20 : PI w20 := hn20.1.2.2.1
              have hg20 := hn20.2
              have hb20 := hI20.b
              have hq20 := hP20.fs
              have hd20 := hP20.2.2.2.2.2.1
              show qG none (d + 1) 238 49 [(2, 95), (0, 1), q2] [] w20 142 Q9
              refine qG.blk 1 (pc' := 50) (ls' := [(2, 95), (0, 1), q2]) (st' := [(0, 1)]) (w' := w20) (n' := 142) rfl ?_
              refine qG.br (P := (1 : Int) = 0) (pc1 := 81) (pc2 := 53) (st1 := []) rfl (fun h21 => ?_) (fun h21 => ?_)
              · exact absurd h21 (by decide)
              · skip
                refine qG.blk 6 (pc' := 63) (ls' := [(2, 95), (0, 1), (0, w20 95 29)]) (st' := [(0, 9999), (0, 1), (2, 95)]) (w' := w20) (n' := 142) rfl ?_
                refine qG.call (t := 234) (na := 3) (sk := 1) (md := 1) (ls1 := [(2, 95), (0, 1), (0, 9999)]) (r1 := []) rfl rfl rfl rfl rfl (K_number (by omega) 1 9999 w20 hI20) ?_
                rintro _ w22 _ ⟨rfl, ⟨rfl, hA22⟩ | ⟨rfl, hlo22, hhi22, hS22⟩⟩
                · skip
                  show qG none (d + 1) 238 66 [(2, 95), (0, 1), (0, w20 95 29)] [(0, 0)] w22 142 Q9
                  have hBAD := hP20.2.1.tr hA22 (by decide +kernel)
                  refine qG.br (P := (0 : Int) = 0) (pc1 := 69) (pc2 := 71) (st1 := []) rfl (fun h23 => ?_) (fun h23 => ?_)
                  · skip
                    refine qG.blk 1 (pc' := 70) (ls' := [(2, 95), (0, 1), (0, w20 95 29)]) (st' := [(0, 0)]) (w' := w22) (n' := 142) rfl ?_
                    refine qG.ret rfl (by first | rfl | exact decide_eq_true (by omega)) ?_
                    subst hQ9
                    exact ⟨rfl, .inl ⟨rfl, hBAD⟩⟩
                  · exact absurd h23 (by decide)
                · skip
                  show qG none (d + 1) 238 66 [(2, 95), (0, 1), (0, w20 95 29)] [(0, 1)] w22 142 Q9
                  have hP22 := PS.tr hP20 hS22 (by omega)
                  have hI22 : PI w22 := hS22.2.2.1
                  have hb22 := hI22.b
                  have hq22 := hP22.fs
                  have hd22 := hP22.2.2.2.2.2.1
                  have hm22 := hS22.2.2.2.1
                  refine qG.br (P := (1 : Int) = 0) (pc1 := 69) (pc2 := 71) (st1 := []) rfl (fun h24 => ?_) (fun h24 => ?_)
                  · exact absurd h24 (by decide)
                  · skip
                    refine qG.blk 3 (pc' := 75) (ls' := [(2, 95), (0, 1), (0, w20 95 29)]) (st' := [(0, w20 95 29), (0, 11), (2, 95)]) (w' := w22) (n' := 142) rfl ?_
                    refine qG.call (t := 235) (na := 3) (sk := 1) (md := 1) (ls1 := [(2, 95), (0, 11), (0, w20 95 29)]) (r1 := []) rfl rfl rfl rfl rfl (K_lay (by omega) 11 (w20 95 29) w22 hI22.1 (by first | omega | (rw [qup_j (by decide)]; omega))) ?_
                    rintro _ _ _ ⟨rfl, rfl, rfl⟩
                    have hl25 := PS.lay (n := 1) (m := 1) hI22 (by first | omega | (rw [qup_j (by decide)]; omega)) (k := 11) (v := w20 95 29) ⟨by show (-2147483648 : Int) ≤ _; omega, by show _ ≤ (2147483647 : Int); omega⟩ ⟨by show (-2147483648 : Int) ≤ _; omega, by show _ ≤ (2147483647 : Int); omega⟩ (fun h => by unfold stepH; rw [if_neg (by decide), if_pos rfl, if_pos ⟨by omega, by omega⟩])
                    have hP25 := PS.tr hP22 hl25 (by omega)
                    have hI25 : PI (layW w22 11 (w20 95 29)) := hl25.2.2.1
                    have hb25 := hI25.b
                    have hq25 := hP25.fs
                    have hd25 := hP25.2.2.2.2.2.1
                    have hm25 := hl25.2.2.2.1
                    show qG none (d + 1) 238 78 [(2, 95), (0, 1), (0, w20 95 29)] [] (layW w22 11 (w20 95 29)) 142 Q9
                    refine qG.blk 2 (pc' := 9) (ls' := [(2, 95), (0, 1), (0, w20 95 29)]) (st' := []) (w' := (layW w22 11 (w20 95 29))) (n' := 142) rfl ?_
                    exact ih9 _ (by omega) ((0, 1)) ((0, w20 95 29)) ((layW w22 11 (w20 95 29))) rfl (hP25.cast (by omega) (by omega) (by omega) (by omega))
            · skip
              refine qG.blk 3 (pc' := 46) (ls' := [(2, 95), (0, 0), q2]) (st' := [(2, 95)]) (w' := wL) (n' := 142) rfl ?_
              refine qG.call (t := 231) (na := 1) (sk := 1) (md := 1) (ls1 := [(2, 95), (9, 0)]) (r1 := []) rfl rfl rfl rfl rfl (K_next0 (by omega) wL hIL.1) ?_
              rintro _ w26 _ ⟨rfl, rfl, hX26⟩
              have hn26 := PS.next hIL (by omega) hX26
              have hP26 := PS.tr hPL hn26.1 (by omega)
              have hI26 : PI w26 := hn26.1.2.2.1
              have hg26 := hn26.2
              have hb26 := hI26.b
              have hq26 := hP26.fs
              have hd26 := hP26.2.2.2.2.2.1
              show qG none (d + 1) 238 49 [(2, 95), (0, 0), q2] [] w26 142 Q9
              refine qG.blk 1 (pc' := 50) (ls' := [(2, 95), (0, 0), q2]) (st' := [(0, 0)]) (w' := w26) (n' := 142) rfl ?_
              refine qG.br (P := (0 : Int) = 0) (pc1 := 81) (pc2 := 53) (st1 := []) rfl (fun h27 => ?_) (fun h27 => ?_)
              · skip
                refine qG.blk 1 (pc' := 82) (ls' := [(2, 95), (0, 0), q2]) (st' := [(2, 95)]) (w' := w26) (n' := 142) rfl ?_
                refine qG.call (t := 239) (na := 1) (sk := 1) (md := 1) (ls1 := [(2, 95), (9, 0), (9, 0)]) (r1 := []) rfl rfl rfl rfl rfl (K_unit (by omega) w26 hI26 (by omega)) ?_
                rintro _ w28 _ ⟨rfl, ⟨rfl, hA28⟩ | ⟨rfl, hS28⟩⟩
                · skip
                  show qG none (d + 1) 238 85 [(2, 95), (0, 0), q2] [(0, 0)] w28 142 Q9
                  have hBAD := hP26.2.1.tr hA28 (by decide +kernel)
                  refine qG.br (P := (0 : Int) = 0) (pc1 := 88) (pc2 := 90) (st1 := []) rfl (fun h29 => ?_) (fun h29 => ?_)
                  · skip
                    refine qG.blk 1 (pc' := 89) (ls' := [(2, 95), (0, 0), q2]) (st' := [(0, 0)]) (w' := w28) (n' := 142) rfl ?_
                    refine qG.ret rfl (by first | rfl | exact decide_eq_true (by omega)) ?_
                    subst hQ9
                    exact ⟨rfl, .inl ⟨rfl, hBAD⟩⟩
                  · exact absurd h29 (by decide)
                · skip
                  show qG none (d + 1) 238 85 [(2, 95), (0, 0), q2] [(0, 1)] w28 142 Q9
                  have hP28 := PS.tr hP26 hS28 (by omega)
                  have hI28 : PI w28 := hS28.2.2.1
                  have hb28 := hI28.b
                  have hq28 := hP28.fs
                  have hd28 := hP28.2.2.2.2.2.1
                  have hm28 := hS28.2.2.2.1
                  refine qG.br (P := (1 : Int) = 0) (pc1 := 88) (pc2 := 90) (st1 := []) rfl (fun h30 => ?_) (fun h30 => ?_)
                  · exact absurd h30 (by decide)
                  · skip
                    refine qG.blk 3 (pc' := 94) (ls' := [(2, 95), (0, 0), q2]) (st' := [(0, 0), (0, 10), (2, 95)]) (w' := w28) (n' := 142) rfl ?_
                    refine qG.call (t := 235) (na := 3) (sk := 1) (md := 1) (ls1 := [(2, 95), (0, 10), (0, 0)]) (r1 := []) rfl rfl rfl rfl rfl (K_lay (by omega) 10 0 w28 hI28.1 (by first | omega | (rw [qup_j (by decide)]; omega))) ?_
                    rintro _ _ _ ⟨rfl, rfl, rfl⟩
                    have hl31 := PS.lay (n := 2) (m := 1) hI28 (by first | omega | (rw [qup_j (by decide)]; omega)) (k := 10) (v := 0) ⟨by show (-2147483648 : Int) ≤ _; omega, by show _ ≤ (2147483647 : Int); omega⟩ ⟨by show (-2147483648 : Int) ≤ _; omega, by show _ ≤ (2147483647 : Int); omega⟩ (fun h => by unfold stepH; rw [if_neg (by omega), if_neg (by omega), if_neg (by omega), if_pos (by omega)]; rfl)
                    have hP31 := PS.tr hP28 hl31 (by omega)
                    have hI31 : PI (layW w28 10 0) := hl31.2.2.1
                    have hb31 := hI31.b
                    have hq31 := hP31.fs
                    have hd31 := hP31.2.2.2.2.2.1
                    have hm31 := hl31.2.2.2.1
                    show qG none (d + 1) 238 97 [(2, 95), (0, 0), q2] [] (layW w28 10 0) 142 Q9
                    refine qG.blk 1 (pc' := 9) (ls' := [(2, 95), (0, 0), q2]) (st' := []) (w' := (layW w28 10 0)) (n' := 142) rfl ?_
                    exact ih9 _ (by omega) ((0, 0)) (q2) ((layW w28 10 0)) rfl (hP31.cast (by omega) (by omega) (by omega) (by omega))
              · exact absurd h27 (by decide)
          · skip
            refine qG.blk 1 (pc' := 101) (ls' := [(2, 95), q1, q2]) (st' := [(0, 1)]) (w' := wL) (n' := 142) rfl ?_
            refine qG.ret rfl (by first | rfl | exact decide_eq_true (by omega)) ?_
            subst hQ9
            exact ⟨rfl, .inr ⟨rfl, hPL.cast (by omega) (by omega) (by omega) (by omega)⟩⟩
      exact L9 _ ((9, 0)) ((9, 0)) (w1) rfl (hP1.cast (by omega) (by omega) (by omega) (by omega))
theorem K_sumUp {d : Nat} (hd : 11 ≤ d) (w : qW) (hP : PI w) (hD : w 95 24 ≤ w 95 28) : qG none d 237 0 [(2, 95), (9, 0)] [] w 142 (fun (r : qV) (w1 : qW) (n1 : Nat) => n1 = 142 ∧ ((r = (0, 0) ∧ AW PM w w1) ∨ (r = (0, 1) ∧ PS 0 1 0 0 w w1))) := by
  generalize hQ9 : (fun (r : qV) (w1 : qW) (n1 : Nat) => n1 = 142 ∧ ((r = (0, 0) ∧ AW PM w w1) ∨ (r = (0, 1) ∧ PS 0 1 0 0 w w1))) = Q9
  have hb0 := hP.b
  obtain ⟨d, rfl⟩ : ∃ d9, d = d9 + 1 := ⟨d - 1, by omega⟩
  refine qG.blk 1 (pc' := 1) (ls' := [(2, 95), (9, 0)]) (st' := [(2, 95)]) (w' := w) (n' := 142) rfl ?_
  refine qG.call (t := 238) (na := 1) (sk := 1) (md := 1) (ls1 := [(2, 95), (9, 0), (9, 0)]) (r1 := []) rfl rfl rfl rfl rfl (K_product (by omega) w hP (by omega)) ?_
  rintro _ w1 _ ⟨rfl, ⟨rfl, hA1⟩ | ⟨rfl, hS1⟩⟩
  · skip
    show qG none (d + 1) 237 4 [(2, 95), (9, 0)] [(0, 0)] w1 142 Q9
    have hBAD := (PS.rf hP).2.1.tr hA1 (by decide +kernel)
    refine qG.br (P := (0 : Int) = 0) (pc1 := 7) (pc2 := 9) (st1 := []) rfl (fun h2 => ?_) (fun h2 => ?_)
    · skip
      refine qG.blk 1 (pc' := 8) (ls' := [(2, 95), (9, 0)]) (st' := [(0, 0)]) (w' := w1) (n' := 142) rfl ?_
      refine qG.ret rfl (by first | rfl | exact decide_eq_true (by omega)) ?_
      subst hQ9
      exact ⟨rfl, .inl ⟨rfl, hBAD⟩⟩
    · exact absurd h2 (by decide)
  · skip
    show qG none (d + 1) 237 4 [(2, 95), (9, 0)] [(0, 1)] w1 142 Q9
    have hP1 := PS.tr (PS.rf hP) hS1 (by omega)
    have hI1 : PI w1 := hS1.2.2.1
    have hb1 := hI1.b
    have hq1 := hP1.fs
    have hd1 := hP1.2.2.2.2.2.1
    have hm1 := hS1.2.2.2.1
    refine qG.br (P := (1 : Int) = 0) (pc1 := 7) (pc2 := 9) (st1 := []) rfl (fun h3 => ?_) (fun h3 => ?_)
    · exact absurd h3 (by decide)
    · skip
      have L9 : ∀ (m9 : Nat) (q1 : qV) (wL : qW), (600 - wL 95 28).toNat = m9 → (PS 0 1 0 0 w wL) → qG none (d + 1) 237 9 [(2, 95), q1] [] wL 142 Q9 := by
        intro m9
        induction m9 using Nat.strongRecOn with
        | ind m9 ih9 =>
        intro q1 wL hm9 hI9
        have hPL : PS 0 1 0 0 w wL := hI9
        have hIL : PI wL := hPL.2.2.1
        have hbL := hIL.b
        have hqL := hPL.fs
        have hdL := hPL.2.2.2.2.2.1
        refine qG.blk 3 (pc' := 16) (ls' := [(2, 95), q1]) (st' := [(0, 143), (0, wL 95 27)]) (w' := wL) (n' := 142) rfl ?_
        refine qG.br (P := wL 95 27 = 143) (pc1 := 29) (pc2 := 19) (st1 := []) rfl (fun h4 => ?_) (fun h4 => ?_)
        · skip
          refine qG.blk 3 (pc' := 36) (ls' := [(2, 95), q1]) (st' := [(0, 143), (0, wL 95 27)]) (w' := wL) (n' := 142) rfl ?_
          refine qG.br (P := wL 95 27 = 143) (pc1 := 39) (pc2 := 44) (st1 := []) rfl (fun h5 => ?_) (fun h5 => ?_)
          · skip
            refine qG.blk 4 (pc' := 48) (ls' := [(2, 95), (0, 8)]) (st' := [(2, 95)]) (w' := wL) (n' := 142) rfl ?_
            refine qG.call (t := 231) (na := 1) (sk := 1) (md := 1) (ls1 := [(2, 95), (9, 0)]) (r1 := []) rfl rfl rfl rfl rfl (K_next0 (by omega) wL hIL.1) ?_
            rintro _ w6 _ ⟨rfl, rfl, hX6⟩
            have hn6 := PS.next hIL (by omega) hX6
            have hP6 := PS.tr hPL hn6.1 (by omega)
            have hI6 : PI w6 := hn6.1.2.2.1
            have hg6 := hn6.2
            have hb6 := hI6.b
            have hq6 := hP6.fs
            have hd6 := hP6.2.2.2.2.2.1
            show qG none (d + 1) 237 51 [(2, 95), (0, 8)] [] w6 142 Q9
            refine qG.blk 1 (pc' := 52) (ls' := [(2, 95), (0, 8)]) (st' := [(2, 95)]) (w' := w6) (n' := 142) rfl ?_
            refine qG.call (t := 238) (na := 1) (sk := 1) (md := 1) (ls1 := [(2, 95), (9, 0), (9, 0)]) (r1 := []) rfl rfl rfl rfl rfl (K_product (by omega) w6 hI6 (by omega)) ?_
            rintro _ w7 _ ⟨rfl, ⟨rfl, hA7⟩ | ⟨rfl, hS7⟩⟩
            · skip
              show qG none (d + 1) 237 55 [(2, 95), (0, 8)] [(0, 0)] w7 142 Q9
              have hBAD := hP6.2.1.tr hA7 (by decide +kernel)
              refine qG.br (P := (0 : Int) = 0) (pc1 := 58) (pc2 := 60) (st1 := []) rfl (fun h8 => ?_) (fun h8 => ?_)
              · skip
                refine qG.blk 1 (pc' := 59) (ls' := [(2, 95), (0, 8)]) (st' := [(0, 0)]) (w' := w7) (n' := 142) rfl ?_
                refine qG.ret rfl (by first | rfl | exact decide_eq_true (by omega)) ?_
                subst hQ9
                exact ⟨rfl, .inl ⟨rfl, hBAD⟩⟩
              · exact absurd h8 (by decide)
            · skip
              show qG none (d + 1) 237 55 [(2, 95), (0, 8)] [(0, 1)] w7 142 Q9
              have hP7 := PS.tr hP6 hS7 (by omega)
              have hI7 : PI w7 := hS7.2.2.1
              have hb7 := hI7.b
              have hq7 := hP7.fs
              have hd7 := hP7.2.2.2.2.2.1
              have hm7 := hS7.2.2.2.1
              refine qG.br (P := (1 : Int) = 0) (pc1 := 58) (pc2 := 60) (st1 := []) rfl (fun h9 => ?_) (fun h9 => ?_)
              · exact absurd h9 (by decide)
              · skip
                refine qG.blk 3 (pc' := 63) (ls' := [(2, 95), (0, 8)]) (st' := [(0, 0), (0, 8), (2, 95)]) (w' := w7) (n' := 142) rfl ?_
                refine qG.call (t := 235) (na := 3) (sk := 1) (md := 1) (ls1 := [(2, 95), (0, 8), (0, 0)]) (r1 := []) rfl rfl rfl rfl rfl (K_lay (by omega) 8 0 w7 hI7.1 (by first | omega | (rw [qup_j (by decide)]; omega))) ?_
                rintro _ _ _ ⟨rfl, rfl, rfl⟩
                have hl10 := PS.lay (n := 2) (m := 1) hI7 (by first | omega | (rw [qup_j (by decide)]; omega)) (k := 8) (v := 0) ⟨by show (-2147483648 : Int) ≤ _; omega, by show _ ≤ (2147483647 : Int); omega⟩ ⟨by show (-2147483648 : Int) ≤ _; omega, by show _ ≤ (2147483647 : Int); omega⟩ (fun h => by unfold stepH; rw [if_neg (by omega), if_neg (by omega), if_neg (by omega), if_pos (by omega)]; rfl)
                have hP10 := PS.tr hP7 hl10 (by omega)
                have hI10 : PI (layW w7 8 0) := hl10.2.2.1
                have hb10 := hI10.b
                have hq10 := hP10.fs
                have hd10 := hP10.2.2.2.2.2.1
                have hm10 := hl10.2.2.2.1
                show qG none (d + 1) 237 66 [(2, 95), (0, 8)] [] (layW w7 8 0) 142 Q9
                refine qG.blk 1 (pc' := 9) (ls' := [(2, 95), (0, 8)]) (st' := []) (w' := (layW w7 8 0)) (n' := 142) rfl ?_
                exact ih9 _ (by omega) ((0, 8)) ((layW w7 8 0)) rfl (hP10.cast (by omega) (by omega) (by omega) (by omega))
          · skip
            refine qG.blk 3 (pc' := 48) (ls' := [(2, 95), (0, 9)]) (st' := [(2, 95)]) (w' := wL) (n' := 142) rfl ?_
            refine qG.call (t := 231) (na := 1) (sk := 1) (md := 1) (ls1 := [(2, 95), (9, 0)]) (r1 := []) rfl rfl rfl rfl rfl (K_next0 (by omega) wL hIL.1) ?_
            rintro _ w11 _ ⟨rfl, rfl, hX11⟩
            have hn11 := PS.next hIL (by omega) hX11
            have hP11 := PS.tr hPL hn11.1 (by omega)
            have hI11 : PI w11 := hn11.1.2.2.1
            have hg11 := hn11.2
            have hb11 := hI11.b
            have hq11 := hP11.fs
            have hd11 := hP11.2.2.2.2.2.1
            show qG none (d + 1) 237 51 [(2, 95), (0, 9)] [] w11 142 Q9
            refine qG.blk 1 (pc' := 52) (ls' := [(2, 95), (0, 9)]) (st' := [(2, 95)]) (w' := w11) (n' := 142) rfl ?_
            refine qG.call (t := 238) (na := 1) (sk := 1) (md := 1) (ls1 := [(2, 95), (9, 0), (9, 0)]) (r1 := []) rfl rfl rfl rfl rfl (K_product (by omega) w11 hI11 (by omega)) ?_
            rintro _ w12 _ ⟨rfl, ⟨rfl, hA12⟩ | ⟨rfl, hS12⟩⟩
            · skip
              show qG none (d + 1) 237 55 [(2, 95), (0, 9)] [(0, 0)] w12 142 Q9
              have hBAD := hP11.2.1.tr hA12 (by decide +kernel)
              refine qG.br (P := (0 : Int) = 0) (pc1 := 58) (pc2 := 60) (st1 := []) rfl (fun h13 => ?_) (fun h13 => ?_)
              · skip
                refine qG.blk 1 (pc' := 59) (ls' := [(2, 95), (0, 9)]) (st' := [(0, 0)]) (w' := w12) (n' := 142) rfl ?_
                refine qG.ret rfl (by first | rfl | exact decide_eq_true (by omega)) ?_
                subst hQ9
                exact ⟨rfl, .inl ⟨rfl, hBAD⟩⟩
              · exact absurd h13 (by decide)
            · skip
              show qG none (d + 1) 237 55 [(2, 95), (0, 9)] [(0, 1)] w12 142 Q9
              have hP12 := PS.tr hP11 hS12 (by omega)
              have hI12 : PI w12 := hS12.2.2.1
              have hb12 := hI12.b
              have hq12 := hP12.fs
              have hd12 := hP12.2.2.2.2.2.1
              have hm12 := hS12.2.2.2.1
              refine qG.br (P := (1 : Int) = 0) (pc1 := 58) (pc2 := 60) (st1 := []) rfl (fun h14 => ?_) (fun h14 => ?_)
              · exact absurd h14 (by decide)
              · skip
                refine qG.blk 3 (pc' := 63) (ls' := [(2, 95), (0, 9)]) (st' := [(0, 0), (0, 9), (2, 95)]) (w' := w12) (n' := 142) rfl ?_
                refine qG.call (t := 235) (na := 3) (sk := 1) (md := 1) (ls1 := [(2, 95), (0, 9), (0, 0)]) (r1 := []) rfl rfl rfl rfl rfl (K_lay (by omega) 9 0 w12 hI12.1 (by first | omega | (rw [qup_j (by decide)]; omega))) ?_
                rintro _ _ _ ⟨rfl, rfl, rfl⟩
                have hl15 := PS.lay (n := 2) (m := 1) hI12 (by first | omega | (rw [qup_j (by decide)]; omega)) (k := 9) (v := 0) ⟨by show (-2147483648 : Int) ≤ _; omega, by show _ ≤ (2147483647 : Int); omega⟩ ⟨by show (-2147483648 : Int) ≤ _; omega, by show _ ≤ (2147483647 : Int); omega⟩ (fun h => by unfold stepH; rw [if_neg (by omega), if_neg (by omega), if_neg (by omega), if_pos (by omega)]; rfl)
                have hP15 := PS.tr hP12 hl15 (by omega)
                have hI15 : PI (layW w12 9 0) := hl15.2.2.1
                have hb15 := hI15.b
                have hq15 := hP15.fs
                have hd15 := hP15.2.2.2.2.2.1
                have hm15 := hl15.2.2.2.1
                show qG none (d + 1) 237 66 [(2, 95), (0, 9)] [] (layW w12 9 0) 142 Q9
                refine qG.blk 1 (pc' := 9) (ls' := [(2, 95), (0, 9)]) (st' := []) (w' := (layW w12 9 0)) (n' := 142) rfl ?_
                exact ih9 _ (by omega) ((0, 9)) ((layW w12 9 0)) rfl (hP15.cast (by omega) (by omega) (by omega) (by omega))
        · skip
          refine qG.blk 3 (pc' := 26) (ls' := [(2, 95), q1]) (st' := [(0, 145), (0, wL 95 27)]) (w' := wL) (n' := 142) rfl ?_
          refine qG.br (P := wL 95 27 = 145) (pc1 := 29) (pc2 := 69) (st1 := []) rfl (fun h16 => ?_) (fun h16 => ?_)
          · skip
            refine qG.blk 3 (pc' := 36) (ls' := [(2, 95), q1]) (st' := [(0, 143), (0, wL 95 27)]) (w' := wL) (n' := 142) rfl ?_
            refine qG.br (P := wL 95 27 = 143) (pc1 := 39) (pc2 := 44) (st1 := []) rfl (fun h17 => ?_) (fun h17 => ?_)
            · skip
              refine qG.blk 4 (pc' := 48) (ls' := [(2, 95), (0, 8)]) (st' := [(2, 95)]) (w' := wL) (n' := 142) rfl ?_
              refine qG.call (t := 231) (na := 1) (sk := 1) (md := 1) (ls1 := [(2, 95), (9, 0)]) (r1 := []) rfl rfl rfl rfl rfl (K_next0 (by omega) wL hIL.1) ?_
              rintro _ w18 _ ⟨rfl, rfl, hX18⟩
              have hn18 := PS.next hIL (by omega) hX18
              have hP18 := PS.tr hPL hn18.1 (by omega)
              have hI18 : PI w18 := hn18.1.2.2.1
              have hg18 := hn18.2
              have hb18 := hI18.b
              have hq18 := hP18.fs
              have hd18 := hP18.2.2.2.2.2.1
              show qG none (d + 1) 237 51 [(2, 95), (0, 8)] [] w18 142 Q9
              refine qG.blk 1 (pc' := 52) (ls' := [(2, 95), (0, 8)]) (st' := [(2, 95)]) (w' := w18) (n' := 142) rfl ?_
              refine qG.call (t := 238) (na := 1) (sk := 1) (md := 1) (ls1 := [(2, 95), (9, 0), (9, 0)]) (r1 := []) rfl rfl rfl rfl rfl (K_product (by omega) w18 hI18 (by omega)) ?_
              rintro _ w19 _ ⟨rfl, ⟨rfl, hA19⟩ | ⟨rfl, hS19⟩⟩
              · skip
                show qG none (d + 1) 237 55 [(2, 95), (0, 8)] [(0, 0)] w19 142 Q9
                have hBAD := hP18.2.1.tr hA19 (by decide +kernel)
                refine qG.br (P := (0 : Int) = 0) (pc1 := 58) (pc2 := 60) (st1 := []) rfl (fun h20 => ?_) (fun h20 => ?_)
                · skip
                  refine qG.blk 1 (pc' := 59) (ls' := [(2, 95), (0, 8)]) (st' := [(0, 0)]) (w' := w19) (n' := 142) rfl ?_
                  refine qG.ret rfl (by first | rfl | exact decide_eq_true (by omega)) ?_
                  subst hQ9
                  exact ⟨rfl, .inl ⟨rfl, hBAD⟩⟩
                · exact absurd h20 (by decide)
              · skip
                show qG none (d + 1) 237 55 [(2, 95), (0, 8)] [(0, 1)] w19 142 Q9
                have hP19 := PS.tr hP18 hS19 (by omega)
                have hI19 : PI w19 := hS19.2.2.1
                have hb19 := hI19.b
                have hq19 := hP19.fs
                have hd19 := hP19.2.2.2.2.2.1
                have hm19 := hS19.2.2.2.1
                refine qG.br (P := (1 : Int) = 0) (pc1 := 58) (pc2 := 60) (st1 := []) rfl (fun h21 => ?_) (fun h21 => ?_)
                · exact absurd h21 (by decide)
                · skip
                  refine qG.blk 3 (pc' := 63) (ls' := [(2, 95), (0, 8)]) (st' := [(0, 0), (0, 8), (2, 95)]) (w' := w19) (n' := 142) rfl ?_
                  refine qG.call (t := 235) (na := 3) (sk := 1) (md := 1) (ls1 := [(2, 95), (0, 8), (0, 0)]) (r1 := []) rfl rfl rfl rfl rfl (K_lay (by omega) 8 0 w19 hI19.1 (by first | omega | (rw [qup_j (by decide)]; omega))) ?_
                  rintro _ _ _ ⟨rfl, rfl, rfl⟩
                  have hl22 := PS.lay (n := 2) (m := 1) hI19 (by first | omega | (rw [qup_j (by decide)]; omega)) (k := 8) (v := 0) ⟨by show (-2147483648 : Int) ≤ _; omega, by show _ ≤ (2147483647 : Int); omega⟩ ⟨by show (-2147483648 : Int) ≤ _; omega, by show _ ≤ (2147483647 : Int); omega⟩ (fun h => by unfold stepH; rw [if_neg (by omega), if_neg (by omega), if_neg (by omega), if_pos (by omega)]; rfl)
                  have hP22 := PS.tr hP19 hl22 (by omega)
                  have hI22 : PI (layW w19 8 0) := hl22.2.2.1
                  have hb22 := hI22.b
                  have hq22 := hP22.fs
                  have hd22 := hP22.2.2.2.2.2.1
                  have hm22 := hl22.2.2.2.1
                  show qG none (d + 1) 237 66 [(2, 95), (0, 8)] [] (layW w19 8 0) 142 Q9
                  refine qG.blk 1 (pc' := 9) (ls' := [(2, 95), (0, 8)]) (st' := []) (w' := (layW w19 8 0)) (n' := 142) rfl ?_
                  exact ih9 _ (by omega) ((0, 8)) ((layW w19 8 0)) rfl (hP22.cast (by omega) (by omega) (by omega) (by omega))
            · skip
              refine qG.blk 3 (pc' := 48) (ls' := [(2, 95), (0, 9)]) (st' := [(2, 95)]) (w' := wL) (n' := 142) rfl ?_
              refine qG.call (t := 231) (na := 1) (sk := 1) (md := 1) (ls1 := [(2, 95), (9, 0)]) (r1 := []) rfl rfl rfl rfl rfl (K_next0 (by omega) wL hIL.1) ?_
              rintro _ w23 _ ⟨rfl, rfl, hX23⟩
              have hn23 := PS.next hIL (by omega) hX23
              have hP23 := PS.tr hPL hn23.1 (by omega)
              have hI23 : PI w23 := hn23.1.2.2.1
              have hg23 := hn23.2
              have hb23 := hI23.b
              have hq23 := hP23.fs
              have hd23 := hP23.2.2.2.2.2.1
              show qG none (d + 1) 237 51 [(2, 95), (0, 9)] [] w23 142 Q9
              refine qG.blk 1 (pc' := 52) (ls' := [(2, 95), (0, 9)]) (st' := [(2, 95)]) (w' := w23) (n' := 142) rfl ?_
              refine qG.call (t := 238) (na := 1) (sk := 1) (md := 1) (ls1 := [(2, 95), (9, 0), (9, 0)]) (r1 := []) rfl rfl rfl rfl rfl (K_product (by omega) w23 hI23 (by omega)) ?_
              rintro _ w24 _ ⟨rfl, ⟨rfl, hA24⟩ | ⟨rfl, hS24⟩⟩
              · skip
                show qG none (d + 1) 237 55 [(2, 95), (0, 9)] [(0, 0)] w24 142 Q9
                have hBAD := hP23.2.1.tr hA24 (by decide +kernel)
                refine qG.br (P := (0 : Int) = 0) (pc1 := 58) (pc2 := 60) (st1 := []) rfl (fun h25 => ?_) (fun h25 => ?_)
                · skip
                  refine qG.blk 1 (pc' := 59) (ls' := [(2, 95), (0, 9)]) (st' := [(0, 0)]) (w' := w24) (n' := 142) rfl ?_
                  refine qG.ret rfl (by first | rfl | exact decide_eq_true (by omega)) ?_
                  subst hQ9
                  exact ⟨rfl, .inl ⟨rfl, hBAD⟩⟩
                · exact absurd h25 (by decide)
              · skip
                show qG none (d + 1) 237 55 [(2, 95), (0, 9)] [(0, 1)] w24 142 Q9
                have hP24 := PS.tr hP23 hS24 (by omega)
                have hI24 : PI w24 := hS24.2.2.1
                have hb24 := hI24.b
                have hq24 := hP24.fs
                have hd24 := hP24.2.2.2.2.2.1
                have hm24 := hS24.2.2.2.1
                refine qG.br (P := (1 : Int) = 0) (pc1 := 58) (pc2 := 60) (st1 := []) rfl (fun h26 => ?_) (fun h26 => ?_)
                · exact absurd h26 (by decide)
                · skip
                  refine qG.blk 3 (pc' := 63) (ls' := [(2, 95), (0, 9)]) (st' := [(0, 0), (0, 9), (2, 95)]) (w' := w24) (n' := 142) rfl ?_
                  refine qG.call (t := 235) (na := 3) (sk := 1) (md := 1) (ls1 := [(2, 95), (0, 9), (0, 0)]) (r1 := []) rfl rfl rfl rfl rfl (K_lay (by omega) 9 0 w24 hI24.1 (by first | omega | (rw [qup_j (by decide)]; omega))) ?_
                  rintro _ _ _ ⟨rfl, rfl, rfl⟩
                  have hl27 := PS.lay (n := 2) (m := 1) hI24 (by first | omega | (rw [qup_j (by decide)]; omega)) (k := 9) (v := 0) ⟨by show (-2147483648 : Int) ≤ _; omega, by show _ ≤ (2147483647 : Int); omega⟩ ⟨by show (-2147483648 : Int) ≤ _; omega, by show _ ≤ (2147483647 : Int); omega⟩ (fun h => by unfold stepH; rw [if_neg (by omega), if_neg (by omega), if_neg (by omega), if_pos (by omega)]; rfl)
                  have hP27 := PS.tr hP24 hl27 (by omega)
                  have hI27 : PI (layW w24 9 0) := hl27.2.2.1
                  have hb27 := hI27.b
                  have hq27 := hP27.fs
                  have hd27 := hP27.2.2.2.2.2.1
                  have hm27 := hl27.2.2.2.1
                  show qG none (d + 1) 237 66 [(2, 95), (0, 9)] [] (layW w24 9 0) 142 Q9
                  refine qG.blk 1 (pc' := 9) (ls' := [(2, 95), (0, 9)]) (st' := []) (w' := (layW w24 9 0)) (n' := 142) rfl ?_
                  exact ih9 _ (by omega) ((0, 9)) ((layW w24 9 0)) rfl (hP27.cast (by omega) (by omega) (by omega) (by omega))
          · skip
            refine qG.blk 1 (pc' := 70) (ls' := [(2, 95), q1]) (st' := [(0, 1)]) (w' := wL) (n' := 142) rfl ?_
            refine qG.ret rfl (by first | rfl | exact decide_eq_true (by omega)) ?_
            subst hQ9
            exact ⟨rfl, .inr ⟨rfl, hPL.cast (by omega) (by omega) (by omega) (by omega)⟩⟩
      exact L9 _ ((9, 0)) (w1) rfl (hP1.cast (by omega) (by omega) (by omega) (by omega))
noncomputable def P_one (q : Nat) : Prop := ∀ (d : Nat) (w : qW), 12 + 3 * q ≤ d → PI w → w 95 24 ≤ w 95 28 → w 95 33 + (q : Int) = 8 → qG none d 242 0 [(2, 95), (9, 0)] [] w 142 (fun (r : qV) (w1 : qW) (n1 : Nat) => n1 = 142 ∧ ((r = (0, 0) ∧ AW PM w w1) ∨ (r = (0, 1) ∧ PS 0 1 0 0 w w1)))
noncomputable def P_every (q : Nat) : Prop := ∀ (d : Nat) (w : qW), 13 + 3 * q ≤ d → PI w → w 95 24 ≤ w 95 28 → w 95 33 + (q : Int) = 8 → qG none d 241 0 [(2, 95)] [] w 142 (fun (r : qV) (w1 : qW) (n1 : Nat) => n1 = 142 ∧ ((r = (0, 0) ∧ AW PM w w1) ∨ (r = (0, 1) ∧ PS 0 1 0 0 w w1)))
noncomputable def P_any (q : Nat) : Prop := ∀ (d : Nat) (w : qW), 14 + 3 * q ≤ d → PI w → w 95 24 ≤ w 95 28 → w 95 33 + (q : Int) = 8 → qG none d 240 0 [(2, 95)] [] w 142 (fun (r : qV) (w1 : qW) (n1 : Nat) => n1 = 142 ∧ ((r = (0, 0) ∧ AW PM w w1) ∨ (r = (0, 1) ∧ PS 0 1 0 0 w w1)))
theorem K_one (q : Nat) {d : Nat} (hd : 12 + 3 * q ≤ d) (w : qW) (hP : PI w) (hD : w 95 24 ≤ w 95 28) (hq0 : w 95 33 + (q : Int) = 8) (hrec : ∀ q9, q9 < q → P_one q9 ∧ P_any q9) : qG none d 242 0 [(2, 95), (9, 0)] [] w 142 (fun (r : qV) (w1 : qW) (n1 : Nat) => n1 = 142 ∧ ((r = (0, 0) ∧ AW PM w w1) ∨ (r = (0, 1) ∧ PS 0 1 0 0 w w1))) := by
  generalize hQ9 : (fun (r : qV) (w1 : qW) (n1 : Nat) => n1 = 142 ∧ ((r = (0, 0) ∧ AW PM w w1) ∨ (r = (0, 1) ∧ PS 0 1 0 0 w w1))) = Q9
  have hb0 := hP.b
  obtain ⟨d, rfl⟩ : ∃ d9, d = d9 + 1 := ⟨d - 1, by omega⟩
  refine qG.blk 3 (pc' := 6) (ls' := [(2, 95), (9, 0)]) (st' := [(0, 6), (0, w 95 27)]) (w' := w) (n' := 142) rfl ?_
  refine qG.br (P := w 95 27 = 6) (pc1 := 9) (pc2 := 44) (st1 := []) rfl (fun h1 => ?_) (fun h1 => ?_)
  · skip
    refine qG.blk 1 (pc' := 10) (ls' := [(2, 95), (9, 0)]) (st' := [(2, 95)]) (w' := w) (n' := 142) rfl ?_
    refine qG.call (t := 236) (na := 1) (sk := 1) (md := 1) (ls1 := [(2, 95)]) (r1 := []) rfl rfl rfl rfl rfl (K_opens (by omega) w (by omega) hP) ?_
    rintro _ w2 _ ⟨rfl, ⟨rfl, hA2⟩ | ⟨rfl, hS2⟩⟩
    · skip
      show qG none (d + 1) 242 13 [(2, 95), (9, 0)] [(0, 0)] w2 142 Q9
      have hBAD := (PS.rf hP).2.1.tr hA2 (by decide +kernel)
      refine qG.br (P := (0 : Int) = 0) (pc1 := 23) (pc2 := 16) (st1 := []) rfl (fun h3 => ?_) (fun h3 => ?_)
      · skip
        refine qG.blk 1 (pc' := 24) (ls' := [(2, 95), (9, 0)]) (st' := [(0, 0)]) (w' := w2) (n' := 142) rfl ?_
        refine qG.ret rfl (by first | rfl | exact decide_eq_true (by omega)) ?_
        subst hQ9
        exact ⟨rfl, .inl ⟨rfl, hBAD⟩⟩
      · exact absurd h3 (by decide)
    · skip
      show qG none (d + 1) 242 13 [(2, 95), (9, 0)] [(0, 1)] w2 142 Q9
      have hP2 := PS.tr (PS.rf hP) hS2 (by omega)
      have hI2 : PI w2 := hS2.2.2.1
      have hb2 := hI2.b
      have hq2 := hP2.fs
      have hd2 := hP2.2.2.2.2.2.1
      have hm2 := hS2.2.2.2.1
      refine qG.br (P := (1 : Int) = 0) (pc1 := 23) (pc2 := 16) (st1 := []) rfl (fun h4 => ?_) (fun h4 => ?_)
      · exact absurd h4 (by decide)
      · skip
        refine qG.blk 1 (pc' := 17) (ls' := [(2, 95), (9, 0)]) (st' := [(2, 95)]) (w' := w2) (n' := 142) rfl ?_
        refine qG.call (t := 242) (na := 1) (sk := 1) (md := 1) (ls1 := [(2, 95), (9, 0)]) (r1 := []) rfl rfl rfl rfl rfl ((hrec (q - 1) (by omega)).1 d w2 (by omega) hI2 (by omega) (by omega)) ?_
        rintro _ w5 _ ⟨rfl, ⟨rfl, hA5⟩ | ⟨rfl, hS5⟩⟩
        · skip
          show qG none (d + 1) 242 20 [(2, 95), (9, 0)] [(0, 0)] w5 142 Q9
          have hBAD := hP2.2.1.tr hA5 (by decide +kernel)
          refine qG.br (P := (0 : Int) = 0) (pc1 := 23) (pc2 := 25) (st1 := []) rfl (fun h6 => ?_) (fun h6 => ?_)
          · skip
            refine qG.blk 1 (pc' := 24) (ls' := [(2, 95), (9, 0)]) (st' := [(0, 0)]) (w' := w5) (n' := 142) rfl ?_
            refine qG.ret rfl (by first | rfl | exact decide_eq_true (by omega)) ?_
            subst hQ9
            exact ⟨rfl, .inl ⟨rfl, hBAD⟩⟩
          · exact absurd h6 (by decide)
        · skip
          show qG none (d + 1) 242 20 [(2, 95), (9, 0)] [(0, 1)] w5 142 Q9
          have hP5 := PS.tr hP2 hS5 (by omega)
          have hI5 : PI w5 := hS5.2.2.1
          have hb5 := hI5.b
          have hq5 := hP5.fs
          have hd5 := hP5.2.2.2.2.2.1
          have hm5 := hS5.2.2.2.1
          refine qG.br (P := (1 : Int) = 0) (pc1 := 23) (pc2 := 25) (st1 := []) rfl (fun h7 => ?_) (fun h7 => ?_)
          · exact absurd h7 (by decide)
          · skip
            refine qG.blk 5 (pc' := 32) (ls' := [(2, 95), (9, 0)]) (st' := [(0, wrp ((w5 95 33) - 1)), (2, 95)]) (w' := w5) (n' := 142) rfl ?_
            rw [show wrp ((w5 95 33) - 1) = (w5 95 33) - 1 from wrp_id (by omega) (by omega)]
            refine qG.blk 4 (pc' := 39) (ls' := [(2, 95), (9, 0)]) (st' := [(0, 0), (0, 15), (2, 95)]) (w' := (qup w5 95 33 ((w5 95 33) - 1))) (n' := 142) rfl ?_
            refine qG.call (t := 235) (na := 3) (sk := 1) (md := 1) (ls1 := [(2, 95), (0, 15), (0, 0)]) (r1 := []) rfl rfl rfl rfl rfl (K_lay (by omega) 15 0 (qup w5 95 33 ((w5 95 33) - 1)) (PS.dep (d' := 0) hP5 (v := (w5 95 33) - 1) (by omega) (by omega) (by omega)).2.2.1.1 (by first | omega | (rw [qup_j (by decide)]; omega))) ?_
            rintro _ _ _ ⟨rfl, rfl, rfl⟩
            have hl8 := PS.lay (n := 1) (m := 1) (PS.dep (d' := 0) hP5 (v := (w5 95 33) - 1) (by omega) (by omega) (by omega)).2.2.1 (by first | omega | (rw [qup_j (by decide)]; omega)) (k := 15) (v := 0) ⟨by show (-2147483648 : Int) ≤ _; omega, by show _ ≤ (2147483647 : Int); omega⟩ ⟨by show (-2147483648 : Int) ≤ _; omega, by show _ ≤ (2147483647 : Int); omega⟩ (fun h => by unfold stepH; rw [if_neg (by decide), if_neg (by decide), if_pos rfl, if_pos (by omega)])
            have hP8 := PS.tr (PS.dep (d' := 0) hP5 (v := (w5 95 33) - 1) (by omega) (by omega) (by omega)) hl8 (by omega)
            have hI8 : PI (layW (qup w5 95 33 ((w5 95 33) - 1)) 15 0) := hl8.2.2.1
            have hb8 := hI8.b
            have hq8 := hP8.fs
            have hd8 := hP8.2.2.2.2.2.1
            have hm8 := hl8.2.2.2.1
            show qG none (d + 1) 242 42 [(2, 95), (9, 0)] [] (layW (qup w5 95 33 ((w5 95 33) - 1)) 15 0) 142 Q9
            refine qG.blk 1 (pc' := 43) (ls' := [(2, 95), (9, 0)]) (st' := [(0, 1)]) (w' := (layW (qup w5 95 33 ((w5 95 33) - 1)) 15 0)) (n' := 142) rfl ?_
            refine qG.ret rfl (by first | rfl | exact decide_eq_true (by omega)) ?_
            subst hQ9
            exact ⟨rfl, .inr ⟨rfl, hP8.cast (by omega) (by omega) (by omega) (by omega)⟩⟩
  · skip
    refine qG.blk 3 (pc' := 51) (ls' := [(2, 95), (9, 0)]) (st' := [(0, 140), (0, w 95 27)]) (w' := w) (n' := 142) rfl ?_
    refine qG.br (P := w 95 27 = 140) (pc1 := 54) (pc2 := 92) (st1 := []) rfl (fun h9 => ?_) (fun h9 => ?_)
    · skip
      refine qG.blk 1 (pc' := 55) (ls' := [(2, 95), (9, 0)]) (st' := [(2, 95)]) (w' := w) (n' := 142) rfl ?_
      refine qG.call (t := 236) (na := 1) (sk := 1) (md := 1) (ls1 := [(2, 95)]) (r1 := []) rfl rfl rfl rfl rfl (K_opens (by omega) w (by omega) hP) ?_
      rintro _ w10 _ ⟨rfl, ⟨rfl, hA10⟩ | ⟨rfl, hS10⟩⟩
      · skip
        show qG none (d + 1) 242 58 [(2, 95), (9, 0)] [(0, 0)] w10 142 Q9
        have hBAD := (PS.rf hP).2.1.tr hA10 (by decide +kernel)
        refine qG.br (P := (0 : Int) = 0) (pc1 := 78) (pc2 := 61) (st1 := []) rfl (fun h11 => ?_) (fun h11 => ?_)
        · skip
          refine qG.blk 1 (pc' := 79) (ls' := [(2, 95), (9, 0)]) (st' := [(0, 0)]) (w' := w10) (n' := 142) rfl ?_
          refine qG.ret rfl (by first | rfl | exact decide_eq_true (by omega)) ?_
          subst hQ9
          exact ⟨rfl, .inl ⟨rfl, hBAD⟩⟩
        · exact absurd h11 (by decide)
      · skip
        show qG none (d + 1) 242 58 [(2, 95), (9, 0)] [(0, 1)] w10 142 Q9
        have hP10 := PS.tr (PS.rf hP) hS10 (by omega)
        have hI10 : PI w10 := hS10.2.2.1
        have hb10 := hI10.b
        have hq10 := hP10.fs
        have hd10 := hP10.2.2.2.2.2.1
        have hm10 := hS10.2.2.2.1
        refine qG.br (P := (1 : Int) = 0) (pc1 := 78) (pc2 := 61) (st1 := []) rfl (fun h12 => ?_) (fun h12 => ?_)
        · exact absurd h12 (by decide)
        · skip
          refine qG.blk 1 (pc' := 62) (ls' := [(2, 95), (9, 0)]) (st' := [(2, 95)]) (w' := w10) (n' := 142) rfl ?_
          refine qG.call (t := 240) (na := 1) (sk := 1) (md := 1) (ls1 := [(2, 95)]) (r1 := []) rfl rfl rfl rfl rfl ((hrec (q - 1) (by omega)).2 d w10 (by omega) hI10 (by omega) (by omega)) ?_
          rintro _ w13 _ ⟨rfl, ⟨rfl, hA13⟩ | ⟨rfl, hS13⟩⟩
          · skip
            show qG none (d + 1) 242 65 [(2, 95), (9, 0)] [(0, 0)] w13 142 Q9
            have hBAD := hP10.2.1.tr hA13 (by decide +kernel)
            refine qG.br (P := (0 : Int) = 0) (pc1 := 78) (pc2 := 68) (st1 := []) rfl (fun h14 => ?_) (fun h14 => ?_)
            · skip
              refine qG.blk 1 (pc' := 79) (ls' := [(2, 95), (9, 0)]) (st' := [(0, 0)]) (w' := w13) (n' := 142) rfl ?_
              refine qG.ret rfl (by first | rfl | exact decide_eq_true (by omega)) ?_
              subst hQ9
              exact ⟨rfl, .inl ⟨rfl, hBAD⟩⟩
            · exact absurd h14 (by decide)
          · skip
            show qG none (d + 1) 242 65 [(2, 95), (9, 0)] [(0, 1)] w13 142 Q9
            have hP13 := PS.tr hP10 hS13 (by omega)
            have hI13 : PI w13 := hS13.2.2.1
            have hb13 := hI13.b
            have hq13 := hP13.fs
            have hd13 := hP13.2.2.2.2.2.1
            have hm13 := hS13.2.2.2.1
            refine qG.br (P := (1 : Int) = 0) (pc1 := 78) (pc2 := 68) (st1 := []) rfl (fun h15 => ?_) (fun h15 => ?_)
            · exact absurd h15 (by decide)
            · skip
              refine qG.blk 2 (pc' := 72) (ls' := [(2, 95), (9, 0)]) (st' := [(0, 141), (2, 95)]) (w' := w13) (n' := 142) rfl ?_
              refine qG.call (t := 233) (na := 2) (sk := 1) (md := 1) (ls1 := [(2, 95), (0, 141)]) (r1 := []) rfl rfl rfl rfl rfl (K_need (by omega) 141 (by decide) w13 hI13) ?_
              rintro _ w16 _ ⟨rfl, ⟨rfl, hA16⟩ | ⟨rfl, hS16⟩⟩
              · skip
                show qG none (d + 1) 242 75 [(2, 95), (9, 0)] [(0, 0)] w16 142 Q9
                have hBAD := hP13.2.1.tr hA16 (by decide +kernel)
                refine qG.br (P := (0 : Int) = 0) (pc1 := 78) (pc2 := 80) (st1 := []) rfl (fun h17 => ?_) (fun h17 => ?_)
                · skip
                  refine qG.blk 1 (pc' := 79) (ls' := [(2, 95), (9, 0)]) (st' := [(0, 0)]) (w' := w16) (n' := 142) rfl ?_
                  refine qG.ret rfl (by first | rfl | exact decide_eq_true (by omega)) ?_
                  subst hQ9
                  exact ⟨rfl, .inl ⟨rfl, hBAD⟩⟩
                · exact absurd h17 (by decide)
              · skip
                show qG none (d + 1) 242 75 [(2, 95), (9, 0)] [(0, 1)] w16 142 Q9
                have hP16 := PS.tr hP13 hS16 (by omega)
                have hI16 : PI w16 := hS16.2.2.1
                have hb16 := hI16.b
                have hq16 := hP16.fs
                have hd16 := hP16.2.2.2.2.2.1
                have hm16 := hS16.2.2.2.1
                refine qG.br (P := (1 : Int) = 0) (pc1 := 78) (pc2 := 80) (st1 := []) rfl (fun h18 => ?_) (fun h18 => ?_)
                · exact absurd h18 (by decide)
                · skip
                  refine qG.blk 5 (pc' := 87) (ls' := [(2, 95), (9, 0)]) (st' := [(0, wrp ((w16 95 33) - 1)), (2, 95)]) (w' := w16) (n' := 142) rfl ?_
                  rw [show wrp ((w16 95 33) - 1) = (w16 95 33) - 1 from wrp_id (by omega) (by omega)]
                  refine qG.blk 2 (pc' := 91) (ls' := [(2, 95), (9, 0)]) (st' := [(0, 1)]) (w' := (qup w16 95 33 ((w16 95 33) - 1))) (n' := 142) rfl ?_
                  refine qG.ret rfl (by first | rfl | exact decide_eq_true (by omega)) ?_
                  subst hQ9
                  exact ⟨rfl, .inr ⟨rfl, (PS.dep (d' := 0) hP16 (v := (w16 95 33) - 1) (by omega) (by omega) (by omega)).cast (by omega) (by omega) (by omega) (by omega)⟩⟩
    · skip
      refine qG.blk 1 (pc' := 93) (ls' := [(2, 95), (9, 0)]) (st' := [(2, 95)]) (w' := w) (n' := 142) rfl ?_
      refine qG.call (t := 237) (na := 1) (sk := 1) (md := 1) (ls1 := [(2, 95), (9, 0)]) (r1 := []) rfl rfl rfl rfl rfl (K_sumUp (by omega) w hP (by omega)) ?_
      rintro _ w19 _ ⟨rfl, ⟨rfl, hA19⟩ | ⟨rfl, hS19⟩⟩
      · skip
        show qG none (d + 1) 242 96 [(2, 95), (9, 0)] [(0, 0)] w19 142 Q9
        have hBAD := (PS.rf hP).2.1.tr hA19 (by decide +kernel)
        refine qG.br (P := (0 : Int) = 0) (pc1 := 99) (pc2 := 101) (st1 := []) rfl (fun h20 => ?_) (fun h20 => ?_)
        · skip
          refine qG.blk 1 (pc' := 100) (ls' := [(2, 95), (9, 0)]) (st' := [(0, 0)]) (w' := w19) (n' := 142) rfl ?_
          refine qG.ret rfl (by first | rfl | exact decide_eq_true (by omega)) ?_
          subst hQ9
          exact ⟨rfl, .inl ⟨rfl, hBAD⟩⟩
        · exact absurd h20 (by decide)
      · skip
        show qG none (d + 1) 242 96 [(2, 95), (9, 0)] [(0, 1)] w19 142 Q9
        have hP19 := PS.tr (PS.rf hP) hS19 (by omega)
        have hI19 : PI w19 := hS19.2.2.1
        have hb19 := hI19.b
        have hq19 := hP19.fs
        have hd19 := hP19.2.2.2.2.2.1
        have hm19 := hS19.2.2.2.1
        refine qG.br (P := (1 : Int) = 0) (pc1 := 99) (pc2 := 101) (st1 := []) rfl (fun h21 => ?_) (fun h21 => ?_)
        · exact absurd h21 (by decide)
        · skip
          refine qG.blk 3 (pc' := 108) (ls' := [(2, 95), (9, 0)]) (st' := [(0, 160), (0, w19 95 27)]) (w' := w19) (n' := 142) rfl ?_
          refine qG.br (P := w19 95 27 = 160) (pc1 := 111) (pc2 := 116) (st1 := []) rfl (fun h22 => ?_) (fun h22 => ?_)
          · skip
            refine qG.blk 5 (pc' := 150) (ls' := [(2, 95), (0, 12)]) (st' := [(0, (-1)), (0, 12)]) (w' := w19) (n' := 142) rfl ?_
            refine qG.br (P := (12 : Int) = (-1)) (pc1 := 153) (pc2 := 159) (st1 := []) rfl (fun h23 => ?_) (fun h23 => ?_)
            · exact absurd h23 (by decide)
            · skip
              refine qG.blk 1 (pc' := 160) (ls' := [(2, 95), (0, 12)]) (st' := [(2, 95)]) (w' := w19) (n' := 142) rfl ?_
              refine qG.call (t := 231) (na := 1) (sk := 1) (md := 1) (ls1 := [(2, 95), (9, 0)]) (r1 := []) rfl rfl rfl rfl rfl (K_next0 (by omega) w19 hI19.1) ?_
              rintro _ w24 _ ⟨rfl, rfl, hX24⟩
              have hn24 := PS.next hI19 (by omega) hX24
              have hP24 := PS.tr hP19 hn24.1 (by omega)
              have hI24 : PI w24 := hn24.1.2.2.1
              have hg24 := hn24.2
              have hb24 := hI24.b
              have hq24 := hP24.fs
              have hd24 := hP24.2.2.2.2.2.1
              show qG none (d + 1) 242 163 [(2, 95), (0, 12)] [] w24 142 Q9
              refine qG.blk 1 (pc' := 164) (ls' := [(2, 95), (0, 12)]) (st' := [(2, 95)]) (w' := w24) (n' := 142) rfl ?_
              refine qG.call (t := 237) (na := 1) (sk := 1) (md := 1) (ls1 := [(2, 95), (9, 0)]) (r1 := []) rfl rfl rfl rfl rfl (K_sumUp (by omega) w24 hI24 (by omega)) ?_
              rintro _ w25 _ ⟨rfl, ⟨rfl, hA25⟩ | ⟨rfl, hS25⟩⟩
              · skip
                show qG none (d + 1) 242 167 [(2, 95), (0, 12)] [(0, 0)] w25 142 Q9
                have hBAD := hP24.2.1.tr hA25 (by decide +kernel)
                refine qG.br (P := (0 : Int) = 0) (pc1 := 170) (pc2 := 172) (st1 := []) rfl (fun h26 => ?_) (fun h26 => ?_)
                · skip
                  refine qG.blk 1 (pc' := 171) (ls' := [(2, 95), (0, 12)]) (st' := [(0, 0)]) (w' := w25) (n' := 142) rfl ?_
                  refine qG.ret rfl (by first | rfl | exact decide_eq_true (by omega)) ?_
                  subst hQ9
                  exact ⟨rfl, .inl ⟨rfl, hBAD⟩⟩
                · exact absurd h26 (by decide)
              · skip
                show qG none (d + 1) 242 167 [(2, 95), (0, 12)] [(0, 1)] w25 142 Q9
                have hP25 := PS.tr hP24 hS25 (by omega)
                have hI25 : PI w25 := hS25.2.2.1
                have hb25 := hI25.b
                have hq25 := hP25.fs
                have hd25 := hP25.2.2.2.2.2.1
                have hm25 := hS25.2.2.2.1
                refine qG.br (P := (1 : Int) = 0) (pc1 := 170) (pc2 := 172) (st1 := []) rfl (fun h27 => ?_) (fun h27 => ?_)
                · exact absurd h27 (by decide)
                · skip
                  refine qG.blk 3 (pc' := 175) (ls' := [(2, 95), (0, 12)]) (st' := [(0, 0), (0, 12), (2, 95)]) (w' := w25) (n' := 142) rfl ?_
                  refine qG.call (t := 235) (na := 3) (sk := 1) (md := 1) (ls1 := [(2, 95), (0, 12), (0, 0)]) (r1 := []) rfl rfl rfl rfl rfl (K_lay (by omega) 12 0 w25 hI25.1 (by first | omega | (rw [qup_j (by decide)]; omega))) ?_
                  rintro _ _ _ ⟨rfl, rfl, rfl⟩
                  have hl28 := PS.lay (n := 2) (m := 1) hI25 (by first | omega | (rw [qup_j (by decide)]; omega)) (k := 12) (v := 0) ⟨by show (-2147483648 : Int) ≤ _; omega, by show _ ≤ (2147483647 : Int); omega⟩ ⟨by show (-2147483648 : Int) ≤ _; omega, by show _ ≤ (2147483647 : Int); omega⟩ (fun h => by unfold stepH; rw [if_neg (by omega), if_neg (by omega), if_neg (by omega), if_pos (by omega)]; rfl)
                  have hP28 := PS.tr hP25 hl28 (by omega)
                  have hI28 : PI (layW w25 12 0) := hl28.2.2.1
                  have hb28 := hI28.b
                  have hq28 := hP28.fs
                  have hd28 := hP28.2.2.2.2.2.1
                  have hm28 := hl28.2.2.2.1
                  show qG none (d + 1) 242 178 [(2, 95), (0, 12)] [] (layW w25 12 0) 142 Q9
                  refine qG.blk 1 (pc' := 179) (ls' := [(2, 95), (0, 12)]) (st' := [(0, 1)]) (w' := (layW w25 12 0)) (n' := 142) rfl ?_
                  refine qG.ret rfl (by first | rfl | exact decide_eq_true (by omega)) ?_
                  subst hQ9
                  exact ⟨rfl, .inr ⟨rfl, hP28.cast (by omega) (by omega) (by omega) (by omega)⟩⟩
          · skip
            refine qG.blk 3 (pc' := 123) (ls' := [(2, 95), (9, 0)]) (st' := [(0, 161), (0, w19 95 27)]) (w' := w19) (n' := 142) rfl ?_
            refine qG.br (P := w19 95 27 = 161) (pc1 := 126) (pc2 := 131) (st1 := []) rfl (fun h29 => ?_) (fun h29 => ?_)
            · skip
              refine qG.blk 5 (pc' := 150) (ls' := [(2, 95), (0, 13)]) (st' := [(0, (-1)), (0, 13)]) (w' := w19) (n' := 142) rfl ?_
              refine qG.br (P := (13 : Int) = (-1)) (pc1 := 153) (pc2 := 159) (st1 := []) rfl (fun h30 => ?_) (fun h30 => ?_)
              · exact absurd h30 (by decide)
              · skip
                refine qG.blk 1 (pc' := 160) (ls' := [(2, 95), (0, 13)]) (st' := [(2, 95)]) (w' := w19) (n' := 142) rfl ?_
                refine qG.call (t := 231) (na := 1) (sk := 1) (md := 1) (ls1 := [(2, 95), (9, 0)]) (r1 := []) rfl rfl rfl rfl rfl (K_next0 (by omega) w19 hI19.1) ?_
                rintro _ w31 _ ⟨rfl, rfl, hX31⟩
                have hn31 := PS.next hI19 (by omega) hX31
                have hP31 := PS.tr hP19 hn31.1 (by omega)
                have hI31 : PI w31 := hn31.1.2.2.1
                have hg31 := hn31.2
                have hb31 := hI31.b
                have hq31 := hP31.fs
                have hd31 := hP31.2.2.2.2.2.1
                show qG none (d + 1) 242 163 [(2, 95), (0, 13)] [] w31 142 Q9
                refine qG.blk 1 (pc' := 164) (ls' := [(2, 95), (0, 13)]) (st' := [(2, 95)]) (w' := w31) (n' := 142) rfl ?_
                refine qG.call (t := 237) (na := 1) (sk := 1) (md := 1) (ls1 := [(2, 95), (9, 0)]) (r1 := []) rfl rfl rfl rfl rfl (K_sumUp (by omega) w31 hI31 (by omega)) ?_
                rintro _ w32 _ ⟨rfl, ⟨rfl, hA32⟩ | ⟨rfl, hS32⟩⟩
                · skip
                  show qG none (d + 1) 242 167 [(2, 95), (0, 13)] [(0, 0)] w32 142 Q9
                  have hBAD := hP31.2.1.tr hA32 (by decide +kernel)
                  refine qG.br (P := (0 : Int) = 0) (pc1 := 170) (pc2 := 172) (st1 := []) rfl (fun h33 => ?_) (fun h33 => ?_)
                  · skip
                    refine qG.blk 1 (pc' := 171) (ls' := [(2, 95), (0, 13)]) (st' := [(0, 0)]) (w' := w32) (n' := 142) rfl ?_
                    refine qG.ret rfl (by first | rfl | exact decide_eq_true (by omega)) ?_
                    subst hQ9
                    exact ⟨rfl, .inl ⟨rfl, hBAD⟩⟩
                  · exact absurd h33 (by decide)
                · skip
                  show qG none (d + 1) 242 167 [(2, 95), (0, 13)] [(0, 1)] w32 142 Q9
                  have hP32 := PS.tr hP31 hS32 (by omega)
                  have hI32 : PI w32 := hS32.2.2.1
                  have hb32 := hI32.b
                  have hq32 := hP32.fs
                  have hd32 := hP32.2.2.2.2.2.1
                  have hm32 := hS32.2.2.2.1
                  refine qG.br (P := (1 : Int) = 0) (pc1 := 170) (pc2 := 172) (st1 := []) rfl (fun h34 => ?_) (fun h34 => ?_)
                  · exact absurd h34 (by decide)
                  · skip
                    refine qG.blk 3 (pc' := 175) (ls' := [(2, 95), (0, 13)]) (st' := [(0, 0), (0, 13), (2, 95)]) (w' := w32) (n' := 142) rfl ?_
                    refine qG.call (t := 235) (na := 3) (sk := 1) (md := 1) (ls1 := [(2, 95), (0, 13), (0, 0)]) (r1 := []) rfl rfl rfl rfl rfl (K_lay (by omega) 13 0 w32 hI32.1 (by first | omega | (rw [qup_j (by decide)]; omega))) ?_
                    rintro _ _ _ ⟨rfl, rfl, rfl⟩
                    have hl35 := PS.lay (n := 2) (m := 1) hI32 (by first | omega | (rw [qup_j (by decide)]; omega)) (k := 13) (v := 0) ⟨by show (-2147483648 : Int) ≤ _; omega, by show _ ≤ (2147483647 : Int); omega⟩ ⟨by show (-2147483648 : Int) ≤ _; omega, by show _ ≤ (2147483647 : Int); omega⟩ (fun h => by unfold stepH; rw [if_neg (by omega), if_neg (by omega), if_neg (by omega), if_pos (by omega)]; rfl)
                    have hP35 := PS.tr hP32 hl35 (by omega)
                    have hI35 : PI (layW w32 13 0) := hl35.2.2.1
                    have hb35 := hI35.b
                    have hq35 := hP35.fs
                    have hd35 := hP35.2.2.2.2.2.1
                    have hm35 := hl35.2.2.2.1
                    show qG none (d + 1) 242 178 [(2, 95), (0, 13)] [] (layW w32 13 0) 142 Q9
                    refine qG.blk 1 (pc' := 179) (ls' := [(2, 95), (0, 13)]) (st' := [(0, 1)]) (w' := (layW w32 13 0)) (n' := 142) rfl ?_
                    refine qG.ret rfl (by first | rfl | exact decide_eq_true (by omega)) ?_
                    subst hQ9
                    exact ⟨rfl, .inr ⟨rfl, hP35.cast (by omega) (by omega) (by omega) (by omega)⟩⟩
            · skip
              refine qG.blk 3 (pc' := 138) (ls' := [(2, 95), (9, 0)]) (st' := [(0, 162), (0, w19 95 27)]) (w' := w19) (n' := 142) rfl ?_
              refine qG.br (P := w19 95 27 = 162) (pc1 := 141) (pc2 := 146) (st1 := []) rfl (fun h36 => ?_) (fun h36 => ?_)
              · skip
                refine qG.blk 5 (pc' := 150) (ls' := [(2, 95), (0, 14)]) (st' := [(0, (-1)), (0, 14)]) (w' := w19) (n' := 142) rfl ?_
                refine qG.br (P := (14 : Int) = (-1)) (pc1 := 153) (pc2 := 159) (st1 := []) rfl (fun h37 => ?_) (fun h37 => ?_)
                · exact absurd h37 (by decide)
                · skip
                  refine qG.blk 1 (pc' := 160) (ls' := [(2, 95), (0, 14)]) (st' := [(2, 95)]) (w' := w19) (n' := 142) rfl ?_
                  refine qG.call (t := 231) (na := 1) (sk := 1) (md := 1) (ls1 := [(2, 95), (9, 0)]) (r1 := []) rfl rfl rfl rfl rfl (K_next0 (by omega) w19 hI19.1) ?_
                  rintro _ w38 _ ⟨rfl, rfl, hX38⟩
                  have hn38 := PS.next hI19 (by omega) hX38
                  have hP38 := PS.tr hP19 hn38.1 (by omega)
                  have hI38 : PI w38 := hn38.1.2.2.1
                  have hg38 := hn38.2
                  have hb38 := hI38.b
                  have hq38 := hP38.fs
                  have hd38 := hP38.2.2.2.2.2.1
                  show qG none (d + 1) 242 163 [(2, 95), (0, 14)] [] w38 142 Q9
                  refine qG.blk 1 (pc' := 164) (ls' := [(2, 95), (0, 14)]) (st' := [(2, 95)]) (w' := w38) (n' := 142) rfl ?_
                  refine qG.call (t := 237) (na := 1) (sk := 1) (md := 1) (ls1 := [(2, 95), (9, 0)]) (r1 := []) rfl rfl rfl rfl rfl (K_sumUp (by omega) w38 hI38 (by omega)) ?_
                  rintro _ w39 _ ⟨rfl, ⟨rfl, hA39⟩ | ⟨rfl, hS39⟩⟩
                  · skip
                    show qG none (d + 1) 242 167 [(2, 95), (0, 14)] [(0, 0)] w39 142 Q9
                    have hBAD := hP38.2.1.tr hA39 (by decide +kernel)
                    refine qG.br (P := (0 : Int) = 0) (pc1 := 170) (pc2 := 172) (st1 := []) rfl (fun h40 => ?_) (fun h40 => ?_)
                    · skip
                      refine qG.blk 1 (pc' := 171) (ls' := [(2, 95), (0, 14)]) (st' := [(0, 0)]) (w' := w39) (n' := 142) rfl ?_
                      refine qG.ret rfl (by first | rfl | exact decide_eq_true (by omega)) ?_
                      subst hQ9
                      exact ⟨rfl, .inl ⟨rfl, hBAD⟩⟩
                    · exact absurd h40 (by decide)
                  · skip
                    show qG none (d + 1) 242 167 [(2, 95), (0, 14)] [(0, 1)] w39 142 Q9
                    have hP39 := PS.tr hP38 hS39 (by omega)
                    have hI39 : PI w39 := hS39.2.2.1
                    have hb39 := hI39.b
                    have hq39 := hP39.fs
                    have hd39 := hP39.2.2.2.2.2.1
                    have hm39 := hS39.2.2.2.1
                    refine qG.br (P := (1 : Int) = 0) (pc1 := 170) (pc2 := 172) (st1 := []) rfl (fun h41 => ?_) (fun h41 => ?_)
                    · exact absurd h41 (by decide)
                    · skip
                      refine qG.blk 3 (pc' := 175) (ls' := [(2, 95), (0, 14)]) (st' := [(0, 0), (0, 14), (2, 95)]) (w' := w39) (n' := 142) rfl ?_
                      refine qG.call (t := 235) (na := 3) (sk := 1) (md := 1) (ls1 := [(2, 95), (0, 14), (0, 0)]) (r1 := []) rfl rfl rfl rfl rfl (K_lay (by omega) 14 0 w39 hI39.1 (by first | omega | (rw [qup_j (by decide)]; omega))) ?_
                      rintro _ _ _ ⟨rfl, rfl, rfl⟩
                      have hl42 := PS.lay (n := 2) (m := 1) hI39 (by first | omega | (rw [qup_j (by decide)]; omega)) (k := 14) (v := 0) ⟨by show (-2147483648 : Int) ≤ _; omega, by show _ ≤ (2147483647 : Int); omega⟩ ⟨by show (-2147483648 : Int) ≤ _; omega, by show _ ≤ (2147483647 : Int); omega⟩ (fun h => by unfold stepH; rw [if_neg (by omega), if_neg (by omega), if_neg (by omega), if_pos (by omega)]; rfl)
                      have hP42 := PS.tr hP39 hl42 (by omega)
                      have hI42 : PI (layW w39 14 0) := hl42.2.2.1
                      have hb42 := hI42.b
                      have hq42 := hP42.fs
                      have hd42 := hP42.2.2.2.2.2.1
                      have hm42 := hl42.2.2.2.1
                      show qG none (d + 1) 242 178 [(2, 95), (0, 14)] [] (layW w39 14 0) 142 Q9
                      refine qG.blk 1 (pc' := 179) (ls' := [(2, 95), (0, 14)]) (st' := [(0, 1)]) (w' := (layW w39 14 0)) (n' := 142) rfl ?_
                      refine qG.ret rfl (by first | rfl | exact decide_eq_true (by omega)) ?_
                      subst hQ9
                      exact ⟨rfl, .inr ⟨rfl, hP42.cast (by omega) (by omega) (by omega) (by omega)⟩⟩
              · skip
                refine qG.blk 4 (pc' := 150) (ls' := [(2, 95), (0, (-1))]) (st' := [(0, (-1)), (0, (-1))]) (w' := w19) (n' := 142) rfl ?_
                refine qG.br (P := ((-1) : Int) = (-1)) (pc1 := 153) (pc2 := 159) (st1 := []) rfl (fun h43 => ?_) (fun h43 => ?_)
                · skip
                  refine qG.blk 2 (pc' := 155) (ls' := [(2, 95), (0, (-1))]) (st' := [(0, 1), (2, 95)]) (w' := w19) (n' := 142) rfl ?_
                  refine qG.call (t := 232) (na := 2) (sk := 1) (md := 1) (ls1 := [(2, 95), (0, 1)]) (r1 := []) rfl rfl rfl rfl rfl (K_bad (by omega) 1 w19 hI19.1 (by decide) (by decide)) ?_
                  rintro _ _ _ ⟨rfl, rfl, rfl⟩
                  show qG none (d + 1) 242 158 [(2, 95), (0, (-1))] [(0, 0)] (qup (qup w19 95 30 1) 95 31 (w19 95 28)) 142 Q9
                  refine qG.ret rfl (by first | rfl | exact decide_eq_true (by omega)) ?_
                  subst hQ9
                  exact ⟨rfl, .inl ⟨rfl, AW.bad hP19.2.1 (by decide) (by decide)⟩⟩
                · exact absurd h43 (by decide)
theorem K_every (q : Nat) {d : Nat} (hd : 13 + 3 * q ≤ d) (w : qW) (hP : PI w) (hD : w 95 24 ≤ w 95 28) (hq0 : w 95 33 + (q : Int) = 8) (hone : P_one q) : qG none d 241 0 [(2, 95)] [] w 142 (fun (r : qV) (w1 : qW) (n1 : Nat) => n1 = 142 ∧ ((r = (0, 0) ∧ AW PM w w1) ∨ (r = (0, 1) ∧ PS 0 1 0 0 w w1))) := by
  generalize hQ9 : (fun (r : qV) (w1 : qW) (n1 : Nat) => n1 = 142 ∧ ((r = (0, 0) ∧ AW PM w w1) ∨ (r = (0, 1) ∧ PS 0 1 0 0 w w1))) = Q9
  have hb0 := hP.b
  obtain ⟨d, rfl⟩ : ∃ d9, d = d9 + 1 := ⟨d - 1, by omega⟩
  refine qG.blk 1 (pc' := 1) (ls' := [(2, 95)]) (st' := [(2, 95)]) (w' := w) (n' := 142) rfl ?_
  refine qG.call (t := 242) (na := 1) (sk := 1) (md := 1) (ls1 := [(2, 95), (9, 0)]) (r1 := []) rfl rfl rfl rfl rfl (hone d w (by omega) hP (by omega) (by omega)) ?_
  rintro _ w1 _ ⟨rfl, ⟨rfl, hA1⟩ | ⟨rfl, hS1⟩⟩
  · skip
    show qG none (d + 1) 241 4 [(2, 95)] [(0, 0)] w1 142 Q9
    have hBAD := (PS.rf hP).2.1.tr hA1 (by decide +kernel)
    refine qG.br (P := (0 : Int) = 0) (pc1 := 7) (pc2 := 9) (st1 := []) rfl (fun h2 => ?_) (fun h2 => ?_)
    · skip
      refine qG.blk 1 (pc' := 8) (ls' := [(2, 95)]) (st' := [(0, 0)]) (w' := w1) (n' := 142) rfl ?_
      refine qG.ret rfl (by first | rfl | exact decide_eq_true (by omega)) ?_
      subst hQ9
      exact ⟨rfl, .inl ⟨rfl, hBAD⟩⟩
    · exact absurd h2 (by decide)
  · skip
    show qG none (d + 1) 241 4 [(2, 95)] [(0, 1)] w1 142 Q9
    have hP1 := PS.tr (PS.rf hP) hS1 (by omega)
    have hI1 : PI w1 := hS1.2.2.1
    have hb1 := hI1.b
    have hq1 := hP1.fs
    have hd1 := hP1.2.2.2.2.2.1
    have hm1 := hS1.2.2.2.1
    refine qG.br (P := (1 : Int) = 0) (pc1 := 7) (pc2 := 9) (st1 := []) rfl (fun h3 => ?_) (fun h3 => ?_)
    · exact absurd h3 (by decide)
    · skip
      have L9 : ∀ (m9 : Nat) (wL : qW), (600 - wL 95 28).toNat = m9 → (PS 0 1 0 0 w wL) → qG none (d + 1) 241 9 [(2, 95)] [] wL 142 Q9 := by
        intro m9
        induction m9 using Nat.strongRecOn with
        | ind m9 ih9 =>
        intro wL hm9 hI9
        have hPL : PS 0 1 0 0 w wL := hI9
        have hIL : PI wL := hPL.2.2.1
        have hbL := hIL.b
        have hqL := hPL.fs
        have hdL := hPL.2.2.2.2.2.1
        refine qG.blk 3 (pc' := 14) (ls' := [(2, 95)]) (st' := [(0, 5), (0, wL 95 27)]) (w' := wL) (n' := 142) rfl ?_
        refine qG.br (P := wL 95 27 = 5) (pc1 := 17) (pc2 := 40) (st1 := []) rfl (fun h4 => ?_) (fun h4 => ?_)
        · skip
          refine qG.blk 1 (pc' := 18) (ls' := [(2, 95)]) (st' := [(2, 95)]) (w' := wL) (n' := 142) rfl ?_
          refine qG.call (t := 231) (na := 1) (sk := 1) (md := 1) (ls1 := [(2, 95), (9, 0)]) (r1 := []) rfl rfl rfl rfl rfl (K_next0 (by omega) wL hIL.1) ?_
          rintro _ w5 _ ⟨rfl, rfl, hX5⟩
          have hn5 := PS.next hIL (by omega) hX5
          have hP5 := PS.tr hPL hn5.1 (by omega)
          have hI5 : PI w5 := hn5.1.2.2.1
          have hg5 := hn5.2
          have hb5 := hI5.b
          have hq5 := hP5.fs
          have hd5 := hP5.2.2.2.2.2.1
          show qG none (d + 1) 241 21 [(2, 95)] [] w5 142 Q9
          refine qG.blk 1 (pc' := 22) (ls' := [(2, 95)]) (st' := [(2, 95)]) (w' := w5) (n' := 142) rfl ?_
          refine qG.call (t := 242) (na := 1) (sk := 1) (md := 1) (ls1 := [(2, 95), (9, 0)]) (r1 := []) rfl rfl rfl rfl rfl (hone d w5 (by omega) hI5 (by omega) (by omega)) ?_
          rintro _ w6 _ ⟨rfl, ⟨rfl, hA6⟩ | ⟨rfl, hS6⟩⟩
          · skip
            show qG none (d + 1) 241 25 [(2, 95)] [(0, 0)] w6 142 Q9
            have hBAD := hP5.2.1.tr hA6 (by decide +kernel)
            refine qG.br (P := (0 : Int) = 0) (pc1 := 28) (pc2 := 30) (st1 := []) rfl (fun h7 => ?_) (fun h7 => ?_)
            · skip
              refine qG.blk 1 (pc' := 29) (ls' := [(2, 95)]) (st' := [(0, 0)]) (w' := w6) (n' := 142) rfl ?_
              refine qG.ret rfl (by first | rfl | exact decide_eq_true (by omega)) ?_
              subst hQ9
              exact ⟨rfl, .inl ⟨rfl, hBAD⟩⟩
            · exact absurd h7 (by decide)
          · skip
            show qG none (d + 1) 241 25 [(2, 95)] [(0, 1)] w6 142 Q9
            have hP6 := PS.tr hP5 hS6 (by omega)
            have hI6 : PI w6 := hS6.2.2.1
            have hb6 := hI6.b
            have hq6 := hP6.fs
            have hd6 := hP6.2.2.2.2.2.1
            have hm6 := hS6.2.2.2.1
            refine qG.br (P := (1 : Int) = 0) (pc1 := 28) (pc2 := 30) (st1 := []) rfl (fun h8 => ?_) (fun h8 => ?_)
            · exact absurd h8 (by decide)
            · skip
              refine qG.blk 3 (pc' := 34) (ls' := [(2, 95)]) (st' := [(0, 0), (0, 16), (2, 95)]) (w' := w6) (n' := 142) rfl ?_
              refine qG.call (t := 235) (na := 3) (sk := 1) (md := 1) (ls1 := [(2, 95), (0, 16), (0, 0)]) (r1 := []) rfl rfl rfl rfl rfl (K_lay (by omega) 16 0 w6 hI6.1 (by first | omega | (rw [qup_j (by decide)]; omega))) ?_
              rintro _ _ _ ⟨rfl, rfl, rfl⟩
              have hl9 := PS.lay (n := 2) (m := 1) hI6 (by first | omega | (rw [qup_j (by decide)]; omega)) (k := 16) (v := 0) ⟨by show (-2147483648 : Int) ≤ _; omega, by show _ ≤ (2147483647 : Int); omega⟩ ⟨by show (-2147483648 : Int) ≤ _; omega, by show _ ≤ (2147483647 : Int); omega⟩ (fun h => by unfold stepH; rw [if_neg (by omega), if_neg (by omega), if_neg (by omega), if_pos (by omega)]; rfl)
              have hP9 := PS.tr hP6 hl9 (by omega)
              have hI9 : PI (layW w6 16 0) := hl9.2.2.1
              have hb9 := hI9.b
              have hq9 := hP9.fs
              have hd9 := hP9.2.2.2.2.2.1
              have hm9 := hl9.2.2.2.1
              show qG none (d + 1) 241 37 [(2, 95)] [] (layW w6 16 0) 142 Q9
              refine qG.blk 1 (pc' := 9) (ls' := [(2, 95)]) (st' := []) (w' := (layW w6 16 0)) (n' := 142) rfl ?_
              exact ih9 _ (by omega) ((layW w6 16 0)) rfl (hP9.cast (by omega) (by omega) (by omega) (by omega))
        · skip
          refine qG.blk 1 (pc' := 41) (ls' := [(2, 95)]) (st' := [(0, 1)]) (w' := wL) (n' := 142) rfl ?_
          refine qG.ret rfl (by first | rfl | exact decide_eq_true (by omega)) ?_
          subst hQ9
          exact ⟨rfl, .inr ⟨rfl, hPL.cast (by omega) (by omega) (by omega) (by omega)⟩⟩
      exact L9 _ (w1) rfl (hP1.cast (by omega) (by omega) (by omega) (by omega))
theorem K_any (q : Nat) {d : Nat} (hd : 14 + 3 * q ≤ d) (w : qW) (hP : PI w) (hD : w 95 24 ≤ w 95 28) (hq0 : w 95 33 + (q : Int) = 8) (hev : P_every q) : qG none d 240 0 [(2, 95)] [] w 142 (fun (r : qV) (w1 : qW) (n1 : Nat) => n1 = 142 ∧ ((r = (0, 0) ∧ AW PM w w1) ∨ (r = (0, 1) ∧ PS 0 1 0 0 w w1))) := by
  generalize hQ9 : (fun (r : qV) (w1 : qW) (n1 : Nat) => n1 = 142 ∧ ((r = (0, 0) ∧ AW PM w w1) ∨ (r = (0, 1) ∧ PS 0 1 0 0 w w1))) = Q9
  have hb0 := hP.b
  obtain ⟨d, rfl⟩ : ∃ d9, d = d9 + 1 := ⟨d - 1, by omega⟩
  refine qG.blk 1 (pc' := 1) (ls' := [(2, 95)]) (st' := [(2, 95)]) (w' := w) (n' := 142) rfl ?_
  refine qG.call (t := 241) (na := 1) (sk := 1) (md := 1) (ls1 := [(2, 95)]) (r1 := []) rfl rfl rfl rfl rfl (hev d w (by omega) hP (by omega) (by omega)) ?_
  rintro _ w1 _ ⟨rfl, ⟨rfl, hA1⟩ | ⟨rfl, hS1⟩⟩
  · skip
    show qG none (d + 1) 240 4 [(2, 95)] [(0, 0)] w1 142 Q9
    have hBAD := (PS.rf hP).2.1.tr hA1 (by decide +kernel)
    refine qG.br (P := (0 : Int) = 0) (pc1 := 7) (pc2 := 9) (st1 := []) rfl (fun h2 => ?_) (fun h2 => ?_)
    · skip
      refine qG.blk 1 (pc' := 8) (ls' := [(2, 95)]) (st' := [(0, 0)]) (w' := w1) (n' := 142) rfl ?_
      refine qG.ret rfl (by first | rfl | exact decide_eq_true (by omega)) ?_
      subst hQ9
      exact ⟨rfl, .inl ⟨rfl, hBAD⟩⟩
    · exact absurd h2 (by decide)
  · skip
    show qG none (d + 1) 240 4 [(2, 95)] [(0, 1)] w1 142 Q9
    have hP1 := PS.tr (PS.rf hP) hS1 (by omega)
    have hI1 : PI w1 := hS1.2.2.1
    have hb1 := hI1.b
    have hq1 := hP1.fs
    have hd1 := hP1.2.2.2.2.2.1
    have hm1 := hS1.2.2.2.1
    refine qG.br (P := (1 : Int) = 0) (pc1 := 7) (pc2 := 9) (st1 := []) rfl (fun h3 => ?_) (fun h3 => ?_)
    · exact absurd h3 (by decide)
    · skip
      have L9 : ∀ (m9 : Nat) (wL : qW), (600 - wL 95 28).toNat = m9 → (PS 0 1 0 0 w wL) → qG none (d + 1) 240 9 [(2, 95)] [] wL 142 Q9 := by
        intro m9
        induction m9 using Nat.strongRecOn with
        | ind m9 ih9 =>
        intro wL hm9 hI9
        have hPL : PS 0 1 0 0 w wL := hI9
        have hIL : PI wL := hPL.2.2.1
        have hbL := hIL.b
        have hqL := hPL.fs
        have hdL := hPL.2.2.2.2.2.1
        refine qG.blk 3 (pc' := 14) (ls' := [(2, 95)]) (st' := [(0, 4), (0, wL 95 27)]) (w' := wL) (n' := 142) rfl ?_
        refine qG.br (P := wL 95 27 = 4) (pc1 := 17) (pc2 := 40) (st1 := []) rfl (fun h4 => ?_) (fun h4 => ?_)
        · skip
          refine qG.blk 1 (pc' := 18) (ls' := [(2, 95)]) (st' := [(2, 95)]) (w' := wL) (n' := 142) rfl ?_
          refine qG.call (t := 231) (na := 1) (sk := 1) (md := 1) (ls1 := [(2, 95), (9, 0)]) (r1 := []) rfl rfl rfl rfl rfl (K_next0 (by omega) wL hIL.1) ?_
          rintro _ w5 _ ⟨rfl, rfl, hX5⟩
          have hn5 := PS.next hIL (by omega) hX5
          have hP5 := PS.tr hPL hn5.1 (by omega)
          have hI5 : PI w5 := hn5.1.2.2.1
          have hg5 := hn5.2
          have hb5 := hI5.b
          have hq5 := hP5.fs
          have hd5 := hP5.2.2.2.2.2.1
          show qG none (d + 1) 240 21 [(2, 95)] [] w5 142 Q9
          refine qG.blk 1 (pc' := 22) (ls' := [(2, 95)]) (st' := [(2, 95)]) (w' := w5) (n' := 142) rfl ?_
          refine qG.call (t := 241) (na := 1) (sk := 1) (md := 1) (ls1 := [(2, 95)]) (r1 := []) rfl rfl rfl rfl rfl (hev d w5 (by omega) hI5 (by omega) (by omega)) ?_
          rintro _ w6 _ ⟨rfl, ⟨rfl, hA6⟩ | ⟨rfl, hS6⟩⟩
          · skip
            show qG none (d + 1) 240 25 [(2, 95)] [(0, 0)] w6 142 Q9
            have hBAD := hP5.2.1.tr hA6 (by decide +kernel)
            refine qG.br (P := (0 : Int) = 0) (pc1 := 28) (pc2 := 30) (st1 := []) rfl (fun h7 => ?_) (fun h7 => ?_)
            · skip
              refine qG.blk 1 (pc' := 29) (ls' := [(2, 95)]) (st' := [(0, 0)]) (w' := w6) (n' := 142) rfl ?_
              refine qG.ret rfl (by first | rfl | exact decide_eq_true (by omega)) ?_
              subst hQ9
              exact ⟨rfl, .inl ⟨rfl, hBAD⟩⟩
            · exact absurd h7 (by decide)
          · skip
            show qG none (d + 1) 240 25 [(2, 95)] [(0, 1)] w6 142 Q9
            have hP6 := PS.tr hP5 hS6 (by omega)
            have hI6 : PI w6 := hS6.2.2.1
            have hb6 := hI6.b
            have hq6 := hP6.fs
            have hd6 := hP6.2.2.2.2.2.1
            have hm6 := hS6.2.2.2.1
            refine qG.br (P := (1 : Int) = 0) (pc1 := 28) (pc2 := 30) (st1 := []) rfl (fun h8 => ?_) (fun h8 => ?_)
            · exact absurd h8 (by decide)
            · skip
              refine qG.blk 3 (pc' := 34) (ls' := [(2, 95)]) (st' := [(0, 0), (0, 17), (2, 95)]) (w' := w6) (n' := 142) rfl ?_
              refine qG.call (t := 235) (na := 3) (sk := 1) (md := 1) (ls1 := [(2, 95), (0, 17), (0, 0)]) (r1 := []) rfl rfl rfl rfl rfl (K_lay (by omega) 17 0 w6 hI6.1 (by first | omega | (rw [qup_j (by decide)]; omega))) ?_
              rintro _ _ _ ⟨rfl, rfl, rfl⟩
              have hl9 := PS.lay (n := 2) (m := 1) hI6 (by first | omega | (rw [qup_j (by decide)]; omega)) (k := 17) (v := 0) ⟨by show (-2147483648 : Int) ≤ _; omega, by show _ ≤ (2147483647 : Int); omega⟩ ⟨by show (-2147483648 : Int) ≤ _; omega, by show _ ≤ (2147483647 : Int); omega⟩ (fun h => by unfold stepH; rw [if_neg (by omega), if_neg (by omega), if_neg (by omega), if_pos (by omega)]; rfl)
              have hP9 := PS.tr hP6 hl9 (by omega)
              have hI9 : PI (layW w6 17 0) := hl9.2.2.1
              have hb9 := hI9.b
              have hq9 := hP9.fs
              have hd9 := hP9.2.2.2.2.2.1
              have hm9 := hl9.2.2.2.1
              show qG none (d + 1) 240 37 [(2, 95)] [] (layW w6 17 0) 142 Q9
              refine qG.blk 1 (pc' := 9) (ls' := [(2, 95)]) (st' := []) (w' := (layW w6 17 0)) (n' := 142) rfl ?_
              exact ih9 _ (by omega) ((layW w6 17 0)) rfl (hP9.cast (by omega) (by omega) (by omega) (by omega))
        · skip
          refine qG.blk 1 (pc' := 41) (ls' := [(2, 95)]) (st' := [(0, 1)]) (w' := wL) (n' := 142) rfl ?_
          refine qG.ret rfl (by first | rfl | exact decide_eq_true (by omega)) ?_
          subst hQ9
          exact ⟨rfl, .inr ⟨rfl, hPL.cast (by omega) (by omega) (by omega) (by omega)⟩⟩
      exact L9 _ (w1) rfl (hP1.cast (by omega) (by omega) (by omega) (by omega))
theorem P_all : ∀ q : Nat, P_one q ∧ P_every q ∧ P_any q := by
  intro q
  induction q using Nat.strongRecOn with
  | ind q ih =>
    have h1 : P_one q := fun d w hd hP hD h8 => K_one q hd w hP hD h8 (fun q9 h9 => ⟨(ih q9 h9).1, (ih q9 h9).2.2⟩)
    have h2 : P_every q := fun d w hd hP hD h8 => K_every q hd w hP hD h8 h1
    exact ⟨h1, h2, fun d w hd hP hD h8 => K_any q hd w hP hD h8 h2⟩
