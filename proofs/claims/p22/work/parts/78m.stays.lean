/-! where masters were told to have been, on both sides -/
noncomputable def wasC (m t y M : Int) (n : Nat) : Prop := (0 ≤ m ∧ m < M) ∧ (0 ≤ t ∧ t ≤ 9) ∧ (0 ≤ y ∧ y ≤ 99) ∧ n < 200
noncomputable def wasX (m t y : Int) (n : Nat) (w : qW) (r : qV) (w1 : qW) : Prop := (¬ wasC m t y (w 45 0) n ∧ r = (0, 0) ∧ w1 = w) ∨ (wasC m t y (w 45 0) n ∧ ∃ m9 t9 y9 : Nat, m = (m9 : Int) ∧ t = (t9 : Int) ∧ y = (y9 : Int) ∧ ((hbit (w 50 (m9 * 100 + y9)) t9 = true ∧ r = (0, 0) ∧ w1 = w) ∨ (¬ hbit (w 50 (m9 * 100 + y9)) t9 = true ∧ r = (0, 1) ∧ w1 = qup (qup w 50 (m9 * 100 + y9) (qor (w 50 (m9 * 100 + y9)) (qshl 1 ((t9 : Nat) : Int)))) 45 6 ((n + 1 : Nat) : Int))))
noncomputable def wasK (m t y : Int) (n : Nat) (w : qW) : Prop := ∃ k : Nat, k < n ∧ w 129 k = m ∧ w 130 k = t ∧ w 131 k = y
noncomputable def wasR (m t y : Int) (n : Nat) (w : qW) (r : qV) (w1 : qW) : Prop := (¬ wasC m t y (w 95 55) n ∧ r = (0, 0) ∧ w1 = w) ∨ (wasC m t y (w 95 55) n ∧ ((wasK m t y n w ∧ r = (0, 0) ∧ w1 = w) ∨ (¬ wasK m t y n w ∧ r = (0, 1) ∧ w1 = qup (qup (qup (qup w 129 n m) 130 n t) 131 n y) 95 56 ((n + 1 : Nat) : Int))))
noncomputable def JT (w : qW) : Prop := w 45 6 = w 95 56 ∧ ∀ m t y : Nat, m < 12 → t < 10 → y < 100 → (hbit (w 50 (m * 100 + y)) t = true ↔ ∃ k : Nat, (k : Int) < w 95 56 ∧ w 129 k = (m : Int) ∧ w 130 k = (t : Int) ∧ w 131 k = (y : Int))
theorem JT.fr {w w2 : qW} (h : JT w) (a : w2 45 6 = w 45 6) (b : w2 95 56 = w 95 56) (c : ∀ k, w2 50 k = w 50 k) (d1 : ∀ k, w2 129 k = w 129 k) (d2 : ∀ k, w2 130 k = w 130 k) (d3 : ∀ k, w2 131 k = w 131 k) : JT w2 := by
  refine ⟨by rw [a, b]; exact h.1, fun m t y hm ht hy => ?_⟩
  rw [c, b, h.2 m t y hm ht hy]
  constructor
  · rintro ⟨k, z1, z2, z3, z4⟩
    exact ⟨k, z1, by rw [d1]; exact z2, by rw [d2]; exact z3, by rw [d3]; exact z4⟩
  · rintro ⟨k, z1, z2, z3, z4⟩
    exact ⟨k, z1, by rw [← d1]; exact z2, by rw [← d2]; exact z3, by rw [← d3]; exact z4⟩
noncomputable def JS (w : qW) : Prop := JN w ∧ JT w
noncomputable def jsM (m : List Nat) : Bool := jnM m && (spo m 50 && (spo m 129 && (spo m 130 && (spo m 131 && (!ymo 45 6 m && !ymo 95 56 m)))))
theorem JS.aw {m : List Nat} {w w1 : qW} (h : JS w) (a : AW m w w1) (hm : jsM m = true) : JS w1 := by
  unfold jsM at hm
  simp only [Bool.and_eq_true, Bool.not_eq_true'] at hm
  obtain ⟨m0, m1, m2, m3, m4, m5, m6⟩ := hm
  exact ⟨h.1.aw a m0, h.2.fr (a.2 45 6 (fun _ => m5)) (a.2 95 56 (fun _ => m6)) (fun k => a.a (by decide) m1 k) (fun k => a.a (by decide) m2 k) (fun k => a.a (by decide) m3 k) (fun k => a.a (by decide) m4 k)⟩
theorem JS.master {w w1 w2 : qW} {s g a b : Int} {n : Nat} {r r2 : qV} (h : JS w) (hX : masE 45 0 46 47 48 [46, 47, 48] s g a b n w r w1) (hR : masE 95 55 125 126 127 [125, 126, 127, 128] s g a b n w1 r2 w2) : JS w2 ∧ r = r2 := by
  have q := JN.master h.1 hX hR
  refine ⟨⟨q.1, ?_⟩, q.2⟩
  have e1 : ∀ p k, p ∉ [45, 46, 47, 48] ∨ (p = 45 ∧ k = 6) → w1 p k = w p k := fun p k hp => by
    rcases hX with ⟨-, -, rfl⟩ | ⟨-, -, -, -, -, -, s1⟩
    · rfl
    · rcases hp with hp | ⟨rfl, rfl⟩
      · simp only [List.mem_cons, List.not_mem_nil, or_false, not_or] at hp
        exact s1 p k (by simp only [List.mem_cons, List.not_mem_nil, or_false, not_or]; exact hp.2) (fun z => hp.1 z.1)
      · exact s1 45 6 (by decide) (by decide)
  have e2 : ∀ p k, p ∉ [95, 125, 126, 127, 128] ∨ (p = 95 ∧ k = 56) → w2 p k = w1 p k := fun p k hp => by
    rcases hR with ⟨-, -, rfl⟩ | ⟨-, -, -, -, -, -, s1⟩
    · rfl
    · rcases hp with hp | ⟨rfl, rfl⟩
      · simp only [List.mem_cons, List.not_mem_nil, or_false, not_or] at hp
        exact s1 p k (by simp only [List.mem_cons, List.not_mem_nil, or_false, not_or]; exact hp.2) (fun z => hp.1 z.1)
      · exact s1 95 56 (by decide) (by decide)
  have e : ∀ p k, (p = 50 ∨ p = 129 ∨ p = 130 ∨ p = 131) → w2 p k = w p k := fun p k hp => by
    rcases hp with rfl | rfl | rfl | rfl <;> exact (e2 _ k (.inl (by decide))).trans (e1 _ k (.inl (by decide)))
  exact h.2.fr ((e2 45 6 (.inl (by decide))).trans (e1 45 6 (.inr ⟨rfl, rfl⟩))) ((e2 95 56 (.inr ⟨rfl, rfl⟩)).trans (e1 95 56 (.inl (by decide)))) (fun k => e 50 k (.inl rfl)) (fun k => e 129 k (.inr (.inl rfl))) (fun k => e 130 k (.inr (.inr (.inl rfl)))) (fun k => e 131 k (.inr (.inr (.inr rfl))))
theorem JS.night {w w1 w2 : qW} {y t g e a : Int} {n : Nat} {r r2 : qV} (h : JS w) (hX : nigE 45 7 51 52 53 54 55 y t g e a n w r w1) (hR : nigE 95 57 132 133 134 135 136 y t g e a n w1 r2 w2) : JS w2 ∧ r = r2 := by
  have q := JN.night h.1 hX hR
  refine ⟨⟨q.1, ?_⟩, q.2⟩
  have e1 : ∀ p k, p ∉ [45, 51, 52, 53, 54, 55] ∨ (p = 45 ∧ k = 6) → w1 p k = w p k := fun p k hp => by
    rcases hX with ⟨-, -, rfl⟩ | ⟨-, -, -, -, -, -, -, -, s1⟩
    · rfl
    · rcases hp with hp | ⟨rfl, rfl⟩
      · simp only [List.mem_cons, List.not_mem_nil, or_false, not_or] at hp
        exact s1 p k (by simp only [List.mem_cons, List.not_mem_nil, or_false, not_or]; exact hp.2) (fun z => hp.1 z.1)
      · exact s1 45 6 (by decide) (by decide)
  have e2 : ∀ p k, p ∉ [95, 132, 133, 134, 135, 136] ∨ (p = 95 ∧ k = 56) → w2 p k = w1 p k := fun p k hp => by
    rcases hR with ⟨-, -, rfl⟩ | ⟨-, -, -, -, -, -, -, -, s1⟩
    · rfl
    · rcases hp with hp | ⟨rfl, rfl⟩
      · simp only [List.mem_cons, List.not_mem_nil, or_false, not_or] at hp
        exact s1 p k (by simp only [List.mem_cons, List.not_mem_nil, or_false, not_or]; exact hp.2) (fun z => hp.1 z.1)
      · exact s1 95 56 (by decide) (by decide)
  have e : ∀ p k, (p = 50 ∨ p = 129 ∨ p = 130 ∨ p = 131) → w2 p k = w p k := fun p k hp => by
    rcases hp with rfl | rfl | rfl | rfl <;> exact (e2 _ k (.inl (by decide))).trans (e1 _ k (.inl (by decide)))
  exact h.2.fr ((e2 45 6 (.inl (by decide))).trans (e1 45 6 (.inr ⟨rfl, rfl⟩))) ((e2 95 56 (.inr ⟨rfl, rfl⟩)).trans (e1 95 56 (.inl (by decide)))) (fun k => e 50 k (.inl rfl)) (fun k => e 129 k (.inr (.inl rfl))) (fun k => e 130 k (.inr (.inr (.inl rfl)))) (fun k => e 131 k (.inr (.inr (.inr rfl))))
theorem JT.was {w w1 w2 : qW} {m t y : Int} {n : Nat} {r r2 : qV} (hM : w 45 0 = w 95 55) (h12 : w 45 0 ≤ 12) (h : JT w) (hn : w 45 6 = (n : Int)) (hX : wasX m t y n w r w1) (hR : wasR m t y n w1 r2 w2) : JT w2 ∧ r = r2 := by
  have hT : w 95 56 = (n : Int) := h.1.symm.trans hn
  -- what was told is the same on both sides
  have key : ∀ m9 t9 y9 : Nat, m = (m9 : Int) → t = (t9 : Int) → y = (y9 : Int) → wasC m t y (w 45 0) n → (hbit (w 50 (m9 * 100 + y9)) t9 = true ↔ wasK m t y n w) := by
    rintro m9 t9 y9 rfl rfl rfl c
    unfold wasC at c
    rw [h.2 m9 t9 y9 (by omega) (by omega) (by omega), hT]
    constructor
    · rintro ⟨k, z1, z2⟩; exact ⟨k, by omega, z2⟩
    · rintro ⟨k, z1, z2⟩; exact ⟨k, by omega, z2⟩
  rcases hX with ⟨c1, rfl, rfl⟩ | ⟨c1, m9, t9, y9, em, et, ey, ⟨b1, rfl, rfl⟩ | ⟨b1, rfl, rfl⟩⟩
  · rcases hR with ⟨c2, rfl, rfl⟩ | ⟨c2, -⟩
    · exact ⟨h, rfl⟩
    · rw [← hM] at c2; exact absurd c2 c1
  · rcases hR with ⟨c2, rfl, rfl⟩ | ⟨c2, ⟨b2, rfl, rfl⟩ | ⟨b2, rfl, rfl⟩⟩
    · exact ⟨h, rfl⟩
    · exact ⟨h, rfl⟩
    · exact absurd ((key m9 t9 y9 em et ey c1).mp b1) b2
  · have hK : ∀ j, qup (qup w 50 (m9 * 100 + y9) (qor (w 50 (m9 * 100 + y9)) (qshl 1 ((t9 : Nat) : Int)))) 45 6 ((n + 1 : Nat) : Int) 129 j = w 129 j ∧ qup (qup w 50 (m9 * 100 + y9) (qor (w 50 (m9 * 100 + y9)) (qshl 1 ((t9 : Nat) : Int)))) 45 6 ((n + 1 : Nat) : Int) 130 j = w 130 j ∧ qup (qup w 50 (m9 * 100 + y9) (qor (w 50 (m9 * 100 + y9)) (qshl 1 ((t9 : Nat) : Int)))) 45 6 ((n + 1 : Nat) : Int) 131 j = w 131 j := fun j => by
      refine ⟨?_, ?_, ?_⟩ <;> simp (disch := decide) only [qup_ne]
    have h55 : qup (qup w 50 (m9 * 100 + y9) (qor (w 50 (m9 * 100 + y9)) (qshl 1 ((t9 : Nat) : Int)))) 45 6 ((n + 1 : Nat) : Int) 95 55 = w 95 55 := by simp (disch := decide) only [qup_ne]
    have hnk : ¬ wasK m t y n w := fun z => b1 ((key m9 t9 y9 em et ey c1).mpr z)
    rcases hR with ⟨c2, rfl, rfl⟩ | ⟨c2, ⟨b2, rfl, rfl⟩ | ⟨b2, rfl, ew⟩⟩
    · rw [h55, ← hM] at c2; exact absurd c1 c2
    · obtain ⟨k, z1, z2, z3, z4⟩ := b2
      rw [(hK k).1] at z2
      rw [(hK k).2.1] at z3
      rw [(hK k).2.2] at z4
      exact absurd ⟨k, z1, z2, z3, z4⟩ hnk
    · have g50 : ∀ k, w2 50 k = if k = m9 * 100 + y9 then qor (w 50 (m9 * 100 + y9)) (qshl 1 ((t9 : Nat) : Int)) else w 50 k := fun k => by rw [ew]; simp (disch := decide) only [qup_ne, qup_if]
      have q1 : ∀ k, w2 129 k = if k = n then m else w 129 k := fun k => by rw [ew]; simp (disch := decide) only [qup_ne, qup_if]
      have q2 : ∀ k, w2 130 k = if k = n then t else w 130 k := fun k => by rw [ew]; simp (disch := decide) only [qup_ne, qup_if]
      have q3 : ∀ k, w2 131 k = if k = n then y else w 131 k := fun k => by rw [ew]; simp (disch := decide) only [qup_ne, qup_if]
      have g95 : w2 95 56 = ((n + 1 : Nat) : Int) := by rw [ew]; exact qup_k
      have g45 : w2 45 6 = ((n + 1 : Nat) : Int) := by rw [ew]; simp (disch := decide) only [qup_ne, qup_k]
      refine ⟨⟨g45.trans g95.symm, fun m' t' y' hm' ht' hy' => ?_⟩, rfl⟩
      unfold wasC at c1
      have old := h.2 m' t' y' hm' ht' hy'
      rw [hT] at old
      have lhs : hbit (w2 50 (m' * 100 + y')) t' = true ↔ (hbit (w 50 (m' * 100 + y')) t' = true ∨ (m' = m9 ∧ y' = y9 ∧ t' = t9)) := by
        rw [g50]
        by_cases e : m' * 100 + y' = m9 * 100 + y9
        · have e1 : m' = m9 := by omega
          have e2 : y' = y9 := by omega
          rw [if_pos e, hbit_or (by omega), hbit_1 t9 (by omega) t' (by omega), Bool.or_eq_true, decide_eq_true_eq, e1, e2]
          constructor
          · rintro (z | z)
            · exact .inl z
            · exact .inr ⟨rfl, rfl, z.symm⟩
          · rintro (z | z)
            · exact .inl z
            · exact .inr z.2.2.symm
        · rw [if_neg e]
          constructor
          · exact .inl
          · rintro (z | ⟨z1, z2, -⟩)
            · exact z
            · exact absurd (by rw [z1, z2]) e
      refine lhs.trans ?_
      rw [old, g95]
      constructor
      · rintro (⟨k, z1, z2, z3, z4⟩ | ⟨z1, z2, z3⟩)
        · exact ⟨k, by omega, by rw [q1, if_neg (by omega)]; exact z2, by rw [q2, if_neg (by omega)]; exact z3, by rw [q3, if_neg (by omega)]; exact z4⟩
        · exact ⟨n, by omega, by rw [q1, if_pos rfl]; omega, by rw [q2, if_pos rfl]; omega, by rw [q3, if_pos rfl]; omega⟩
      · rintro ⟨k, z1, z2, z3, z4⟩
        rw [q1] at z2
        rw [q2] at z3
        rw [q3] at z4
        by_cases e : k = n
        · rw [if_pos e] at z2 z3 z4
          exact .inr ⟨by omega, by omega, by omega⟩
        · rw [if_neg e] at z2 z3 z4
          exact .inl ⟨k, by omega, z2, z3, z4⟩
theorem JS.was {w w1 w2 : qW} {m t y : Int} {n : Nat} {r r2 : qV} {m1 m2 : List Nat} (h12 : w 45 0 ≤ 12) (hn : w 45 6 = (n : Int)) (h : JS w) (hX : wasX m t y n w r w1) (a1 : AW m1 w w1) (hm1 : jnM m1 = true) (hR : wasR m t y n w1 r2 w2) (a2 : AW m2 w1 w2) (hm2 : jnM m2 = true) : JS w2 ∧ r = r2 := by
  have q := JT.was h.1.1 h12 h.2 hn hX hR
  exact ⟨⟨(h.1.aw a1 hm1).aw a2 hm2, q.1⟩, q.2⟩
