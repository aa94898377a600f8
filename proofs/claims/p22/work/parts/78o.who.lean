/-! who and all, on both sides -/
/-- numbers in array p: the first k are f's, the rest g's -/
noncomputable def PV (p : Nat) (w w9 : qW) (k : Nat) (f g : Nat → Int) : Prop := AW [p] w w9 ∧ (∀ j, j < k → w9 p j = f j) ∧ ∀ j, k ≤ j → w9 p j = g j
theorem PV.up {p : Nat} {w w9 : qW} {k : Nat} {f g : Nat → Int} {v : Int} (hp : p = 56 ∨ p = 137) (h : PV p w w9 k f g) (hv : v = f k) (h0 : -9223372036854775808 ≤ v) (h1 : v ≤ 9223372036854775807) : PV p w (qup w9 p k v) (k + 1) f g := by
  refine ⟨⟨?_, fun q j hq => ?_⟩, fun j hj => ?_, fun j hj => ?_⟩
  · rcases hp with rfl | rfl
    · exact zup_a h.1.1 (b := (-9223372036854775808, 9223372036854775807)) rfl rfl ⟨h0, h1⟩
    · exact zup_a h.1.1 (b := (-9223372036854775808, 9223372036854775807)) rfl rfl ⟨h0, h1⟩
  · rw [qup_ne (fun z => by have hq := hq (by omega); rw [z] at hq; rcases hp with rfl | rfl <;> cases hq)]
    exact h.1.2 q j hq
  · by_cases e : j = k
    · rw [e, qup_k]; exact hv
    · rw [qup_j e]; exact h.2.1 j (by omega)
  · rw [qup_j (by omega)]; exact h.2.2 j (by omega)
noncomputable def masH (s g a b : Int) (n : Nat) (w w1 : qW) : Prop := (¬ masC s g a b n ∧ w1 = w) ∨ (masC s g a b n ∧ ∀ k, w1 128 k = if k = 3 * n + 2 then 1 else if k = 3 * n + 1 then 1 else if k = 3 * n + 0 then 1 else w 128 k)
noncomputable def habC (m a v n : Int) : Prop := (0 ≤ m ∧ m < n) ∧ (0 ≤ a ∧ a ≤ 2) ∧ 0 ≤ v ∧ v ≤ 9
noncomputable def habE (p : Nat) (m a v n : Int) (w : qW) (r : qV) (w1 : qW) : Prop := (¬ habC m a v n ∧ r = (0, 0) ∧ w1 = w) ∨ (habC m a v n ∧ ∃ m9 a9 : Nat, m = (m9 : Int) ∧ a = (a9 : Int) ∧ r = (0, 1) ∧ w1 = qup w p (3 * m9 + a9) v)
theorem JH.master {w w1 w2 : qW} {s g a b : Int} {n : Nat} {r r2 : qV} (h : JH w) (hM : w 95 55 = (n : Int)) (hX : masE 45 0 46 47 48 [46, 47, 48] s g a b n w r w1) (hR : masE 95 55 125 126 127 [125, 126, 127, 128] s g a b n w1 r2 w2) (hH : masH s g a b n w1 w2) : JH w2 := by
  rcases hX with ⟨c1, -, rfl⟩ | ⟨c1, -, -, -, -, -, s1⟩ <;> rcases hR with ⟨c2, -, rfl⟩ | ⟨c2, -, t2, -, -, -, s2⟩
  · exact h
  · exact absurd c2 c1
  · exact absurd c1 c2
  · rcases hH with ⟨c3, -⟩ | ⟨-, h3⟩
    · exact absurd c1 c3
    · have n12 : n < 12 := c1.2
      have e49 : ∀ k, w2 49 k = w 49 k := fun k => (s2 49 k (by decide) (fun z => by cases z.1)).trans (s1 49 k (by decide) (fun z => by cases z.1))
      have e128 : ∀ k, w1 128 k = w 128 k := fun k => s1 128 k (by decide) (fun z => by cases z.1)
      refine ⟨fun k hk => ?_, fun k hk h36 => ?_⟩
      · rw [t2] at hk
        rw [e49, h3, e128]
        by_cases q : (k : Int) < 3 * (n : Int)
        · rw [if_neg (by omega), if_neg (by omega), if_neg (by omega)]
          exact h.1 k (by omega)
        · rw [h.2 k (by omega) (by omega)]
          split
          · rfl
          · split
            · rfl
            · rw [if_pos (by omega)]
      · rw [t2] at hk
        rw [e49]
        exact h.2 k (by omega) h36
theorem JH.habit {w w1 w2 : qW} {m a v : Int} {r r2 : qV} (h : JH w) (hj : w 45 0 = w 95 55) (hX : habE 49 m a v (w 45 0) w r w1) (hR : habE 128 m a v (w1 95 55) w1 r2 w2) : JH w2 ∧ r = r2 := by
  rcases hX with ⟨c1, rfl, rfl⟩ | ⟨c1, m9, a9, em, ea, rfl, rfl⟩
  · rcases hR with ⟨c2, rfl, rfl⟩ | ⟨c2, -⟩
    · exact ⟨h, rfl⟩
    · rw [← hj] at c2; exact absurd c2 c1
  · have h55 : qup w 49 (3 * m9 + a9) v 95 55 = w 95 55 := by simp (disch := decide) only [qup_ne]
    rcases hR with ⟨c2, rfl, rfl⟩ | ⟨c2, m8, a8, em2, ea2, rfl, ew⟩
    · rw [h55, ← hj] at c2; exact absurd c1 c2
    · obtain rfl : m8 = m9 := by omega
      obtain rfl : a8 = a9 := by omega
      have g49 : ∀ k, w2 49 k = if k = 3 * m8 + a8 then v else w 49 k := fun k => by rw [ew]; simp (disch := decide) only [qup_ne, qup_if]
      have g128 : ∀ k, w2 128 k = if k = 3 * m8 + a8 then v else w 128 k := fun k => by rw [ew]; simp (disch := decide) only [qup_ne, qup_if]
      have g55 : w2 95 55 = w 95 55 := by rw [ew]; simp (disch := decide) only [qup_ne]
      unfold habC at c1
      refine ⟨⟨fun k hk => ?_, fun k hk h36 => ?_⟩, rfl⟩
      · rw [g55] at hk
        rw [g49, g128]
        split
        · rfl
        · exact h.1 k hk
      · rw [g55] at hk
        rw [g49, if_neg (by omega)]
        exact h.2 k hk h36
theorem JQ.habit {w w1 w2 : qW} {m a v : Int} {r r2 : qV} {m1 m2 : List Nat} (h : JQ w) (hX : habE 49 m a v (w 45 0) w r w1) (a1 : AW m1 w w1) (hm1 : jsM m1 = true) (hR : habE 128 m a v (w1 95 55) w1 r2 w2) (a2 : AW m2 w1 w2) (hm2 : jsM m2 = true) : JQ w2 ∧ r = r2 := by
  have q := JH.habit h.2 h.1.1.1 hX hR
  exact ⟨⟨(h.1.aw a1 hm1).aw a2 hm2, q.1⟩, q.2⟩
