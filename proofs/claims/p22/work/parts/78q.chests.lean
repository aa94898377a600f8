/-! the chests' works and doors on both sides; air -/
noncomputable def wkN (v s b : Int) : Int := if b = 0 then qand v (qxor (qshl 1 s) (-1)) else qor v (qshl 1 s)
noncomputable def isWk (c s : Int) : Prop := (0 ≤ c ∧ c ≤ 2) ∧ 0 ≤ s ∧ s ≤ 15
noncomputable def wkX (c s b : Int) (w : qW) (r : qV) (w1 : qW) : Prop := (¬ isWk c s ∧ r = (0, 0) ∧ w1 = w) ∨ (isWk c s ∧ ∃ c9 : Nat, c = (c9 : Int) ∧ r = (0, 1) ∧ w1 (64 + 5 * c9) 0 = wkN (w (64 + 5 * c9) 0) s b ∧ ∀ q k, ¬ (q = 64 + 5 * c9 ∧ (k = 0 ∨ k = 1)) → w1 q k = w q k)
noncomputable def wkR (c s b : Int) (w : qW) (r : qV) (w1 : qW) : Prop := (¬ isWk c s ∧ r = (0, 0) ∧ w1 = w) ∨ (isWk c s ∧ ∃ c9 : Nat, c = (c9 : Int) ∧ r = (0, 1) ∧ w1 96 c9 = wkN (w 96 c9) s b ∧ ∀ q k, ¬ (q = 96 ∧ k = c9) → ¬ (q = 95 ∧ k = 9) → w1 q k = w q k)
noncomputable def drX (c d1 s v b : Int) (w : qW) (r : qV) (w1 : qW) : Prop := (doorV c d1 s v = 0 ∧ r = (0, 0) ∧ w1 = w) ∨ (doorV c d1 s v = 1 ∧ r = (0, 1) ∧ ∃ c9 d9 : Nat, c = (c9 : Int) ∧ d1 = (d9 : Int) ∧ c9 < 3 ∧ d9 < 10 ∧ (∀ k, w1 (67 + 5 * c9) k = if k = d9 then v else w (67 + 5 * c9) k) ∧ (∀ k, w1 (68 + 5 * c9) k = if k = d9 then b else w (68 + 5 * c9) k) ∧ ∀ q k, q ≠ 66 + 5 * c9 → q ≠ 67 + 5 * c9 → q ≠ 68 + 5 * c9 → w1 q k = w q k)
noncomputable def drR (c d1 s v b : Int) (w : qW) (r : qV) (w1 : qW) : Prop := (doorV c d1 s v = 0 ∧ r = (0, 0) ∧ w1 = w) ∨ (doorV c d1 s v = 1 ∧ r = (0, 1) ∧ ∃ c9 d9 : Nat, c = (c9 : Int) ∧ d1 = (d9 : Int) ∧ c9 < 3 ∧ d9 < 10 ∧ (∀ k, w1 98 k = if k = 10 * c9 + d9 then v else w 98 k) ∧ (∀ k, w1 100 k = if k = 10 * c9 + d9 then b else w 100 k) ∧ ∀ q k, q ≠ 97 → q ≠ 98 → q ≠ 100 → w1 q k = w q k)
noncomputable def JD (w : qW) : Prop := ∀ c : Nat, c < 3 → w (64 + 5 * c) 0 = w 96 c ∧ ∀ d : Nat, d < 10 → w (67 + 5 * c) d = w 98 (10 * c + d) ∧ w (68 + 5 * c) d = w 100 (10 * c + d)
noncomputable def jdM (m : List Nat) : Bool := spo m 67 && (spo m 68 && (spo m 72 && (spo m 73 && (spo m 77 && (spo m 78 && (spo m 96 && (spo m 98 && (spo m 100 && (!ymo 64 0 m && (!ymo 69 0 m && !ymo 74 0 m))))))))))
theorem JD.aw {m : List Nat} {w w1 : qW} (h : JD w) (a : AW m w w1) (hm : jdM m = true) : JD w1 := by
  unfold jdM at hm
  simp only [Bool.and_eq_true, Bool.not_eq_true'] at hm
  obtain ⟨m67, m68, m72, m73, m77, m78, m96, m98, m100, n64, n69, n74⟩ := hm
  intro c hc
  have h0 := h c hc
  rw [a.a (by decide) m96]
  refine ⟨?_, fun d hd => ?_⟩
  · rw [← h0.1]
    rcases (show c = 0 ∨ c = 1 ∨ c = 2 by omega) with rfl | rfl | rfl
    · exact a.2 64 0 (fun _ => n64)
    · exact a.2 69 0 (fun _ => n69)
    · exact a.2 74 0 (fun _ => n74)
  · rw [a.a (by decide) m98, a.a (by decide) m100, ← (h0.2 d hd).1, ← (h0.2 d hd).2]
    rcases (show c = 0 ∨ c = 1 ∨ c = 2 by omega) with rfl | rfl | rfl
    · exact ⟨a.a (p := 67) (by decide) m67 d, a.a (p := 68) (by decide) m68 d⟩
    · exact ⟨a.a (p := 72) (by decide) m72 d, a.a (p := 73) (by decide) m73 d⟩
    · exact ⟨a.a (p := 77) (by decide) m77 d, a.a (p := 78) (by decide) m78 d⟩
theorem JD.works {w w1 w2 : qW} {c s b : Int} {r r2 : qV} (h : JD w) (hX : wkX c s b w r w1) (hR : wkR c s b w1 r2 w2) : JD w2 ∧ r = r2 := by
  rcases hX with ⟨c1, rfl, rfl⟩ | ⟨c1, c9, ec, rfl, x1, x2⟩
  · rcases hR with ⟨c2, rfl, rfl⟩ | ⟨c2, -⟩
    · exact ⟨h, rfl⟩
    · exact absurd c2 c1
  · rcases hR with ⟨c2, -⟩ | ⟨-, c8, ec2, rfl, y1, y2⟩
    · exact absurd c1 c2
    · obtain rfl : c8 = c9 := by omega
      unfold isWk at c1
      refine ⟨fun c' hc' => ?_, rfl⟩
      have h0 := h c' hc'
      have e64 : w2 (64 + 5 * c') 0 = w1 (64 + 5 * c') 0 := y2 _ _ (by omega) (by omega)
      have e96 : w1 96 c' = w 96 c' := x2 _ _ (by omega)
      refine ⟨?_, fun d hd => ?_⟩
      · rw [e64]
        by_cases e : c' = c8
        · subst e
          rw [x1, y1, e96, h0.1]
        · rw [x2 _ _ (by omega), y2 96 c' (by omega) (by omega), e96]
          exact h0.1
      · rw [y2 (67 + 5 * c') d (by omega) (by omega), x2 (67 + 5 * c') d (by omega), y2 98 _ (by omega) (by omega), x2 98 _ (by omega), y2 (68 + 5 * c') d (by omega) (by omega), x2 (68 + 5 * c') d (by omega), y2 100 _ (by omega) (by omega), x2 100 _ (by omega)]
        exact h0.2 d hd
theorem JD.door {w w1 w2 : qW} {c d1 s v b : Int} {r r2 : qV} (h : JD w) (hX : drX c d1 s v b w r w1) (hR : drR c d1 s v b w1 r2 w2) : JD w2 ∧ r = r2 := by
  rcases hX with ⟨c1, rfl, rfl⟩ | ⟨c1, rfl, c9, d9, ec, ed, hc9, hd9, x1, x2, x3⟩
  · rcases hR with ⟨c2, rfl, rfl⟩ | ⟨c2, -⟩
    · exact ⟨h, rfl⟩
    · omega
  · rcases hR with ⟨c2, -⟩ | ⟨-, rfl, c8, d8, ec2, ed2, -, -, y1, y2, y3⟩
    · omega
    · obtain rfl : c8 = c9 := by omega
      obtain rfl : d8 = d9 := by omega
      refine ⟨fun c' hc' => ?_, rfl⟩
      have h0 := h c' hc'
      refine ⟨?_, fun d hd => ?_⟩
      · rw [y3 (64 + 5 * c') 0 (by omega) (by omega) (by omega), x3 (64 + 5 * c') 0 (by omega) (by omega) (by omega), y3 96 c' (by decide) (by decide) (by decide), x3 96 c' (by omega) (by omega) (by omega)]
        exact h0.1
      · have z := h0.2 d hd
        rw [y3 (67 + 5 * c') d (by omega) (by omega) (by omega), y3 (68 + 5 * c') d (by omega) (by omega) (by omega), y1, y2, x3 98 _ (by omega) (by omega) (by omega), x3 100 _ (by omega) (by omega) (by omega)]
        by_cases e : c' = c8
        · subst e
          rw [x1, x2]
          by_cases e2 : d = d8
          · rw [if_pos e2, if_pos e2, if_pos (by omega), if_pos (by omega)]; exact ⟨rfl, rfl⟩
          · rw [if_neg e2, if_neg e2, if_neg (by omega), if_neg (by omega)]; exact z
        · rw [x3 (67 + 5 * c') d (by omega) (by omega) (by omega), x3 (68 + 5 * c') d (by omega) (by omega) (by omega), if_neg (by omega), if_neg (by omega)]
          exact z
