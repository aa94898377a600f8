/-! text and fault, on both sides -/
theorem TXF.eq {s : Int × Nat × Nat} {wT : qW} {r r2 : qV} {w1 w2 : qW} (h : TXF s wT r w1) (h2 : TXR (plF wT) s r2 w2) : r2 = r ∧ w2 95 32 = w1 8 6 ∧ w2 95 34 = w1 8 7 := by
  rcases h with ⟨c, j, e, a1, a2, a3⟩ | ⟨k, c, j, e, hk, a1, a2, a3⟩
  · rcases h2 with ⟨c', j', e', b1, b2, b3⟩ | ⟨k', c', j', e', hk', -⟩
    · rw [e] at e'; cases e'
      exact ⟨b1.trans a1.symm, b2.trans a2.symm, b3.trans a3.symm⟩
    · rw [e] at e'; cases e'; omega
  · rcases h2 with ⟨c', j', e', b1, b2, b3⟩ | ⟨k', c', j', e', hk', b1, b2, b3⟩
    · rw [e] at e'; cases e'; omega
    · rw [e] at e'; cases e'
      exact ⟨b1.trans a1.symm, b2.trans a2.symm, b3.trans a3.symm⟩
/-- what the reference's text does behind the class's -/
theorem TEX.ref {d : Nat} (hd : 42 ≤ d) {k : Int} {w w1 : qW} {n : Nat} {r : qV} (hI : yInv zgf zga zra zSp w) (hI1 : yInv zgf zga zra zSp w1) (hJ : JM w) (hn9 : n ≤ 600) (hn : w 8 1 = (n : Int)) (h25 : w1 95 25 = w 95 25) (h114 : ∀ j, w1 114 j = w 114 j) (h : TEX k w n r w1) : qG none d 245 0 [(2, 95), (0, k), (9, 0)] [] w1 142 (fun (r2 : qV) (w2 : qW) (_ : Nat) => r2 = r ∧ w2 95 32 = w1 8 6 ∧ w2 95 34 = w1 8 7) := by
  have hpos : ∀ j, 0 ≤ w1 114 j := fun j => (hI1.2.1 114 j _ rfl rfl).1
  rcases h with ⟨a, b, c, e6, e7⟩ | ⟨a, l, l2, wT, hl, hl2, hB, hF⟩ | ⟨a, l, l2, wT, hl, hl2, hB, hF⟩
  · have hk : k < 0 ∨ 4 < k := by unfold isInV at a; (repeat' split at a) <;> omega
    refine qG.mono (K_textXX hd k hk w1 hI1) ?_
    rintro r2 w2 _ ⟨h1, h2, h3⟩
    exact ⟨h1.trans c.symm, h2.trans e6.symm, h3.trans e7.symm⟩
  · obtain ⟨t, E, hT⟩ := hB.s hI hJ hn hn9 hl hl2
    obtain ⟨m, rfl, hm1, hm2⟩ := isIn_n (by decide) a
    refine qG.mono (K_textSX hd m (by omega) w1 hI1 hpos (hT.cg h25 h114)) ?_
    rintro r2 w2 _ h2
    exact hF.eq h2
  · subst a
    obtain ⟨t, E, hT⟩ := hB.p hI hJ hn hn9 hl hl2
    refine qG.mono (K_textPX hd w1 hI1 hpos (hT.cg h25 h114)) ?_
    rintro r2 w2 _ h2
    exact hF.eq h2
/-- the tapes and the faults are alike -/
noncomputable def JF (w : qW) : Prop := JM w ∧ w 8 6 = w 95 32 ∧ w 8 7 = w 95 34
noncomputable def jfM (m : List Nat) : Bool := jmM m && (!ymo 8 6 m && (!ymo 8 7 m && (!ymo 95 32 m && !ymo 95 34 m)))
theorem JF.aw {m : List Nat} {w w1 : qW} (h : JF w) (a : AW m w w1) (hm : jfM m = true) : JF w1 := by
  unfold jfM at hm
  simp only [Bool.and_eq_true, Bool.not_eq_true'] at hm
  obtain ⟨m1, m2, m3, m4, m5⟩ := hm
  exact ⟨h.1.aw a m1, by rw [a.2 8 6 (fun _ => m2), a.2 95 32 (fun _ => m4)]; exact h.2.1, by rw [a.2 8 7 (fun _ => m3), a.2 95 34 (fun _ => m5)]; exact h.2.2⟩
theorem JM.len {w : qW} (h : JM w) : w 8 1 = w 95 25 := h.1
theorem JF.len {w : qW} (h : JF w) : w 8 1 = w 95 25 := h.1.1
theorem JF.feed {w w1 w2 : qW} {a b c e f : Int} {n : Nat} {r r2 : qV} (h : JF w) (hn : w 8 1 = (n : Int)) (hX : fbX a b c e f n w r w1) (hR : fbR a b c e f n w1 r2 w2) : JF w2 ∧ r = r2 := by
  obtain ⟨hM, hr⟩ := h.1.feed hn hX hR
  have fx : ∀ q k, q ≠ 9 → ¬ (q = 8 ∧ k = 1) → w1 q k = w q k := fun q k h1 h2 => by
    rcases hX with ⟨-, -, e⟩ | ⟨-, -, -, -, x3⟩
    · rw [e]
    · exact x3 q k (fun z => h1 z.1) h2
  have fr : ∀ q k, q ≠ 114 → ¬ (q = 95 ∧ k = 25) → w2 q k = w1 q k := fun q k h1 h2 => by
    rcases hR with ⟨-, -, e⟩ | ⟨-, -, -, -, x3⟩
    · rw [e]
    · exact x3 q k (fun z => h1 z.1) h2
  refine ⟨⟨hM, ?_, ?_⟩, hr⟩
  · rw [fr 8 6 (by decide) (by decide), fx 8 6 (by decide) (by decide), fr 95 32 (by decide) (by decide), fx 95 32 (by decide) (by decide)]; exact h.2.1
  · rw [fr 8 7 (by decide) (by decide), fx 8 7 (by decide) (by decide), fr 95 34 (by decide) (by decide), fx 95 34 (by decide) (by decide)]; exact h.2.2
theorem JF.fin {w w1 w2 : qW} {v : Int} {n : Nat} {r r2 : qV} (h : JF w) (hn : w 8 1 = (n : Int)) (hX : enX v n w r w1) (hR : enR v n w1 r2 w2) : JF w2 ∧ r = r2 := by
  obtain ⟨hM, hr⟩ := h.1.fin hn hX hR
  have fx : ∀ q k, ¬ (q = 8 ∧ k = 1) → w1 q k = w q k := fun q k h2 => by
    rcases hX with ⟨-, -, e⟩ | ⟨-, -, e⟩
    · rw [e]
    · rw [e]; exact qup_f h2
  have fr : ∀ q k, ¬ (q = 95 ∧ k = 25) → w2 q k = w1 q k := fun q k h2 => by
    rcases hR with ⟨-, -, e⟩ | ⟨-, -, e⟩
    · rw [e]
    · rw [e]; exact qup_f h2
  refine ⟨⟨hM, ?_, ?_⟩, hr⟩
  · rw [fr 8 6 (by decide), fx 8 6 (by decide), fr 95 32 (by decide), fx 95 32 (by decide)]; exact h.2.1
  · rw [fr 8 7 (by decide), fx 8 7 (by decide), fr 95 34 (by decide), fx 95 34 (by decide)]; exact h.2.2
