/-! the class's tokens are the reference's -/
/-- the bytes a .. e are the word l -/
noncomputable def MT (w : qW) (a e : Nat) (l : List Int) : Prop := e - a = l.length ∧ ∀ j, j < l.length → w 114 (a + j) = l.getD j 0
theorem MT.eq {w : qW} {a e : Nat} {l l2 : List Int} (h : MT w a e l) (h2 : MT w a e l2) : l = l2 := by
  apply List.ext_getElem (h.1.symm.trans h2.1)
  intro j h3 h4
  have x := h.2 j h3
  have y := h2.2 j h4
  rw [List.getD_eq_getElem?_getD, List.getElem?_eq_getElem h3] at x
  rw [List.getD_eq_getElem?_getD, List.getElem?_eq_getElem h4] at y
  exact x.symm.trans y
theorem isK_m {W : qW} {l : List Int} : ∀ j, isK W l j ≠ 0 ↔ (W 95 26 - W 95 28 = (l.length : Int) ∧ ∀ u, u < j → W 114 ((W 95 28).toNat + u) = l.getD u 0)
  | 0 => by
    unfold isK
    constructor
    · intro h
      split at h
      · rename_i e; exact ⟨e, fun u hu => absurd hu (Nat.not_lt_zero u)⟩
      · exact absurd rfl h
    · intro h; rw [if_pos h.1]; decide
  | j + 1 => by
    have ih := isK_m (W := W) (l := l) j
    unfold isK
    constructor
    · intro h
      by_cases e : isK W l j = 0
      · rw [if_pos e] at h; exact absurd rfl h
      · rw [if_neg e] at h
        obtain ⟨a, b⟩ := ih.mp e
        refine ⟨a, fun u hu => ?_⟩
        by_cases q : u = j
        · subst q
          by_cases z : W 114 ((W 95 28).toNat + u) = l.getD u 0
          · exact z
          · rw [if_neg z] at h; exact absurd rfl h
        · exact b u (by omega)
    · intro h
      have e : ¬ isK W l j = 0 := ih.mpr ⟨h.1, fun u hu => h.2 u (by omega)⟩
      rw [if_neg e, if_pos (h.2 j (by omega))]
      decide
theorem isV_m {w W : qW} {a e : Nat} {x : Int} (h26 : W 95 26 = (e : Int)) (h28 : W 95 28 = (a : Int)) (h114 : ∀ k, W 114 k = w 114 k) (hae : a ≤ e) : isV W x ≠ 0 ↔ MT w a e ((qtxb x).getD []) := by
  unfold isV MT
  rw [isK_m, h26, h28, Int.toNat_natCast]
  constructor
  · rintro ⟨p, q⟩
    exact ⟨by omega, fun j hj => by rw [← h114]; exact q j hj⟩
  · rintro ⟨p, q⟩
    exact ⟨by omega, fun j hj => by rw [h114]; exact q j hj⟩
/-- the list L holds the N words lw, each at its end -/
noncomputable def WLc (L : List Int) (lw : Nat → List Int) (N : Nat) : Bool := (List.range (L.length + 1)).all (fun i => !decide (EW L i) || (Nat.blt (wkF L i) N && (Nat.beq (i - wsF L i) (lw (wkF L i)).length && (List.range (i - wsF L i)).all (fun j => decide (L.getD (wsF L i + j) 0 = (lw (wkF L i)).getD j 0))))) && (List.range N).all (fun k => (List.range (L.length + 1)).any (fun i => decide (EW L i) && Nat.beq (wkF L i) k)) && (List.range N).all (fun k => (List.range N).all (fun j => Nat.beq j k || !decide (lw j = lw k)))
theorem WL_m {L : List Int} {lw : Nat → List Int} {N : Nat} (hW : WLc L lw N = true) {w : qW} {a e : Nat} (h9 : ∀ j, j < e - a → w 9 (a + j) = w 114 (a + j)) {v : Int} (h : wcP w L a e v) : (∃ k, k < N ∧ MT w a e (lw k) ∧ v = 10000 + ((k : Nat) : Int)) ∨ ((∀ k, k < N → ¬ MT w a e (lw k)) ∧ v = -1) := by
  unfold WLc at hW
  rw [Bool.and_eq_true, Bool.and_eq_true] at hW
  obtain ⟨⟨w1, w2⟩, -⟩ := hW
  have key : ∀ i, i ≤ L.length → EW L i → wkF L i < N ∧ (i - wsF L i = (lw (wkF L i)).length) ∧ ∀ j, j < i - wsF L i → L.getD (wsF L i + j) 0 = (lw (wkF L i)).getD j 0 := fun i hi hE => by
    have q := List.all_eq_true.mp w1 i (List.mem_range.mpr (by omega))
    rw [decide_eq_true hE] at q
    simp only [Bool.not_true, Bool.false_or, Bool.and_eq_true, Nat.blt_eq] at q
    refine ⟨q.1, Nat.eq_of_beq_eq_true q.2.1, fun j hj => ?_⟩
    exact of_decide_eq_true (List.all_eq_true.mp q.2.2 j (List.mem_range.mpr hj))
  rcases h with ⟨i, hi, hM, hv⟩ | ⟨hno, hv⟩
  · obtain ⟨k1, k2, k3⟩ := key i hi hM.1
    refine .inl ⟨wkF L i, k1, ⟨by rw [← k2]; exact hM.2.1.symm, fun j hj => ?_⟩, hv⟩
    rw [← k2] at hj
    rw [← k3 j hj, ← h9 j (by rw [← hM.2.1]; exact hj)]
    exact (hM.2.2 j hj).symm
  · refine .inr ⟨fun k hk hM => ?_, hv⟩
    have q := List.all_eq_true.mp w2 k (List.mem_range.mpr hk)
    obtain ⟨i, hi, q⟩ := List.any_eq_true.mp q
    rw [Bool.and_eq_true] at q
    have hE := of_decide_eq_true q.1
    have hk2 := Nat.eq_of_beq_eq_true q.2
    obtain ⟨k1, k2, k3⟩ := key i (by have := List.mem_range.mp hi; omega) hE
    rw [hk2] at k2 k3
    refine hno i (by have := List.mem_range.mp hi; omega) ⟨hE, k2.trans hM.1.symm, fun j hj => ?_⟩
    rw [k3 j hj, h9 j (by rw [hM.1, ← k2]; exact hj)]
    exact (hM.2 j (by rw [← k2]; exact hj)).symm
theorem WL_u {L : List Int} {lw : Nat → List Int} {N : Nat} (hW : WLc L lw N = true) {w : qW} {a e j k : Nat} (hj : j < N) (hk : k < N) (h : MT w a e (lw j)) (h2 : MT w a e (lw k)) : j = k := by
  unfold WLc at hW
  rw [Bool.and_eq_true] at hW
  have q := List.all_eq_true.mp (List.all_eq_true.mp hW.2 k (List.mem_range.mpr hk)) j (List.mem_range.mpr hj)
  rw [Bool.or_eq_true] at q
  rcases q with q | q
  · exact Nat.eq_of_beq_eq_true q
  · rw [decide_eq_true (h.eq h2)] at q; cases q
noncomputable def lwS (k : Nat) : List Int := (qtxb ((5 + k : Nat) : Int)).getD []
noncomputable def lwP (k : Nat) : List Int := (qtxb ((11 + k : Nat) : Int)).getD []
theorem WL_3 : WLc ((qtxb 3).getD []) lwS 6 = true := by decide +kernel
theorem WL_1 : WLc ((qtxb 1).getD []) lwP 13 = true := by decide +kernel
theorem chS {W : qW} {M : Nat → Prop} (hM : ∀ k, k < 6 → (isV W ((5 + k : Nat) : Int) ≠ 0 ↔ M k)) {v : Int} (h : (∃ k, k < 6 ∧ (M k ∧ ∀ j, j < 6 → M j → j = k) ∧ v = 10000 + ((k : Nat) : Int)) ∨ ((∀ k, k < 6 → ¬ M k) ∧ v = -1)) : TMS v (showV W) ∧ ¬ (0 ≤ v ∧ v < 10000) := by
  have n : ∀ j, j < 6 → ¬ M j → isV W ((5 + j : Nat) : Int) = 0 := fun j hj h => Decidable.byContradiction (fun z => h ((hM j hj).mp z))
  have y : ∀ j, j < 6 → M j → ¬ isV W ((5 + j : Nat) : Int) = 0 := fun j hj h => (hM j hj).mpr h
  rcases h with ⟨k, hk, ⟨h1, h2⟩, rfl⟩ | ⟨h1, rfl⟩
  · have u : ∀ j, j < 6 → j ≠ k → isV W ((5 + j : Nat) : Int) = 0 := fun j hj hne => n j hj (fun z => hne (h2 j hj z))
    refine ⟨?_, by omega⟩
    rcases (show k = 0 ∨ k = 1 ∨ k = 2 ∨ k = 3 ∨ k = 4 ∨ k = 5 by omega) with rfl | rfl | rfl | rfl | rfl | rfl
    · have e : showV W = 20 := by unfold showV; rw [if_pos (show ¬ isV W 5 = 0 from y 0 (by decide) h1)]
      rw [e]; unfold TMS; omega
    · have e : showV W = 21 := by unfold showV; rw [if_neg (fun z => z (show isV W 5 = 0 from u 0 (by decide) (by decide))), if_pos (show ¬ isV W 6 = 0 from y 1 (by decide) h1)]
      rw [e]; unfold TMS; omega
    · have e : showV W = 22 := by unfold showV; rw [if_neg (fun z => z (show isV W 5 = 0 from u 0 (by decide) (by decide))), if_neg (fun z => z (show isV W 6 = 0 from u 1 (by decide) (by decide))), if_pos (show ¬ isV W 7 = 0 from y 2 (by decide) h1)]
      rw [e]; unfold TMS; omega
    · have e : showV W = 23 := by unfold showV; rw [if_neg (fun z => z (show isV W 5 = 0 from u 0 (by decide) (by decide))), if_neg (fun z => z (show isV W 6 = 0 from u 1 (by decide) (by decide))), if_neg (fun z => z (show isV W 7 = 0 from u 2 (by decide) (by decide))), if_pos (show ¬ isV W 8 = 0 from y 3 (by decide) h1)]
      rw [e]; unfold TMS; omega
    · have e : showV W = 24 := by unfold showV; rw [if_neg (fun z => z (show isV W 5 = 0 from u 0 (by decide) (by decide))), if_neg (fun z => z (show isV W 6 = 0 from u 1 (by decide) (by decide))), if_neg (fun z => z (show isV W 7 = 0 from u 2 (by decide) (by decide))), if_neg (fun z => z (show isV W 8 = 0 from u 3 (by decide) (by decide))), if_pos (show ¬ isV W 9 = 0 from y 4 (by decide) h1)]
      rw [e]; unfold TMS; omega
    · have e : showV W = 25 := by unfold showV; rw [if_neg (fun z => z (show isV W 5 = 0 from u 0 (by decide) (by decide))), if_neg (fun z => z (show isV W 6 = 0 from u 1 (by decide) (by decide))), if_neg (fun z => z (show isV W 7 = 0 from u 2 (by decide) (by decide))), if_neg (fun z => z (show isV W 8 = 0 from u 3 (by decide) (by decide))), if_neg (fun z => z (show isV W 9 = 0 from u 4 (by decide) (by decide))), if_pos (show ¬ isV W 10 = 0 from y 5 (by decide) h1)]
      rw [e]; unfold TMS; omega
  · have e : showV W = 1 := by unfold showV; rw [if_neg (fun z => z (show isV W 5 = 0 from n 0 (by decide) (h1 0 (by decide)))), if_neg (fun z => z (show isV W 6 = 0 from n 1 (by decide) (h1 1 (by decide)))), if_neg (fun z => z (show isV W 7 = 0 from n 2 (by decide) (h1 2 (by decide)))), if_neg (fun z => z (show isV W 8 = 0 from n 3 (by decide) (h1 3 (by decide)))), if_neg (fun z => z (show isV W 9 = 0 from n 4 (by decide) (h1 4 (by decide)))), if_neg (fun z => z (show isV W 10 = 0 from n 5 (by decide) (h1 5 (by decide))))]
    rw [e]; unfold TMS; omega
theorem chP {W : qW} {M : Nat → Prop} (hM : ∀ k, k < 13 → (isV W ((11 + k : Nat) : Int) ≠ 0 ↔ M k)) {v : Int} (h : (∃ k, k < 13 ∧ (M k ∧ ∀ j, j < 13 → M j → j = k) ∧ v = 10000 + ((k : Nat) : Int)) ∨ ((∀ k, k < 13 → ¬ M k) ∧ v = -1)) (h35 : W 95 35 = 0) : TMP v (wordV W) ∧ ¬ (0 ≤ v ∧ v < 10000) := by
  have n : ∀ j, j < 13 → ¬ M j → isV W ((11 + j : Nat) : Int) = 0 := fun j hj h => Decidable.byContradiction (fun z => h ((hM j hj).mp z))
  have y : ∀ j, j < 13 → M j → ¬ isV W ((11 + j : Nat) : Int) = 0 := fun j hj h => (hM j hj).mpr h
  rcases h with ⟨k, hk, ⟨h1, h2⟩, rfl⟩ | ⟨h1, rfl⟩
  · have u : ∀ j, j < 13 → j ≠ k → isV W ((11 + j : Nat) : Int) = 0 := fun j hj hne => n j hj (fun z => hne (h2 j hj z))
    refine ⟨?_, by omega⟩
    rcases (show k = 0 ∨ k = 1 ∨ k = 2 ∨ k = 3 ∨ k = 4 ∨ k = 5 ∨ k = 6 ∨ k = 7 ∨ k = 8 ∨ k = 9 ∨ k = 10 ∨ k = 11 ∨ k = 12 by omega) with rfl | rfl | rfl | rfl | rfl | rfl | rfl | rfl | rfl | rfl | rfl | rfl | rfl
    · have e : wordV W = 7 := by unfold wordV; rw [if_neg (fun z => z h35)]; rw [if_pos (show ¬ isV W 11 = 0 from y 0 (by decide) h1)]
      rw [e]; unfold TMP; omega
    · have e : wordV W = 8 := by unfold wordV; rw [if_neg (fun z => z h35)]; rw [if_neg (fun z => z (show isV W 11 = 0 from u 0 (by decide) (by decide))), if_pos (show ¬ isV W 12 = 0 from y 1 (by decide) h1)]
      rw [e]; unfold TMP; omega
    · have e : wordV W = 3 := by unfold wordV; rw [if_neg (fun z => z h35)]; rw [if_neg (fun z => z (show isV W 11 = 0 from u 0 (by decide) (by decide))), if_neg (fun z => z (show isV W 12 = 0 from u 1 (by decide) (by decide))), if_pos (show ¬ isV W 13 = 0 from y 2 (by decide) h1)]
      rw [e]; unfold TMP; omega
    · have e : wordV W = 4 := by unfold wordV; rw [if_neg (fun z => z h35)]; rw [if_neg (fun z => z (show isV W 11 = 0 from u 0 (by decide) (by decide))), if_neg (fun z => z (show isV W 12 = 0 from u 1 (by decide) (by decide))), if_neg (fun z => z (show isV W 13 = 0 from u 2 (by decide) (by decide))), if_pos (show ¬ isV W 14 = 0 from y 3 (by decide) h1)]
      rw [e]; unfold TMP; omega
    · have e : wordV W = 5 := by unfold wordV; rw [if_neg (fun z => z h35)]; rw [if_neg (fun z => z (show isV W 11 = 0 from u 0 (by decide) (by decide))), if_neg (fun z => z (show isV W 12 = 0 from u 1 (by decide) (by decide))), if_neg (fun z => z (show isV W 13 = 0 from u 2 (by decide) (by decide))), if_neg (fun z => z (show isV W 14 = 0 from u 3 (by decide) (by decide))), if_pos (show ¬ isV W 15 = 0 from y 4 (by decide) h1)]
      rw [e]; unfold TMP; omega
    · have e : wordV W = 6 := by unfold wordV; rw [if_neg (fun z => z h35)]; rw [if_neg (fun z => z (show isV W 11 = 0 from u 0 (by decide) (by decide))), if_neg (fun z => z (show isV W 12 = 0 from u 1 (by decide) (by decide))), if_neg (fun z => z (show isV W 13 = 0 from u 2 (by decide) (by decide))), if_neg (fun z => z (show isV W 14 = 0 from u 3 (by decide) (by decide))), if_neg (fun z => z (show isV W 15 = 0 from u 4 (by decide) (by decide))), if_pos (show ¬ isV W 16 = 0 from y 5 (by decide) h1)]
      rw [e]; unfold TMP; omega
    · have e : wordV W = 41 := by unfold wordV; rw [if_neg (fun z => z h35)]; rw [if_neg (fun z => z (show isV W 11 = 0 from u 0 (by decide) (by decide))), if_neg (fun z => z (show isV W 12 = 0 from u 1 (by decide) (by decide))), if_neg (fun z => z (show isV W 13 = 0 from u 2 (by decide) (by decide))), if_neg (fun z => z (show isV W 14 = 0 from u 3 (by decide) (by decide))), if_neg (fun z => z (show isV W 15 = 0 from u 4 (by decide) (by decide))), if_neg (fun z => z (show isV W 16 = 0 from u 5 (by decide) (by decide))), if_pos (show ¬ isV W 17 = 0 from y 6 (by decide) h1)]
      rw [e]; unfold TMP; omega
    · have e : wordV W = 42 := by unfold wordV; rw [if_neg (fun z => z h35)]; rw [if_neg (fun z => z (show isV W 11 = 0 from u 0 (by decide) (by decide))), if_neg (fun z => z (show isV W 12 = 0 from u 1 (by decide) (by decide))), if_neg (fun z => z (show isV W 13 = 0 from u 2 (by decide) (by decide))), if_neg (fun z => z (show isV W 14 = 0 from u 3 (by decide) (by decide))), if_neg (fun z => z (show isV W 15 = 0 from u 4 (by decide) (by decide))), if_neg (fun z => z (show isV W 16 = 0 from u 5 (by decide) (by decide))), if_neg (fun z => z (show isV W 17 = 0 from u 6 (by decide) (by decide))), if_pos (show ¬ isV W 18 = 0 from y 7 (by decide) h1)]
      rw [e]; unfold TMP; omega
    · have e : wordV W = 43 := by unfold wordV; rw [if_neg (fun z => z h35)]; rw [if_neg (fun z => z (show isV W 11 = 0 from u 0 (by decide) (by decide))), if_neg (fun z => z (show isV W 12 = 0 from u 1 (by decide) (by decide))), if_neg (fun z => z (show isV W 13 = 0 from u 2 (by decide) (by decide))), if_neg (fun z => z (show isV W 14 = 0 from u 3 (by decide) (by decide))), if_neg (fun z => z (show isV W 15 = 0 from u 4 (by decide) (by decide))), if_neg (fun z => z (show isV W 16 = 0 from u 5 (by decide) (by decide))), if_neg (fun z => z (show isV W 17 = 0 from u 6 (by decide) (by decide))), if_neg (fun z => z (show isV W 18 = 0 from u 7 (by decide) (by decide))), if_pos (show ¬ isV W 19 = 0 from y 8 (by decide) h1)]
      rw [e]; unfold TMP; omega
    · have e : wordV W = 44 := by unfold wordV; rw [if_neg (fun z => z h35)]; rw [if_neg (fun z => z (show isV W 11 = 0 from u 0 (by decide) (by decide))), if_neg (fun z => z (show isV W 12 = 0 from u 1 (by decide) (by decide))), if_neg (fun z => z (show isV W 13 = 0 from u 2 (by decide) (by decide))), if_neg (fun z => z (show isV W 14 = 0 from u 3 (by decide) (by decide))), if_neg (fun z => z (show isV W 15 = 0 from u 4 (by decide) (by decide))), if_neg (fun z => z (show isV W 16 = 0 from u 5 (by decide) (by decide))), if_neg (fun z => z (show isV W 17 = 0 from u 6 (by decide) (by decide))), if_neg (fun z => z (show isV W 18 = 0 from u 7 (by decide) (by decide))), if_neg (fun z => z (show isV W 19 = 0 from u 8 (by decide) (by decide))), if_pos (show ¬ isV W 20 = 0 from y 9 (by decide) h1)]
      rw [e]; unfold TMP; omega
    · have e : wordV W = 45 := by unfold wordV; rw [if_neg (fun z => z h35)]; rw [if_neg (fun z => z (show isV W 11 = 0 from u 0 (by decide) (by decide))), if_neg (fun z => z (show isV W 12 = 0 from u 1 (by decide) (by decide))), if_neg (fun z => z (show isV W 13 = 0 from u 2 (by decide) (by decide))), if_neg (fun z => z (show isV W 14 = 0 from u 3 (by decide) (by decide))), if_neg (fun z => z (show isV W 15 = 0 from u 4 (by decide) (by decide))), if_neg (fun z => z (show isV W 16 = 0 from u 5 (by decide) (by decide))), if_neg (fun z => z (show isV W 17 = 0 from u 6 (by decide) (by decide))), if_neg (fun z => z (show isV W 18 = 0 from u 7 (by decide) (by decide))), if_neg (fun z => z (show isV W 19 = 0 from u 8 (by decide) (by decide))), if_neg (fun z => z (show isV W 20 = 0 from u 9 (by decide) (by decide))), if_pos (show ¬ isV W 21 = 0 from y 10 (by decide) h1)]
      rw [e]; unfold TMP; omega
    · have e : wordV W = 46 := by unfold wordV; rw [if_neg (fun z => z h35)]; rw [if_neg (fun z => z (show isV W 11 = 0 from u 0 (by decide) (by decide))), if_neg (fun z => z (show isV W 12 = 0 from u 1 (by decide) (by decide))), if_neg (fun z => z (show isV W 13 = 0 from u 2 (by decide) (by decide))), if_neg (fun z => z (show isV W 14 = 0 from u 3 (by decide) (by decide))), if_neg (fun z => z (show isV W 15 = 0 from u 4 (by decide) (by decide))), if_neg (fun z => z (show isV W 16 = 0 from u 5 (by decide) (by decide))), if_neg (fun z => z (show isV W 17 = 0 from u 6 (by decide) (by decide))), if_neg (fun z => z (show isV W 18 = 0 from u 7 (by decide) (by decide))), if_neg (fun z => z (show isV W 19 = 0 from u 8 (by decide) (by decide))), if_neg (fun z => z (show isV W 20 = 0 from u 9 (by decide) (by decide))), if_neg (fun z => z (show isV W 21 = 0 from u 10 (by decide) (by decide))), if_pos (show ¬ isV W 22 = 0 from y 11 (by decide) h1)]
      rw [e]; unfold TMP; omega
    · have e : wordV W = 47 := by unfold wordV; rw [if_neg (fun z => z h35)]; rw [if_neg (fun z => z (show isV W 11 = 0 from u 0 (by decide) (by decide))), if_neg (fun z => z (show isV W 12 = 0 from u 1 (by decide) (by decide))), if_neg (fun z => z (show isV W 13 = 0 from u 2 (by decide) (by decide))), if_neg (fun z => z (show isV W 14 = 0 from u 3 (by decide) (by decide))), if_neg (fun z => z (show isV W 15 = 0 from u 4 (by decide) (by decide))), if_neg (fun z => z (show isV W 16 = 0 from u 5 (by decide) (by decide))), if_neg (fun z => z (show isV W 17 = 0 from u 6 (by decide) (by decide))), if_neg (fun z => z (show isV W 18 = 0 from u 7 (by decide) (by decide))), if_neg (fun z => z (show isV W 19 = 0 from u 8 (by decide) (by decide))), if_neg (fun z => z (show isV W 20 = 0 from u 9 (by decide) (by decide))), if_neg (fun z => z (show isV W 21 = 0 from u 10 (by decide) (by decide))), if_neg (fun z => z (show isV W 22 = 0 from u 11 (by decide) (by decide))), if_pos (show ¬ isV W 23 = 0 from y 12 (by decide) h1)]
      rw [e]; unfold TMP; omega
  · have e : wordV W = 1 := by unfold wordV; rw [if_neg (fun z => z h35)]; rw [if_neg (fun z => z (show isV W 11 = 0 from n 0 (by decide) (h1 0 (by decide)))), if_neg (fun z => z (show isV W 12 = 0 from n 1 (by decide) (h1 1 (by decide)))), if_neg (fun z => z (show isV W 13 = 0 from n 2 (by decide) (h1 2 (by decide)))), if_neg (fun z => z (show isV W 14 = 0 from n 3 (by decide) (h1 3 (by decide)))), if_neg (fun z => z (show isV W 15 = 0 from n 4 (by decide) (h1 4 (by decide)))), if_neg (fun z => z (show isV W 16 = 0 from n 5 (by decide) (h1 5 (by decide)))), if_neg (fun z => z (show isV W 17 = 0 from n 6 (by decide) (h1 6 (by decide)))), if_neg (fun z => z (show isV W 18 = 0 from n 7 (by decide) (h1 7 (by decide)))), if_neg (fun z => z (show isV W 19 = 0 from n 8 (by decide) (h1 8 (by decide)))), if_neg (fun z => z (show isV W 20 = 0 from n 9 (by decide) (h1 9 (by decide)))), if_neg (fun z => z (show isV W 21 = 0 from n 10 (by decide) (h1 10 (by decide)))), if_neg (fun z => z (show isV W 22 = 0 from n 11 (by decide) (h1 11 (by decide)))), if_neg (fun z => z (show isV W 23 = 0 from n 12 (by decide) (h1 12 (by decide))))]
    rw [e]; unfold TMP; omega
theorem wd_S {w W : qW} {a e : Nat} {v : Int} (h26 : W 95 26 = (e : Int)) (h28 : W 95 28 = (a : Int)) (h114 : ∀ k, W 114 k = w 114 k) (h35 : W 95 35 = 1) (hae : a ≤ e) (h9 : ∀ j, j < e - a → w 9 (a + j) = w 114 (a + j)) {l : List Int} (hl : qtxb 3 = some l) (h : wcP w l a e v) : TMS v (wordV W) ∧ ¬ (0 ≤ v ∧ v < 10000) := by
  have e3 : (qtxb 3).getD [] = l := by rw [hl]; rfl
  have hW := WL_3
  rw [e3] at hW
  have hw : wordV W = showV W := by unfold wordV; rw [if_pos (by omega)]
  rw [hw]
  refine chS (M := fun k => MT w a e (lwS k)) (fun k _ => isV_m h26 h28 h114 hae) ?_
  rcases WL_m hW h9 h with ⟨k, hk, h1, h2⟩ | h
  · exact .inl ⟨k, hk, ⟨h1, fun j hj z => WL_u hW hj hk z h1⟩, h2⟩
  · exact .inr h
theorem wd_P {w W : qW} {a e : Nat} {v : Int} (h26 : W 95 26 = (e : Int)) (h28 : W 95 28 = (a : Int)) (h114 : ∀ k, W 114 k = w 114 k) (h35 : W 95 35 = 0) (hae : a ≤ e) (h9 : ∀ j, j < e - a → w 9 (a + j) = w 114 (a + j)) {l : List Int} (hl : qtxb 1 = some l) (h : wcP w l a e v) : TMP v (wordV W) ∧ ¬ (0 ≤ v ∧ v < 10000) := by
  have e3 : (qtxb 1).getD [] = l := by rw [hl]; rfl
  have hW := WL_1
  rw [e3] at hW
  refine chP (M := fun k => MT w a e (lwP k)) (fun k _ => isV_m h26 h28 h114 hae) ?_ h35
  rcases WL_m hW h9 h with ⟨k, hk, h1, h2⟩ | h
  · exact .inl ⟨k, hk, ⟨h1, fun j hj z => WL_u hW hj hk z h1⟩, h2⟩
  · exact .inr h
/-- the tokens as the reference finds them -/
noncomputable def TKr (sh : Int) (TM : Int → Int → Prop) (w : qW) (a e : Nat) (v : Int) : Prop :=
  (letV (seeV w a) = 1 ∧ LT w a e ∧ ∀ W : qW, W 95 26 = (e : Int) → W 95 28 = (a : Int) → (∀ k, W 114 k = w 114 k) → W 95 35 = sh → TM v (wordV W) ∧ ¬ (0 ≤ v ∧ v < 10000)) ∨
  (¬ letV (seeV w a) = 1 ∧ digV (seeV w a) = 1 ∧ DG w a e ∧ ((e - a < 5 ∧ v = valF w a (e - a)) ∨ (¬ e - a < 5 ∧ v = -1))) ∨
  (¬ letV (seeV w a) = 1 ∧ ¬ digV (seeV w a) = 1 ∧ e = a + 1 ∧ ∀ W : qW, W 95 35 = sh → TM v (if sgnV W (seeV w a) = 0 then 1 else 100 + seeV w a) ∧ ¬ (0 ≤ v ∧ v < 10000))
noncomputable def blR (w : qW) (u : Nat) : Prop := seeV w u = 32 ∨ seeV w u = 10
noncomputable def TKS (sh : Int) (TM : Int → Int → Prop) (w : qW) (C P : Nat → Int) (t n : Nat) (E : Nat → Nat) : Prop := n ≤ 600 ∧ t ≤ n ∧ w 95 25 = (n : Int) ∧ E 0 = 0 ∧ E t ≤ n ∧ (∀ u, E t ≤ u → u < n → blR w u) ∧ (∀ i, t ≤ i → C i = -2 ∧ P i = (n : Int)) ∧ ∀ j, j < t → ∃ a : Nat, P j = (a : Int) ∧ E j ≤ a ∧ a < n ∧ (∀ u, E j ≤ u → u < a → blR w u) ∧ ¬ blR w a ∧ a < E (j + 1) ∧ E (j + 1) ≤ n ∧ TKr sh TM w a (E (j + 1)) (C j)
noncomputable def ENd (E : Nat → Nat) (t n i : Nat) : Nat := if i ≤ t then E i else n
noncomputable def SIMR (sh : Int) (TM : Int → Int → Prop) (w : qW) (C P : Nat → Int) (t n : Nat) (E : Nat → Nat) (i : Nat) (w1 : qW) : Prop := TM (C i) (w1 95 27) ∧ w1 95 28 = P i ∧ (0 ≤ C i → C i < 10000 → w1 95 29 = C i) ∧ w1 95 26 = ((ENd E t n (i + 1) : Nat) : Int) ∧ (∀ k, w1 114 k = w 114 k) ∧ w1 95 25 = w 95 25 ∧ w1 95 35 = sh ∧ w1 95 30 = 0
theorem LT.u {w : qW} {a b c : Nat} (h : LT w a b) (h2 : LT w a c) : b = c := by
  by_cases e : b < c
  · exact absurd (h2.2.1 b h.1 e) h.2.2
  · by_cases e2 : c < b
    · exact absurd (h.2.1 c h2.1 e2) h2.2.2
    · omega
theorem DG.u {w : qW} {a b c : Nat} (h : DG w a b) (h2 : DG w a c) : b = c := by
  by_cases e : b < c
  · exact absurd (h2.2.1 b h.1 e) h.2.2
  · by_cases e2 : c < b
    · exact absurd (h.2.1 c h2.1 e2) h2.2.2
    · omega
theorem see_cg {w w1 : qW} (h25 : w1 95 25 = w 95 25) (h114 : ∀ k, w1 114 k = w 114 k) (k : Nat) : seeV w1 k = seeV w k := by unfold seeV; rw [h25, h114]
theorem val_cg {w w1 : qW} (h : ∀ k, seeV w1 k = seeV w k) (a : Nat) : ∀ n, valF w1 a n = valF w a n
  | 0 => rfl
  | n + 1 => by rw [valF_s, valF_s, val_cg h a n, h]
theorem sim_fin {sh : Int} {TM : Int → Int → Prop} {w : qW} {C P : Nat → Int} {t n : Nat} {E : Nat → Nat} {i : Nat} {X w2 : qW} {v : Int} (hw : w2 = qup X 95 27 v) (h27 : TM (C i) v) (h28 : X 95 28 = P i) (h29 : 0 ≤ C i → C i < 10000 → X 95 29 = C i) (h26 : X 95 26 = ((ENd E t n (i + 1) : Nat) : Int)) (h114 : ∀ k, X 114 k = w 114 k) (h25 : X 95 25 = w 95 25) (h35 : X 95 35 = sh) (h30 : X 95 30 = 0) : SIMR sh TM w C P t n E i w2 := by
  subst hw
  refine ⟨by rw [qup_k]; exact h27, (qup_j (by decide)).trans h28, fun a b => (qup_j (by decide)).trans (h29 a b), (qup_j (by decide)).trans h26, fun k => (qup_nk (by decide)).trans (h114 k), (qup_j (by decide)).trans h25, (qup_j (by decide)).trans h35, (qup_j (by decide)).trans h30⟩
theorem blR_s {w w1 : qW} (sv : ∀ k, seeV w1 k = seeV w k) {u : Nat} : (seeV w1 u = 32 ∨ seeV w1 u = 10) ↔ blR w u := by unfold blR; rw [sv]
/-- from the place where the token i is looked for, next0 comes to it -/
theorem sim_nx {sh : Int} {TM : Int → Int → Prop} {w : qW} {C P : Nat → Int} {t n : Nat} {E : Nat → Nat} (hpos : ∀ k, 0 ≤ w 114 k) (hT : TKS sh TM w C P t n E) (h0 : TM (-2) 0) (h1 : TM (-1) 1) (h2 : ∀ c, 0 ≤ c → c < 10000 → TM c 2) {i : Nat} {w1 w2 : qW} (h26 : w1 95 26 = ((ENd E t n i : Nat) : Int)) (h114 : ∀ k, w1 114 k = w 114 k) (h25 : w1 95 25 = w 95 25) (h35 : w1 95 35 = sh) (h30 : w1 95 30 = 0) (hN : NX w1 w2) : SIMR sh TM w C P t n E i w2 := by
  obtain ⟨hn6, htn, hwn, hE0, hEt, hEb, hend, htok⟩ := hT
  have sv := see_cg h25 h114
  obtain ⟨a, hB, ha6, hNB⟩ := hN
  rw [h26, Int.toNat_natCast] at hB
  obtain ⟨b1, b2, b3⟩ := hB
  have hb2 : ∀ u, ENd E t n i ≤ u → u < a → blR w u := fun u q1 q2 => (blR_s sv).mp (b2 u q1 q2)
  have hb3 : ¬ blR w a := fun z => b3 ((blR_s sv).mpr z)
  have tk114 : ∀ b k, atW (tkW w1 a) b 114 k = w 114 k := fun b k => (atW_o (fun z => absurd z.1 (by decide))).trans ((tkW_o (fun z => absurd z.1 (by decide))).trans (h114 k))
  have tk95 : ∀ b j, j ≠ 26 → j ≠ 28 → atW (tkW w1 a) b 95 j = w1 95 j := fun b j q1 q2 => (atW_o (fun z => q1 z.2)).trans (tkW_o (fun z => z.2.elim q1 q2))
  have tk28 : ∀ b, atW (tkW w1 a) b 95 28 = (a : Int) := fun b => (atW_o (by decide)).trans tkW_tk
  by_cases hit : i < t
  · obtain ⟨a0, p1, p2, p3, p4, p5, p6, p7, p8⟩ := htok i hit
    have hEi : ENd E t n i = E i := if_pos (by omega)
    have hEs : ENd E t n (i + 1) = E (i + 1) := if_pos (by omega)
    rw [hEi] at b1 hb2
    have ea : a = a0 := by
      by_cases q : a < a0
      · exact absurd (p4 a b1 q) hb3
      · by_cases q2 : a0 < a
        · exact absurd (hb2 a0 p2 q2) p5
        · omega
    subst ea
    have hne : seeV w a ≠ -1 := by
      unfold seeV
      rw [hwn, if_pos (by omega)]
      intro z
      have := hpos a
      omega
    have hne1 : seeV w1 a ≠ -1 := by rw [sv]; exact hne
    rcases hNB with ⟨y, -⟩ | ⟨-, y1, b, hL, -, hw⟩ | ⟨-, y1, y2, b, hD, -, hw⟩ | ⟨-, y1, y2, -, hw⟩
    · exact absurd y hne1
    · rw [sv] at y1
      rcases p8 with ⟨q1, q2, q3⟩ | ⟨q1, -⟩ | ⟨q1, -⟩
      · have hb : b = E (i + 1) := LT.u (w := w) ⟨hL.1, fun j z1 z2 => by rw [← sv]; exact hL.2.1 j z1 z2, by rw [← sv]; exact hL.2.2⟩ q2
        subst hb
        obtain ⟨c1, c2⟩ := q3 (atW (tkW w1 a) (E (i + 1))) atW_at (tk28 _) (tk114 _) ((tk95 _ 35 (by decide) (by decide)).trans h35)
        exact sim_fin hw c1 ((tk28 _).trans p1.symm) (fun z1 z2 => absurd ⟨z1, z2⟩ c2) (by rw [hEs]; exact atW_at) (tk114 _) ((tk95 _ 25 (by decide) (by decide)).trans h25) ((tk95 _ 35 (by decide) (by decide)).trans h35) ((tk95 _ 30 (by decide) (by decide)).trans h30)
      · exact absurd y1 q1
      · exact absurd y1 q1
    · rw [sv] at y1 y2
      rcases p8 with ⟨q1, -⟩ | ⟨-, -, q2, q3⟩ | ⟨-, q1, -⟩
      · exact absurd q1 y1
      · have hb : b = E (i + 1) := DG.u (w := w) ⟨hD.1, fun j z1 z2 => by rw [← sv]; exact hD.2.1 j z1 z2, by rw [← sv]; exact hD.2.2⟩ q2
        subst hb
        have hv : valF w1 a (E (i + 1) - a) = valF w a (E (i + 1) - a) := val_cg sv a _
        have hin := valF_in (w := w) (a := a) (b := E (i + 1)) q2.2.1 (E (i + 1) - a) (by omega)
        rw [hv] at hw
        have hX : ∀ v j, j ≠ 26 → j ≠ 28 → j ≠ 29 → dgW (tkW w1 a) (E (i + 1)) v 95 j = w1 95 j := fun v j q1 q2 q3 => (dgW_o (fun z => z.2.elim q1 q3)).trans (tkW_o (fun z => z.2.elim q1 q2))
        refine sim_fin hw ?_ (((dgW_o (by decide)).trans tkW_tk).trans p1.symm) ?_ (by rw [hEs]; exact dgW_at) (fun k => (dgW_o (fun z => absurd z.1 (by decide))).trans ((tkW_o (fun z => absurd z.1 (by decide))).trans (h114 k))) ((hX _ 25 (by decide) (by decide) (by decide)).trans h25) ((hX _ 35 (by decide) (by decide) (by decide)).trans h35) ((hX _ 30 (by decide) (by decide) (by decide)).trans h30)
        · rcases q3 with ⟨r1, r2⟩ | ⟨r1, r2⟩
          · rw [if_pos r1, r2]; exact h2 _ hin.1 (by omega)
          · rw [if_neg r1, r2]; exact h1
        · intro z1 z2
          rcases q3 with ⟨r1, r2⟩ | ⟨r1, r2⟩
          · rw [r2]; exact dgW_val
          · rw [r2] at z1; exact absurd z1 (by decide)
      · exact absurd y2 q1
    · rw [sv] at y1 y2
      rcases p8 with ⟨q1, -⟩ | ⟨-, q1, -⟩ | ⟨-, -, q2, q3⟩
      · exact absurd q1 y1
      · exact absurd q1 y2
      · obtain ⟨c1, c2⟩ := q3 w1 h35
        rw [sv] at hw
        exact sim_fin hw c1 ((tk28 _).trans p1.symm) (fun z1 z2 => absurd ⟨z1, z2⟩ c2) (by rw [hEs, q2]; exact atW_at) (tk114 _) ((tk95 _ 25 (by decide) (by decide)).trans h25) ((tk95 _ 35 (by decide) (by decide)).trans h35) ((tk95 _ 30 (by decide) (by decide)).trans h30)
  · have hEn : E t ≤ ENd E t n i ∧ ENd E t n i ≤ n := by
      unfold ENd
      split
      · rw [show i = t by omega]; exact ⟨Nat.le_refl _, hEt⟩
      · exact ⟨hEt, Nat.le_refl _⟩
    have sn : ∀ u, n ≤ u → seeV w u = -1 := fun u hu => if_neg (by rw [hwn]; omega)
    have e1 : ¬ a < n := fun z => hb3 (hEb a (by omega) z)
    have e2 : ¬ n < a := fun z => by
      have := hb2 n (by omega) z
      unfold blR at this
      rw [sn n (Nat.le_refl _)] at this
      omega
    have ea : a = n := by omega
    subst ea
    have s1 : seeV w1 a = -1 := (sv a).trans (sn a (Nat.le_refl _))
    obtain ⟨c1, c2⟩ := hend i (by omega)
    rcases hNB with ⟨-, hw⟩ | ⟨y, -⟩ | ⟨y, -⟩ | ⟨y, -⟩
    · refine sim_fin hw (by rw [c1]; exact h0) (tkW_tk.trans c2.symm) (fun z => by rw [c1] at z; exact absurd z (by decide)) (by rw [show ENd E t a (i + 1) = a from if_neg (by omega)]; exact tkW_at) (fun k => (tkW_o (fun z => absurd z.1 (by decide))).trans (h114 k)) ((tkW_o (by decide)).trans h25) ((tkW_o (by decide)).trans h35) ((tkW_o (by decide)).trans h30)
    · exact absurd s1 y
    · exact absurd s1 y
    · exact absurd s1 y
theorem SIMR.so {sh : Int} {TM : Int → Int → Prop} {w : qW} {C P : Nat → Int} {t n : Nat} {E : Nat → Nat} (hpos : ∀ k, 0 ≤ w 114 k) (hT : TKS sh TM w C P t n E) (h0 : TM (-2) 0) (h1 : TM (-1) 1) (h2 : ∀ c, 0 ≤ c → c < 10000 → TM c 2) : SO (SIMR sh TM w C P t n E) C P TM := by
  refine ⟨fun i w1 w2 hS _ hN => ?_, fun i w1 hS => ⟨hS.1, hS.2.1, hS.2.2.1⟩, fun i w1 w2 hS h95 h114 => ?_, fun i => ?_⟩
  · obtain ⟨-, -, -, a1, a2, a3, a4, a5⟩ := hS
    exact sim_nx hpos hT h0 h1 h2 a1 a2 a3 a4 a5 hN
  · obtain ⟨a1, a2, a3, a4, a5, a6, a7, a8⟩ := hS
    refine ⟨by rw [h95 27 (by omega)]; exact a1, by rw [h95 28 (by omega)]; exact a2, by rw [h95 29 (by omega)]; exact a3, by rw [h95 26 (by omega)]; exact a4, fun k => (h114 k).trans (a5 k), by rw [h95 25 (by omega)]; exact a6, by rw [h95 35 (by omega)]; exact a7, by rw [h95 30 (by omega)]; exact a8⟩
  · by_cases h : i < t
    · exact .inr (by have := hT.1; have := hT.2.1; omega)
    · exact .inl (hT.2.2.2.2.2.2.1 i (by omega)).1
/-- the signs that count: of shows and of pamphlets -/
noncomputable def sg9 (sh c : Int) : Int := if c = 59 then 1 else if ¬ sh = 0 then 0 else if c = 43 ∨ c = 45 ∨ c = 42 ∨ c = 47 ∨ c = 40 ∨ c = 41 ∨ c = 60 ∨ c = 61 ∨ c = 62 then 1 else 0
theorem sg9_s : ∀ c : Nat, c < 256 → (decide (qix ((qtxb 4).getD []) (c : Int) 0 < 0) = decide (sg9 1 (c : Int) = 0)) := by decide +kernel
theorem sg9_p : ∀ c : Nat, c < 256 → (decide (qix ((qtxb 2).getD []) (c : Int) 0 < 0) = decide (sg9 0 (c : Int) = 0)) := by decide +kernel
theorem letV_1r {c : Int} : letV c = 1 ↔ (97 ≤ c ∧ c ≤ 122) ∨ (65 ≤ c ∧ c ≤ 90) := by unfold letV isInV; (repeat' split) <;> omega
theorem nm_vr {w : qW} {a n : Nat} (h : ∀ j, j < n → sgV w (a + j) = seeV w (a + j)) : ∀ m, m ≤ n → m ≤ 4 → nmF w a m = valF w a m
  | 0, _, _ => rfl
  | m + 1, h1, h2 => by
    rw [valF_s, if_pos (by omega), ← h m (by omega), ← nm_vr h m (by omega) (by omega)]
    rfl
/-- a token of the class's is the reference's -/
theorem TKc.r {sh : Int} {TM : Int → Int → Prop} {w : qW} {n a e : Nat} {v : Int} {l l2 : List Int} (hI : yInv zgf zga zra zSp w) (hs : ∀ j, j < n → sgV w j = seeV w j) (hs2 : ∀ j, n ≤ j → seeV w j = -1) (hj : ∀ j, j < n → w 114 j = w 9 j % 256 ∧ seeV w j = w 114 j) (hn9 : n ≤ 600)
    (hwd : ∀ W : qW, W 95 26 = (e : Int) → W 95 28 = (a : Int) → (∀ k, W 114 k = w 114 k) → W 95 35 = sh → a ≤ e → (∀ j, j < e - a → w 9 (a + j) = w 114 (a + j)) → wcP w l a e v → TM v (wordV W) ∧ ¬ (0 ≤ v ∧ v < 10000))
    (hsg : ∀ c : Int, 0 ≤ c → c < 256 → (qix l2 c 0 < 0 ↔ sg9 sh c = 0)) (hm : TM (-1) 1) (hc : ∀ c : Int, 0 ≤ c → c < 256 → TM (20000 + c) (100 + c))
    (ha : a < n) (hae : a < e) (hen : e ≤ n) (h : TKc w l l2 n a v e) : TKr sh TM w a e v := by
  have sa := hs a ha
  have r9 : ∀ j, -128 ≤ w 9 j ∧ w 9 j ≤ 127 := fun j => hI.2.1 9 j (-128, 127) rfl rfl
  have no1 : letV (-1) ≠ 1 := by decide
  have no2 : digV (-1) ≠ 1 := by decide
  rcases h with ⟨h1, h2, h3⟩ | ⟨h1, h2, h3, h4⟩ | ⟨h1, h2, h3, h4⟩
  · have lt : ∀ j, j < e - a → w 9 (a + j) = w 114 (a + j) := fun j hj9 => by
      have q := h2.2.2.1 (a + j) (by omega) (by omega)
      obtain ⟨q2, q3⟩ := hj (a + j) (by omega)
      rw [hs _ (by omega), q3] at q
      have q4 := letV_1r.mp q
      have q5 := r9 (a + j)
      omega
    refine .inl ⟨by rw [← sa]; exact h1, ⟨h2.1, fun j q1 q2 => by rw [← hs j (by omega)]; exact h2.2.2.1 j q1 q2, ?_⟩, fun W q1 q2 q3 q4 => hwd W q1 q2 q3 q4 (by omega) lt h3⟩
    by_cases q : e < n
    · rw [← hs e q]; exact h2.2.2.2
    · rw [hs2 e (by omega)]; exact no1
  · refine .inr (.inl ⟨by rw [← sa]; exact h1, by rw [← sa]; exact h2, ⟨h3.1, fun j q1 q2 => by rw [← hs j (by omega)]; exact h3.2.2.1 j q1 q2, ?_⟩, ?_⟩)
    · by_cases q : e < n
      · rw [← hs e q]; exact h3.2.2.2
      · rw [hs2 e (by omega)]; exact no2
    · by_cases q : e - a ≤ 4
      · rw [if_pos q] at h4
        exact .inl ⟨by omega, h4.trans (nm_vr (n := e - a) (fun j hj9 => hs _ (by omega)) _ (Nat.le_refl _) q)⟩
      · rw [if_neg q] at h4
        exact .inr ⟨by omega, h4⟩
  · refine .inr (.inr ⟨by rw [← sa]; exact h1, by rw [← sa]; exact h2, h3, fun W hW => ?_⟩)
    obtain ⟨q2, q3⟩ := hj a ha
    have c0 : 0 ≤ seeV w a := by rw [q3, q2]; omega
    have c1 : seeV w a < 256 := by rw [q3, q2]; omega
    have hg : sgnV W (seeV w a) = sg9 sh (seeV w a) := by unfold sgnV sg9; rw [hW]
    rw [hg]
    rw [sa] at h4
    by_cases q : sg9 sh (seeV w a) = 0
    · rw [if_pos q]
      rw [if_pos ((hsg _ c0 c1).mpr q)] at h4
      rw [h4]; exact ⟨hm, by omega⟩
    · rw [if_neg q]
      rw [if_neg (fun z => q ((hsg _ c0 c1).mp z))] at h4
      rw [h4]; exact ⟨hc _ c0 c1, by omega⟩
theorem TKB.r {sh : Int} {TM : Int → Int → Prop} {w wT : qW} {n : Nat} {l l2 : List Int} (hI : yInv zgf zga zra zSp w) (hJ : JM w) (hn : w 8 1 = (n : Int)) (hn9 : n ≤ 600)
    (hwd : ∀ (W : qW) (a e : Nat) (v : Int), W 95 26 = (e : Int) → W 95 28 = (a : Int) → (∀ k, W 114 k = w 114 k) → W 95 35 = sh → a ≤ e → (∀ j, j < e - a → w 9 (a + j) = w 114 (a + j)) → wcP w l a e v → TM v (wordV W) ∧ ¬ (0 ≤ v ∧ v < 10000))
    (hsg : ∀ c : Int, 0 ≤ c → c < 256 → (qix l2 c 0 < 0 ↔ sg9 sh c = 0)) (hm : TM (-1) 1) (hc : ∀ c : Int, 0 ≤ c → c < 256 → TM (20000 + c) (100 + c)) (h : TKB w l l2 n wT) : ∃ (t : Nat) (E : Nat → Nat), TKS sh TM w (cdF wT) (plF wT) t n E := by
  obtain ⟨t, E, a1, a2, a3, a4, a5, a6, a7, a8⟩ := h
  have h25 : w 95 25 = (n : Int) := hJ.1.symm.trans hn
  have hj : ∀ j, j < n → w 114 j = w 9 j % 256 ∧ seeV w j = w 114 j := fun j q => ⟨hJ.2 j (by rw [h25]; omega), if_pos (by rw [h25]; omega)⟩
  have hs : ∀ j, j < n → sgV w j = seeV w j := fun j q => by
    obtain ⟨q1, q2⟩ := hj j q
    rw [q2, q1]
    exact if_pos (by rw [hn]; omega)
  have hs2 : ∀ j, n ≤ j → seeV w j = -1 := fun j q => if_neg (by rw [h25]; omega)
  have hb : ∀ u, u < n → sbl w u → blR w u := fun u hu z => by unfold sbl at z; unfold blR; rw [← hs u hu]; exact z
  refine ⟨t, E, hn9, a1, h25, a3.1, a4, fun u q1 q2 => hb u q2 (a5 u q1 q2), fun i hi => ?_, fun j hjt => ?_⟩
  · unfold cdF plF
    rw [a2]
    by_cases q : i = t
    · rw [if_pos (by omega), if_pos (by omega), q]; exact ⟨a6, a7⟩
    · rw [if_neg (by omega), if_neg (by omega)]; exact ⟨rfl, a8⟩
  · obtain ⟨a, c1, c2, c3, c4, c5, c6, c7, c8⟩ := a3.2 j hjt
    refine ⟨a, ?_, c2, c3, fun u q1 q2 => hb u (by omega) (c4 u q1 q2), fun z => c5 (by unfold blR at z; unfold sbl; rw [hs a c3]; exact z), c7, c8, ?_⟩
    · unfold plF; rw [a2, if_pos (by omega)]; exact c1
    · rw [show cdF wT j = wT 10 j from by unfold cdF; rw [a2, if_pos (by omega)]]
      exact c6.r hI hs hs2 hj hn9 (fun W q1 q2 q3 q4 q5 q6 q7 => hwd W _ _ _ q1 q2 q3 q4 q5 q6 q7) hsg hm hc c3 c7 c8
theorem sg_iff {l : List Int} {sh : Int} (h : ∀ c : Nat, c < 256 → (decide (qix l (c : Int) 0 < 0) = decide (sg9 sh (c : Int) = 0))) : ∀ c : Int, 0 ≤ c → c < 256 → (qix l c 0 < 0 ↔ sg9 sh c = 0) := fun c h0 h1 => by
  have q := h c.toNat (by omega)
  rw [Int.toNat_of_nonneg h0] at q
  exact decide_eq_decide.mp q
theorem TKB.s {w wT : qW} {n : Nat} {l l2 : List Int} (hI : yInv zgf zga zra zSp w) (hJ : JM w) (hn : w 8 1 = (n : Int)) (hn9 : n ≤ 600) (hl : qtxb 3 = some l) (hl2 : qtxb 4 = some l2) (h : TKB w l l2 n wT) : ∃ (t : Nat) (E : Nat → Nat), TKS 1 TMS w (cdF wT) (plF wT) t n E := by
  have e4 : (qtxb 4).getD [] = l2 := by rw [hl2]; rfl
  have g := sg9_s
  rw [e4] at g
  exact h.r hI hJ hn hn9 (fun W a e v q1 q2 q3 q4 q5 q6 q7 => wd_S q1 q2 q3 q4 q5 q6 hl q7) (sg_iff g) (.inr (.inl ⟨rfl, rfl⟩)) (fun c h0 h1 => by unfold TMS; omega)
theorem TKB.p {w wT : qW} {n : Nat} {l l2 : List Int} (hI : yInv zgf zga zra zSp w) (hJ : JM w) (hn : w 8 1 = (n : Int)) (hn9 : n ≤ 600) (hl : qtxb 1 = some l) (hl2 : qtxb 2 = some l2) (h : TKB w l l2 n wT) : ∃ (t : Nat) (E : Nat → Nat), TKS 0 TMP w (cdF wT) (plF wT) t n E := by
  have e4 : (qtxb 2).getD [] = l2 := by rw [hl2]; rfl
  have g := sg9_p
  rw [e4] at g
  exact h.r hI hJ hn hn9 (fun W a e v q1 q2 q3 q4 q5 q6 q7 => wd_P q1 q2 q3 q4 q5 q6 hl q7) (sg_iff g) (.inr (.inl ⟨rfl, rfl⟩)) (fun c h0 h1 => by unfold TMP; omega)
