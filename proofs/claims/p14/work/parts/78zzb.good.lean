/-! the way: from the end back, and then from the beginning on -/
/-- the poses from which the last u of S seconds go well -/
noncomputable def gz (N : Nat) (P : Nat → Int) (M : Nat → Nat → Bool) (V : Nat → Int) (S : Nat) : Nat → Nat → Bool
  | 0, i => decide (i < N)
  | u + 1, i => decide (i < N) && exN (fun j => gz N P M V S u j && (decide (qand (P j) (V (S - (u + 1))) = 0) && M i j)) N
/-- in the second t he can be in j -/
noncomputable def gd (N : Nat) (P : Nat → Int) (M : Nat → Nat → Bool) (V : Nat → Int) (S t j : Nat) : Bool := gz N P M V S (S - (t + 1)) j && decide (qand (P j) (V t) = 0)
theorem gz_s {N : Nat} {P : Nat → Int} {M : Nat → Nat → Bool} {V : Nat → Int} {S u i : Nat} : gz N P M V S (u + 1) i = (decide (i < N) && exN (fun j => gz N P M V S u j && (decide (qand (P j) (V (S - (u + 1))) = 0) && M i j)) N) := rfl
theorem gz_N {N : Nat} {P : Nat → Int} {M : Nat → Nat → Bool} {V : Nat → Int} {S u j : Nat} (h : ¬ j < N) : gz N P M V S u j = false := by
  cases u with
  | zero => exact decide_eq_false h
  | succ u => rw [gz_s, decide_eq_false h, Bool.false_and]
theorem gz_t {N : Nat} {P : Nat → Int} {M : Nat → Nat → Bool} {V : Nat → Int} {S t i : Nat} (ht : t < S) : gz N P M V S (S - t) i = (decide (i < N) && exN (fun j => gd N P M V S t j && M i j) N) := by
  rw [show S - t = (S - (t + 1)) + 1 by omega, gz_s, show S - (S - (t + 1) + 1) = t by omega]
  congr 1
  have e : (fun j => gz N P M V S (S - (t + 1)) j && (decide (qand (P j) (V t) = 0) && M i j)) = (fun j => gd N P M V S t j && M i j) := funext fun j => by
    unfold gd; rw [Bool.and_assoc]
  rw [e]
theorem gz_du {N : Nat} {P : Nat → Int} {M : Nat → Nat → Bool} {V : Nat → Int} {S t : Nat} (ht : t < S) : (∃ i, i < N ∧ hz N P M V t i = true ∧ gz N P M V S (S - t) i = true) ↔ ∃ j, j < N ∧ hz N P M V (t + 1) j = true ∧ gz N P M V S (S - (t + 1)) j = true := by
  constructor
  · rintro ⟨i, hi, h1, h2⟩
    rw [gz_t ht, Bool.and_eq_true, exN_iff] at h2
    obtain ⟨-, j, hj, h3⟩ := h2
    have h3 : (gd N P M V S t j && M i j) = true := h3
    unfold gd at h3
    rw [Bool.and_eq_true, Bool.and_eq_true] at h3
    refine ⟨j, hj, ?_, h3.1.1⟩
    rw [hz_s, decide_eq_true hj, h3.1.2, Bool.true_and, Bool.true_and, exN_iff]
    exact ⟨i, hi, by show (hz N P M V t i && M i j) = true; rw [h1, h3.2]; rfl⟩
  · rintro ⟨j, hj, h1, h2⟩
    rw [hz_s, Bool.and_eq_true, Bool.and_eq_true, exN_iff] at h1
    obtain ⟨-, h3, i, hi, h4⟩ := h1
    have h4 : (hz N P M V t i && M i j) = true := h4
    rw [Bool.and_eq_true] at h4
    refine ⟨i, hi, h4.1, ?_⟩
    rw [gz_t ht, decide_eq_true hi, Bool.true_and, exN_iff]
    exact ⟨j, hj, by show (gd N P M V S t j && M i j) = true; unfold gd; rw [h2, h3, h4.2]; rfl⟩
theorem gz_all {N : Nat} {P : Nat → Int} {M : Nat → Nat → Bool} {V : Nat → Int} {S : Nat} : ∀ t, t ≤ S → ((∃ i, i < N ∧ gz N P M V S S i = true) ↔ ∃ i, i < N ∧ hz N P M V t i = true ∧ gz N P M V S (S - t) i = true)
  | 0, _ => ⟨fun ⟨i, hi, h⟩ => ⟨i, hi, decide_eq_true hi, h⟩, fun ⟨i, hi, _, h⟩ => ⟨i, hi, h⟩⟩
  | t + 1, h => (gz_all t (by omega)).trans (gz_du (by omega))
theorem gz_hz {N : Nat} {P : Nat → Int} {M : Nat → Nat → Bool} {V : Nat → Int} {S : Nat} : (∃ i, i < N ∧ gz N P M V S S i = true) ↔ ¬ hzE (hz N P M V S) := by
  rw [gz_all S (Nat.le_refl _)]
  constructor
  · rintro ⟨i, -, h, -⟩ z
    rw [z i] at h; cases h
  · intro h
    by_cases q : ∃ i, i < N ∧ hz N P M V S i = true
    · obtain ⟨i, hi, hh⟩ := q
      exact ⟨i, hi, hh, by rw [Nat.sub_self]; exact decide_eq_true hi⟩
    · refine absurd (fun j => ?_) h
      cases hb : hz N P M V S j with
      | false => rfl
      | true =>
        by_cases hj : j < N
        · exact absurd ⟨j, hj, hb⟩ q
        · rw [hz_N hj] at hb; cases hb
/-- a step of the way from i in the second t -/
noncomputable def wyC (N : Nat) (P : Nat → Int) (M : Nat → Nat → Bool) (V : Nat → Int) (S t i j : Nat) : Bool := decide (j < N) && (M i j && gd N P M V S t j)
noncomputable def wyF (N : Nat) (P : Nat → Int) (M : Nat → Nat → Bool) (V : Nat → Int) (S : Nat) : Nat → Nat → Prop
  | 0, i => gz N P M V S S i = true ∧ ∀ j, j < i → gz N P M V S S j = false
  | t + 1, j => ∃ i, wyF N P M V S t i ∧ wyC N P M V S t i j = true ∧ ∀ j2, j2 < j → wyC N P M V S t i j2 = false
theorem wyF_u {N : Nat} {P : Nat → Int} {M : Nat → Nat → Bool} {V : Nat → Int} {S : Nat} : ∀ t i j, wyF N P M V S t i → wyF N P M V S t j → i = j
  | 0, i, j, h, h2 => by
    rcases Nat.lt_trichotomy i j with q | q | q
    · have := h2.2 i q; rw [h.1] at this; cases this
    · exact q
    · have := h.2 j q; rw [h2.1] at this; cases this
  | t + 1, i, j, h, h2 => by
    obtain ⟨a, a1, a2, a3⟩ := h
    obtain ⟨b, b1, b2, b3⟩ := h2
    obtain rfl := wyF_u t a b a1 b1
    rcases Nat.lt_trichotomy i j with q | q | q
    · have := b3 i q; rw [a2] at this; cases this
    · exact q
    · have := a3 j q; rw [b2] at this; cases this
noncomputable def WSP (N : Nat) (P : Nat → Int) (M : Nat → Nat → Bool) (V : Nat → Int) (S n : Nat) (x : Int) : Prop := (hzE (gz N P M V S S) ∧ x = -1) ∨ ∃ i, wyF N P M V S n i ∧ x = P i
theorem wyF_0 {N : Nat} {P : Nat → Int} {M : Nat → Nat → Bool} {V : Nat → Int} {S : Nat} : ∀ n i, wyF N P M V S n i → ¬ hzE (gz N P M V S S)
  | 0, i, h => fun z => by have := h.1; rw [z i] at this; cases this
  | n + 1, _, ⟨i, h, _⟩ => wyF_0 n i h
theorem WSP.uniq {N : Nat} {P : Nat → Int} {M : Nat → Nat → Bool} {V : Nat → Int} {S n : Nat} {x y : Int} (h : WSP N P M V S n x) (h2 : WSP N P M V S n y) : x = y := by
  rcases h with ⟨a, b⟩ | ⟨i, a, b⟩
  · rcases h2 with ⟨-, d⟩ | ⟨j, c, -⟩
    · rw [b, d]
    · exact absurd a (wyF_0 n j c)
  · rcases h2 with ⟨c, -⟩ | ⟨j, c, d⟩
    · exact absurd c (wyF_0 n i a)
    · rw [b, d, wyF_u n i j a c]
theorem gz_cg {N : Nat} {P : Nat → Int} {M : Nat → Nat → Bool} {V V2 : Nat → Int} {S : Nat} (hV : ∀ t, t < S → V2 t = V t) : ∀ u, u ≤ S → gz N P M V2 S u = gz N P M V S u
  | 0, _ => rfl
  | u + 1, h => funext fun i => by
    rw [gz_s, gz_s, gz_cg hV u (by omega), hV (S - (u + 1)) (by omega)]
theorem wyF_cg {N : Nat} {P : Nat → Int} {M : Nat → Nat → Bool} {V V2 : Nat → Int} {S : Nat} (hV : ∀ t, t < S → V2 t = V t) : ∀ n i, n ≤ S → wyF N P M V2 S n i → wyF N P M V S n i
  | 0, i, _, h => by
    have e := gz_cg (N := N) (P := P) (M := M) hV S (Nat.le_refl _)
    have h : gz N P M V2 S S i = true ∧ ∀ j, j < i → gz N P M V2 S S j = false := h
    rw [e] at h
    exact h
  | n + 1, j, hn, ⟨i, h1, h2, h3⟩ => by
    have e : ∀ j, wyC N P M V2 S n i j = wyC N P M V S n i j := fun j => by
      unfold wyC gd
      rw [gz_cg hV (S - (n + 1)) (by omega), hV n (by omega)]
    exact ⟨i, wyF_cg hV n i (by omega) h1, (e j).symm.trans h2, fun j2 h => (e j2).symm.trans (h3 j2 h)⟩
theorem WSP.cg {N : Nat} {P : Nat → Int} {M : Nat → Nat → Bool} {V V2 : Nat → Int} {S n : Nat} {x : Int} (hn : n ≤ S) (hV : ∀ t, t < S → V2 t = V t) (h : WSP N P M V2 S n x) : WSP N P M V S n x := by
  rcases h with ⟨a, b⟩ | ⟨i, a, b⟩
  · rw [gz_cg hV S (Nat.le_refl _)] at a
    exact .inl ⟨a, b⟩
  · exact .inr ⟨i, wyF_cg hV n i hn a, b⟩
/-- what way answers -/
noncomputable def WYR (w : qW) (c k s : Nat) (n x : Int) : Prop := ((n < 0 ∨ ((scF (rK w k) (rN w k) (w 106 k).toNat : Nat) : Int) < n) ∧ x = -1) ∨ ((0 ≤ n ∧ n ≤ ((scF (rK w k) (rN w k) (w 106 k).toNat : Nat) : Int)) ∧ WSP (pzN w c s) (pzP w c s) (pzM w c s) (fun t => siF w c (rK w k) (rN w k) (w 106 k).toNat t) (scF (rK w k) (rN w k) (w 106 k).toNat) n.toNat x)
noncomputable def WYT (w : qW) (c k s n x : Int) : Prop := ((isInV c 0 2 = 0 ∨ isInV k 0 3 = 0 ∨ isInV s 1 4 = 0) ∧ x = -1) ∨ (¬ (isInV c 0 2 = 0 ∨ isInV k 0 3 = 0 ∨ isInV s 1 4 = 0) ∧ WYR w c.toNat k.toNat s.toNat n x)
theorem WYT.uniq {w : qW} {c k s n x y : Int} (h : WYT w c k s n x) (h2 : WYT w c k s n y) : x = y := by
  rcases h with ⟨a, b⟩ | ⟨a, h⟩
  · rcases h2 with ⟨-, b2⟩ | ⟨a2, -⟩
    · rw [b, b2]
    · exact absurd a a2
  · rcases h2 with ⟨a2, -⟩ | ⟨-, h2⟩
    · exact absurd a2 a
    · rcases h with ⟨b1, b2⟩ | ⟨b1, b2⟩
      · rcases h2 with ⟨c1, c2⟩ | ⟨c1, c2⟩
        · rw [b2, c2]
        · omega
      · rcases h2 with ⟨c1, c2⟩ | ⟨c1, c2⟩
        · omega
        · exact b2.uniq c2
theorem WYT.cg {w w1 : qW} (h : RRh w w1) {c k s n x : Int} (hd : WYT w1 c k s n x) : WYT w c k s n x := by
  rcases hd with q | ⟨a, e⟩
  · exact .inl q
  · obtain ⟨⟨⟨h96, h97, h98, h100⟩, hr⟩, h99⟩ := h
    obtain ⟨e1, e2, e3⟩ := pz_cg h96 h99 c.toNat s.toNat
    obtain ⟨k1, k2, k3⟩ := rK_cg hr k.toNat
    unfold WYR at e
    rw [e1, e2, e3, k1, k2, k3] at e
    refine .inr ⟨a, ?_⟩
    rcases e with e | ⟨e, f⟩
    · exact .inl e
    · exact .inr ⟨e, f.cg (by omega) (fun t _ => siF_cg h96 h97 h98 h100 _ _ _ t _)⟩
theorem WSP.kn {Nn : Nat} {P : Nat → Int} {M : Nat → Nat → Bool} {w : qW} {c L n : Nat} {K N K2 N2 : Nat → Int} {x : Int} (h : KN K N K2 N2 L) (hn : n ≤ scF K N L) (hs : WSP Nn P M (fun t => siF w c K N L t) (scF K N L) n x) : WSP Nn P M (fun t => siF w c K2 N2 L t) (scF K2 N2 L) n x := by
  rw [← (h.st L (Nat.le_refl _)).2.2.2.2.1]
  exact hs.cg hn (fun t _ => h.si w c t L (Nat.le_refl _))
/-! the class's table of good poses -/
