/-! the way: from the end back, and then from the beginning on -/
/-- the poses from which the last u of S seconds go well -/
def gz (N : Nat) (P : Nat → Int) (M : Nat → Nat → Bool) (V : Nat → Int) (S : Nat) : Nat → Nat → Bool
  | 0, i => decide (i < N)
  | u + 1, i => decide (i < N) && exN (fun j => gz N P M V S u j && (decide (qand (P j) (V (S - (u + 1))) = 0) && M i j)) N
/-- in the second t he can be in j -/
def gd (N : Nat) (P : Nat → Int) (M : Nat → Nat → Bool) (V : Nat → Int) (S t j : Nat) : Bool := gz N P M V S (S - (t + 1)) j && decide (qand (P j) (V t) = 0)
theorem gz_s {N : Nat} {P : Nat → Int} {M : Nat → Nat → Bool} {V : Nat → Int} {S u i : Nat} : gz N P M V S (u + 1) i = (decide (i < N) && exN (fun j => gz N P M V S u j && (decide (qand (P j) (V (S - (u + 1))) = 0) && M i j)) N) := rfl
theorem gz_N {N : Nat} {P : Nat → Int} {M : Nat → Nat → Bool} {V : Nat → Int} {S u j : Nat} (h : ¬ j < N) : gz N P M V S u j = false := by
  cases u with
  | zero => exact decide_eq_false h
  | succ u => rw [gz_s, decide_eq_false h, Bool.false_and]
theorem gz_t {N : Nat} {P : Nat → Int} {M : Nat → Nat → Bool} {V : Nat → Int} {S t i : Nat} (ht : t < S) : gz N P M V S (S - t) i = (decide (i < N) && exN (fun j => gd N P M V S t j && M i j) N) := by
  rw [show S - t = (S - (t + 1)) + 1 by omega, gz_s, show S - (S - (t + 1) + 1) = t by omega]
  congr 1
  have e : (fun j => gz N P M V S (S - (t + 1)) j && (decide (qand (P j) (V t) = 0) && M i j)) = (fun j => gd N P M V S t j && M i j) := funext fun j => by
    unfold gd; rw [Bool.and_assoc]
  rw [e]
theorem gz_du {N : Nat} {P : Nat → Int} {M : Nat → Nat → Bool} {V : Nat → Int} {S t : Nat} (ht : t < S) : (∃ i, i < N ∧ hz N P M V t i = true ∧ gz N P M V S (S - t) i = true) ↔ ∃ j, j < N ∧ hz N P M V (t + 1) j = true ∧ gz N P M V S (S - (t + 1)) j = true := by
  constructor
  · rintro ⟨i, hi, h1, h2⟩
    rw [gz_t ht, Bool.and_eq_true, exN_iff] at h2
    obtain ⟨-, j, hj, h3⟩ := h2
    have h3 : (gd N P M V S t j && M i j) = true := h3
    unfold gd at h3
    rw [Bool.and_eq_true, Bool.and_eq_true] at h3
    refine ⟨j, hj, ?_, h3.1.1⟩
    rw [hz_s, decide_eq_true hj, h3.1.2, Bool.true_and, Bool.true_and, exN_iff]
    exact ⟨i, hi, by show (hz N P M V t i && M i j) = true; rw [h1, h3.2]; rfl⟩
  · rintro ⟨j, hj, h1, h2⟩
    rw [hz_s, Bool.and_eq_true, Bool.and_eq_true, exN_iff] at h1
    obtain ⟨-, h3, i, hi, h4⟩ := h1
    have h4 : (hz N P M V t i && M i j) = true := h4
    rw [Bool.and_eq_true] at h4
    refine ⟨i, hi, h4.1, ?_⟩
    rw [gz_t ht, decide_eq_true hi, Bool.true_and, exN_iff]
    exact ⟨j, hj, by show (gd N P M V S t j && M i j) = true; unfold gd; rw [h2, h3, h4.2]; rfl⟩
theorem gz_all {N : Nat} {P : Nat → Int} {M : Nat → Nat → Bool} {V : Nat → Int} {S : Nat} : ∀ t, t ≤ S → ((∃ i, i < N ∧ gz N P M V S S i = true) ↔ ∃ i, i < N ∧ hz N P M V t i = true ∧ gz N P M V S (S - t) i = true)
  | 0, _ => ⟨fun ⟨i, hi, h⟩ => ⟨i, hi, decide_eq_true hi, h⟩, fun ⟨i, hi, _, h⟩ => ⟨i, hi, h⟩⟩
  | t + 1, h => (gz_all t (by omega)).trans (gz_du (by omega))
theorem gz_hz {N : Nat} {P : Nat → Int} {M : Nat → Nat → Bool} {V : Nat → Int} {S : Nat} : (∃ i, i < N ∧ gz N P M V S S i = true) ↔ ¬ hzE (hz N P M V S) := by
  rw [gz_all S (Nat.le_refl _)]
  constructor
  · rintro ⟨i, -, h, -⟩ z
    rw [z i] at h; cases h
  · intro h
    by_cases q : ∃ i, i < N ∧ hz N P M V S i = true
    · obtain ⟨i, hi, hh⟩ := q
      exact ⟨i, hi, hh, by rw [Nat.sub_self]; exact decide_eq_true hi⟩
    · refine absurd (fun j => ?_) h
      cases hb : hz N P M V S j with
      | false => rfl
      | true =>
        by_cases hj : j < N
        · exact absurd ⟨j, hj, hb⟩ q
        · rw [hz_N hj] at hb; cases hb
/-- a step of the way from i in the second t -/
def wyC (N : Nat) (P : Nat → Int) (M : Nat → Nat → Bool) (V : Nat → Int) (S t i j : Nat) : Bool := decide (j < N) && (M i j && gd N P M V S t j)
def wyF (N : Nat) (P : Nat → Int) (M : Nat → Nat → Bool) (V : Nat → Int) (S : Nat) : Nat → Nat → Prop
  | 0, i => gz N P M V S S i = true ∧ ∀ j, j < i → gz N P M V S S j = false
  | t + 1, j => ∃ i, wyF N P M V S t i ∧ wyC N P M V S t i j = true ∧ ∀ j2, j2 < j → wyC N P M V S t i j2 = false
theorem wyF_u {N : Nat} {P : Nat → Int} {M : Nat → Nat → Bool} {V : Nat → Int} {S : Nat} : ∀ t i j, wyF N P M V S t i → wyF N P M V S t j → i = j
  | 0, i, j, h, h2 => by
    rcases Nat.lt_trichotomy i j with q | q | q
    · have := h2.2 i q; rw [h.1] at this; cases this
    · exact q
    · have := h.2 j q; rw [h2.1] at this; cases this
  | t + 1, i, j, h, h2 => by
    obtain ⟨a, a1, a2, a3⟩ := h
    obtain ⟨b, b1, b2, b3⟩ := h2
    obtain rfl := wyF_u t a b a1 b1
    rcases Nat.lt_trichotomy i j with q | q | q
    · have := b3 i q; rw [a2] at this; cases this
    · exact q
    · have := a3 j q; rw [b2] at this; cases this
theorem wyF_g {N : Nat} {P : Nat → Int} {M : Nat → Nat → Bool} {V : Nat → Int} {S : Nat} : ∀ t i, t ≤ S → wyF N P M V S t i → i < N ∧ gz N P M V S (S - t) i = true
  | 0, i, _, h => ⟨(by
      by_cases q : i < N
      · exact q
      · have := h.1; rw [gz_N q] at this; cases this), h.1⟩
  | t + 1, j, _, h => by
    obtain ⟨i, -, h2, -⟩ := h
    unfold wyC gd at h2
    rw [Bool.and_eq_true, Bool.and_eq_true, Bool.and_eq_true, decide_eq_true_eq] at h2
    exact ⟨h2.1, h2.2.2.1⟩
/-- from a pose of the way there is a step -/
theorem wyC_ex {N : Nat} {P : Nat → Int} {M : Nat → Nat → Bool} {V : Nat → Int} {S t i : Nat} (ht : t < S) (h : gz N P M V S (S - t) i = true) : ∃ j, j < N ∧ wyC N P M V S t i j = true := by
  rw [gz_t ht, Bool.and_eq_true, exN_iff] at h
  obtain ⟨-, j, hj, h3⟩ := h
  have h3 : (gd N P M V S t j && M i j) = true := h3
  rw [Bool.and_eq_true] at h3
  exact ⟨j, hj, by unfold wyC; rw [decide_eq_true hj, h3.1, h3.2]; rfl⟩
def WSP (N : Nat) (P : Nat → Int) (M : Nat → Nat → Bool) (V : Nat → Int) (S n : Nat) (x : Int) : Prop := (hzE (gz N P M V S S) ∧ x = -1) ∨ ∃ i, wyF N P M V S n i ∧ x = P i
theorem wyF_0 {N : Nat} {P : Nat → Int} {M : Nat → Nat → Bool} {V : Nat → Int} {S : Nat} : ∀ n i, wyF N P M V S n i → ¬ hzE (gz N P M V S S)
  | 0, i, h => fun z => by have := h.1; rw [z i] at this; cases this
  | n + 1, _, ⟨i, h, _⟩ => wyF_0 n i h
theorem WSP.uniq {N : Nat} {P : Nat → Int} {M : Nat → Nat → Bool} {V : Nat → Int} {S n : Nat} {x y : Int} (h : WSP N P M V S n x) (h2 : WSP N P M V S n y) : x = y := by
  rcases h with ⟨a, b⟩ | ⟨i, a, b⟩
  · rcases h2 with ⟨-, d⟩ | ⟨j, c, -⟩
    · rw [b, d]
    · exact absurd a (wyF_0 n j c)
  · rcases h2 with ⟨c, -⟩ | ⟨j, c, d⟩
    · exact absurd c (wyF_0 n i a)
    · rw [b, d, wyF_u n i j a c]
theorem gz_cg {N : Nat} {P : Nat → Int} {M : Nat → Nat → Bool} {V V2 : Nat → Int} {S : Nat} (hV : ∀ t, t < S → V2 t = V t) : ∀ u, u ≤ S → gz N P M V2 S u = gz N P M V S u
  | 0, _ => rfl
  | u + 1, h => funext fun i => by
    rw [gz_s, gz_s, gz_cg hV u (by omega), hV (S - (u + 1)) (by omega)]
theorem wyF_cg {N : Nat} {P : Nat → Int} {M : Nat → Nat → Bool} {V V2 : Nat → Int} {S : Nat} (hV : ∀ t, t < S → V2 t = V t) : ∀ n i, n ≤ S → wyF N P M V2 S n i → wyF N P M V S n i
  | 0, i, _, h => by
    have e := gz_cg (N := N) (P := P) (M := M) hV S (Nat.le_refl _)
    have h : gz N P M V2 S S i = true ∧ ∀ j, j < i → gz N P M V2 S S j = false := h
    rw [e] at h
    exact h
  | n + 1, j, hn, ⟨i, h1, h2, h3⟩ => by
    have e : ∀ j, wyC N P M V2 S n i j = wyC N P M V S n i j := fun j => by
      unfold wyC gd
      rw [gz_cg hV (S - (n + 1)) (by omega), hV n (by omega)]
    exact ⟨i, wyF_cg hV n i (by omega) h1, (e j).symm.trans h2, fun j2 h => (e j2).symm.trans (h3 j2 h)⟩
theorem WSP.cg {N : Nat} {P : Nat → Int} {M : Nat → Nat → Bool} {V V2 : Nat → Int} {S n : Nat} {x : Int} (hn : n ≤ S) (hV : ∀ t, t < S → V2 t = V t) (h : WSP N P M V2 S n x) : WSP N P M V S n x := by
  rcases h with ⟨a, b⟩ | ⟨i, a, b⟩
  · rw [gz_cg hV S (Nat.le_refl _)] at a
    exact .inl ⟨a, b⟩
  · exact .inr ⟨i, wyF_cg hV n i hn a, b⟩
/-- what way answers -/
def WYR (w : qW) (c k s : Nat) (n x : Int) : Prop := ((n < 0 ∨ ((scF (rK w k) (rN w k) (w 106 k).toNat : Nat) : Int) < n) ∧ x = -1) ∨ ((0 ≤ n ∧ n ≤ ((scF (rK w k) (rN w k) (w 106 k).toNat : Nat) : Int)) ∧ WSP (pzN w c s) (pzP w c s) (pzM w c s) (fun t => siF w c (rK w k) (rN w k) (w 106 k).toNat t) (scF (rK w k) (rN w k) (w 106 k).toNat) n.toNat x)
def WYT (w : qW) (c k s n x : Int) : Prop := ((isInV c 0 2 = 0 ∨ isInV k 0 3 = 0 ∨ isInV s 1 4 = 0) ∧ x = -1) ∨ (¬ (isInV c 0 2 = 0 ∨ isInV k 0 3 = 0 ∨ isInV s 1 4 = 0) ∧ WYR w c.toNat k.toNat s.toNat n x)
theorem WYT.uniq {w : qW} {c k s n x y : Int} (h : WYT w c k s n x) (h2 : WYT w c k s n y) : x = y := by
  rcases h with ⟨a, b⟩ | ⟨a, h⟩
  · rcases h2 with ⟨-, b2⟩ | ⟨a2, -⟩
    · rw [b, b2]
    · exact absurd a a2
  · rcases h2 with ⟨a2, -⟩ | ⟨-, h2⟩
    · exact absurd a2 a
    · rcases h with ⟨b1, b2⟩ | ⟨b1, b2⟩
      · rcases h2 with ⟨c1, c2⟩ | ⟨c1, c2⟩
        · rw [b2, c2]
        · omega
      · rcases h2 with ⟨c1, c2⟩ | ⟨c1, c2⟩
        · omega
        · exact b2.uniq c2
theorem WYT.cg {w w1 : qW} (h : RRh w w1) {c k s n x : Int} (hd : WYT w1 c k s n x) : WYT w c k s n x := by
  rcases hd with q | ⟨a, e⟩
  · exact .inl q
  · obtain ⟨⟨⟨h96, h97, h98, h100⟩, hr⟩, h99⟩ := h
    obtain ⟨e1, e2, e3⟩ := pz_cg h96 h99 c.toNat s.toNat
    obtain ⟨k1, k2, k3⟩ := rK_cg hr k.toNat
    unfold WYR at e
    rw [e1, e2, e3, k1, k2, k3] at e
    refine .inr ⟨a, ?_⟩
    rcases e with e | ⟨e, f⟩
    · exact .inl e
    · exact .inr ⟨e, f.cg (by omega) (fun t _ => siF_cg h96 h97 h98 h100 _ _ _ t _)⟩
theorem WSP.kn {Nn : Nat} {P : Nat → Int} {M : Nat → Nat → Bool} {w : qW} {c L n : Nat} {K N K2 N2 : Nat → Int} {x : Int} (h : KN K N K2 N2 L) (hn : n ≤ scF K N L) (hs : WSP Nn P M (fun t => siF w c K N L t) (scF K N L) n x) : WSP Nn P M (fun t => siF w c K2 N2 L t) (scF K2 N2 L) n x := by
  rw [← (h.st L (Nat.le_refl _)).2.2.2.2.1]
  exact hs.cg hn (fun t _ => h.si w c t L (Nat.le_refl _))
/-! the class's table of good poses -/
def gb (w : qW) (t j : Nat) : Bool := lb (w 30 (3 * t + j / 64)) (j % 64)
theorem gput {w : qW} {j : Nat} {v : Int} (hI : yInv zgf zga zra zSp w) (hv : qi64 v) : yInv zgf zga zra zSp (qup w 30 j v) := zup_a hI (b := (-9223372036854775808, 9223372036854775807)) rfl rfl (y64i hv)
theorem g64 {w : qW} (hI : yInv zgf zga zra zSp w) (j : Nat) : qi64 (w 30 j) := by
  have q : yin (-9223372036854775808, 9223372036854775807) (w 30 j) := hI.2.1 30 j _ rfl rfl
  have q1 : (-9223372036854775808 : Int) ≤ w 30 j := q.1
  have q2 : w 30 j ≤ (9223372036854775807 : Int) := q.2
  exact ⟨q1, by omega⟩
/-- the row 28 laid into the second t -/
def WGD (t : Nat) (w w1 : qW) : Prop := (∀ t2 j, j < 192 → gb w1 t2 j = if t2 = t then sb w 28 j else gb w t2 j) ∧ (∀ q k, q ≠ 30 → w1 q k = w q k) ∧ yInv zgf zga zra zSp w1
theorem K_wrGoodC {d : Nat} (hd : 0 ≤ d) (t : Nat) (ht : t < 800) (w : qW) (hI : yInv zgf zga zra zSp w) : qG none d 40 0 [(2, 23), (0, ((t : Nat) : Int)), (2, 28), (9, 0), (9, 0)] [] w 142 (fun (r : qV) (w1 : qW) (n1 : Nat) => r = (9, 0) ∧ n1 = 142 ∧ w1 = qup (qup (qup w 30 (3 * t + 0) (w 28 0)) 30 (3 * t + 1) (w 28 1)) 30 (3 * t + 2) (w 28 2)) := by
  generalize hQ9 : (fun (r : qV) (w1 : qW) (n1 : Nat) => r = (9, 0) ∧ n1 = 142 ∧ w1 = qup (qup (qup w 30 (3 * t + 0) (w 28 0)) 30 (3 * t + 1) (w 28 1)) 30 (3 * t + 2) (w 28 2)) = Q9
  obtain ⟨N24, hN24⟩ : ∃ N : Int, N = 2400 := ⟨_, rfl⟩
  refine qG.blk 4 (pc' := 4) (ls' := [(2, 23), (0, ((t : Nat) : Int)), (2, 28), (0, 0), (9, 0)]) (st' := [(0, 3), (0, 0)]) (w' := w) (n' := 142) rfl ?_
  refine qG.br (P := (0 : Int) < 3) (pc1 := 7) (pc2 := 51) (st1 := []) rfl (fun h1 => ?_) (fun h1 => ?_)
  · skip
    refine qG.blk 3 (pc' := 10) (ls' := [(2, 23), (0, ((t : Nat) : Int)), (2, 28), (0, 0), (9, 0)]) (st' := [(0, 3), (0, 0)]) (w' := w) (n' := 142) rfl ?_
    refine qG.br (P := (0 : Int) < 3) (pc1 := 13) (pc2 := 51) (st1 := []) rfl (fun h2 => ?_) (fun h2 => ?_)
    · skip
      refine qG.blk 3 (pc' := 16) (ls' := [(2, 23), (0, ((t : Nat) : Int)), (2, 28), (0, 0), (9, 0)]) (st' := [(0, wrp (((t : Nat) : Int) * 3))]) (w' := w) (n' := 142) rfl ?_
      rw [show wrp (((t : Nat) : Int) * 3) = ((3 * t : Nat) : Int) from by rw [wrp_id (by omega) (by omega)]; omega]
      refine qG.blk 2 (pc' := 18) (ls' := [(2, 23), (0, ((t : Nat) : Int)), (2, 28), (0, 0), (9, 0)]) (st' := [(0, wrp (((3 * t : Nat) : Int) + 0))]) (w' := w) (n' := 142) rfl ?_
      rw [show wrp (((3 * t : Nat) : Int) + 0) = ((3 * t + 0 : Nat) : Int) from by rw [wrp_id (by omega) (by omega)]; omega]
      refine qG.blk 2 (pc' := 22) (ls' := [(2, 23), (0, ((t : Nat) : Int)), (2, 28), (0, 0), (0, ((3 * t + 0 : Nat) : Int))]) (st' := [(0, ((3 * t + 0 : Nat) : Int))]) (w' := w) (n' := 142) rfl ?_
      refine qG.br (P := ((3 * t + 0 : Nat) : Int) < 0) (pc1 := 45) (pc2 := 25) (st1 := []) rfl (fun h3 => ?_) (fun h3 => ?_)
      · exfalso; omega
      · skip
        refine qG.blk 3 (pc' := 31) (ls' := [(2, 23), (0, ((t : Nat) : Int)), (2, 28), (0, 0), (0, ((3 * t + 0 : Nat) : Int))]) (st' := [(2, w 23 6), (0, ((3 * t + 0 : Nat) : Int))]) (w' := w) (n' := 142) rfl ?_
        rw [show w 23 6 = 30 from zref hI rfl rfl]
        refine qG.blk 1 (pc' := 32) (ls' := [(2, 23), (0, ((t : Nat) : Int)), (2, 28), (0, 0), (0, ((3 * t + 0 : Nat) : Int))]) (st' := [(0, 2400), (0, ((3 * t + 0 : Nat) : Int))]) (w' := w) (n' := 142) rfl ?_
        rw [show (2400 : Int) = N24 from hN24.symm]
        refine qG.br (P := ((3 * t + 0 : Nat) : Int) < N24) (pc1 := 35) (pc2 := 45) (st1 := []) rfl (fun h4 => ?_) (fun h4 => ?_)
        · skip
          refine qG.blk 2 (pc' := 39) (ls' := [(2, 23), (0, ((t : Nat) : Int)), (2, 28), (0, 0), (0, ((3 * t + 0 : Nat) : Int))]) (st' := [(2, w 23 6)]) (w' := w) (n' := 142) rfl ?_
          rw [show w 23 6 = 30 from zref hI rfl rfl]
          refine qG.blk 3 (pc' := 43) (ls' := [(2, 23), (0, ((t : Nat) : Int)), (2, 28), (0, 0), (0, ((3 * t + 0 : Nat) : Int))]) (st' := [(0, 0), (2, 28), (0, ((3 * t + 0 : Nat) : Int)), (2, 30)]) (w' := w) (n' := 142) rfl ?_
          refine qG.ar (P := 0 ≤ 0 ∧ 0 < ((3 : Nat) : Int)) (P2 := 0 < (28 : Int) ∧ (28 : Int) ≤ ((142 : Nat) : Int)) (pc' := 44) (ls' := [(2, 23), (0, ((t : Nat) : Int)), (2, 28), (0, 0), (0, ((3 * t + 0 : Nat) : Int))]) (st' := [(1, w 28 0), (0, ((3 * t + 0 : Nat) : Int)), (2, 30)]) (w' := w) (n' := 142) rfl (by omega) (by decide) ?_
          refine qG.lst (m := 2400) rfl rfl (by omega) (by decide) ?_
          show qG none d 40 45 [(2, 23), (0, ((t : Nat) : Int)), (2, 28), (0, 0), (0, ((3 * t + 0 : Nat) : Int))] [] (qup w 30 (3 * t + 0) (w 28 0)) 142 Q9
          refine qG.blk 1 (pc' := 48) (ls' := [(2, 23), (0, ((t : Nat) : Int)), (2, 28), (0, wrp (0 + 1)), (0, ((3 * t + 0 : Nat) : Int))]) (st' := []) (w' := (qup w 30 (3 * t + 0) (w 28 0))) (n' := 142) rfl ?_
          rw [show wrp (0 + 1) = 1 from wrp_id (by omega) (by omega)]
          refine qG.blk 3 (pc' := 4) (ls' := [(2, 23), (0, ((t : Nat) : Int)), (2, 28), (0, 1), (0, ((3 * t + 0 : Nat) : Int))]) (st' := [(0, 3), (0, 1)]) (w' := (qup w 30 (3 * t + 0) (w 28 0))) (n' := 142) rfl ?_
          refine qG.br (P := (1 : Int) < 3) (pc1 := 7) (pc2 := 51) (st1 := []) rfl (fun h5 => ?_) (fun h5 => ?_)
          · skip
            refine qG.blk 3 (pc' := 10) (ls' := [(2, 23), (0, ((t : Nat) : Int)), (2, 28), (0, 1), (0, ((3 * t + 0 : Nat) : Int))]) (st' := [(0, 3), (0, 1)]) (w' := (qup w 30 (3 * t + 0) (w 28 0))) (n' := 142) rfl ?_
            refine qG.br (P := (1 : Int) < 3) (pc1 := 13) (pc2 := 51) (st1 := []) rfl (fun h6 => ?_) (fun h6 => ?_)
            · skip
              refine qG.blk 3 (pc' := 16) (ls' := [(2, 23), (0, ((t : Nat) : Int)), (2, 28), (0, 1), (0, ((3 * t + 0 : Nat) : Int))]) (st' := [(0, wrp (((t : Nat) : Int) * 3))]) (w' := (qup w 30 (3 * t + 0) (w 28 0))) (n' := 142) rfl ?_
              rw [show wrp (((t : Nat) : Int) * 3) = ((3 * t : Nat) : Int) from by rw [wrp_id (by omega) (by omega)]; omega]
              refine qG.blk 2 (pc' := 18) (ls' := [(2, 23), (0, ((t : Nat) : Int)), (2, 28), (0, 1), (0, ((3 * t + 0 : Nat) : Int))]) (st' := [(0, wrp (((3 * t : Nat) : Int) + 1))]) (w' := (qup w 30 (3 * t + 0) (w 28 0))) (n' := 142) rfl ?_
              rw [show wrp (((3 * t : Nat) : Int) + 1) = ((3 * t + 1 : Nat) : Int) from by rw [wrp_id (by omega) (by omega)]; omega]
              refine qG.blk 2 (pc' := 22) (ls' := [(2, 23), (0, ((t : Nat) : Int)), (2, 28), (0, 1), (0, ((3 * t + 1 : Nat) : Int))]) (st' := [(0, ((3 * t + 1 : Nat) : Int))]) (w' := (qup w 30 (3 * t + 0) (w 28 0))) (n' := 142) rfl ?_
              refine qG.br (P := ((3 * t + 1 : Nat) : Int) < 0) (pc1 := 45) (pc2 := 25) (st1 := []) rfl (fun h7 => ?_) (fun h7 => ?_)
              · exfalso; omega
              · skip
                refine qG.blk 3 (pc' := 31) (ls' := [(2, 23), (0, ((t : Nat) : Int)), (2, 28), (0, 1), (0, ((3 * t + 1 : Nat) : Int))]) (st' := [(2, w 23 6), (0, ((3 * t + 1 : Nat) : Int))]) (w' := (qup w 30 (3 * t + 0) (w 28 0))) (n' := 142) rfl ?_
                rw [show w 23 6 = 30 from zref hI rfl rfl]
                refine qG.blk 1 (pc' := 32) (ls' := [(2, 23), (0, ((t : Nat) : Int)), (2, 28), (0, 1), (0, ((3 * t + 1 : Nat) : Int))]) (st' := [(0, 2400), (0, ((3 * t + 1 : Nat) : Int))]) (w' := (qup w 30 (3 * t + 0) (w 28 0))) (n' := 142) rfl ?_
                rw [show (2400 : Int) = N24 from hN24.symm]
                refine qG.br (P := ((3 * t + 1 : Nat) : Int) < N24) (pc1 := 35) (pc2 := 45) (st1 := []) rfl (fun h8 => ?_) (fun h8 => ?_)
                · skip
                  refine qG.blk 2 (pc' := 39) (ls' := [(2, 23), (0, ((t : Nat) : Int)), (2, 28), (0, 1), (0, ((3 * t + 1 : Nat) : Int))]) (st' := [(2, w 23 6)]) (w' := (qup w 30 (3 * t + 0) (w 28 0))) (n' := 142) rfl ?_
                  rw [show w 23 6 = 30 from zref hI rfl rfl]
                  refine qG.blk 3 (pc' := 43) (ls' := [(2, 23), (0, ((t : Nat) : Int)), (2, 28), (0, 1), (0, ((3 * t + 1 : Nat) : Int))]) (st' := [(0, 1), (2, 28), (0, ((3 * t + 1 : Nat) : Int)), (2, 30)]) (w' := (qup w 30 (3 * t + 0) (w 28 0))) (n' := 142) rfl ?_
                  refine qG.ar (P := 0 ≤ 1 ∧ 1 < ((3 : Nat) : Int)) (P2 := 0 < (28 : Int) ∧ (28 : Int) ≤ ((142 : Nat) : Int)) (pc' := 44) (ls' := [(2, 23), (0, ((t : Nat) : Int)), (2, 28), (0, 1), (0, ((3 * t + 1 : Nat) : Int))]) (st' := [(1, w 28 1), (0, ((3 * t + 1 : Nat) : Int)), (2, 30)]) (w' := (qup w 30 (3 * t + 0) (w 28 0))) (n' := 142) rfl (by omega) (by decide) ?_
                  refine qG.lst (m := 2400) rfl rfl (by omega) (by decide) ?_
                  show qG none d 40 45 [(2, 23), (0, ((t : Nat) : Int)), (2, 28), (0, 1), (0, ((3 * t + 1 : Nat) : Int))] [] (qup (qup w 30 (3 * t + 0) (w 28 0)) 30 (3 * t + 1) (w 28 1)) 142 Q9
                  refine qG.blk 1 (pc' := 48) (ls' := [(2, 23), (0, ((t : Nat) : Int)), (2, 28), (0, wrp (1 + 1)), (0, ((3 * t + 1 : Nat) : Int))]) (st' := []) (w' := (qup (qup w 30 (3 * t + 0) (w 28 0)) 30 (3 * t + 1) (w 28 1))) (n' := 142) rfl ?_
                  rw [show wrp (1 + 1) = 2 from wrp_id (by omega) (by omega)]
                  refine qG.blk 3 (pc' := 4) (ls' := [(2, 23), (0, ((t : Nat) : Int)), (2, 28), (0, 2), (0, ((3 * t + 1 : Nat) : Int))]) (st' := [(0, 3), (0, 2)]) (w' := (qup (qup w 30 (3 * t + 0) (w 28 0)) 30 (3 * t + 1) (w 28 1))) (n' := 142) rfl ?_
                  refine qG.br (P := (2 : Int) < 3) (pc1 := 7) (pc2 := 51) (st1 := []) rfl (fun h9 => ?_) (fun h9 => ?_)
                  · skip
                    refine qG.blk 3 (pc' := 10) (ls' := [(2, 23), (0, ((t : Nat) : Int)), (2, 28), (0, 2), (0, ((3 * t + 1 : Nat) : Int))]) (st' := [(0, 3), (0, 2)]) (w' := (qup (qup w 30 (3 * t + 0) (w 28 0)) 30 (3 * t + 1) (w 28 1))) (n' := 142) rfl ?_
                    refine qG.br (P := (2 : Int) < 3) (pc1 := 13) (pc2 := 51) (st1 := []) rfl (fun h10 => ?_) (fun h10 => ?_)
                    · skip
                      refine qG.blk 3 (pc' := 16) (ls' := [(2, 23), (0, ((t : Nat) : Int)), (2, 28), (0, 2), (0, ((3 * t + 1 : Nat) : Int))]) (st' := [(0, wrp (((t : Nat) : Int) * 3))]) (w' := (qup (qup w 30 (3 * t + 0) (w 28 0)) 30 (3 * t + 1) (w 28 1))) (n' := 142) rfl ?_
                      rw [show wrp (((t : Nat) : Int) * 3) = ((3 * t : Nat) : Int) from by rw [wrp_id (by omega) (by omega)]; omega]
                      refine qG.blk 2 (pc' := 18) (ls' := [(2, 23), (0, ((t : Nat) : Int)), (2, 28), (0, 2), (0, ((3 * t + 1 : Nat) : Int))]) (st' := [(0, wrp (((3 * t : Nat) : Int) + 2))]) (w' := (qup (qup w 30 (3 * t + 0) (w 28 0)) 30 (3 * t + 1) (w 28 1))) (n' := 142) rfl ?_
                      rw [show wrp (((3 * t : Nat) : Int) + 2) = ((3 * t + 2 : Nat) : Int) from by rw [wrp_id (by omega) (by omega)]; omega]
                      refine qG.blk 2 (pc' := 22) (ls' := [(2, 23), (0, ((t : Nat) : Int)), (2, 28), (0, 2), (0, ((3 * t + 2 : Nat) : Int))]) (st' := [(0, ((3 * t + 2 : Nat) : Int))]) (w' := (qup (qup w 30 (3 * t + 0) (w 28 0)) 30 (3 * t + 1) (w 28 1))) (n' := 142) rfl ?_
                      refine qG.br (P := ((3 * t + 2 : Nat) : Int) < 0) (pc1 := 45) (pc2 := 25) (st1 := []) rfl (fun h11 => ?_) (fun h11 => ?_)
                      · exfalso; omega
                      · skip
                        refine qG.blk 3 (pc' := 31) (ls' := [(2, 23), (0, ((t : Nat) : Int)), (2, 28), (0, 2), (0, ((3 * t + 2 : Nat) : Int))]) (st' := [(2, w 23 6), (0, ((3 * t + 2 : Nat) : Int))]) (w' := (qup (qup w 30 (3 * t + 0) (w 28 0)) 30 (3 * t + 1) (w 28 1))) (n' := 142) rfl ?_
                        rw [show w 23 6 = 30 from zref hI rfl rfl]
                        refine qG.blk 1 (pc' := 32) (ls' := [(2, 23), (0, ((t : Nat) : Int)), (2, 28), (0, 2), (0, ((3 * t + 2 : Nat) : Int))]) (st' := [(0, 2400), (0, ((3 * t + 2 : Nat) : Int))]) (w' := (qup (qup w 30 (3 * t + 0) (w 28 0)) 30 (3 * t + 1) (w 28 1))) (n' := 142) rfl ?_
                        rw [show (2400 : Int) = N24 from hN24.symm]
                        refine qG.br (P := ((3 * t + 2 : Nat) : Int) < N24) (pc1 := 35) (pc2 := 45) (st1 := []) rfl (fun h12 => ?_) (fun h12 => ?_)
                        · skip
                          refine qG.blk 2 (pc' := 39) (ls' := [(2, 23), (0, ((t : Nat) : Int)), (2, 28), (0, 2), (0, ((3 * t + 2 : Nat) : Int))]) (st' := [(2, w 23 6)]) (w' := (qup (qup w 30 (3 * t + 0) (w 28 0)) 30 (3 * t + 1) (w 28 1))) (n' := 142) rfl ?_
                          rw [show w 23 6 = 30 from zref hI rfl rfl]
                          refine qG.blk 3 (pc' := 43) (ls' := [(2, 23), (0, ((t : Nat) : Int)), (2, 28), (0, 2), (0, ((3 * t + 2 : Nat) : Int))]) (st' := [(0, 2), (2, 28), (0, ((3 * t + 2 : Nat) : Int)), (2, 30)]) (w' := (qup (qup w 30 (3 * t + 0) (w 28 0)) 30 (3 * t + 1) (w 28 1))) (n' := 142) rfl ?_
                          refine qG.ar (P := 0 ≤ 2 ∧ 2 < ((3 : Nat) : Int)) (P2 := 0 < (28 : Int) ∧ (28 : Int) ≤ ((142 : Nat) : Int)) (pc' := 44) (ls' := [(2, 23), (0, ((t : Nat) : Int)), (2, 28), (0, 2), (0, ((3 * t + 2 : Nat) : Int))]) (st' := [(1, w 28 2), (0, ((3 * t + 2 : Nat) : Int)), (2, 30)]) (w' := (qup (qup w 30 (3 * t + 0) (w 28 0)) 30 (3 * t + 1) (w 28 1))) (n' := 142) rfl (by omega) (by decide) ?_
                          refine qG.lst (m := 2400) rfl rfl (by omega) (by decide) ?_
                          show qG none d 40 45 [(2, 23), (0, ((t : Nat) : Int)), (2, 28), (0, 2), (0, ((3 * t + 2 : Nat) : Int))] [] (qup (qup (qup w 30 (3 * t + 0) (w 28 0)) 30 (3 * t + 1) (w 28 1)) 30 (3 * t + 2) (w 28 2)) 142 Q9
                          refine qG.blk 1 (pc' := 48) (ls' := [(2, 23), (0, ((t : Nat) : Int)), (2, 28), (0, wrp (2 + 1)), (0, ((3 * t + 2 : Nat) : Int))]) (st' := []) (w' := (qup (qup (qup w 30 (3 * t + 0) (w 28 0)) 30 (3 * t + 1) (w 28 1)) 30 (3 * t + 2) (w 28 2))) (n' := 142) rfl ?_
                          rw [show wrp (2 + 1) = 3 from wrp_id (by omega) (by omega)]
                          refine qG.blk 3 (pc' := 4) (ls' := [(2, 23), (0, ((t : Nat) : Int)), (2, 28), (0, 3), (0, ((3 * t + 2 : Nat) : Int))]) (st' := [(0, 3), (0, 3)]) (w' := (qup (qup (qup w 30 (3 * t + 0) (w 28 0)) 30 (3 * t + 1) (w 28 1)) 30 (3 * t + 2) (w 28 2))) (n' := 142) rfl ?_
                          refine qG.br (P := (3 : Int) < 3) (pc1 := 7) (pc2 := 51) (st1 := []) rfl (fun h13 => ?_) (fun h13 => ?_)
                          · exact absurd h13 (by decide)
                          · skip
                            refine qG.retv rfl rfl ?_
                            subst hQ9
                            exact ⟨rfl, rfl, rfl⟩
                        · exfalso; omega
                    · exact absurd h10 (by decide)
                  · exact absurd h9 (by decide)
                · exfalso; omega
            · exact absurd h6 (by decide)
          · exact absurd h5 (by decide)
        · exfalso; omega
    · exact absurd h2 (by decide)
  · exact absurd h1 (by decide)
theorem K_wrGood {d : Nat} (hd : 0 ≤ d) (t : Nat) (ht : t < 800) (w : qW) (hI : yInv zgf zga zra zSp w) : qG none d 40 0 [(2, 23), (0, ((t : Nat) : Int)), (2, 28), (9, 0), (9, 0)] [] w 142 (fun (r : qV) (w1 : qW) (n1 : Nat) => r = (9, 0) ∧ n1 = 142 ∧ WGD t w w1) := by
  refine qG.mono (K_wrGoodC hd t ht w hI) ?_
  rintro r w1 n1 ⟨rfl, rfl, rfl⟩
  have h28 := lrow (w := w) (p := 28) (by unfold LROW; omega) hI
  refine ⟨rfl, rfl, fun t2 j hj => ?_, fun q k hq => by rw [qup_nk hq, qup_nk hq, qup_nk hq], gput (gput (gput hI (h28 _)) (h28 _)) (h28 _)⟩
  unfold gb sb
  by_cases e : t2 = t
  · rw [if_pos e, e]
    rcases part3 hj with ⟨q, -⟩ | ⟨q, -⟩ | ⟨q, -⟩ <;> rw [q]
    · rw [qup_j (by omega), qup_j (by omega), qup_k]
    · rw [qup_j (by omega), qup_k]
    · rw [qup_k]
  · rw [if_neg e, qup_j (by omega), qup_j (by omega), qup_j (by omega)]
theorem K_rdGoodC {d : Nat} (hd : 0 ≤ d) (t : Nat) (ht : t < 800) (w : qW) (hI : yInv zgf zga zra zSp w) : qG none d 41 0 [(2, 23), (0, ((t : Nat) : Int)), (2, 29), (9, 0), (9, 0)] [] w 142 (fun (r : qV) (w1 : qW) (n1 : Nat) => r = (9, 0) ∧ n1 = 142 ∧ w1 = pR w 29 (w 30 (3 * t + 0)) (w 30 (3 * t + 1)) (w 30 (3 * t + 2))) := by
  generalize hQ9 : (fun (r : qV) (w1 : qW) (n1 : Nat) => r = (9, 0) ∧ n1 = 142 ∧ w1 = pR w 29 (w 30 (3 * t + 0)) (w 30 (3 * t + 1)) (w 30 (3 * t + 2))) = Q9
  obtain ⟨N24, hN24⟩ : ∃ N : Int, N = 2400 := ⟨_, rfl⟩
  refine qG.blk 4 (pc' := 4) (ls' := [(2, 23), (0, ((t : Nat) : Int)), (2, 29), (0, 0), (9, 0)]) (st' := [(0, 3), (0, 0)]) (w' := w) (n' := 142) rfl ?_
  refine qG.br (P := (0 : Int) < 3) (pc1 := 7) (pc2 := 55) (st1 := []) rfl (fun h1 => ?_) (fun h1 => ?_)
  · skip
    refine qG.blk 3 (pc' := 10) (ls' := [(2, 23), (0, ((t : Nat) : Int)), (2, 29), (0, 0), (9, 0)]) (st' := [(0, 3), (0, 0)]) (w' := w) (n' := 142) rfl ?_
    refine qG.br (P := (0 : Int) < 3) (pc1 := 13) (pc2 := 55) (st1 := []) rfl (fun h2 => ?_) (fun h2 => ?_)
    · skip
      refine qG.blk 3 (pc' := 16) (ls' := [(2, 23), (0, ((t : Nat) : Int)), (2, 29), (0, 0), (9, 0)]) (st' := [(0, wrp (((t : Nat) : Int) * 3))]) (w' := w) (n' := 142) rfl ?_
      rw [show wrp (((t : Nat) : Int) * 3) = ((3 * t : Nat) : Int) from by rw [wrp_id (by omega) (by omega)]; omega]
      refine qG.blk 2 (pc' := 18) (ls' := [(2, 23), (0, ((t : Nat) : Int)), (2, 29), (0, 0), (9, 0)]) (st' := [(0, wrp (((3 * t : Nat) : Int) + 0))]) (w' := w) (n' := 142) rfl ?_
      rw [show wrp (((3 * t : Nat) : Int) + 0) = ((3 * t + 0 : Nat) : Int) from by rw [wrp_id (by omega) (by omega)]; omega]
      refine qG.blk 4 (pc' := 24) (ls' := [(2, 23), (0, ((t : Nat) : Int)), (2, 29), (0, 0), (0, ((3 * t + 0 : Nat) : Int))]) (st' := [(0, ((3 * t + 0 : Nat) : Int)), (0, 0), (2, 29)]) (w' := w) (n' := 142) rfl ?_
      refine qG.br (P := ((3 * t + 0 : Nat) : Int) < 0) (pc1 := 47) (pc2 := 27) (st1 := [(0, 0), (2, 29)]) rfl (fun h3 => ?_) (fun h3 => ?_)
      · exfalso; omega
      · skip
        refine qG.blk 3 (pc' := 33) (ls' := [(2, 23), (0, ((t : Nat) : Int)), (2, 29), (0, 0), (0, ((3 * t + 0 : Nat) : Int))]) (st' := [(2, w 23 6), (0, ((3 * t + 0 : Nat) : Int)), (0, 0), (2, 29)]) (w' := w) (n' := 142) rfl ?_
        rw [show w 23 6 = 30 from zref hI rfl rfl]
        refine qG.blk 1 (pc' := 34) (ls' := [(2, 23), (0, ((t : Nat) : Int)), (2, 29), (0, 0), (0, ((3 * t + 0 : Nat) : Int))]) (st' := [(0, 2400), (0, ((3 * t + 0 : Nat) : Int)), (0, 0), (2, 29)]) (w' := w) (n' := 142) rfl ?_
        rw [show (2400 : Int) = N24 from hN24.symm]
        refine qG.br (P := ((3 * t + 0 : Nat) : Int) < N24) (pc1 := 37) (pc2 := 47) (st1 := [(0, 0), (2, 29)]) rfl (fun h4 => ?_) (fun h4 => ?_)
        · skip
          refine qG.blk 2 (pc' := 41) (ls' := [(2, 23), (0, ((t : Nat) : Int)), (2, 29), (0, 0), (0, ((3 * t + 0 : Nat) : Int))]) (st' := [(2, w 23 6), (0, 0), (2, 29)]) (w' := w) (n' := 142) rfl ?_
          rw [show w 23 6 = 30 from zref hI rfl rfl]
          refine qG.blk 1 (pc' := 43) (ls' := [(2, 23), (0, ((t : Nat) : Int)), (2, 29), (0, 0), (0, ((3 * t + 0 : Nat) : Int))]) (st' := [(0, ((3 * t + 0 : Nat) : Int)), (2, 30), (0, 0), (2, 29)]) (w' := w) (n' := 142) rfl ?_
          refine qG.lld (m := 2400) rfl rfl (by omega) (by decide) ?_
          show qG none d 41 44 [(2, 23), (0, ((t : Nat) : Int)), (2, 29), (0, 0), (0, ((3 * t + 0 : Nat) : Int))] [(1, w 30 (3 * t + 0)), (0, 0), (2, 29)] w 142 Q9
          refine qG.blk 1 (pc' := 48) (ls' := [(2, 23), (0, ((t : Nat) : Int)), (2, 29), (0, 0), (0, ((3 * t + 0 : Nat) : Int))]) (st' := [(1, w 30 (3 * t + 0)), (0, 0), (2, 29)]) (w' := w) (n' := 142) rfl ?_
          refine qG.ar (P := 0 ≤ 0 ∧ 0 < ((3 : Nat) : Int)) (P2 := 0 < (29 : Int) ∧ (29 : Int) ≤ ((142 : Nat) : Int)) (pc' := 49) (ls' := [(2, 23), (0, ((t : Nat) : Int)), (2, 29), (0, 0), (0, ((3 * t + 0 : Nat) : Int))]) (st' := []) (w' := (qup w 29 0 (w 30 (3 * t + 0)))) (n' := 142) rfl (by omega) (by decide) ?_
          refine qG.blk 1 (pc' := 52) (ls' := [(2, 23), (0, ((t : Nat) : Int)), (2, 29), (0, wrp (0 + 1)), (0, ((3 * t + 0 : Nat) : Int))]) (st' := []) (w' := (qup w 29 0 (w 30 (3 * t + 0)))) (n' := 142) rfl ?_
          rw [show wrp (0 + 1) = 1 from wrp_id (by omega) (by omega)]
          refine qG.blk 3 (pc' := 4) (ls' := [(2, 23), (0, ((t : Nat) : Int)), (2, 29), (0, 1), (0, ((3 * t + 0 : Nat) : Int))]) (st' := [(0, 3), (0, 1)]) (w' := (qup w 29 0 (w 30 (3 * t + 0)))) (n' := 142) rfl ?_
          refine qG.br (P := (1 : Int) < 3) (pc1 := 7) (pc2 := 55) (st1 := []) rfl (fun h5 => ?_) (fun h5 => ?_)
          · skip
            refine qG.blk 3 (pc' := 10) (ls' := [(2, 23), (0, ((t : Nat) : Int)), (2, 29), (0, 1), (0, ((3 * t + 0 : Nat) : Int))]) (st' := [(0, 3), (0, 1)]) (w' := (qup w 29 0 (w 30 (3 * t + 0)))) (n' := 142) rfl ?_
            refine qG.br (P := (1 : Int) < 3) (pc1 := 13) (pc2 := 55) (st1 := []) rfl (fun h6 => ?_) (fun h6 => ?_)
            · skip
              refine qG.blk 3 (pc' := 16) (ls' := [(2, 23), (0, ((t : Nat) : Int)), (2, 29), (0, 1), (0, ((3 * t + 0 : Nat) : Int))]) (st' := [(0, wrp (((t : Nat) : Int) * 3))]) (w' := (qup w 29 0 (w 30 (3 * t + 0)))) (n' := 142) rfl ?_
              rw [show wrp (((t : Nat) : Int) * 3) = ((3 * t : Nat) : Int) from by rw [wrp_id (by omega) (by omega)]; omega]
              refine qG.blk 2 (pc' := 18) (ls' := [(2, 23), (0, ((t : Nat) : Int)), (2, 29), (0, 1), (0, ((3 * t + 0 : Nat) : Int))]) (st' := [(0, wrp (((3 * t : Nat) : Int) + 1))]) (w' := (qup w 29 0 (w 30 (3 * t + 0)))) (n' := 142) rfl ?_
              rw [show wrp (((3 * t : Nat) : Int) + 1) = ((3 * t + 1 : Nat) : Int) from by rw [wrp_id (by omega) (by omega)]; omega]
              refine qG.blk 4 (pc' := 24) (ls' := [(2, 23), (0, ((t : Nat) : Int)), (2, 29), (0, 1), (0, ((3 * t + 1 : Nat) : Int))]) (st' := [(0, ((3 * t + 1 : Nat) : Int)), (0, 1), (2, 29)]) (w' := (qup w 29 0 (w 30 (3 * t + 0)))) (n' := 142) rfl ?_
              refine qG.br (P := ((3 * t + 1 : Nat) : Int) < 0) (pc1 := 47) (pc2 := 27) (st1 := [(0, 1), (2, 29)]) rfl (fun h7 => ?_) (fun h7 => ?_)
              · exfalso; omega
              · skip
                refine qG.blk 3 (pc' := 33) (ls' := [(2, 23), (0, ((t : Nat) : Int)), (2, 29), (0, 1), (0, ((3 * t + 1 : Nat) : Int))]) (st' := [(2, w 23 6), (0, ((3 * t + 1 : Nat) : Int)), (0, 1), (2, 29)]) (w' := (qup w 29 0 (w 30 (3 * t + 0)))) (n' := 142) rfl ?_
                rw [show w 23 6 = 30 from zref hI rfl rfl]
                refine qG.blk 1 (pc' := 34) (ls' := [(2, 23), (0, ((t : Nat) : Int)), (2, 29), (0, 1), (0, ((3 * t + 1 : Nat) : Int))]) (st' := [(0, 2400), (0, ((3 * t + 1 : Nat) : Int)), (0, 1), (2, 29)]) (w' := (qup w 29 0 (w 30 (3 * t + 0)))) (n' := 142) rfl ?_
                rw [show (2400 : Int) = N24 from hN24.symm]
                refine qG.br (P := ((3 * t + 1 : Nat) : Int) < N24) (pc1 := 37) (pc2 := 47) (st1 := [(0, 1), (2, 29)]) rfl (fun h8 => ?_) (fun h8 => ?_)
                · skip
                  refine qG.blk 2 (pc' := 41) (ls' := [(2, 23), (0, ((t : Nat) : Int)), (2, 29), (0, 1), (0, ((3 * t + 1 : Nat) : Int))]) (st' := [(2, w 23 6), (0, 1), (2, 29)]) (w' := (qup w 29 0 (w 30 (3 * t + 0)))) (n' := 142) rfl ?_
                  rw [show w 23 6 = 30 from zref hI rfl rfl]
                  refine qG.blk 1 (pc' := 43) (ls' := [(2, 23), (0, ((t : Nat) : Int)), (2, 29), (0, 1), (0, ((3 * t + 1 : Nat) : Int))]) (st' := [(0, ((3 * t + 1 : Nat) : Int)), (2, 30), (0, 1), (2, 29)]) (w' := (qup w 29 0 (w 30 (3 * t + 0)))) (n' := 142) rfl ?_
                  refine qG.lld (m := 2400) rfl rfl (by omega) (by decide) ?_
                  show qG none d 41 44 [(2, 23), (0, ((t : Nat) : Int)), (2, 29), (0, 1), (0, ((3 * t + 1 : Nat) : Int))] [(1, w 30 (3 * t + 1)), (0, 1), (2, 29)] (qup w 29 0 (w 30 (3 * t + 0))) 142 Q9
                  refine qG.blk 1 (pc' := 48) (ls' := [(2, 23), (0, ((t : Nat) : Int)), (2, 29), (0, 1), (0, ((3 * t + 1 : Nat) : Int))]) (st' := [(1, w 30 (3 * t + 1)), (0, 1), (2, 29)]) (w' := (qup w 29 0 (w 30 (3 * t + 0)))) (n' := 142) rfl ?_
                  refine qG.ar (P := 0 ≤ 1 ∧ 1 < ((3 : Nat) : Int)) (P2 := 0 < (29 : Int) ∧ (29 : Int) ≤ ((142 : Nat) : Int)) (pc' := 49) (ls' := [(2, 23), (0, ((t : Nat) : Int)), (2, 29), (0, 1), (0, ((3 * t + 1 : Nat) : Int))]) (st' := []) (w' := (qup (qup w 29 0 (w 30 (3 * t + 0))) 29 1 (w 30 (3 * t + 1)))) (n' := 142) rfl (by omega) (by decide) ?_
                  refine qG.blk 1 (pc' := 52) (ls' := [(2, 23), (0, ((t : Nat) : Int)), (2, 29), (0, wrp (1 + 1)), (0, ((3 * t + 1 : Nat) : Int))]) (st' := []) (w' := (qup (qup w 29 0 (w 30 (3 * t + 0))) 29 1 (w 30 (3 * t + 1)))) (n' := 142) rfl ?_
                  rw [show wrp (1 + 1) = 2 from wrp_id (by omega) (by omega)]
                  refine qG.blk 3 (pc' := 4) (ls' := [(2, 23), (0, ((t : Nat) : Int)), (2, 29), (0, 2), (0, ((3 * t + 1 : Nat) : Int))]) (st' := [(0, 3), (0, 2)]) (w' := (qup (qup w 29 0 (w 30 (3 * t + 0))) 29 1 (w 30 (3 * t + 1)))) (n' := 142) rfl ?_
                  refine qG.br (P := (2 : Int) < 3) (pc1 := 7) (pc2 := 55) (st1 := []) rfl (fun h9 => ?_) (fun h9 => ?_)
                  · skip
                    refine qG.blk 3 (pc' := 10) (ls' := [(2, 23), (0, ((t : Nat) : Int)), (2, 29), (0, 2), (0, ((3 * t + 1 : Nat) : Int))]) (st' := [(0, 3), (0, 2)]) (w' := (qup (qup w 29 0 (w 30 (3 * t + 0))) 29 1 (w 30 (3 * t + 1)))) (n' := 142) rfl ?_
                    refine qG.br (P := (2 : Int) < 3) (pc1 := 13) (pc2 := 55) (st1 := []) rfl (fun h10 => ?_) (fun h10 => ?_)
                    · skip
                      refine qG.blk 3 (pc' := 16) (ls' := [(2, 23), (0, ((t : Nat) : Int)), (2, 29), (0, 2), (0, ((3 * t + 1 : Nat) : Int))]) (st' := [(0, wrp (((t : Nat) : Int) * 3))]) (w' := (qup (qup w 29 0 (w 30 (3 * t + 0))) 29 1 (w 30 (3 * t + 1)))) (n' := 142) rfl ?_
                      rw [show wrp (((t : Nat) : Int) * 3) = ((3 * t : Nat) : Int) from by rw [wrp_id (by omega) (by omega)]; omega]
                      refine qG.blk 2 (pc' := 18) (ls' := [(2, 23), (0, ((t : Nat) : Int)), (2, 29), (0, 2), (0, ((3 * t + 1 : Nat) : Int))]) (st' := [(0, wrp (((3 * t : Nat) : Int) + 2))]) (w' := (qup (qup w 29 0 (w 30 (3 * t + 0))) 29 1 (w 30 (3 * t + 1)))) (n' := 142) rfl ?_
                      rw [show wrp (((3 * t : Nat) : Int) + 2) = ((3 * t + 2 : Nat) : Int) from by rw [wrp_id (by omega) (by omega)]; omega]
                      refine qG.blk 4 (pc' := 24) (ls' := [(2, 23), (0, ((t : Nat) : Int)), (2, 29), (0, 2), (0, ((3 * t + 2 : Nat) : Int))]) (st' := [(0, ((3 * t + 2 : Nat) : Int)), (0, 2), (2, 29)]) (w' := (qup (qup w 29 0 (w 30 (3 * t + 0))) 29 1 (w 30 (3 * t + 1)))) (n' := 142) rfl ?_
                      refine qG.br (P := ((3 * t + 2 : Nat) : Int) < 0) (pc1 := 47) (pc2 := 27) (st1 := [(0, 2), (2, 29)]) rfl (fun h11 => ?_) (fun h11 => ?_)
                      · exfalso; omega
                      · skip
                        refine qG.blk 3 (pc' := 33) (ls' := [(2, 23), (0, ((t : Nat) : Int)), (2, 29), (0, 2), (0, ((3 * t + 2 : Nat) : Int))]) (st' := [(2, w 23 6), (0, ((3 * t + 2 : Nat) : Int)), (0, 2), (2, 29)]) (w' := (qup (qup w 29 0 (w 30 (3 * t + 0))) 29 1 (w 30 (3 * t + 1)))) (n' := 142) rfl ?_
                        rw [show w 23 6 = 30 from zref hI rfl rfl]
                        refine qG.blk 1 (pc' := 34) (ls' := [(2, 23), (0, ((t : Nat) : Int)), (2, 29), (0, 2), (0, ((3 * t + 2 : Nat) : Int))]) (st' := [(0, 2400), (0, ((3 * t + 2 : Nat) : Int)), (0, 2), (2, 29)]) (w' := (qup (qup w 29 0 (w 30 (3 * t + 0))) 29 1 (w 30 (3 * t + 1)))) (n' := 142) rfl ?_
                        rw [show (2400 : Int) = N24 from hN24.symm]
                        refine qG.br (P := ((3 * t + 2 : Nat) : Int) < N24) (pc1 := 37) (pc2 := 47) (st1 := [(0, 2), (2, 29)]) rfl (fun h12 => ?_) (fun h12 => ?_)
                        · skip
                          refine qG.blk 2 (pc' := 41) (ls' := [(2, 23), (0, ((t : Nat) : Int)), (2, 29), (0, 2), (0, ((3 * t + 2 : Nat) : Int))]) (st' := [(2, w 23 6), (0, 2), (2, 29)]) (w' := (qup (qup w 29 0 (w 30 (3 * t + 0))) 29 1 (w 30 (3 * t + 1)))) (n' := 142) rfl ?_
                          rw [show w 23 6 = 30 from zref hI rfl rfl]
                          refine qG.blk 1 (pc' := 43) (ls' := [(2, 23), (0, ((t : Nat) : Int)), (2, 29), (0, 2), (0, ((3 * t + 2 : Nat) : Int))]) (st' := [(0, ((3 * t + 2 : Nat) : Int)), (2, 30), (0, 2), (2, 29)]) (w' := (qup (qup w 29 0 (w 30 (3 * t + 0))) 29 1 (w 30 (3 * t + 1)))) (n' := 142) rfl ?_
                          refine qG.lld (m := 2400) rfl rfl (by omega) (by decide) ?_
                          show qG none d 41 44 [(2, 23), (0, ((t : Nat) : Int)), (2, 29), (0, 2), (0, ((3 * t + 2 : Nat) : Int))] [(1, w 30 (3 * t + 2)), (0, 2), (2, 29)] (qup (qup w 29 0 (w 30 (3 * t + 0))) 29 1 (w 30 (3 * t + 1))) 142 Q9
                          refine qG.blk 1 (pc' := 48) (ls' := [(2, 23), (0, ((t : Nat) : Int)), (2, 29), (0, 2), (0, ((3 * t + 2 : Nat) : Int))]) (st' := [(1, w 30 (3 * t + 2)), (0, 2), (2, 29)]) (w' := (qup (qup w 29 0 (w 30 (3 * t + 0))) 29 1 (w 30 (3 * t + 1)))) (n' := 142) rfl ?_
                          refine qG.ar (P := 0 ≤ 2 ∧ 2 < ((3 : Nat) : Int)) (P2 := 0 < (29 : Int) ∧ (29 : Int) ≤ ((142 : Nat) : Int)) (pc' := 49) (ls' := [(2, 23), (0, ((t : Nat) : Int)), (2, 29), (0, 2), (0, ((3 * t + 2 : Nat) : Int))]) (st' := []) (w' := (qup (qup (qup w 29 0 (w 30 (3 * t + 0))) 29 1 (w 30 (3 * t + 1))) 29 2 (w 30 (3 * t + 2)))) (n' := 142) rfl (by omega) (by decide) ?_
                          refine qG.blk 1 (pc' := 52) (ls' := [(2, 23), (0, ((t : Nat) : Int)), (2, 29), (0, wrp (2 + 1)), (0, ((3 * t + 2 : Nat) : Int))]) (st' := []) (w' := (qup (qup (qup w 29 0 (w 30 (3 * t + 0))) 29 1 (w 30 (3 * t + 1))) 29 2 (w 30 (3 * t + 2)))) (n' := 142) rfl ?_
                          rw [show wrp (2 + 1) = 3 from wrp_id (by omega) (by omega)]
                          refine qG.blk 3 (pc' := 4) (ls' := [(2, 23), (0, ((t : Nat) : Int)), (2, 29), (0, 3), (0, ((3 * t + 2 : Nat) : Int))]) (st' := [(0, 3), (0, 3)]) (w' := (qup (qup (qup w 29 0 (w 30 (3 * t + 0))) 29 1 (w 30 (3 * t + 1))) 29 2 (w 30 (3 * t + 2)))) (n' := 142) rfl ?_
                          refine qG.br (P := (3 : Int) < 3) (pc1 := 7) (pc2 := 55) (st1 := []) rfl (fun h13 => ?_) (fun h13 => ?_)
                          · exact absurd h13 (by decide)
                          · skip
                            refine qG.retv rfl rfl ?_
                            subst hQ9
                            exact ⟨rfl, rfl, rfl⟩
                        · exfalso; omega
                    · exact absurd h10 (by decide)
                  · exact absurd h9 (by decide)
                · exfalso; omega
            · exact absurd h6 (by decide)
          · exact absurd h5 (by decide)
        · exfalso; omega
    · exact absurd h2 (by decide)
  · exact absurd h1 (by decide)
theorem K_rdGood {d : Nat} (hd : 0 ≤ d) (t : Nat) (ht : t < 800) (w : qW) (hI : yInv zgf zga zra zSp w) : qG none d 41 0 [(2, 23), (0, ((t : Nat) : Int)), (2, 29), (9, 0), (9, 0)] [] w 142 (fun (r : qV) (w1 : qW) (n1 : Nat) => r = (9, 0) ∧ n1 = 142 ∧ RW 29 (fun j => gb w t j) w w1) := by
  refine qG.mono (K_rdGoodC hd t ht w hI) ?_
  rintro r w1 n1 ⟨rfl, rfl, rfl⟩
  refine ⟨rfl, rfl, RW.p (by unfold LROW; omega) hI (g64 hI _) (g64 hI _) (g64 hI _) (fun s hs => ?_) (fun s hs => ?_) (fun s hs => ?_)⟩
  · unfold gb; rw [show s / 64 = 0 by omega, Nat.mod_eq_of_lt hs]
  · unfold gb; rw [show (64 + s) / 64 = 1 by omega, show (64 + s) % 64 = s by omega]
  · unfold gb; rw [show (128 + s) / 64 = 2 by omega, show (128 + s) % 64 = s by omega]
theorem K_setN {d : Nat} (hd : 0 ≤ d) (w : qW) (hI : yInv zgf zga zra zSp w) : qG none d 100 0 [(2, 24), (0, (-1))] [] w 142 (fun (r : qV) (w1 : qW) (n1 : Nat) => r = (0, -1) ∧ w1 = w ∧ n1 = 142) := by
  generalize hQ9 : (fun (r : qV) (w1 : qW) (n1 : Nat) => r = (0, -1) ∧ w1 = w ∧ n1 = 142) = Q9
  refine qG.blk 1 (pc' := 1) (ls' := [(2, 24), (0, (-1))]) (st' := [(0, (-1))]) (w' := w) (n' := 142) rfl ?_
  refine qG.br (P := ((-1) : Int) < 0) (pc1 := 28) (pc2 := 4) (st1 := []) rfl (fun h1 => ?_) (fun h1 => ?_)
  · skip
    refine qG.blk 1 (pc' := 29) (ls' := [(2, 24), (0, (-1))]) (st' := [(0, (-1))]) (w' := w) (n' := 142) rfl ?_
    refine qG.ret rfl rfl ?_
    subst hQ9
    exact ⟨rfl, rfl, rfl⟩
  · exact absurd h1 (by decide)
theorem K_setI {d : Nat} (hd : 0 ≤ d) (i N : Nat) (hi : i < N) (hN18 : N ≤ 180) (w : qW) (hI : yInv zgf zga zra zSp w) (hN : w 24 3 = (N : Int)) : qG none d 100 0 [(2, 24), (0, ((i : Nat) : Int))] [] w 142 (fun (r : qV) (w1 : qW) (n1 : Nat) => r = (0, w 25 i) ∧ w1 = w ∧ n1 = 142) := by
  generalize hQ9 : (fun (r : qV) (w1 : qW) (n1 : Nat) => r = (0, w 25 i) ∧ w1 = w ∧ n1 = 142) = Q9
  obtain ⟨N1, hN1⟩ : ∃ N : Int, N = 180 := ⟨_, rfl⟩
  refine qG.blk 1 (pc' := 1) (ls' := [(2, 24), (0, ((i : Nat) : Int))]) (st' := [(0, ((i : Nat) : Int))]) (w' := w) (n' := 142) rfl ?_
  refine qG.br (P := ((i : Nat) : Int) < 0) (pc1 := 28) (pc2 := 4) (st1 := []) rfl (fun h1 => ?_) (fun h1 => ?_)
  · exfalso; omega
  · skip
    refine qG.blk 3 (pc' := 9) (ls' := [(2, 24), (0, ((i : Nat) : Int))]) (st' := [(0, w 24 3), (0, ((i : Nat) : Int))]) (w' := w) (n' := 142) rfl ?_
    rw [show w 24 3 = ((N : Nat) : Int) from hN]
    refine qG.br (P := ((i : Nat) : Int) < ((N : Nat) : Int)) (pc1 := 12) (pc2 := 28) (st1 := []) rfl (fun h2 => ?_) (fun h2 => ?_)
    · skip
      refine qG.blk 2 (pc' := 16) (ls' := [(2, 24), (0, ((i : Nat) : Int))]) (st' := [(0, 180), (0, ((i : Nat) : Int))]) (w' := w) (n' := 142) rfl ?_
      rw [show (180 : Int) = N1 from hN1.symm]
      refine qG.br (P := ((i : Nat) : Int) < N1) (pc1 := 19) (pc2 := 28) (st1 := []) rfl (fun h3 => ?_) (fun h3 => ?_)
      · skip
        refine qG.blk 2 (pc' := 23) (ls' := [(2, 24), (0, ((i : Nat) : Int))]) (st' := [(2, w 24 4)]) (w' := w) (n' := 142) rfl ?_
        rw [show w 24 4 = 25 from zref hI rfl rfl]
        refine qG.blk 1 (pc' := 24) (ls' := [(2, 24), (0, ((i : Nat) : Int))]) (st' := [(0, ((i : Nat) : Int)), (2, 25)]) (w' := w) (n' := 142) rfl ?_
        refine qG.ild (m := 180) rfl rfl (by omega) (by decide) ?_
        show qG none d 100 25 [(2, 24), (0, ((i : Nat) : Int))] [(0, w 25 i)] w 142 Q9
        refine qG.blk 1 (pc' := 29) (ls' := [(2, 24), (0, ((i : Nat) : Int))]) (st' := [(0, w 25 i)]) (w' := w) (n' := 142) rfl ?_
        refine qG.ret rfl rfl ?_
        subst hQ9
        exact ⟨rfl, rfl, rfl⟩
      · exfalso; omega
    · exfalso; omega
theorem K_fGood4 {d : Nat} (hd : 4 ≤ d) (N : Nat) (P : Nat → Int) (M : Nat → Nat → Bool) (V : Nat → Int) (hsy : ∀ i j, i < N → j < N → M i j = M j i) (L : Nat) (hL : L ≤ 40) (w : qW) (hI : yInv zgf zga zra zSp w) (hs : w 4 2 = (L : Int)) (hKW : KNw (w 5) (w 6) L) (hT : CTB N P M w) (hVV : ∀ g, g < L → ∀ u, u < dN (w 5 g) (w 6 g) → V (scF (w 5) (w 6) g + u) = w 7 g) : qG none d 39 0 [(2, 23), (2, 4), (9, 0), (9, 0), (9, 0)] [] w 142 (fun (r : qV) (w1 : qW) (n1 : Nat) => r = (9, 0) ∧ n1 = 142 ∧ yInv zgf zga zra zSp w1 ∧ (∀ q j, ¬ (27 ≤ q ∧ q ≤ 30) → w1 q j = w q j) ∧ HOLD w1 27 (gz N P M V (scF (w 5) (w 6) L) (scF (w 5) (w 6) L)) ∧ ∀ t, t < (scF (w 5) (w 6) L) → ∀ j, j < 192 → gb w1 t j = gd N P M V (scF (w 5) (w 6) L) t j) := by
  generalize hQ9 : (fun (r : qV) (w1 : qW) (n1 : Nat) => r = (9, 0) ∧ n1 = 142 ∧ yInv zgf zga zra zSp w1 ∧ (∀ q j, ¬ (27 ≤ q ∧ q ≤ 30) → w1 q j = w q j) ∧ HOLD w1 27 (gz N P M V (scF (w 5) (w 6) L) (scF (w 5) (w 6) L)) ∧ ∀ t, t < (scF (w 5) (w 6) L) → ∀ j, j < 192 → gb w1 t j = gd N P M V (scF (w 5) (w 6) L) t j) = Q9
  obtain ⟨d, rfl⟩ : ∃ d9, d = d9 + 1 := ⟨d - 1, by omega⟩
  refine qG.blk 2 (pc' := 4) (ls' := [(2, 23), (2, 4), (9, 0), (9, 0), (9, 0)]) (st' := [(2, w 23 0)]) (w' := w) (n' := 142) rfl ?_
  rw [show w 23 0 = 24 from zref hI rfl rfl]
  refine qG.blk 3 (pc' := 9) (ls' := [(2, 23), (2, 4), (9, 0), (9, 0), (9, 0)]) (st' := [(2, w 23 1), (0, 0), (2, 24)]) (w' := w) (n' := 142) rfl ?_
  rw [show w 23 1 = 27 from zref hI rfl rfl]
  refine qG.call (t := 103) (na := 3) (sk := 1) (md := 1) (ls1 := [(2, 24), (0, 0), (2, 27), (9, 0), (9, 0)]) (r1 := []) rfl rfl rfl rfl rfl (K_unseen27 (by omega) 0 N hT.1 w hI hT.2.1) ?_
  rintro _ w1 _ ⟨rfl, rfl, hR1⟩
  have h1f : (∀ q j, ¬ (27 ≤ q ∧ q ≤ 30) → w1 q j = w q j) := fun q j a => hR1.2.1 q j (by omega)
  have hI1 := hR1.2.2
  have h127 : HOLD w1 27 (gz N P M V (scF (w 5) (w 6) L) 0) := fun j hj => by rw [show sb w1 27 j = (decide (j < N) && decide (qand (w 25 j) 0 = 0)) from hR1.1 j hj, qand_z0, decide_eq_true rfl, Bool.and_true]; rfl
  show qG none (d + 1) 39 12 [(2, 23), (2, 4), (9, 0), (9, 0), (9, 0)] [] w1 142 Q9
  refine qG.blk 1 (pc' := 13) (ls' := [(2, 23), (2, 4), (9, 0), (9, 0), (9, 0)]) (st' := [(2, 4)]) (w' := w1) (n' := 142) rfl ?_
  refine qG.call (t := 116) (na := 1) (sk := 1) (md := 1) (ls1 := [(2, 4), (9, 0), (9, 0)]) (r1 := []) rfl rfl rfl rfl rfl (K_allSec4 (by omega) L hL w1 hI1 ((h1f 4 2 (by decide)).trans hs) (by rw [show w1 5 = w 5 from funext fun j => h1f _ j (by decide), show w1 6 = w 6 from funext fun j => h1f _ j (by decide)]; exact hKW)) ?_
  rintro _ w7 _ ⟨rfl, hw7, rfl⟩
  rw [hw7, show w1 5 = w 5 from funext fun j => h1f _ j (by decide), show w1 6 = w 6 from funext fun j => h1f _ j (by decide)]
  show qG none (d + 1) 39 16 [(2, 23), (2, 4), (9, 0), (9, 0), (9, 0)] [(0, ((scF (w 5) (w 6) L : Nat) : Int))] w1 142 Q9
  refine qG.blk 2 (pc' := 18) (ls' := [(2, 23), (2, 4), (0, ((scF (w 5) (w 6) L : Nat) : Int)), (9, 0), (9, 0)]) (st' := [(2, 4)]) (w' := w1) (n' := 142) rfl ?_
  refine qG.call (t := 110) (na := 1) (sk := 1) (md := 1) (ls1 := [(2, 4)]) (r1 := []) rfl rfl rfl rfl rfl (K_stepC4 (Nat.zero_le _) w1 (x := ((L : Nat) : Int)) ((h1f 4 2 (by decide)).trans hs)) ?_
  rintro _ w7 _ ⟨rfl, hw7, rfl⟩
  rw [hw7]
  show qG none (d + 1) 39 21 [(2, 23), (2, 4), (0, ((scF (w 5) (w 6) L : Nat) : Int)), (9, 0), (9, 0)] [(0, ((L : Nat) : Int))] w1 142 Q9
  refine qG.blk 2 (pc' := 23) (ls' := [(2, 23), (2, 4), (0, ((scF (w 5) (w 6) L : Nat) : Int)), (9, 0), (9, 0)]) (st' := [(0, wrp (((L : Nat) : Int) - 1))]) (w' := w1) (n' := 142) rfl ?_
  rw [show wrp (((L : Nat) : Int) - 1) = ((L : Nat) : Int) - 1 from wrp_id (by omega) (by omega)]
  refine qG.blk 1 (pc' := 24) (ls' := [(2, 23), (2, 4), (0, ((scF (w 5) (w 6) L : Nat) : Int)), (0, ((L : Nat) : Int) - 1), (9, 0)]) (st' := []) (w' := w1) (n' := 142) rfl ?_
  have L24 : ∀ (m9 : Nat) (g : Nat) (wS : qW) (l4 : qV), g = m9 → (g ≤ L ∧ (∀ q j, ¬ (27 ≤ q ∧ q ≤ 30) → wS q j = w q j) ∧ yInv zgf zga zra zSp wS ∧ HOLD wS 27 (gz N P M V (scF (w 5) (w 6) L) ((scF (w 5) (w 6) L) - scF (w 5) (w 6) g)) ∧ ∀ t, scF (w 5) (w 6) g ≤ t → t < (scF (w 5) (w 6) L) → ∀ j, j < 192 → gb wS t j = gd N P M V (scF (w 5) (w 6) L) t j) → qG none (d + 1) 39 24 [(2, 23), (2, 4), (0, ((scF (w 5) (w 6) g : Nat) : Int)), (0, ((g : Nat) : Int) - 1), l4] [] wS 142 Q9 := by
    intro m9
    induction m9 using Nat.strongRecOn with
    | ind m9 ih24 =>
    intro g wS l4 hm24 hI24
    obtain ⟨hgL, hSf, hIS, hH27, hgS⟩ := hI24
    have hTS := hT.cg (w1 := wS) (fun q j h => hSf q j (by omega))
    refine qG.blk 1 (pc' := 25) (ls' := [(2, 23), (2, 4), (0, ((scF (w 5) (w 6) g : Nat) : Int)), (0, ((g : Nat) : Int) - 1), l4]) (st' := [(0, ((g : Nat) : Int) - 1)]) (w' := wS) (n' := 142) rfl ?_
    refine qG.br (P := ((g : Nat) : Int) - 1 < 0) (pc1 := 110) (pc2 := 28) (st1 := []) rfl (fun hg0 => ?_) (fun hg0 => ?_)
    · skip
      refine qG.retv rfl rfl ?_
      subst hQ9
      have hg00 : g = 0 := by omega
      subst hg00
      exact ⟨rfl, rfl, hIS, hSf, hH27, fun t b j hj => hgS t (Nat.zero_le _) b j hj⟩
    · skip
      obtain ⟨g9, rfl⟩ : ∃ g9, g = g9 + 1 := ⟨g - 1, by omega⟩
      rw [show ((g9 + 1 : Nat) : Int) - 1 = ((g9 : Nat) : Int) from by omega]
      have hdn : (if w 5 g9 = 2 then w 6 g9 else 1) = ((dN (w 5 g9) (w 6 g9) : Nat) : Int) := by have z := sc_s hKW (show g9 < L by omega); have y : ((scF (w 5) (w 6) (g9 + 1) : Nat) : Int) = ((scF (w 5) (w 6) g9 : Nat) : Int) + ((dN (w 5 g9) (w 6 g9) : Nat) : Int) := rfl; omega
      have hd20 : dN (w 5 g9) (w 6 g9) ≤ 20 := by have q := hKW g9 (by omega); by_cases y : w 5 g9 = 2; rw [if_pos y] at hdn; have := q y; omega; rw [if_neg y] at hdn; omega
      have hsc := sc_le hKW g9 (by omega)
      have hsL := scF_le (K := w 5) (N := w 6) (show g9 + 1 ≤ L by omega)
      have hs1 : scF (w 5) (w 6) (g9 + 1) = scF (w 5) (w 6) g9 + dN (w 5 g9) (w 6 g9) := rfl
      refine qG.blk 2 (pc' := 32) (ls' := [(2, 23), (2, 4), (0, ((scF (w 5) (w 6) (g9 + 1) : Nat) : Int)), (0, ((g9 : Nat) : Int)), l4]) (st' := [(2, wS 23 0)]) (w' := wS) (n' := 142) rfl ?_
      rw [show wS 23 0 = 24 from (hSf 23 0 (by decide)).trans (zref hI rfl rfl)]
      refine qG.blk 2 (pc' := 34) (ls' := [(2, 23), (2, 4), (0, ((scF (w 5) (w 6) (g9 + 1) : Nat) : Int)), (0, ((g9 : Nat) : Int)), l4]) (st' := [(0, ((g9 : Nat) : Int)), (2, 4), (2, 24)]) (w' := wS) (n' := 142) rfl ?_
      refine qG.call (t := 115) (na := 2) (sk := 1) (md := 1) (ls1 := [(2, 4), (0, ((g9 : Nat) : Int))]) (r1 := [(2, 24)]) rfl rfl rfl rfl rfl (K_vwOf4 (Nat.zero_le _) g9 L hL wS hIS ((hSf 4 2 (by decide)).trans hs) (by omega)) ?_
      rintro _ w7 _ ⟨rfl, hw7, rfl⟩
      rw [hw7, hSf 7 g9 (by decide)]
      show qG none (d + 1) 39 37 [(2, 23), (2, 4), (0, ((scF (w 5) (w 6) (g9 + 1) : Nat) : Int)), (0, ((g9 : Nat) : Int)), l4] [(0, w 7 g9), (2, 24)] wS 142 Q9
      refine qG.blk 2 (pc' := 41) (ls' := [(2, 23), (2, 4), (0, ((scF (w 5) (w 6) (g9 + 1) : Nat) : Int)), (0, ((g9 : Nat) : Int)), l4]) (st' := [(2, wS 23 3), (0, w 7 g9), (2, 24)]) (w' := wS) (n' := 142) rfl ?_
      rw [show wS 23 3 = 29 from (hSf 23 3 (by decide)).trans (zref hI rfl rfl)]
      refine qG.call (t := 103) (na := 3) (sk := 1) (md := 1) (ls1 := [(2, 24), (0, w 7 g9), (2, 29), (9, 0), (9, 0)]) (r1 := []) rfl rfl rfl rfl rfl (K_unseen29 (by omega) (w 7 g9) N hT.1 wS hIS hTS.2.1) ?_
      rintro _ wU _ ⟨rfl, rfl, hRU⟩
      have hIU := hRU.2.2
      have hUf : (∀ q j, ¬ (27 ≤ q ∧ q ≤ 30) → wU q j = w q j) := fun q j a => (hRU.2.1 q j (by omega)).trans (hSf q j a)
      have hU27 : HOLD wU 27 (gz N P M V (scF (w 5) (w 6) L) ((scF (w 5) (w 6) L) - (scF (w 5) (w 6) g9 + dN (w 5 g9) (w 6 g9)))) := fun j hj => by rw [hRU.o (by decide)]; exact hH27 j hj
      have hU29 : HOLD wU 29 (fun j => decide (j < N) && decide (qand (P j) (w 7 g9) = 0)) := fun j hj => by
        rw [show sb wU 29 j = (decide (j < N) && decide (qand (wS 25 j) (w 7 g9) = 0)) from hRU.1 j hj]
        show _ = (decide (j < N) && decide (qand (P j) (w 7 g9) = 0))
        by_cases hjN : j < N
        · rw [hTS.2.2.1 j hjN]
        · rw [decide_eq_false hjN, Bool.false_and, Bool.false_and]
      have hUg : ∀ t, scF (w 5) (w 6) g9 + dN (w 5 g9) (w 6 g9) ≤ t → t < (scF (w 5) (w 6) L) → ∀ j, j < 192 → gb wU t j = gd N P M V (scF (w 5) (w 6) L) t j := fun t a b j hj => by rw [show gb wU t j = gb wS t j from by unfold gb; rw [hRU.2.1 30 _ (by decide)]]; exact hgS t a b j hj
      show qG none (d + 1) 39 44 [(2, 23), (2, 4), (0, ((scF (w 5) (w 6) (g9 + 1) : Nat) : Int)), (0, ((g9 : Nat) : Int)), l4] [] wU 142 Q9
      refine qG.blk 2 (pc' := 46) (ls' := [(2, 23), (2, 4), (0, ((scF (w 5) (w 6) (g9 + 1) : Nat) : Int)), (0, ((g9 : Nat) : Int)), l4]) (st' := [(0, ((g9 : Nat) : Int)), (2, 4)]) (w' := wU) (n' := 142) rfl ?_
      refine qG.call (t := 114) (na := 2) (sk := 1) (md := 1) (ls1 := [(2, 4), (0, ((g9 : Nat) : Int))]) (r1 := []) rfl rfl rfl rfl rfl (K_secs4 (Nat.zero_le _) g9 L hL wU hIU ((hUf 4 2 (by decide)).trans hs) (by omega)) ?_
      rintro _ w7 _ ⟨rfl, hw7, rfl⟩
      rw [hw7, hUf 5 g9 (by decide), hUf 6 g9 (by decide), show (if w 5 g9 = 2 then w 6 g9 else 1) = ((dN (w 5 g9) (w 6 g9) : Nat) : Int) from hdn]
      show qG none (d + 1) 39 49 [(2, 23), (2, 4), (0, ((scF (w 5) (w 6) (g9 + 1) : Nat) : Int)), (0, ((g9 : Nat) : Int)), l4] [(0, ((dN (w 5 g9) (w 6 g9) : Nat) : Int))] wU 142 Q9
      refine qG.blk 1 (pc' := 51) (ls' := [(2, 23), (2, 4), (0, ((scF (w 5) (w 6) (g9 + 1) : Nat) : Int)), (0, ((g9 : Nat) : Int)), (0, ((dN (w 5 g9) (w 6 g9) : Nat) : Int))]) (st' := []) (w' := wU) (n' := 142) rfl ?_
      show qG none (d + 1) 39 51 [(2, 23), (2, 4), (0, ((scF (w 5) (w 6) g9 + dN (w 5 g9) (w 6 g9) : Nat) : Int)), (0, ((g9 : Nat) : Int)), (0, ((dN (w 5 g9) (w 6 g9) : Nat) : Int))] [] wU 142 Q9
      have L51 : ∀ (m9 : Nat) (u : Nat) (wQ : qW), u = m9 → (u ≤ dN (w 5 g9) (w 6 g9) ∧ (∀ q j, ¬ (27 ≤ q ∧ q ≤ 30) → wQ q j = w q j) ∧ yInv zgf zga zra zSp wQ ∧ HOLD wQ 27 (gz N P M V (scF (w 5) (w 6) L) ((scF (w 5) (w 6) L) - (scF (w 5) (w 6) g9 + u))) ∧ HOLD wQ 29 (fun j => decide (j < N) && decide (qand (P j) (w 7 g9) = 0)) ∧ ∀ t, scF (w 5) (w 6) g9 + u ≤ t → t < (scF (w 5) (w 6) L) → ∀ j, j < 192 → gb wQ t j = gd N P M V (scF (w 5) (w 6) L) t j) → qG none (d + 1) 39 51 [(2, 23), (2, 4), (0, ((scF (w 5) (w 6) g9 + u : Nat) : Int)), (0, ((g9 : Nat) : Int)), (0, ((u : Nat) : Int))] [] wQ 142 Q9 := by
        intro m9
        induction m9 using Nat.strongRecOn with
        | ind m9 ih51 =>
        intro u wQ hm51 hI51
        obtain ⟨hud, hQf, hIQ, hQ27, hQ29, hQg⟩ := hI51
        refine qG.blk 1 (pc' := 53) (ls' := [(2, 23), (2, 4), (0, ((scF (w 5) (w 6) g9 + u : Nat) : Int)), (0, ((g9 : Nat) : Int)), (0, ((u : Nat) : Int))]) (st' := [(0, ((u : Nat) : Int))]) (w' := wQ) (n' := 142) rfl ?_
        refine qG.br (P := 0 < ((u : Nat) : Int)) (pc1 := 56) (pc2 := 104) (st1 := []) rfl (fun hu5 => ?_) (fun hu5 => ?_)
        · skip
          obtain ⟨u9, rfl⟩ : ∃ u9, u = u9 + 1 := ⟨u - 1, by omega⟩
          refine qG.blk 1 (pc' := 59) (ls' := [(2, 23), (2, 4), (0, wrp (((scF (w 5) (w 6) g9 + (u9 + 1) : Nat) : Int) + (-1))), (0, ((g9 : Nat) : Int)), (0, ((u9 + 1 : Nat) : Int))]) (st' := []) (w' := wQ) (n' := 142) rfl ?_
          rw [show wrp (((scF (w 5) (w 6) g9 + (u9 + 1) : Nat) : Int) + (-1)) = ((scF (w 5) (w 6) g9 + u9 : Nat) : Int) from by rw [wrp_id (by omega) (by omega)]; omega]
          refine qG.blk 2 (pc' := 63) (ls' := [(2, 23), (2, 4), (0, ((scF (w 5) (w 6) g9 + u9 : Nat) : Int)), (0, ((g9 : Nat) : Int)), (0, ((u9 + 1 : Nat) : Int))]) (st' := [(2, wQ 23 1)]) (w' := wQ) (n' := 142) rfl ?_
          rw [show wQ 23 1 = 27 from (hQf 23 1 (by decide)).trans (zref hI rfl rfl)]
          refine qG.blk 2 (pc' := 67) (ls' := [(2, 23), (2, 4), (0, ((scF (w 5) (w 6) g9 + u9 : Nat) : Int)), (0, ((g9 : Nat) : Int)), (0, ((u9 + 1 : Nat) : Int))]) (st' := [(2, wQ 23 3), (2, 27)]) (w' := wQ) (n' := 142) rfl ?_
          rw [show wQ 23 3 = 29 from (hQf 23 3 (by decide)).trans (zref hI rfl rfl)]
          refine qG.blk 2 (pc' := 71) (ls' := [(2, 23), (2, 4), (0, ((scF (w 5) (w 6) g9 + u9 : Nat) : Int)), (0, ((g9 : Nat) : Int)), (0, ((u9 + 1 : Nat) : Int))]) (st' := [(2, wQ 23 2), (2, 29), (2, 27)]) (w' := wQ) (n' := 142) rfl ?_
          rw [show wQ 23 2 = 28 from (hQf 23 2 (by decide)).trans (zref hI rfl rfl)]
          refine qG.call (t := 49) (na := 3) (sk := 0) (md := 0) (ls1 := [(2, 27), (2, 29), (2, 28), (9, 0)]) (r1 := []) rfl rfl rfl rfl rfl (K_keep27_29_28 (by omega) wQ hIQ) ?_
          rintro _ wA _ ⟨rfl, rfl, hRA⟩
          have hIA := hRA.2.2
          have hAf : (∀ q j, ¬ (27 ≤ q ∧ q ≤ 30) → wA q j = w q j) := fun q j a => (hRA.2.1 q j (by omega)).trans (hQf q j a)
          have hA28 : HOLD wA 28 (gd N P M V (scF (w 5) (w 6) L) (scF (w 5) (w 6) g9 + u9)) := fun j hj => by
            rw [hRA.1 j hj]
            show (sb wQ 27 j && sb wQ 29 j) = _
            rw [hQ27 j hj, show sb wQ 29 j = (decide (j < N) && decide (qand (P j) (w 7 g9) = 0)) from hQ29 j hj]
            unfold gd
            rw [hVV g9 (by omega) u9 (by omega), Nat.add_assoc]
            by_cases hjN : j < N
            · rw [decide_eq_true hjN, Bool.true_and]
            · rw [gz_N hjN]; rfl
          show qG none (d + 1) 39 74 [(2, 23), (2, 4), (0, ((scF (w 5) (w 6) g9 + u9 : Nat) : Int)), (0, ((g9 : Nat) : Int)), (0, ((u9 + 1 : Nat) : Int))] [] wA 142 Q9
          refine qG.blk 4 (pc' := 80) (ls' := [(2, 23), (2, 4), (0, ((scF (w 5) (w 6) g9 + u9 : Nat) : Int)), (0, ((g9 : Nat) : Int)), (0, ((u9 + 1 : Nat) : Int))]) (st' := [(2, wA 23 2), (0, ((scF (w 5) (w 6) g9 + u9 : Nat) : Int)), (2, 23)]) (w' := wA) (n' := 142) rfl ?_
          rw [show wA 23 2 = 28 from (hAf 23 2 (by decide)).trans (zref hI rfl rfl)]
          refine qG.call (t := 40) (na := 3) (sk := 1) (md := 1) (ls1 := [(2, 23), (0, ((scF (w 5) (w 6) g9 + u9 : Nat) : Int)), (2, 28), (9, 0), (9, 0)]) (r1 := []) rfl rfl rfl rfl rfl (K_wrGood (by omega) (scF (w 5) (w 6) g9 + u9) (by omega) wA hIA) ?_
          rintro _ wB _ ⟨rfl, rfl, hRB⟩
          have hIB := hRB.2.2
          have hBf : (∀ q j, ¬ (27 ≤ q ∧ q ≤ 30) → wB q j = w q j) := fun q j a => (hRB.2.1 q j (by omega)).trans (hAf q j a)
          have hB28 : HOLD wB 28 (gd N P M V (scF (w 5) (w 6) L) (scF (w 5) (w 6) g9 + u9)) := fun j hj => by rw [show sb wB 28 j = sb wA 28 j from by unfold sb; rw [hRB.2.1 28 _ (by decide)]]; exact hA28 j hj
          have hTB := hT.cg (w1 := wB) (fun q j h => hBf q j (by omega))
          show qG none (d + 1) 39 83 [(2, 23), (2, 4), (0, ((scF (w 5) (w 6) g9 + u9 : Nat) : Int)), (0, ((g9 : Nat) : Int)), (0, ((u9 + 1 : Nat) : Int))] [] wB 142 Q9
          refine qG.blk 2 (pc' := 87) (ls' := [(2, 23), (2, 4), (0, ((scF (w 5) (w 6) g9 + u9 : Nat) : Int)), (0, ((g9 : Nat) : Int)), (0, ((u9 + 1 : Nat) : Int))]) (st' := [(2, wB 23 0)]) (w' := wB) (n' := 142) rfl ?_
          rw [show wB 23 0 = 24 from (hBf 23 0 (by decide)).trans (zref hI rfl rfl)]
          refine qG.blk 2 (pc' := 91) (ls' := [(2, 23), (2, 4), (0, ((scF (w 5) (w 6) g9 + u9 : Nat) : Int)), (0, ((g9 : Nat) : Int)), (0, ((u9 + 1 : Nat) : Int))]) (st' := [(2, wB 23 2), (2, 24)]) (w' := wB) (n' := 142) rfl ?_
          rw [show wB 23 2 = 28 from (hBf 23 2 (by decide)).trans (zref hI rfl rfl)]
          refine qG.blk 2 (pc' := 95) (ls' := [(2, 23), (2, 4), (0, ((scF (w 5) (w 6) g9 + u9 : Nat) : Int)), (0, ((g9 : Nat) : Int)), (0, ((u9 + 1 : Nat) : Int))]) (st' := [(2, wB 23 1), (2, 28), (2, 24)]) (w' := wB) (n' := 142) rfl ?_
          rw [show wB 23 1 = 27 from (hBf 23 1 (by decide)).trans (zref hI rfl rfl)]
          refine qG.call (t := 101) (na := 3) (sk := 1) (md := 1) (ls1 := [(2, 24), (2, 28), (2, 27), (9, 0), (9, 0), (9, 0), (9, 0), (9, 0), (9, 0), (9, 0), (9, 0), (9, 0), (9, 0), (9, 0)]) (r1 := []) rfl rfl rfl rfl rfl (K_spread28_27 (by omega) wB hIB) ?_
          rintro _ wC _ ⟨rfl, rfl, hRC⟩
          have hIC := hRC.2.2
          have hCf : (∀ q j, ¬ (27 ≤ q ∧ q ≤ 30) → wC q j = w q j) := fun q j a => (hRC.2.1 q j (by omega)).trans (hBf q j a)
          have hC27 : HOLD wC 27 (gz N P M V (scF (w 5) (w 6) L) ((scF (w 5) (w 6) L) - (scF (w 5) (w 6) g9 + u9))) := fun j hj => by
            rw [show sb wC 27 j = spF wB 28 j 192 from hRC.1 j hj, hB28.sp hTB (fun j hj => by unfold gd; rw [gz_N hj]; rfl) hj, gz_t (by omega)]
            by_cases hjN : j < N
            · rw [decide_eq_true hjN, Bool.true_and, Bool.true_and, Bool.eq_iff_iff, exN_iff, exN_iff]
              constructor <;> (rintro ⟨i, a, b⟩; refine ⟨i, a, ?_⟩; simp only [hsy i j a hjN] at *; exact b)
            · rw [decide_eq_false hjN, Bool.false_and, Bool.false_and]
          have hC29 : HOLD wC 29 (fun j => decide (j < N) && decide (qand (P j) (w 7 g9) = 0)) := fun j hj => by rw [hRC.o (by decide), show sb wB 29 j = sb wQ 29 j from by unfold sb; rw [hRB.2.1 29 _ (by decide), hRA.2.1 29 _ (by decide)]]; exact hQ29 j hj
          have hCg : ∀ t, scF (w 5) (w 6) g9 + u9 ≤ t → t < (scF (w 5) (w 6) L) → ∀ j, j < 192 → gb wC t j = gd N P M V (scF (w 5) (w 6) L) t j := fun t a b j hj => by
            rw [show gb wC t j = gb wB t j from by unfold gb; rw [hRC.2.1 30 _ (by decide)], hRB.1 t j hj]
            by_cases e : t = scF (w 5) (w 6) g9 + u9
            · rw [if_pos e, e]; exact hA28 j hj
            · rw [if_neg e, show gb wA t j = gb wQ t j from by unfold gb; rw [hRA.2.1 30 _ (by decide)]]; exact hQg t (by omega) b j hj
          show qG none (d + 1) 39 98 [(2, 23), (2, 4), (0, ((scF (w 5) (w 6) g9 + u9 : Nat) : Int)), (0, ((g9 : Nat) : Int)), (0, ((u9 + 1 : Nat) : Int))] [] wC 142 Q9
          refine qG.blk 1 (pc' := 101) (ls' := [(2, 23), (2, 4), (0, ((scF (w 5) (w 6) g9 + u9 : Nat) : Int)), (0, ((g9 : Nat) : Int)), (0, wrp (((u9 + 1 : Nat) : Int) + (-1)))]) (st' := []) (w' := wC) (n' := 142) rfl ?_
          rw [show wrp (((u9 + 1 : Nat) : Int) + (-1)) = ((u9 : Nat) : Int) from by rw [wrp_id (by omega) (by omega)]; omega]
          refine qG.blk 1 (pc' := 51) (ls' := [(2, 23), (2, 4), (0, ((scF (w 5) (w 6) g9 + u9 : Nat) : Int)), (0, ((g9 : Nat) : Int)), (0, ((u9 : Nat) : Int))]) (st' := []) (w' := wC) (n' := 142) rfl ?_
          exact ih51 _ (by omega) (u9) (wC) rfl (⟨by omega, hCf, hIC, hC27, hC29, hCg⟩)
        · skip
          refine qG.blk 1 (pc' := 107) (ls' := [(2, 23), (2, 4), (0, ((scF (w 5) (w 6) g9 + u : Nat) : Int)), (0, wrp (((g9 : Nat) : Int) + (-1))), (0, ((u : Nat) : Int))]) (st' := []) (w' := wQ) (n' := 142) rfl ?_
          rw [show wrp (((g9 : Nat) : Int) + (-1)) = ((g9 : Nat) : Int) - 1 from by rw [wrp_id (by omega) (by omega)]; omega]
          refine qG.blk 1 (pc' := 24) (ls' := [(2, 23), (2, 4), (0, ((scF (w 5) (w 6) g9 + u : Nat) : Int)), (0, ((g9 : Nat) : Int) - 1), (0, ((u : Nat) : Int))]) (st' := []) (w' := wQ) (n' := 142) rfl ?_
          have hu0 : u = 0 := by omega
          subst hu0
          exact ih24 _ (by omega) g9 wQ _ rfl ⟨by omega, hQf, hIQ, hQ27, hQg⟩
      exact L51 _ (dN (w 5 g9) (w 6 g9)) (wU) rfl (⟨Nat.le_refl _, hUf, hIU, hU27, hU29, hUg⟩)
  exact L24 _ (L) (w1) ((9, 0)) rfl (⟨Nat.le_refl _, h1f, hI1, by rw [Nat.sub_self]; exact h127, fun t a b => absurd b (by omega)⟩)
theorem K_fGood79 {d : Nat} (hd : 4 ≤ d) (N : Nat) (P : Nat → Int) (M : Nat → Nat → Bool) (V : Nat → Int) (hsy : ∀ i j, i < N → j < N → M i j = M j i) (L : Nat) (hL : L ≤ 40) (w : qW) (hI : yInv zgf zga zra zSp w) (hs : w 79 2 = (L : Int)) (hKW : KNw (w 80) (w 81) L) (hT : CTB N P M w) (hVV : ∀ g, g < L → ∀ u, u < dN (w 80 g) (w 81 g) → V (scF (w 80) (w 81) g + u) = w 82 g) : qG none d 39 0 [(2, 23), (2, 79), (9, 0), (9, 0), (9, 0)] [] w 142 (fun (r : qV) (w1 : qW) (n1 : Nat) => r = (9, 0) ∧ n1 = 142 ∧ yInv zgf zga zra zSp w1 ∧ (∀ q j, ¬ (27 ≤ q ∧ q ≤ 30) → w1 q j = w q j) ∧ HOLD w1 27 (gz N P M V (scF (w 80) (w 81) L) (scF (w 80) (w 81) L)) ∧ ∀ t, t < (scF (w 80) (w 81) L) → ∀ j, j < 192 → gb w1 t j = gd N P M V (scF (w 80) (w 81) L) t j) := by
  generalize hQ9 : (fun (r : qV) (w1 : qW) (n1 : Nat) => r = (9, 0) ∧ n1 = 142 ∧ yInv zgf zga zra zSp w1 ∧ (∀ q j, ¬ (27 ≤ q ∧ q ≤ 30) → w1 q j = w q j) ∧ HOLD w1 27 (gz N P M V (scF (w 80) (w 81) L) (scF (w 80) (w 81) L)) ∧ ∀ t, t < (scF (w 80) (w 81) L) → ∀ j, j < 192 → gb w1 t j = gd N P M V (scF (w 80) (w 81) L) t j) = Q9
  obtain ⟨d, rfl⟩ : ∃ d9, d = d9 + 1 := ⟨d - 1, by omega⟩
  refine qG.blk 2 (pc' := 4) (ls' := [(2, 23), (2, 79), (9, 0), (9, 0), (9, 0)]) (st' := [(2, w 23 0)]) (w' := w) (n' := 142) rfl ?_
  rw [show w 23 0 = 24 from zref hI rfl rfl]
  refine qG.blk 3 (pc' := 9) (ls' := [(2, 23), (2, 79), (9, 0), (9, 0), (9, 0)]) (st' := [(2, w 23 1), (0, 0), (2, 24)]) (w' := w) (n' := 142) rfl ?_
  rw [show w 23 1 = 27 from zref hI rfl rfl]
  refine qG.call (t := 103) (na := 3) (sk := 1) (md := 1) (ls1 := [(2, 24), (0, 0), (2, 27), (9, 0), (9, 0)]) (r1 := []) rfl rfl rfl rfl rfl (K_unseen27 (by omega) 0 N hT.1 w hI hT.2.1) ?_
  rintro _ w1 _ ⟨rfl, rfl, hR1⟩
  have h1f : (∀ q j, ¬ (27 ≤ q ∧ q ≤ 30) → w1 q j = w q j) := fun q j a => hR1.2.1 q j (by omega)
  have hI1 := hR1.2.2
  have h127 : HOLD w1 27 (gz N P M V (scF (w 80) (w 81) L) 0) := fun j hj => by rw [show sb w1 27 j = (decide (j < N) && decide (qand (w 25 j) 0 = 0)) from hR1.1 j hj, qand_z0, decide_eq_true rfl, Bool.and_true]; rfl
  show qG none (d + 1) 39 12 [(2, 23), (2, 79), (9, 0), (9, 0), (9, 0)] [] w1 142 Q9
  refine qG.blk 1 (pc' := 13) (ls' := [(2, 23), (2, 79), (9, 0), (9, 0), (9, 0)]) (st' := [(2, 79)]) (w' := w1) (n' := 142) rfl ?_
  refine qG.call (t := 116) (na := 1) (sk := 1) (md := 1) (ls1 := [(2, 79), (9, 0), (9, 0)]) (r1 := []) rfl rfl rfl rfl rfl (K_allSec79 (by omega) L hL w1 hI1 ((h1f 79 2 (by decide)).trans hs) (by rw [show w1 80 = w 80 from funext fun j => h1f _ j (by decide), show w1 81 = w 81 from funext fun j => h1f _ j (by decide)]; exact hKW)) ?_
  rintro _ w7 _ ⟨rfl, hw7, rfl⟩
  rw [hw7, show w1 80 = w 80 from funext fun j => h1f _ j (by decide), show w1 81 = w 81 from funext fun j => h1f _ j (by decide)]
  show qG none (d + 1) 39 16 [(2, 23), (2, 79), (9, 0), (9, 0), (9, 0)] [(0, ((scF (w 80) (w 81) L : Nat) : Int))] w1 142 Q9
  refine qG.blk 2 (pc' := 18) (ls' := [(2, 23), (2, 79), (0, ((scF (w 80) (w 81) L : Nat) : Int)), (9, 0), (9, 0)]) (st' := [(2, 79)]) (w' := w1) (n' := 142) rfl ?_
  refine qG.call (t := 110) (na := 1) (sk := 1) (md := 1) (ls1 := [(2, 79)]) (r1 := []) rfl rfl rfl rfl rfl (K_stepC79 (Nat.zero_le _) w1 (x := ((L : Nat) : Int)) ((h1f 79 2 (by decide)).trans hs)) ?_
  rintro _ w7 _ ⟨rfl, hw7, rfl⟩
  rw [hw7]
  show qG none (d + 1) 39 21 [(2, 23), (2, 79), (0, ((scF (w 80) (w 81) L : Nat) : Int)), (9, 0), (9, 0)] [(0, ((L : Nat) : Int))] w1 142 Q9
  refine qG.blk 2 (pc' := 23) (ls' := [(2, 23), (2, 79), (0, ((scF (w 80) (w 81) L : Nat) : Int)), (9, 0), (9, 0)]) (st' := [(0, wrp (((L : Nat) : Int) - 1))]) (w' := w1) (n' := 142) rfl ?_
  rw [show wrp (((L : Nat) : Int) - 1) = ((L : Nat) : Int) - 1 from wrp_id (by omega) (by omega)]
  refine qG.blk 1 (pc' := 24) (ls' := [(2, 23), (2, 79), (0, ((scF (w 80) (w 81) L : Nat) : Int)), (0, ((L : Nat) : Int) - 1), (9, 0)]) (st' := []) (w' := w1) (n' := 142) rfl ?_
  have L24 : ∀ (m9 : Nat) (g : Nat) (wS : qW) (l4 : qV), g = m9 → (g ≤ L ∧ (∀ q j, ¬ (27 ≤ q ∧ q ≤ 30) → wS q j = w q j) ∧ yInv zgf zga zra zSp wS ∧ HOLD wS 27 (gz N P M V (scF (w 80) (w 81) L) ((scF (w 80) (w 81) L) - scF (w 80) (w 81) g)) ∧ ∀ t, scF (w 80) (w 81) g ≤ t → t < (scF (w 80) (w 81) L) → ∀ j, j < 192 → gb wS t j = gd N P M V (scF (w 80) (w 81) L) t j) → qG none (d + 1) 39 24 [(2, 23), (2, 79), (0, ((scF (w 80) (w 81) g : Nat) : Int)), (0, ((g : Nat) : Int) - 1), l4] [] wS 142 Q9 := by
    intro m9
    induction m9 using Nat.strongRecOn with
    | ind m9 ih24 =>
    intro g wS l4 hm24 hI24
    obtain ⟨hgL, hSf, hIS, hH27, hgS⟩ := hI24
    have hTS := hT.cg (w1 := wS) (fun q j h => hSf q j (by omega))
    refine qG.blk 1 (pc' := 25) (ls' := [(2, 23), (2, 79), (0, ((scF (w 80) (w 81) g : Nat) : Int)), (0, ((g : Nat) : Int) - 1), l4]) (st' := [(0, ((g : Nat) : Int) - 1)]) (w' := wS) (n' := 142) rfl ?_
    refine qG.br (P := ((g : Nat) : Int) - 1 < 0) (pc1 := 110) (pc2 := 28) (st1 := []) rfl (fun hg0 => ?_) (fun hg0 => ?_)
    · skip
      refine qG.retv rfl rfl ?_
      subst hQ9
      have hg00 : g = 0 := by omega
      subst hg00
      exact ⟨rfl, rfl, hIS, hSf, hH27, fun t b j hj => hgS t (Nat.zero_le _) b j hj⟩
    · skip
      obtain ⟨g9, rfl⟩ : ∃ g9, g = g9 + 1 := ⟨g - 1, by omega⟩
      rw [show ((g9 + 1 : Nat) : Int) - 1 = ((g9 : Nat) : Int) from by omega]
      have hdn : (if w 80 g9 = 2 then w 81 g9 else 1) = ((dN (w 80 g9) (w 81 g9) : Nat) : Int) := by have z := sc_s hKW (show g9 < L by omega); have y : ((scF (w 80) (w 81) (g9 + 1) : Nat) : Int) = ((scF (w 80) (w 81) g9 : Nat) : Int) + ((dN (w 80 g9) (w 81 g9) : Nat) : Int) := rfl; omega
      have hd20 : dN (w 80 g9) (w 81 g9) ≤ 20 := by have q := hKW g9 (by omega); by_cases y : w 80 g9 = 2; rw [if_pos y] at hdn; have := q y; omega; rw [if_neg y] at hdn; omega
      have hsc := sc_le hKW g9 (by omega)
      have hsL := scF_le (K := w 80) (N := w 81) (show g9 + 1 ≤ L by omega)
      have hs1 : scF (w 80) (w 81) (g9 + 1) = scF (w 80) (w 81) g9 + dN (w 80 g9) (w 81 g9) := rfl
      refine qG.blk 2 (pc' := 32) (ls' := [(2, 23), (2, 79), (0, ((scF (w 80) (w 81) (g9 + 1) : Nat) : Int)), (0, ((g9 : Nat) : Int)), l4]) (st' := [(2, wS 23 0)]) (w' := wS) (n' := 142) rfl ?_
      rw [show wS 23 0 = 24 from (hSf 23 0 (by decide)).trans (zref hI rfl rfl)]
      refine qG.blk 2 (pc' := 34) (ls' := [(2, 23), (2, 79), (0, ((scF (w 80) (w 81) (g9 + 1) : Nat) : Int)), (0, ((g9 : Nat) : Int)), l4]) (st' := [(0, ((g9 : Nat) : Int)), (2, 79), (2, 24)]) (w' := wS) (n' := 142) rfl ?_
      refine qG.call (t := 115) (na := 2) (sk := 1) (md := 1) (ls1 := [(2, 79), (0, ((g9 : Nat) : Int))]) (r1 := [(2, 24)]) rfl rfl rfl rfl rfl (K_vwOf79 (Nat.zero_le _) g9 L hL wS hIS ((hSf 79 2 (by decide)).trans hs) (by omega)) ?_
      rintro _ w7 _ ⟨rfl, hw7, rfl⟩
      rw [hw7, hSf 82 g9 (by decide)]
      show qG none (d + 1) 39 37 [(2, 23), (2, 79), (0, ((scF (w 80) (w 81) (g9 + 1) : Nat) : Int)), (0, ((g9 : Nat) : Int)), l4] [(0, w 82 g9), (2, 24)] wS 142 Q9
      refine qG.blk 2 (pc' := 41) (ls' := [(2, 23), (2, 79), (0, ((scF (w 80) (w 81) (g9 + 1) : Nat) : Int)), (0, ((g9 : Nat) : Int)), l4]) (st' := [(2, wS 23 3), (0, w 82 g9), (2, 24)]) (w' := wS) (n' := 142) rfl ?_
      rw [show wS 23 3 = 29 from (hSf 23 3 (by decide)).trans (zref hI rfl rfl)]
      refine qG.call (t := 103) (na := 3) (sk := 1) (md := 1) (ls1 := [(2, 24), (0, w 82 g9), (2, 29), (9, 0), (9, 0)]) (r1 := []) rfl rfl rfl rfl rfl (K_unseen29 (by omega) (w 82 g9) N hT.1 wS hIS hTS.2.1) ?_
      rintro _ wU _ ⟨rfl, rfl, hRU⟩
      have hIU := hRU.2.2
      have hUf : (∀ q j, ¬ (27 ≤ q ∧ q ≤ 30) → wU q j = w q j) := fun q j a => (hRU.2.1 q j (by omega)).trans (hSf q j a)
      have hU27 : HOLD wU 27 (gz N P M V (scF (w 80) (w 81) L) ((scF (w 80) (w 81) L) - (scF (w 80) (w 81) g9 + dN (w 80 g9) (w 81 g9)))) := fun j hj => by rw [hRU.o (by decide)]; exact hH27 j hj
      have hU29 : HOLD wU 29 (fun j => decide (j < N) && decide (qand (P j) (w 82 g9) = 0)) := fun j hj => by
        rw [show sb wU 29 j = (decide (j < N) && decide (qand (wS 25 j) (w 82 g9) = 0)) from hRU.1 j hj]
        show _ = (decide (j < N) && decide (qand (P j) (w 82 g9) = 0))
        by_cases hjN : j < N
        · rw [hTS.2.2.1 j hjN]
        · rw [decide_eq_false hjN, Bool.false_and, Bool.false_and]
      have hUg : ∀ t, scF (w 80) (w 81) g9 + dN (w 80 g9) (w 81 g9) ≤ t → t < (scF (w 80) (w 81) L) → ∀ j, j < 192 → gb wU t j = gd N P M V (scF (w 80) (w 81) L) t j := fun t a b j hj => by rw [show gb wU t j = gb wS t j from by unfold gb; rw [hRU.2.1 30 _ (by decide)]]; exact hgS t a b j hj
      show qG none (d + 1) 39 44 [(2, 23), (2, 79), (0, ((scF (w 80) (w 81) (g9 + 1) : Nat) : Int)), (0, ((g9 : Nat) : Int)), l4] [] wU 142 Q9
      refine qG.blk 2 (pc' := 46) (ls' := [(2, 23), (2, 79), (0, ((scF (w 80) (w 81) (g9 + 1) : Nat) : Int)), (0, ((g9 : Nat) : Int)), l4]) (st' := [(0, ((g9 : Nat) : Int)), (2, 79)]) (w' := wU) (n' := 142) rfl ?_
      refine qG.call (t := 114) (na := 2) (sk := 1) (md := 1) (ls1 := [(2, 79), (0, ((g9 : Nat) : Int))]) (r1 := []) rfl rfl rfl rfl rfl (K_secs79 (Nat.zero_le _) g9 L hL wU hIU ((hUf 79 2 (by decide)).trans hs) (by omega)) ?_
      rintro _ w7 _ ⟨rfl, hw7, rfl⟩
      rw [hw7, hUf 80 g9 (by decide), hUf 81 g9 (by decide), show (if w 80 g9 = 2 then w 81 g9 else 1) = ((dN (w 80 g9) (w 81 g9) : Nat) : Int) from hdn]
      show qG none (d + 1) 39 49 [(2, 23), (2, 79), (0, ((scF (w 80) (w 81) (g9 + 1) : Nat) : Int)), (0, ((g9 : Nat) : Int)), l4] [(0, ((dN (w 80 g9) (w 81 g9) : Nat) : Int))] wU 142 Q9
      refine qG.blk 1 (pc' := 51) (ls' := [(2, 23), (2, 79), (0, ((scF (w 80) (w 81) (g9 + 1) : Nat) : Int)), (0, ((g9 : Nat) : Int)), (0, ((dN (w 80 g9) (w 81 g9) : Nat) : Int))]) (st' := []) (w' := wU) (n' := 142) rfl ?_
      show qG none (d + 1) 39 51 [(2, 23), (2, 79), (0, ((scF (w 80) (w 81) g9 + dN (w 80 g9) (w 81 g9) : Nat) : Int)), (0, ((g9 : Nat) : Int)), (0, ((dN (w 80 g9) (w 81 g9) : Nat) : Int))] [] wU 142 Q9
      have L51 : ∀ (m9 : Nat) (u : Nat) (wQ : qW), u = m9 → (u ≤ dN (w 80 g9) (w 81 g9) ∧ (∀ q j, ¬ (27 ≤ q ∧ q ≤ 30) → wQ q j = w q j) ∧ yInv zgf zga zra zSp wQ ∧ HOLD wQ 27 (gz N P M V (scF (w 80) (w 81) L) ((scF (w 80) (w 81) L) - (scF (w 80) (w 81) g9 + u))) ∧ HOLD wQ 29 (fun j => decide (j < N) && decide (qand (P j) (w 82 g9) = 0)) ∧ ∀ t, scF (w 80) (w 81) g9 + u ≤ t → t < (scF (w 80) (w 81) L) → ∀ j, j < 192 → gb wQ t j = gd N P M V (scF (w 80) (w 81) L) t j) → qG none (d + 1) 39 51 [(2, 23), (2, 79), (0, ((scF (w 80) (w 81) g9 + u : Nat) : Int)), (0, ((g9 : Nat) : Int)), (0, ((u : Nat) : Int))] [] wQ 142 Q9 := by
        intro m9
        induction m9 using Nat.strongRecOn with
        | ind m9 ih51 =>
        intro u wQ hm51 hI51
        obtain ⟨hud, hQf, hIQ, hQ27, hQ29, hQg⟩ := hI51
        refine qG.blk 1 (pc' := 53) (ls' := [(2, 23), (2, 79), (0, ((scF (w 80) (w 81) g9 + u : Nat) : Int)), (0, ((g9 : Nat) : Int)), (0, ((u : Nat) : Int))]) (st' := [(0, ((u : Nat) : Int))]) (w' := wQ) (n' := 142) rfl ?_
        refine qG.br (P := 0 < ((u : Nat) : Int)) (pc1 := 56) (pc2 := 104) (st1 := []) rfl (fun hu5 => ?_) (fun hu5 => ?_)
        · skip
          obtain ⟨u9, rfl⟩ : ∃ u9, u = u9 + 1 := ⟨u - 1, by omega⟩
          refine qG.blk 1 (pc' := 59) (ls' := [(2, 23), (2, 79), (0, wrp (((scF (w 80) (w 81) g9 + (u9 + 1) : Nat) : Int) + (-1))), (0, ((g9 : Nat) : Int)), (0, ((u9 + 1 : Nat) : Int))]) (st' := []) (w' := wQ) (n' := 142) rfl ?_
          rw [show wrp (((scF (w 80) (w 81) g9 + (u9 + 1) : Nat) : Int) + (-1)) = ((scF (w 80) (w 81) g9 + u9 : Nat) : Int) from by rw [wrp_id (by omega) (by omega)]; omega]
          refine qG.blk 2 (pc' := 63) (ls' := [(2, 23), (2, 79), (0, ((scF (w 80) (w 81) g9 + u9 : Nat) : Int)), (0, ((g9 : Nat) : Int)), (0, ((u9 + 1 : Nat) : Int))]) (st' := [(2, wQ 23 1)]) (w' := wQ) (n' := 142) rfl ?_
          rw [show wQ 23 1 = 27 from (hQf 23 1 (by decide)).trans (zref hI rfl rfl)]
          refine qG.blk 2 (pc' := 67) (ls' := [(2, 23), (2, 79), (0, ((scF (w 80) (w 81) g9 + u9 : Nat) : Int)), (0, ((g9 : Nat) : Int)), (0, ((u9 + 1 : Nat) : Int))]) (st' := [(2, wQ 23 3), (2, 27)]) (w' := wQ) (n' := 142) rfl ?_
          rw [show wQ 23 3 = 29 from (hQf 23 3 (by decide)).trans (zref hI rfl rfl)]
          refine qG.blk 2 (pc' := 71) (ls' := [(2, 23), (2, 79), (0, ((scF (w 80) (w 81) g9 + u9 : Nat) : Int)), (0, ((g9 : Nat) : Int)), (0, ((u9 + 1 : Nat) : Int))]) (st' := [(2, wQ 23 2), (2, 29), (2, 27)]) (w' := wQ) (n' := 142) rfl ?_
          rw [show wQ 23 2 = 28 from (hQf 23 2 (by decide)).trans (zref hI rfl rfl)]
          refine qG.call (t := 49) (na := 3) (sk := 0) (md := 0) (ls1 := [(2, 27), (2, 29), (2, 28), (9, 0)]) (r1 := []) rfl rfl rfl rfl rfl (K_keep27_29_28 (by omega) wQ hIQ) ?_
          rintro _ wA _ ⟨rfl, rfl, hRA⟩
          have hIA := hRA.2.2
          have hAf : (∀ q j, ¬ (27 ≤ q ∧ q ≤ 30) → wA q j = w q j) := fun q j a => (hRA.2.1 q j (by omega)).trans (hQf q j a)
          have hA28 : HOLD wA 28 (gd N P M V (scF (w 80) (w 81) L) (scF (w 80) (w 81) g9 + u9)) := fun j hj => by
            rw [hRA.1 j hj]
            show (sb wQ 27 j && sb wQ 29 j) = _
            rw [hQ27 j hj, show sb wQ 29 j = (decide (j < N) && decide (qand (P j) (w 82 g9) = 0)) from hQ29 j hj]
            unfold gd
            rw [hVV g9 (by omega) u9 (by omega), Nat.add_assoc]
            by_cases hjN : j < N
            · rw [decide_eq_true hjN, Bool.true_and]
            · rw [gz_N hjN]; rfl
          show qG none (d + 1) 39 74 [(2, 23), (2, 79), (0, ((scF (w 80) (w 81) g9 + u9 : Nat) : Int)), (0, ((g9 : Nat) : Int)), (0, ((u9 + 1 : Nat) : Int))] [] wA 142 Q9
          refine qG.blk 4 (pc' := 80) (ls' := [(2, 23), (2, 79), (0, ((scF (w 80) (w 81) g9 + u9 : Nat) : Int)), (0, ((g9 : Nat) : Int)), (0, ((u9 + 1 : Nat) : Int))]) (st' := [(2, wA 23 2), (0, ((scF (w 80) (w 81) g9 + u9 : Nat) : Int)), (2, 23)]) (w' := wA) (n' := 142) rfl ?_
          rw [show wA 23 2 = 28 from (hAf 23 2 (by decide)).trans (zref hI rfl rfl)]
          refine qG.call (t := 40) (na := 3) (sk := 1) (md := 1) (ls1 := [(2, 23), (0, ((scF (w 80) (w 81) g9 + u9 : Nat) : Int)), (2, 28), (9, 0), (9, 0)]) (r1 := []) rfl rfl rfl rfl rfl (K_wrGood (by omega) (scF (w 80) (w 81) g9 + u9) (by omega) wA hIA) ?_
          rintro _ wB _ ⟨rfl, rfl, hRB⟩
          have hIB := hRB.2.2
          have hBf : (∀ q j, ¬ (27 ≤ q ∧ q ≤ 30) → wB q j = w q j) := fun q j a => (hRB.2.1 q j (by omega)).trans (hAf q j a)
          have hB28 : HOLD wB 28 (gd N P M V (scF (w 80) (w 81) L) (scF (w 80) (w 81) g9 + u9)) := fun j hj => by rw [show sb wB 28 j = sb wA 28 j from by unfold sb; rw [hRB.2.1 28 _ (by decide)]]; exact hA28 j hj
          have hTB := hT.cg (w1 := wB) (fun q j h => hBf q j (by omega))
          show qG none (d + 1) 39 83 [(2, 23), (2, 79), (0, ((scF (w 80) (w 81) g9 + u9 : Nat) : Int)), (0, ((g9 : Nat) : Int)), (0, ((u9 + 1 : Nat) : Int))] [] wB 142 Q9
          refine qG.blk 2 (pc' := 87) (ls' := [(2, 23), (2, 79), (0, ((scF (w 80) (w 81) g9 + u9 : Nat) : Int)), (0, ((g9 : Nat) : Int)), (0, ((u9 + 1 : Nat) : Int))]) (st' := [(2, wB 23 0)]) (w' := wB) (n' := 142) rfl ?_
          rw [show wB 23 0 = 24 from (hBf 23 0 (by decide)).trans (zref hI rfl rfl)]
          refine qG.blk 2 (pc' := 91) (ls' := [(2, 23), (2, 79), (0, ((scF (w 80) (w 81) g9 + u9 : Nat) : Int)), (0, ((g9 : Nat) : Int)), (0, ((u9 + 1 : Nat) : Int))]) (st' := [(2, wB 23 2), (2, 24)]) (w' := wB) (n' := 142) rfl ?_
          rw [show wB 23 2 = 28 from (hBf 23 2 (by decide)).trans (zref hI rfl rfl)]
          refine qG.blk 2 (pc' := 95) (ls' := [(2, 23), (2, 79), (0, ((scF (w 80) (w 81) g9 + u9 : Nat) : Int)), (0, ((g9 : Nat) : Int)), (0, ((u9 + 1 : Nat) : Int))]) (st' := [(2, wB 23 1), (2, 28), (2, 24)]) (w' := wB) (n' := 142) rfl ?_
          rw [show wB 23 1 = 27 from (hBf 23 1 (by decide)).trans (zref hI rfl rfl)]
          refine qG.call (t := 101) (na := 3) (sk := 1) (md := 1) (ls1 := [(2, 24), (2, 28), (2, 27), (9, 0), (9, 0), (9, 0), (9, 0), (9, 0), (9, 0), (9, 0), (9, 0), (9, 0), (9, 0), (9, 0)]) (r1 := []) rfl rfl rfl rfl rfl (K_spread28_27 (by omega) wB hIB) ?_
          rintro _ wC _ ⟨rfl, rfl, hRC⟩
          have hIC := hRC.2.2
          have hCf : (∀ q j, ¬ (27 ≤ q ∧ q ≤ 30) → wC q j = w q j) := fun q j a => (hRC.2.1 q j (by omega)).trans (hBf q j a)
          have hC27 : HOLD wC 27 (gz N P M V (scF (w 80) (w 81) L) ((scF (w 80) (w 81) L) - (scF (w 80) (w 81) g9 + u9))) := fun j hj => by
            rw [show sb wC 27 j = spF wB 28 j 192 from hRC.1 j hj, hB28.sp hTB (fun j hj => by unfold gd; rw [gz_N hj]; rfl) hj, gz_t (by omega)]
            by_cases hjN : j < N
            · rw [decide_eq_true hjN, Bool.true_and, Bool.true_and, Bool.eq_iff_iff, exN_iff, exN_iff]
              constructor <;> (rintro ⟨i, a, b⟩; refine ⟨i, a, ?_⟩; simp only [hsy i j a hjN] at *; exact b)
            · rw [decide_eq_false hjN, Bool.false_and, Bool.false_and]
          have hC29 : HOLD wC 29 (fun j => decide (j < N) && decide (qand (P j) (w 82 g9) = 0)) := fun j hj => by rw [hRC.o (by decide), show sb wB 29 j = sb wQ 29 j from by unfold sb; rw [hRB.2.1 29 _ (by decide), hRA.2.1 29 _ (by decide)]]; exact hQ29 j hj
          have hCg : ∀ t, scF (w 80) (w 81) g9 + u9 ≤ t → t < (scF (w 80) (w 81) L) → ∀ j, j < 192 → gb wC t j = gd N P M V (scF (w 80) (w 81) L) t j := fun t a b j hj => by
            rw [show gb wC t j = gb wB t j from by unfold gb; rw [hRC.2.1 30 _ (by decide)], hRB.1 t j hj]
            by_cases e : t = scF (w 80) (w 81) g9 + u9
            · rw [if_pos e, e]; exact hA28 j hj
            · rw [if_neg e, show gb wA t j = gb wQ t j from by unfold gb; rw [hRA.2.1 30 _ (by decide)]]; exact hQg t (by omega) b j hj
          show qG none (d + 1) 39 98 [(2, 23), (2, 79), (0, ((scF (w 80) (w 81) g9 + u9 : Nat) : Int)), (0, ((g9 : Nat) : Int)), (0, ((u9 + 1 : Nat) : Int))] [] wC 142 Q9
          refine qG.blk 1 (pc' := 101) (ls' := [(2, 23), (2, 79), (0, ((scF (w 80) (w 81) g9 + u9 : Nat) : Int)), (0, ((g9 : Nat) : Int)), (0, wrp (((u9 + 1 : Nat) : Int) + (-1)))]) (st' := []) (w' := wC) (n' := 142) rfl ?_
          rw [show wrp (((u9 + 1 : Nat) : Int) + (-1)) = ((u9 : Nat) : Int) from by rw [wrp_id (by omega) (by omega)]; omega]
          refine qG.blk 1 (pc' := 51) (ls' := [(2, 23), (2, 79), (0, ((scF (w 80) (w 81) g9 + u9 : Nat) : Int)), (0, ((g9 : Nat) : Int)), (0, ((u9 : Nat) : Int))]) (st' := []) (w' := wC) (n' := 142) rfl ?_
          exact ih51 _ (by omega) (u9) (wC) rfl (⟨by omega, hCf, hIC, hC27, hC29, hCg⟩)
        · skip
          refine qG.blk 1 (pc' := 107) (ls' := [(2, 23), (2, 79), (0, ((scF (w 80) (w 81) g9 + u : Nat) : Int)), (0, wrp (((g9 : Nat) : Int) + (-1))), (0, ((u : Nat) : Int))]) (st' := []) (w' := wQ) (n' := 142) rfl ?_
          rw [show wrp (((g9 : Nat) : Int) + (-1)) = ((g9 : Nat) : Int) - 1 from by rw [wrp_id (by omega) (by omega)]; omega]
          refine qG.blk 1 (pc' := 24) (ls' := [(2, 23), (2, 79), (0, ((scF (w 80) (w 81) g9 + u : Nat) : Int)), (0, ((g9 : Nat) : Int) - 1), (0, ((u : Nat) : Int))]) (st' := []) (w' := wQ) (n' := 142) rfl ?_
          have hu0 : u = 0 := by omega
          subst hu0
          exact ih24 _ (by omega) g9 wQ _ rfl ⟨by omega, hQf, hIQ, hQ27, hQg⟩
      exact L51 _ (dN (w 80 g9) (w 81 g9)) (wU) rfl (⟨Nat.le_refl _, hUf, hIU, hU27, hU29, hUg⟩)
  exact L24 _ (L) (w1) ((9, 0)) rfl (⟨Nat.le_refl _, h1f, hI1, by rw [Nat.sub_self]; exact h127, fun t a b => absurd b (by omega)⟩)
theorem K_fGood83 {d : Nat} (hd : 4 ≤ d) (N : Nat) (P : Nat → Int) (M : Nat → Nat → Bool) (V : Nat → Int) (hsy : ∀ i j, i < N → j < N → M i j = M j i) (L : Nat) (hL : L ≤ 40) (w : qW) (hI : yInv zgf zga zra zSp w) (hs : w 83 2 = (L : Int)) (hKW : KNw (w 84) (w 85) L) (hT : CTB N P M w) (hVV : ∀ g, g < L → ∀ u, u < dN (w 84 g) (w 85 g) → V (scF (w 84) (w 85) g + u) = w 86 g) : qG none d 39 0 [(2, 23), (2, 83), (9, 0), (9, 0), (9, 0)] [] w 142 (fun (r : qV) (w1 : qW) (n1 : Nat) => r = (9, 0) ∧ n1 = 142 ∧ yInv zgf zga zra zSp w1 ∧ (∀ q j, ¬ (27 ≤ q ∧ q ≤ 30) → w1 q j = w q j) ∧ HOLD w1 27 (gz N P M V (scF (w 84) (w 85) L) (scF (w 84) (w 85) L)) ∧ ∀ t, t < (scF (w 84) (w 85) L) → ∀ j, j < 192 → gb w1 t j = gd N P M V (scF (w 84) (w 85) L) t j) := by
  generalize hQ9 : (fun (r : qV) (w1 : qW) (n1 : Nat) => r = (9, 0) ∧ n1 = 142 ∧ yInv zgf zga zra zSp w1 ∧ (∀ q j, ¬ (27 ≤ q ∧ q ≤ 30) → w1 q j = w q j) ∧ HOLD w1 27 (gz N P M V (scF (w 84) (w 85) L) (scF (w 84) (w 85) L)) ∧ ∀ t, t < (scF (w 84) (w 85) L) → ∀ j, j < 192 → gb w1 t j = gd N P M V (scF (w 84) (w 85) L) t j) = Q9
  obtain ⟨d, rfl⟩ : ∃ d9, d = d9 + 1 := ⟨d - 1, by omega⟩
  refine qG.blk 2 (pc' := 4) (ls' := [(2, 23), (2, 83), (9, 0), (9, 0), (9, 0)]) (st' := [(2, w 23 0)]) (w' := w) (n' := 142) rfl ?_
  rw [show w 23 0 = 24 from zref hI rfl rfl]
  refine qG.blk 3 (pc' := 9) (ls' := [(2, 23), (2, 83), (9, 0), (9, 0), (9, 0)]) (st' := [(2, w 23 1), (0, 0), (2, 24)]) (w' := w) (n' := 142) rfl ?_
  rw [show w 23 1 = 27 from zref hI rfl rfl]
  refine qG.call (t := 103) (na := 3) (sk := 1) (md := 1) (ls1 := [(2, 24), (0, 0), (2, 27), (9, 0), (9, 0)]) (r1 := []) rfl rfl rfl rfl rfl (K_unseen27 (by omega) 0 N hT.1 w hI hT.2.1) ?_
  rintro _ w1 _ ⟨rfl, rfl, hR1⟩
  have h1f : (∀ q j, ¬ (27 ≤ q ∧ q ≤ 30) → w1 q j = w q j) := fun q j a => hR1.2.1 q j (by omega)
  have hI1 := hR1.2.2
  have h127 : HOLD w1 27 (gz N P M V (scF (w 84) (w 85) L) 0) := fun j hj => by rw [show sb w1 27 j = (decide (j < N) && decide (qand (w 25 j) 0 = 0)) from hR1.1 j hj, qand_z0, decide_eq_true rfl, Bool.and_true]; rfl
  show qG none (d + 1) 39 12 [(2, 23), (2, 83), (9, 0), (9, 0), (9, 0)] [] w1 142 Q9
  refine qG.blk 1 (pc' := 13) (ls' := [(2, 23), (2, 83), (9, 0), (9, 0), (9, 0)]) (st' := [(2, 83)]) (w' := w1) (n' := 142) rfl ?_
  refine qG.call (t := 116) (na := 1) (sk := 1) (md := 1) (ls1 := [(2, 83), (9, 0), (9, 0)]) (r1 := []) rfl rfl rfl rfl rfl (K_allSec83 (by omega) L hL w1 hI1 ((h1f 83 2 (by decide)).trans hs) (by rw [show w1 84 = w 84 from funext fun j => h1f _ j (by decide), show w1 85 = w 85 from funext fun j => h1f _ j (by decide)]; exact hKW)) ?_
  rintro _ w7 _ ⟨rfl, hw7, rfl⟩
  rw [hw7, show w1 84 = w 84 from funext fun j => h1f _ j (by decide), show w1 85 = w 85 from funext fun j => h1f _ j (by decide)]
  show qG none (d + 1) 39 16 [(2, 23), (2, 83), (9, 0), (9, 0), (9, 0)] [(0, ((scF (w 84) (w 85) L : Nat) : Int))] w1 142 Q9
  refine qG.blk 2 (pc' := 18) (ls' := [(2, 23), (2, 83), (0, ((scF (w 84) (w 85) L : Nat) : Int)), (9, 0), (9, 0)]) (st' := [(2, 83)]) (w' := w1) (n' := 142) rfl ?_
  refine qG.call (t := 110) (na := 1) (sk := 1) (md := 1) (ls1 := [(2, 83)]) (r1 := []) rfl rfl rfl rfl rfl (K_stepC83 (Nat.zero_le _) w1 (x := ((L : Nat) : Int)) ((h1f 83 2 (by decide)).trans hs)) ?_
  rintro _ w7 _ ⟨rfl, hw7, rfl⟩
  rw [hw7]
  show qG none (d + 1) 39 21 [(2, 23), (2, 83), (0, ((scF (w 84) (w 85) L : Nat) : Int)), (9, 0), (9, 0)] [(0, ((L : Nat) : Int))] w1 142 Q9
  refine qG.blk 2 (pc' := 23) (ls' := [(2, 23), (2, 83), (0, ((scF (w 84) (w 85) L : Nat) : Int)), (9, 0), (9, 0)]) (st' := [(0, wrp (((L : Nat) : Int) - 1))]) (w' := w1) (n' := 142) rfl ?_
  rw [show wrp (((L : Nat) : Int) - 1) = ((L : Nat) : Int) - 1 from wrp_id (by omega) (by omega)]
  refine qG.blk 1 (pc' := 24) (ls' := [(2, 23), (2, 83), (0, ((scF (w 84) (w 85) L : Nat) : Int)), (0, ((L : Nat) : Int) - 1), (9, 0)]) (st' := []) (w' := w1) (n' := 142) rfl ?_
  have L24 : ∀ (m9 : Nat) (g : Nat) (wS : qW) (l4 : qV), g = m9 → (g ≤ L ∧ (∀ q j, ¬ (27 ≤ q ∧ q ≤ 30) → wS q j = w q j) ∧ yInv zgf zga zra zSp wS ∧ HOLD wS 27 (gz N P M V (scF (w 84) (w 85) L) ((scF (w 84) (w 85) L) - scF (w 84) (w 85) g)) ∧ ∀ t, scF (w 84) (w 85) g ≤ t → t < (scF (w 84) (w 85) L) → ∀ j, j < 192 → gb wS t j = gd N P M V (scF (w 84) (w 85) L) t j) → qG none (d + 1) 39 24 [(2, 23), (2, 83), (0, ((scF (w 84) (w 85) g : Nat) : Int)), (0, ((g : Nat) : Int) - 1), l4] [] wS 142 Q9 := by
    intro m9
    induction m9 using Nat.strongRecOn with
    | ind m9 ih24 =>
    intro g wS l4 hm24 hI24
    obtain ⟨hgL, hSf, hIS, hH27, hgS⟩ := hI24
    have hTS := hT.cg (w1 := wS) (fun q j h => hSf q j (by omega))
    refine qG.blk 1 (pc' := 25) (ls' := [(2, 23), (2, 83), (0, ((scF (w 84) (w 85) g : Nat) : Int)), (0, ((g : Nat) : Int) - 1), l4]) (st' := [(0, ((g : Nat) : Int) - 1)]) (w' := wS) (n' := 142) rfl ?_
    refine qG.br (P := ((g : Nat) : Int) - 1 < 0) (pc1 := 110) (pc2 := 28) (st1 := []) rfl (fun hg0 => ?_) (fun hg0 => ?_)
    · skip
      refine qG.retv rfl rfl ?_
      subst hQ9
      have hg00 : g = 0 := by omega
      subst hg00
      exact ⟨rfl, rfl, hIS, hSf, hH27, fun t b j hj => hgS t (Nat.zero_le _) b j hj⟩
    · skip
      obtain ⟨g9, rfl⟩ : ∃ g9, g = g9 + 1 := ⟨g - 1, by omega⟩
      rw [show ((g9 + 1 : Nat) : Int) - 1 = ((g9 : Nat) : Int) from by omega]
      have hdn : (if w 84 g9 = 2 then w 85 g9 else 1) = ((dN (w 84 g9) (w 85 g9) : Nat) : Int) := by have z := sc_s hKW (show g9 < L by omega); have y : ((scF (w 84) (w 85) (g9 + 1) : Nat) : Int) = ((scF (w 84) (w 85) g9 : Nat) : Int) + ((dN (w 84 g9) (w 85 g9) : Nat) : Int) := rfl; omega
      have hd20 : dN (w 84 g9) (w 85 g9) ≤ 20 := by have q := hKW g9 (by omega); by_cases y : w 84 g9 = 2; rw [if_pos y] at hdn; have := q y; omega; rw [if_neg y] at hdn; omega
      have hsc := sc_le hKW g9 (by omega)
      have hsL := scF_le (K := w 84) (N := w 85) (show g9 + 1 ≤ L by omega)
      have hs1 : scF (w 84) (w 85) (g9 + 1) = scF (w 84) (w 85) g9 + dN (w 84 g9) (w 85 g9) := rfl
      refine qG.blk 2 (pc' := 32) (ls' := [(2, 23), (2, 83), (0, ((scF (w 84) (w 85) (g9 + 1) : Nat) : Int)), (0, ((g9 : Nat) : Int)), l4]) (st' := [(2, wS 23 0)]) (w' := wS) (n' := 142) rfl ?_
      rw [show wS 23 0 = 24 from (hSf 23 0 (by decide)).trans (zref hI rfl rfl)]
      refine qG.blk 2 (pc' := 34) (ls' := [(2, 23), (2, 83), (0, ((scF (w 84) (w 85) (g9 + 1) : Nat) : Int)), (0, ((g9 : Nat) : Int)), l4]) (st' := [(0, ((g9 : Nat) : Int)), (2, 83), (2, 24)]) (w' := wS) (n' := 142) rfl ?_
      refine qG.call (t := 115) (na := 2) (sk := 1) (md := 1) (ls1 := [(2, 83), (0, ((g9 : Nat) : Int))]) (r1 := [(2, 24)]) rfl rfl rfl rfl rfl (K_vwOf83 (Nat.zero_le _) g9 L hL wS hIS ((hSf 83 2 (by decide)).trans hs) (by omega)) ?_
      rintro _ w7 _ ⟨rfl, hw7, rfl⟩
      rw [hw7, hSf 86 g9 (by decide)]
      show qG none (d + 1) 39 37 [(2, 23), (2, 83), (0, ((scF (w 84) (w 85) (g9 + 1) : Nat) : Int)), (0, ((g9 : Nat) : Int)), l4] [(0, w 86 g9), (2, 24)] wS 142 Q9
      refine qG.blk 2 (pc' := 41) (ls' := [(2, 23), (2, 83), (0, ((scF (w 84) (w 85) (g9 + 1) : Nat) : Int)), (0, ((g9 : Nat) : Int)), l4]) (st' := [(2, wS 23 3), (0, w 86 g9), (2, 24)]) (w' := wS) (n' := 142) rfl ?_
      rw [show wS 23 3 = 29 from (hSf 23 3 (by decide)).trans (zref hI rfl rfl)]
      refine qG.call (t := 103) (na := 3) (sk := 1) (md := 1) (ls1 := [(2, 24), (0, w 86 g9), (2, 29), (9, 0), (9, 0)]) (r1 := []) rfl rfl rfl rfl rfl (K_unseen29 (by omega) (w 86 g9) N hT.1 wS hIS hTS.2.1) ?_
      rintro _ wU _ ⟨rfl, rfl, hRU⟩
      have hIU := hRU.2.2
      have hUf : (∀ q j, ¬ (27 ≤ q ∧ q ≤ 30) → wU q j = w q j) := fun q j a => (hRU.2.1 q j (by omega)).trans (hSf q j a)
      have hU27 : HOLD wU 27 (gz N P M V (scF (w 84) (w 85) L) ((scF (w 84) (w 85) L) - (scF (w 84) (w 85) g9 + dN (w 84 g9) (w 85 g9)))) := fun j hj => by rw [hRU.o (by decide)]; exact hH27 j hj
      have hU29 : HOLD wU 29 (fun j => decide (j < N) && decide (qand (P j) (w 86 g9) = 0)) := fun j hj => by
        rw [show sb wU 29 j = (decide (j < N) && decide (qand (wS 25 j) (w 86 g9) = 0)) from hRU.1 j hj]
        show _ = (decide (j < N) && decide (qand (P j) (w 86 g9) = 0))
        by_cases hjN : j < N
        · rw [hTS.2.2.1 j hjN]
        · rw [decide_eq_false hjN, Bool.false_and, Bool.false_and]
      have hUg : ∀ t, scF (w 84) (w 85) g9 + dN (w 84 g9) (w 85 g9) ≤ t → t < (scF (w 84) (w 85) L) → ∀ j, j < 192 → gb wU t j = gd N P M V (scF (w 84) (w 85) L) t j := fun t a b j hj => by rw [show gb wU t j = gb wS t j from by unfold gb; rw [hRU.2.1 30 _ (by decide)]]; exact hgS t a b j hj
      show qG none (d + 1) 39 44 [(2, 23), (2, 83), (0, ((scF (w 84) (w 85) (g9 + 1) : Nat) : Int)), (0, ((g9 : Nat) : Int)), l4] [] wU 142 Q9
      refine qG.blk 2 (pc' := 46) (ls' := [(2, 23), (2, 83), (0, ((scF (w 84) (w 85) (g9 + 1) : Nat) : Int)), (0, ((g9 : Nat) : Int)), l4]) (st' := [(0, ((g9 : Nat) : Int)), (2, 83)]) (w' := wU) (n' := 142) rfl ?_
      refine qG.call (t := 114) (na := 2) (sk := 1) (md := 1) (ls1 := [(2, 83), (0, ((g9 : Nat) : Int))]) (r1 := []) rfl rfl rfl rfl rfl (K_secs83 (Nat.zero_le _) g9 L hL wU hIU ((hUf 83 2 (by decide)).trans hs) (by omega)) ?_
      rintro _ w7 _ ⟨rfl, hw7, rfl⟩
      rw [hw7, hUf 84 g9 (by decide), hUf 85 g9 (by decide), show (if w 84 g9 = 2 then w 85 g9 else 1) = ((dN (w 84 g9) (w 85 g9) : Nat) : Int) from hdn]
      show qG none (d + 1) 39 49 [(2, 23), (2, 83), (0, ((scF (w 84) (w 85) (g9 + 1) : Nat) : Int)), (0, ((g9 : Nat) : Int)), l4] [(0, ((dN (w 84 g9) (w 85 g9) : Nat) : Int))] wU 142 Q9
      refine qG.blk 1 (pc' := 51) (ls' := [(2, 23), (2, 83), (0, ((scF (w 84) (w 85) (g9 + 1) : Nat) : Int)), (0, ((g9 : Nat) : Int)), (0, ((dN (w 84 g9) (w 85 g9) : Nat) : Int))]) (st' := []) (w' := wU) (n' := 142) rfl ?_
      show qG none (d + 1) 39 51 [(2, 23), (2, 83), (0, ((scF (w 84) (w 85) g9 + dN (w 84 g9) (w 85 g9) : Nat) : Int)), (0, ((g9 : Nat) : Int)), (0, ((dN (w 84 g9) (w 85 g9) : Nat) : Int))] [] wU 142 Q9
      have L51 : ∀ (m9 : Nat) (u : Nat) (wQ : qW), u = m9 → (u ≤ dN (w 84 g9) (w 85 g9) ∧ (∀ q j, ¬ (27 ≤ q ∧ q ≤ 30) → wQ q j = w q j) ∧ yInv zgf zga zra zSp wQ ∧ HOLD wQ 27 (gz N P M V (scF (w 84) (w 85) L) ((scF (w 84) (w 85) L) - (scF (w 84) (w 85) g9 + u))) ∧ HOLD wQ 29 (fun j => decide (j < N) && decide (qand (P j) (w 86 g9) = 0)) ∧ ∀ t, scF (w 84) (w 85) g9 + u ≤ t → t < (scF (w 84) (w 85) L) → ∀ j, j < 192 → gb wQ t j = gd N P M V (scF (w 84) (w 85) L) t j) → qG none (d + 1) 39 51 [(2, 23), (2, 83), (0, ((scF (w 84) (w 85) g9 + u : Nat) : Int)), (0, ((g9 : Nat) : Int)), (0, ((u : Nat) : Int))] [] wQ 142 Q9 := by
        intro m9
        induction m9 using Nat.strongRecOn with
        | ind m9 ih51 =>
        intro u wQ hm51 hI51
        obtain ⟨hud, hQf, hIQ, hQ27, hQ29, hQg⟩ := hI51
        refine qG.blk 1 (pc' := 53) (ls' := [(2, 23), (2, 83), (0, ((scF (w 84) (w 85) g9 + u : Nat) : Int)), (0, ((g9 : Nat) : Int)), (0, ((u : Nat) : Int))]) (st' := [(0, ((u : Nat) : Int))]) (w' := wQ) (n' := 142) rfl ?_
        refine qG.br (P := 0 < ((u : Nat) : Int)) (pc1 := 56) (pc2 := 104) (st1 := []) rfl (fun hu5 => ?_) (fun hu5 => ?_)
        · skip
          obtain ⟨u9, rfl⟩ : ∃ u9, u = u9 + 1 := ⟨u - 1, by omega⟩
          refine qG.blk 1 (pc' := 59) (ls' := [(2, 23), (2, 83), (0, wrp (((scF (w 84) (w 85) g9 + (u9 + 1) : Nat) : Int) + (-1))), (0, ((g9 : Nat) : Int)), (0, ((u9 + 1 : Nat) : Int))]) (st' := []) (w' := wQ) (n' := 142) rfl ?_
          rw [show wrp (((scF (w 84) (w 85) g9 + (u9 + 1) : Nat) : Int) + (-1)) = ((scF (w 84) (w 85) g9 + u9 : Nat) : Int) from by rw [wrp_id (by omega) (by omega)]; omega]
          refine qG.blk 2 (pc' := 63) (ls' := [(2, 23), (2, 83), (0, ((scF (w 84) (w 85) g9 + u9 : Nat) : Int)), (0, ((g9 : Nat) : Int)), (0, ((u9 + 1 : Nat) : Int))]) (st' := [(2, wQ 23 1)]) (w' := wQ) (n' := 142) rfl ?_
          rw [show wQ 23 1 = 27 from (hQf 23 1 (by decide)).trans (zref hI rfl rfl)]
          refine qG.blk 2 (pc' := 67) (ls' := [(2, 23), (2, 83), (0, ((scF (w 84) (w 85) g9 + u9 : Nat) : Int)), (0, ((g9 : Nat) : Int)), (0, ((u9 + 1 : Nat) : Int))]) (st' := [(2, wQ 23 3), (2, 27)]) (w' := wQ) (n' := 142) rfl ?_
          rw [show wQ 23 3 = 29 from (hQf 23 3 (by decide)).trans (zref hI rfl rfl)]
          refine qG.blk 2 (pc' := 71) (ls' := [(2, 23), (2, 83), (0, ((scF (w 84) (w 85) g9 + u9 : Nat) : Int)), (0, ((g9 : Nat) : Int)), (0, ((u9 + 1 : Nat) : Int))]) (st' := [(2, wQ 23 2), (2, 29), (2, 27)]) (w' := wQ) (n' := 142) rfl ?_
          rw [show wQ 23 2 = 28 from (hQf 23 2 (by decide)).trans (zref hI rfl rfl)]
          refine qG.call (t := 49) (na := 3) (sk := 0) (md := 0) (ls1 := [(2, 27), (2, 29), (2, 28), (9, 0)]) (r1 := []) rfl rfl rfl rfl rfl (K_keep27_29_28 (by omega) wQ hIQ) ?_
          rintro _ wA _ ⟨rfl, rfl, hRA⟩
          have hIA := hRA.2.2
          have hAf : (∀ q j, ¬ (27 ≤ q ∧ q ≤ 30) → wA q j = w q j) := fun q j a => (hRA.2.1 q j (by omega)).trans (hQf q j a)
          have hA28 : HOLD wA 28 (gd N P M V (scF (w 84) (w 85) L) (scF (w 84) (w 85) g9 + u9)) := fun j hj => by
            rw [hRA.1 j hj]
            show (sb wQ 27 j && sb wQ 29 j) = _
            rw [hQ27 j hj, show sb wQ 29 j = (decide (j < N) && decide (qand (P j) (w 86 g9) = 0)) from hQ29 j hj]
            unfold gd
            rw [hVV g9 (by omega) u9 (by omega), Nat.add_assoc]
            by_cases hjN : j < N
            · rw [decide_eq_true hjN, Bool.true_and]
            · rw [gz_N hjN]; rfl
          show qG none (d + 1) 39 74 [(2, 23), (2, 83), (0, ((scF (w 84) (w 85) g9 + u9 : Nat) : Int)), (0, ((g9 : Nat) : Int)), (0, ((u9 + 1 : Nat) : Int))] [] wA 142 Q9
          refine qG.blk 4 (pc' := 80) (ls' := [(2, 23), (2, 83), (0, ((scF (w 84) (w 85) g9 + u9 : Nat) : Int)), (0, ((g9 : Nat) : Int)), (0, ((u9 + 1 : Nat) : Int))]) (st' := [(2, wA 23 2), (0, ((scF (w 84) (w 85) g9 + u9 : Nat) : Int)), (2, 23)]) (w' := wA) (n' := 142) rfl ?_
          rw [show wA 23 2 = 28 from (hAf 23 2 (by decide)).trans (zref hI rfl rfl)]
          refine qG.call (t := 40) (na := 3) (sk := 1) (md := 1) (ls1 := [(2, 23), (0, ((scF (w 84) (w 85) g9 + u9 : Nat) : Int)), (2, 28), (9, 0), (9, 0)]) (r1 := []) rfl rfl rfl rfl rfl (K_wrGood (by omega) (scF (w 84) (w 85) g9 + u9) (by omega) wA hIA) ?_
          rintro _ wB _ ⟨rfl, rfl, hRB⟩
          have hIB := hRB.2.2
          have hBf : (∀ q j, ¬ (27 ≤ q ∧ q ≤ 30) → wB q j = w q j) := fun q j a => (hRB.2.1 q j (by omega)).trans (hAf q j a)
          have hB28 : HOLD wB 28 (gd N P M V (scF (w 84) (w 85) L) (scF (w 84) (w 85) g9 + u9)) := fun j hj => by rw [show sb wB 28 j = sb wA 28 j from by unfold sb; rw [hRB.2.1 28 _ (by decide)]]; exact hA28 j hj
          have hTB := hT.cg (w1 := wB) (fun q j h => hBf q j (by omega))
          show qG none (d + 1) 39 83 [(2, 23), (2, 83), (0, ((scF (w 84) (w 85) g9 + u9 : Nat) : Int)), (0, ((g9 : Nat) : Int)), (0, ((u9 + 1 : Nat) : Int))] [] wB 142 Q9
          refine qG.blk 2 (pc' := 87) (ls' := [(2, 23), (2, 83), (0, ((scF (w 84) (w 85) g9 + u9 : Nat) : Int)), (0, ((g9 : Nat) : Int)), (0, ((u9 + 1 : Nat) : Int))]) (st' := [(2, wB 23 0)]) (w' := wB) (n' := 142) rfl ?_
          rw [show wB 23 0 = 24 from (hBf 23 0 (by decide)).trans (zref hI rfl rfl)]
          refine qG.blk 2 (pc' := 91) (ls' := [(2, 23), (2, 83), (0, ((scF (w 84) (w 85) g9 + u9 : Nat) : Int)), (0, ((g9 : Nat) : Int)), (0, ((u9 + 1 : Nat) : Int))]) (st' := [(2, wB 23 2), (2, 24)]) (w' := wB) (n' := 142) rfl ?_
          rw [show wB 23 2 = 28 from (hBf 23 2 (by decide)).trans (zref hI rfl rfl)]
          refine qG.blk 2 (pc' := 95) (ls' := [(2, 23), (2, 83), (0, ((scF (w 84) (w 85) g9 + u9 : Nat) : Int)), (0, ((g9 : Nat) : Int)), (0, ((u9 + 1 : Nat) : Int))]) (st' := [(2, wB 23 1), (2, 28), (2, 24)]) (w' := wB) (n' := 142) rfl ?_
          rw [show wB 23 1 = 27 from (hBf 23 1 (by decide)).trans (zref hI rfl rfl)]
          refine qG.call (t := 101) (na := 3) (sk := 1) (md := 1) (ls1 := [(2, 24), (2, 28), (2, 27), (9, 0), (9, 0), (9, 0), (9, 0), (9, 0), (9, 0), (9, 0), (9, 0), (9, 0), (9, 0), (9, 0)]) (r1 := []) rfl rfl rfl rfl rfl (K_spread28_27 (by omega) wB hIB) ?_
          rintro _ wC _ ⟨rfl, rfl, hRC⟩
          have hIC := hRC.2.2
          have hCf : (∀ q j, ¬ (27 ≤ q ∧ q ≤ 30) → wC q j = w q j) := fun q j a => (hRC.2.1 q j (by omega)).trans (hBf q j a)
          have hC27 : HOLD wC 27 (gz N P M V (scF (w 84) (w 85) L) ((scF (w 84) (w 85) L) - (scF (w 84) (w 85) g9 + u9))) := fun j hj => by
            rw [show sb wC 27 j = spF wB 28 j 192 from hRC.1 j hj, hB28.sp hTB (fun j hj => by unfold gd; rw [gz_N hj]; rfl) hj, gz_t (by omega)]
            by_cases hjN : j < N
            · rw [decide_eq_true hjN, Bool.true_and, Bool.true_and, Bool.eq_iff_iff, exN_iff, exN_iff]
              constructor <;> (rintro ⟨i, a, b⟩; refine ⟨i, a, ?_⟩; simp only [hsy i j a hjN] at *; exact b)
            · rw [decide_eq_false hjN, Bool.false_and, Bool.false_and]
          have hC29 : HOLD wC 29 (fun j => decide (j < N) && decide (qand (P j) (w 86 g9) = 0)) := fun j hj => by rw [hRC.o (by decide), show sb wB 29 j = sb wQ 29 j from by unfold sb; rw [hRB.2.1 29 _ (by decide), hRA.2.1 29 _ (by decide)]]; exact hQ29 j hj
          have hCg : ∀ t, scF (w 84) (w 85) g9 + u9 ≤ t → t < (scF (w 84) (w 85) L) → ∀ j, j < 192 → gb wC t j = gd N P M V (scF (w 84) (w 85) L) t j := fun t a b j hj => by
            rw [show gb wC t j = gb wB t j from by unfold gb; rw [hRC.2.1 30 _ (by decide)], hRB.1 t j hj]
            by_cases e : t = scF (w 84) (w 85) g9 + u9
            · rw [if_pos e, e]; exact hA28 j hj
            · rw [if_neg e, show gb wA t j = gb wQ t j from by unfold gb; rw [hRA.2.1 30 _ (by decide)]]; exact hQg t (by omega) b j hj
          show qG none (d + 1) 39 98 [(2, 23), (2, 83), (0, ((scF (w 84) (w 85) g9 + u9 : Nat) : Int)), (0, ((g9 : Nat) : Int)), (0, ((u9 + 1 : Nat) : Int))] [] wC 142 Q9
          refine qG.blk 1 (pc' := 101) (ls' := [(2, 23), (2, 83), (0, ((scF (w 84) (w 85) g9 + u9 : Nat) : Int)), (0, ((g9 : Nat) : Int)), (0, wrp (((u9 + 1 : Nat) : Int) + (-1)))]) (st' := []) (w' := wC) (n' := 142) rfl ?_
          rw [show wrp (((u9 + 1 : Nat) : Int) + (-1)) = ((u9 : Nat) : Int) from by rw [wrp_id (by omega) (by omega)]; omega]
          refine qG.blk 1 (pc' := 51) (ls' := [(2, 23), (2, 83), (0, ((scF (w 84) (w 85) g9 + u9 : Nat) : Int)), (0, ((g9 : Nat) : Int)), (0, ((u9 : Nat) : Int))]) (st' := []) (w' := wC) (n' := 142) rfl ?_
          exact ih51 _ (by omega) (u9) (wC) rfl (⟨by omega, hCf, hIC, hC27, hC29, hCg⟩)
        · skip
          refine qG.blk 1 (pc' := 107) (ls' := [(2, 23), (2, 83), (0, ((scF (w 84) (w 85) g9 + u : Nat) : Int)), (0, wrp (((g9 : Nat) : Int) + (-1))), (0, ((u : Nat) : Int))]) (st' := []) (w' := wQ) (n' := 142) rfl ?_
          rw [show wrp (((g9 : Nat) : Int) + (-1)) = ((g9 : Nat) : Int) - 1 from by rw [wrp_id (by omega) (by omega)]; omega]
          refine qG.blk 1 (pc' := 24) (ls' := [(2, 23), (2, 83), (0, ((scF (w 84) (w 85) g9 + u : Nat) : Int)), (0, ((g9 : Nat) : Int) - 1), (0, ((u : Nat) : Int))]) (st' := []) (w' := wQ) (n' := 142) rfl ?_
          have hu0 : u = 0 := by omega
          subst hu0
          exact ih24 _ (by omega) g9 wQ _ rfl ⟨by omega, hQf, hIQ, hQ27, hQg⟩
      exact L51 _ (dN (w 84 g9) (w 85 g9)) (wU) rfl (⟨Nat.le_refl _, hUf, hIU, hU27, hU29, hUg⟩)
  exact L24 _ (L) (w1) ((9, 0)) rfl (⟨Nat.le_refl _, h1f, hI1, by rw [Nat.sub_self]; exact h127, fun t a b => absurd b (by omega)⟩)
theorem K_fGood87 {d : Nat} (hd : 4 ≤ d) (N : Nat) (P : Nat → Int) (M : Nat → Nat → Bool) (V : Nat → Int) (hsy : ∀ i j, i < N → j < N → M i j = M j i) (L : Nat) (hL : L ≤ 40) (w : qW) (hI : yInv zgf zga zra zSp w) (hs : w 87 2 = (L : Int)) (hKW : KNw (w 88) (w 89) L) (hT : CTB N P M w) (hVV : ∀ g, g < L → ∀ u, u < dN (w 88 g) (w 89 g) → V (scF (w 88) (w 89) g + u) = w 90 g) : qG none d 39 0 [(2, 23), (2, 87), (9, 0), (9, 0), (9, 0)] [] w 142 (fun (r : qV) (w1 : qW) (n1 : Nat) => r = (9, 0) ∧ n1 = 142 ∧ yInv zgf zga zra zSp w1 ∧ (∀ q j, ¬ (27 ≤ q ∧ q ≤ 30) → w1 q j = w q j) ∧ HOLD w1 27 (gz N P M V (scF (w 88) (w 89) L) (scF (w 88) (w 89) L)) ∧ ∀ t, t < (scF (w 88) (w 89) L) → ∀ j, j < 192 → gb w1 t j = gd N P M V (scF (w 88) (w 89) L) t j) := by
  generalize hQ9 : (fun (r : qV) (w1 : qW) (n1 : Nat) => r = (9, 0) ∧ n1 = 142 ∧ yInv zgf zga zra zSp w1 ∧ (∀ q j, ¬ (27 ≤ q ∧ q ≤ 30) → w1 q j = w q j) ∧ HOLD w1 27 (gz N P M V (scF (w 88) (w 89) L) (scF (w 88) (w 89) L)) ∧ ∀ t, t < (scF (w 88) (w 89) L) → ∀ j, j < 192 → gb w1 t j = gd N P M V (scF (w 88) (w 89) L) t j) = Q9
  obtain ⟨d, rfl⟩ : ∃ d9, d = d9 + 1 := ⟨d - 1, by omega⟩
  refine qG.blk 2 (pc' := 4) (ls' := [(2, 23), (2, 87), (9, 0), (9, 0), (9, 0)]) (st' := [(2, w 23 0)]) (w' := w) (n' := 142) rfl ?_
  rw [show w 23 0 = 24 from zref hI rfl rfl]
  refine qG.blk 3 (pc' := 9) (ls' := [(2, 23), (2, 87), (9, 0), (9, 0), (9, 0)]) (st' := [(2, w 23 1), (0, 0), (2, 24)]) (w' := w) (n' := 142) rfl ?_
  rw [show w 23 1 = 27 from zref hI rfl rfl]
  refine qG.call (t := 103) (na := 3) (sk := 1) (md := 1) (ls1 := [(2, 24), (0, 0), (2, 27), (9, 0), (9, 0)]) (r1 := []) rfl rfl rfl rfl rfl (K_unseen27 (by omega) 0 N hT.1 w hI hT.2.1) ?_
  rintro _ w1 _ ⟨rfl, rfl, hR1⟩
  have h1f : (∀ q j, ¬ (27 ≤ q ∧ q ≤ 30) → w1 q j = w q j) := fun q j a => hR1.2.1 q j (by omega)
  have hI1 := hR1.2.2
  have h127 : HOLD w1 27 (gz N P M V (scF (w 88) (w 89) L) 0) := fun j hj => by rw [show sb w1 27 j = (decide (j < N) && decide (qand (w 25 j) 0 = 0)) from hR1.1 j hj, qand_z0, decide_eq_true rfl, Bool.and_true]; rfl
  show qG none (d + 1) 39 12 [(2, 23), (2, 87), (9, 0), (9, 0), (9, 0)] [] w1 142 Q9
  refine qG.blk 1 (pc' := 13) (ls' := [(2, 23), (2, 87), (9, 0), (9, 0), (9, 0)]) (st' := [(2, 87)]) (w' := w1) (n' := 142) rfl ?_
  refine qG.call (t := 116) (na := 1) (sk := 1) (md := 1) (ls1 := [(2, 87), (9, 0), (9, 0)]) (r1 := []) rfl rfl rfl rfl rfl (K_allSec87 (by omega) L hL w1 hI1 ((h1f 87 2 (by decide)).trans hs) (by rw [show w1 88 = w 88 from funext fun j => h1f _ j (by decide), show w1 89 = w 89 from funext fun j => h1f _ j (by decide)]; exact hKW)) ?_
  rintro _ w7 _ ⟨rfl, hw7, rfl⟩
  rw [hw7, show w1 88 = w 88 from funext fun j => h1f _ j (by decide), show w1 89 = w 89 from funext fun j => h1f _ j (by decide)]
  show qG none (d + 1) 39 16 [(2, 23), (2, 87), (9, 0), (9, 0), (9, 0)] [(0, ((scF (w 88) (w 89) L : Nat) : Int))] w1 142 Q9
  refine qG.blk 2 (pc' := 18) (ls' := [(2, 23), (2, 87), (0, ((scF (w 88) (w 89) L : Nat) : Int)), (9, 0), (9, 0)]) (st' := [(2, 87)]) (w' := w1) (n' := 142) rfl ?_
  refine qG.call (t := 110) (na := 1) (sk := 1) (md := 1) (ls1 := [(2, 87)]) (r1 := []) rfl rfl rfl rfl rfl (K_stepC87 (Nat.zero_le _) w1 (x := ((L : Nat) : Int)) ((h1f 87 2 (by decide)).trans hs)) ?_
  rintro _ w7 _ ⟨rfl, hw7, rfl⟩
  rw [hw7]
  show qG none (d + 1) 39 21 [(2, 23), (2, 87), (0, ((scF (w 88) (w 89) L : Nat) : Int)), (9, 0), (9, 0)] [(0, ((L : Nat) : Int))] w1 142 Q9
  refine qG.blk 2 (pc' := 23) (ls' := [(2, 23), (2, 87), (0, ((scF (w 88) (w 89) L : Nat) : Int)), (9, 0), (9, 0)]) (st' := [(0, wrp (((L : Nat) : Int) - 1))]) (w' := w1) (n' := 142) rfl ?_
  rw [show wrp (((L : Nat) : Int) - 1) = ((L : Nat) : Int) - 1 from wrp_id (by omega) (by omega)]
  refine qG.blk 1 (pc' := 24) (ls' := [(2, 23), (2, 87), (0, ((scF (w 88) (w 89) L : Nat) : Int)), (0, ((L : Nat) : Int) - 1), (9, 0)]) (st' := []) (w' := w1) (n' := 142) rfl ?_
  have L24 : ∀ (m9 : Nat) (g : Nat) (wS : qW) (l4 : qV), g = m9 → (g ≤ L ∧ (∀ q j, ¬ (27 ≤ q ∧ q ≤ 30) → wS q j = w q j) ∧ yInv zgf zga zra zSp wS ∧ HOLD wS 27 (gz N P M V (scF (w 88) (w 89) L) ((scF (w 88) (w 89) L) - scF (w 88) (w 89) g)) ∧ ∀ t, scF (w 88) (w 89) g ≤ t → t < (scF (w 88) (w 89) L) → ∀ j, j < 192 → gb wS t j = gd N P M V (scF (w 88) (w 89) L) t j) → qG none (d + 1) 39 24 [(2, 23), (2, 87), (0, ((scF (w 88) (w 89) g : Nat) : Int)), (0, ((g : Nat) : Int) - 1), l4] [] wS 142 Q9 := by
    intro m9
    induction m9 using Nat.strongRecOn with
    | ind m9 ih24 =>
    intro g wS l4 hm24 hI24
    obtain ⟨hgL, hSf, hIS, hH27, hgS⟩ := hI24
    have hTS := hT.cg (w1 := wS) (fun q j h => hSf q j (by omega))
    refine qG.blk 1 (pc' := 25) (ls' := [(2, 23), (2, 87), (0, ((scF (w 88) (w 89) g : Nat) : Int)), (0, ((g : Nat) : Int) - 1), l4]) (st' := [(0, ((g : Nat) : Int) - 1)]) (w' := wS) (n' := 142) rfl ?_
    refine qG.br (P := ((g : Nat) : Int) - 1 < 0) (pc1 := 110) (pc2 := 28) (st1 := []) rfl (fun hg0 => ?_) (fun hg0 => ?_)
    · skip
      refine qG.retv rfl rfl ?_
      subst hQ9
      have hg00 : g = 0 := by omega
      subst hg00
      exact ⟨rfl, rfl, hIS, hSf, hH27, fun t b j hj => hgS t (Nat.zero_le _) b j hj⟩
    · skip
      obtain ⟨g9, rfl⟩ : ∃ g9, g = g9 + 1 := ⟨g - 1, by omega⟩
      rw [show ((g9 + 1 : Nat) : Int) - 1 = ((g9 : Nat) : Int) from by omega]
      have hdn : (if w 88 g9 = 2 then w 89 g9 else 1) = ((dN (w 88 g9) (w 89 g9) : Nat) : Int) := by have z := sc_s hKW (show g9 < L by omega); have y : ((scF (w 88) (w 89) (g9 + 1) : Nat) : Int) = ((scF (w 88) (w 89) g9 : Nat) : Int) + ((dN (w 88 g9) (w 89 g9) : Nat) : Int) := rfl; omega
      have hd20 : dN (w 88 g9) (w 89 g9) ≤ 20 := by have q := hKW g9 (by omega); by_cases y : w 88 g9 = 2; rw [if_pos y] at hdn; have := q y; omega; rw [if_neg y] at hdn; omega
      have hsc := sc_le hKW g9 (by omega)
      have hsL := scF_le (K := w 88) (N := w 89) (show g9 + 1 ≤ L by omega)
      have hs1 : scF (w 88) (w 89) (g9 + 1) = scF (w 88) (w 89) g9 + dN (w 88 g9) (w 89 g9) := rfl
      refine qG.blk 2 (pc' := 32) (ls' := [(2, 23), (2, 87), (0, ((scF (w 88) (w 89) (g9 + 1) : Nat) : Int)), (0, ((g9 : Nat) : Int)), l4]) (st' := [(2, wS 23 0)]) (w' := wS) (n' := 142) rfl ?_
      rw [show wS 23 0 = 24 from (hSf 23 0 (by decide)).trans (zref hI rfl rfl)]
      refine qG.blk 2 (pc' := 34) (ls' := [(2, 23), (2, 87), (0, ((scF (w 88) (w 89) (g9 + 1) : Nat) : Int)), (0, ((g9 : Nat) : Int)), l4]) (st' := [(0, ((g9 : Nat) : Int)), (2, 87), (2, 24)]) (w' := wS) (n' := 142) rfl ?_
      refine qG.call (t := 115) (na := 2) (sk := 1) (md := 1) (ls1 := [(2, 87), (0, ((g9 : Nat) : Int))]) (r1 := [(2, 24)]) rfl rfl rfl rfl rfl (K_vwOf87 (Nat.zero_le _) g9 L hL wS hIS ((hSf 87 2 (by decide)).trans hs) (by omega)) ?_
      rintro _ w7 _ ⟨rfl, hw7, rfl⟩
      rw [hw7, hSf 90 g9 (by decide)]
      show qG none (d + 1) 39 37 [(2, 23), (2, 87), (0, ((scF (w 88) (w 89) (g9 + 1) : Nat) : Int)), (0, ((g9 : Nat) : Int)), l4] [(0, w 90 g9), (2, 24)] wS 142 Q9
      refine qG.blk 2 (pc' := 41) (ls' := [(2, 23), (2, 87), (0, ((scF (w 88) (w 89) (g9 + 1) : Nat) : Int)), (0, ((g9 : Nat) : Int)), l4]) (st' := [(2, wS 23 3), (0, w 90 g9), (2, 24)]) (w' := wS) (n' := 142) rfl ?_
      rw [show wS 23 3 = 29 from (hSf 23 3 (by decide)).trans (zref hI rfl rfl)]
      refine qG.call (t := 103) (na := 3) (sk := 1) (md := 1) (ls1 := [(2, 24), (0, w 90 g9), (2, 29), (9, 0), (9, 0)]) (r1 := []) rfl rfl rfl rfl rfl (K_unseen29 (by omega) (w 90 g9) N hT.1 wS hIS hTS.2.1) ?_
      rintro _ wU _ ⟨rfl, rfl, hRU⟩
      have hIU := hRU.2.2
      have hUf : (∀ q j, ¬ (27 ≤ q ∧ q ≤ 30) → wU q j = w q j) := fun q j a => (hRU.2.1 q j (by omega)).trans (hSf q j a)
      have hU27 : HOLD wU 27 (gz N P M V (scF (w 88) (w 89) L) ((scF (w 88) (w 89) L) - (scF (w 88) (w 89) g9 + dN (w 88 g9) (w 89 g9)))) := fun j hj => by rw [hRU.o (by decide)]; exact hH27 j hj
      have hU29 : HOLD wU 29 (fun j => decide (j < N) && decide (qand (P j) (w 90 g9) = 0)) := fun j hj => by
        rw [show sb wU 29 j = (decide (j < N) && decide (qand (wS 25 j) (w 90 g9) = 0)) from hRU.1 j hj]
        show _ = (decide (j < N) && decide (qand (P j) (w 90 g9) = 0))
        by_cases hjN : j < N
        · rw [hTS.2.2.1 j hjN]
        · rw [decide_eq_false hjN, Bool.false_and, Bool.false_and]
      have hUg : ∀ t, scF (w 88) (w 89) g9 + dN (w 88 g9) (w 89 g9) ≤ t → t < (scF (w 88) (w 89) L) → ∀ j, j < 192 → gb wU t j = gd N P M V (scF (w 88) (w 89) L) t j := fun t a b j hj => by rw [show gb wU t j = gb wS t j from by unfold gb; rw [hRU.2.1 30 _ (by decide)]]; exact hgS t a b j hj
      show qG none (d + 1) 39 44 [(2, 23), (2, 87), (0, ((scF (w 88) (w 89) (g9 + 1) : Nat) : Int)), (0, ((g9 : Nat) : Int)), l4] [] wU 142 Q9
      refine qG.blk 2 (pc' := 46) (ls' := [(2, 23), (2, 87), (0, ((scF (w 88) (w 89) (g9 + 1) : Nat) : Int)), (0, ((g9 : Nat) : Int)), l4]) (st' := [(0, ((g9 : Nat) : Int)), (2, 87)]) (w' := wU) (n' := 142) rfl ?_
      refine qG.call (t := 114) (na := 2) (sk := 1) (md := 1) (ls1 := [(2, 87), (0, ((g9 : Nat) : Int))]) (r1 := []) rfl rfl rfl rfl rfl (K_secs87 (Nat.zero_le _) g9 L hL wU hIU ((hUf 87 2 (by decide)).trans hs) (by omega)) ?_
      rintro _ w7 _ ⟨rfl, hw7, rfl⟩
      rw [hw7, hUf 88 g9 (by decide), hUf 89 g9 (by decide), show (if w 88 g9 = 2 then w 89 g9 else 1) = ((dN (w 88 g9) (w 89 g9) : Nat) : Int) from hdn]
      show qG none (d + 1) 39 49 [(2, 23), (2, 87), (0, ((scF (w 88) (w 89) (g9 + 1) : Nat) : Int)), (0, ((g9 : Nat) : Int)), l4] [(0, ((dN (w 88 g9) (w 89 g9) : Nat) : Int))] wU 142 Q9
      refine qG.blk 1 (pc' := 51) (ls' := [(2, 23), (2, 87), (0, ((scF (w 88) (w 89) (g9 + 1) : Nat) : Int)), (0, ((g9 : Nat) : Int)), (0, ((dN (w 88 g9) (w 89 g9) : Nat) : Int))]) (st' := []) (w' := wU) (n' := 142) rfl ?_
      show qG none (d + 1) 39 51 [(2, 23), (2, 87), (0, ((scF (w 88) (w 89) g9 + dN (w 88 g9) (w 89 g9) : Nat) : Int)), (0, ((g9 : Nat) : Int)), (0, ((dN (w 88 g9) (w 89 g9) : Nat) : Int))] [] wU 142 Q9
      have L51 : ∀ (m9 : Nat) (u : Nat) (wQ : qW), u = m9 → (u ≤ dN (w 88 g9) (w 89 g9) ∧ (∀ q j, ¬ (27 ≤ q ∧ q ≤ 30) → wQ q j = w q j) ∧ yInv zgf zga zra zSp wQ ∧ HOLD wQ 27 (gz N P M V (scF (w 88) (w 89) L) ((scF (w 88) (w 89) L) - (scF (w 88) (w 89) g9 + u))) ∧ HOLD wQ 29 (fun j => decide (j < N) && decide (qand (P j) (w 90 g9) = 0)) ∧ ∀ t, scF (w 88) (w 89) g9 + u ≤ t → t < (scF (w 88) (w 89) L) → ∀ j, j < 192 → gb wQ t j = gd N P M V (scF (w 88) (w 89) L) t j) → qG none (d + 1) 39 51 [(2, 23), (2, 87), (0, ((scF (w 88) (w 89) g9 + u : Nat) : Int)), (0, ((g9 : Nat) : Int)), (0, ((u : Nat) : Int))] [] wQ 142 Q9 := by
        intro m9
        induction m9 using Nat.strongRecOn with
        | ind m9 ih51 =>
        intro u wQ hm51 hI51
        obtain ⟨hud, hQf, hIQ, hQ27, hQ29, hQg⟩ := hI51
        refine qG.blk 1 (pc' := 53) (ls' := [(2, 23), (2, 87), (0, ((scF (w 88) (w 89) g9 + u : Nat) : Int)), (0, ((g9 : Nat) : Int)), (0, ((u : Nat) : Int))]) (st' := [(0, ((u : Nat) : Int))]) (w' := wQ) (n' := 142) rfl ?_
        refine qG.br (P := 0 < ((u : Nat) : Int)) (pc1 := 56) (pc2 := 104) (st1 := []) rfl (fun hu5 => ?_) (fun hu5 => ?_)
        · skip
          obtain ⟨u9, rfl⟩ : ∃ u9, u = u9 + 1 := ⟨u - 1, by omega⟩
          refine qG.blk 1 (pc' := 59) (ls' := [(2, 23), (2, 87), (0, wrp (((scF (w 88) (w 89) g9 + (u9 + 1) : Nat) : Int) + (-1))), (0, ((g9 : Nat) : Int)), (0, ((u9 + 1 : Nat) : Int))]) (st' := []) (w' := wQ) (n' := 142) rfl ?_
          rw [show wrp (((scF (w 88) (w 89) g9 + (u9 + 1) : Nat) : Int) + (-1)) = ((scF (w 88) (w 89) g9 + u9 : Nat) : Int) from by rw [wrp_id (by omega) (by omega)]; omega]
          refine qG.blk 2 (pc' := 63) (ls' := [(2, 23), (2, 87), (0, ((scF (w 88) (w 89) g9 + u9 : Nat) : Int)), (0, ((g9 : Nat) : Int)), (0, ((u9 + 1 : Nat) : Int))]) (st' := [(2, wQ 23 1)]) (w' := wQ) (n' := 142) rfl ?_
          rw [show wQ 23 1 = 27 from (hQf 23 1 (by decide)).trans (zref hI rfl rfl)]
          refine qG.blk 2 (pc' := 67) (ls' := [(2, 23), (2, 87), (0, ((scF (w 88) (w 89) g9 + u9 : Nat) : Int)), (0, ((g9 : Nat) : Int)), (0, ((u9 + 1 : Nat) : Int))]) (st' := [(2, wQ 23 3), (2, 27)]) (w' := wQ) (n' := 142) rfl ?_
          rw [show wQ 23 3 = 29 from (hQf 23 3 (by decide)).trans (zref hI rfl rfl)]
          refine qG.blk 2 (pc' := 71) (ls' := [(2, 23), (2, 87), (0, ((scF (w 88) (w 89) g9 + u9 : Nat) : Int)), (0, ((g9 : Nat) : Int)), (0, ((u9 + 1 : Nat) : Int))]) (st' := [(2, wQ 23 2), (2, 29), (2, 27)]) (w' := wQ) (n' := 142) rfl ?_
          rw [show wQ 23 2 = 28 from (hQf 23 2 (by decide)).trans (zref hI rfl rfl)]
          refine qG.call (t := 49) (na := 3) (sk := 0) (md := 0) (ls1 := [(2, 27), (2, 29), (2, 28), (9, 0)]) (r1 := []) rfl rfl rfl rfl rfl (K_keep27_29_28 (by omega) wQ hIQ) ?_
          rintro _ wA _ ⟨rfl, rfl, hRA⟩
          have hIA := hRA.2.2
          have hAf : (∀ q j, ¬ (27 ≤ q ∧ q ≤ 30) → wA q j = w q j) := fun q j a => (hRA.2.1 q j (by omega)).trans (hQf q j a)
          have hA28 : HOLD wA 28 (gd N P M V (scF (w 88) (w 89) L) (scF (w 88) (w 89) g9 + u9)) := fun j hj => by
            rw [hRA.1 j hj]
            show (sb wQ 27 j && sb wQ 29 j) = _
            rw [hQ27 j hj, show sb wQ 29 j = (decide (j < N) && decide (qand (P j) (w 90 g9) = 0)) from hQ29 j hj]
            unfold gd
            rw [hVV g9 (by omega) u9 (by omega), Nat.add_assoc]
            by_cases hjN : j < N
            · rw [decide_eq_true hjN, Bool.true_and]
            · rw [gz_N hjN]; rfl
          show qG none (d + 1) 39 74 [(2, 23), (2, 87), (0, ((scF (w 88) (w 89) g9 + u9 : Nat) : Int)), (0, ((g9 : Nat) : Int)), (0, ((u9 + 1 : Nat) : Int))] [] wA 142 Q9
          refine qG.blk 4 (pc' := 80) (ls' := [(2, 23), (2, 87), (0, ((scF (w 88) (w 89) g9 + u9 : Nat) : Int)), (0, ((g9 : Nat) : Int)), (0, ((u9 + 1 : Nat) : Int))]) (st' := [(2, wA 23 2), (0, ((scF (w 88) (w 89) g9 + u9 : Nat) : Int)), (2, 23)]) (w' := wA) (n' := 142) rfl ?_
          rw [show wA 23 2 = 28 from (hAf 23 2 (by decide)).trans (zref hI rfl rfl)]
          refine qG.call (t := 40) (na := 3) (sk := 1) (md := 1) (ls1 := [(2, 23), (0, ((scF (w 88) (w 89) g9 + u9 : Nat) : Int)), (2, 28), (9, 0), (9, 0)]) (r1 := []) rfl rfl rfl rfl rfl (K_wrGood (by omega) (scF (w 88) (w 89) g9 + u9) (by omega) wA hIA) ?_
          rintro _ wB _ ⟨rfl, rfl, hRB⟩
          have hIB := hRB.2.2
          have hBf : (∀ q j, ¬ (27 ≤ q ∧ q ≤ 30) → wB q j = w q j) := fun q j a => (hRB.2.1 q j (by omega)).trans (hAf q j a)
          have hB28 : HOLD wB 28 (gd N P M V (scF (w 88) (w 89) L) (scF (w 88) (w 89) g9 + u9)) := fun j hj => by rw [show sb wB 28 j = sb wA 28 j from by unfold sb; rw [hRB.2.1 28 _ (by decide)]]; exact hA28 j hj
          have hTB := hT.cg (w1 := wB) (fun q j h => hBf q j (by omega))
          show qG none (d + 1) 39 83 [(2, 23), (2, 87), (0, ((scF (w 88) (w 89) g9 + u9 : Nat) : Int)), (0, ((g9 : Nat) : Int)), (0, ((u9 + 1 : Nat) : Int))] [] wB 142 Q9
          refine qG.blk 2 (pc' := 87) (ls' := [(2, 23), (2, 87), (0, ((scF (w 88) (w 89) g9 + u9 : Nat) : Int)), (0, ((g9 : Nat) : Int)), (0, ((u9 + 1 : Nat) : Int))]) (st' := [(2, wB 23 0)]) (w' := wB) (n' := 142) rfl ?_
          rw [show wB 23 0 = 24 from (hBf 23 0 (by decide)).trans (zref hI rfl rfl)]
          refine qG.blk 2 (pc' := 91) (ls' := [(2, 23), (2, 87), (0, ((scF (w 88) (w 89) g9 + u9 : Nat) : Int)), (0, ((g9 : Nat) : Int)), (0, ((u9 + 1 : Nat) : Int))]) (st' := [(2, wB 23 2), (2, 24)]) (w' := wB) (n' := 142) rfl ?_
          rw [show wB 23 2 = 28 from (hBf 23 2 (by decide)).trans (zref hI rfl rfl)]
          refine qG.blk 2 (pc' := 95) (ls' := [(2, 23), (2, 87), (0, ((scF (w 88) (w 89) g9 + u9 : Nat) : Int)), (0, ((g9 : Nat) : Int)), (0, ((u9 + 1 : Nat) : Int))]) (st' := [(2, wB 23 1), (2, 28), (2, 24)]) (w' := wB) (n' := 142) rfl ?_
          rw [show wB 23 1 = 27 from (hBf 23 1 (by decide)).trans (zref hI rfl rfl)]
          refine qG.call (t := 101) (na := 3) (sk := 1) (md := 1) (ls1 := [(2, 24), (2, 28), (2, 27), (9, 0), (9, 0), (9, 0), (9, 0), (9, 0), (9, 0), (9, 0), (9, 0), (9, 0), (9, 0), (9, 0)]) (r1 := []) rfl rfl rfl rfl rfl (K_spread28_27 (by omega) wB hIB) ?_
          rintro _ wC _ ⟨rfl, rfl, hRC⟩
          have hIC := hRC.2.2
          have hCf : (∀ q j, ¬ (27 ≤ q ∧ q ≤ 30) → wC q j = w q j) := fun q j a => (hRC.2.1 q j (by omega)).trans (hBf q j a)
          have hC27 : HOLD wC 27 (gz N P M V (scF (w 88) (w 89) L) ((scF (w 88) (w 89) L) - (scF (w 88) (w 89) g9 + u9))) := fun j hj => by
            rw [show sb wC 27 j = spF wB 28 j 192 from hRC.1 j hj, hB28.sp hTB (fun j hj => by unfold gd; rw [gz_N hj]; rfl) hj, gz_t (by omega)]
            by_cases hjN : j < N
            · rw [decide_eq_true hjN, Bool.true_and, Bool.true_and, Bool.eq_iff_iff, exN_iff, exN_iff]
              constructor <;> (rintro ⟨i, a, b⟩; refine ⟨i, a, ?_⟩; simp only [hsy i j a hjN] at *; exact b)
            · rw [decide_eq_false hjN, Bool.false_and, Bool.false_and]
          have hC29 : HOLD wC 29 (fun j => decide (j < N) && decide (qand (P j) (w 90 g9) = 0)) := fun j hj => by rw [hRC.o (by decide), show sb wB 29 j = sb wQ 29 j from by unfold sb; rw [hRB.2.1 29 _ (by decide), hRA.2.1 29 _ (by decide)]]; exact hQ29 j hj
          have hCg : ∀ t, scF (w 88) (w 89) g9 + u9 ≤ t → t < (scF (w 88) (w 89) L) → ∀ j, j < 192 → gb wC t j = gd N P M V (scF (w 88) (w 89) L) t j := fun t a b j hj => by
            rw [show gb wC t j = gb wB t j from by unfold gb; rw [hRC.2.1 30 _ (by decide)], hRB.1 t j hj]
            by_cases e : t = scF (w 88) (w 89) g9 + u9
            · rw [if_pos e, e]; exact hA28 j hj
            · rw [if_neg e, show gb wA t j = gb wQ t j from by unfold gb; rw [hRA.2.1 30 _ (by decide)]]; exact hQg t (by omega) b j hj
          show qG none (d + 1) 39 98 [(2, 23), (2, 87), (0, ((scF (w 88) (w 89) g9 + u9 : Nat) : Int)), (0, ((g9 : Nat) : Int)), (0, ((u9 + 1 : Nat) : Int))] [] wC 142 Q9
          refine qG.blk 1 (pc' := 101) (ls' := [(2, 23), (2, 87), (0, ((scF (w 88) (w 89) g9 + u9 : Nat) : Int)), (0, ((g9 : Nat) : Int)), (0, wrp (((u9 + 1 : Nat) : Int) + (-1)))]) (st' := []) (w' := wC) (n' := 142) rfl ?_
          rw [show wrp (((u9 + 1 : Nat) : Int) + (-1)) = ((u9 : Nat) : Int) from by rw [wrp_id (by omega) (by omega)]; omega]
          refine qG.blk 1 (pc' := 51) (ls' := [(2, 23), (2, 87), (0, ((scF (w 88) (w 89) g9 + u9 : Nat) : Int)), (0, ((g9 : Nat) : Int)), (0, ((u9 : Nat) : Int))]) (st' := []) (w' := wC) (n' := 142) rfl ?_
          exact ih51 _ (by omega) (u9) (wC) rfl (⟨by omega, hCf, hIC, hC27, hC29, hCg⟩)
        · skip
          refine qG.blk 1 (pc' := 107) (ls' := [(2, 23), (2, 87), (0, ((scF (w 88) (w 89) g9 + u : Nat) : Int)), (0, wrp (((g9 : Nat) : Int) + (-1))), (0, ((u : Nat) : Int))]) (st' := []) (w' := wQ) (n' := 142) rfl ?_
          rw [show wrp (((g9 : Nat) : Int) + (-1)) = ((g9 : Nat) : Int) - 1 from by rw [wrp_id (by omega) (by omega)]; omega]
          refine qG.blk 1 (pc' := 24) (ls' := [(2, 23), (2, 87), (0, ((scF (w 88) (w 89) g9 + u : Nat) : Int)), (0, ((g9 : Nat) : Int) - 1), (0, ((u : Nat) : Int))]) (st' := []) (w' := wQ) (n' := 142) rfl ?_
          have hu0 : u = 0 := by omega
          subst hu0
          exact ih24 _ (by omega) g9 wQ _ rfl ⟨by omega, hQf, hIQ, hQ27, hQg⟩
      exact L51 _ (dN (w 88 g9) (w 89 g9)) (wU) rfl (⟨Nat.le_refl _, hUf, hIU, hU27, hU29, hUg⟩)
  exact L24 _ (L) (w1) ((9, 0)) rfl (⟨Nat.le_refl _, h1f, hI1, by rw [Nat.sub_self]; exact h127, fun t a b => absurd b (by omega)⟩)
theorem K_fGood91 {d : Nat} (hd : 4 ≤ d) (N : Nat) (P : Nat → Int) (M : Nat → Nat → Bool) (V : Nat → Int) (hsy : ∀ i j, i < N → j < N → M i j = M j i) (L : Nat) (hL : L ≤ 40) (w : qW) (hI : yInv zgf zga zra zSp w) (hs : w 91 2 = (L : Int)) (hKW : KNw (w 92) (w 93) L) (hT : CTB N P M w) (hVV : ∀ g, g < L → ∀ u, u < dN (w 92 g) (w 93 g) → V (scF (w 92) (w 93) g + u) = w 94 g) : qG none d 39 0 [(2, 23), (2, 91), (9, 0), (9, 0), (9, 0)] [] w 142 (fun (r : qV) (w1 : qW) (n1 : Nat) => r = (9, 0) ∧ n1 = 142 ∧ yInv zgf zga zra zSp w1 ∧ (∀ q j, ¬ (27 ≤ q ∧ q ≤ 30) → w1 q j = w q j) ∧ HOLD w1 27 (gz N P M V (scF (w 92) (w 93) L) (scF (w 92) (w 93) L)) ∧ ∀ t, t < (scF (w 92) (w 93) L) → ∀ j, j < 192 → gb w1 t j = gd N P M V (scF (w 92) (w 93) L) t j) := by
  generalize hQ9 : (fun (r : qV) (w1 : qW) (n1 : Nat) => r = (9, 0) ∧ n1 = 142 ∧ yInv zgf zga zra zSp w1 ∧ (∀ q j, ¬ (27 ≤ q ∧ q ≤ 30) → w1 q j = w q j) ∧ HOLD w1 27 (gz N P M V (scF (w 92) (w 93) L) (scF (w 92) (w 93) L)) ∧ ∀ t, t < (scF (w 92) (w 93) L) → ∀ j, j < 192 → gb w1 t j = gd N P M V (scF (w 92) (w 93) L) t j) = Q9
  obtain ⟨d, rfl⟩ : ∃ d9, d = d9 + 1 := ⟨d - 1, by omega⟩
  refine qG.blk 2 (pc' := 4) (ls' := [(2, 23), (2, 91), (9, 0), (9, 0), (9, 0)]) (st' := [(2, w 23 0)]) (w' := w) (n' := 142) rfl ?_
  rw [show w 23 0 = 24 from zref hI rfl rfl]
  refine qG.blk 3 (pc' := 9) (ls' := [(2, 23), (2, 91), (9, 0), (9, 0), (9, 0)]) (st' := [(2, w 23 1), (0, 0), (2, 24)]) (w' := w) (n' := 142) rfl ?_
  rw [show w 23 1 = 27 from zref hI rfl rfl]
  refine qG.call (t := 103) (na := 3) (sk := 1) (md := 1) (ls1 := [(2, 24), (0, 0), (2, 27), (9, 0), (9, 0)]) (r1 := []) rfl rfl rfl rfl rfl (K_unseen27 (by omega) 0 N hT.1 w hI hT.2.1) ?_
  rintro _ w1 _ ⟨rfl, rfl, hR1⟩
  have h1f : (∀ q j, ¬ (27 ≤ q ∧ q ≤ 30) → w1 q j = w q j) := fun q j a => hR1.2.1 q j (by omega)
  have hI1 := hR1.2.2
  have h127 : HOLD w1 27 (gz N P M V (scF (w 92) (w 93) L) 0) := fun j hj => by rw [show sb w1 27 j = (decide (j < N) && decide (qand (w 25 j) 0 = 0)) from hR1.1 j hj, qand_z0, decide_eq_true rfl, Bool.and_true]; rfl
  show qG none (d + 1) 39 12 [(2, 23), (2, 91), (9, 0), (9, 0), (9, 0)] [] w1 142 Q9
  refine qG.blk 1 (pc' := 13) (ls' := [(2, 23), (2, 91), (9, 0), (9, 0), (9, 0)]) (st' := [(2, 91)]) (w' := w1) (n' := 142) rfl ?_
  refine qG.call (t := 116) (na := 1) (sk := 1) (md := 1) (ls1 := [(2, 91), (9, 0), (9, 0)]) (r1 := []) rfl rfl rfl rfl rfl (K_allSec91 (by omega) L hL w1 hI1 ((h1f 91 2 (by decide)).trans hs) (by rw [show w1 92 = w 92 from funext fun j => h1f _ j (by decide), show w1 93 = w 93 from funext fun j => h1f _ j (by decide)]; exact hKW)) ?_
  rintro _ w7 _ ⟨rfl, hw7, rfl⟩
  rw [hw7, show w1 92 = w 92 from funext fun j => h1f _ j (by decide), show w1 93 = w 93 from funext fun j => h1f _ j (by decide)]
  show qG none (d + 1) 39 16 [(2, 23), (2, 91), (9, 0), (9, 0), (9, 0)] [(0, ((scF (w 92) (w 93) L : Nat) : Int))] w1 142 Q9
  refine qG.blk 2 (pc' := 18) (ls' := [(2, 23), (2, 91), (0, ((scF (w 92) (w 93) L : Nat) : Int)), (9, 0), (9, 0)]) (st' := [(2, 91)]) (w' := w1) (n' := 142) rfl ?_
  refine qG.call (t := 110) (na := 1) (sk := 1) (md := 1) (ls1 := [(2, 91)]) (r1 := []) rfl rfl rfl rfl rfl (K_stepC91 (Nat.zero_le _) w1 (x := ((L : Nat) : Int)) ((h1f 91 2 (by decide)).trans hs)) ?_
  rintro _ w7 _ ⟨rfl, hw7, rfl⟩
  rw [hw7]
  show qG none (d + 1) 39 21 [(2, 23), (2, 91), (0, ((scF (w 92) (w 93) L : Nat) : Int)), (9, 0), (9, 0)] [(0, ((L : Nat) : Int))] w1 142 Q9
  refine qG.blk 2 (pc' := 23) (ls' := [(2, 23), (2, 91), (0, ((scF (w 92) (w 93) L : Nat) : Int)), (9, 0), (9, 0)]) (st' := [(0, wrp (((L : Nat) : Int) - 1))]) (w' := w1) (n' := 142) rfl ?_
  rw [show wrp (((L : Nat) : Int) - 1) = ((L : Nat) : Int) - 1 from wrp_id (by omega) (by omega)]
  refine qG.blk 1 (pc' := 24) (ls' := [(2, 23), (2, 91), (0, ((scF (w 92) (w 93) L : Nat) : Int)), (0, ((L : Nat) : Int) - 1), (9, 0)]) (st' := []) (w' := w1) (n' := 142) rfl ?_
  have L24 : ∀ (m9 : Nat) (g : Nat) (wS : qW) (l4 : qV), g = m9 → (g ≤ L ∧ (∀ q j, ¬ (27 ≤ q ∧ q ≤ 30) → wS q j = w q j) ∧ yInv zgf zga zra zSp wS ∧ HOLD wS 27 (gz N P M V (scF (w 92) (w 93) L) ((scF (w 92) (w 93) L) - scF (w 92) (w 93) g)) ∧ ∀ t, scF (w 92) (w 93) g ≤ t → t < (scF (w 92) (w 93) L) → ∀ j, j < 192 → gb wS t j = gd N P M V (scF (w 92) (w 93) L) t j) → qG none (d + 1) 39 24 [(2, 23), (2, 91), (0, ((scF (w 92) (w 93) g : Nat) : Int)), (0, ((g : Nat) : Int) - 1), l4] [] wS 142 Q9 := by
    intro m9
    induction m9 using Nat.strongRecOn with
    | ind m9 ih24 =>
    intro g wS l4 hm24 hI24
    obtain ⟨hgL, hSf, hIS, hH27, hgS⟩ := hI24
    have hTS := hT.cg (w1 := wS) (fun q j h => hSf q j (by omega))
    refine qG.blk 1 (pc' := 25) (ls' := [(2, 23), (2, 91), (0, ((scF (w 92) (w 93) g : Nat) : Int)), (0, ((g : Nat) : Int) - 1), l4]) (st' := [(0, ((g : Nat) : Int) - 1)]) (w' := wS) (n' := 142) rfl ?_
    refine qG.br (P := ((g : Nat) : Int) - 1 < 0) (pc1 := 110) (pc2 := 28) (st1 := []) rfl (fun hg0 => ?_) (fun hg0 => ?_)
    · skip
      refine qG.retv rfl rfl ?_
      subst hQ9
      have hg00 : g = 0 := by omega
      subst hg00
      exact ⟨rfl, rfl, hIS, hSf, hH27, fun t b j hj => hgS t (Nat.zero_le _) b j hj⟩
    · skip
      obtain ⟨g9, rfl⟩ : ∃ g9, g = g9 + 1 := ⟨g - 1, by omega⟩
      rw [show ((g9 + 1 : Nat) : Int) - 1 = ((g9 : Nat) : Int) from by omega]
      have hdn : (if w 92 g9 = 2 then w 93 g9 else 1) = ((dN (w 92 g9) (w 93 g9) : Nat) : Int) := by have z := sc_s hKW (show g9 < L by omega); have y : ((scF (w 92) (w 93) (g9 + 1) : Nat) : Int) = ((scF (w 92) (w 93) g9 : Nat) : Int) + ((dN (w 92 g9) (w 93 g9) : Nat) : Int) := rfl; omega
      have hd20 : dN (w 92 g9) (w 93 g9) ≤ 20 := by have q := hKW g9 (by omega); by_cases y : w 92 g9 = 2; rw [if_pos y] at hdn; have := q y; omega; rw [if_neg y] at hdn; omega
      have hsc := sc_le hKW g9 (by omega)
      have hsL := scF_le (K := w 92) (N := w 93) (show g9 + 1 ≤ L by omega)
      have hs1 : scF (w 92) (w 93) (g9 + 1) = scF (w 92) (w 93) g9 + dN (w 92 g9) (w 93 g9) := rfl
      refine qG.blk 2 (pc' := 32) (ls' := [(2, 23), (2, 91), (0, ((scF (w 92) (w 93) (g9 + 1) : Nat) : Int)), (0, ((g9 : Nat) : Int)), l4]) (st' := [(2, wS 23 0)]) (w' := wS) (n' := 142) rfl ?_
      rw [show wS 23 0 = 24 from (hSf 23 0 (by decide)).trans (zref hI rfl rfl)]
      refine qG.blk 2 (pc' := 34) (ls' := [(2, 23), (2, 91), (0, ((scF (w 92) (w 93) (g9 + 1) : Nat) : Int)), (0, ((g9 : Nat) : Int)), l4]) (st' := [(0, ((g9 : Nat) : Int)), (2, 91), (2, 24)]) (w' := wS) (n' := 142) rfl ?_
      refine qG.call (t := 115) (na := 2) (sk := 1) (md := 1) (ls1 := [(2, 91), (0, ((g9 : Nat) : Int))]) (r1 := [(2, 24)]) rfl rfl rfl rfl rfl (K_vwOf91 (Nat.zero_le _) g9 L hL wS hIS ((hSf 91 2 (by decide)).trans hs) (by omega)) ?_
      rintro _ w7 _ ⟨rfl, hw7, rfl⟩
      rw [hw7, hSf 94 g9 (by decide)]
      show qG none (d + 1) 39 37 [(2, 23), (2, 91), (0, ((scF (w 92) (w 93) (g9 + 1) : Nat) : Int)), (0, ((g9 : Nat) : Int)), l4] [(0, w 94 g9), (2, 24)] wS 142 Q9
      refine qG.blk 2 (pc' := 41) (ls' := [(2, 23), (2, 91), (0, ((scF (w 92) (w 93) (g9 + 1) : Nat) : Int)), (0, ((g9 : Nat) : Int)), l4]) (st' := [(2, wS 23 3), (0, w 94 g9), (2, 24)]) (w' := wS) (n' := 142) rfl ?_
      rw [show wS 23 3 = 29 from (hSf 23 3 (by decide)).trans (zref hI rfl rfl)]
      refine qG.call (t := 103) (na := 3) (sk := 1) (md := 1) (ls1 := [(2, 24), (0, w 94 g9), (2, 29), (9, 0), (9, 0)]) (r1 := []) rfl rfl rfl rfl rfl (K_unseen29 (by omega) (w 94 g9) N hT.1 wS hIS hTS.2.1) ?_
      rintro _ wU _ ⟨rfl, rfl, hRU⟩
      have hIU := hRU.2.2
      have hUf : (∀ q j, ¬ (27 ≤ q ∧ q ≤ 30) → wU q j = w q j) := fun q j a => (hRU.2.1 q j (by omega)).trans (hSf q j a)
      have hU27 : HOLD wU 27 (gz N P M V (scF (w 92) (w 93) L) ((scF (w 92) (w 93) L) - (scF (w 92) (w 93) g9 + dN (w 92 g9) (w 93 g9)))) := fun j hj => by rw [hRU.o (by decide)]; exact hH27 j hj
      have hU29 : HOLD wU 29 (fun j => decide (j < N) && decide (qand (P j) (w 94 g9) = 0)) := fun j hj => by
        rw [show sb wU 29 j = (decide (j < N) && decide (qand (wS 25 j) (w 94 g9) = 0)) from hRU.1 j hj]
        show _ = (decide (j < N) && decide (qand (P j) (w 94 g9) = 0))
        by_cases hjN : j < N
        · rw [hTS.2.2.1 j hjN]
        · rw [decide_eq_false hjN, Bool.false_and, Bool.false_and]
      have hUg : ∀ t, scF (w 92) (w 93) g9 + dN (w 92 g9) (w 93 g9) ≤ t → t < (scF (w 92) (w 93) L) → ∀ j, j < 192 → gb wU t j = gd N P M V (scF (w 92) (w 93) L) t j := fun t a b j hj => by rw [show gb wU t j = gb wS t j from by unfold gb; rw [hRU.2.1 30 _ (by decide)]]; exact hgS t a b j hj
      show qG none (d + 1) 39 44 [(2, 23), (2, 91), (0, ((scF (w 92) (w 93) (g9 + 1) : Nat) : Int)), (0, ((g9 : Nat) : Int)), l4] [] wU 142 Q9
      refine qG.blk 2 (pc' := 46) (ls' := [(2, 23), (2, 91), (0, ((scF (w 92) (w 93) (g9 + 1) : Nat) : Int)), (0, ((g9 : Nat) : Int)), l4]) (st' := [(0, ((g9 : Nat) : Int)), (2, 91)]) (w' := wU) (n' := 142) rfl ?_
      refine qG.call (t := 114) (na := 2) (sk := 1) (md := 1) (ls1 := [(2, 91), (0, ((g9 : Nat) : Int))]) (r1 := []) rfl rfl rfl rfl rfl (K_secs91 (Nat.zero_le _) g9 L hL wU hIU ((hUf 91 2 (by decide)).trans hs) (by omega)) ?_
      rintro _ w7 _ ⟨rfl, hw7, rfl⟩
      rw [hw7, hUf 92 g9 (by decide), hUf 93 g9 (by decide), show (if w 92 g9 = 2 then w 93 g9 else 1) = ((dN (w 92 g9) (w 93 g9) : Nat) : Int) from hdn]
      show qG none (d + 1) 39 49 [(2, 23), (2, 91), (0, ((scF (w 92) (w 93) (g9 + 1) : Nat) : Int)), (0, ((g9 : Nat) : Int)), l4] [(0, ((dN (w 92 g9) (w 93 g9) : Nat) : Int))] wU 142 Q9
      refine qG.blk 1 (pc' := 51) (ls' := [(2, 23), (2, 91), (0, ((scF (w 92) (w 93) (g9 + 1) : Nat) : Int)), (0, ((g9 : Nat) : Int)), (0, ((dN (w 92 g9) (w 93 g9) : Nat) : Int))]) (st' := []) (w' := wU) (n' := 142) rfl ?_
      show qG none (d + 1) 39 51 [(2, 23), (2, 91), (0, ((scF (w 92) (w 93) g9 + dN (w 92 g9) (w 93 g9) : Nat) : Int)), (0, ((g9 : Nat) : Int)), (0, ((dN (w 92 g9) (w 93 g9) : Nat) : Int))] [] wU 142 Q9
      have L51 : ∀ (m9 : Nat) (u : Nat) (wQ : qW), u = m9 → (u ≤ dN (w 92 g9) (w 93 g9) ∧ (∀ q j, ¬ (27 ≤ q ∧ q ≤ 30) → wQ q j = w q j) ∧ yInv zgf zga zra zSp wQ ∧ HOLD wQ 27 (gz N P M V (scF (w 92) (w 93) L) ((scF (w 92) (w 93) L) - (scF (w 92) (w 93) g9 + u))) ∧ HOLD wQ 29 (fun j => decide (j < N) && decide (qand (P j) (w 94 g9) = 0)) ∧ ∀ t, scF (w 92) (w 93) g9 + u ≤ t → t < (scF (w 92) (w 93) L) → ∀ j, j < 192 → gb wQ t j = gd N P M V (scF (w 92) (w 93) L) t j) → qG none (d + 1) 39 51 [(2, 23), (2, 91), (0, ((scF (w 92) (w 93) g9 + u : Nat) : Int)), (0, ((g9 : Nat) : Int)), (0, ((u : Nat) : Int))] [] wQ 142 Q9 := by
        intro m9
        induction m9 using Nat.strongRecOn with
        | ind m9 ih51 =>
        intro u wQ hm51 hI51
        obtain ⟨hud, hQf, hIQ, hQ27, hQ29, hQg⟩ := hI51
        refine qG.blk 1 (pc' := 53) (ls' := [(2, 23), (2, 91), (0, ((scF (w 92) (w 93) g9 + u : Nat) : Int)), (0, ((g9 : Nat) : Int)), (0, ((u : Nat) : Int))]) (st' := [(0, ((u : Nat) : Int))]) (w' := wQ) (n' := 142) rfl ?_
        refine qG.br (P := 0 < ((u : Nat) : Int)) (pc1 := 56) (pc2 := 104) (st1 := []) rfl (fun hu5 => ?_) (fun hu5 => ?_)
        · skip
          obtain ⟨u9, rfl⟩ : ∃ u9, u = u9 + 1 := ⟨u - 1, by omega⟩
          refine qG.blk 1 (pc' := 59) (ls' := [(2, 23), (2, 91), (0, wrp (((scF (w 92) (w 93) g9 + (u9 + 1) : Nat) : Int) + (-1))), (0, ((g9 : Nat) : Int)), (0, ((u9 + 1 : Nat) : Int))]) (st' := []) (w' := wQ) (n' := 142) rfl ?_
          rw [show wrp (((scF (w 92) (w 93) g9 + (u9 + 1) : Nat) : Int) + (-1)) = ((scF (w 92) (w 93) g9 + u9 : Nat) : Int) from by rw [wrp_id (by omega) (by omega)]; omega]
          refine qG.blk 2 (pc' := 63) (ls' := [(2, 23), (2, 91), (0, ((scF (w 92) (w 93) g9 + u9 : Nat) : Int)), (0, ((g9 : Nat) : Int)), (0, ((u9 + 1 : Nat) : Int))]) (st' := [(2, wQ 23 1)]) (w' := wQ) (n' := 142) rfl ?_
          rw [show wQ 23 1 = 27 from (hQf 23 1 (by decide)).trans (zref hI rfl rfl)]
          refine qG.blk 2 (pc' := 67) (ls' := [(2, 23), (2, 91), (0, ((scF (w 92) (w 93) g9 + u9 : Nat) : Int)), (0, ((g9 : Nat) : Int)), (0, ((u9 + 1 : Nat) : Int))]) (st' := [(2, wQ 23 3), (2, 27)]) (w' := wQ) (n' := 142) rfl ?_
          rw [show wQ 23 3 = 29 from (hQf 23 3 (by decide)).trans (zref hI rfl rfl)]
          refine qG.blk 2 (pc' := 71) (ls' := [(2, 23), (2, 91), (0, ((scF (w 92) (w 93) g9 + u9 : Nat) : Int)), (0, ((g9 : Nat) : Int)), (0, ((u9 + 1 : Nat) : Int))]) (st' := [(2, wQ 23 2), (2, 29), (2, 27)]) (w' := wQ) (n' := 142) rfl ?_
          rw [show wQ 23 2 = 28 from (hQf 23 2 (by decide)).trans (zref hI rfl rfl)]
          refine qG.call (t := 49) (na := 3) (sk := 0) (md := 0) (ls1 := [(2, 27), (2, 29), (2, 28), (9, 0)]) (r1 := []) rfl rfl rfl rfl rfl (K_keep27_29_28 (by omega) wQ hIQ) ?_
          rintro _ wA _ ⟨rfl, rfl, hRA⟩
          have hIA := hRA.2.2
          have hAf : (∀ q j, ¬ (27 ≤ q ∧ q ≤ 30) → wA q j = w q j) := fun q j a => (hRA.2.1 q j (by omega)).trans (hQf q j a)
          have hA28 : HOLD wA 28 (gd N P M V (scF (w 92) (w 93) L) (scF (w 92) (w 93) g9 + u9)) := fun j hj => by
            rw [hRA.1 j hj]
            show (sb wQ 27 j && sb wQ 29 j) = _
            rw [hQ27 j hj, show sb wQ 29 j = (decide (j < N) && decide (qand (P j) (w 94 g9) = 0)) from hQ29 j hj]
            unfold gd
            rw [hVV g9 (by omega) u9 (by omega), Nat.add_assoc]
            by_cases hjN : j < N
            · rw [decide_eq_true hjN, Bool.true_and]
            · rw [gz_N hjN]; rfl
          show qG none (d + 1) 39 74 [(2, 23), (2, 91), (0, ((scF (w 92) (w 93) g9 + u9 : Nat) : Int)), (0, ((g9 : Nat) : Int)), (0, ((u9 + 1 : Nat) : Int))] [] wA 142 Q9
          refine qG.blk 4 (pc' := 80) (ls' := [(2, 23), (2, 91), (0, ((scF (w 92) (w 93) g9 + u9 : Nat) : Int)), (0, ((g9 : Nat) : Int)), (0, ((u9 + 1 : Nat) : Int))]) (st' := [(2, wA 23 2), (0, ((scF (w 92) (w 93) g9 + u9 : Nat) : Int)), (2, 23)]) (w' := wA) (n' := 142) rfl ?_
          rw [show wA 23 2 = 28 from (hAf 23 2 (by decide)).trans (zref hI rfl rfl)]
          refine qG.call (t := 40) (na := 3) (sk := 1) (md := 1) (ls1 := [(2, 23), (0, ((scF (w 92) (w 93) g9 + u9 : Nat) : Int)), (2, 28), (9, 0), (9, 0)]) (r1 := []) rfl rfl rfl rfl rfl (K_wrGood (by omega) (scF (w 92) (w 93) g9 + u9) (by omega) wA hIA) ?_
          rintro _ wB _ ⟨rfl, rfl, hRB⟩
          have hIB := hRB.2.2
          have hBf : (∀ q j, ¬ (27 ≤ q ∧ q ≤ 30) → wB q j = w q j) := fun q j a => (hRB.2.1 q j (by omega)).trans (hAf q j a)
          have hB28 : HOLD wB 28 (gd N P M V (scF (w 92) (w 93) L) (scF (w 92) (w 93) g9 + u9)) := fun j hj => by rw [show sb wB 28 j = sb wA 28 j from by unfold sb; rw [hRB.2.1 28 _ (by decide)]]; exact hA28 j hj
          have hTB := hT.cg (w1 := wB) (fun q j h => hBf q j (by omega))
          show qG none (d + 1) 39 83 [(2, 23), (2, 91), (0, ((scF (w 92) (w 93) g9 + u9 : Nat) : Int)), (0, ((g9 : Nat) : Int)), (0, ((u9 + 1 : Nat) : Int))] [] wB 142 Q9
          refine qG.blk 2 (pc' := 87) (ls' := [(2, 23), (2, 91), (0, ((scF (w 92) (w 93) g9 + u9 : Nat) : Int)), (0, ((g9 : Nat) : Int)), (0, ((u9 + 1 : Nat) : Int))]) (st' := [(2, wB 23 0)]) (w' := wB) (n' := 142) rfl ?_
          rw [show wB 23 0 = 24 from (hBf 23 0 (by decide)).trans (zref hI rfl rfl)]
          refine qG.blk 2 (pc' := 91) (ls' := [(2, 23), (2, 91), (0, ((scF (w 92) (w 93) g9 + u9 : Nat) : Int)), (0, ((g9 : Nat) : Int)), (0, ((u9 + 1 : Nat) : Int))]) (st' := [(2, wB 23 2), (2, 24)]) (w' := wB) (n' := 142) rfl ?_
          rw [show wB 23 2 = 28 from (hBf 23 2 (by decide)).trans (zref hI rfl rfl)]
          refine qG.blk 2 (pc' := 95) (ls' := [(2, 23), (2, 91), (0, ((scF (w 92) (w 93) g9 + u9 : Nat) : Int)), (0, ((g9 : Nat) : Int)), (0, ((u9 + 1 : Nat) : Int))]) (st' := [(2, wB 23 1), (2, 28), (2, 24)]) (w' := wB) (n' := 142) rfl ?_
          rw [show wB 23 1 = 27 from (hBf 23 1 (by decide)).trans (zref hI rfl rfl)]
          refine qG.call (t := 101) (na := 3) (sk := 1) (md := 1) (ls1 := [(2, 24), (2, 28), (2, 27), (9, 0), (9, 0), (9, 0), (9, 0), (9, 0), (9, 0), (9, 0), (9, 0), (9, 0), (9, 0), (9, 0)]) (r1 := []) rfl rfl rfl rfl rfl (K_spread28_27 (by omega) wB hIB) ?_
          rintro _ wC _ ⟨rfl, rfl, hRC⟩
          have hIC := hRC.2.2
          have hCf : (∀ q j, ¬ (27 ≤ q ∧ q ≤ 30) → wC q j = w q j) := fun q j a => (hRC.2.1 q j (by omega)).trans (hBf q j a)
          have hC27 : HOLD wC 27 (gz N P M V (scF (w 92) (w 93) L) ((scF (w 92) (w 93) L) - (scF (w 92) (w 93) g9 + u9))) := fun j hj => by
            rw [show sb wC 27 j = spF wB 28 j 192 from hRC.1 j hj, hB28.sp hTB (fun j hj => by unfold gd; rw [gz_N hj]; rfl) hj, gz_t (by omega)]
            by_cases hjN : j < N
            · rw [decide_eq_true hjN, Bool.true_and, Bool.true_and, Bool.eq_iff_iff, exN_iff, exN_iff]
              constructor <;> (rintro ⟨i, a, b⟩; refine ⟨i, a, ?_⟩; simp only [hsy i j a hjN] at *; exact b)
            · rw [decide_eq_false hjN, Bool.false_and, Bool.false_and]
          have hC29 : HOLD wC 29 (fun j => decide (j < N) && decide (qand (P j) (w 94 g9) = 0)) := fun j hj => by rw [hRC.o (by decide), show sb wB 29 j = sb wQ 29 j from by unfold sb; rw [hRB.2.1 29 _ (by decide), hRA.2.1 29 _ (by decide)]]; exact hQ29 j hj
          have hCg : ∀ t, scF (w 92) (w 93) g9 + u9 ≤ t → t < (scF (w 92) (w 93) L) → ∀ j, j < 192 → gb wC t j = gd N P M V (scF (w 92) (w 93) L) t j := fun t a b j hj => by
            rw [show gb wC t j = gb wB t j from by unfold gb; rw [hRC.2.1 30 _ (by decide)], hRB.1 t j hj]
            by_cases e : t = scF (w 92) (w 93) g9 + u9
            · rw [if_pos e, e]; exact hA28 j hj
            · rw [if_neg e, show gb wA t j = gb wQ t j from by unfold gb; rw [hRA.2.1 30 _ (by decide)]]; exact hQg t (by omega) b j hj
          show qG none (d + 1) 39 98 [(2, 23), (2, 91), (0, ((scF (w 92) (w 93) g9 + u9 : Nat) : Int)), (0, ((g9 : Nat) : Int)), (0, ((u9 + 1 : Nat) : Int))] [] wC 142 Q9
          refine qG.blk 1 (pc' := 101) (ls' := [(2, 23), (2, 91), (0, ((scF (w 92) (w 93) g9 + u9 : Nat) : Int)), (0, ((g9 : Nat) : Int)), (0, wrp (((u9 + 1 : Nat) : Int) + (-1)))]) (st' := []) (w' := wC) (n' := 142) rfl ?_
          rw [show wrp (((u9 + 1 : Nat) : Int) + (-1)) = ((u9 : Nat) : Int) from by rw [wrp_id (by omega) (by omega)]; omega]
          refine qG.blk 1 (pc' := 51) (ls' := [(2, 23), (2, 91), (0, ((scF (w 92) (w 93) g9 + u9 : Nat) : Int)), (0, ((g9 : Nat) : Int)), (0, ((u9 : Nat) : Int))]) (st' := []) (w' := wC) (n' := 142) rfl ?_
          exact ih51 _ (by omega) (u9) (wC) rfl (⟨by omega, hCf, hIC, hC27, hC29, hCg⟩)
        · skip
          refine qG.blk 1 (pc' := 107) (ls' := [(2, 23), (2, 91), (0, ((scF (w 92) (w 93) g9 + u : Nat) : Int)), (0, wrp (((g9 : Nat) : Int) + (-1))), (0, ((u : Nat) : Int))]) (st' := []) (w' := wQ) (n' := 142) rfl ?_
          rw [show wrp (((g9 : Nat) : Int) + (-1)) = ((g9 : Nat) : Int) - 1 from by rw [wrp_id (by omega) (by omega)]; omega]
          refine qG.blk 1 (pc' := 24) (ls' := [(2, 23), (2, 91), (0, ((scF (w 92) (w 93) g9 + u : Nat) : Int)), (0, ((g9 : Nat) : Int) - 1), (0, ((u : Nat) : Int))]) (st' := []) (w' := wQ) (n' := 142) rfl ?_
          have hu0 : u = 0 := by omega
          subst hu0
          exact ih24 _ (by omega) g9 wQ _ rfl ⟨by omega, hQf, hIQ, hQ27, hQg⟩
      exact L51 _ (dN (w 92 g9) (w 93 g9)) (wU) rfl (⟨Nat.le_refl _, hUf, hIU, hU27, hU29, hUg⟩)
  exact L24 _ (L) (w1) ((9, 0)) rfl (⟨Nat.le_refl _, h1f, hI1, by rw [Nat.sub_self]; exact h127, fun t a b => absurd b (by omega)⟩)
