/-! the reference's isGoing, leadsBack -/
theorem shs32 : ∀ s : Nat, s < 32 → ((Int32.ofInt (s : Int) &&& 31).toBitVec.smod 32).toNat = s := by decide +kernel
theorem hbit_b {x : Int} {s : Nat} (hs : s < 32) : hbit x s = (Int32.ofInt x).toBitVec.getLsbD s := by
  unfold hbit qand qshr
  rw [Int32.ofInt_toInt]
  have e : (Int32.ofInt x >>> (Int32.ofInt (s : Int) &&& 31)).toBitVec.getLsbD 0 = (Int32.ofInt x).toBitVec.getLsbD s := by
    rw [Int32.toBitVec_shiftRight, BitVec.sshiftRight', shs32 s hs, BitVec.getLsbD_sshiftRight]
    simp [hs]
  rw [← e]
  generalize Int32.ofInt x >>> (Int32.ofInt (s : Int) &&& 31) = z
  have h2 : (z &&& Int32.ofInt 1).toBitVec = if z.toBitVec.getLsbD 0 = true then 1#32 else 0#32 := by
    rw [Int32.toBitVec_and]
    apply BitVec.eq_of_getLsbD_eq
    intro i hi
    rw [BitVec.getLsbD_and]
    have h3 : (Int32.ofInt 1).toBitVec = 1#32 := rfl
    rw [h3, BitVec.getLsbD_one]
    by_cases hi0 : i = 0
    · subst hi0; cases z.toBitVec.getLsbD 0 <;> simp
    · cases z.toBitVec.getLsbD 0 <;> simp [hi0, BitVec.getLsbD_one]
  have h4 : (z &&& Int32.ofInt 1).toInt = if z.toBitVec.getLsbD 0 = true then 1 else 0 := by
    show (z &&& Int32.ofInt 1).toBitVec.toInt = _
    rw [h2]
    split <;> rfl
  rw [h4]
  cases z.toBitVec.getLsbD 0 <;> rfl
theorem hbit_or {x y : Int} {s : Nat} (hs : s < 32) : hbit (qor x y) s = (hbit x s || hbit y s) := by
  rw [hbit_b hs, hbit_b hs, hbit_b hs]
  unfold qor
  rw [Int32.ofInt_toInt, Int32.toBitVec_or, BitVec.getLsbD_or]
theorem hbit_1 : ∀ r : Nat, r < 32 → ∀ s : Nat, s < 32 → hbit (qshl 1 (r : Int)) s = decide (r = s) := by decide +kernel
theorem hbit_z : ∀ s : Nat, s < 32 → hbit 0 s = false := by decide +kernel
theorem lbd : ∀ i : Nat, i < 1820 → qdiv (i : Int) 32 = ((i / 32 : Nat) : Int) ∧ qrem (i : Int) 32 = ((i % 32 : Nat) : Int) := by decide +kernel
noncomputable def goB (w : qW) (t i : Nat) : Bool := hbit (w 119 (57 * t + i / 32)) (i % 32)
theorem K_isGoing {d : Nat} (hd : 0 ≤ d) (t i : Nat) (ht : t < 900) (hi : i < 1820) (w : qW) (hI : yInv zgf zga zra zSp w) : qG none d 259 0 [(2, 95), (0, ((t : Nat) : Int)), (0, ((i : Nat) : Int))] [] w 142 (fun (r : qV) (w1 : qW) (n1 : Nat) => r = (0, b01 (goB w t i)) ∧ w1 = w ∧ n1 = 142) := by
  generalize hQ9 : (fun (r : qV) (w1 : qW) (n1 : Nat) => r = (0, b01 (goB w t i)) ∧ w1 = w ∧ n1 = 142) = Q9
  refine qG.blk 2 (pc' := 4) (ls' := [(2, 95), (0, ((t : Nat) : Int)), (0, ((i : Nat) : Int))]) (st' := [(2, w 95 47)]) (w' := w) (n' := 142) rfl ?_
  rw [show w 95 47 = 119 from zref hI rfl rfl]
  refine qG.blk 3 (pc' := 8) (ls' := [(2, 95), (0, ((t : Nat) : Int)), (0, ((i : Nat) : Int))]) (st' := [(0, wrp (57 * ((t : Nat) : Int))), (2, 119)]) (w' := w) (n' := 142) rfl ?_
  rw [show wrp (57 * ((t : Nat) : Int)) = ((57 * t : Nat) : Int) from by rw [wrp_id (by omega) (by omega)]; omega]
  refine qG.blk 2 (pc' := 11) (ls' := [(2, 95), (0, ((t : Nat) : Int)), (0, ((i : Nat) : Int))]) (st' := [(0, 32), (0, ((i : Nat) : Int)), (0, ((57 * t : Nat) : Int)), (2, 119)]) (w' := w) (n' := 142) rfl ?_
  refine qG.gn (P := 32 = 0) (pc' := 12) (ls' := [(2, 95), (0, ((t : Nat) : Int)), (0, ((i : Nat) : Int))]) (st' := [(0, qdiv ((i : Nat) : Int) 32), (0, ((57 * t : Nat) : Int)), (2, 119)]) (w' := w) (n' := 142) rfl (by decide) ?_
  rw [show qdiv ((i : Nat) : Int) 32 = ((i / 32 : Nat) : Int) from (lbd i hi).1]
  refine qG.blk 1 (pc' := 13) (ls' := [(2, 95), (0, ((t : Nat) : Int)), (0, ((i : Nat) : Int))]) (st' := [(0, wrp (((57 * t : Nat) : Int) + ((i / 32 : Nat) : Int))), (2, 119)]) (w' := w) (n' := 142) rfl ?_
  rw [show wrp (((57 * t : Nat) : Int) + ((i / 32 : Nat) : Int)) = ((57 * t + i / 32 : Nat) : Int) from by rw [wrp_id (by omega) (by omega)]; omega]
  refine qG.ild (m := 51300) rfl rfl (by omega) (by decide) ?_
  show qG none d 259 14 [(2, 95), (0, ((t : Nat) : Int)), (0, ((i : Nat) : Int))] [(0, w 119 (57 * t + i / 32))] w 142 Q9
  refine qG.blk 2 (pc' := 17) (ls' := [(2, 95), (0, ((t : Nat) : Int)), (0, ((i : Nat) : Int))]) (st' := [(0, 32), (0, ((i : Nat) : Int)), (0, w 119 (57 * t + i / 32))]) (w' := w) (n' := 142) rfl ?_
  refine qG.gn (P := 32 = 0) (pc' := 18) (ls' := [(2, 95), (0, ((t : Nat) : Int)), (0, ((i : Nat) : Int))]) (st' := [(0, qrem ((i : Nat) : Int) 32), (0, w 119 (57 * t + i / 32))]) (w' := w) (n' := 142) rfl (by decide) ?_
  rw [show qrem ((i : Nat) : Int) 32 = ((i % 32 : Nat) : Int) from (lbd i hi).2]
  refine qG.blk 4 (pc' := 22) (ls' := [(2, 95), (0, ((t : Nat) : Int)), (0, ((i : Nat) : Int))]) (st' := [(0, 1), (0, qand (qshr (w 119 (57 * t + i / 32)) ((i % 32 : Nat) : Int)) 1)]) (w' := w) (n' := 142) rfl ?_
  refine qG.br (P := qand (qshr (w 119 (57 * t + i / 32)) ((i % 32 : Nat) : Int)) 1 = 1) (pc1 := 25) (pc2 := 29) (st1 := []) rfl (fun hgo => ?_) (fun hgo => ?_)
  · skip
    refine qG.blk 2 (pc' := 30) (ls' := [(2, 95), (0, ((t : Nat) : Int)), (0, ((i : Nat) : Int))]) (st' := [(0, 1)]) (w' := w) (n' := 142) rfl ?_
    refine qG.ret rfl (by first | rfl | exact decide_eq_true (by omega)) ?_
    subst hQ9
    exact ⟨by first | (rw [show goB w t i = true from decide_eq_true hgo]; rfl) | (rw [show goB w t i = false from decide_eq_false hgo]; rfl), rfl, rfl⟩
  · skip
    refine qG.blk 1 (pc' := 30) (ls' := [(2, 95), (0, ((t : Nat) : Int)), (0, ((i : Nat) : Int))]) (st' := [(0, 0)]) (w' := w) (n' := 142) rfl ?_
    refine qG.ret rfl (by first | rfl | exact decide_eq_true (by omega)) ?_
    subst hQ9
    exact ⟨by first | (rw [show goB w t i = true from decide_eq_true hgo]; rfl) | (rw [show goB w t i = false from decide_eq_false hgo]; rfl), rfl, rfl⟩
/-- who can go on for the last u seconds of S -/
noncomputable def gF (w : qW) (S : Nat) : Nat → Nat → Bool
  | 0, _ => true
  | u + 1, i => anyF (fun j => gF w S u j && clF w (S - (u + 1)) j) (nxF w i) (w 102 i).toNat
noncomputable def gK (w : qW) (S u t i k : Nat) : Bool := decide (u = 0) || anyF (fun j => gF w S (u - 1) j && clF w t j) (nxF w i) k
theorem gK_F {w : qW} {S u t i : Nat} (h : (t : Int) = (S : Int) - (u : Int)) : gK w S u t i (w 102 i).toNat = gF w S u i := by
  cases u with
  | zero => rfl
  | succ u =>
    unfold gK
    rw [show t = S - (u + 1) by omega]
    rfl
theorem gK_E {w : qW} {S u t i k : Nat} (h : (t : Int) = (S : Int) - (u : Int)) (hk : (k : Int) ≤ w 102 i) (hx : (¬ (k : Int) < w 102 i) ∨ gK w S u t i k = true) : gK w S u t i k = gF w S u i := by
  rw [← gK_F h]
  rcases hx with hx | hx
  · rw [show (w 102 i).toNat = k by omega]
  · rw [hx]
    unfold gK at hx ⊢
    rw [Bool.or_eq_true] at hx
    rcases hx with hx | hx
    · rw [hx]; rfl
    · rw [anyF_le hx _ (by omega), Bool.or_true]
theorem gK_0 {w : qW} {S u t i k : Nat} (h : gK w S u t i k = false) : u ≠ 0 ∧ gK w S u t i (k + 1) = (gF w S (u - 1) (nxF w i k) && clF w t (nxF w i k)) := by
  unfold gK at h ⊢
  rw [Bool.or_eq_false_iff, decide_eq_false_iff_not] at h
  refine ⟨h.1, ?_⟩
  show (_ || (anyF _ _ k || _)) = _
  rw [decide_eq_false h.1, h.2, Bool.false_or, Bool.false_or]
noncomputable def lbW (w w9 : qW) : Prop := (∀ p j, p ≠ 119 → w9 p j = w p j) ∧ yInv zgf zga zra zSp w9
theorem lbW.up {w w9 : qW} {j : Nat} {v : Int} (h : lbW w w9) (hv : -2147483648 ≤ v ∧ v ≤ 2147483647) : lbW w (qup w9 119 j v) := ⟨fun p j hp => by rw [qup_ne hp]; exact h.1 p j hp, zup_a h.2 (b := (-2147483648, 2147483647)) rfl rfl hv⟩
/-- the rows of the seconds after t are laid -/
noncomputable def lbR (w : qW) (S N u : Nat) (w9 : qW) : Prop := ∀ u2 i, u2 < u → i < N → goB w9 (S - u2) i = gF w S u2 i
theorem lbR.up {w w9 : qW} {S N u t q : Nat} {v : Int} (h : lbR w S N u w9) (ht : (t : Int) = (S : Int) - (u : Int)) (hq : q < 57) : lbR w S N u (qup w9 119 (57 * t + q) v) := fun u2 i hu hi => by
  rw [← h u2 i hu hi]
  unfold goB
  rw [qup_j (by omega)]
theorem goB_set {w : qW} {t i j : Nat} (hi : i < 1820) (hj : j < 1820) : goB (qup w 119 (57 * t + i / 32) (qor (w 119 (57 * t + i / 32)) (qshl 1 ((i % 32 : Nat) : Int)))) t j = (goB w t j || decide (i = j)) := by
  unfold goB
  by_cases e : i / 32 = j / 32
  · rw [e, qup_k, hbit_or (Nat.mod_lt _ (by decide)), hbit_1 _ (Nat.mod_lt _ (by decide)) _ (Nat.mod_lt _ (by decide))]
    congr 1
    by_cases e2 : i = j
    · rw [e2, decide_eq_true rfl, decide_eq_true rfl]
    · rw [decide_eq_false e2, decide_eq_false (by omega)]
  · rw [qup_j (by omega), decide_eq_false (by omega), Bool.or_false]
theorem goB_n {w : qW} {t : Nat} (h : ∀ k, k < 57 → w 119 (57 * t + k) = 0) {j : Nat} (hj : j < 1820) : goB w t j = false := by
  unfold goB
  rw [h (j / 32) (by omega), hbit_z _ (Nat.mod_lt _ (by decide))]
theorem lbR.nx {w w9 : qW} {S N u t : Nat} (h : lbR w S N u w9) (ht : (t : Int) = (S : Int) - (u : Int)) (hr : ∀ j, j < N → goB w9 t j = gF w S u j) : lbR w S N (u + 1) w9 := fun u2 i hu hi => by
  by_cases e : u2 = u
  · subst e; rw [show S - u2 = t by omega]; exact hr i hi
  · exact h u2 i (by omega) hi
theorem rows.z {w : qW} {t k : Nat} (h : ∀ q, q < k → w 119 (57 * t + q) = 0) : ∀ q, q < k + 1 → qup w 119 (57 * t + k) 0 119 (57 * t + q) = 0 := fun q hq => by
  by_cases e : q = k
  · subst e; rw [qup_k]
  · rw [qup_j (by omega)]; exact h q (by omega)
theorem rows.g {f g : Nat → Bool} {i : Nat} (h : ∀ j, j < i → f j = g j) (hv : f i = g i) : ∀ j, j < i + 1 → f j = g j := fun j hj => by
  by_cases e : j = i
  · subst e; exact hv
  · exact h j (by omega)
theorem K_leadsBack {d : Nat} (hd : 1 ≤ d) (N S : Nat) (w : qW) (hI : yInv zgf zga zra zSp w) (hS : S3 w) (hN : w 95 8 = (N : Int)) (hSS : w 95 37 = (S : Int)) : qG none d 260 0 [(2, 95), (9, 0), (9, 0), (9, 0), (9, 0)] [] w 142 (fun (r : qV) (w1 : qW) (n1 : Nat) => r = (9, 0) ∧ n1 = 142 ∧ lbW w w1 ∧ ∀ u i, u ≤ S → i < N → goB w1 (S - u) i = gF w S u i) := by
  generalize hQ9 : (fun (r : qV) (w1 : qW) (n1 : Nat) => r = (9, 0) ∧ n1 = 142 ∧ lbW w w1 ∧ ∀ u i, u ≤ S → i < N → goB w1 (S - u) i = gF w S u i) = Q9
  have h8 := zfld hI (j := 8) (b := (0, 1820)) rfl
  have h37 := zfld hI (j := 37) (b := (0, 800)) rfl
  have a8 : (0 : Int) ≤ w 95 8 := h8.1
  have b8 : w 95 8 ≤ (1820 : Int) := h8.2
  have a37 : (0 : Int) ≤ w 95 37 := h37.1
  have b37 : w 95 37 ≤ (800 : Int) := h37.2
  have hm2 : ∀ i, (0 : Int) ≤ w 102 i ∧ w 102 i ≤ 50 := fun i => hI.2.1 102 i (0, 50) rfl rfl
  obtain ⟨d, rfl⟩ : ∃ d9, d = d9 + 1 := ⟨d - 1, by omega⟩
  refine qG.blk 2 (pc' := 4) (ls' := [(2, 95), (9, 0), (9, 0), (9, 0), (9, 0)]) (st' := [(0, w 95 37)]) (w' := w) (n' := 142) rfl ?_
  rw [show w 95 37 = ((S : Nat) : Int) from hSS]
  refine qG.blk 1 (pc' := 5) (ls' := [(2, 95), (0, ((S : Nat) : Int)), (9, 0), (9, 0), (9, 0)]) (st' := []) (w' := w) (n' := 142) rfl ?_
  have L5 : ∀ (m9 : Nat) (u : Nat) (x1 : Int) (w9 : qW) (x2 x3 x4 : qV), S + 1 - u = m9 → (x1 = (S : Int) - (u : Int) ∧ u ≤ S + 1 ∧ lbW w w9 ∧ lbR w S N u w9) → qG none (d + 1) 260 5 [(2, 95), (0, x1), x2, x3, x4] [] w9 142 Q9 := by
    intro m9
    induction m9 using Nat.strongRecOn with
    | ind m9 ih5 =>
    intro u x1 w9 x2 x3 x4 hm5 hI5
    refine qG.blk 1 (pc' := 6) (ls' := [(2, 95), (0, x1), x2, x3, x4]) (st' := [(0, x1)]) (w' := w9) (n' := 142) rfl ?_
    refine qG.br (P := x1 < 0) (pc1 := 177) (pc2 := 9) (st1 := []) rfl (fun ht0 => ?_) (fun ht0 => ?_)
    · skip
      refine qG.retv rfl rfl ?_
      subst hQ9
      exact ⟨rfl, rfl, hI5.2.2.1, fun u2 i h1 h2 => hI5.2.2.2 u2 i (by omega) h2⟩
    · skip
      obtain ⟨t, rfl⟩ : ∃ t : Nat, x1 = (t : Int) := ⟨x1.toNat, by omega⟩
      have ht : (t : Int) = (S : Int) - (u : Int) := hI5.1
      refine qG.blk 2 (pc' := 11) (ls' := [(2, 95), (0, ((t : Nat) : Int)), (0, 0), x3, x4]) (st' := []) (w' := w9) (n' := 142) rfl ?_
      have L11 : ∀ (m9 : Nat) (k : Nat) (w8 : qW), 57 - k = m9 → (k ≤ 57 ∧ lbW w w8 ∧ (∀ q, q < k → w8 119 (57 * t + q) = 0) ∧ lbR w S N u w8) → qG none (d + 1) 260 11 [(2, 95), (0, ((t : Nat) : Int)), (0, ((k : Nat) : Int)), x3, x4] [] w8 142 Q9 := by
        intro m9
        induction m9 using Nat.strongRecOn with
        | ind m9 ih11 =>
        intro k w8 hm11 hI11
        refine qG.blk 2 (pc' := 14) (ls' := [(2, 95), (0, ((t : Nat) : Int)), (0, ((k : Nat) : Int)), x3, x4]) (st' := [(0, 57), (0, ((k : Nat) : Int))]) (w' := w8) (n' := 142) rfl ?_
        refine qG.br (P := ((k : Nat) : Int) < 57) (pc1 := 17) (pc2 := 35) (st1 := []) rfl (fun hk57 => ?_) (fun hk57 => ?_)
        · skip
          refine qG.blk 2 (pc' := 21) (ls' := [(2, 95), (0, ((t : Nat) : Int)), (0, ((k : Nat) : Int)), x3, x4]) (st' := [(2, w8 95 47)]) (w' := w8) (n' := 142) rfl ?_
          rw [show w8 95 47 = 119 from zref hI11.2.1.2 rfl rfl]
          refine qG.blk 3 (pc' := 25) (ls' := [(2, 95), (0, ((t : Nat) : Int)), (0, ((k : Nat) : Int)), x3, x4]) (st' := [(0, wrp (57 * ((t : Nat) : Int))), (2, 119)]) (w' := w8) (n' := 142) rfl ?_
          rw [show wrp (57 * ((t : Nat) : Int)) = ((57 * t : Nat) : Int) from by rw [wrp_id (by omega) (by omega)]; omega]
          refine qG.blk 2 (pc' := 27) (ls' := [(2, 95), (0, ((t : Nat) : Int)), (0, ((k : Nat) : Int)), x3, x4]) (st' := [(0, wrp (((57 * t : Nat) : Int) + ((k : Nat) : Int))), (2, 119)]) (w' := w8) (n' := 142) rfl ?_
          rw [show wrp (((57 * t : Nat) : Int) + ((k : Nat) : Int)) = ((57 * t + k : Nat) : Int) from by rw [wrp_id (by omega) (by omega)]; omega]
          refine qG.blk 1 (pc' := 28) (ls' := [(2, 95), (0, ((t : Nat) : Int)), (0, ((k : Nat) : Int)), x3, x4]) (st' := [(0, 0), (0, ((57 * t + k : Nat) : Int)), (2, 119)]) (w' := w8) (n' := 142) rfl ?_
          refine qG.ist (m := 51300) rfl rfl (by omega) (by decide) ?_
          show qG none (d + 1) 260 29 [(2, 95), (0, ((t : Nat) : Int)), (0, ((k : Nat) : Int)), x3, x4] [] (qup w8 119 (57 * t + k) 0) 142 Q9
          refine qG.blk 1 (pc' := 32) (ls' := [(2, 95), (0, ((t : Nat) : Int)), (0, wrp (((k : Nat) : Int) + 1)), x3, x4]) (st' := []) (w' := (qup w8 119 (57 * t + k) 0)) (n' := 142) rfl ?_
          rw [show wrp (((k : Nat) : Int) + 1) = ((k + 1 : Nat) : Int) from wrp_id (by omega) (by omega)]
          refine qG.blk 1 (pc' := 11) (ls' := [(2, 95), (0, ((t : Nat) : Int)), (0, ((k + 1 : Nat) : Int)), x3, x4]) (st' := []) (w' := (qup w8 119 (57 * t + k) 0)) (n' := 142) rfl ?_
          exact ih11 _ (by omega) (k + 1) ((qup w8 119 (57 * t + k) 0)) rfl (⟨by omega, hI11.2.1.up (by decide), rows.z hI11.2.2.1, hI11.2.2.2.up ht (by omega)⟩)
        · skip
          refine qG.blk 2 (pc' := 37) (ls' := [(2, 95), (0, ((t : Nat) : Int)), (0, 0), x3, x4]) (st' := []) (w' := w8) (n' := 142) rfl ?_
          have L37 : ∀ (m9 : Nat) (i : Nat) (w7 : qW) (x3 x4 : qV), N - i = m9 → (i ≤ N ∧ lbW w w7 ∧ (∀ j, j < i → goB w7 t j = gF w S u j) ∧ (∀ j, i ≤ j → j < 1820 → goB w7 t j = false) ∧ lbR w S N u w7) → qG none (d + 1) 260 37 [(2, 95), (0, ((t : Nat) : Int)), (0, ((i : Nat) : Int)), x3, x4] [] w7 142 Q9 := by
            intro m9
            induction m9 using Nat.strongRecOn with
            | ind m9 ih37 =>
            intro i w7 x3 x4 hm37 hI37
            have hm2i := hm2 i
            refine qG.blk 3 (pc' := 42) (ls' := [(2, 95), (0, ((t : Nat) : Int)), (0, ((i : Nat) : Int)), x3, x4]) (st' := [(0, w7 95 8), (0, ((i : Nat) : Int))]) (w' := w7) (n' := 142) rfl ?_
            rw [show w7 95 8 = ((N : Nat) : Int) from (hI37.2.1.1 95 (8) (by decide)).trans hN]
            refine qG.br (P := ((i : Nat) : Int) < ((N : Nat) : Int)) (pc1 := 45) (pc2 := 171) (st1 := []) rfl (fun hiN => ?_) (fun hiN => ?_)
            · skip
              refine qG.blk 3 (pc' := 50) (ls' := [(2, 95), (0, ((t : Nat) : Int)), (0, ((i : Nat) : Int)), x3, x4]) (st' := [(0, w7 95 37), (0, ((t : Nat) : Int))]) (w' := w7) (n' := 142) rfl ?_
              rw [show w7 95 37 = ((S : Nat) : Int) from (hI37.2.1.1 95 (37) (by decide)).trans hSS]
              refine qG.br (P := ((t : Nat) : Int) = ((S : Nat) : Int)) (pc1 := 53) (pc2 := 57) (st1 := []) rfl (fun h1 => ?_) (fun h1 => ?_)
              · skip
                refine qG.blk 5 (pc' := 62) (ls' := [(2, 95), (0, ((t : Nat) : Int)), (0, ((i : Nat) : Int)), (0, 1), (0, 0)]) (st' := []) (w' := w7) (n' := 142) rfl ?_
                have L62 : ∀ (m9 : Nat) (k : Nat) (x3 : Int), 50 - k = m9 → ((k : Int) ≤ w 102 i ∧ x3 = b01 (gK w S u t i k)) → qG none (d + 1) 260 62 [(2, 95), (0, ((t : Nat) : Int)), (0, ((i : Nat) : Int)), (0, x3), (0, ((k : Nat) : Int))] [] w7 142 Q9 := by
                  intro m9
                  induction m9 using Nat.strongRecOn with
                  | ind m9 ih62 =>
                  intro k x3 hm62 hI62
                  refine qG.blk 3 (pc' := 68) (ls' := [(2, 95), (0, ((t : Nat) : Int)), (0, ((i : Nat) : Int)), (0, x3), (0, ((k : Nat) : Int))]) (st' := [(2, w7 95 6), (0, ((k : Nat) : Int))]) (w' := w7) (n' := 142) rfl ?_
                  rw [show w7 95 6 = 102 from zref hI37.2.1.2 rfl rfl]
                  refine qG.blk 1 (pc' := 69) (ls' := [(2, 95), (0, ((t : Nat) : Int)), (0, ((i : Nat) : Int)), (0, x3), (0, ((k : Nat) : Int))]) (st' := [(0, ((i : Nat) : Int)), (2, 102), (0, ((k : Nat) : Int))]) (w' := w7) (n' := 142) rfl ?_
                  refine qG.ild (m := 1820) rfl rfl (by omega) (by decide) ?_
                  show qG none (d + 1) 260 70 [(2, 95), (0, ((t : Nat) : Int)), (0, ((i : Nat) : Int)), (0, x3), (0, ((k : Nat) : Int))] [(0, w7 102 i), (0, ((k : Nat) : Int))] w7 142 Q9
                  rw [show w7 102 i = w 102 i from hI37.2.1.1 102 (i) (by decide)]
                  refine qG.br (P := ((k : Nat) : Int) < w 102 i) (pc1 := 73) (pc2 := 138) (st1 := []) rfl (fun hkm => ?_) (fun hkm => ?_)
                  · skip
                    have hnx : nxF w i k < N := nx_lt hI hS hN (by omega) hkm
                    refine qG.blk 1 (pc' := 74) (ls' := [(2, 95), (0, ((t : Nat) : Int)), (0, ((i : Nat) : Int)), (0, x3), (0, ((k : Nat) : Int))]) (st' := [(0, x3)]) (w' := w7) (n' := 142) rfl ?_
                    refine qG.br (P := x3 = 0) (pc1 := 77) (pc2 := 138) (st1 := []) rfl (fun hg1 => ?_) (fun hg1 => ?_)
                    · skip
                      have hg0 := gK_0 (b01_0 (hI62.2 ▸ hg1))
                      have hu0 := hg0.1
                      refine qG.blk 4 (pc' := 81) (ls' := [(2, 95), (0, ((t : Nat) : Int)), (0, ((i : Nat) : Int)), (0, x3), (0, ((k : Nat) : Int))]) (st' := [(0, wrp (((t : Nat) : Int) + 1)), (2, 95)]) (w' := w7) (n' := 142) rfl ?_
                      rw [show wrp (((t : Nat) : Int) + 1) = ((t + 1 : Nat) : Int) from by rw [wrp_id (by omega) (by omega)]; omega]
                      refine qG.blk 2 (pc' := 85) (ls' := [(2, 95), (0, ((t : Nat) : Int)), (0, ((i : Nat) : Int)), (0, x3), (0, ((k : Nat) : Int))]) (st' := [(2, w7 95 7), (0, ((t + 1 : Nat) : Int)), (2, 95)]) (w' := w7) (n' := 142) rfl ?_
                      rw [show w7 95 7 = 103 from zref hI37.2.1.2 rfl rfl]
                      refine qG.blk 3 (pc' := 89) (ls' := [(2, 95), (0, ((t : Nat) : Int)), (0, ((i : Nat) : Int)), (0, x3), (0, ((k : Nat) : Int))]) (st' := [(0, wrp (50 * ((i : Nat) : Int))), (2, 103), (0, ((t + 1 : Nat) : Int)), (2, 95)]) (w' := w7) (n' := 142) rfl ?_
                      rw [show wrp (50 * ((i : Nat) : Int)) = ((50 * i : Nat) : Int) from by rw [wrp_id (by omega) (by omega)]; omega]
                      refine qG.blk 2 (pc' := 92) (ls' := [(2, 95), (0, ((t : Nat) : Int)), (0, ((i : Nat) : Int)), (0, x3), (0, ((k : Nat) : Int))]) (st' := [(0, wrp (((50 * i : Nat) : Int) + ((k : Nat) : Int))), (2, 103), (0, ((t + 1 : Nat) : Int)), (2, 95)]) (w' := w7) (n' := 142) rfl ?_
                      rw [show wrp (((50 * i : Nat) : Int) + ((k : Nat) : Int)) = ((50 * i + k : Nat) : Int) from by rw [wrp_id (by omega) (by omega)]; omega]
                      refine qG.ild (m := 91000) rfl rfl (by omega) (by decide) ?_
                      show qG none (d + 1) 260 93 [(2, 95), (0, ((t : Nat) : Int)), (0, ((i : Nat) : Int)), (0, x3), (0, ((k : Nat) : Int))] [(0, w7 103 (50 * i + k)), (0, ((t + 1 : Nat) : Int)), (2, 95)] w7 142 Q9
                      rw [show w7 103 (50 * i + k) = ((nxF w i k : Nat) : Int) from (hI37.2.1.1 103 ((50 * i + k)) (by decide)).trans (nx_e hI i k)]
                      refine qG.call (t := 259) (na := 3) (sk := 1) (md := 1) (ls1 := [(2, 95), (0, ((t + 1 : Nat) : Int)), (0, ((nxF w i k : Nat) : Int))]) (r1 := []) rfl rfl rfl rfl rfl (K_isGoing (Nat.zero_le _) (t + 1) (nxF w i k) (by omega) (by omega) w7 hI37.2.1.2) ?_
                      rintro _ w6 _ ⟨rfl, hw6, rfl⟩
                      rw [hw6, show goB w7 (t + 1) (nxF w i k) = gF w S (u - 1) (nxF w i k) from (by have q := hI37.2.2.2.2 (u - 1) (nxF w i k) (by omega) hnx; rw [← q, show S - (u - 1) = t + 1 by omega])]
                      show qG none (d + 1) 260 96 [(2, 95), (0, ((t : Nat) : Int)), (0, ((i : Nat) : Int)), (0, x3), (0, ((k : Nat) : Int))] [(0, b01 (gF w S (u - 1) (nxF w i k)))] w7 142 Q9
                      refine qG.br (P := b01 (gF w S (u - 1) (nxF w i k)) = 0) (pc1 := 130) (pc2 := 99) (st1 := []) rfl (fun hgo => ?_) (fun hgo => ?_)
                      · skip
                        refine qG.blk 3 (pc' := 135) (ls' := [(2, 95), (0, ((t : Nat) : Int)), (0, ((i : Nat) : Int)), (0, 0), (0, wrp (((k : Nat) : Int) + 1))]) (st' := []) (w' := w7) (n' := 142) rfl ?_
                        rw [show wrp (((k : Nat) : Int) + 1) = ((k + 1 : Nat) : Int) from wrp_id (by omega) (by omega)]
                        refine qG.blk 1 (pc' := 62) (ls' := [(2, 95), (0, ((t : Nat) : Int)), (0, ((i : Nat) : Int)), (0, 0), (0, ((k + 1 : Nat) : Int))]) (st' := []) (w' := w7) (n' := 142) rfl ?_
                        exact ih62 _ (by omega) (k + 1) (0) rfl (⟨by omega, by rw [hg0.2]; first | (rw [b01_1 hgo, show clF w t (nxF w i k) = true from decide_eq_true hcl]; rfl) | (rw [b01_0 hgo]; rfl) | (rw [b01_1 hgo, show clF w t (nxF w i k) = false from decide_eq_false hcl]; rfl)⟩)
                      · skip
                        refine qG.blk 2 (pc' := 103) (ls' := [(2, 95), (0, ((t : Nat) : Int)), (0, ((i : Nat) : Int)), (0, x3), (0, ((k : Nat) : Int))]) (st' := [(2, w7 95 5)]) (w' := w7) (n' := 142) rfl ?_
                        rw [show w7 95 5 = 101 from zref hI37.2.1.2 rfl rfl]
                        refine qG.blk 2 (pc' := 107) (ls' := [(2, 95), (0, ((t : Nat) : Int)), (0, ((i : Nat) : Int)), (0, x3), (0, ((k : Nat) : Int))]) (st' := [(2, w7 95 7), (2, 101)]) (w' := w7) (n' := 142) rfl ?_
                        rw [show w7 95 7 = 103 from zref hI37.2.1.2 rfl rfl]
                        refine qG.blk 3 (pc' := 111) (ls' := [(2, 95), (0, ((t : Nat) : Int)), (0, ((i : Nat) : Int)), (0, x3), (0, ((k : Nat) : Int))]) (st' := [(0, wrp (50 * ((i : Nat) : Int))), (2, 103), (2, 101)]) (w' := w7) (n' := 142) rfl ?_
                        rw [show wrp (50 * ((i : Nat) : Int)) = ((50 * i : Nat) : Int) from by rw [wrp_id (by omega) (by omega)]; omega]
                        refine qG.blk 2 (pc' := 114) (ls' := [(2, 95), (0, ((t : Nat) : Int)), (0, ((i : Nat) : Int)), (0, x3), (0, ((k : Nat) : Int))]) (st' := [(0, wrp (((50 * i : Nat) : Int) + ((k : Nat) : Int))), (2, 103), (2, 101)]) (w' := w7) (n' := 142) rfl ?_
                        rw [show wrp (((50 * i : Nat) : Int) + ((k : Nat) : Int)) = ((50 * i + k : Nat) : Int) from by rw [wrp_id (by omega) (by omega)]; omega]
                        refine qG.ild (m := 91000) rfl rfl (by omega) (by decide) ?_
                        show qG none (d + 1) 260 115 [(2, 95), (0, ((t : Nat) : Int)), (0, ((i : Nat) : Int)), (0, x3), (0, ((k : Nat) : Int))] [(0, w7 103 (50 * i + k)), (2, 101)] w7 142 Q9
                        rw [show w7 103 (50 * i + k) = ((nxF w i k : Nat) : Int) from (hI37.2.1.1 103 ((50 * i + k)) (by decide)).trans (nx_e hI i k)]
                        refine qG.ild (m := 1820) rfl rfl (by omega) (by decide) ?_
                        show qG none (d + 1) 260 116 [(2, 95), (0, ((t : Nat) : Int)), (0, ((i : Nat) : Int)), (0, x3), (0, ((k : Nat) : Int))] [(0, w7 101 (nxF w i k))] w7 142 Q9
                        rw [show w7 101 (nxF w i k) = w 101 (nxF w i k) from hI37.2.1.1 101 ((nxF w i k)) (by decide)]
                        refine qG.blk 2 (pc' := 120) (ls' := [(2, 95), (0, ((t : Nat) : Int)), (0, ((i : Nat) : Int)), (0, x3), (0, ((k : Nat) : Int))]) (st' := [(2, w7 95 36), (0, w 101 (nxF w i k))]) (w' := w7) (n' := 142) rfl ?_
                        rw [show w7 95 36 = 116 from zref hI37.2.1.2 rfl rfl]
                        refine qG.blk 1 (pc' := 121) (ls' := [(2, 95), (0, ((t : Nat) : Int)), (0, ((i : Nat) : Int)), (0, x3), (0, ((k : Nat) : Int))]) (st' := [(0, ((t : Nat) : Int)), (2, 116), (0, w 101 (nxF w i k))]) (w' := w7) (n' := 142) rfl ?_
                        refine qG.ild (m := 900) rfl rfl (by omega) (by decide) ?_
                        show qG none (d + 1) 260 122 [(2, 95), (0, ((t : Nat) : Int)), (0, ((i : Nat) : Int)), (0, x3), (0, ((k : Nat) : Int))] [(0, w7 116 t), (0, w 101 (nxF w i k))] w7 142 Q9
                        rw [show w7 116 t = w 116 t from hI37.2.1.1 116 (t) (by decide)]
                        refine qG.blk 1 (pc' := 123) (ls' := [(2, 95), (0, ((t : Nat) : Int)), (0, ((i : Nat) : Int)), (0, x3), (0, ((k : Nat) : Int))]) (st' := [(0, qand (w 101 (nxF w i k)) (w 116 t))]) (w' := w7) (n' := 142) rfl ?_
                        refine qG.br (P := qand (w 101 (nxF w i k)) (w 116 t) = 0) (pc1 := 126) (pc2 := 130) (st1 := []) rfl (fun hcl => ?_) (fun hcl => ?_)
                        · skip
                          refine qG.blk 4 (pc' := 135) (ls' := [(2, 95), (0, ((t : Nat) : Int)), (0, ((i : Nat) : Int)), (0, 1), (0, wrp (((k : Nat) : Int) + 1))]) (st' := []) (w' := w7) (n' := 142) rfl ?_
                          rw [show wrp (((k : Nat) : Int) + 1) = ((k + 1 : Nat) : Int) from wrp_id (by omega) (by omega)]
                          refine qG.blk 1 (pc' := 62) (ls' := [(2, 95), (0, ((t : Nat) : Int)), (0, ((i : Nat) : Int)), (0, 1), (0, ((k + 1 : Nat) : Int))]) (st' := []) (w' := w7) (n' := 142) rfl ?_
                          exact ih62 _ (by omega) (k + 1) (1) rfl (⟨by omega, by rw [hg0.2]; first | (rw [b01_1 hgo, show clF w t (nxF w i k) = true from decide_eq_true hcl]; rfl) | (rw [b01_0 hgo]; rfl) | (rw [b01_1 hgo, show clF w t (nxF w i k) = false from decide_eq_false hcl]; rfl)⟩)
                        · skip
                          refine qG.blk 3 (pc' := 135) (ls' := [(2, 95), (0, ((t : Nat) : Int)), (0, ((i : Nat) : Int)), (0, 0), (0, wrp (((k : Nat) : Int) + 1))]) (st' := []) (w' := w7) (n' := 142) rfl ?_
                          rw [show wrp (((k : Nat) : Int) + 1) = ((k + 1 : Nat) : Int) from wrp_id (by omega) (by omega)]
                          refine qG.blk 1 (pc' := 62) (ls' := [(2, 95), (0, ((t : Nat) : Int)), (0, ((i : Nat) : Int)), (0, 0), (0, ((k + 1 : Nat) : Int))]) (st' := []) (w' := w7) (n' := 142) rfl ?_
                          exact ih62 _ (by omega) (k + 1) (0) rfl (⟨by omega, by rw [hg0.2]; first | (rw [b01_1 hgo, show clF w t (nxF w i k) = true from decide_eq_true hcl]; rfl) | (rw [b01_0 hgo]; rfl) | (rw [b01_1 hgo, show clF w t (nxF w i k) = false from decide_eq_false hcl]; rfl)⟩)
                    · skip
                      have hE := gK_E ht hI62.1 (.inr (b01_1 (hI62.2 ▸ hg1)))
                      refine qG.blk 1 (pc' := 139) (ls' := [(2, 95), (0, ((t : Nat) : Int)), (0, ((i : Nat) : Int)), (0, x3), (0, ((k : Nat) : Int))]) (st' := [(0, x3)]) (w' := w7) (n' := 142) rfl ?_
                      refine qG.br (P := x3 = 0) (pc1 := 165) (pc2 := 142) (st1 := []) rfl (fun hgd => ?_) (fun hgd => ?_)
                      · skip
                        refine qG.blk 1 (pc' := 168) (ls' := [(2, 95), (0, ((t : Nat) : Int)), (0, wrp (((i : Nat) : Int) + 1)), (0, x3), (0, ((k : Nat) : Int))]) (st' := []) (w' := w7) (n' := 142) rfl ?_
                        rw [show wrp (((i : Nat) : Int) + 1) = ((i + 1 : Nat) : Int) from wrp_id (by omega) (by omega)]
                        refine qG.blk 1 (pc' := 37) (ls' := [(2, 95), (0, ((t : Nat) : Int)), (0, ((i + 1 : Nat) : Int)), (0, x3), (0, ((k : Nat) : Int))]) (st' := []) (w' := w7) (n' := 142) rfl ?_
                        exact ih37 _ (by omega) (i + 1) (w7) ((0, x3)) ((0, ((k : Nat) : Int))) rfl (⟨by omega, hI37.2.1, rows.g hI37.2.2.1 (by rw [hI37.2.2.2.1 i (Nat.le_refl _) (by omega)]; exact hE ▸ (b01_0 (hI62.2 ▸ hgd)).symm), fun j h1 h2 => hI37.2.2.2.1 j (by omega) h2, hI37.2.2.2.2⟩)
                      · skip
                        refine qG.blk 2 (pc' := 146) (ls' := [(2, 95), (0, ((t : Nat) : Int)), (0, ((i : Nat) : Int)), (0, x3), (0, ((k : Nat) : Int))]) (st' := [(2, w7 95 47)]) (w' := w7) (n' := 142) rfl ?_
                        rw [show w7 95 47 = 119 from zref hI37.2.1.2 rfl rfl]
                        refine qG.blk 3 (pc' := 150) (ls' := [(2, 95), (0, ((t : Nat) : Int)), (0, ((i : Nat) : Int)), (0, x3), (0, ((k : Nat) : Int))]) (st' := [(0, wrp (57 * ((t : Nat) : Int))), (2, 119)]) (w' := w7) (n' := 142) rfl ?_
                        rw [show wrp (57 * ((t : Nat) : Int)) = ((57 * t : Nat) : Int) from by rw [wrp_id (by omega) (by omega)]; omega]
                        refine qG.blk 2 (pc' := 153) (ls' := [(2, 95), (0, ((t : Nat) : Int)), (0, ((i : Nat) : Int)), (0, x3), (0, ((k : Nat) : Int))]) (st' := [(0, 32), (0, ((i : Nat) : Int)), (0, ((57 * t : Nat) : Int)), (2, 119)]) (w' := w7) (n' := 142) rfl ?_
                        refine qG.gn (P := 32 = 0) (pc' := 154) (ls' := [(2, 95), (0, ((t : Nat) : Int)), (0, ((i : Nat) : Int)), (0, x3), (0, ((k : Nat) : Int))]) (st' := [(0, qdiv ((i : Nat) : Int) 32), (0, ((57 * t : Nat) : Int)), (2, 119)]) (w' := w7) (n' := 142) rfl (by decide) ?_
                        rw [show qdiv ((i : Nat) : Int) 32 = ((i / 32 : Nat) : Int) from (lbd i (by omega)).1]
                        refine qG.blk 1 (pc' := 155) (ls' := [(2, 95), (0, ((t : Nat) : Int)), (0, ((i : Nat) : Int)), (0, x3), (0, ((k : Nat) : Int))]) (st' := [(0, wrp (((57 * t : Nat) : Int) + ((i / 32 : Nat) : Int))), (2, 119)]) (w' := w7) (n' := 142) rfl ?_
                        rw [show wrp (((57 * t : Nat) : Int) + ((i / 32 : Nat) : Int)) = ((57 * t + i / 32 : Nat) : Int) from by rw [wrp_id (by omega) (by omega)]; omega]
                        refine qG.blk 1 (pc' := 156) (ls' := [(2, 95), (0, ((t : Nat) : Int)), (0, ((i : Nat) : Int)), (0, x3), (0, ((k : Nat) : Int))]) (st' := [(0, ((57 * t + i / 32 : Nat) : Int)), (2, 119), (0, ((57 * t + i / 32 : Nat) : Int)), (2, 119)]) (w' := w7) (n' := 142) rfl ?_
                        refine qG.ild (m := 51300) rfl rfl (by omega) (by decide) ?_
                        show qG none (d + 1) 260 157 [(2, 95), (0, ((t : Nat) : Int)), (0, ((i : Nat) : Int)), (0, x3), (0, ((k : Nat) : Int))] [(0, w7 119 (57 * t + i / 32)), (0, ((57 * t + i / 32 : Nat) : Int)), (2, 119)] w7 142 Q9
                        refine qG.blk 3 (pc' := 161) (ls' := [(2, 95), (0, ((t : Nat) : Int)), (0, ((i : Nat) : Int)), (0, x3), (0, ((k : Nat) : Int))]) (st' := [(0, 32), (0, ((i : Nat) : Int)), (0, 1), (0, w7 119 (57 * t + i / 32)), (0, ((57 * t + i / 32 : Nat) : Int)), (2, 119)]) (w' := w7) (n' := 142) rfl ?_
                        refine qG.gn (P := 32 = 0) (pc' := 162) (ls' := [(2, 95), (0, ((t : Nat) : Int)), (0, ((i : Nat) : Int)), (0, x3), (0, ((k : Nat) : Int))]) (st' := [(0, qrem ((i : Nat) : Int) 32), (0, 1), (0, w7 119 (57 * t + i / 32)), (0, ((57 * t + i / 32 : Nat) : Int)), (2, 119)]) (w' := w7) (n' := 142) rfl (by decide) ?_
                        rw [show qrem ((i : Nat) : Int) 32 = ((i % 32 : Nat) : Int) from (lbd i (by omega)).2]
                        refine qG.blk 2 (pc' := 164) (ls' := [(2, 95), (0, ((t : Nat) : Int)), (0, ((i : Nat) : Int)), (0, x3), (0, ((k : Nat) : Int))]) (st' := [(0, qor (w7 119 (57 * t + i / 32)) (qshl 1 ((i % 32 : Nat) : Int))), (0, ((57 * t + i / 32 : Nat) : Int)), (2, 119)]) (w' := w7) (n' := 142) rfl ?_
                        refine qG.ist (m := 51300) rfl rfl (by omega) (by decide) ?_
                        show qG none (d + 1) 260 165 [(2, 95), (0, ((t : Nat) : Int)), (0, ((i : Nat) : Int)), (0, x3), (0, ((k : Nat) : Int))] [] (qup w7 119 (57 * t + i / 32) (qor (w7 119 (57 * t + i / 32)) (qshl 1 ((i % 32 : Nat) : Int)))) 142 Q9
                        refine qG.blk 1 (pc' := 168) (ls' := [(2, 95), (0, ((t : Nat) : Int)), (0, wrp (((i : Nat) : Int) + 1)), (0, x3), (0, ((k : Nat) : Int))]) (st' := []) (w' := (qup w7 119 (57 * t + i / 32) (qor (w7 119 (57 * t + i / 32)) (qshl 1 ((i % 32 : Nat) : Int))))) (n' := 142) rfl ?_
                        rw [show wrp (((i : Nat) : Int) + 1) = ((i + 1 : Nat) : Int) from wrp_id (by omega) (by omega)]
                        refine qG.blk 1 (pc' := 37) (ls' := [(2, 95), (0, ((t : Nat) : Int)), (0, ((i + 1 : Nat) : Int)), (0, x3), (0, ((k : Nat) : Int))]) (st' := []) (w' := (qup w7 119 (57 * t + i / 32) (qor (w7 119 (57 * t + i / 32)) (qshl 1 ((i % 32 : Nat) : Int))))) (n' := 142) rfl ?_
                        exact ih37 _ (by omega) (i + 1) ((qup w7 119 (57 * t + i / 32) (qor (w7 119 (57 * t + i / 32)) (qshl 1 ((i % 32 : Nat) : Int))))) ((0, x3)) ((0, ((k : Nat) : Int))) rfl (⟨by omega, hI37.2.1.up (y32_i _), rows.g (fun j hj => by rw [goB_set (by omega) (by omega), hI37.2.2.1 j hj, decide_eq_false (show ¬ i = j by omega), Bool.or_false]) (by rw [goB_set (by omega) (by omega), decide_eq_true rfl, Bool.or_true]; exact hE ▸ (b01_1 (hI62.2 ▸ hgd)).symm), fun j h1 h2 => by rw [goB_set (by omega) h2, hI37.2.2.2.1 j (by omega) h2, decide_eq_false (show ¬ i = j by omega)]; rfl, hI37.2.2.2.2.up ht (by omega)⟩)
                  · skip
                    have hE := gK_E ht hI62.1 (.inl hkm)
                    refine qG.blk 1 (pc' := 139) (ls' := [(2, 95), (0, ((t : Nat) : Int)), (0, ((i : Nat) : Int)), (0, x3), (0, ((k : Nat) : Int))]) (st' := [(0, x3)]) (w' := w7) (n' := 142) rfl ?_
                    refine qG.br (P := x3 = 0) (pc1 := 165) (pc2 := 142) (st1 := []) rfl (fun hgd => ?_) (fun hgd => ?_)
                    · skip
                      refine qG.blk 1 (pc' := 168) (ls' := [(2, 95), (0, ((t : Nat) : Int)), (0, wrp (((i : Nat) : Int) + 1)), (0, x3), (0, ((k : Nat) : Int))]) (st' := []) (w' := w7) (n' := 142) rfl ?_
                      rw [show wrp (((i : Nat) : Int) + 1) = ((i + 1 : Nat) : Int) from wrp_id (by omega) (by omega)]
                      refine qG.blk 1 (pc' := 37) (ls' := [(2, 95), (0, ((t : Nat) : Int)), (0, ((i + 1 : Nat) : Int)), (0, x3), (0, ((k : Nat) : Int))]) (st' := []) (w' := w7) (n' := 142) rfl ?_
                      exact ih37 _ (by omega) (i + 1) (w7) ((0, x3)) ((0, ((k : Nat) : Int))) rfl (⟨by omega, hI37.2.1, rows.g hI37.2.2.1 (by rw [hI37.2.2.2.1 i (Nat.le_refl _) (by omega)]; exact hE ▸ (b01_0 (hI62.2 ▸ hgd)).symm), fun j h1 h2 => hI37.2.2.2.1 j (by omega) h2, hI37.2.2.2.2⟩)
                    · skip
                      refine qG.blk 2 (pc' := 146) (ls' := [(2, 95), (0, ((t : Nat) : Int)), (0, ((i : Nat) : Int)), (0, x3), (0, ((k : Nat) : Int))]) (st' := [(2, w7 95 47)]) (w' := w7) (n' := 142) rfl ?_
                      rw [show w7 95 47 = 119 from zref hI37.2.1.2 rfl rfl]
                      refine qG.blk 3 (pc' := 150) (ls' := [(2, 95), (0, ((t : Nat) : Int)), (0, ((i : Nat) : Int)), (0, x3), (0, ((k : Nat) : Int))]) (st' := [(0, wrp (57 * ((t : Nat) : Int))), (2, 119)]) (w' := w7) (n' := 142) rfl ?_
                      rw [show wrp (57 * ((t : Nat) : Int)) = ((57 * t : Nat) : Int) from by rw [wrp_id (by omega) (by omega)]; omega]
                      refine qG.blk 2 (pc' := 153) (ls' := [(2, 95), (0, ((t : Nat) : Int)), (0, ((i : Nat) : Int)), (0, x3), (0, ((k : Nat) : Int))]) (st' := [(0, 32), (0, ((i : Nat) : Int)), (0, ((57 * t : Nat) : Int)), (2, 119)]) (w' := w7) (n' := 142) rfl ?_
                      refine qG.gn (P := 32 = 0) (pc' := 154) (ls' := [(2, 95), (0, ((t : Nat) : Int)), (0, ((i : Nat) : Int)), (0, x3), (0, ((k : Nat) : Int))]) (st' := [(0, qdiv ((i : Nat) : Int) 32), (0, ((57 * t : Nat) : Int)), (2, 119)]) (w' := w7) (n' := 142) rfl (by decide) ?_
                      rw [show qdiv ((i : Nat) : Int) 32 = ((i / 32 : Nat) : Int) from (lbd i (by omega)).1]
                      refine qG.blk 1 (pc' := 155) (ls' := [(2, 95), (0, ((t : Nat) : Int)), (0, ((i : Nat) : Int)), (0, x3), (0, ((k : Nat) : Int))]) (st' := [(0, wrp (((57 * t : Nat) : Int) + ((i / 32 : Nat) : Int))), (2, 119)]) (w' := w7) (n' := 142) rfl ?_
                      rw [show wrp (((57 * t : Nat) : Int) + ((i / 32 : Nat) : Int)) = ((57 * t + i / 32 : Nat) : Int) from by rw [wrp_id (by omega) (by omega)]; omega]
                      refine qG.blk 1 (pc' := 156) (ls' := [(2, 95), (0, ((t : Nat) : Int)), (0, ((i : Nat) : Int)), (0, x3), (0, ((k : Nat) : Int))]) (st' := [(0, ((57 * t + i / 32 : Nat) : Int)), (2, 119), (0, ((57 * t + i / 32 : Nat) : Int)), (2, 119)]) (w' := w7) (n' := 142) rfl ?_
                      refine qG.ild (m := 51300) rfl rfl (by omega) (by decide) ?_
                      show qG none (d + 1) 260 157 [(2, 95), (0, ((t : Nat) : Int)), (0, ((i : Nat) : Int)), (0, x3), (0, ((k : Nat) : Int))] [(0, w7 119 (57 * t + i / 32)), (0, ((57 * t + i / 32 : Nat) : Int)), (2, 119)] w7 142 Q9
                      refine qG.blk 3 (pc' := 161) (ls' := [(2, 95), (0, ((t : Nat) : Int)), (0, ((i : Nat) : Int)), (0, x3), (0, ((k : Nat) : Int))]) (st' := [(0, 32), (0, ((i : Nat) : Int)), (0, 1), (0, w7 119 (57 * t + i / 32)), (0, ((57 * t + i / 32 : Nat) : Int)), (2, 119)]) (w' := w7) (n' := 142) rfl ?_
                      refine qG.gn (P := 32 = 0) (pc' := 162) (ls' := [(2, 95), (0, ((t : Nat) : Int)), (0, ((i : Nat) : Int)), (0, x3), (0, ((k : Nat) : Int))]) (st' := [(0, qrem ((i : Nat) : Int) 32), (0, 1), (0, w7 119 (57 * t + i / 32)), (0, ((57 * t + i / 32 : Nat) : Int)), (2, 119)]) (w' := w7) (n' := 142) rfl (by decide) ?_
                      rw [show qrem ((i : Nat) : Int) 32 = ((i % 32 : Nat) : Int) from (lbd i (by omega)).2]
                      refine qG.blk 2 (pc' := 164) (ls' := [(2, 95), (0, ((t : Nat) : Int)), (0, ((i : Nat) : Int)), (0, x3), (0, ((k : Nat) : Int))]) (st' := [(0, qor (w7 119 (57 * t + i / 32)) (qshl 1 ((i % 32 : Nat) : Int))), (0, ((57 * t + i / 32 : Nat) : Int)), (2, 119)]) (w' := w7) (n' := 142) rfl ?_
                      refine qG.ist (m := 51300) rfl rfl (by omega) (by decide) ?_
                      show qG none (d + 1) 260 165 [(2, 95), (0, ((t : Nat) : Int)), (0, ((i : Nat) : Int)), (0, x3), (0, ((k : Nat) : Int))] [] (qup w7 119 (57 * t + i / 32) (qor (w7 119 (57 * t + i / 32)) (qshl 1 ((i % 32 : Nat) : Int)))) 142 Q9
                      refine qG.blk 1 (pc' := 168) (ls' := [(2, 95), (0, ((t : Nat) : Int)), (0, wrp (((i : Nat) : Int) + 1)), (0, x3), (0, ((k : Nat) : Int))]) (st' := []) (w' := (qup w7 119 (57 * t + i / 32) (qor (w7 119 (57 * t + i / 32)) (qshl 1 ((i % 32 : Nat) : Int))))) (n' := 142) rfl ?_
                      rw [show wrp (((i : Nat) : Int) + 1) = ((i + 1 : Nat) : Int) from wrp_id (by omega) (by omega)]
                      refine qG.blk 1 (pc' := 37) (ls' := [(2, 95), (0, ((t : Nat) : Int)), (0, ((i + 1 : Nat) : Int)), (0, x3), (0, ((k : Nat) : Int))]) (st' := []) (w' := (qup w7 119 (57 * t + i / 32) (qor (w7 119 (57 * t + i / 32)) (qshl 1 ((i % 32 : Nat) : Int))))) (n' := 142) rfl ?_
                      exact ih37 _ (by omega) (i + 1) ((qup w7 119 (57 * t + i / 32) (qor (w7 119 (57 * t + i / 32)) (qshl 1 ((i % 32 : Nat) : Int))))) ((0, x3)) ((0, ((k : Nat) : Int))) rfl (⟨by omega, hI37.2.1.up (y32_i _), rows.g (fun j hj => by rw [goB_set (by omega) (by omega), hI37.2.2.1 j hj, decide_eq_false (show ¬ i = j by omega), Bool.or_false]) (by rw [goB_set (by omega) (by omega), decide_eq_true rfl, Bool.or_true]; exact hE ▸ (b01_1 (hI62.2 ▸ hgd)).symm), fun j h1 h2 => by rw [goB_set (by omega) h2, hI37.2.2.2.1 j (by omega) h2, decide_eq_false (show ¬ i = j by omega)]; rfl, hI37.2.2.2.2.up ht (by omega)⟩)
                exact L62 _ (0) (1) rfl (⟨by omega, by first | (unfold gK; rw [decide_eq_true (show u = 0 by omega)]; rfl) | (unfold gK; rw [decide_eq_false (show ¬ u = 0 by omega)]; rfl)⟩)
              · skip
                refine qG.blk 4 (pc' := 62) (ls' := [(2, 95), (0, ((t : Nat) : Int)), (0, ((i : Nat) : Int)), (0, 0), (0, 0)]) (st' := []) (w' := w7) (n' := 142) rfl ?_
                have L62_1 : ∀ (m9 : Nat) (k : Nat) (x3 : Int), 50 - k = m9 → ((k : Int) ≤ w 102 i ∧ x3 = b01 (gK w S u t i k)) → qG none (d + 1) 260 62 [(2, 95), (0, ((t : Nat) : Int)), (0, ((i : Nat) : Int)), (0, x3), (0, ((k : Nat) : Int))] [] w7 142 Q9 := by
                  intro m9
                  induction m9 using Nat.strongRecOn with
                  | ind m9 ih62 =>
                  intro k x3 hm62 hI62
                  refine qG.blk 3 (pc' := 68) (ls' := [(2, 95), (0, ((t : Nat) : Int)), (0, ((i : Nat) : Int)), (0, x3), (0, ((k : Nat) : Int))]) (st' := [(2, w7 95 6), (0, ((k : Nat) : Int))]) (w' := w7) (n' := 142) rfl ?_
                  rw [show w7 95 6 = 102 from zref hI37.2.1.2 rfl rfl]
                  refine qG.blk 1 (pc' := 69) (ls' := [(2, 95), (0, ((t : Nat) : Int)), (0, ((i : Nat) : Int)), (0, x3), (0, ((k : Nat) : Int))]) (st' := [(0, ((i : Nat) : Int)), (2, 102), (0, ((k : Nat) : Int))]) (w' := w7) (n' := 142) rfl ?_
                  refine qG.ild (m := 1820) rfl rfl (by omega) (by decide) ?_
                  show qG none (d + 1) 260 70 [(2, 95), (0, ((t : Nat) : Int)), (0, ((i : Nat) : Int)), (0, x3), (0, ((k : Nat) : Int))] [(0, w7 102 i), (0, ((k : Nat) : Int))] w7 142 Q9
                  rw [show w7 102 i = w 102 i from hI37.2.1.1 102 (i) (by decide)]
                  refine qG.br (P := ((k : Nat) : Int) < w 102 i) (pc1 := 73) (pc2 := 138) (st1 := []) rfl (fun hkm => ?_) (fun hkm => ?_)
                  · skip
                    have hnx : nxF w i k < N := nx_lt hI hS hN (by omega) hkm
                    refine qG.blk 1 (pc' := 74) (ls' := [(2, 95), (0, ((t : Nat) : Int)), (0, ((i : Nat) : Int)), (0, x3), (0, ((k : Nat) : Int))]) (st' := [(0, x3)]) (w' := w7) (n' := 142) rfl ?_
                    refine qG.br (P := x3 = 0) (pc1 := 77) (pc2 := 138) (st1 := []) rfl (fun hg1 => ?_) (fun hg1 => ?_)
                    · skip
                      have hg0 := gK_0 (b01_0 (hI62.2 ▸ hg1))
                      have hu0 := hg0.1
                      refine qG.blk 4 (pc' := 81) (ls' := [(2, 95), (0, ((t : Nat) : Int)), (0, ((i : Nat) : Int)), (0, x3), (0, ((k : Nat) : Int))]) (st' := [(0, wrp (((t : Nat) : Int) + 1)), (2, 95)]) (w' := w7) (n' := 142) rfl ?_
                      rw [show wrp (((t : Nat) : Int) + 1) = ((t + 1 : Nat) : Int) from by rw [wrp_id (by omega) (by omega)]; omega]
                      refine qG.blk 2 (pc' := 85) (ls' := [(2, 95), (0, ((t : Nat) : Int)), (0, ((i : Nat) : Int)), (0, x3), (0, ((k : Nat) : Int))]) (st' := [(2, w7 95 7), (0, ((t + 1 : Nat) : Int)), (2, 95)]) (w' := w7) (n' := 142) rfl ?_
                      rw [show w7 95 7 = 103 from zref hI37.2.1.2 rfl rfl]
                      refine qG.blk 3 (pc' := 89) (ls' := [(2, 95), (0, ((t : Nat) : Int)), (0, ((i : Nat) : Int)), (0, x3), (0, ((k : Nat) : Int))]) (st' := [(0, wrp (50 * ((i : Nat) : Int))), (2, 103), (0, ((t + 1 : Nat) : Int)), (2, 95)]) (w' := w7) (n' := 142) rfl ?_
                      rw [show wrp (50 * ((i : Nat) : Int)) = ((50 * i : Nat) : Int) from by rw [wrp_id (by omega) (by omega)]; omega]
                      refine qG.blk 2 (pc' := 92) (ls' := [(2, 95), (0, ((t : Nat) : Int)), (0, ((i : Nat) : Int)), (0, x3), (0, ((k : Nat) : Int))]) (st' := [(0, wrp (((50 * i : Nat) : Int) + ((k : Nat) : Int))), (2, 103), (0, ((t + 1 : Nat) : Int)), (2, 95)]) (w' := w7) (n' := 142) rfl ?_
                      rw [show wrp (((50 * i : Nat) : Int) + ((k : Nat) : Int)) = ((50 * i + k : Nat) : Int) from by rw [wrp_id (by omega) (by omega)]; omega]
                      refine qG.ild (m := 91000) rfl rfl (by omega) (by decide) ?_
                      show qG none (d + 1) 260 93 [(2, 95), (0, ((t : Nat) : Int)), (0, ((i : Nat) : Int)), (0, x3), (0, ((k : Nat) : Int))] [(0, w7 103 (50 * i + k)), (0, ((t + 1 : Nat) : Int)), (2, 95)] w7 142 Q9
                      rw [show w7 103 (50 * i + k) = ((nxF w i k : Nat) : Int) from (hI37.2.1.1 103 ((50 * i + k)) (by decide)).trans (nx_e hI i k)]
                      refine qG.call (t := 259) (na := 3) (sk := 1) (md := 1) (ls1 := [(2, 95), (0, ((t + 1 : Nat) : Int)), (0, ((nxF w i k : Nat) : Int))]) (r1 := []) rfl rfl rfl rfl rfl (K_isGoing (Nat.zero_le _) (t + 1) (nxF w i k) (by omega) (by omega) w7 hI37.2.1.2) ?_
                      rintro _ w6 _ ⟨rfl, hw6, rfl⟩
                      rw [hw6, show goB w7 (t + 1) (nxF w i k) = gF w S (u - 1) (nxF w i k) from (by have q := hI37.2.2.2.2 (u - 1) (nxF w i k) (by omega) hnx; rw [← q, show S - (u - 1) = t + 1 by omega])]
                      show qG none (d + 1) 260 96 [(2, 95), (0, ((t : Nat) : Int)), (0, ((i : Nat) : Int)), (0, x3), (0, ((k : Nat) : Int))] [(0, b01 (gF w S (u - 1) (nxF w i k)))] w7 142 Q9
                      refine qG.br (P := b01 (gF w S (u - 1) (nxF w i k)) = 0) (pc1 := 130) (pc2 := 99) (st1 := []) rfl (fun hgo => ?_) (fun hgo => ?_)
                      · skip
                        refine qG.blk 3 (pc' := 135) (ls' := [(2, 95), (0, ((t : Nat) : Int)), (0, ((i : Nat) : Int)), (0, 0), (0, wrp (((k : Nat) : Int) + 1))]) (st' := []) (w' := w7) (n' := 142) rfl ?_
                        rw [show wrp (((k : Nat) : Int) + 1) = ((k + 1 : Nat) : Int) from wrp_id (by omega) (by omega)]
                        refine qG.blk 1 (pc' := 62) (ls' := [(2, 95), (0, ((t : Nat) : Int)), (0, ((i : Nat) : Int)), (0, 0), (0, ((k + 1 : Nat) : Int))]) (st' := []) (w' := w7) (n' := 142) rfl ?_
                        exact ih62 _ (by omega) (k + 1) (0) rfl (⟨by omega, by rw [hg0.2]; first | (rw [b01_1 hgo, show clF w t (nxF w i k) = true from decide_eq_true hcl]; rfl) | (rw [b01_0 hgo]; rfl) | (rw [b01_1 hgo, show clF w t (nxF w i k) = false from decide_eq_false hcl]; rfl)⟩)
                      · skip
                        refine qG.blk 2 (pc' := 103) (ls' := [(2, 95), (0, ((t : Nat) : Int)), (0, ((i : Nat) : Int)), (0, x3), (0, ((k : Nat) : Int))]) (st' := [(2, w7 95 5)]) (w' := w7) (n' := 142) rfl ?_
                        rw [show w7 95 5 = 101 from zref hI37.2.1.2 rfl rfl]
                        refine qG.blk 2 (pc' := 107) (ls' := [(2, 95), (0, ((t : Nat) : Int)), (0, ((i : Nat) : Int)), (0, x3), (0, ((k : Nat) : Int))]) (st' := [(2, w7 95 7), (2, 101)]) (w' := w7) (n' := 142) rfl ?_
                        rw [show w7 95 7 = 103 from zref hI37.2.1.2 rfl rfl]
                        refine qG.blk 3 (pc' := 111) (ls' := [(2, 95), (0, ((t : Nat) : Int)), (0, ((i : Nat) : Int)), (0, x3), (0, ((k : Nat) : Int))]) (st' := [(0, wrp (50 * ((i : Nat) : Int))), (2, 103), (2, 101)]) (w' := w7) (n' := 142) rfl ?_
                        rw [show wrp (50 * ((i : Nat) : Int)) = ((50 * i : Nat) : Int) from by rw [wrp_id (by omega) (by omega)]; omega]
                        refine qG.blk 2 (pc' := 114) (ls' := [(2, 95), (0, ((t : Nat) : Int)), (0, ((i : Nat) : Int)), (0, x3), (0, ((k : Nat) : Int))]) (st' := [(0, wrp (((50 * i : Nat) : Int) + ((k : Nat) : Int))), (2, 103), (2, 101)]) (w' := w7) (n' := 142) rfl ?_
                        rw [show wrp (((50 * i : Nat) : Int) + ((k : Nat) : Int)) = ((50 * i + k : Nat) : Int) from by rw [wrp_id (by omega) (by omega)]; omega]
                        refine qG.ild (m := 91000) rfl rfl (by omega) (by decide) ?_
                        show qG none (d + 1) 260 115 [(2, 95), (0, ((t : Nat) : Int)), (0, ((i : Nat) : Int)), (0, x3), (0, ((k : Nat) : Int))] [(0, w7 103 (50 * i + k)), (2, 101)] w7 142 Q9
                        rw [show w7 103 (50 * i + k) = ((nxF w i k : Nat) : Int) from (hI37.2.1.1 103 ((50 * i + k)) (by decide)).trans (nx_e hI i k)]
                        refine qG.ild (m := 1820) rfl rfl (by omega) (by decide) ?_
                        show qG none (d + 1) 260 116 [(2, 95), (0, ((t : Nat) : Int)), (0, ((i : Nat) : Int)), (0, x3), (0, ((k : Nat) : Int))] [(0, w7 101 (nxF w i k))] w7 142 Q9
                        rw [show w7 101 (nxF w i k) = w 101 (nxF w i k) from hI37.2.1.1 101 ((nxF w i k)) (by decide)]
                        refine qG.blk 2 (pc' := 120) (ls' := [(2, 95), (0, ((t : Nat) : Int)), (0, ((i : Nat) : Int)), (0, x3), (0, ((k : Nat) : Int))]) (st' := [(2, w7 95 36), (0, w 101 (nxF w i k))]) (w' := w7) (n' := 142) rfl ?_
                        rw [show w7 95 36 = 116 from zref hI37.2.1.2 rfl rfl]
                        refine qG.blk 1 (pc' := 121) (ls' := [(2, 95), (0, ((t : Nat) : Int)), (0, ((i : Nat) : Int)), (0, x3), (0, ((k : Nat) : Int))]) (st' := [(0, ((t : Nat) : Int)), (2, 116), (0, w 101 (nxF w i k))]) (w' := w7) (n' := 142) rfl ?_
                        refine qG.ild (m := 900) rfl rfl (by omega) (by decide) ?_
                        show qG none (d + 1) 260 122 [(2, 95), (0, ((t : Nat) : Int)), (0, ((i : Nat) : Int)), (0, x3), (0, ((k : Nat) : Int))] [(0, w7 116 t), (0, w 101 (nxF w i k))] w7 142 Q9
                        rw [show w7 116 t = w 116 t from hI37.2.1.1 116 (t) (by decide)]
                        refine qG.blk 1 (pc' := 123) (ls' := [(2, 95), (0, ((t : Nat) : Int)), (0, ((i : Nat) : Int)), (0, x3), (0, ((k : Nat) : Int))]) (st' := [(0, qand (w 101 (nxF w i k)) (w 116 t))]) (w' := w7) (n' := 142) rfl ?_
                        refine qG.br (P := qand (w 101 (nxF w i k)) (w 116 t) = 0) (pc1 := 126) (pc2 := 130) (st1 := []) rfl (fun hcl => ?_) (fun hcl => ?_)
                        · skip
                          refine qG.blk 4 (pc' := 135) (ls' := [(2, 95), (0, ((t : Nat) : Int)), (0, ((i : Nat) : Int)), (0, 1), (0, wrp (((k : Nat) : Int) + 1))]) (st' := []) (w' := w7) (n' := 142) rfl ?_
                          rw [show wrp (((k : Nat) : Int) + 1) = ((k + 1 : Nat) : Int) from wrp_id (by omega) (by omega)]
                          refine qG.blk 1 (pc' := 62) (ls' := [(2, 95), (0, ((t : Nat) : Int)), (0, ((i : Nat) : Int)), (0, 1), (0, ((k + 1 : Nat) : Int))]) (st' := []) (w' := w7) (n' := 142) rfl ?_
                          exact ih62 _ (by omega) (k + 1) (1) rfl (⟨by omega, by rw [hg0.2]; first | (rw [b01_1 hgo, show clF w t (nxF w i k) = true from decide_eq_true hcl]; rfl) | (rw [b01_0 hgo]; rfl) | (rw [b01_1 hgo, show clF w t (nxF w i k) = false from decide_eq_false hcl]; rfl)⟩)
                        · skip
                          refine qG.blk 3 (pc' := 135) (ls' := [(2, 95), (0, ((t : Nat) : Int)), (0, ((i : Nat) : Int)), (0, 0), (0, wrp (((k : Nat) : Int) + 1))]) (st' := []) (w' := w7) (n' := 142) rfl ?_
                          rw [show wrp (((k : Nat) : Int) + 1) = ((k + 1 : Nat) : Int) from wrp_id (by omega) (by omega)]
                          refine qG.blk 1 (pc' := 62) (ls' := [(2, 95), (0, ((t : Nat) : Int)), (0, ((i : Nat) : Int)), (0, 0), (0, ((k + 1 : Nat) : Int))]) (st' := []) (w' := w7) (n' := 142) rfl ?_
                          exact ih62 _ (by omega) (k + 1) (0) rfl (⟨by omega, by rw [hg0.2]; first | (rw [b01_1 hgo, show clF w t (nxF w i k) = true from decide_eq_true hcl]; rfl) | (rw [b01_0 hgo]; rfl) | (rw [b01_1 hgo, show clF w t (nxF w i k) = false from decide_eq_false hcl]; rfl)⟩)
                    · skip
                      have hE := gK_E ht hI62.1 (.inr (b01_1 (hI62.2 ▸ hg1)))
                      refine qG.blk 1 (pc' := 139) (ls' := [(2, 95), (0, ((t : Nat) : Int)), (0, ((i : Nat) : Int)), (0, x3), (0, ((k : Nat) : Int))]) (st' := [(0, x3)]) (w' := w7) (n' := 142) rfl ?_
                      refine qG.br (P := x3 = 0) (pc1 := 165) (pc2 := 142) (st1 := []) rfl (fun hgd => ?_) (fun hgd => ?_)
                      · skip
                        refine qG.blk 1 (pc' := 168) (ls' := [(2, 95), (0, ((t : Nat) : Int)), (0, wrp (((i : Nat) : Int) + 1)), (0, x3), (0, ((k : Nat) : Int))]) (st' := []) (w' := w7) (n' := 142) rfl ?_
                        rw [show wrp (((i : Nat) : Int) + 1) = ((i + 1 : Nat) : Int) from wrp_id (by omega) (by omega)]
                        refine qG.blk 1 (pc' := 37) (ls' := [(2, 95), (0, ((t : Nat) : Int)), (0, ((i + 1 : Nat) : Int)), (0, x3), (0, ((k : Nat) : Int))]) (st' := []) (w' := w7) (n' := 142) rfl ?_
                        exact ih37 _ (by omega) (i + 1) (w7) ((0, x3)) ((0, ((k : Nat) : Int))) rfl (⟨by omega, hI37.2.1, rows.g hI37.2.2.1 (by rw [hI37.2.2.2.1 i (Nat.le_refl _) (by omega)]; exact hE ▸ (b01_0 (hI62.2 ▸ hgd)).symm), fun j h1 h2 => hI37.2.2.2.1 j (by omega) h2, hI37.2.2.2.2⟩)
                      · skip
                        refine qG.blk 2 (pc' := 146) (ls' := [(2, 95), (0, ((t : Nat) : Int)), (0, ((i : Nat) : Int)), (0, x3), (0, ((k : Nat) : Int))]) (st' := [(2, w7 95 47)]) (w' := w7) (n' := 142) rfl ?_
                        rw [show w7 95 47 = 119 from zref hI37.2.1.2 rfl rfl]
                        refine qG.blk 3 (pc' := 150) (ls' := [(2, 95), (0, ((t : Nat) : Int)), (0, ((i : Nat) : Int)), (0, x3), (0, ((k : Nat) : Int))]) (st' := [(0, wrp (57 * ((t : Nat) : Int))), (2, 119)]) (w' := w7) (n' := 142) rfl ?_
                        rw [show wrp (57 * ((t : Nat) : Int)) = ((57 * t : Nat) : Int) from by rw [wrp_id (by omega) (by omega)]; omega]
                        refine qG.blk 2 (pc' := 153) (ls' := [(2, 95), (0, ((t : Nat) : Int)), (0, ((i : Nat) : Int)), (0, x3), (0, ((k : Nat) : Int))]) (st' := [(0, 32), (0, ((i : Nat) : Int)), (0, ((57 * t : Nat) : Int)), (2, 119)]) (w' := w7) (n' := 142) rfl ?_
                        refine qG.gn (P := 32 = 0) (pc' := 154) (ls' := [(2, 95), (0, ((t : Nat) : Int)), (0, ((i : Nat) : Int)), (0, x3), (0, ((k : Nat) : Int))]) (st' := [(0, qdiv ((i : Nat) : Int) 32), (0, ((57 * t : Nat) : Int)), (2, 119)]) (w' := w7) (n' := 142) rfl (by decide) ?_
                        rw [show qdiv ((i : Nat) : Int) 32 = ((i / 32 : Nat) : Int) from (lbd i (by omega)).1]
                        refine qG.blk 1 (pc' := 155) (ls' := [(2, 95), (0, ((t : Nat) : Int)), (0, ((i : Nat) : Int)), (0, x3), (0, ((k : Nat) : Int))]) (st' := [(0, wrp (((57 * t : Nat) : Int) + ((i / 32 : Nat) : Int))), (2, 119)]) (w' := w7) (n' := 142) rfl ?_
                        rw [show wrp (((57 * t : Nat) : Int) + ((i / 32 : Nat) : Int)) = ((57 * t + i / 32 : Nat) : Int) from by rw [wrp_id (by omega) (by omega)]; omega]
                        refine qG.blk 1 (pc' := 156) (ls' := [(2, 95), (0, ((t : Nat) : Int)), (0, ((i : Nat) : Int)), (0, x3), (0, ((k : Nat) : Int))]) (st' := [(0, ((57 * t + i / 32 : Nat) : Int)), (2, 119), (0, ((57 * t + i / 32 : Nat) : Int)), (2, 119)]) (w' := w7) (n' := 142) rfl ?_
                        refine qG.ild (m := 51300) rfl rfl (by omega) (by decide) ?_
                        show qG none (d + 1) 260 157 [(2, 95), (0, ((t : Nat) : Int)), (0, ((i : Nat) : Int)), (0, x3), (0, ((k : Nat) : Int))] [(0, w7 119 (57 * t + i / 32)), (0, ((57 * t + i / 32 : Nat) : Int)), (2, 119)] w7 142 Q9
                        refine qG.blk 3 (pc' := 161) (ls' := [(2, 95), (0, ((t : Nat) : Int)), (0, ((i : Nat) : Int)), (0, x3), (0, ((k : Nat) : Int))]) (st' := [(0, 32), (0, ((i : Nat) : Int)), (0, 1), (0, w7 119 (57 * t + i / 32)), (0, ((57 * t + i / 32 : Nat) : Int)), (2, 119)]) (w' := w7) (n' := 142) rfl ?_
                        refine qG.gn (P := 32 = 0) (pc' := 162) (ls' := [(2, 95), (0, ((t : Nat) : Int)), (0, ((i : Nat) : Int)), (0, x3), (0, ((k : Nat) : Int))]) (st' := [(0, qrem ((i : Nat) : Int) 32), (0, 1), (0, w7 119 (57 * t + i / 32)), (0, ((57 * t + i / 32 : Nat) : Int)), (2, 119)]) (w' := w7) (n' := 142) rfl (by decide) ?_
                        rw [show qrem ((i : Nat) : Int) 32 = ((i % 32 : Nat) : Int) from (lbd i (by omega)).2]
                        refine qG.blk 2 (pc' := 164) (ls' := [(2, 95), (0, ((t : Nat) : Int)), (0, ((i : Nat) : Int)), (0, x3), (0, ((k : Nat) : Int))]) (st' := [(0, qor (w7 119 (57 * t + i / 32)) (qshl 1 ((i % 32 : Nat) : Int))), (0, ((57 * t + i / 32 : Nat) : Int)), (2, 119)]) (w' := w7) (n' := 142) rfl ?_
                        refine qG.ist (m := 51300) rfl rfl (by omega) (by decide) ?_
                        show qG none (d + 1) 260 165 [(2, 95), (0, ((t : Nat) : Int)), (0, ((i : Nat) : Int)), (0, x3), (0, ((k : Nat) : Int))] [] (qup w7 119 (57 * t + i / 32) (qor (w7 119 (57 * t + i / 32)) (qshl 1 ((i % 32 : Nat) : Int)))) 142 Q9
                        refine qG.blk 1 (pc' := 168) (ls' := [(2, 95), (0, ((t : Nat) : Int)), (0, wrp (((i : Nat) : Int) + 1)), (0, x3), (0, ((k : Nat) : Int))]) (st' := []) (w' := (qup w7 119 (57 * t + i / 32) (qor (w7 119 (57 * t + i / 32)) (qshl 1 ((i % 32 : Nat) : Int))))) (n' := 142) rfl ?_
                        rw [show wrp (((i : Nat) : Int) + 1) = ((i + 1 : Nat) : Int) from wrp_id (by omega) (by omega)]
                        refine qG.blk 1 (pc' := 37) (ls' := [(2, 95), (0, ((t : Nat) : Int)), (0, ((i + 1 : Nat) : Int)), (0, x3), (0, ((k : Nat) : Int))]) (st' := []) (w' := (qup w7 119 (57 * t + i / 32) (qor (w7 119 (57 * t + i / 32)) (qshl 1 ((i % 32 : Nat) : Int))))) (n' := 142) rfl ?_
                        exact ih37 _ (by omega) (i + 1) ((qup w7 119 (57 * t + i / 32) (qor (w7 119 (57 * t + i / 32)) (qshl 1 ((i % 32 : Nat) : Int))))) ((0, x3)) ((0, ((k : Nat) : Int))) rfl (⟨by omega, hI37.2.1.up (y32_i _), rows.g (fun j hj => by rw [goB_set (by omega) (by omega), hI37.2.2.1 j hj, decide_eq_false (show ¬ i = j by omega), Bool.or_false]) (by rw [goB_set (by omega) (by omega), decide_eq_true rfl, Bool.or_true]; exact hE ▸ (b01_1 (hI62.2 ▸ hgd)).symm), fun j h1 h2 => by rw [goB_set (by omega) h2, hI37.2.2.2.1 j (by omega) h2, decide_eq_false (show ¬ i = j by omega)]; rfl, hI37.2.2.2.2.up ht (by omega)⟩)
                  · skip
                    have hE := gK_E ht hI62.1 (.inl hkm)
                    refine qG.blk 1 (pc' := 139) (ls' := [(2, 95), (0, ((t : Nat) : Int)), (0, ((i : Nat) : Int)), (0, x3), (0, ((k : Nat) : Int))]) (st' := [(0, x3)]) (w' := w7) (n' := 142) rfl ?_
                    refine qG.br (P := x3 = 0) (pc1 := 165) (pc2 := 142) (st1 := []) rfl (fun hgd => ?_) (fun hgd => ?_)
                    · skip
                      refine qG.blk 1 (pc' := 168) (ls' := [(2, 95), (0, ((t : Nat) : Int)), (0, wrp (((i : Nat) : Int) + 1)), (0, x3), (0, ((k : Nat) : Int))]) (st' := []) (w' := w7) (n' := 142) rfl ?_
                      rw [show wrp (((i : Nat) : Int) + 1) = ((i + 1 : Nat) : Int) from wrp_id (by omega) (by omega)]
                      refine qG.blk 1 (pc' := 37) (ls' := [(2, 95), (0, ((t : Nat) : Int)), (0, ((i + 1 : Nat) : Int)), (0, x3), (0, ((k : Nat) : Int))]) (st' := []) (w' := w7) (n' := 142) rfl ?_
                      exact ih37 _ (by omega) (i + 1) (w7) ((0, x3)) ((0, ((k : Nat) : Int))) rfl (⟨by omega, hI37.2.1, rows.g hI37.2.2.1 (by rw [hI37.2.2.2.1 i (Nat.le_refl _) (by omega)]; exact hE ▸ (b01_0 (hI62.2 ▸ hgd)).symm), fun j h1 h2 => hI37.2.2.2.1 j (by omega) h2, hI37.2.2.2.2⟩)
                    · skip
                      refine qG.blk 2 (pc' := 146) (ls' := [(2, 95), (0, ((t : Nat) : Int)), (0, ((i : Nat) : Int)), (0, x3), (0, ((k : Nat) : Int))]) (st' := [(2, w7 95 47)]) (w' := w7) (n' := 142) rfl ?_
                      rw [show w7 95 47 = 119 from zref hI37.2.1.2 rfl rfl]
                      refine qG.blk 3 (pc' := 150) (ls' := [(2, 95), (0, ((t : Nat) : Int)), (0, ((i : Nat) : Int)), (0, x3), (0, ((k : Nat) : Int))]) (st' := [(0, wrp (57 * ((t : Nat) : Int))), (2, 119)]) (w' := w7) (n' := 142) rfl ?_
                      rw [show wrp (57 * ((t : Nat) : Int)) = ((57 * t : Nat) : Int) from by rw [wrp_id (by omega) (by omega)]; omega]
                      refine qG.blk 2 (pc' := 153) (ls' := [(2, 95), (0, ((t : Nat) : Int)), (0, ((i : Nat) : Int)), (0, x3), (0, ((k : Nat) : Int))]) (st' := [(0, 32), (0, ((i : Nat) : Int)), (0, ((57 * t : Nat) : Int)), (2, 119)]) (w' := w7) (n' := 142) rfl ?_
                      refine qG.gn (P := 32 = 0) (pc' := 154) (ls' := [(2, 95), (0, ((t : Nat) : Int)), (0, ((i : Nat) : Int)), (0, x3), (0, ((k : Nat) : Int))]) (st' := [(0, qdiv ((i : Nat) : Int) 32), (0, ((57 * t : Nat) : Int)), (2, 119)]) (w' := w7) (n' := 142) rfl (by decide) ?_
                      rw [show qdiv ((i : Nat) : Int) 32 = ((i / 32 : Nat) : Int) from (lbd i (by omega)).1]
                      refine qG.blk 1 (pc' := 155) (ls' := [(2, 95), (0, ((t : Nat) : Int)), (0, ((i : Nat) : Int)), (0, x3), (0, ((k : Nat) : Int))]) (st' := [(0, wrp (((57 * t : Nat) : Int) + ((i / 32 : Nat) : Int))), (2, 119)]) (w' := w7) (n' := 142) rfl ?_
                      rw [show wrp (((57 * t : Nat) : Int) + ((i / 32 : Nat) : Int)) = ((57 * t + i / 32 : Nat) : Int) from by rw [wrp_id (by omega) (by omega)]; omega]
                      refine qG.blk 1 (pc' := 156) (ls' := [(2, 95), (0, ((t : Nat) : Int)), (0, ((i : Nat) : Int)), (0, x3), (0, ((k : Nat) : Int))]) (st' := [(0, ((57 * t + i / 32 : Nat) : Int)), (2, 119), (0, ((57 * t + i / 32 : Nat) : Int)), (2, 119)]) (w' := w7) (n' := 142) rfl ?_
                      refine qG.ild (m := 51300) rfl rfl (by omega) (by decide) ?_
                      show qG none (d + 1) 260 157 [(2, 95), (0, ((t : Nat) : Int)), (0, ((i : Nat) : Int)), (0, x3), (0, ((k : Nat) : Int))] [(0, w7 119 (57 * t + i / 32)), (0, ((57 * t + i / 32 : Nat) : Int)), (2, 119)] w7 142 Q9
                      refine qG.blk 3 (pc' := 161) (ls' := [(2, 95), (0, ((t : Nat) : Int)), (0, ((i : Nat) : Int)), (0, x3), (0, ((k : Nat) : Int))]) (st' := [(0, 32), (0, ((i : Nat) : Int)), (0, 1), (0, w7 119 (57 * t + i / 32)), (0, ((57 * t + i / 32 : Nat) : Int)), (2, 119)]) (w' := w7) (n' := 142) rfl ?_
                      refine qG.gn (P := 32 = 0) (pc' := 162) (ls' := [(2, 95), (0, ((t : Nat) : Int)), (0, ((i : Nat) : Int)), (0, x3), (0, ((k : Nat) : Int))]) (st' := [(0, qrem ((i : Nat) : Int) 32), (0, 1), (0, w7 119 (57 * t + i / 32)), (0, ((57 * t + i / 32 : Nat) : Int)), (2, 119)]) (w' := w7) (n' := 142) rfl (by decide) ?_
                      rw [show qrem ((i : Nat) : Int) 32 = ((i % 32 : Nat) : Int) from (lbd i (by omega)).2]
                      refine qG.blk 2 (pc' := 164) (ls' := [(2, 95), (0, ((t : Nat) : Int)), (0, ((i : Nat) : Int)), (0, x3), (0, ((k : Nat) : Int))]) (st' := [(0, qor (w7 119 (57 * t + i / 32)) (qshl 1 ((i % 32 : Nat) : Int))), (0, ((57 * t + i / 32 : Nat) : Int)), (2, 119)]) (w' := w7) (n' := 142) rfl ?_
                      refine qG.ist (m := 51300) rfl rfl (by omega) (by decide) ?_
                      show qG none (d + 1) 260 165 [(2, 95), (0, ((t : Nat) : Int)), (0, ((i : Nat) : Int)), (0, x3), (0, ((k : Nat) : Int))] [] (qup w7 119 (57 * t + i / 32) (qor (w7 119 (57 * t + i / 32)) (qshl 1 ((i % 32 : Nat) : Int)))) 142 Q9
                      refine qG.blk 1 (pc' := 168) (ls' := [(2, 95), (0, ((t : Nat) : Int)), (0, wrp (((i : Nat) : Int) + 1)), (0, x3), (0, ((k : Nat) : Int))]) (st' := []) (w' := (qup w7 119 (57 * t + i / 32) (qor (w7 119 (57 * t + i / 32)) (qshl 1 ((i % 32 : Nat) : Int))))) (n' := 142) rfl ?_
                      rw [show wrp (((i : Nat) : Int) + 1) = ((i + 1 : Nat) : Int) from wrp_id (by omega) (by omega)]
                      refine qG.blk 1 (pc' := 37) (ls' := [(2, 95), (0, ((t : Nat) : Int)), (0, ((i + 1 : Nat) : Int)), (0, x3), (0, ((k : Nat) : Int))]) (st' := []) (w' := (qup w7 119 (57 * t + i / 32) (qor (w7 119 (57 * t + i / 32)) (qshl 1 ((i % 32 : Nat) : Int))))) (n' := 142) rfl ?_
                      exact ih37 _ (by omega) (i + 1) ((qup w7 119 (57 * t + i / 32) (qor (w7 119 (57 * t + i / 32)) (qshl 1 ((i % 32 : Nat) : Int))))) ((0, x3)) ((0, ((k : Nat) : Int))) rfl (⟨by omega, hI37.2.1.up (y32_i _), rows.g (fun j hj => by rw [goB_set (by omega) (by omega), hI37.2.2.1 j hj, decide_eq_false (show ¬ i = j by omega), Bool.or_false]) (by rw [goB_set (by omega) (by omega), decide_eq_true rfl, Bool.or_true]; exact hE ▸ (b01_1 (hI62.2 ▸ hgd)).symm), fun j h1 h2 => by rw [goB_set (by omega) h2, hI37.2.2.2.1 j (by omega) h2, decide_eq_false (show ¬ i = j by omega)]; rfl, hI37.2.2.2.2.up ht (by omega)⟩)
                exact L62_1 _ (0) (0) rfl (⟨by omega, by first | (unfold gK; rw [decide_eq_true (show u = 0 by omega)]; rfl) | (unfold gK; rw [decide_eq_false (show ¬ u = 0 by omega)]; rfl)⟩)
            · skip
              refine qG.blk 1 (pc' := 174) (ls' := [(2, 95), (0, wrp (((t : Nat) : Int) + (-1))), (0, ((i : Nat) : Int)), x3, x4]) (st' := []) (w' := w7) (n' := 142) rfl ?_
              rw [show wrp (((t : Nat) : Int) + (-1)) = ((t : Nat) : Int) + (-1) from wrp_id (by omega) (by omega)]
              refine qG.blk 1 (pc' := 5) (ls' := [(2, 95), (0, ((t : Nat) : Int) + (-1)), (0, ((i : Nat) : Int)), x3, x4]) (st' := []) (w' := w7) (n' := 142) rfl ?_
              exact ih5 _ (by omega) (u + 1) (((t : Nat) : Int) + (-1)) (w7) ((0, ((i : Nat) : Int))) (x3) (x4) rfl (⟨by first | omega | (rw [wrp_id (by omega) (by omega)]; omega), by omega, hI37.2.1, hI37.2.2.2.2.nx ht (fun j hj => hI37.2.2.1 j (by omega))⟩)
          exact L37 _ (0) (w8) (x3) (x4) rfl (⟨by omega, hI11.2.1, fun j hj => absurd hj (Nat.not_lt_zero j), fun j _ hj => goB_n (fun q hq => hI11.2.2.1 q (by omega)) hj, hI11.2.2.2⟩)
      exact L11 _ (0) (w9) rfl (⟨by omega, hI5.2.2.1, fun q hq => absurd hq (Nat.not_lt_zero q), hI5.2.2.2⟩)
  exact L5 _ (0) (((S : Nat) : Int)) (w) ((9, 0)) ((9, 0)) ((9, 0)) rfl (⟨by omega, by omega, ⟨fun _ _ _ => rfl, hI⟩, fun u2 i hu _ => absurd hu (Nat.not_lt_zero u2)⟩)
