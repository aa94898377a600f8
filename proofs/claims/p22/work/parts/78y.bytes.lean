/-! the tape's bytes, on both sides -/
theorem low8 {x : Int} {s : Nat} (hs : s ≤ 24) : qand (qshr x (s : Int)) 255 = qand (qush x (s : Int)) 255 := by
  unfold qand qshr qush
  rw [Int32.ofInt_toInt, Int32.ofInt_toInt]
  have a : ∀ i, i < 8 → (Int32.ofInt x >>> (Int32.ofInt (s : Int) &&& 31)).toBitVec.getLsbD i = (Int32.ofInt x).toBitVec.getLsbD (s + i) := fun i hi => by
    rw [Int32.toBitVec_shiftRight, BitVec.sshiftRight', shs32 s (by omega), BitVec.getLsbD_sshiftRight]
    simp [show s + i < 32 by omega, show i < 32 by omega]
  have b : ∀ i, i < 8 → ((Int32.ofInt x).toUInt32 >>> ((Int32.ofInt (s : Int)).toUInt32 &&& Int32.toUInt32 31)).toInt32.toBitVec.getLsbD i = (Int32.ofInt x).toBitVec.getLsbD (s + i) := fun i hi => by
    show ((Int32.ofInt x).toUInt32 >>> ((Int32.ofInt (s : Int)).toUInt32 &&& Int32.toUInt32 31)).toBitVec.getLsbD i = _
    rw [UInt32.toBitVec_shiftRight, BitVec.ushiftRight_eq', ush32 s (by omega), BitVec.getLsbD_ushiftRight]
    rfl
  generalize Int32.ofInt x >>> (Int32.ofInt (s : Int) &&& 31) = z1 at a ⊢
  generalize ((Int32.ofInt x).toUInt32 >>> ((Int32.ofInt (s : Int)).toUInt32 &&& Int32.toUInt32 31)).toInt32 = z2 at b ⊢
  show (z1 &&& Int32.ofInt 255).toBitVec.toInt = (z2 &&& Int32.ofInt 255).toBitVec.toInt
  refine congrArg BitVec.toInt ?_
  rw [Int32.toBitVec_and, Int32.toBitVec_and]
  apply BitVec.eq_of_getLsbD_eq
  intro i hi
  rw [BitVec.getLsbD_and, BitVec.getLsbD_and]
  by_cases h8 : i < 8
  · rw [a i h8, b i h8]
  · have c : (Int32.ofInt 255).toBitVec.getLsbD i = false := Nat.testBit_lt_two_pow (Nat.lt_of_lt_of_le (show (Int32.ofInt 255).toBitVec.toNat < 2 ^ 8 by decide) (Nat.pow_le_pow_right (by decide) (by omega)))
    rw [c, Bool.and_false, Bool.and_false]
theorem and255 (x : Int) : qand x 255 = x % 256 := by
  have h := qand_r (x := x) (b := 255) (by decide)
  have h : qand x 255 = (((x % 4294967296).toNat &&& 255 : Nat) : Int) := h
  rw [h, show (x % 4294967296).toNat &&& 255 = (x % 4294967296).toNat % 256 from Nat.and_two_pow_sub_one_eq_mod _ 8]
  omega
theorem byte_eq {x : Int} {s : Nat} (hs : s ≤ 24) : qand (qshr x (s : Int)) 255 = qi2b (qush x (s : Int)) % 256 := by
  rw [low8 hs, and255]
  unfold qi2b
  omega
noncomputable def vF (a b c e f : Int) (i : Nat) : Int := if i < 4 then a else if i < 8 then b else if i < 12 then c else if i < 16 then e else f
noncomputable def fbX (a b c e f : Int) (n : Nat) (w : qW) (r : qV) (w1 : qW) : Prop := (¬ n + 20 ≤ 600 ∧ r = (0, -1) ∧ w1 = w) ∨ (n + 20 ≤ 600 ∧ r = (0, ((n + 20 : Nat) : Int)) ∧ w1 8 1 = ((n + 20 : Nat) : Int) ∧ (∀ i, i < 20 → w1 9 (n + i) = qi2b (qush (vF a b c e f i) ((24 - 8 * (i % 4) : Nat) : Int))) ∧ ∀ q k, ¬ (q = 9 ∧ n ≤ k ∧ k < n + 20) → ¬ (q = 8 ∧ k = 1) → w1 q k = w q k)
noncomputable def fbR (a b c e f : Int) (n : Nat) (w : qW) (r : qV) (w1 : qW) : Prop := (¬ n + 20 ≤ 600 ∧ r = (0, -1) ∧ w1 = w) ∨ (n + 20 ≤ 600 ∧ r = (0, ((n + 20 : Nat) : Int)) ∧ w1 95 25 = ((n + 20 : Nat) : Int) ∧ (∀ i, i < 20 → w1 114 (n + i) = qand (qshr (vF a b c e f i) ((24 - 8 * (i % 4) : Nat) : Int)) 255) ∧ ∀ q k, ¬ (q = 114 ∧ n ≤ k ∧ k < n + 20) → ¬ (q = 95 ∧ k = 25) → w1 q k = w q k)
/-- as long, and the same bytes -/
noncomputable def JM (w : qW) : Prop := w 8 1 = w 95 25 ∧ ∀ j : Nat, (j : Int) < w 95 25 → w 114 j = w 9 j % 256

noncomputable def jmM (m : List Nat) : Bool := spo m 9 && (spo m 114 && (!ymo 8 1 m && !ymo 95 25 m))
theorem JM.aw {m : List Nat} {w w1 : qW} (h : JM w) (a : AW m w w1) (hm : jmM m = true) : JM w1 := by
  unfold jmM at hm
  simp only [Bool.and_eq_true, Bool.not_eq_true'] at hm
  obtain ⟨m1, m2, m3, m4⟩ := hm
  refine ⟨?_, fun j hj => ?_⟩
  · rw [a.2 8 1 (fun _ => m3), a.2 95 25 (fun _ => m4)]; exact h.1
  · rw [a.2 95 25 (fun _ => m4)] at hj
    rw [a.a (by decide) m1, a.a (by decide) m2]; exact h.2 j hj
theorem JM.feed {w w1 w2 : qW} {a b c e f : Int} {n : Nat} {r r2 : qV} (h : JM w) (hn : w 8 1 = (n : Int)) (hX : fbX a b c e f n w r w1) (hR : fbR a b c e f n w1 r2 w2) : JM w2 ∧ r = r2 := by
  rcases hX with ⟨c1, rfl, rfl⟩ | ⟨c1, rfl, x1, x2, x3⟩ <;> rcases hR with ⟨c2, rfl, rfl⟩ | ⟨c2, rfl, y1, y2, y3⟩
  · exact ⟨h, rfl⟩
  · exact absurd c2 c1
  · exact absurd c1 c2
  · refine ⟨⟨?_, fun j hj => ?_⟩, rfl⟩
    · rw [y1, y3 8 1 (by omega) (by omega), x1]
    · rw [y1] at hj
      by_cases hjn : j < n
      · rw [y3 114 j (by omega) (by omega), y3 9 j (by omega) (by omega), x3 114 j (by omega) (by omega), x3 9 j (by omega) (by omega)]
        exact h.2 j (by rw [← h.1, hn]; omega)
      · obtain ⟨i, rfl⟩ : ∃ i, j = n + i := ⟨j - n, by omega⟩
        rw [y2 i (by omega), y3 9 (n + i) (by omega) (by omega), x2 i (by omega)]
        exact byte_eq (by omega)
theorem JM.fin {w w1 w2 : qW} {v : Int} {n : Nat} {r r2 : qV} (h : JM w) (hn : w 8 1 = (n : Int)) (hX : enX v n w r w1) (hR : enR v n w1 r2 w2) : JM w2 ∧ r = r2 := by
  rcases hX with ⟨c1, rfl, rfl⟩ | ⟨c1, rfl, rfl⟩ <;> rcases hR with ⟨c2, rfl, rfl⟩ | ⟨c2, rfl, rfl⟩
  · exact ⟨h, rfl⟩
  · exact absurd c2 c1
  · exact absurd c1 c2
  · refine ⟨⟨by simp (disch := decide) only [qup_ne, qup_k], fun j hj => ?_⟩, rfl⟩
    rw [qup_k] at hj
    rw [qup_ne (by decide), qup_ne (by decide), qup_ne (by decide), qup_ne (by decide)]
    exact h.2 j (by rw [← h.1, hn]; omega)
theorem JM.zero {w2 : qW} (hX : w2 8 1 = 0) (hR : w2 95 25 = 0) : JM w2 := ⟨hX.trans hR.symm, fun j hj => absurd hj (by rw [hR]; omega)⟩
