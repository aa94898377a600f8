/-! what door answers -/
theorem hi_bit {u m : Nat} (hu : 65536 ≤ u) (hu2 : u < 4294967296) (hm : ∀ i, i < 16 → m.testBit (16 + i) = true) : ¬ u &&& m = 0 := fun h => by
  have h1 : u >>> 16 ≠ 0 := by rw [Nat.shiftRight_eq_div_pow]; omega
  obtain ⟨i, hi⟩ := Nat.exists_testBit_of_ne_zero h1
  rw [Nat.testBit_shiftRight] at hi
  have h2 : i < 16 := by
    refine Decidable.byContradiction (fun z => ?_)
    have := Nat.testBit_lt_two_pow (x := u) (i := 16 + i) (Nat.lt_of_lt_of_le (show u < 2 ^ 32 from hu2) (Nat.pow_le_pow_right (by decide) (by omega)))
    rw [this] at hi; cases hi
  have h3 : (u &&& m).testBit (16 + i) = true := by rw [Nat.testBit_and, hi, hm i h2]; rfl
  rw [h, Nat.zero_testBit] at h3
  cases h3
theorem mk_s0 : ∀ a : Nat, a < 256 → ∀ b : Nat, b < 256 → (Nat.beq ((256 * a + b) &&& 4294967040) 0 == Nat.beq ((256 * a + b) &&& 65280) 0) = true := by decide +kernel
theorem mk_t0 (u : Nat) (hu : u < 65536) : (u &&& 4294967040 = 0) ↔ (u &&& 65280 = 0) := by
  have h := mk_s0 (u / 256) (by omega) (u % 256) (by omega)
  rw [show 256 * (u / 256) + u % 256 = u by omega, beq_iff_eq] at h
  constructor
  · intro z; rw [z] at h; exact Nat.eq_of_beq_eq_true h.symm
  · intro z; rw [z] at h; exact Nat.eq_of_beq_eq_true h
theorem mk_s1 : ∀ a : Nat, a < 256 → ∀ b : Nat, b < 256 → (Nat.beq ((256 * a + b) &&& 4294902015) 0 == Nat.beq ((256 * a + b) &&& 255) 0) = true := by decide +kernel
theorem mk_t1 (u : Nat) (hu : u < 65536) : (u &&& 4294902015 = 0) ↔ (u &&& 255 = 0) := by
  have h := mk_s1 (u / 256) (by omega) (u % 256) (by omega)
  rw [show 256 * (u / 256) + u % 256 = u by omega, beq_iff_eq] at h
  constructor
  · intro z; rw [z] at h; exact Nat.eq_of_beq_eq_true h.symm
  · intro z; rw [z] at h; exact Nat.eq_of_beq_eq_true h
theorem mk_h0 : ∀ i : Nat, i < 16 → (4294967040 : Nat).testBit (16 + i) = true := by decide +kernel
theorem mk_h1 : ∀ i : Nat, i < 16 → (4294902015 : Nat).testBit (16 + i) = true := by decide +kernel
theorem nI_z0 {k : Nat} (hk : k < 4294967296) : (nI k).toInt = 0 ↔ k = 0 := by
  constructor
  · intro h
    have h1 : nI k = 0 := Int32.toInt_inj.mp h
    have h2 : (nI k).toBitVec.toNat = 0 := by rw [h1]; rfl
    have h3 : (nI k).toBitVec.toNat = k % 4294967296 := by simp [nI]
    omega
  · rintro rfl; rfl
theorem qand_z {v m : Int} : qand v m = 0 ↔ (v % 4294967296).toNat &&& (m % 4294967296).toNat = 0 := by
  unfold qand
  rw [yofm v, yofm m, yb_and]
  refine nI_z0 ?_
  have : (v % 4294967296).toNat &&& (m % 4294967296).toNat ≤ (v % 4294967296).toNat := Nat.and_le_left
  omega
theorem mk0 {v : Int} (h1 : -2147483648 ≤ v) (h2 : v ≤ 2147483647) : qand v (qxor 255 (-1)) = 0 ↔ (0 ≤ v ∧ v ≤ 65535) ∧ qand v 65280 = 0 := by
  rw [qand_z, qand_z, show (qxor 255 (-1) % 4294967296).toNat = 4294967040 from by decide, show ((65280 : Int) % 4294967296).toNat = 65280 from by decide]
  by_cases h : 0 ≤ v ∧ v ≤ 65535
  · rw [mk_t0 _ (by omega)]
    exact ⟨fun z => ⟨h, z⟩, fun z => z.2⟩
  · exact ⟨fun z => absurd z (hi_bit (by omega) (by omega) mk_h0), fun z => absurd z.1 h⟩
theorem mk1 {v : Int} (h1 : -2147483648 ≤ v) (h2 : v ≤ 2147483647) : qand v (qxor 65280 (-1)) = 0 ↔ (0 ≤ v ∧ v ≤ 65535) ∧ qand v 255 = 0 := by
  rw [qand_z, qand_z, show (qxor 65280 (-1) % 4294967296).toNat = 4294902015 from by decide, show ((255 : Int) % 4294967296).toNat = 255 from by decide]
  by_cases h : 0 ≤ v ∧ v ≤ 65535
  · rw [mk_t1 _ (by omega)]
    exact ⟨fun z => ⟨h, z⟩, fun z => z.2⟩
  · exact ⟨fun z => absurd z (hi_bit (by omega) (by omega) mk_h1), fun z => absurd z.1 h⟩
/-- what putDoor answers -/
noncomputable def pdV (d s v : Int) : Int := if ((0 ≤ d ∧ d ≤ 9) ∧ 0 ≤ s ∧ s ≤ 1) ∧ (0 ≤ v ∧ v ≤ 65535) ∧ qand v (if s = 0 then 65280 else 255) = 0 then 1 else 0
noncomputable def doorV (c d s v : Int) : Int := if isInV c 0 2 = 0 then 0 else pdV d s v
theorem pdV_r {d s v : Int} (h : ¬ ((0 ≤ d ∧ d ≤ 9) ∧ 0 ≤ s ∧ s ≤ 1)) : pdV d s v = 0 := if_neg (fun z => h z.1)
theorem pdV_0 {d s v : Int} (hd : 0 ≤ d ∧ d ≤ 9) (hs : s = 0) (h : (0 ≤ v ∧ v ≤ 65535) ∧ qand v 65280 = 0) : pdV d s v = 1 := by subst hs; exact if_pos ⟨⟨hd, by decide⟩, h⟩
theorem pdV_0n {d s v : Int} (hs : s = 0) (h : ¬ ((0 ≤ v ∧ v ≤ 65535) ∧ qand v 65280 = 0)) : pdV d s v = 0 := by subst hs; exact if_neg (fun z => h z.2)
theorem pdV_1 {d s v : Int} (hd : 0 ≤ d ∧ d ≤ 9) (hs : ¬ s = 0) (hs2 : 0 ≤ s ∧ s ≤ 1) (h : (0 ≤ v ∧ v ≤ 65535) ∧ qand v 255 = 0) : pdV d s v = 1 := if_pos ⟨⟨hd, hs2⟩, by rw [if_neg hs]; exact h⟩
theorem pdV_1n {d s v : Int} (hs : ¬ s = 0) (h : ¬ ((0 ≤ v ∧ v ≤ 65535) ∧ qand v 255 = 0)) : pdV d s v = 0 := if_neg (fun z => h (by have := z.2; rw [if_neg hs] at this; exact this))
theorem K_X12_isSet {d : Nat} (hd : 1 ≤ d) (v : Int) (w : qW) : qG none d 216 0 [(0, v)] [] w 142 (fun (r : qV) (w1 : qW) (n1 : Nat) => r = (0, isInV v 0 65535) ∧ w1 = w ∧ n1 = 142) := by
  generalize hQ9 : (fun (r : qV) (w1 : qW) (n1 : Nat) => r = (0, isInV v 0 65535) ∧ w1 = w ∧ n1 = 142) = Q9
  obtain ⟨d, rfl⟩ : ∃ d9, d = d9 + 1 := ⟨d - 1, by omega⟩
  refine qG.blk 3 (pc' := 4) (ls' := [(0, v)]) (st' := [(0, 65535), (0, 0), (0, v)]) (w' := w) (n' := 142) rfl ?_
  refine qG.call (t := 206) (na := 3) (sk := 0) (md := 0) (ls1 := [(0, v), (0, 0), (0, 65535)]) (r1 := []) rfl rfl rfl rfl rfl (K_isIn (Nat.zero_le _) _ _ _ _) ?_
  rintro _ w7 _ ⟨rfl, hw7, rfl⟩
  rw [hw7]
  show qG none (d + 1) 216 7 [(0, v)] [(0, isInV (v) (0) (65535))] w 142 Q9
  refine qG.ret rfl (by have q9 := isInV_01 v 0 65535; exact decide_eq_true (by omega)) ?_
  subst hQ9
  exact ⟨rfl, rfl, rfl⟩
theorem isIn_b {c a b : Int} : isInV c a b = 0 ↔ ¬ (a ≤ c ∧ c ≤ b) := by unfold isInV; split <;> (try split) <;> constructor <;> intro h <;> omega
