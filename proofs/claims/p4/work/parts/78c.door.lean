/-! what door answers -/
theorem hi_bit {u m : Nat} (hu : 65536 ≤ u) (hu2 : u < 4294967296) (hm : ∀ i, i < 16 → m.testBit (16 + i) = true) : ¬ u &&& m = 0 := fun h => by
  have h1 : u >>> 16 ≠ 0 := by rw [Nat.shiftRight_eq_div_pow]; omega
  obtain ⟨i, hi⟩ := Nat.exists_testBit_of_ne_zero h1
  rw [Nat.testBit_shiftRight] at hi
  have h2 : i < 16 := by
    refine Decidable.byContradiction (fun z => ?_)
    have := Nat.testBit_lt_two_pow (x := u) (i := 16 + i) (Nat.lt_of_lt_of_le (show u < 2 ^ 32 from hu2) (Nat.pow_le_pow_right (by decide) (by omega)))
    rw [this] at hi; cases hi
  have h3 : (u &&& m).testBit (16 + i) = true := by rw [Nat.testBit_and, hi, hm i h2]; rfl
  rw [h, Nat.zero_testBit] at h3
  cases h3
theorem mk_s0 : ∀ a : Nat, a < 256 → ∀ b : Nat, b < 256 → (Nat.beq ((256 * a + b) &&& 4294967040) 0 == Nat.beq ((256 * a + b) &&& 65280) 0) = true := by decide +kernel
theorem mk_t0 (u : Nat) (hu : u < 65536) : (u &&& 4294967040 = 0) ↔ (u &&& 65280 = 0) := by
  have h := mk_s0 (u / 256) (by omega) (u % 256) (by omega)
  rw [show 256 * (u / 256) + u % 256 = u by omega, beq_iff_eq] at h
  constructor
  · intro z; rw [z] at h; exact Nat.eq_of_beq_eq_true h.symm
  · intro z; rw [z] at h; exact Nat.eq_of_beq_eq_true h
theorem mk_s1 : ∀ a : Nat, a < 256 → ∀ b : Nat, b < 256 → (Nat.beq ((256 * a + b) &&& 4294902015) 0 == Nat.beq ((256 * a + b) &&& 255) 0) = true := by decide +kernel
theorem mk_t1 (u : Nat) (hu : u < 65536) : (u &&& 4294902015 = 0) ↔ (u &&& 255 = 0) := by
  have h := mk_s1 (u / 256) (by omega) (u % 256) (by omega)
  rw [show 256 * (u / 256) + u % 256 = u by omega, beq_iff_eq] at h
  constructor
  · intro z; rw [z] at h; exact Nat.eq_of_beq_eq_true h.symm
  · intro z; rw [z] at h; exact Nat.eq_of_beq_eq_true h
theorem mk_h0 : ∀ i : Nat, i < 16 → (4294967040 : Nat).testBit (16 + i) = true := by decide +kernel
theorem mk_h1 : ∀ i : Nat, i < 16 → (4294902015 : Nat).testBit (16 + i) = true := by decide +kernel
theorem nI_z0 {k : Nat} (hk : k < 4294967296) : (nI k).toInt = 0 ↔ k = 0 := by
  constructor
  · intro h
    have h1 : nI k = 0 := Int32.toInt_inj.mp h
    have h2 : (nI k).toBitVec.toNat = 0 := by rw [h1]; rfl
    have h3 : (nI k).toBitVec.toNat = k % 4294967296 := by simp [nI]
    omega
  · rintro rfl; rfl
theorem qand_z {v m : Int} : qand v m = 0 ↔ (v % 4294967296).toNat &&& (m % 4294967296).toNat = 0 := by
  unfold qand
  rw [yofm v, yofm m, yb_and]
  refine nI_z0 ?_
  have : (v % 4294967296).toNat &&& (m % 4294967296).toNat ≤ (v % 4294967296).toNat := Nat.and_le_left
  omega
theorem mk0 {v : Int} (h1 : -2147483648 ≤ v) (h2 : v ≤ 2147483647) : qand v (qxor 255 (-1)) = 0 ↔ (0 ≤ v ∧ v ≤ 65535) ∧ qand v 65280 = 0 := by
  rw [qand_z, qand_z, show (qxor 255 (-1) % 4294967296).toNat = 4294967040 from by decide, show ((65280 : Int) % 4294967296).toNat = 65280 from by decide]
  by_cases h : 0 ≤ v ∧ v ≤ 65535
  · rw [mk_t0 _ (by omega)]
    exact ⟨fun z => ⟨h, z⟩, fun z => z.2⟩
  · exact ⟨fun z => absurd z (hi_bit (by omega) (by omega) mk_h0), fun z => absurd z.1 h⟩
theorem mk1 {v : Int} (h1 : -2147483648 ≤ v) (h2 : v ≤ 2147483647) : qand v (qxor 65280 (-1)) = 0 ↔ (0 ≤ v ∧ v ≤ 65535) ∧ qand v 255 = 0 := by
  rw [qand_z, qand_z, show (qxor 65280 (-1) % 4294967296).toNat = 4294902015 from by decide, show ((255 : Int) % 4294967296).toNat = 255 from by decide]
  by_cases h : 0 ≤ v ∧ v ≤ 65535
  · rw [mk_t1 _ (by omega)]
    exact ⟨fun z => ⟨h, z⟩, fun z => z.2⟩
  · exact ⟨fun z => absurd z (hi_bit (by omega) (by omega) mk_h1), fun z => absurd z.1 h⟩
/-- what putDoor answers -/
def pdV (d s v : Int) : Int := if ((0 ≤ d ∧ d ≤ 9) ∧ 0 ≤ s ∧ s ≤ 1) ∧ (0 ≤ v ∧ v ≤ 65535) ∧ qand v (if s = 0 then 65280 else 255) = 0 then 1 else 0
def doorV (c d s v : Int) : Int := if isInV c 0 2 = 0 then 0 else pdV d s v
theorem ite_01 {P : Prop} [Decidable P] : (if P then (1 : Int) else 0) = 0 ∨ (if P then (1 : Int) else 0) = 1 := by
  by_cases h : P
  · right; exact if_pos h
  · left; exact if_neg h
theorem pdV_01 (d s v : Int) : pdV d s v = 0 ∨ pdV d s v = 1 := ite_01
theorem pdV_r {d s v : Int} (h : ¬ ((0 ≤ d ∧ d ≤ 9) ∧ 0 ≤ s ∧ s ≤ 1)) : pdV d s v = 0 := if_neg (fun z => h z.1)
theorem pdV_0 {d s v : Int} (hd : 0 ≤ d ∧ d ≤ 9) (hs : s = 0) (h : (0 ≤ v ∧ v ≤ 65535) ∧ qand v 65280 = 0) : pdV d s v = 1 := by subst hs; exact if_pos ⟨⟨hd, by decide⟩, h⟩
theorem pdV_0n {d s v : Int} (hs : s = 0) (h : ¬ ((0 ≤ v ∧ v ≤ 65535) ∧ qand v 65280 = 0)) : pdV d s v = 0 := by subst hs; exact if_neg (fun z => h z.2)
theorem pdV_1 {d s v : Int} (hd : 0 ≤ d ∧ d ≤ 9) (hs : ¬ s = 0) (hs2 : 0 ≤ s ∧ s ≤ 1) (h : (0 ≤ v ∧ v ≤ 65535) ∧ qand v 255 = 0) : pdV d s v = 1 := if_pos ⟨⟨hd, hs2⟩, by rw [if_neg hs]; exact h⟩
theorem pdV_1n {d s v : Int} (hs : ¬ s = 0) (h : ¬ ((0 ≤ v ∧ v ≤ 65535) ∧ qand v 255 = 0)) : pdV d s v = 0 := if_neg (fun z => h (by have := z.2; rw [if_neg hs] at this; exact this))
theorem K_putDoor64 {d : Nat} (hd : 0 ≤ d) (d1 s v b : Int) (hv1 : -2147483648 ≤ v) (hv2 : v ≤ 2147483647) (hb : 0 ≤ b ∧ b ≤ 1) (w : qW) (hI : yInv zgf zga zra zSp w) : qG none d 22 0 [(2, 64), (0, d1), (0, s), (0, v), (0, b), (9, 0)] [] w 142 (fun (r : qV) (_ : qW) (n1 : Nat) => r = (0, pdV d1 s v) ∧ n1 = 142) := by
  generalize hQ9 : (fun (r : qV) (_ : qW) (n1 : Nat) => r = (0, pdV d1 s v) ∧ n1 = 142) = Q9
  refine qG.blk 1 (pc' := 1) (ls' := [(2, 64), (0, d1), (0, s), (0, v), (0, b), (9, 0)]) (st' := [(0, d1)]) (w' := w) (n' := 142) rfl ?_
  refine qG.br (P := d1 < 0) (pc1 := 19) (pc2 := 4) (st1 := []) rfl (fun h1 => ?_) (fun h1 => ?_)
  · skip
    refine qG.blk 1 (pc' := 20) (ls' := [(2, 64), (0, d1), (0, s), (0, v), (0, b), (9, 0)]) (st' := [(0, 0)]) (w' := w) (n' := 142) rfl ?_
    refine qG.ret rfl (by first | rfl | exact decide_eq_true (by omega)) ?_
    subst hQ9
    exact ⟨(congrArg (Prod.mk (0 : Nat)) (by first | exact (pdV_r (by omega)).symm | exact (pdV_0 (by omega) hz ((mk0 hv1 hv2).mp hm)).symm | exact (pdV_0n hz (fun z => hm ((mk0 hv1 hv2).mpr z))).symm | exact (pdV_1 (by omega) hz (by omega) ((mk1 hv1 hv2).mp hm)).symm | exact (pdV_1n hz (fun z => hm ((mk1 hv1 hv2).mpr z))).symm)), rfl⟩
  · skip
    refine qG.blk 2 (pc' := 7) (ls' := [(2, 64), (0, d1), (0, s), (0, v), (0, b), (9, 0)]) (st' := [(0, 10), (0, d1)]) (w' := w) (n' := 142) rfl ?_
    refine qG.br (P := d1 < 10) (pc1 := 10) (pc2 := 19) (st1 := []) rfl (fun h2 => ?_) (fun h2 => ?_)
    · skip
      refine qG.blk 1 (pc' := 11) (ls' := [(2, 64), (0, d1), (0, s), (0, v), (0, b), (9, 0)]) (st' := [(0, s)]) (w' := w) (n' := 142) rfl ?_
      refine qG.br (P := s < 0) (pc1 := 19) (pc2 := 14) (st1 := []) rfl (fun h3 => ?_) (fun h3 => ?_)
      · skip
        refine qG.blk 1 (pc' := 20) (ls' := [(2, 64), (0, d1), (0, s), (0, v), (0, b), (9, 0)]) (st' := [(0, 0)]) (w' := w) (n' := 142) rfl ?_
        refine qG.ret rfl (by first | rfl | exact decide_eq_true (by omega)) ?_
        subst hQ9
        exact ⟨(congrArg (Prod.mk (0 : Nat)) (by first | exact (pdV_r (by omega)).symm | exact (pdV_0 (by omega) hz ((mk0 hv1 hv2).mp hm)).symm | exact (pdV_0n hz (fun z => hm ((mk0 hv1 hv2).mpr z))).symm | exact (pdV_1 (by omega) hz (by omega) ((mk1 hv1 hv2).mp hm)).symm | exact (pdV_1n hz (fun z => hm ((mk1 hv1 hv2).mpr z))).symm)), rfl⟩
      · skip
        refine qG.blk 2 (pc' := 16) (ls' := [(2, 64), (0, d1), (0, s), (0, v), (0, b), (9, 0)]) (st' := [(0, 1), (0, s)]) (w' := w) (n' := 142) rfl ?_
        refine qG.br (P := 1 < s) (pc1 := 19) (pc2 := 21) (st1 := []) rfl (fun h4 => ?_) (fun h4 => ?_)
        · skip
          refine qG.blk 1 (pc' := 20) (ls' := [(2, 64), (0, d1), (0, s), (0, v), (0, b), (9, 0)]) (st' := [(0, 0)]) (w' := w) (n' := 142) rfl ?_
          refine qG.ret rfl (by first | rfl | exact decide_eq_true (by omega)) ?_
          subst hQ9
          exact ⟨(congrArg (Prod.mk (0 : Nat)) (by first | exact (pdV_r (by omega)).symm | exact (pdV_0 (by omega) hz ((mk0 hv1 hv2).mp hm)).symm | exact (pdV_0n hz (fun z => hm ((mk0 hv1 hv2).mpr z))).symm | exact (pdV_1 (by omega) hz (by omega) ((mk1 hv1 hv2).mp hm)).symm | exact (pdV_1n hz (fun z => hm ((mk1 hv1 hv2).mpr z))).symm)), rfl⟩
        · skip
          refine qG.blk 1 (pc' := 22) (ls' := [(2, 64), (0, d1), (0, s), (0, v), (0, b), (9, 0)]) (st' := [(0, s)]) (w' := w) (n' := 142) rfl ?_
          obtain ⟨d9, rfl⟩ : ∃ n : Nat, d1 = (n : Int) := ⟨d1.toNat, by omega⟩
          refine qG.br (P := s = 0) (pc1 := 25) (pc2 := 31) (st1 := []) rfl (fun hz => ?_) (fun hz => ?_)
          · skip
            refine qG.blk 8 (pc' := 41) (ls' := [(2, 64), (0, ((d9 : Nat) : Int)), (0, s), (0, v), (0, b), (0, 255)]) (st' := [(0, qand v (qxor 255 (-1)))]) (w' := w) (n' := 142) rfl ?_
            refine qG.br (P := qand v (qxor 255 (-1)) = 0) (pc1 := 46) (pc2 := 44) (st1 := []) rfl (fun hm => ?_) (fun hm => ?_)
            · skip
              refine qG.blk 2 (pc' := 50) (ls' := [(2, 64), (0, ((d9 : Nat) : Int)), (0, s), (0, v), (0, b), (0, 255)]) (st' := [(2, w 64 3)]) (w' := w) (n' := 142) rfl ?_
              rw [show w 64 3 = 66 from zref hI rfl rfl]
              refine qG.blk 2 (pc' := 52) (ls' := [(2, 64), (0, ((d9 : Nat) : Int)), (0, s), (0, v), (0, b), (0, 255)]) (st' := [(0, s), (0, ((d9 : Nat) : Int)), (2, 66)]) (w' := w) (n' := 142) rfl ?_
              refine qG.ar (P := 0 ≤ ((d9 : Nat) : Int) ∧ ((d9 : Nat) : Int) < ((10 : Nat) : Int)) (P2 := 0 < (66 : Int) ∧ (66 : Int) ≤ ((142 : Nat) : Int)) (pc' := 53) (ls' := [(2, 64), (0, ((d9 : Nat) : Int)), (0, s), (0, v), (0, b), (0, 255)]) (st' := []) (w' := (qup w 66 d9 s)) (n' := 142) rfl (by omega) (by decide) ?_
              refine qG.blk 2 (pc' := 57) (ls' := [(2, 64), (0, ((d9 : Nat) : Int)), (0, s), (0, v), (0, b), (0, 255)]) (st' := [(2, w 64 4)]) (w' := (qup w 66 d9 s)) (n' := 142) rfl ?_
              rw [show w 64 4 = 67 from zref hI rfl rfl]
              refine qG.blk 2 (pc' := 59) (ls' := [(2, 64), (0, ((d9 : Nat) : Int)), (0, s), (0, v), (0, b), (0, 255)]) (st' := [(0, v), (0, ((d9 : Nat) : Int)), (2, 67)]) (w' := (qup w 66 d9 s)) (n' := 142) rfl ?_
              refine qG.ar (P := 0 ≤ ((d9 : Nat) : Int) ∧ ((d9 : Nat) : Int) < ((10 : Nat) : Int)) (P2 := 0 < (67 : Int) ∧ (67 : Int) ≤ ((142 : Nat) : Int)) (pc' := 60) (ls' := [(2, 64), (0, ((d9 : Nat) : Int)), (0, s), (0, v), (0, b), (0, 255)]) (st' := []) (w' := (qup (qup w 66 d9 s) 67 d9 v)) (n' := 142) rfl (by omega) (by decide) ?_
              refine qG.blk 2 (pc' := 64) (ls' := [(2, 64), (0, ((d9 : Nat) : Int)), (0, s), (0, v), (0, b), (0, 255)]) (st' := [(2, w 64 5)]) (w' := (qup (qup w 66 d9 s) 67 d9 v)) (n' := 142) rfl ?_
              rw [show w 64 5 = 68 from zref hI rfl rfl]
              refine qG.blk 2 (pc' := 67) (ls' := [(2, 64), (0, ((d9 : Nat) : Int)), (0, s), (0, v), (0, b), (0, 255)]) (st' := [(0, b), (0, ((d9 : Nat) : Int)), (2, 68)]) (w' := (qup (qup w 66 d9 s) 67 d9 v)) (n' := 142) rfl ?_
              refine qG.ar (P := (0 ≤ ((d9 : Nat) : Int) ∧ ((d9 : Nat) : Int) < ((10 : Nat) : Int)) ∧ 0 ≤ b ∧ b ≤ 1) (P2 := 0 < (68 : Int) ∧ (68 : Int) ≤ ((142 : Nat) : Int)) (pc' := 68) (ls' := [(2, 64), (0, ((d9 : Nat) : Int)), (0, s), (0, v), (0, b), (0, 255)]) (st' := []) (w' := (qup (qup (qup w 66 d9 s) 67 d9 v) 68 d9 b)) (n' := 142) rfl (by exact ⟨⟨by omega, by omega⟩, hb⟩) (by decide) ?_
              refine qG.blk 1 (pc' := 69) (ls' := [(2, 64), (0, ((d9 : Nat) : Int)), (0, s), (0, v), (0, b), (0, 255)]) (st' := [(0, 1)]) (w' := (qup (qup (qup w 66 d9 s) 67 d9 v) 68 d9 b)) (n' := 142) rfl ?_
              refine qG.ret rfl (by first | rfl | exact decide_eq_true (by omega)) ?_
              subst hQ9
              exact ⟨(congrArg (Prod.mk (0 : Nat)) (by first | exact (pdV_r (by omega)).symm | exact (pdV_0 (by omega) hz ((mk0 hv1 hv2).mp hm)).symm | exact (pdV_0n hz (fun z => hm ((mk0 hv1 hv2).mpr z))).symm | exact (pdV_1 (by omega) hz (by omega) ((mk1 hv1 hv2).mp hm)).symm | exact (pdV_1n hz (fun z => hm ((mk1 hv1 hv2).mpr z))).symm)), rfl⟩
            · skip
              refine qG.blk 1 (pc' := 45) (ls' := [(2, 64), (0, ((d9 : Nat) : Int)), (0, s), (0, v), (0, b), (0, 255)]) (st' := [(0, 0)]) (w' := w) (n' := 142) rfl ?_
              refine qG.ret rfl (by first | rfl | exact decide_eq_true (by omega)) ?_
              subst hQ9
              exact ⟨(congrArg (Prod.mk (0 : Nat)) (by first | exact (pdV_r (by omega)).symm | exact (pdV_0 (by omega) hz ((mk0 hv1 hv2).mp hm)).symm | exact (pdV_0n hz (fun z => hm ((mk0 hv1 hv2).mpr z))).symm | exact (pdV_1 (by omega) hz (by omega) ((mk1 hv1 hv2).mp hm)).symm | exact (pdV_1n hz (fun z => hm ((mk1 hv1 hv2).mpr z))).symm)), rfl⟩
          · skip
            refine qG.blk 7 (pc' := 41) (ls' := [(2, 64), (0, ((d9 : Nat) : Int)), (0, s), (0, v), (0, b), (0, 65280)]) (st' := [(0, qand v (qxor 65280 (-1)))]) (w' := w) (n' := 142) rfl ?_
            refine qG.br (P := qand v (qxor 65280 (-1)) = 0) (pc1 := 46) (pc2 := 44) (st1 := []) rfl (fun hm => ?_) (fun hm => ?_)
            · skip
              refine qG.blk 2 (pc' := 50) (ls' := [(2, 64), (0, ((d9 : Nat) : Int)), (0, s), (0, v), (0, b), (0, 65280)]) (st' := [(2, w 64 3)]) (w' := w) (n' := 142) rfl ?_
              rw [show w 64 3 = 66 from zref hI rfl rfl]
              refine qG.blk 2 (pc' := 52) (ls' := [(2, 64), (0, ((d9 : Nat) : Int)), (0, s), (0, v), (0, b), (0, 65280)]) (st' := [(0, s), (0, ((d9 : Nat) : Int)), (2, 66)]) (w' := w) (n' := 142) rfl ?_
              refine qG.ar (P := 0 ≤ ((d9 : Nat) : Int) ∧ ((d9 : Nat) : Int) < ((10 : Nat) : Int)) (P2 := 0 < (66 : Int) ∧ (66 : Int) ≤ ((142 : Nat) : Int)) (pc' := 53) (ls' := [(2, 64), (0, ((d9 : Nat) : Int)), (0, s), (0, v), (0, b), (0, 65280)]) (st' := []) (w' := (qup w 66 d9 s)) (n' := 142) rfl (by omega) (by decide) ?_
              refine qG.blk 2 (pc' := 57) (ls' := [(2, 64), (0, ((d9 : Nat) : Int)), (0, s), (0, v), (0, b), (0, 65280)]) (st' := [(2, w 64 4)]) (w' := (qup w 66 d9 s)) (n' := 142) rfl ?_
              rw [show w 64 4 = 67 from zref hI rfl rfl]
              refine qG.blk 2 (pc' := 59) (ls' := [(2, 64), (0, ((d9 : Nat) : Int)), (0, s), (0, v), (0, b), (0, 65280)]) (st' := [(0, v), (0, ((d9 : Nat) : Int)), (2, 67)]) (w' := (qup w 66 d9 s)) (n' := 142) rfl ?_
              refine qG.ar (P := 0 ≤ ((d9 : Nat) : Int) ∧ ((d9 : Nat) : Int) < ((10 : Nat) : Int)) (P2 := 0 < (67 : Int) ∧ (67 : Int) ≤ ((142 : Nat) : Int)) (pc' := 60) (ls' := [(2, 64), (0, ((d9 : Nat) : Int)), (0, s), (0, v), (0, b), (0, 65280)]) (st' := []) (w' := (qup (qup w 66 d9 s) 67 d9 v)) (n' := 142) rfl (by omega) (by decide) ?_
              refine qG.blk 2 (pc' := 64) (ls' := [(2, 64), (0, ((d9 : Nat) : Int)), (0, s), (0, v), (0, b), (0, 65280)]) (st' := [(2, w 64 5)]) (w' := (qup (qup w 66 d9 s) 67 d9 v)) (n' := 142) rfl ?_
              rw [show w 64 5 = 68 from zref hI rfl rfl]
              refine qG.blk 2 (pc' := 67) (ls' := [(2, 64), (0, ((d9 : Nat) : Int)), (0, s), (0, v), (0, b), (0, 65280)]) (st' := [(0, b), (0, ((d9 : Nat) : Int)), (2, 68)]) (w' := (qup (qup w 66 d9 s) 67 d9 v)) (n' := 142) rfl ?_
              refine qG.ar (P := (0 ≤ ((d9 : Nat) : Int) ∧ ((d9 : Nat) : Int) < ((10 : Nat) : Int)) ∧ 0 ≤ b ∧ b ≤ 1) (P2 := 0 < (68 : Int) ∧ (68 : Int) ≤ ((142 : Nat) : Int)) (pc' := 68) (ls' := [(2, 64), (0, ((d9 : Nat) : Int)), (0, s), (0, v), (0, b), (0, 65280)]) (st' := []) (w' := (qup (qup (qup w 66 d9 s) 67 d9 v) 68 d9 b)) (n' := 142) rfl (by exact ⟨⟨by omega, by omega⟩, hb⟩) (by decide) ?_
              refine qG.blk 1 (pc' := 69) (ls' := [(2, 64), (0, ((d9 : Nat) : Int)), (0, s), (0, v), (0, b), (0, 65280)]) (st' := [(0, 1)]) (w' := (qup (qup (qup w 66 d9 s) 67 d9 v) 68 d9 b)) (n' := 142) rfl ?_
              refine qG.ret rfl (by first | rfl | exact decide_eq_true (by omega)) ?_
              subst hQ9
              exact ⟨(congrArg (Prod.mk (0 : Nat)) (by first | exact (pdV_r (by omega)).symm | exact (pdV_0 (by omega) hz ((mk0 hv1 hv2).mp hm)).symm | exact (pdV_0n hz (fun z => hm ((mk0 hv1 hv2).mpr z))).symm | exact (pdV_1 (by omega) hz (by omega) ((mk1 hv1 hv2).mp hm)).symm | exact (pdV_1n hz (fun z => hm ((mk1 hv1 hv2).mpr z))).symm)), rfl⟩
            · skip
              refine qG.blk 1 (pc' := 45) (ls' := [(2, 64), (0, ((d9 : Nat) : Int)), (0, s), (0, v), (0, b), (0, 65280)]) (st' := [(0, 0)]) (w' := w) (n' := 142) rfl ?_
              refine qG.ret rfl (by first | rfl | exact decide_eq_true (by omega)) ?_
              subst hQ9
              exact ⟨(congrArg (Prod.mk (0 : Nat)) (by first | exact (pdV_r (by omega)).symm | exact (pdV_0 (by omega) hz ((mk0 hv1 hv2).mp hm)).symm | exact (pdV_0n hz (fun z => hm ((mk0 hv1 hv2).mpr z))).symm | exact (pdV_1 (by omega) hz (by omega) ((mk1 hv1 hv2).mp hm)).symm | exact (pdV_1n hz (fun z => hm ((mk1 hv1 hv2).mpr z))).symm)), rfl⟩
    · skip
      refine qG.blk 1 (pc' := 20) (ls' := [(2, 64), (0, d1), (0, s), (0, v), (0, b), (9, 0)]) (st' := [(0, 0)]) (w' := w) (n' := 142) rfl ?_
      refine qG.ret rfl (by first | rfl | exact decide_eq_true (by omega)) ?_
      subst hQ9
      exact ⟨(congrArg (Prod.mk (0 : Nat)) (by first | exact (pdV_r (by omega)).symm | exact (pdV_0 (by omega) hz ((mk0 hv1 hv2).mp hm)).symm | exact (pdV_0n hz (fun z => hm ((mk0 hv1 hv2).mpr z))).symm | exact (pdV_1 (by omega) hz (by omega) ((mk1 hv1 hv2).mp hm)).symm | exact (pdV_1n hz (fun z => hm ((mk1 hv1 hv2).mpr z))).symm)), rfl⟩
theorem K_putDoor69 {d : Nat} (hd : 0 ≤ d) (d1 s v b : Int) (hv1 : -2147483648 ≤ v) (hv2 : v ≤ 2147483647) (hb : 0 ≤ b ∧ b ≤ 1) (w : qW) (hI : yInv zgf zga zra zSp w) : qG none d 22 0 [(2, 69), (0, d1), (0, s), (0, v), (0, b), (9, 0)] [] w 142 (fun (r : qV) (_ : qW) (n1 : Nat) => r = (0, pdV d1 s v) ∧ n1 = 142) := by
  generalize hQ9 : (fun (r : qV) (_ : qW) (n1 : Nat) => r = (0, pdV d1 s v) ∧ n1 = 142) = Q9
  refine qG.blk 1 (pc' := 1) (ls' := [(2, 69), (0, d1), (0, s), (0, v), (0, b), (9, 0)]) (st' := [(0, d1)]) (w' := w) (n' := 142) rfl ?_
  refine qG.br (P := d1 < 0) (pc1 := 19) (pc2 := 4) (st1 := []) rfl (fun h1 => ?_) (fun h1 => ?_)
  · skip
    refine qG.blk 1 (pc' := 20) (ls' := [(2, 69), (0, d1), (0, s), (0, v), (0, b), (9, 0)]) (st' := [(0, 0)]) (w' := w) (n' := 142) rfl ?_
    refine qG.ret rfl (by first | rfl | exact decide_eq_true (by omega)) ?_
    subst hQ9
    exact ⟨(congrArg (Prod.mk (0 : Nat)) (by first | exact (pdV_r (by omega)).symm | exact (pdV_0 (by omega) hz ((mk0 hv1 hv2).mp hm)).symm | exact (pdV_0n hz (fun z => hm ((mk0 hv1 hv2).mpr z))).symm | exact (pdV_1 (by omega) hz (by omega) ((mk1 hv1 hv2).mp hm)).symm | exact (pdV_1n hz (fun z => hm ((mk1 hv1 hv2).mpr z))).symm)), rfl⟩
  · skip
    refine qG.blk 2 (pc' := 7) (ls' := [(2, 69), (0, d1), (0, s), (0, v), (0, b), (9, 0)]) (st' := [(0, 10), (0, d1)]) (w' := w) (n' := 142) rfl ?_
    refine qG.br (P := d1 < 10) (pc1 := 10) (pc2 := 19) (st1 := []) rfl (fun h2 => ?_) (fun h2 => ?_)
    · skip
      refine qG.blk 1 (pc' := 11) (ls' := [(2, 69), (0, d1), (0, s), (0, v), (0, b), (9, 0)]) (st' := [(0, s)]) (w' := w) (n' := 142) rfl ?_
      refine qG.br (P := s < 0) (pc1 := 19) (pc2 := 14) (st1 := []) rfl (fun h3 => ?_) (fun h3 => ?_)
      · skip
        refine qG.blk 1 (pc' := 20) (ls' := [(2, 69), (0, d1), (0, s), (0, v), (0, b), (9, 0)]) (st' := [(0, 0)]) (w' := w) (n' := 142) rfl ?_
        refine qG.ret rfl (by first | rfl | exact decide_eq_true (by omega)) ?_
        subst hQ9
        exact ⟨(congrArg (Prod.mk (0 : Nat)) (by first | exact (pdV_r (by omega)).symm | exact (pdV_0 (by omega) hz ((mk0 hv1 hv2).mp hm)).symm | exact (pdV_0n hz (fun z => hm ((mk0 hv1 hv2).mpr z))).symm | exact (pdV_1 (by omega) hz (by omega) ((mk1 hv1 hv2).mp hm)).symm | exact (pdV_1n hz (fun z => hm ((mk1 hv1 hv2).mpr z))).symm)), rfl⟩
      · skip
        refine qG.blk 2 (pc' := 16) (ls' := [(2, 69), (0, d1), (0, s), (0, v), (0, b), (9, 0)]) (st' := [(0, 1), (0, s)]) (w' := w) (n' := 142) rfl ?_
        refine qG.br (P := 1 < s) (pc1 := 19) (pc2 := 21) (st1 := []) rfl (fun h4 => ?_) (fun h4 => ?_)
        · skip
          refine qG.blk 1 (pc' := 20) (ls' := [(2, 69), (0, d1), (0, s), (0, v), (0, b), (9, 0)]) (st' := [(0, 0)]) (w' := w) (n' := 142) rfl ?_
          refine qG.ret rfl (by first | rfl | exact decide_eq_true (by omega)) ?_
          subst hQ9
          exact ⟨(congrArg (Prod.mk (0 : Nat)) (by first | exact (pdV_r (by omega)).symm | exact (pdV_0 (by omega) hz ((mk0 hv1 hv2).mp hm)).symm | exact (pdV_0n hz (fun z => hm ((mk0 hv1 hv2).mpr z))).symm | exact (pdV_1 (by omega) hz (by omega) ((mk1 hv1 hv2).mp hm)).symm | exact (pdV_1n hz (fun z => hm ((mk1 hv1 hv2).mpr z))).symm)), rfl⟩
        · skip
          refine qG.blk 1 (pc' := 22) (ls' := [(2, 69), (0, d1), (0, s), (0, v), (0, b), (9, 0)]) (st' := [(0, s)]) (w' := w) (n' := 142) rfl ?_
          obtain ⟨d9, rfl⟩ : ∃ n : Nat, d1 = (n : Int) := ⟨d1.toNat, by omega⟩
          refine qG.br (P := s = 0) (pc1 := 25) (pc2 := 31) (st1 := []) rfl (fun hz => ?_) (fun hz => ?_)
          · skip
            refine qG.blk 8 (pc' := 41) (ls' := [(2, 69), (0, ((d9 : Nat) : Int)), (0, s), (0, v), (0, b), (0, 255)]) (st' := [(0, qand v (qxor 255 (-1)))]) (w' := w) (n' := 142) rfl ?_
            refine qG.br (P := qand v (qxor 255 (-1)) = 0) (pc1 := 46) (pc2 := 44) (st1 := []) rfl (fun hm => ?_) (fun hm => ?_)
            · skip
              refine qG.blk 2 (pc' := 50) (ls' := [(2, 69), (0, ((d9 : Nat) : Int)), (0, s), (0, v), (0, b), (0, 255)]) (st' := [(2, w 69 3)]) (w' := w) (n' := 142) rfl ?_
              rw [show w 69 3 = 71 from zref hI rfl rfl]
              refine qG.blk 2 (pc' := 52) (ls' := [(2, 69), (0, ((d9 : Nat) : Int)), (0, s), (0, v), (0, b), (0, 255)]) (st' := [(0, s), (0, ((d9 : Nat) : Int)), (2, 71)]) (w' := w) (n' := 142) rfl ?_
              refine qG.ar (P := 0 ≤ ((d9 : Nat) : Int) ∧ ((d9 : Nat) : Int) < ((10 : Nat) : Int)) (P2 := 0 < (71 : Int) ∧ (71 : Int) ≤ ((142 : Nat) : Int)) (pc' := 53) (ls' := [(2, 69), (0, ((d9 : Nat) : Int)), (0, s), (0, v), (0, b), (0, 255)]) (st' := []) (w' := (qup w 71 d9 s)) (n' := 142) rfl (by omega) (by decide) ?_
              refine qG.blk 2 (pc' := 57) (ls' := [(2, 69), (0, ((d9 : Nat) : Int)), (0, s), (0, v), (0, b), (0, 255)]) (st' := [(2, w 69 4)]) (w' := (qup w 71 d9 s)) (n' := 142) rfl ?_
              rw [show w 69 4 = 72 from zref hI rfl rfl]
              refine qG.blk 2 (pc' := 59) (ls' := [(2, 69), (0, ((d9 : Nat) : Int)), (0, s), (0, v), (0, b), (0, 255)]) (st' := [(0, v), (0, ((d9 : Nat) : Int)), (2, 72)]) (w' := (qup w 71 d9 s)) (n' := 142) rfl ?_
              refine qG.ar (P := 0 ≤ ((d9 : Nat) : Int) ∧ ((d9 : Nat) : Int) < ((10 : Nat) : Int)) (P2 := 0 < (72 : Int) ∧ (72 : Int) ≤ ((142 : Nat) : Int)) (pc' := 60) (ls' := [(2, 69), (0, ((d9 : Nat) : Int)), (0, s), (0, v), (0, b), (0, 255)]) (st' := []) (w' := (qup (qup w 71 d9 s) 72 d9 v)) (n' := 142) rfl (by omega) (by decide) ?_
              refine qG.blk 2 (pc' := 64) (ls' := [(2, 69), (0, ((d9 : Nat) : Int)), (0, s), (0, v), (0, b), (0, 255)]) (st' := [(2, w 69 5)]) (w' := (qup (qup w 71 d9 s) 72 d9 v)) (n' := 142) rfl ?_
              rw [show w 69 5 = 73 from zref hI rfl rfl]
              refine qG.blk 2 (pc' := 67) (ls' := [(2, 69), (0, ((d9 : Nat) : Int)), (0, s), (0, v), (0, b), (0, 255)]) (st' := [(0, b), (0, ((d9 : Nat) : Int)), (2, 73)]) (w' := (qup (qup w 71 d9 s) 72 d9 v)) (n' := 142) rfl ?_
              refine qG.ar (P := (0 ≤ ((d9 : Nat) : Int) ∧ ((d9 : Nat) : Int) < ((10 : Nat) : Int)) ∧ 0 ≤ b ∧ b ≤ 1) (P2 := 0 < (73 : Int) ∧ (73 : Int) ≤ ((142 : Nat) : Int)) (pc' := 68) (ls' := [(2, 69), (0, ((d9 : Nat) : Int)), (0, s), (0, v), (0, b), (0, 255)]) (st' := []) (w' := (qup (qup (qup w 71 d9 s) 72 d9 v) 73 d9 b)) (n' := 142) rfl (by exact ⟨⟨by omega, by omega⟩, hb⟩) (by decide) ?_
              refine qG.blk 1 (pc' := 69) (ls' := [(2, 69), (0, ((d9 : Nat) : Int)), (0, s), (0, v), (0, b), (0, 255)]) (st' := [(0, 1)]) (w' := (qup (qup (qup w 71 d9 s) 72 d9 v) 73 d9 b)) (n' := 142) rfl ?_
              refine qG.ret rfl (by first | rfl | exact decide_eq_true (by omega)) ?_
              subst hQ9
              exact ⟨(congrArg (Prod.mk (0 : Nat)) (by first | exact (pdV_r (by omega)).symm | exact (pdV_0 (by omega) hz ((mk0 hv1 hv2).mp hm)).symm | exact (pdV_0n hz (fun z => hm ((mk0 hv1 hv2).mpr z))).symm | exact (pdV_1 (by omega) hz (by omega) ((mk1 hv1 hv2).mp hm)).symm | exact (pdV_1n hz (fun z => hm ((mk1 hv1 hv2).mpr z))).symm)), rfl⟩
            · skip
              refine qG.blk 1 (pc' := 45) (ls' := [(2, 69), (0, ((d9 : Nat) : Int)), (0, s), (0, v), (0, b), (0, 255)]) (st' := [(0, 0)]) (w' := w) (n' := 142) rfl ?_
              refine qG.ret rfl (by first | rfl | exact decide_eq_true (by omega)) ?_
              subst hQ9
              exact ⟨(congrArg (Prod.mk (0 : Nat)) (by first | exact (pdV_r (by omega)).symm | exact (pdV_0 (by omega) hz ((mk0 hv1 hv2).mp hm)).symm | exact (pdV_0n hz (fun z => hm ((mk0 hv1 hv2).mpr z))).symm | exact (pdV_1 (by omega) hz (by omega) ((mk1 hv1 hv2).mp hm)).symm | exact (pdV_1n hz (fun z => hm ((mk1 hv1 hv2).mpr z))).symm)), rfl⟩
          · skip
            refine qG.blk 7 (pc' := 41) (ls' := [(2, 69), (0, ((d9 : Nat) : Int)), (0, s), (0, v), (0, b), (0, 65280)]) (st' := [(0, qand v (qxor 65280 (-1)))]) (w' := w) (n' := 142) rfl ?_
            refine qG.br (P := qand v (qxor 65280 (-1)) = 0) (pc1 := 46) (pc2 := 44) (st1 := []) rfl (fun hm => ?_) (fun hm => ?_)
            · skip
              refine qG.blk 2 (pc' := 50) (ls' := [(2, 69), (0, ((d9 : Nat) : Int)), (0, s), (0, v), (0, b), (0, 65280)]) (st' := [(2, w 69 3)]) (w' := w) (n' := 142) rfl ?_
              rw [show w 69 3 = 71 from zref hI rfl rfl]
              refine qG.blk 2 (pc' := 52) (ls' := [(2, 69), (0, ((d9 : Nat) : Int)), (0, s), (0, v), (0, b), (0, 65280)]) (st' := [(0, s), (0, ((d9 : Nat) : Int)), (2, 71)]) (w' := w) (n' := 142) rfl ?_
              refine qG.ar (P := 0 ≤ ((d9 : Nat) : Int) ∧ ((d9 : Nat) : Int) < ((10 : Nat) : Int)) (P2 := 0 < (71 : Int) ∧ (71 : Int) ≤ ((142 : Nat) : Int)) (pc' := 53) (ls' := [(2, 69), (0, ((d9 : Nat) : Int)), (0, s), (0, v), (0, b), (0, 65280)]) (st' := []) (w' := (qup w 71 d9 s)) (n' := 142) rfl (by omega) (by decide) ?_
              refine qG.blk 2 (pc' := 57) (ls' := [(2, 69), (0, ((d9 : Nat) : Int)), (0, s), (0, v), (0, b), (0, 65280)]) (st' := [(2, w 69 4)]) (w' := (qup w 71 d9 s)) (n' := 142) rfl ?_
              rw [show w 69 4 = 72 from zref hI rfl rfl]
              refine qG.blk 2 (pc' := 59) (ls' := [(2, 69), (0, ((d9 : Nat) : Int)), (0, s), (0, v), (0, b), (0, 65280)]) (st' := [(0, v), (0, ((d9 : Nat) : Int)), (2, 72)]) (w' := (qup w 71 d9 s)) (n' := 142) rfl ?_
              refine qG.ar (P := 0 ≤ ((d9 : Nat) : Int) ∧ ((d9 : Nat) : Int) < ((10 : Nat) : Int)) (P2 := 0 < (72 : Int) ∧ (72 : Int) ≤ ((142 : Nat) : Int)) (pc' := 60) (ls' := [(2, 69), (0, ((d9 : Nat) : Int)), (0, s), (0, v), (0, b), (0, 65280)]) (st' := []) (w' := (qup (qup w 71 d9 s) 72 d9 v)) (n' := 142) rfl (by omega) (by decide) ?_
              refine qG.blk 2 (pc' := 64) (ls' := [(2, 69), (0, ((d9 : Nat) : Int)), (0, s), (0, v), (0, b), (0, 65280)]) (st' := [(2, w 69 5)]) (w' := (qup (qup w 71 d9 s) 72 d9 v)) (n' := 142) rfl ?_
              rw [show w 69 5 = 73 from zref hI rfl rfl]
              refine qG.blk 2 (pc' := 67) (ls' := [(2, 69), (0, ((d9 : Nat) : Int)), (0, s), (0, v), (0, b), (0, 65280)]) (st' := [(0, b), (0, ((d9 : Nat) : Int)), (2, 73)]) (w' := (qup (qup w 71 d9 s) 72 d9 v)) (n' := 142) rfl ?_
              refine qG.ar (P := (0 ≤ ((d9 : Nat) : Int) ∧ ((d9 : Nat) : Int) < ((10 : Nat) : Int)) ∧ 0 ≤ b ∧ b ≤ 1) (P2 := 0 < (73 : Int) ∧ (73 : Int) ≤ ((142 : Nat) : Int)) (pc' := 68) (ls' := [(2, 69), (0, ((d9 : Nat) : Int)), (0, s), (0, v), (0, b), (0, 65280)]) (st' := []) (w' := (qup (qup (qup w 71 d9 s) 72 d9 v) 73 d9 b)) (n' := 142) rfl (by exact ⟨⟨by omega, by omega⟩, hb⟩) (by decide) ?_
              refine qG.blk 1 (pc' := 69) (ls' := [(2, 69), (0, ((d9 : Nat) : Int)), (0, s), (0, v), (0, b), (0, 65280)]) (st' := [(0, 1)]) (w' := (qup (qup (qup w 71 d9 s) 72 d9 v) 73 d9 b)) (n' := 142) rfl ?_
              refine qG.ret rfl (by first | rfl | exact decide_eq_true (by omega)) ?_
              subst hQ9
              exact ⟨(congrArg (Prod.mk (0 : Nat)) (by first | exact (pdV_r (by omega)).symm | exact (pdV_0 (by omega) hz ((mk0 hv1 hv2).mp hm)).symm | exact (pdV_0n hz (fun z => hm ((mk0 hv1 hv2).mpr z))).symm | exact (pdV_1 (by omega) hz (by omega) ((mk1 hv1 hv2).mp hm)).symm | exact (pdV_1n hz (fun z => hm ((mk1 hv1 hv2).mpr z))).symm)), rfl⟩
            · skip
              refine qG.blk 1 (pc' := 45) (ls' := [(2, 69), (0, ((d9 : Nat) : Int)), (0, s), (0, v), (0, b), (0, 65280)]) (st' := [(0, 0)]) (w' := w) (n' := 142) rfl ?_
              refine qG.ret rfl (by first | rfl | exact decide_eq_true (by omega)) ?_
              subst hQ9
              exact ⟨(congrArg (Prod.mk (0 : Nat)) (by first | exact (pdV_r (by omega)).symm | exact (pdV_0 (by omega) hz ((mk0 hv1 hv2).mp hm)).symm | exact (pdV_0n hz (fun z => hm ((mk0 hv1 hv2).mpr z))).symm | exact (pdV_1 (by omega) hz (by omega) ((mk1 hv1 hv2).mp hm)).symm | exact (pdV_1n hz (fun z => hm ((mk1 hv1 hv2).mpr z))).symm)), rfl⟩
    · skip
      refine qG.blk 1 (pc' := 20) (ls' := [(2, 69), (0, d1), (0, s), (0, v), (0, b), (9, 0)]) (st' := [(0, 0)]) (w' := w) (n' := 142) rfl ?_
      refine qG.ret rfl (by first | rfl | exact decide_eq_true (by omega)) ?_
      subst hQ9
      exact ⟨(congrArg (Prod.mk (0 : Nat)) (by first | exact (pdV_r (by omega)).symm | exact (pdV_0 (by omega) hz ((mk0 hv1 hv2).mp hm)).symm | exact (pdV_0n hz (fun z => hm ((mk0 hv1 hv2).mpr z))).symm | exact (pdV_1 (by omega) hz (by omega) ((mk1 hv1 hv2).mp hm)).symm | exact (pdV_1n hz (fun z => hm ((mk1 hv1 hv2).mpr z))).symm)), rfl⟩
theorem K_putDoor74 {d : Nat} (hd : 0 ≤ d) (d1 s v b : Int) (hv1 : -2147483648 ≤ v) (hv2 : v ≤ 2147483647) (hb : 0 ≤ b ∧ b ≤ 1) (w : qW) (hI : yInv zgf zga zra zSp w) : qG none d 22 0 [(2, 74), (0, d1), (0, s), (0, v), (0, b), (9, 0)] [] w 142 (fun (r : qV) (_ : qW) (n1 : Nat) => r = (0, pdV d1 s v) ∧ n1 = 142) := by
  generalize hQ9 : (fun (r : qV) (_ : qW) (n1 : Nat) => r = (0, pdV d1 s v) ∧ n1 = 142) = Q9
  refine qG.blk 1 (pc' := 1) (ls' := [(2, 74), (0, d1), (0, s), (0, v), (0, b), (9, 0)]) (st' := [(0, d1)]) (w' := w) (n' := 142) rfl ?_
  refine qG.br (P := d1 < 0) (pc1 := 19) (pc2 := 4) (st1 := []) rfl (fun h1 => ?_) (fun h1 => ?_)
  · skip
    refine qG.blk 1 (pc' := 20) (ls' := [(2, 74), (0, d1), (0, s), (0, v), (0, b), (9, 0)]) (st' := [(0, 0)]) (w' := w) (n' := 142) rfl ?_
    refine qG.ret rfl (by first | rfl | exact decide_eq_true (by omega)) ?_
    subst hQ9
    exact ⟨(congrArg (Prod.mk (0 : Nat)) (by first | exact (pdV_r (by omega)).symm | exact (pdV_0 (by omega) hz ((mk0 hv1 hv2).mp hm)).symm | exact (pdV_0n hz (fun z => hm ((mk0 hv1 hv2).mpr z))).symm | exact (pdV_1 (by omega) hz (by omega) ((mk1 hv1 hv2).mp hm)).symm | exact (pdV_1n hz (fun z => hm ((mk1 hv1 hv2).mpr z))).symm)), rfl⟩
  · skip
    refine qG.blk 2 (pc' := 7) (ls' := [(2, 74), (0, d1), (0, s), (0, v), (0, b), (9, 0)]) (st' := [(0, 10), (0, d1)]) (w' := w) (n' := 142) rfl ?_
    refine qG.br (P := d1 < 10) (pc1 := 10) (pc2 := 19) (st1 := []) rfl (fun h2 => ?_) (fun h2 => ?_)
    · skip
      refine qG.blk 1 (pc' := 11) (ls' := [(2, 74), (0, d1), (0, s), (0, v), (0, b), (9, 0)]) (st' := [(0, s)]) (w' := w) (n' := 142) rfl ?_
      refine qG.br (P := s < 0) (pc1 := 19) (pc2 := 14) (st1 := []) rfl (fun h3 => ?_) (fun h3 => ?_)
      · skip
        refine qG.blk 1 (pc' := 20) (ls' := [(2, 74), (0, d1), (0, s), (0, v), (0, b), (9, 0)]) (st' := [(0, 0)]) (w' := w) (n' := 142) rfl ?_
        refine qG.ret rfl (by first | rfl | exact decide_eq_true (by omega)) ?_
        subst hQ9
        exact ⟨(congrArg (Prod.mk (0 : Nat)) (by first | exact (pdV_r (by omega)).symm | exact (pdV_0 (by omega) hz ((mk0 hv1 hv2).mp hm)).symm | exact (pdV_0n hz (fun z => hm ((mk0 hv1 hv2).mpr z))).symm | exact (pdV_1 (by omega) hz (by omega) ((mk1 hv1 hv2).mp hm)).symm | exact (pdV_1n hz (fun z => hm ((mk1 hv1 hv2).mpr z))).symm)), rfl⟩
      · skip
        refine qG.blk 2 (pc' := 16) (ls' := [(2, 74), (0, d1), (0, s), (0, v), (0, b), (9, 0)]) (st' := [(0, 1), (0, s)]) (w' := w) (n' := 142) rfl ?_
        refine qG.br (P := 1 < s) (pc1 := 19) (pc2 := 21) (st1 := []) rfl (fun h4 => ?_) (fun h4 => ?_)
        · skip
          refine qG.blk 1 (pc' := 20) (ls' := [(2, 74), (0, d1), (0, s), (0, v), (0, b), (9, 0)]) (st' := [(0, 0)]) (w' := w) (n' := 142) rfl ?_
          refine qG.ret rfl (by first | rfl | exact decide_eq_true (by omega)) ?_
          subst hQ9
          exact ⟨(congrArg (Prod.mk (0 : Nat)) (by first | exact (pdV_r (by omega)).symm | exact (pdV_0 (by omega) hz ((mk0 hv1 hv2).mp hm)).symm | exact (pdV_0n hz (fun z => hm ((mk0 hv1 hv2).mpr z))).symm | exact (pdV_1 (by omega) hz (by omega) ((mk1 hv1 hv2).mp hm)).symm | exact (pdV_1n hz (fun z => hm ((mk1 hv1 hv2).mpr z))).symm)), rfl⟩
        · skip
          refine qG.blk 1 (pc' := 22) (ls' := [(2, 74), (0, d1), (0, s), (0, v), (0, b), (9, 0)]) (st' := [(0, s)]) (w' := w) (n' := 142) rfl ?_
          obtain ⟨d9, rfl⟩ : ∃ n : Nat, d1 = (n : Int) := ⟨d1.toNat, by omega⟩
          refine qG.br (P := s = 0) (pc1 := 25) (pc2 := 31) (st1 := []) rfl (fun hz => ?_) (fun hz => ?_)
          · skip
            refine qG.blk 8 (pc' := 41) (ls' := [(2, 74), (0, ((d9 : Nat) : Int)), (0, s), (0, v), (0, b), (0, 255)]) (st' := [(0, qand v (qxor 255 (-1)))]) (w' := w) (n' := 142) rfl ?_
            refine qG.br (P := qand v (qxor 255 (-1)) = 0) (pc1 := 46) (pc2 := 44) (st1 := []) rfl (fun hm => ?_) (fun hm => ?_)
            · skip
              refine qG.blk 2 (pc' := 50) (ls' := [(2, 74), (0, ((d9 : Nat) : Int)), (0, s), (0, v), (0, b), (0, 255)]) (st' := [(2, w 74 3)]) (w' := w) (n' := 142) rfl ?_
              rw [show w 74 3 = 76 from zref hI rfl rfl]
              refine qG.blk 2 (pc' := 52) (ls' := [(2, 74), (0, ((d9 : Nat) : Int)), (0, s), (0, v), (0, b), (0, 255)]) (st' := [(0, s), (0, ((d9 : Nat) : Int)), (2, 76)]) (w' := w) (n' := 142) rfl ?_
              refine qG.ar (P := 0 ≤ ((d9 : Nat) : Int) ∧ ((d9 : Nat) : Int) < ((10 : Nat) : Int)) (P2 := 0 < (76 : Int) ∧ (76 : Int) ≤ ((142 : Nat) : Int)) (pc' := 53) (ls' := [(2, 74), (0, ((d9 : Nat) : Int)), (0, s), (0, v), (0, b), (0, 255)]) (st' := []) (w' := (qup w 76 d9 s)) (n' := 142) rfl (by omega) (by decide) ?_
              refine qG.blk 2 (pc' := 57) (ls' := [(2, 74), (0, ((d9 : Nat) : Int)), (0, s), (0, v), (0, b), (0, 255)]) (st' := [(2, w 74 4)]) (w' := (qup w 76 d9 s)) (n' := 142) rfl ?_
              rw [show w 74 4 = 77 from zref hI rfl rfl]
              refine qG.blk 2 (pc' := 59) (ls' := [(2, 74), (0, ((d9 : Nat) : Int)), (0, s), (0, v), (0, b), (0, 255)]) (st' := [(0, v), (0, ((d9 : Nat) : Int)), (2, 77)]) (w' := (qup w 76 d9 s)) (n' := 142) rfl ?_
              refine qG.ar (P := 0 ≤ ((d9 : Nat) : Int) ∧ ((d9 : Nat) : Int) < ((10 : Nat) : Int)) (P2 := 0 < (77 : Int) ∧ (77 : Int) ≤ ((142 : Nat) : Int)) (pc' := 60) (ls' := [(2, 74), (0, ((d9 : Nat) : Int)), (0, s), (0, v), (0, b), (0, 255)]) (st' := []) (w' := (qup (qup w 76 d9 s) 77 d9 v)) (n' := 142) rfl (by omega) (by decide) ?_
              refine qG.blk 2 (pc' := 64) (ls' := [(2, 74), (0, ((d9 : Nat) : Int)), (0, s), (0, v), (0, b), (0, 255)]) (st' := [(2, w 74 5)]) (w' := (qup (qup w 76 d9 s) 77 d9 v)) (n' := 142) rfl ?_
              rw [show w 74 5 = 78 from zref hI rfl rfl]
              refine qG.blk 2 (pc' := 67) (ls' := [(2, 74), (0, ((d9 : Nat) : Int)), (0, s), (0, v), (0, b), (0, 255)]) (st' := [(0, b), (0, ((d9 : Nat) : Int)), (2, 78)]) (w' := (qup (qup w 76 d9 s) 77 d9 v)) (n' := 142) rfl ?_
              refine qG.ar (P := (0 ≤ ((d9 : Nat) : Int) ∧ ((d9 : Nat) : Int) < ((10 : Nat) : Int)) ∧ 0 ≤ b ∧ b ≤ 1) (P2 := 0 < (78 : Int) ∧ (78 : Int) ≤ ((142 : Nat) : Int)) (pc' := 68) (ls' := [(2, 74), (0, ((d9 : Nat) : Int)), (0, s), (0, v), (0, b), (0, 255)]) (st' := []) (w' := (qup (qup (qup w 76 d9 s) 77 d9 v) 78 d9 b)) (n' := 142) rfl (by exact ⟨⟨by omega, by omega⟩, hb⟩) (by decide) ?_
              refine qG.blk 1 (pc' := 69) (ls' := [(2, 74), (0, ((d9 : Nat) : Int)), (0, s), (0, v), (0, b), (0, 255)]) (st' := [(0, 1)]) (w' := (qup (qup (qup w 76 d9 s) 77 d9 v) 78 d9 b)) (n' := 142) rfl ?_
              refine qG.ret rfl (by first | rfl | exact decide_eq_true (by omega)) ?_
              subst hQ9
              exact ⟨(congrArg (Prod.mk (0 : Nat)) (by first | exact (pdV_r (by omega)).symm | exact (pdV_0 (by omega) hz ((mk0 hv1 hv2).mp hm)).symm | exact (pdV_0n hz (fun z => hm ((mk0 hv1 hv2).mpr z))).symm | exact (pdV_1 (by omega) hz (by omega) ((mk1 hv1 hv2).mp hm)).symm | exact (pdV_1n hz (fun z => hm ((mk1 hv1 hv2).mpr z))).symm)), rfl⟩
            · skip
              refine qG.blk 1 (pc' := 45) (ls' := [(2, 74), (0, ((d9 : Nat) : Int)), (0, s), (0, v), (0, b), (0, 255)]) (st' := [(0, 0)]) (w' := w) (n' := 142) rfl ?_
              refine qG.ret rfl (by first | rfl | exact decide_eq_true (by omega)) ?_
              subst hQ9
              exact ⟨(congrArg (Prod.mk (0 : Nat)) (by first | exact (pdV_r (by omega)).symm | exact (pdV_0 (by omega) hz ((mk0 hv1 hv2).mp hm)).symm | exact (pdV_0n hz (fun z => hm ((mk0 hv1 hv2).mpr z))).symm | exact (pdV_1 (by omega) hz (by omega) ((mk1 hv1 hv2).mp hm)).symm | exact (pdV_1n hz (fun z => hm ((mk1 hv1 hv2).mpr z))).symm)), rfl⟩
          · skip
            refine qG.blk 7 (pc' := 41) (ls' := [(2, 74), (0, ((d9 : Nat) : Int)), (0, s), (0, v), (0, b), (0, 65280)]) (st' := [(0, qand v (qxor 65280 (-1)))]) (w' := w) (n' := 142) rfl ?_
            refine qG.br (P := qand v (qxor 65280 (-1)) = 0) (pc1 := 46) (pc2 := 44) (st1 := []) rfl (fun hm => ?_) (fun hm => ?_)
            · skip
              refine qG.blk 2 (pc' := 50) (ls' := [(2, 74), (0, ((d9 : Nat) : Int)), (0, s), (0, v), (0, b), (0, 65280)]) (st' := [(2, w 74 3)]) (w' := w) (n' := 142) rfl ?_
              rw [show w 74 3 = 76 from zref hI rfl rfl]
              refine qG.blk 2 (pc' := 52) (ls' := [(2, 74), (0, ((d9 : Nat) : Int)), (0, s), (0, v), (0, b), (0, 65280)]) (st' := [(0, s), (0, ((d9 : Nat) : Int)), (2, 76)]) (w' := w) (n' := 142) rfl ?_
              refine qG.ar (P := 0 ≤ ((d9 : Nat) : Int) ∧ ((d9 : Nat) : Int) < ((10 : Nat) : Int)) (P2 := 0 < (76 : Int) ∧ (76 : Int) ≤ ((142 : Nat) : Int)) (pc' := 53) (ls' := [(2, 74), (0, ((d9 : Nat) : Int)), (0, s), (0, v), (0, b), (0, 65280)]) (st' := []) (w' := (qup w 76 d9 s)) (n' := 142) rfl (by omega) (by decide) ?_
              refine qG.blk 2 (pc' := 57) (ls' := [(2, 74), (0, ((d9 : Nat) : Int)), (0, s), (0, v), (0, b), (0, 65280)]) (st' := [(2, w 74 4)]) (w' := (qup w 76 d9 s)) (n' := 142) rfl ?_
              rw [show w 74 4 = 77 from zref hI rfl rfl]
              refine qG.blk 2 (pc' := 59) (ls' := [(2, 74), (0, ((d9 : Nat) : Int)), (0, s), (0, v), (0, b), (0, 65280)]) (st' := [(0, v), (0, ((d9 : Nat) : Int)), (2, 77)]) (w' := (qup w 76 d9 s)) (n' := 142) rfl ?_
              refine qG.ar (P := 0 ≤ ((d9 : Nat) : Int) ∧ ((d9 : Nat) : Int) < ((10 : Nat) : Int)) (P2 := 0 < (77 : Int) ∧ (77 : Int) ≤ ((142 : Nat) : Int)) (pc' := 60) (ls' := [(2, 74), (0, ((d9 : Nat) : Int)), (0, s), (0, v), (0, b), (0, 65280)]) (st' := []) (w' := (qup (qup w 76 d9 s) 77 d9 v)) (n' := 142) rfl (by omega) (by decide) ?_
              refine qG.blk 2 (pc' := 64) (ls' := [(2, 74), (0, ((d9 : Nat) : Int)), (0, s), (0, v), (0, b), (0, 65280)]) (st' := [(2, w 74 5)]) (w' := (qup (qup w 76 d9 s) 77 d9 v)) (n' := 142) rfl ?_
              rw [show w 74 5 = 78 from zref hI rfl rfl]
              refine qG.blk 2 (pc' := 67) (ls' := [(2, 74), (0, ((d9 : Nat) : Int)), (0, s), (0, v), (0, b), (0, 65280)]) (st' := [(0, b), (0, ((d9 : Nat) : Int)), (2, 78)]) (w' := (qup (qup w 76 d9 s) 77 d9 v)) (n' := 142) rfl ?_
              refine qG.ar (P := (0 ≤ ((d9 : Nat) : Int) ∧ ((d9 : Nat) : Int) < ((10 : Nat) : Int)) ∧ 0 ≤ b ∧ b ≤ 1) (P2 := 0 < (78 : Int) ∧ (78 : Int) ≤ ((142 : Nat) : Int)) (pc' := 68) (ls' := [(2, 74), (0, ((d9 : Nat) : Int)), (0, s), (0, v), (0, b), (0, 65280)]) (st' := []) (w' := (qup (qup (qup w 76 d9 s) 77 d9 v) 78 d9 b)) (n' := 142) rfl (by exact ⟨⟨by omega, by omega⟩, hb⟩) (by decide) ?_
              refine qG.blk 1 (pc' := 69) (ls' := [(2, 74), (0, ((d9 : Nat) : Int)), (0, s), (0, v), (0, b), (0, 65280)]) (st' := [(0, 1)]) (w' := (qup (qup (qup w 76 d9 s) 77 d9 v) 78 d9 b)) (n' := 142) rfl ?_
              refine qG.ret rfl (by first | rfl | exact decide_eq_true (by omega)) ?_
              subst hQ9
              exact ⟨(congrArg (Prod.mk (0 : Nat)) (by first | exact (pdV_r (by omega)).symm | exact (pdV_0 (by omega) hz ((mk0 hv1 hv2).mp hm)).symm | exact (pdV_0n hz (fun z => hm ((mk0 hv1 hv2).mpr z))).symm | exact (pdV_1 (by omega) hz (by omega) ((mk1 hv1 hv2).mp hm)).symm | exact (pdV_1n hz (fun z => hm ((mk1 hv1 hv2).mpr z))).symm)), rfl⟩
            · skip
              refine qG.blk 1 (pc' := 45) (ls' := [(2, 74), (0, ((d9 : Nat) : Int)), (0, s), (0, v), (0, b), (0, 65280)]) (st' := [(0, 0)]) (w' := w) (n' := 142) rfl ?_
              refine qG.ret rfl (by first | rfl | exact decide_eq_true (by omega)) ?_
              subst hQ9
              exact ⟨(congrArg (Prod.mk (0 : Nat)) (by first | exact (pdV_r (by omega)).symm | exact (pdV_0 (by omega) hz ((mk0 hv1 hv2).mp hm)).symm | exact (pdV_0n hz (fun z => hm ((mk0 hv1 hv2).mpr z))).symm | exact (pdV_1 (by omega) hz (by omega) ((mk1 hv1 hv2).mp hm)).symm | exact (pdV_1n hz (fun z => hm ((mk1 hv1 hv2).mpr z))).symm)), rfl⟩
    · skip
      refine qG.blk 1 (pc' := 20) (ls' := [(2, 74), (0, d1), (0, s), (0, v), (0, b), (9, 0)]) (st' := [(0, 0)]) (w' := w) (n' := 142) rfl ?_
      refine qG.ret rfl (by first | rfl | exact decide_eq_true (by omega)) ?_
      subst hQ9
      exact ⟨(congrArg (Prod.mk (0 : Nat)) (by first | exact (pdV_r (by omega)).symm | exact (pdV_0 (by omega) hz ((mk0 hv1 hv2).mp hm)).symm | exact (pdV_0n hz (fun z => hm ((mk0 hv1 hv2).mpr z))).symm | exact (pdV_1 (by omega) hz (by omega) ((mk1 hv1 hv2).mp hm)).symm | exact (pdV_1n hz (fun z => hm ((mk1 hv1 hv2).mpr z))).symm)), rfl⟩
theorem K_X11_door_0 {d : Nat} (hd : 1 ≤ d) (d1 s v b : Int) (hv1 : -2147483648 ≤ v) (hv2 : v ≤ 2147483647) (hb : 0 ≤ b ∧ b ≤ 1) (w : qW) (hI : yInv zgf zga zra zSp w) : qG none d 166 0 [(2, 1), (0, 0), (0, d1), (0, s), (0, v), (0, b)] [] w 142 (fun (r : qV) (_ : qW) (_ : Nat) => r = (0, pdV d1 s v)) := by
  generalize hQ9 : (fun (r : qV) (_ : qW) (_ : Nat) => r = (0, pdV d1 s v)) = Q9
  obtain ⟨d, rfl⟩ : ∃ d9, d = d9 + 1 := ⟨d - 1, by omega⟩
  refine qG.blk 1 (pc' := 1) (ls' := [(2, 1), (0, 0), (0, d1), (0, s), (0, v), (0, b)]) (st' := [(0, 0)]) (w' := w) (n' := 142) rfl ?_
  refine qG.call (t := 198) (na := 1) (sk := 0) (md := 0) (ls1 := [(0, 0)]) (r1 := []) rfl rfl rfl rfl rfl (K_X11_isChest (Nat.zero_le _) _ _) ?_
  rintro _ w7 _ ⟨rfl, hw7, rfl⟩
  rw [hw7, show isInV 0 0 2 = 1 from by decide]
  show qG none (d + 1) 166 4 [(2, 1), (0, 0), (0, d1), (0, s), (0, v), (0, b)] [(0, 1)] w 142 Q9
  refine qG.br (P := (1 : Int) = 0) (pc1 := 29) (pc2 := 7) (st1 := []) rfl (fun h1 => ?_) (fun h1 => ?_)
  · exact absurd h1 (by decide)
  · skip
    refine qG.blk 2 (pc' := 11) (ls' := [(2, 1), (0, 0), (0, d1), (0, s), (0, v), (0, b)]) (st' := [(2, w 1 0)]) (w' := w) (n' := 142) rfl ?_
    rw [show w 1 0 = 2 from zref hI rfl rfl]
    refine qG.blk 1 (pc' := 12) (ls' := [(2, 1), (0, 0), (0, d1), (0, s), (0, v), (0, b)]) (st' := [(0, 0), (2, 2)]) (w' := w) (n' := 142) rfl ?_
    refine qG.ar (P := 0 ≤ 0 ∧ 0 < ((3 : Nat) : Int)) (P2 := 0 < (2 : Int) ∧ (2 : Int) ≤ ((142 : Nat) : Int)) (pc' := 13) (ls' := [(2, 1), (0, 0), (0, d1), (0, s), (0, v), (0, b)]) (st' := [(2, w 2 0)]) (w' := w) (n' := 142) rfl (by omega) (by decide) ?_
    rw [show w 2 0 = 64 from zref hI rfl rfl]
    refine qG.blk 4 (pc' := 19) (ls' := [(2, 1), (0, 0), (0, d1), (0, s), (0, v), (0, b)]) (st' := [(0, b), (0, v), (0, s), (0, d1), (2, 64)]) (w' := w) (n' := 142) rfl ?_
    refine qG.call (t := 22) (na := 5) (sk := 1) (md := 1) (ls1 := [(2, 64), (0, d1), (0, s), (0, v), (0, b), (9, 0)]) (r1 := []) rfl rfl rfl rfl rfl (K_putDoor64 (Nat.zero_le _) d1 s v b hv1 hv2 hb w hI) ?_
    rintro _ w8 _ ⟨rfl, rfl⟩
    show qG none (d + 1) 166 22 [(2, 1), (0, 0), (0, d1), (0, s), (0, v), (0, b)] [(0, pdV d1 s v)] w8 142 Q9
    refine qG.br (P := pdV d1 s v = 0) (pc1 := 29) (pc2 := 25) (st1 := []) rfl (fun hpw => ?_) (fun hpw => ?_)
    · skip
      refine qG.blk 1 (pc' := 30) (ls' := [(2, 1), (0, 0), (0, d1), (0, s), (0, v), (0, b)]) (st' := [(0, 0)]) (w' := w8) (n' := 142) rfl ?_
      refine qG.ret rfl (by first | rfl | exact decide_eq_true (by omega)) ?_
      subst hQ9
      exact (by have q := pdV_01 d1 s v; first | (rw [show pdV d1 s v = 0 by omega]; done) | (rw [show pdV d1 s v = 1 by omega]; done))
    · skip
      refine qG.blk 2 (pc' := 30) (ls' := [(2, 1), (0, 0), (0, d1), (0, s), (0, v), (0, b)]) (st' := [(0, 1)]) (w' := w8) (n' := 142) rfl ?_
      refine qG.ret rfl (by first | rfl | exact decide_eq_true (by omega)) ?_
      subst hQ9
      exact (by have q := pdV_01 d1 s v; first | (rw [show pdV d1 s v = 0 by omega]; done) | (rw [show pdV d1 s v = 1 by omega]; done))
theorem K_X11_door_1 {d : Nat} (hd : 1 ≤ d) (d1 s v b : Int) (hv1 : -2147483648 ≤ v) (hv2 : v ≤ 2147483647) (hb : 0 ≤ b ∧ b ≤ 1) (w : qW) (hI : yInv zgf zga zra zSp w) : qG none d 166 0 [(2, 1), (0, 1), (0, d1), (0, s), (0, v), (0, b)] [] w 142 (fun (r : qV) (_ : qW) (_ : Nat) => r = (0, pdV d1 s v)) := by
  generalize hQ9 : (fun (r : qV) (_ : qW) (_ : Nat) => r = (0, pdV d1 s v)) = Q9
  obtain ⟨d, rfl⟩ : ∃ d9, d = d9 + 1 := ⟨d - 1, by omega⟩
  refine qG.blk 1 (pc' := 1) (ls' := [(2, 1), (0, 1), (0, d1), (0, s), (0, v), (0, b)]) (st' := [(0, 1)]) (w' := w) (n' := 142) rfl ?_
  refine qG.call (t := 198) (na := 1) (sk := 0) (md := 0) (ls1 := [(0, 1)]) (r1 := []) rfl rfl rfl rfl rfl (K_X11_isChest (Nat.zero_le _) _ _) ?_
  rintro _ w7 _ ⟨rfl, hw7, rfl⟩
  rw [hw7, show isInV 1 0 2 = 1 from by decide]
  show qG none (d + 1) 166 4 [(2, 1), (0, 1), (0, d1), (0, s), (0, v), (0, b)] [(0, 1)] w 142 Q9
  refine qG.br (P := (1 : Int) = 0) (pc1 := 29) (pc2 := 7) (st1 := []) rfl (fun h1 => ?_) (fun h1 => ?_)
  · exact absurd h1 (by decide)
  · skip
    refine qG.blk 2 (pc' := 11) (ls' := [(2, 1), (0, 1), (0, d1), (0, s), (0, v), (0, b)]) (st' := [(2, w 1 0)]) (w' := w) (n' := 142) rfl ?_
    rw [show w 1 0 = 2 from zref hI rfl rfl]
    refine qG.blk 1 (pc' := 12) (ls' := [(2, 1), (0, 1), (0, d1), (0, s), (0, v), (0, b)]) (st' := [(0, 1), (2, 2)]) (w' := w) (n' := 142) rfl ?_
    refine qG.ar (P := 0 ≤ 1 ∧ 1 < ((3 : Nat) : Int)) (P2 := 0 < (2 : Int) ∧ (2 : Int) ≤ ((142 : Nat) : Int)) (pc' := 13) (ls' := [(2, 1), (0, 1), (0, d1), (0, s), (0, v), (0, b)]) (st' := [(2, w 2 1)]) (w' := w) (n' := 142) rfl (by omega) (by decide) ?_
    rw [show w 2 1 = 69 from zref hI rfl rfl]
    refine qG.blk 4 (pc' := 19) (ls' := [(2, 1), (0, 1), (0, d1), (0, s), (0, v), (0, b)]) (st' := [(0, b), (0, v), (0, s), (0, d1), (2, 69)]) (w' := w) (n' := 142) rfl ?_
    refine qG.call (t := 22) (na := 5) (sk := 1) (md := 1) (ls1 := [(2, 69), (0, d1), (0, s), (0, v), (0, b), (9, 0)]) (r1 := []) rfl rfl rfl rfl rfl (K_putDoor69 (Nat.zero_le _) d1 s v b hv1 hv2 hb w hI) ?_
    rintro _ w8 _ ⟨rfl, rfl⟩
    show qG none (d + 1) 166 22 [(2, 1), (0, 1), (0, d1), (0, s), (0, v), (0, b)] [(0, pdV d1 s v)] w8 142 Q9
    refine qG.br (P := pdV d1 s v = 0) (pc1 := 29) (pc2 := 25) (st1 := []) rfl (fun hpw => ?_) (fun hpw => ?_)
    · skip
      refine qG.blk 1 (pc' := 30) (ls' := [(2, 1), (0, 1), (0, d1), (0, s), (0, v), (0, b)]) (st' := [(0, 0)]) (w' := w8) (n' := 142) rfl ?_
      refine qG.ret rfl (by first | rfl | exact decide_eq_true (by omega)) ?_
      subst hQ9
      exact (by have q := pdV_01 d1 s v; first | (rw [show pdV d1 s v = 0 by omega]; done) | (rw [show pdV d1 s v = 1 by omega]; done))
    · skip
      refine qG.blk 2 (pc' := 30) (ls' := [(2, 1), (0, 1), (0, d1), (0, s), (0, v), (0, b)]) (st' := [(0, 1)]) (w' := w8) (n' := 142) rfl ?_
      refine qG.ret rfl (by first | rfl | exact decide_eq_true (by omega)) ?_
      subst hQ9
      exact (by have q := pdV_01 d1 s v; first | (rw [show pdV d1 s v = 0 by omega]; done) | (rw [show pdV d1 s v = 1 by omega]; done))
theorem K_X11_door_2 {d : Nat} (hd : 1 ≤ d) (d1 s v b : Int) (hv1 : -2147483648 ≤ v) (hv2 : v ≤ 2147483647) (hb : 0 ≤ b ∧ b ≤ 1) (w : qW) (hI : yInv zgf zga zra zSp w) : qG none d 166 0 [(2, 1), (0, 2), (0, d1), (0, s), (0, v), (0, b)] [] w 142 (fun (r : qV) (_ : qW) (_ : Nat) => r = (0, pdV d1 s v)) := by
  generalize hQ9 : (fun (r : qV) (_ : qW) (_ : Nat) => r = (0, pdV d1 s v)) = Q9
  obtain ⟨d, rfl⟩ : ∃ d9, d = d9 + 1 := ⟨d - 1, by omega⟩
  refine qG.blk 1 (pc' := 1) (ls' := [(2, 1), (0, 2), (0, d1), (0, s), (0, v), (0, b)]) (st' := [(0, 2)]) (w' := w) (n' := 142) rfl ?_
  refine qG.call (t := 198) (na := 1) (sk := 0) (md := 0) (ls1 := [(0, 2)]) (r1 := []) rfl rfl rfl rfl rfl (K_X11_isChest (Nat.zero_le _) _ _) ?_
  rintro _ w7 _ ⟨rfl, hw7, rfl⟩
  rw [hw7, show isInV 2 0 2 = 1 from by decide]
  show qG none (d + 1) 166 4 [(2, 1), (0, 2), (0, d1), (0, s), (0, v), (0, b)] [(0, 1)] w 142 Q9
  refine qG.br (P := (1 : Int) = 0) (pc1 := 29) (pc2 := 7) (st1 := []) rfl (fun h1 => ?_) (fun h1 => ?_)
  · exact absurd h1 (by decide)
  · skip
    refine qG.blk 2 (pc' := 11) (ls' := [(2, 1), (0, 2), (0, d1), (0, s), (0, v), (0, b)]) (st' := [(2, w 1 0)]) (w' := w) (n' := 142) rfl ?_
    rw [show w 1 0 = 2 from zref hI rfl rfl]
    refine qG.blk 1 (pc' := 12) (ls' := [(2, 1), (0, 2), (0, d1), (0, s), (0, v), (0, b)]) (st' := [(0, 2), (2, 2)]) (w' := w) (n' := 142) rfl ?_
    refine qG.ar (P := 0 ≤ 2 ∧ 2 < ((3 : Nat) : Int)) (P2 := 0 < (2 : Int) ∧ (2 : Int) ≤ ((142 : Nat) : Int)) (pc' := 13) (ls' := [(2, 1), (0, 2), (0, d1), (0, s), (0, v), (0, b)]) (st' := [(2, w 2 2)]) (w' := w) (n' := 142) rfl (by omega) (by decide) ?_
    rw [show w 2 2 = 74 from zref hI rfl rfl]
    refine qG.blk 4 (pc' := 19) (ls' := [(2, 1), (0, 2), (0, d1), (0, s), (0, v), (0, b)]) (st' := [(0, b), (0, v), (0, s), (0, d1), (2, 74)]) (w' := w) (n' := 142) rfl ?_
    refine qG.call (t := 22) (na := 5) (sk := 1) (md := 1) (ls1 := [(2, 74), (0, d1), (0, s), (0, v), (0, b), (9, 0)]) (r1 := []) rfl rfl rfl rfl rfl (K_putDoor74 (Nat.zero_le _) d1 s v b hv1 hv2 hb w hI) ?_
    rintro _ w8 _ ⟨rfl, rfl⟩
    show qG none (d + 1) 166 22 [(2, 1), (0, 2), (0, d1), (0, s), (0, v), (0, b)] [(0, pdV d1 s v)] w8 142 Q9
    refine qG.br (P := pdV d1 s v = 0) (pc1 := 29) (pc2 := 25) (st1 := []) rfl (fun hpw => ?_) (fun hpw => ?_)
    · skip
      refine qG.blk 1 (pc' := 30) (ls' := [(2, 1), (0, 2), (0, d1), (0, s), (0, v), (0, b)]) (st' := [(0, 0)]) (w' := w8) (n' := 142) rfl ?_
      refine qG.ret rfl (by first | rfl | exact decide_eq_true (by omega)) ?_
      subst hQ9
      exact (by have q := pdV_01 d1 s v; first | (rw [show pdV d1 s v = 0 by omega]; done) | (rw [show pdV d1 s v = 1 by omega]; done))
    · skip
      refine qG.blk 2 (pc' := 30) (ls' := [(2, 1), (0, 2), (0, d1), (0, s), (0, v), (0, b)]) (st' := [(0, 1)]) (w' := w8) (n' := 142) rfl ?_
      refine qG.ret rfl (by first | rfl | exact decide_eq_true (by omega)) ?_
      subst hQ9
      exact (by have q := pdV_01 d1 s v; first | (rw [show pdV d1 s v = 0 by omega]; done) | (rw [show pdV d1 s v = 1 by omega]; done))
theorem K_X11_door_n {d : Nat} (hd : 1 ≤ d) (c d1 s v b : Int) (hc : isInV c 0 2 = 0) (hv1 : -2147483648 ≤ v) (hv2 : v ≤ 2147483647) (hb : 0 ≤ b ∧ b ≤ 1) (w : qW) (hI : yInv zgf zga zra zSp w) : qG none d 166 0 [(2, 1), (0, c), (0, d1), (0, s), (0, v), (0, b)] [] w 142 (fun (r : qV) (_ : qW) (_ : Nat) => r = (0, 0)) := by
  generalize hQ9 : (fun (r : qV) (_ : qW) (_ : Nat) => r = (0, 0)) = Q9
  obtain ⟨d, rfl⟩ : ∃ d9, d = d9 + 1 := ⟨d - 1, by omega⟩
  refine qG.blk 1 (pc' := 1) (ls' := [(2, 1), (0, c), (0, d1), (0, s), (0, v), (0, b)]) (st' := [(0, c)]) (w' := w) (n' := 142) rfl ?_
  refine qG.call (t := 198) (na := 1) (sk := 0) (md := 0) (ls1 := [(0, c)]) (r1 := []) rfl rfl rfl rfl rfl (K_X11_isChest (Nat.zero_le _) _ _) ?_
  rintro _ w7 _ ⟨rfl, hw7, rfl⟩
  rw [hw7]
  show qG none (d + 1) 166 4 [(2, 1), (0, c), (0, d1), (0, s), (0, v), (0, b)] [(0, isInV c 0 2)] w 142 Q9
  refine qG.br (P := isInV c 0 2 = 0) (pc1 := 29) (pc2 := 7) (st1 := []) rfl (fun hc0 => ?_) (fun hc0 => ?_)
  · skip
    refine qG.blk 1 (pc' := 30) (ls' := [(2, 1), (0, c), (0, d1), (0, s), (0, v), (0, b)]) (st' := [(0, 0)]) (w' := w) (n' := 142) rfl ?_
    refine qG.ret rfl (by first | rfl | exact decide_eq_true (by omega)) ?_
    subst hQ9
    exact rfl
  · exfalso; exact hc0 hc
theorem K_X11_door {d : Nat} (hd : 1 ≤ d) (c d1 s v b : Int) (hv1 : -2147483648 ≤ v) (hv2 : v ≤ 2147483647) (hb : 0 ≤ b ∧ b ≤ 1) (w : qW) (hI : yInv zgf zga zra zSp w) : qG none d 166 0 [(2, 1), (0, c), (0, d1), (0, s), (0, v), (0, b)] [] w 142 (fun (r : qV) (_ : qW) (_ : Nat) => r = (0, doorV c d1 s v)) := by
  unfold doorV
  by_cases h : isInV c 0 2 = 0
  · rw [if_pos h]; exact K_X11_door_n hd c d1 s v b h hv1 hv2 hb w hI
  · rw [if_neg h]
    obtain ⟨n, rfl, h1, h2⟩ := isIn_n (by decide) h
    rcases (show n = 0 ∨ n = 1 ∨ n = 2 by omega) with rfl | rfl | rfl
    · exact K_X11_door_0 hd d1 s v b hv1 hv2 hb w hI
    · exact K_X11_door_1 hd d1 s v b hv1 hv2 hb w hI
    · exact K_X11_door_2 hd d1 s v b hv1 hv2 hb w hI
theorem K_X12_isSet {d : Nat} (hd : 1 ≤ d) (v : Int) (w : qW) : qG none d 216 0 [(0, v)] [] w 142 (fun (r : qV) (w1 : qW) (n1 : Nat) => r = (0, isInV v 0 65535) ∧ w1 = w ∧ n1 = 142) := by
  generalize hQ9 : (fun (r : qV) (w1 : qW) (n1 : Nat) => r = (0, isInV v 0 65535) ∧ w1 = w ∧ n1 = 142) = Q9
  obtain ⟨d, rfl⟩ : ∃ d9, d = d9 + 1 := ⟨d - 1, by omega⟩
  refine qG.blk 3 (pc' := 4) (ls' := [(0, v)]) (st' := [(0, 65535), (0, 0), (0, v)]) (w' := w) (n' := 142) rfl ?_
  refine qG.call (t := 206) (na := 3) (sk := 0) (md := 0) (ls1 := [(0, v), (0, 0), (0, 65535)]) (r1 := []) rfl rfl rfl rfl rfl (K_isIn (Nat.zero_le _) _ _ _ _) ?_
  rintro _ w7 _ ⟨rfl, hw7, rfl⟩
  rw [hw7]
  show qG none (d + 1) 216 7 [(0, v)] [(0, isInV (v) (0) (65535))] w 142 Q9
  refine qG.ret rfl (by have q9 := isInV_01 v 0 65535; exact decide_eq_true (by omega)) ?_
  subst hQ9
  exact ⟨rfl, rfl, rfl⟩
theorem isIn_b {c a b : Int} : isInV c a b = 0 ↔ ¬ (a ≤ c ∧ c ≤ b) := by unfold isInV; split <;> (try split) <;> constructor <;> intro h <;> omega
theorem K_X12_door {d : Nat} (hd : 2 ≤ d) (c d1 s v b : Int) (hv1 : -2147483648 ≤ v) (hv2 : v ≤ 2147483647) (hb : 0 ≤ b ∧ b ≤ 1) (w : qW) (hI : yInv zgf zga zra zSp w) : qG none d 217 0 [(2, 95), (0, c), (0, d1), (0, s), (0, v), (0, b)] [] w 142 (fun (r : qV) (_ : qW) (_ : Nat) => r = (0, doorV c d1 s v)) := by
  generalize hQ9 : (fun (r : qV) (_ : qW) (_ : Nat) => r = (0, doorV c d1 s v)) = Q9
  obtain ⟨d, rfl⟩ : ∃ d9, d = d9 + 1 := ⟨d - 1, by omega⟩
  refine qG.blk 1 (pc' := 1) (ls' := [(2, 95), (0, c), (0, d1), (0, s), (0, v), (0, b)]) (st' := [(0, c)]) (w' := w) (n' := 142) rfl ?_
  refine qG.call (t := 207) (na := 1) (sk := 0) (md := 0) (ls1 := [(0, c)]) (r1 := []) rfl rfl rfl rfl rfl (K_isChest (by omega) _ _) ?_
  rintro _ w7 _ ⟨rfl, hw7, rfl⟩
  rw [hw7]
  show qG none (d + 1) 217 4 [(2, 95), (0, c), (0, d1), (0, s), (0, v), (0, b)] [(0, isInV c 0 2)] w 142 Q9
  refine qG.br (P := isInV c 0 2 = 0) (pc1 := 52) (pc2 := 7) (st1 := []) rfl (fun hc0 => ?_) (fun hc0 => ?_)
  · skip
    refine qG.blk 1 (pc' := 53) (ls' := [(2, 95), (0, c), (0, d1), (0, s), (0, v), (0, b)]) (st' := [(0, 0)]) (w' := w) (n' := 142) rfl ?_
    refine qG.ret rfl (by first | rfl | exact decide_eq_true (by omega)) ?_
    subst hQ9
    exact (by unfold doorV; first | (rw [if_pos hc0]; done) | (rw [if_neg hc0, pdV_r (by rw [isIn_b] at hd0; omega)]; done) | (rw [if_neg hc0, pdV_r (by rw [isIn_b] at hs0; omega)]; done) | (rw [if_neg hc0]; refine congrArg (Prod.mk (0 : Nat)) ?_; rw [isIn_b] at hs0 hv0; by_cases q : s = 0; exact (pdV_0n q (fun z => hv0 z.1)).symm; exact (pdV_1n q (fun z => hv0 z.1)).symm) | (rw [if_neg hc0]; refine congrArg (Prod.mk (0 : Nat)) ?_; rw [isIn_b] at hs0 hv0; first | exact (pdV_0 (by omega) hz ⟨by omega, hm⟩).symm | exact (pdV_0n hz (fun z => hm z.2)).symm | exact (pdV_1 (by omega) hz (by omega) ⟨by omega, hm⟩).symm | exact (pdV_1n hz (fun z => hm z.2)).symm))
  · skip
    obtain ⟨c9, rfl, hlc9, huc9⟩ := isIn_n (by decide) hc0
    refine qG.blk 3 (pc' := 11) (ls' := [(2, 95), (0, ((c9 : Nat) : Int)), (0, d1), (0, s), (0, v), (0, b)]) (st' := [(0, 9), (0, 0), (0, d1)]) (w' := w) (n' := 142) rfl ?_
    refine qG.call (t := 206) (na := 3) (sk := 0) (md := 0) (ls1 := [(0, d1), (0, 0), (0, 9)]) (r1 := []) rfl rfl rfl rfl rfl (K_isIn (Nat.zero_le _) _ _ _ _) ?_
    rintro _ w7 _ ⟨rfl, hw7, rfl⟩
    rw [hw7]
    show qG none (d + 1) 217 14 [(2, 95), (0, ((c9 : Nat) : Int)), (0, d1), (0, s), (0, v), (0, b)] [(0, isInV (d1) (0) (9))] w 142 Q9
    refine qG.br (P := isInV (d1) (0) (9) = 0) (pc1 := 52) (pc2 := 17) (st1 := []) rfl (fun hd0 => ?_) (fun hd0 => ?_)
    · skip
      refine qG.blk 1 (pc' := 53) (ls' := [(2, 95), (0, ((c9 : Nat) : Int)), (0, d1), (0, s), (0, v), (0, b)]) (st' := [(0, 0)]) (w' := w) (n' := 142) rfl ?_
      refine qG.ret rfl (by first | rfl | exact decide_eq_true (by omega)) ?_
      subst hQ9
      exact (by unfold doorV; first | (rw [if_pos hc0]; done) | (rw [if_neg hc0, pdV_r (by rw [isIn_b] at hd0; omega)]; done) | (rw [if_neg hc0, pdV_r (by rw [isIn_b] at hs0; omega)]; done) | (rw [if_neg hc0]; refine congrArg (Prod.mk (0 : Nat)) ?_; rw [isIn_b] at hs0 hv0; by_cases q : s = 0; exact (pdV_0n q (fun z => hv0 z.1)).symm; exact (pdV_1n q (fun z => hv0 z.1)).symm) | (rw [if_neg hc0]; refine congrArg (Prod.mk (0 : Nat)) ?_; rw [isIn_b] at hs0 hv0; first | exact (pdV_0 (by omega) hz ⟨by omega, hm⟩).symm | exact (pdV_0n hz (fun z => hm z.2)).symm | exact (pdV_1 (by omega) hz (by omega) ⟨by omega, hm⟩).symm | exact (pdV_1n hz (fun z => hm z.2)).symm))
    · skip
      obtain ⟨d9, rfl, hld9, hud9⟩ := isIn_n (by decide) hd0
      refine qG.blk 3 (pc' := 20) (ls' := [(2, 95), (0, ((c9 : Nat) : Int)), (0, ((d9 : Nat) : Int)), (0, s), (0, v), (0, b)]) (st' := [(0, 1), (0, 0), (0, s)]) (w' := w) (n' := 142) rfl ?_
      refine qG.call (t := 206) (na := 3) (sk := 0) (md := 0) (ls1 := [(0, s), (0, 0), (0, 1)]) (r1 := []) rfl rfl rfl rfl rfl (K_isIn (Nat.zero_le _) _ _ _ _) ?_
      rintro _ w7 _ ⟨rfl, hw7, rfl⟩
      rw [hw7]
      show qG none (d + 1) 217 23 [(2, 95), (0, ((c9 : Nat) : Int)), (0, ((d9 : Nat) : Int)), (0, s), (0, v), (0, b)] [(0, isInV (s) (0) (1))] w 142 Q9
      refine qG.br (P := isInV (s) (0) (1) = 0) (pc1 := 52) (pc2 := 26) (st1 := []) rfl (fun hs0 => ?_) (fun hs0 => ?_)
      · skip
        refine qG.blk 1 (pc' := 53) (ls' := [(2, 95), (0, ((c9 : Nat) : Int)), (0, ((d9 : Nat) : Int)), (0, s), (0, v), (0, b)]) (st' := [(0, 0)]) (w' := w) (n' := 142) rfl ?_
        refine qG.ret rfl (by first | rfl | exact decide_eq_true (by omega)) ?_
        subst hQ9
        exact (by unfold doorV; first | (rw [if_pos hc0]; done) | (rw [if_neg hc0, pdV_r (by rw [isIn_b] at hd0; omega)]; done) | (rw [if_neg hc0, pdV_r (by rw [isIn_b] at hs0; omega)]; done) | (rw [if_neg hc0]; refine congrArg (Prod.mk (0 : Nat)) ?_; rw [isIn_b] at hs0 hv0; by_cases q : s = 0; exact (pdV_0n q (fun z => hv0 z.1)).symm; exact (pdV_1n q (fun z => hv0 z.1)).symm) | (rw [if_neg hc0]; refine congrArg (Prod.mk (0 : Nat)) ?_; rw [isIn_b] at hs0 hv0; first | exact (pdV_0 (by omega) hz ⟨by omega, hm⟩).symm | exact (pdV_0n hz (fun z => hm z.2)).symm | exact (pdV_1 (by omega) hz (by omega) ⟨by omega, hm⟩).symm | exact (pdV_1n hz (fun z => hm z.2)).symm))
      · skip
        refine qG.blk 1 (pc' := 28) (ls' := [(2, 95), (0, ((c9 : Nat) : Int)), (0, ((d9 : Nat) : Int)), (0, s), (0, v), (0, b)]) (st' := [(0, v)]) (w' := w) (n' := 142) rfl ?_
        refine qG.call (t := 216) (na := 1) (sk := 0) (md := 0) (ls1 := [(0, v)]) (r1 := []) rfl rfl rfl rfl rfl (K_X12_isSet (by omega) _ _) ?_
        rintro _ w7 _ ⟨rfl, hw7, rfl⟩
        rw [hw7]
        show qG none (d + 1) 217 31 [(2, 95), (0, ((c9 : Nat) : Int)), (0, ((d9 : Nat) : Int)), (0, s), (0, v), (0, b)] [(0, isInV v 0 65535)] w 142 Q9
        refine qG.br (P := isInV v 0 65535 = 0) (pc1 := 52) (pc2 := 34) (st1 := []) rfl (fun hv0 => ?_) (fun hv0 => ?_)
        · skip
          refine qG.blk 1 (pc' := 53) (ls' := [(2, 95), (0, ((c9 : Nat) : Int)), (0, ((d9 : Nat) : Int)), (0, s), (0, v), (0, b)]) (st' := [(0, 0)]) (w' := w) (n' := 142) rfl ?_
          refine qG.ret rfl (by first | rfl | exact decide_eq_true (by omega)) ?_
          subst hQ9
          exact (by unfold doorV; first | (rw [if_pos hc0]; done) | (rw [if_neg hc0, pdV_r (by rw [isIn_b] at hd0; omega)]; done) | (rw [if_neg hc0, pdV_r (by rw [isIn_b] at hs0; omega)]; done) | (rw [if_neg hc0]; refine congrArg (Prod.mk (0 : Nat)) ?_; rw [isIn_b] at hs0 hv0; by_cases q : s = 0; exact (pdV_0n q (fun z => hv0 z.1)).symm; exact (pdV_1n q (fun z => hv0 z.1)).symm) | (rw [if_neg hc0]; refine congrArg (Prod.mk (0 : Nat)) ?_; rw [isIn_b] at hs0 hv0; first | exact (pdV_0 (by omega) hz ⟨by omega, hm⟩).symm | exact (pdV_0n hz (fun z => hm z.2)).symm | exact (pdV_1 (by omega) hz (by omega) ⟨by omega, hm⟩).symm | exact (pdV_1n hz (fun z => hm z.2)).symm))
        · skip
          refine qG.blk 2 (pc' := 37) (ls' := [(2, 95), (0, ((c9 : Nat) : Int)), (0, ((d9 : Nat) : Int)), (0, s), (0, v), (0, b)]) (st' := [(0, s), (0, v)]) (w' := w) (n' := 142) rfl ?_
          refine qG.br (P := s = 0) (pc1 := 40) (pc2 := 45) (st1 := [(0, v)]) rfl (fun hz => ?_) (fun hz => ?_)
          · skip
            refine qG.blk 3 (pc' := 49) (ls' := [(2, 95), (0, ((c9 : Nat) : Int)), (0, ((d9 : Nat) : Int)), (0, s), (0, v), (0, b)]) (st' := [(0, qand v 65280)]) (w' := w) (n' := 142) rfl ?_
            refine qG.br (P := qand v 65280 = 0) (pc1 := 54) (pc2 := 52) (st1 := []) rfl (fun hm => ?_) (fun hm => ?_)
            · skip
              refine qG.blk 2 (pc' := 58) (ls' := [(2, 95), (0, ((c9 : Nat) : Int)), (0, ((d9 : Nat) : Int)), (0, s), (0, v), (0, b)]) (st' := [(2, w 95 1)]) (w' := w) (n' := 142) rfl ?_
              rw [show w 95 1 = 97 from zref hI rfl rfl]
              refine qG.blk 3 (pc' := 62) (ls' := [(2, 95), (0, ((c9 : Nat) : Int)), (0, ((d9 : Nat) : Int)), (0, s), (0, v), (0, b)]) (st' := [(0, wrp (10 * ((c9 : Nat) : Int))), (2, 97)]) (w' := w) (n' := 142) rfl ?_
              rw [show wrp (10 * ((c9 : Nat) : Int)) = ((10 * c9 : Nat) : Int) from by rw [wrp_id (by omega) (by omega)]; omega]
              refine qG.blk 2 (pc' := 64) (ls' := [(2, 95), (0, ((c9 : Nat) : Int)), (0, ((d9 : Nat) : Int)), (0, s), (0, v), (0, b)]) (st' := [(0, wrp (((10 * c9 : Nat) : Int) + ((d9 : Nat) : Int))), (2, 97)]) (w' := w) (n' := 142) rfl ?_
              rw [show wrp (((10 * c9 : Nat) : Int) + ((d9 : Nat) : Int)) = ((10 * c9 + d9 : Nat) : Int) from by rw [wrp_id (by omega) (by omega)]; omega]
              refine qG.blk 1 (pc' := 65) (ls' := [(2, 95), (0, ((c9 : Nat) : Int)), (0, ((d9 : Nat) : Int)), (0, s), (0, v), (0, b)]) (st' := [(0, s), (0, ((10 * c9 + d9 : Nat) : Int)), (2, 97)]) (w' := w) (n' := 142) rfl ?_
              refine qG.ar (P := 0 ≤ ((10 * c9 + d9 : Nat) : Int) ∧ ((10 * c9 + d9 : Nat) : Int) < ((30 : Nat) : Int)) (P2 := 0 < (97 : Int) ∧ (97 : Int) ≤ ((142 : Nat) : Int)) (pc' := 66) (ls' := [(2, 95), (0, ((c9 : Nat) : Int)), (0, ((d9 : Nat) : Int)), (0, s), (0, v), (0, b)]) (st' := []) (w' := (qup w 97 (10 * c9 + d9) s)) (n' := 142) rfl (by omega) (by decide) ?_
              refine qG.blk 2 (pc' := 70) (ls' := [(2, 95), (0, ((c9 : Nat) : Int)), (0, ((d9 : Nat) : Int)), (0, s), (0, v), (0, b)]) (st' := [(2, w 95 2)]) (w' := (qup w 97 (10 * c9 + d9) s)) (n' := 142) rfl ?_
              rw [show w 95 2 = 98 from zref hI rfl rfl]
              refine qG.blk 3 (pc' := 74) (ls' := [(2, 95), (0, ((c9 : Nat) : Int)), (0, ((d9 : Nat) : Int)), (0, s), (0, v), (0, b)]) (st' := [(0, wrp (10 * ((c9 : Nat) : Int))), (2, 98)]) (w' := (qup w 97 (10 * c9 + d9) s)) (n' := 142) rfl ?_
              rw [show wrp (10 * ((c9 : Nat) : Int)) = ((10 * c9 : Nat) : Int) from by rw [wrp_id (by omega) (by omega)]; omega]
              refine qG.blk 2 (pc' := 76) (ls' := [(2, 95), (0, ((c9 : Nat) : Int)), (0, ((d9 : Nat) : Int)), (0, s), (0, v), (0, b)]) (st' := [(0, wrp (((10 * c9 : Nat) : Int) + ((d9 : Nat) : Int))), (2, 98)]) (w' := (qup w 97 (10 * c9 + d9) s)) (n' := 142) rfl ?_
              rw [show wrp (((10 * c9 : Nat) : Int) + ((d9 : Nat) : Int)) = ((10 * c9 + d9 : Nat) : Int) from by rw [wrp_id (by omega) (by omega)]; omega]
              refine qG.blk 1 (pc' := 78) (ls' := [(2, 95), (0, ((c9 : Nat) : Int)), (0, ((d9 : Nat) : Int)), (0, s), (0, v), (0, b)]) (st' := [(0, v), (0, ((10 * c9 + d9 : Nat) : Int)), (2, 98)]) (w' := (qup w 97 (10 * c9 + d9) s)) (n' := 142) rfl ?_
              refine qG.ar (P := 0 ≤ ((10 * c9 + d9 : Nat) : Int) ∧ ((10 * c9 + d9 : Nat) : Int) < ((30 : Nat) : Int)) (P2 := 0 < (98 : Int) ∧ (98 : Int) ≤ ((142 : Nat) : Int)) (pc' := 79) (ls' := [(2, 95), (0, ((c9 : Nat) : Int)), (0, ((d9 : Nat) : Int)), (0, s), (0, v), (0, b)]) (st' := []) (w' := (qup (qup w 97 (10 * c9 + d9) s) 98 (10 * c9 + d9) v)) (n' := 142) rfl (by omega) (by decide) ?_
              refine qG.blk 2 (pc' := 83) (ls' := [(2, 95), (0, ((c9 : Nat) : Int)), (0, ((d9 : Nat) : Int)), (0, s), (0, v), (0, b)]) (st' := [(2, w 95 4)]) (w' := (qup (qup w 97 (10 * c9 + d9) s) 98 (10 * c9 + d9) v)) (n' := 142) rfl ?_
              rw [show w 95 4 = 100 from zref hI rfl rfl]
              refine qG.blk 3 (pc' := 87) (ls' := [(2, 95), (0, ((c9 : Nat) : Int)), (0, ((d9 : Nat) : Int)), (0, s), (0, v), (0, b)]) (st' := [(0, wrp (10 * ((c9 : Nat) : Int))), (2, 100)]) (w' := (qup (qup w 97 (10 * c9 + d9) s) 98 (10 * c9 + d9) v)) (n' := 142) rfl ?_
              rw [show wrp (10 * ((c9 : Nat) : Int)) = ((10 * c9 : Nat) : Int) from by rw [wrp_id (by omega) (by omega)]; omega]
              refine qG.blk 2 (pc' := 89) (ls' := [(2, 95), (0, ((c9 : Nat) : Int)), (0, ((d9 : Nat) : Int)), (0, s), (0, v), (0, b)]) (st' := [(0, wrp (((10 * c9 : Nat) : Int) + ((d9 : Nat) : Int))), (2, 100)]) (w' := (qup (qup w 97 (10 * c9 + d9) s) 98 (10 * c9 + d9) v)) (n' := 142) rfl ?_
              rw [show wrp (((10 * c9 : Nat) : Int) + ((d9 : Nat) : Int)) = ((10 * c9 + d9 : Nat) : Int) from by rw [wrp_id (by omega) (by omega)]; omega]
              refine qG.blk 1 (pc' := 91) (ls' := [(2, 95), (0, ((c9 : Nat) : Int)), (0, ((d9 : Nat) : Int)), (0, s), (0, v), (0, b)]) (st' := [(0, b), (0, ((10 * c9 + d9 : Nat) : Int)), (2, 100)]) (w' := (qup (qup w 97 (10 * c9 + d9) s) 98 (10 * c9 + d9) v)) (n' := 142) rfl ?_
              refine qG.ar (P := (0 ≤ ((10 * c9 + d9 : Nat) : Int) ∧ ((10 * c9 + d9 : Nat) : Int) < ((30 : Nat) : Int)) ∧ 0 ≤ b ∧ b ≤ 1) (P2 := 0 < (100 : Int) ∧ (100 : Int) ≤ ((142 : Nat) : Int)) (pc' := 92) (ls' := [(2, 95), (0, ((c9 : Nat) : Int)), (0, ((d9 : Nat) : Int)), (0, s), (0, v), (0, b)]) (st' := []) (w' := (qup (qup (qup w 97 (10 * c9 + d9) s) 98 (10 * c9 + d9) v) 100 (10 * c9 + d9) b)) (n' := 142) rfl (by exact ⟨⟨by omega, by omega⟩, hb⟩) (by decide) ?_
              refine qG.blk 1 (pc' := 93) (ls' := [(2, 95), (0, ((c9 : Nat) : Int)), (0, ((d9 : Nat) : Int)), (0, s), (0, v), (0, b)]) (st' := [(0, 1)]) (w' := (qup (qup (qup w 97 (10 * c9 + d9) s) 98 (10 * c9 + d9) v) 100 (10 * c9 + d9) b)) (n' := 142) rfl ?_
              refine qG.ret rfl (by first | rfl | exact decide_eq_true (by omega)) ?_
              subst hQ9
              exact (by unfold doorV; first | (rw [if_pos hc0]; done) | (rw [if_neg hc0, pdV_r (by rw [isIn_b] at hd0; omega)]; done) | (rw [if_neg hc0, pdV_r (by rw [isIn_b] at hs0; omega)]; done) | (rw [if_neg hc0]; refine congrArg (Prod.mk (0 : Nat)) ?_; rw [isIn_b] at hs0 hv0; by_cases q : s = 0; exact (pdV_0n q (fun z => hv0 z.1)).symm; exact (pdV_1n q (fun z => hv0 z.1)).symm) | (rw [if_neg hc0]; refine congrArg (Prod.mk (0 : Nat)) ?_; rw [isIn_b] at hs0 hv0; first | exact (pdV_0 (by omega) hz ⟨by omega, hm⟩).symm | exact (pdV_0n hz (fun z => hm z.2)).symm | exact (pdV_1 (by omega) hz (by omega) ⟨by omega, hm⟩).symm | exact (pdV_1n hz (fun z => hm z.2)).symm))
            · skip
              refine qG.blk 1 (pc' := 53) (ls' := [(2, 95), (0, ((c9 : Nat) : Int)), (0, ((d9 : Nat) : Int)), (0, s), (0, v), (0, b)]) (st' := [(0, 0)]) (w' := w) (n' := 142) rfl ?_
              refine qG.ret rfl (by first | rfl | exact decide_eq_true (by omega)) ?_
              subst hQ9
              exact (by unfold doorV; first | (rw [if_pos hc0]; done) | (rw [if_neg hc0, pdV_r (by rw [isIn_b] at hd0; omega)]; done) | (rw [if_neg hc0, pdV_r (by rw [isIn_b] at hs0; omega)]; done) | (rw [if_neg hc0]; refine congrArg (Prod.mk (0 : Nat)) ?_; rw [isIn_b] at hs0 hv0; by_cases q : s = 0; exact (pdV_0n q (fun z => hv0 z.1)).symm; exact (pdV_1n q (fun z => hv0 z.1)).symm) | (rw [if_neg hc0]; refine congrArg (Prod.mk (0 : Nat)) ?_; rw [isIn_b] at hs0 hv0; first | exact (pdV_0 (by omega) hz ⟨by omega, hm⟩).symm | exact (pdV_0n hz (fun z => hm z.2)).symm | exact (pdV_1 (by omega) hz (by omega) ⟨by omega, hm⟩).symm | exact (pdV_1n hz (fun z => hm z.2)).symm))
          · skip
            refine qG.blk 2 (pc' := 49) (ls' := [(2, 95), (0, ((c9 : Nat) : Int)), (0, ((d9 : Nat) : Int)), (0, s), (0, v), (0, b)]) (st' := [(0, qand v 255)]) (w' := w) (n' := 142) rfl ?_
            refine qG.br (P := qand v 255 = 0) (pc1 := 54) (pc2 := 52) (st1 := []) rfl (fun hm => ?_) (fun hm => ?_)
            · skip
              refine qG.blk 2 (pc' := 58) (ls' := [(2, 95), (0, ((c9 : Nat) : Int)), (0, ((d9 : Nat) : Int)), (0, s), (0, v), (0, b)]) (st' := [(2, w 95 1)]) (w' := w) (n' := 142) rfl ?_
              rw [show w 95 1 = 97 from zref hI rfl rfl]
              refine qG.blk 3 (pc' := 62) (ls' := [(2, 95), (0, ((c9 : Nat) : Int)), (0, ((d9 : Nat) : Int)), (0, s), (0, v), (0, b)]) (st' := [(0, wrp (10 * ((c9 : Nat) : Int))), (2, 97)]) (w' := w) (n' := 142) rfl ?_
              rw [show wrp (10 * ((c9 : Nat) : Int)) = ((10 * c9 : Nat) : Int) from by rw [wrp_id (by omega) (by omega)]; omega]
              refine qG.blk 2 (pc' := 64) (ls' := [(2, 95), (0, ((c9 : Nat) : Int)), (0, ((d9 : Nat) : Int)), (0, s), (0, v), (0, b)]) (st' := [(0, wrp (((10 * c9 : Nat) : Int) + ((d9 : Nat) : Int))), (2, 97)]) (w' := w) (n' := 142) rfl ?_
              rw [show wrp (((10 * c9 : Nat) : Int) + ((d9 : Nat) : Int)) = ((10 * c9 + d9 : Nat) : Int) from by rw [wrp_id (by omega) (by omega)]; omega]
              refine qG.blk 1 (pc' := 65) (ls' := [(2, 95), (0, ((c9 : Nat) : Int)), (0, ((d9 : Nat) : Int)), (0, s), (0, v), (0, b)]) (st' := [(0, s), (0, ((10 * c9 + d9 : Nat) : Int)), (2, 97)]) (w' := w) (n' := 142) rfl ?_
              refine qG.ar (P := 0 ≤ ((10 * c9 + d9 : Nat) : Int) ∧ ((10 * c9 + d9 : Nat) : Int) < ((30 : Nat) : Int)) (P2 := 0 < (97 : Int) ∧ (97 : Int) ≤ ((142 : Nat) : Int)) (pc' := 66) (ls' := [(2, 95), (0, ((c9 : Nat) : Int)), (0, ((d9 : Nat) : Int)), (0, s), (0, v), (0, b)]) (st' := []) (w' := (qup w 97 (10 * c9 + d9) s)) (n' := 142) rfl (by omega) (by decide) ?_
              refine qG.blk 2 (pc' := 70) (ls' := [(2, 95), (0, ((c9 : Nat) : Int)), (0, ((d9 : Nat) : Int)), (0, s), (0, v), (0, b)]) (st' := [(2, w 95 2)]) (w' := (qup w 97 (10 * c9 + d9) s)) (n' := 142) rfl ?_
              rw [show w 95 2 = 98 from zref hI rfl rfl]
              refine qG.blk 3 (pc' := 74) (ls' := [(2, 95), (0, ((c9 : Nat) : Int)), (0, ((d9 : Nat) : Int)), (0, s), (0, v), (0, b)]) (st' := [(0, wrp (10 * ((c9 : Nat) : Int))), (2, 98)]) (w' := (qup w 97 (10 * c9 + d9) s)) (n' := 142) rfl ?_
              rw [show wrp (10 * ((c9 : Nat) : Int)) = ((10 * c9 : Nat) : Int) from by rw [wrp_id (by omega) (by omega)]; omega]
              refine qG.blk 2 (pc' := 76) (ls' := [(2, 95), (0, ((c9 : Nat) : Int)), (0, ((d9 : Nat) : Int)), (0, s), (0, v), (0, b)]) (st' := [(0, wrp (((10 * c9 : Nat) : Int) + ((d9 : Nat) : Int))), (2, 98)]) (w' := (qup w 97 (10 * c9 + d9) s)) (n' := 142) rfl ?_
              rw [show wrp (((10 * c9 : Nat) : Int) + ((d9 : Nat) : Int)) = ((10 * c9 + d9 : Nat) : Int) from by rw [wrp_id (by omega) (by omega)]; omega]
              refine qG.blk 1 (pc' := 78) (ls' := [(2, 95), (0, ((c9 : Nat) : Int)), (0, ((d9 : Nat) : Int)), (0, s), (0, v), (0, b)]) (st' := [(0, v), (0, ((10 * c9 + d9 : Nat) : Int)), (2, 98)]) (w' := (qup w 97 (10 * c9 + d9) s)) (n' := 142) rfl ?_
              refine qG.ar (P := 0 ≤ ((10 * c9 + d9 : Nat) : Int) ∧ ((10 * c9 + d9 : Nat) : Int) < ((30 : Nat) : Int)) (P2 := 0 < (98 : Int) ∧ (98 : Int) ≤ ((142 : Nat) : Int)) (pc' := 79) (ls' := [(2, 95), (0, ((c9 : Nat) : Int)), (0, ((d9 : Nat) : Int)), (0, s), (0, v), (0, b)]) (st' := []) (w' := (qup (qup w 97 (10 * c9 + d9) s) 98 (10 * c9 + d9) v)) (n' := 142) rfl (by omega) (by decide) ?_
              refine qG.blk 2 (pc' := 83) (ls' := [(2, 95), (0, ((c9 : Nat) : Int)), (0, ((d9 : Nat) : Int)), (0, s), (0, v), (0, b)]) (st' := [(2, w 95 4)]) (w' := (qup (qup w 97 (10 * c9 + d9) s) 98 (10 * c9 + d9) v)) (n' := 142) rfl ?_
              rw [show w 95 4 = 100 from zref hI rfl rfl]
              refine qG.blk 3 (pc' := 87) (ls' := [(2, 95), (0, ((c9 : Nat) : Int)), (0, ((d9 : Nat) : Int)), (0, s), (0, v), (0, b)]) (st' := [(0, wrp (10 * ((c9 : Nat) : Int))), (2, 100)]) (w' := (qup (qup w 97 (10 * c9 + d9) s) 98 (10 * c9 + d9) v)) (n' := 142) rfl ?_
              rw [show wrp (10 * ((c9 : Nat) : Int)) = ((10 * c9 : Nat) : Int) from by rw [wrp_id (by omega) (by omega)]; omega]
              refine qG.blk 2 (pc' := 89) (ls' := [(2, 95), (0, ((c9 : Nat) : Int)), (0, ((d9 : Nat) : Int)), (0, s), (0, v), (0, b)]) (st' := [(0, wrp (((10 * c9 : Nat) : Int) + ((d9 : Nat) : Int))), (2, 100)]) (w' := (qup (qup w 97 (10 * c9 + d9) s) 98 (10 * c9 + d9) v)) (n' := 142) rfl ?_
              rw [show wrp (((10 * c9 : Nat) : Int) + ((d9 : Nat) : Int)) = ((10 * c9 + d9 : Nat) : Int) from by rw [wrp_id (by omega) (by omega)]; omega]
              refine qG.blk 1 (pc' := 91) (ls' := [(2, 95), (0, ((c9 : Nat) : Int)), (0, ((d9 : Nat) : Int)), (0, s), (0, v), (0, b)]) (st' := [(0, b), (0, ((10 * c9 + d9 : Nat) : Int)), (2, 100)]) (w' := (qup (qup w 97 (10 * c9 + d9) s) 98 (10 * c9 + d9) v)) (n' := 142) rfl ?_
              refine qG.ar (P := (0 ≤ ((10 * c9 + d9 : Nat) : Int) ∧ ((10 * c9 + d9 : Nat) : Int) < ((30 : Nat) : Int)) ∧ 0 ≤ b ∧ b ≤ 1) (P2 := 0 < (100 : Int) ∧ (100 : Int) ≤ ((142 : Nat) : Int)) (pc' := 92) (ls' := [(2, 95), (0, ((c9 : Nat) : Int)), (0, ((d9 : Nat) : Int)), (0, s), (0, v), (0, b)]) (st' := []) (w' := (qup (qup (qup w 97 (10 * c9 + d9) s) 98 (10 * c9 + d9) v) 100 (10 * c9 + d9) b)) (n' := 142) rfl (by exact ⟨⟨by omega, by omega⟩, hb⟩) (by decide) ?_
              refine qG.blk 1 (pc' := 93) (ls' := [(2, 95), (0, ((c9 : Nat) : Int)), (0, ((d9 : Nat) : Int)), (0, s), (0, v), (0, b)]) (st' := [(0, 1)]) (w' := (qup (qup (qup w 97 (10 * c9 + d9) s) 98 (10 * c9 + d9) v) 100 (10 * c9 + d9) b)) (n' := 142) rfl ?_
              refine qG.ret rfl (by first | rfl | exact decide_eq_true (by omega)) ?_
              subst hQ9
              exact (by unfold doorV; first | (rw [if_pos hc0]; done) | (rw [if_neg hc0, pdV_r (by rw [isIn_b] at hd0; omega)]; done) | (rw [if_neg hc0, pdV_r (by rw [isIn_b] at hs0; omega)]; done) | (rw [if_neg hc0]; refine congrArg (Prod.mk (0 : Nat)) ?_; rw [isIn_b] at hs0 hv0; by_cases q : s = 0; exact (pdV_0n q (fun z => hv0 z.1)).symm; exact (pdV_1n q (fun z => hv0 z.1)).symm) | (rw [if_neg hc0]; refine congrArg (Prod.mk (0 : Nat)) ?_; rw [isIn_b] at hs0 hv0; first | exact (pdV_0 (by omega) hz ⟨by omega, hm⟩).symm | exact (pdV_0n hz (fun z => hm z.2)).symm | exact (pdV_1 (by omega) hz (by omega) ⟨by omega, hm⟩).symm | exact (pdV_1n hz (fun z => hm z.2)).symm))
            · skip
              refine qG.blk 1 (pc' := 53) (ls' := [(2, 95), (0, ((c9 : Nat) : Int)), (0, ((d9 : Nat) : Int)), (0, s), (0, v), (0, b)]) (st' := [(0, 0)]) (w' := w) (n' := 142) rfl ?_
              refine qG.ret rfl (by first | rfl | exact decide_eq_true (by omega)) ?_
              subst hQ9
              exact (by unfold doorV; first | (rw [if_pos hc0]; done) | (rw [if_neg hc0, pdV_r (by rw [isIn_b] at hd0; omega)]; done) | (rw [if_neg hc0, pdV_r (by rw [isIn_b] at hs0; omega)]; done) | (rw [if_neg hc0]; refine congrArg (Prod.mk (0 : Nat)) ?_; rw [isIn_b] at hs0 hv0; by_cases q : s = 0; exact (pdV_0n q (fun z => hv0 z.1)).symm; exact (pdV_1n q (fun z => hv0 z.1)).symm) | (rw [if_neg hc0]; refine congrArg (Prod.mk (0 : Nat)) ?_; rw [isIn_b] at hs0 hv0; first | exact (pdV_0 (by omega) hz ⟨by omega, hm⟩).symm | exact (pdV_0n hz (fun z => hm z.2)).symm | exact (pdV_1 (by omega) hz (by omega) ⟨by omega, hm⟩).symm | exact (pdV_1n hz (fun z => hm z.2)).symm))
