/-! what proof answers on both sides -/
/-- what the doors of a set below n show, all open, each with its candle -/
def prW (w : qW) (c set : Nat) : Nat → Int
  | 0 => 0
  | d + 1 => if set.testBit d = true then qor (prW w c set d) (thrF w c d 1) else prW w c set d
theorem prW_in {w : qW} {c set : Nat} (hI : yInv zgf zga zra zSp w) (hE : JE w) (hc : c < 3) : ∀ n, n ≤ 10 → 0 ≤ prW w c set n ∧ prW w c set n ≤ 65535
  | 0, _ => by unfold prW; decide
  | n + 1, hn => by
    have ih := prW_in (set := set) hI hE hc n (by omega)
    unfold prW
    split
    · exact qor_in ih (thrF_in hI hE hc (by omega))
    · exact ih
theorem qor_c2 (a b : Int) : qor a b = qor b a := by unfold qor; rw [Int32.or_comm]
theorem qor_a3 (a b c : Int) : qor (qor a b) c = qor (qor a c) b := by
  unfold qor
  rw [Int32.ofInt_toInt, Int32.ofInt_toInt, Int32.or_assoc, Int32.or_comm (Int32.ofInt b), ← Int32.or_assoc]
theorem qor_0l {a : Int} (h : -2147483648 ≤ a ∧ a ≤ 2147483647) : qor 0 a = a := by
  unfold qor
  rw [show Int32.ofInt 0 = 0 from rfl, Int32.zero_or, Int32.toInt_ofInt_of_le (by omega) (by omega)]
theorem prW_lo {w : qW} {c s s2 r : Nat} (h : ∀ d, d < 10 → d ≠ r → s2.testBit d = s.testBit d) : ∀ n, n ≤ r → n ≤ 10 → prW w c s n = prW w c s2 n
  | 0, _, _ => rfl
  | n + 1, h1, h2 => by
    unfold prW
    rw [prW_lo h n (by omega) (by omega), h n (by omega) (by omega)]
theorem prW_hi {w : qW} {c s s2 r : Nat} (h : ∀ d, d < 10 → d ≠ r → s2.testBit d = s.testBit d) (hr : s.testBit r = true) (hr2 : s2.testBit r = false) : ∀ n, r < n → n ≤ 10 → prW w c s n = qor (prW w c s2 n) (thrF w c r 1)
  | 0, h1, _ => by omega
  | n + 1, h1, h2 => by
    unfold prW
    by_cases e : r = n
    · subst e
      rw [if_pos hr, if_neg (by rw [hr2]; exact fun z => by cases z), prW_lo h r (Nat.le_refl _) (by omega)]
    · rw [prW_hi h hr hr2 n (by omega) (by omega), h n (by omega) (fun z => e z.symm)]
      split
      · rw [qor_a3]
      · rfl
/-- the lowest door of a set, and the set without it -/
def lowC (s : Nat) : Bool := let r := (ntzF (s : Int)).toNat; (decide (ntzF (s : Int) = (r : Int)) && Nat.blt r 10) && (s.testBit r && ((!(s &&& (s - 1)).testBit r && Nat.blt (s &&& (s - 1)) s) && (List.range 10).all (fun d => Nat.beq d r || ((s &&& (s - 1)).testBit d == s.testBit d))))
theorem low_all : ∀ s : Nat, s < 1023 → lowC (s + 1) = true := by decide +kernel
theorem low_0 : ntzF 0 = 32 := by decide +kernel
theorem low_ex {s : Nat} (h0 : 0 < s) (h1 : s < 1024) : ∃ r : Nat, ntzF (s : Int) = (r : Int) ∧ r < 10 ∧ s.testBit r = true ∧ (s &&& (s - 1)).testBit r = false ∧ (s &&& (s - 1)) < s ∧ ∀ d : Nat, d < 10 → d ≠ r → (s &&& (s - 1)).testBit d = s.testBit d := by
  have h := low_all (s - 1) (by omega)
  rw [show s - 1 + 1 = s by omega] at h
  unfold lowC at h
  simp only [Bool.and_eq_true, decide_eq_true_eq, Bool.not_eq_true', Nat.blt_eq] at h
  obtain ⟨⟨a, b⟩, e, ⟨f, g⟩, k⟩ := h
  refine ⟨_, a, b, e, f, g, fun d hd hne => ?_⟩
  have q := List.all_eq_true.mp k d (List.mem_range.mpr hd)
  rw [Bool.or_eq_true] at q
  rcases q with q | q
  · exact absurd (Nat.eq_of_beq_eq_true q) hne
  · exact eq_of_beq q
theorem prW_st {w : qW} {c s r : Nat} (hr : r < 10) (h1 : s.testBit r = true) (h2 : (s &&& (s - 1)).testBit r = false) (h3 : ∀ d, d < 10 → d ≠ r → (s &&& (s - 1)).testBit d = s.testBit d) : prW w c s 10 = qor (prW w c (s &&& (s - 1)) 10) (shD w c r 1) := by
  unfold shD
  rw [if_pos hr]
  exact prW_hi h3 h1 h2 10 hr (Nat.le_refl _)
/-- no pose without a space seen -/
def alF (L : List Nat) (v : Int) : Nat → Bool
  | 0 => true
  | i + 1 => alF L v i && !decide (qand ((L.getD i 0 : Nat) : Int) v = 0)
theorem alF_n {L : List Nat} {v : Int} {i : Nat} (h : qand ((L.getD i 0 : Nat) : Int) v = 0) : ∀ m, i < m → alF L v m = false
  | 0, hm => by omega
  | m + 1, hm => by
    unfold alF
    by_cases e : i = m
    · subst e; rw [decide_eq_true h]; exact Bool.and_false _
    · rw [alF_n h m (by omega), Bool.false_and]
theorem alF_y {L : List Nat} {v : Int} {i : Nat} (h1 : alF L v i = true) (h : ¬ qand ((L.getD i 0 : Nat) : Int) v = 0) : alF L v (i + 1) = true := by
  unfold alF
  rw [h1, decide_eq_false h]; rfl
/-- the best set below n -/
def bpF (w : qW) (c k R : Nat) : Nat → Int
  | 0 => -1
  | n + 1 => if n &&& R = 0 ∧ (bpF w c k R n = -1 ∨ bitsF (n : Int) 16 < bitsF (bpF w c k R n) 16) ∧ alF (fpL w c k 65536) (prW w c n 10) (fpL w c k 65536).length = true then (n : Int) else bpF w c k R n
theorem bpF_in {w : qW} {c k R : Nat} : ∀ n, bpF w c k R n = -1 ∨ ∃ m : Nat, m < n ∧ bpF w c k R n = (m : Int)
  | 0 => .inl rfl
  | n + 1 => by
    unfold bpF
    split
    · exact .inr ⟨n, by omega, rfl⟩
    · rcases bpF_in n with h | ⟨m, h1, h2⟩
      · exact .inl h
      · exact .inr ⟨m, by omega, h2⟩
theorem bits_10 : ∀ s : Nat, s < 1024 → decide (bitsF (s : Int) 16 ≤ 10) = true := by decide +kernel
def pfV (w : qW) (c s k : Int) : Int := if isInV c 0 2 = 0 then -1 else if isInV s 1 4 = 0 then -1 else if isInV k 0 1023 = 0 then -1 else bpF w c.toNat s.toNat k.toNat 1024
theorem pfV_c {w : qW} {c s k : Int} (h : isInV c 0 2 = 0) : pfV w c s k = -1 := if_pos h
theorem pfV_s {w : qW} {c s k : Int} (h : isInV s 1 4 = 0) : pfV w c s k = -1 := by
  unfold pfV
  by_cases q : isInV c 0 2 = 0
  · rw [if_pos q]
  · rw [if_neg q, if_pos h]
theorem pfV_k {w : qW} {c s k : Int} (h : isInV k 0 1023 = 0) : pfV w c s k = -1 := by
  unfold pfV
  by_cases q : isInV c 0 2 = 0
  · rw [if_pos q]
  · rw [if_neg q]
    by_cases q2 : isInV s 1 4 = 0
    · rw [if_pos q2]
    · rw [if_neg q2, if_pos h]
theorem pfV_y {w : qW} {c s k : Nat} (h : ¬ isInV (c : Int) 0 2 = 0) (h2 : ¬ isInV (s : Int) 1 4 = 0) (h3 : ¬ isInV (k : Int) 0 1023 = 0) : pfV w (c : Int) (s : Int) (k : Int) = bpF w c s k 1024 := by
  unfold pfV
  rw [if_neg h, if_neg h2, if_neg h3, Int.toNat_natCast, Int.toNat_natCast, Int.toNat_natCast]
theorem low_w {w w9 : qW} {c s : Nat} (hs : s < 1024) (hrow : ∀ j, j < s ∨ j = 0 → w9 40 j = prW w c j 10) : ∃ r i2 : Nat, ntzF ((s : Nat) : Int) = (r : Int) ∧ qand ((s : Nat) : Int) (((s : Nat) : Int) - 1) = (i2 : Int) ∧ i2 < 1024 ∧ w9 40 i2 = prW w c i2 10 ∧ prW w c s 10 = qor (prW w c i2 10) (shD w c r 1) := by
  by_cases h0 : s = 0
  · subst h0
    refine ⟨32, 0, low_0, by decide, by decide, hrow 0 (.inr rfl), ?_⟩
    have e : ∀ n, prW w c 0 n = 0 := fun n => by
      induction n with
      | zero => rfl
      | succ n ih => unfold prW; rw [Nat.zero_testBit, if_neg (fun z => by cases z)]; exact ih
    unfold shD
    rw [if_neg (by decide), e]
    decide
  · obtain ⟨r, a1, a2, a3, a4, a5, a6⟩ := low_ex (s := s) (by omega) hs
    refine ⟨r, s &&& (s - 1), a1, ?_, by omega, hrow _ (.inl a5), prW_st a2 a3 a4 a6⟩
    rw [show ((s : Nat) : Int) - 1 = ((s - 1 : Nat) : Int) by omega, qand_n (by omega) (by omega)]
theorem row_up {w w9 : qW} {c s : Nat} (hrow : ∀ j, j < s ∨ j = 0 → w9 40 j = prW w c j 10) : ∀ j, j < s + 1 ∨ j = 0 → qup w9 40 s (prW w c s 10) 40 j = prW w c j 10 := fun j hj => by
  by_cases e : j = s
  · rw [e, qup_k]
  · rw [qup_j e]; exact hrow j (by omega)
theorem thr_cg {w w1 : qW} (h96 : ∀ i, w1 96 i = w 96 i) (h97 : ∀ i, w1 97 i = w 97 i) (h98 : ∀ i, w1 98 i = w 98 i) (h100 : ∀ i, w1 100 i = w 100 i) (c d : Nat) (l : Int) : thrF w1 c d l = thrF w c d l := by
  unfold thrF
  rw [h96, h97, h98, h100]
theorem prW_cg {w w1 : qW} (h96 : ∀ i, w1 96 i = w 96 i) (h97 : ∀ i, w1 97 i = w 97 i) (h98 : ∀ i, w1 98 i = w 98 i) (h100 : ∀ i, w1 100 i = w 100 i) (c s : Nat) : ∀ n, prW w1 c s n = prW w c s n
  | 0 => rfl
  | n + 1 => by
    unfold prW
    rw [prW_cg h96 h97 h98 h100 c s n, thr_cg h96 h97 h98 h100]
theorem bpF_cg {w w1 : qW} (h96 : ∀ i, w1 96 i = w 96 i) (h97 : ∀ i, w1 97 i = w 97 i) (h98 : ∀ i, w1 98 i = w 98 i) (h99 : ∀ i, w1 99 i = w 99 i) (h100 : ∀ i, w1 100 i = w 100 i) (c k R : Nat) : ∀ n, bpF w1 c k R n = bpF w c k R n
  | 0 => rfl
  | n + 1 => by
    unfold bpF
    rw [bpF_cg h96 h97 h98 h99 h100 c k R n, prW_cg h96 h97 h98 h100, fpL_cg h96 h99]
theorem pfV_cg {w w1 : qW} (h96 : ∀ i, w1 96 i = w 96 i) (h97 : ∀ i, w1 97 i = w 97 i) (h98 : ∀ i, w1 98 i = w 98 i) (h99 : ∀ i, w1 99 i = w 99 i) (h100 : ∀ i, w1 100 i = w 100 i) (c s k : Int) : pfV w1 c s k = pfV w c s k := by
  unfold pfV
  rw [bpF_cg h96 h97 h98 h99 h100]
theorem hbit_xm {x : Int} {s : Nat} (hs : s < 16) : hbit (qxor x (-1)) s = !hbit x s := by
  rw [hbit_b (by omega), hbit_b (by omega)]
  unfold qxor
  rw [Int32.ofInt_toInt, Int32.toBitVec_xor, BitVec.getLsbD_xor]
  have h1 : (Int32.ofInt (-1)).toBitVec.getLsbD s = true := by
    have : ∀ s : Nat, s < 16 → (Int32.ofInt (-1)).toBitVec.getLsbD s = true := by decide +kernel
    exact this s hs
  rw [h1, Bool.xor_true]
theorem ref_eq {n R : Nat} (hn : n < 1024) (hR : R < 1024) : qand (n : Int) (qxor (qand 1023 (qxor (R : Int) (-1))) (-1)) = ((n &&& R : Nat) : Int) := by
  rw [← qand_n (a := n) (b := R) (by omega) (by omega)]
  have hl : ∀ y, 0 ≤ qand (n : Int) y ∧ qand (n : Int) y ≤ 65535 := fun y => by
    rw [qand_c]
    have := qand_hi (x := y) (y := (n : Int)) (d := 65535) (by omega) (by omega) (by decide)
    exact ⟨this.1, this.2⟩
  refine hb_ext (hl _) (hl _) (fun s hs => ?_)
  rw [hbit_and (by omega), hbit_and (by omega), hbit_xm hs, hbit_and (by omega), hbit_xm hs, hb_t (by omega) hs, show (1023 : Int) = ((1023 : Nat) : Int) from rfl, hb_t (by omega) hs]
  by_cases h : s < 10
  · have : (1023 : Nat).testBit s = true := by
      have q : ∀ s : Nat, s < 10 → (1023 : Nat).testBit s = true := by decide
      exact q s h
    rw [this, Bool.true_and, Bool.not_not]
  · have : n.testBit s = false := Nat.testBit_lt_two_pow (Nat.lt_of_lt_of_le (show n < 2 ^ 10 by omega) (Nat.pow_le_pow_right (by decide) (by omega)))
    rw [this, Bool.false_and, Bool.false_and]
theorem all_in {R : Nat} (hR : R < 1024) : ∃ A : Nat, qand 1023 (qxor (R : Int) (-1)) = (A : Int) ∧ A < 1024 := by
  have h := qand_hi (x := qxor (R : Int) (-1)) (y := 1023) (d := 1023) (by decide) (by decide) (by decide)
  rw [qand_c] at h
  have h0 : (0 : Int) ≤ qand 1023 (qxor (R : Int) (-1)) := h.1
  have h1 : qand 1023 (qxor (R : Int) (-1)) ≤ 1023 := h.2
  exact ⟨(qand 1023 (qxor (R : Int) (-1))).toNat, by omega, by omega⟩
theorem K_allSeen {d : Nat} (hd : 0 ≤ d) (L : List Nat) (hL8 : L.length ≤ 180) (v : Int) (w : qW) (hI : yInv zgf zga zra zSp w) (hL : w 24 3 = ((L.length : Nat) : Int)) (hS9 : ∀ j, j < L.length → w 25 j = ((L.getD j 0 : Nat) : Int)) : qG none d 104 0 [(2, 24), (0, v), (9, 0)] [] w 142 (fun (r : qV) (w1 : qW) (n1 : Nat) => r = (0, if alF L v L.length = true then 1 else 0) ∧ w1 = w ∧ n1 = 142) := by
  generalize hQ9 : (fun (r : qV) (w1 : qW) (n1 : Nat) => r = (0, if alF L v L.length = true then 1 else 0) ∧ w1 = w ∧ n1 = 142) = Q9
  obtain ⟨N1, hN1⟩ : ∃ N : Int, N = 180 := ⟨_, rfl⟩
  refine qG.blk 2 (pc' := 2) (ls' := [(2, 24), (0, v), (0, 0)]) (st' := []) (w' := w) (n' := 142) rfl ?_
  have L2 : ∀ (m9 : Nat) (i : Nat), L.length - i = m9 → (i ≤ L.length ∧ alF L v i = true) → qG none d 104 2 [(2, 24), (0, v), (0, ((i : Nat) : Int))] [] w 142 Q9 := by
    intro m9
    induction m9 using Nat.strongRecOn with
    | ind m9 ih2 =>
    intro i hm2 hI2
    refine qG.blk 3 (pc' := 7) (ls' := [(2, 24), (0, v), (0, ((i : Nat) : Int))]) (st' := [(0, w 24 3), (0, ((i : Nat) : Int))]) (w' := w) (n' := 142) rfl ?_
    rw [show w 24 3 = ((L.length : Nat) : Int) from hL]
    refine qG.br (P := ((i : Nat) : Int) < ((L.length : Nat) : Int)) (pc1 := 10) (pc2 := 36) (st1 := []) rfl (fun h1 => ?_) (fun h1 => ?_)
    · skip
      refine qG.blk 2 (pc' := 14) (ls' := [(2, 24), (0, v), (0, ((i : Nat) : Int))]) (st' := [(0, 180), (0, ((i : Nat) : Int))]) (w' := w) (n' := 142) rfl ?_
      rw [show (180 : Int) = N1 from hN1.symm]
      refine qG.br (P := ((i : Nat) : Int) < N1) (pc1 := 17) (pc2 := 36) (st1 := []) rfl (fun h14 => ?_) (fun h14 => ?_)
      · skip
        refine qG.blk 2 (pc' := 21) (ls' := [(2, 24), (0, v), (0, ((i : Nat) : Int))]) (st' := [(2, w 24 4)]) (w' := w) (n' := 142) rfl ?_
        rw [show w 24 4 = 25 from zref hI rfl rfl]
        refine qG.blk 1 (pc' := 22) (ls' := [(2, 24), (0, v), (0, ((i : Nat) : Int))]) (st' := [(0, ((i : Nat) : Int)), (2, 25)]) (w' := w) (n' := 142) rfl ?_
        refine qG.ild (m := 180) rfl rfl (by omega) (by decide) ?_
        show qG none d 104 23 [(2, 24), (0, v), (0, ((i : Nat) : Int))] [(0, w 25 i)] w 142 Q9
        rw [show w 25 i = ((L.getD i 0 : Nat) : Int) from hS9 i (by omega)]
        refine qG.blk 2 (pc' := 25) (ls' := [(2, 24), (0, v), (0, ((i : Nat) : Int))]) (st' := [(0, qand ((L.getD i 0 : Nat) : Int) v)]) (w' := w) (n' := 142) rfl ?_
        refine qG.br (P := qand ((L.getD i 0 : Nat) : Int) v = 0) (pc1 := 28) (pc2 := 30) (st1 := []) rfl (fun h25 => ?_) (fun h25 => ?_)
        · skip
          refine qG.blk 1 (pc' := 29) (ls' := [(2, 24), (0, v), (0, ((i : Nat) : Int))]) (st' := [(0, 0)]) (w' := w) (n' := 142) rfl ?_
          refine qG.ret rfl (by first | rfl | exact decide_eq_true (by omega)) ?_
          subst hQ9
          first | exact ⟨congrArg (Prod.mk 0) (if_neg (by rw [alF_n h25 _ (by omega)]; exact fun z => by cases z)).symm, rfl, rfl⟩ | exact ⟨congrArg (Prod.mk 0) (if_pos (by rw [show L.length = i by omega]; exact hI2.2)).symm, rfl, rfl⟩
        · skip
          refine qG.blk 1 (pc' := 33) (ls' := [(2, 24), (0, v), (0, wrp (((i : Nat) : Int) + 1))]) (st' := []) (w' := w) (n' := 142) rfl ?_
          rw [show wrp (((i : Nat) : Int) + 1) = ((i + 1 : Nat) : Int) from wrp_id (by omega) (by omega)]
          refine qG.blk 1 (pc' := 2) (ls' := [(2, 24), (0, v), (0, ((i + 1 : Nat) : Int))]) (st' := []) (w' := w) (n' := 142) rfl ?_
          exact ih2 _ (by omega) (i + 1) rfl (⟨by omega, alF_y hI2.2 h25⟩)
      · exfalso; omega
    · skip
      refine qG.blk 1 (pc' := 37) (ls' := [(2, 24), (0, v), (0, ((i : Nat) : Int))]) (st' := [(0, 1)]) (w' := w) (n' := 142) rfl ?_
      refine qG.ret rfl (by first | rfl | exact decide_eq_true (by omega)) ?_
      subst hQ9
      first | exact ⟨congrArg (Prod.mk 0) (if_neg (by rw [alF_n h25 _ (by omega)]; exact fun z => by cases z)).symm, rfl, rfl⟩ | exact ⟨congrArg (Prod.mk 0) (if_pos (by rw [show L.length = i by omega]; exact hI2.2)).symm, rfl, rfl⟩
  exact L2 _ (0) rfl (⟨Nat.zero_le _, rfl⟩)
theorem K_findProof64 {d : Nat} (hd : 8 ≤ d) (k : Nat) (hk1 : 1 ≤ k) (hk2 : k ≤ 4) (R : Nat) (hR : R < 1024) (A : Nat) (hA : qand 1023 (qxor ((R : Nat) : Int) (-1)) = ((A : Nat) : Int)) (n : Nat) (w : qW) (hI : yInv zgf zga zra zSp w) (hJ : J9 n w) (hE : JE w) : qG none d 48 0 [(2, 23), (2, 64), (0, ((k : Nat) : Int)), (0, ((A : Nat) : Int)), (9, 0), (9, 0), (9, 0), (9, 0), (9, 0)] [] w 142 (fun (r : qV) (_ : qW) (n1 : Nat) => r = (0, bpF w 0 k R 1024) ∧ n1 = 142) := by
  generalize hQ9 : (fun (r : qV) (_ : qW) (n1 : Nat) => r = (0, bpF w 0 k R 1024) ∧ n1 = 142) = Q9
  obtain ⟨N3, hN3⟩ : ∃ N : Int, N = 1023 := ⟨_, rfl⟩
  obtain ⟨d, rfl⟩ : ∃ d9, d = d9 + 1 := ⟨d - 1, by omega⟩
  refine qG.blk 2 (pc' := 4) (ls' := [(2, 23), (2, 64), (0, ((k : Nat) : Int)), (0, ((A : Nat) : Int)), (9, 0), (9, 0), (9, 0), (9, 0), (9, 0)]) (st' := [(2, w 23 0)]) (w' := w) (n' := 142) rfl ?_
  rw [show w 23 0 = 24 from zref hI rfl rfl]
  refine qG.blk 2 (pc' := 6) (ls' := [(2, 23), (2, 64), (0, ((k : Nat) : Int)), (0, ((A : Nat) : Int)), (9, 0), (9, 0), (9, 0), (9, 0), (9, 0)]) (st' := [(0, ((k : Nat) : Int)), (2, 64), (2, 24)]) (w' := w) (n' := 142) rfl ?_
  refine qG.call (t := 94) (na := 3) (sk := 1) (md := 1) (ls1 := [(2, 24), (2, 64), (0, ((k : Nat) : Int))]) (r1 := []) rfl rfl rfl rfl rfl (qG.and (T_findFor_64 (w0 := w) d [(2, 24), (2, 64), (0, ((k : Nat) : Int))] w (show C_findFor_64.2.1 ≤ d by exact Nat.le_trans (by decide) (show 7 ≤ d by omega)) ⟨⟨rfl, by decide, by decide⟩, ⟨rfl, by decide, by decide⟩, ⟨rfl, by show (1 : Int) ≤ _; omega, by show _ ≤ (4 : Int); omega⟩, trivial⟩ hI (fun p hp => by cases hp) (fun e he => by cases he)) (K_findForC64 (by omega) k hk1 hk2 n w hI hJ)) ?_
  rintro ⟨_, _⟩ w1 _ ⟨⟨-, h1I, -, -, -⟩, hr1, rfl, hF⟩
  obtain ⟨rfl, rfl⟩ := Prod.mk.inj hr1
  have eF : ∀ q j, q ≠ 24 → q ≠ 25 → q ≠ 26 → w1 q j = w q j := fun q j a b e => hF.2.2.2.2 q j (fun z => a z.1) b e
  have hT := hF.2.2.2.1
  rw [show TX 65536 w1 0 k = (w1 24 3 = (((fpL w1 0 k 65536).length : Nat) : Int) ∧ ∀ j, j < (fpL w1 0 k 65536).length → w1 25 j = (((fpL w1 0 k 65536).getD j 0 : Nat) : Int)) from rfl, fpL_cg (fun i => eF 96 i (by decide) (by decide) (by decide)) (fun i => eF 99 i (by decide) (by decide) (by decide))] at hT
  obtain ⟨LL, hLL⟩ : ∃ l, l = fpL w 0 k 65536 := ⟨_, rfl⟩
  rw [← hLL] at hT
  have hE1 : JE w1 := fun c2 d2 a b => by rw [eF (66 + 5 * c2) d2 (by omega) (by omega) (by omega), eF (67 + 5 * c2) d2 (by omega) (by omega) (by omega), eF (68 + 5 * c2) d2 (by omega) (by omega) (by omega), eF 97 _ (by decide) (by decide) (by decide), eF 98 _ (by decide) (by decide) (by decide), eF 100 _ (by decide) (by decide) (by decide)]; exact hE c2 d2 a b
  have hK1 : w1 64 0 = w1 96 0 := by rw [eF 64 0 (by decide) (by decide) (by decide), eF 96 0 (by decide) (by decide) (by decide)]; exact hJ.1 0 (by decide)
  have hpr : ∀ s m, prW w1 0 s m = prW w 0 s m := fun s m => prW_cg (fun i => eF 96 i (by decide) (by decide) (by decide)) (fun i => eF 97 i (by decide) (by decide) (by decide)) (fun i => eF 98 i (by decide) (by decide) (by decide)) (fun i => eF 100 i (by decide) (by decide) (by decide)) 0 s m
  have hth : ∀ dd, shD w1 0 dd 1 = shD w 0 dd 1 := fun dd => by unfold shD; rw [thr_cg (fun i => eF 96 i (by decide) (by decide) (by decide)) (fun i => eF 97 i (by decide) (by decide) (by decide)) (fun i => eF 98 i (by decide) (by decide) (by decide)) (fun i => eF 100 i (by decide) (by decide) (by decide))]
  have hL180 : LL.length ≤ 180 := by
      have q := h1I.1 24 3 (0, 180) rfl rfl
      have q2 : w1 24 3 ≤ (180 : Int) := q.2
      rw [hT.1] at q2; omega
  show qG none (d + 1) 48 9 [(2, 23), (2, 64), (0, ((k : Nat) : Int)), (0, ((A : Nat) : Int)), (9, 0), (9, 0), (9, 0), (9, 0), (9, 0)] [] w1 142 Q9
  refine qG.blk 6 (pc' := 20) (ls' := [(2, 23), (2, 64), (0, ((k : Nat) : Int)), (0, ((A : Nat) : Int)), (0, (-1)), (0, 11), (9, 0), (9, 0), (9, 0)]) (st' := [(2, w1 23 15)]) (w' := w1) (n' := 142) rfl ?_
  rw [show w1 23 15 = 40 from zref h1I rfl rfl]
  refine qG.blk 2 (pc' := 22) (ls' := [(2, 23), (2, 64), (0, ((k : Nat) : Int)), (0, ((A : Nat) : Int)), (0, (-1)), (0, 11), (9, 0), (9, 0), (9, 0)]) (st' := [(0, 0), (0, 0), (2, 40)]) (w' := w1) (n' := 142) rfl ?_
  refine qG.ist (m := 1024) rfl rfl (by omega) (by decide) ?_
  show qG none (d + 1) 48 23 [(2, 23), (2, 64), (0, ((k : Nat) : Int)), (0, ((A : Nat) : Int)), (0, (-1)), (0, 11), (9, 0), (9, 0), (9, 0)] [] (qup w1 40 0 0) 142 Q9
  refine qG.blk 2 (pc' := 26) (ls' := [(2, 23), (2, 64), (0, ((k : Nat) : Int)), (0, ((A : Nat) : Int)), (0, (-1)), (0, 11), (0, 0), (9, 0), (9, 0)]) (st' := []) (w' := (qup w1 40 0 0)) (n' := 142) rfl ?_
  have L26 : ∀ (m9 : Nat) (s : Nat) (w9 : qW) (b9 f9 : Int) (x7 x8 : qV), 1024 - s = m9 → (s ≤ 1024 ∧ (∀ q j, q ≠ 40 → w9 q j = w1 q j) ∧ (∀ j, j < s ∨ j = 0 → w9 40 j = prW w 0 j 10) ∧ b9 = bpF w 0 k R s ∧ f9 = (if b9 = -1 then 11 else bitsF b9 16) ∧ yInv zgf zga zra zSp w9) → qG none (d + 1) 48 26 [(2, 23), (2, 64), (0, ((k : Nat) : Int)), (0, ((A : Nat) : Int)), (0, b9), (0, f9), (0, ((s : Nat) : Int)), x7, x8] [] w9 142 Q9 := by
    intro m9
    induction m9 using Nat.strongRecOn with
    | ind m9 ih26 =>
    intro s w9 b9 f9 x7 x8 hm26 hI26
    obtain ⟨hs1, hfr, hrow, hb9, hf9, hI9⟩ := hI26
    refine qG.blk 2 (pc' := 31) (ls' := [(2, 23), (2, 64), (0, ((k : Nat) : Int)), (0, ((A : Nat) : Int)), (0, b9), (0, f9), (0, ((s : Nat) : Int)), x7, x8]) (st' := [(0, 1023), (0, ((s : Nat) : Int))]) (w' := w9) (n' := 142) rfl ?_
    rw [show (1023 : Int) = N3 from hN3.symm]
    refine qG.br (P := N3 < ((s : Nat) : Int)) (pc1 := 122) (pc2 := 34) (st1 := []) rfl (fun h31 => ?_) (fun h31 => ?_)
    · skip
      rw [hN3] at h31
      refine qG.blk 1 (pc' := 124) (ls' := [(2, 23), (2, 64), (0, ((k : Nat) : Int)), (0, ((A : Nat) : Int)), (0, b9), (0, f9), (0, ((s : Nat) : Int)), x7, x8]) (st' := [(0, b9)]) (w' := w9) (n' := 142) rfl ?_
      refine qG.ret rfl rfl ?_
      subst hQ9
      exact ⟨by rw [hb9, show s = 1024 by omega], rfl⟩
    · skip
      rw [hN3] at h31
      have hE9 : JE w9 := fun c2 d2 a b => by rw [hfr (66 + 5 * c2) d2 (by omega), hfr (67 + 5 * c2) d2 (by omega), hfr (68 + 5 * c2) d2 (by omega), hfr 97 _ (by decide), hfr 98 _ (by decide), hfr 100 _ (by decide)]; exact hE1 c2 d2 a b
      have hth9 : ∀ dd, shD w9 0 dd 1 = shD w 0 dd 1 := fun dd => by rw [← hth]; unfold shD; rw [thr_cg (fun i => hfr 96 i (by decide)) (fun i => hfr 97 i (by decide)) (fun i => hfr 98 i (by decide)) (fun i => hfr 100 i (by decide))]
      refine qG.blk 1 (pc' := 36) (ls' := [(2, 23), (2, 64), (0, ((k : Nat) : Int)), (0, ((A : Nat) : Int)), (0, b9), (0, f9), (0, ((s : Nat) : Int)), x7, x8]) (st' := [(0, ((s : Nat) : Int))]) (w' := w9) (n' := 142) rfl ?_
      refine qG.call (t := 301) (na := 1) (sk := 0) (md := 0) (ls1 := [(0, ((s : Nat) : Int)), (9, 0)]) (r1 := []) rfl rfl rfl rfl rfl (K_nTZ (Nat.zero_le _) ((s : Nat) : Int) w9) ?_
      rintro _ w7 _ ⟨rfl, hw7, rfl⟩
      rw [hw7]
      obtain ⟨r, i2, hr1, hi2, hi3, hi4, hi5⟩ := low_w (s := s) (by omega) hrow
      rw [hr1]
      show qG none (d + 1) 48 39 [(2, 23), (2, 64), (0, ((k : Nat) : Int)), (0, ((A : Nat) : Int)), (0, b9), (0, f9), (0, ((s : Nat) : Int)), x7, x8] [(0, ((r : Nat) : Int))] w9 142 Q9
      refine qG.blk 3 (pc' := 45) (ls' := [(2, 23), (2, 64), (0, ((k : Nat) : Int)), (0, ((A : Nat) : Int)), (0, b9), (0, f9), (0, ((s : Nat) : Int)), (0, ((r : Nat) : Int)), x8]) (st' := [(2, w9 23 15)]) (w' := w9) (n' := 142) rfl ?_
      rw [show w9 23 15 = 40 from (hfr 23 15 (by decide)).trans (zref h1I rfl rfl)]
      refine qG.blk 3 (pc' := 51) (ls' := [(2, 23), (2, 64), (0, ((k : Nat) : Int)), (0, ((A : Nat) : Int)), (0, b9), (0, f9), (0, ((s : Nat) : Int)), (0, ((r : Nat) : Int)), x8]) (st' := [(2, w9 23 15), (0, ((s : Nat) : Int)), (2, 40)]) (w' := w9) (n' := 142) rfl ?_
      rw [show w9 23 15 = 40 from (hfr 23 15 (by decide)).trans (zref h1I rfl rfl)]
      refine qG.blk 4 (pc' := 57) (ls' := [(2, 23), (2, 64), (0, ((k : Nat) : Int)), (0, ((A : Nat) : Int)), (0, b9), (0, f9), (0, ((s : Nat) : Int)), (0, ((r : Nat) : Int)), x8]) (st' := [(0, wrp (((s : Nat) : Int) - 1)), (0, ((s : Nat) : Int)), (2, 40), (0, ((s : Nat) : Int)), (2, 40)]) (w' := w9) (n' := 142) rfl ?_
      rw [show wrp (((s : Nat) : Int) - 1) = ((s : Nat) : Int) - 1 from wrp_id (by omega) (by omega)]
      refine qG.blk 1 (pc' := 58) (ls' := [(2, 23), (2, 64), (0, ((k : Nat) : Int)), (0, ((A : Nat) : Int)), (0, b9), (0, f9), (0, ((s : Nat) : Int)), (0, ((r : Nat) : Int)), x8]) (st' := [(0, qand ((s : Nat) : Int) (((s : Nat) : Int) - 1)), (2, 40), (0, ((s : Nat) : Int)), (2, 40)]) (w' := w9) (n' := 142) rfl ?_
      rw [show qand ((s : Nat) : Int) (((s : Nat) : Int) - 1) = ((i2 : Nat) : Int) from hi2]
      refine qG.ild (m := 1024) rfl rfl (by omega) (by decide) ?_
      show qG none (d + 1) 48 59 [(2, 23), (2, 64), (0, ((k : Nat) : Int)), (0, ((A : Nat) : Int)), (0, b9), (0, f9), (0, ((s : Nat) : Int)), (0, ((r : Nat) : Int)), x8] [(0, w9 40 i2), (0, ((s : Nat) : Int)), (2, 40)] w9 142 Q9
      rw [show w9 40 i2 = prW w 0 i2 10 from hi4]
      refine qG.blk 3 (pc' := 63) (ls' := [(2, 23), (2, 64), (0, ((k : Nat) : Int)), (0, ((A : Nat) : Int)), (0, b9), (0, f9), (0, ((s : Nat) : Int)), (0, ((r : Nat) : Int)), x8]) (st' := [(0, 1), (0, ((r : Nat) : Int)), (2, 64), (0, prW w 0 i2 10), (0, ((s : Nat) : Int)), (2, 40)]) (w' := w9) (n' := 142) rfl ?_
      refine qG.call (t := 27) (na := 3) (sk := 1) (md := 1) (ls1 := [(2, 64), (0, ((r : Nat) : Int)), (0, 1), (9, 0), (9, 0)]) (r1 := [(0, prW w 0 i2 10), (0, ((s : Nat) : Int)), (2, 40)]) rfl rfl rfl rfl rfl (K_shown64 (Nat.zero_le _) r 1 w9 hI9 ((hfr 64 0 (by decide)).trans (hK1.trans (hfr 96 0 (by decide)).symm)) hE9) ?_
      rintro _ w7 _ ⟨rfl, hw7, rfl⟩
      rw [hw7, hth9]
      show qG none (d + 1) 48 66 [(2, 23), (2, 64), (0, ((k : Nat) : Int)), (0, ((A : Nat) : Int)), (0, b9), (0, f9), (0, ((s : Nat) : Int)), (0, ((r : Nat) : Int)), x8] [(0, shD w 0 r 1), (0, prW w 0 i2 10), (0, ((s : Nat) : Int)), (2, 40)] w9 142 Q9
      refine qG.blk 1 (pc' := 67) (ls' := [(2, 23), (2, 64), (0, ((k : Nat) : Int)), (0, ((A : Nat) : Int)), (0, b9), (0, f9), (0, ((s : Nat) : Int)), (0, ((r : Nat) : Int)), x8]) (st' := [(0, qor (prW w 0 i2 10) (shD w 0 r 1)), (0, ((s : Nat) : Int)), (2, 40)]) (w' := w9) (n' := 142) rfl ?_
      refine qG.ist (m := 1024) rfl rfl (by omega) (by decide) ?_
      show qG none (d + 1) 48 68 [(2, 23), (2, 64), (0, ((k : Nat) : Int)), (0, ((A : Nat) : Int)), (0, b9), (0, f9), (0, ((s : Nat) : Int)), (0, ((r : Nat) : Int)), x8] [] (qup w9 40 s (qor (prW w 0 i2 10) (shD w 0 r 1))) 142 Q9
      refine qG.blk 1 (pc' := 70) (ls' := [(2, 23), (2, 64), (0, ((k : Nat) : Int)), (0, ((A : Nat) : Int)), (0, b9), (0, f9), (0, ((s : Nat) : Int)), (0, ((r : Nat) : Int)), x8]) (st' := [(0, ((s : Nat) : Int))]) (w' := (qup w9 40 s (qor (prW w 0 i2 10) (shD w 0 r 1)))) (n' := 142) rfl ?_
      obtain ⟨wB, hwB⟩ : ∃ q : qW, q = (qup w9 40 s (qor (prW w 0 i2 10) (shD w 0 r 1))) := ⟨_, rfl⟩
      have hin9 := prW_in (set := s) hI hE (show 0 < 3 by decide) 10 (Nat.le_refl _)
      have hIB : yInv zgf zga zra zSp wB := by rw [hwB, ← hi5]; exact zup_a hI9 (b := (0, 65535)) rfl rfl ⟨hin9.1, hin9.2⟩
      have hrowB : ∀ j, j < s + 1 ∨ j = 0 → wB 40 j = prW w 0 j 10 := by rw [hwB, ← hi5]; exact row_up hrow
      rw [← hwB]
      refine qG.call (t := 302) (na := 1) (sk := 0) (md := 0) (ls1 := [(0, ((s : Nat) : Int))]) (r1 := []) rfl rfl rfl rfl rfl (K_bcJ (Nat.zero_le _) ((s : Nat) : Int) (by omega) (by omega) _) ?_
      rintro _ w7 _ ⟨rfl, hw7, rfl⟩
      rw [hw7, show bitsF ((s : Nat) : Int) 30 = bitsF ((s : Nat) : Int) 16 from by rw [bitsF_n (by omega) 30 (by decide), bitsF_n (by omega) 16 (by decide), pcn_h (by omega)]]
      show qG none (d + 1) 48 73 [(2, 23), (2, 64), (0, ((k : Nat) : Int)), (0, ((A : Nat) : Int)), (0, b9), (0, f9), (0, ((s : Nat) : Int)), (0, ((r : Nat) : Int)), x8] [(0, bitsF ((s : Nat) : Int) 16)] wB 142 Q9
      refine qG.blk 6 (pc' := 81) (ls' := [(2, 23), (2, 64), (0, ((k : Nat) : Int)), (0, ((A : Nat) : Int)), (0, b9), (0, f9), (0, ((s : Nat) : Int)), (0, ((r : Nat) : Int)), (0, bitsF ((s : Nat) : Int) 16)]) (st' := [(0, qand ((s : Nat) : Int) (qxor ((A : Nat) : Int) (-1)))]) (w' := wB) (n' := 142) rfl ?_
      rw [show qand ((s : Nat) : Int) (qxor ((A : Nat) : Int) (-1)) = ((s &&& R : Nat) : Int) from (by rw [← hA]; exact ref_eq (by omega) hR)]
      refine qG.br (P := ((s &&& R : Nat) : Int) = 0) (pc1 := 84) (pc2 := 116) (st1 := []) rfl (fun h81 => ?_) (fun h81 => ?_)
      · skip
        have hz81 : s &&& R = 0 := by omega
        refine qG.blk 2 (pc' := 88) (ls' := [(2, 23), (2, 64), (0, ((k : Nat) : Int)), (0, ((A : Nat) : Int)), (0, b9), (0, f9), (0, ((s : Nat) : Int)), (0, ((r : Nat) : Int)), (0, bitsF ((s : Nat) : Int) 16)]) (st' := [(0, f9), (0, bitsF ((s : Nat) : Int) 16)]) (w' := wB) (n' := 142) rfl ?_
        refine qG.br (P := bitsF ((s : Nat) : Int) 16 < f9) (pc1 := 91) (pc2 := 116) (st1 := []) rfl (fun hbt0 => ?_) (fun hbt0 => ?_)
        · skip
          have hbt : b9 = -1 ∨ bitsF ((s : Nat) : Int) 16 < bitsF b9 16 := Decidable.byCases (fun e => .inl e) (fun e => .inr (by rw [hf9, if_neg e] at hbt0; exact hbt0))
          refine qG.blk 2 (pc' := 95) (ls' := [(2, 23), (2, 64), (0, ((k : Nat) : Int)), (0, ((A : Nat) : Int)), (0, b9), (0, f9), (0, ((s : Nat) : Int)), (0, ((r : Nat) : Int)), (0, bitsF ((s : Nat) : Int) 16)]) (st' := [(2, wB 23 0)]) (w' := wB) (n' := 142) rfl ?_
          rw [show wB 23 0 = 24 from (by rw [hwB, qup_ne (by decide)]; exact (hfr 23 0 (by decide)).trans (zref h1I rfl rfl))]
          refine qG.blk 2 (pc' := 99) (ls' := [(2, 23), (2, 64), (0, ((k : Nat) : Int)), (0, ((A : Nat) : Int)), (0, b9), (0, f9), (0, ((s : Nat) : Int)), (0, ((r : Nat) : Int)), (0, bitsF ((s : Nat) : Int) 16)]) (st' := [(2, wB 23 15), (2, 24)]) (w' := wB) (n' := 142) rfl ?_
          rw [show wB 23 15 = 40 from (by rw [hwB, qup_ne (by decide)]; exact (hfr 23 15 (by decide)).trans (zref h1I rfl rfl))]
          refine qG.blk 1 (pc' := 101) (ls' := [(2, 23), (2, 64), (0, ((k : Nat) : Int)), (0, ((A : Nat) : Int)), (0, b9), (0, f9), (0, ((s : Nat) : Int)), (0, ((r : Nat) : Int)), (0, bitsF ((s : Nat) : Int) 16)]) (st' := [(0, ((s : Nat) : Int)), (2, 40), (2, 24)]) (w' := wB) (n' := 142) rfl ?_
          refine qG.ild (m := 1024) rfl rfl (by omega) (by decide) ?_
          show qG none (d + 1) 48 102 [(2, 23), (2, 64), (0, ((k : Nat) : Int)), (0, ((A : Nat) : Int)), (0, b9), (0, f9), (0, ((s : Nat) : Int)), (0, ((r : Nat) : Int)), (0, bitsF ((s : Nat) : Int) 16)] [(0, wB 40 s), (2, 24)] wB 142 Q9
          rw [show wB 40 s = prW w 0 s 10 from hrowB s (.inl (by omega))]
          refine qG.call (t := 104) (na := 2) (sk := 1) (md := 1) (ls1 := [(2, 24), (0, prW w 0 s 10), (9, 0)]) (r1 := []) rfl rfl rfl rfl rfl (K_allSeen (Nat.zero_le _) LL hL180 (prW w 0 s 10) wB hIB (by rw [hwB, qup_ne (by decide), hfr 24 3 (by decide)]; exact hT.1) (fun j hj => by rw [hwB, qup_ne (by decide), hfr 25 j (by decide)]; exact hT.2 j hj)) ?_
          rintro _ w7 _ ⟨rfl, hw7, rfl⟩
          rw [hw7]
          show qG none (d + 1) 48 105 [(2, 23), (2, 64), (0, ((k : Nat) : Int)), (0, ((A : Nat) : Int)), (0, b9), (0, f9), (0, ((s : Nat) : Int)), (0, ((r : Nat) : Int)), (0, bitsF ((s : Nat) : Int) 16)] [(0, (if alF LL (prW w 0 s 10) LL.length = true then 1 else 0))] wB 142 Q9
          refine qG.br (P := (if alF LL (prW w 0 s 10) LL.length = true then 1 else 0) = 0) (pc1 := 116) (pc2 := 108) (st1 := []) rfl (fun hal0 => ?_) (fun hal0 => ?_)
          · skip
            have hal : ¬ alF LL (prW w 0 s 10) LL.length = true := ite01.mp hal0
            refine qG.blk 1 (pc' := 119) (ls' := [(2, 23), (2, 64), (0, ((k : Nat) : Int)), (0, ((A : Nat) : Int)), (0, b9), (0, f9), (0, wrp (((s : Nat) : Int) + 1)), (0, ((r : Nat) : Int)), (0, bitsF ((s : Nat) : Int) 16)]) (st' := []) (w' := wB) (n' := 142) rfl ?_
            rw [show wrp (((s : Nat) : Int) + 1) = ((s + 1 : Nat) : Int) from wrp_id (by omega) (by omega)]
            refine qG.blk 1 (pc' := 26) (ls' := [(2, 23), (2, 64), (0, ((k : Nat) : Int)), (0, ((A : Nat) : Int)), (0, b9), (0, f9), (0, ((s + 1 : Nat) : Int)), (0, ((r : Nat) : Int)), (0, bitsF ((s : Nat) : Int) 16)]) (st' := []) (w' := wB) (n' := 142) rfl ?_
            have hn9 : bpF w 0 k R (s + 1) = b9 := by unfold bpF; rw [← hLL, ← hb9]; exact if_neg (fun z => by first | exact hz81 z.1 | exact hbt z.2.1 | exact hal z.2.2)
            exact ih26 _ (by omega) (s + 1) (wB) (b9) (f9) ((0, ((r : Nat) : Int))) ((0, bitsF ((s : Nat) : Int) 16)) rfl ⟨by omega, fun q j h => by rw [hwB, qup_ne h]; exact hfr q j h, hrowB, hn9.symm, (by first | exact hf9 | exact (if_neg (by omega)).symm), hIB⟩
          · skip
            have hal : alF LL (prW w 0 s 10) LL.length = true := Decidable.of_not_not (fun z => hal0 (ite01.mpr z))
            refine qG.blk 5 (pc' := 119) (ls' := [(2, 23), (2, 64), (0, ((k : Nat) : Int)), (0, ((A : Nat) : Int)), (0, ((s : Nat) : Int)), (0, bitsF ((s : Nat) : Int) 16), (0, wrp (((s : Nat) : Int) + 1)), (0, ((r : Nat) : Int)), (0, bitsF ((s : Nat) : Int) 16)]) (st' := []) (w' := wB) (n' := 142) rfl ?_
            rw [show wrp (((s : Nat) : Int) + 1) = ((s + 1 : Nat) : Int) from wrp_id (by omega) (by omega)]
            refine qG.blk 1 (pc' := 26) (ls' := [(2, 23), (2, 64), (0, ((k : Nat) : Int)), (0, ((A : Nat) : Int)), (0, ((s : Nat) : Int)), (0, bitsF ((s : Nat) : Int) 16), (0, ((s + 1 : Nat) : Int)), (0, ((r : Nat) : Int)), (0, bitsF ((s : Nat) : Int) 16)]) (st' := []) (w' := wB) (n' := 142) rfl ?_
            have hn9 : bpF w 0 k R (s + 1) = ((s : Nat) : Int) := by unfold bpF; rw [← hLL, ← hb9]; exact if_pos ⟨hz81, hbt, hal⟩
            exact ih26 _ (by omega) (s + 1) (wB) (((s : Nat) : Int)) (bitsF ((s : Nat) : Int) 16) ((0, ((r : Nat) : Int))) ((0, bitsF ((s : Nat) : Int) 16)) rfl ⟨by omega, fun q j h => by rw [hwB, qup_ne h]; exact hfr q j h, hrowB, hn9.symm, (by first | exact hf9 | exact (if_neg (by omega)).symm), hIB⟩
        · skip
          have hbt : ¬ (b9 = -1 ∨ bitsF ((s : Nat) : Int) 16 < bitsF b9 16) := fun z => by rw [hf9] at hbt0; have q10 := of_decide_eq_true (bits_10 s (by omega)); by_cases e : b9 = -1; (rw [if_pos e] at hbt0; omega); (rw [if_neg e] at hbt0; rcases z with z | z; exact e z; exact hbt0 z)
          refine qG.blk 1 (pc' := 119) (ls' := [(2, 23), (2, 64), (0, ((k : Nat) : Int)), (0, ((A : Nat) : Int)), (0, b9), (0, f9), (0, wrp (((s : Nat) : Int) + 1)), (0, ((r : Nat) : Int)), (0, bitsF ((s : Nat) : Int) 16)]) (st' := []) (w' := wB) (n' := 142) rfl ?_
          rw [show wrp (((s : Nat) : Int) + 1) = ((s + 1 : Nat) : Int) from wrp_id (by omega) (by omega)]
          refine qG.blk 1 (pc' := 26) (ls' := [(2, 23), (2, 64), (0, ((k : Nat) : Int)), (0, ((A : Nat) : Int)), (0, b9), (0, f9), (0, ((s + 1 : Nat) : Int)), (0, ((r : Nat) : Int)), (0, bitsF ((s : Nat) : Int) 16)]) (st' := []) (w' := wB) (n' := 142) rfl ?_
          have hn9 : bpF w 0 k R (s + 1) = b9 := by unfold bpF; rw [← hLL, ← hb9]; exact if_neg (fun z => by first | exact hz81 z.1 | exact hbt z.2.1 | exact hal z.2.2)
          exact ih26 _ (by omega) (s + 1) (wB) (b9) (f9) ((0, ((r : Nat) : Int))) ((0, bitsF ((s : Nat) : Int) 16)) rfl ⟨by omega, fun q j h => by rw [hwB, qup_ne h]; exact hfr q j h, hrowB, hn9.symm, (by first | exact hf9 | exact (if_neg (by omega)).symm), hIB⟩
      · skip
        have hz81 : ¬ s &&& R = 0 := fun z => h81 (by rw [z]; rfl)
        refine qG.blk 1 (pc' := 119) (ls' := [(2, 23), (2, 64), (0, ((k : Nat) : Int)), (0, ((A : Nat) : Int)), (0, b9), (0, f9), (0, wrp (((s : Nat) : Int) + 1)), (0, ((r : Nat) : Int)), (0, bitsF ((s : Nat) : Int) 16)]) (st' := []) (w' := wB) (n' := 142) rfl ?_
        rw [show wrp (((s : Nat) : Int) + 1) = ((s + 1 : Nat) : Int) from wrp_id (by omega) (by omega)]
        refine qG.blk 1 (pc' := 26) (ls' := [(2, 23), (2, 64), (0, ((k : Nat) : Int)), (0, ((A : Nat) : Int)), (0, b9), (0, f9), (0, ((s + 1 : Nat) : Int)), (0, ((r : Nat) : Int)), (0, bitsF ((s : Nat) : Int) 16)]) (st' := []) (w' := wB) (n' := 142) rfl ?_
        have hn9 : bpF w 0 k R (s + 1) = b9 := by unfold bpF; rw [← hLL, ← hb9]; exact if_neg (fun z => by first | exact hz81 z.1 | exact hbt z.2.1 | exact hal z.2.2)
        exact ih26 _ (by omega) (s + 1) (wB) (b9) (f9) ((0, ((r : Nat) : Int))) ((0, bitsF ((s : Nat) : Int) 16)) rfl ⟨by omega, fun q j h => by rw [hwB, qup_ne h]; exact hfr q j h, hrowB, hn9.symm, (by first | exact hf9 | exact (if_neg (by omega)).symm), hIB⟩
  exact L26 _ (0) ((qup w1 40 0 0)) ((-1)) (11) ((9, 0)) ((9, 0)) rfl (⟨by omega, fun q j h => congrFun (qup_ne h) j, fun j hj => by rw [show j = 0 by omega, qup_k]; rfl, rfl, (if_pos rfl).symm, zup_a h1I (b := (0, 65535)) rfl rfl ⟨by decide, by decide⟩⟩)
theorem K_findProof69 {d : Nat} (hd : 8 ≤ d) (k : Nat) (hk1 : 1 ≤ k) (hk2 : k ≤ 4) (R : Nat) (hR : R < 1024) (A : Nat) (hA : qand 1023 (qxor ((R : Nat) : Int) (-1)) = ((A : Nat) : Int)) (n : Nat) (w : qW) (hI : yInv zgf zga zra zSp w) (hJ : J9 n w) (hE : JE w) : qG none d 48 0 [(2, 23), (2, 69), (0, ((k : Nat) : Int)), (0, ((A : Nat) : Int)), (9, 0), (9, 0), (9, 0), (9, 0), (9, 0)] [] w 142 (fun (r : qV) (_ : qW) (n1 : Nat) => r = (0, bpF w 1 k R 1024) ∧ n1 = 142) := by
  generalize hQ9 : (fun (r : qV) (_ : qW) (n1 : Nat) => r = (0, bpF w 1 k R 1024) ∧ n1 = 142) = Q9
  obtain ⟨N3, hN3⟩ : ∃ N : Int, N = 1023 := ⟨_, rfl⟩
  obtain ⟨d, rfl⟩ : ∃ d9, d = d9 + 1 := ⟨d - 1, by omega⟩
  refine qG.blk 2 (pc' := 4) (ls' := [(2, 23), (2, 69), (0, ((k : Nat) : Int)), (0, ((A : Nat) : Int)), (9, 0), (9, 0), (9, 0), (9, 0), (9, 0)]) (st' := [(2, w 23 0)]) (w' := w) (n' := 142) rfl ?_
  rw [show w 23 0 = 24 from zref hI rfl rfl]
  refine qG.blk 2 (pc' := 6) (ls' := [(2, 23), (2, 69), (0, ((k : Nat) : Int)), (0, ((A : Nat) : Int)), (9, 0), (9, 0), (9, 0), (9, 0), (9, 0)]) (st' := [(0, ((k : Nat) : Int)), (2, 69), (2, 24)]) (w' := w) (n' := 142) rfl ?_
  refine qG.call (t := 94) (na := 3) (sk := 1) (md := 1) (ls1 := [(2, 24), (2, 69), (0, ((k : Nat) : Int))]) (r1 := []) rfl rfl rfl rfl rfl (qG.and (T_findFor_69 (w0 := w) d [(2, 24), (2, 69), (0, ((k : Nat) : Int))] w (show C_findFor_69.2.1 ≤ d by exact Nat.le_trans (by decide) (show 7 ≤ d by omega)) ⟨⟨rfl, by decide, by decide⟩, ⟨rfl, by decide, by decide⟩, ⟨rfl, by show (1 : Int) ≤ _; omega, by show _ ≤ (4 : Int); omega⟩, trivial⟩ hI (fun p hp => by cases hp) (fun e he => by cases he)) (K_findForC69 (by omega) k hk1 hk2 n w hI hJ)) ?_
  rintro ⟨_, _⟩ w1 _ ⟨⟨-, h1I, -, -, -⟩, hr1, rfl, hF⟩
  obtain ⟨rfl, rfl⟩ := Prod.mk.inj hr1
  have eF : ∀ q j, q ≠ 24 → q ≠ 25 → q ≠ 26 → w1 q j = w q j := fun q j a b e => hF.2.2.2.2 q j (fun z => a z.1) b e
  have hT := hF.2.2.2.1
  rw [show TX 65536 w1 1 k = (w1 24 3 = (((fpL w1 1 k 65536).length : Nat) : Int) ∧ ∀ j, j < (fpL w1 1 k 65536).length → w1 25 j = (((fpL w1 1 k 65536).getD j 0 : Nat) : Int)) from rfl, fpL_cg (fun i => eF 96 i (by decide) (by decide) (by decide)) (fun i => eF 99 i (by decide) (by decide) (by decide))] at hT
  obtain ⟨LL, hLL⟩ : ∃ l, l = fpL w 1 k 65536 := ⟨_, rfl⟩
  rw [← hLL] at hT
  have hE1 : JE w1 := fun c2 d2 a b => by rw [eF (66 + 5 * c2) d2 (by omega) (by omega) (by omega), eF (67 + 5 * c2) d2 (by omega) (by omega) (by omega), eF (68 + 5 * c2) d2 (by omega) (by omega) (by omega), eF 97 _ (by decide) (by decide) (by decide), eF 98 _ (by decide) (by decide) (by decide), eF 100 _ (by decide) (by decide) (by decide)]; exact hE c2 d2 a b
  have hK1 : w1 69 0 = w1 96 1 := by rw [eF 69 0 (by decide) (by decide) (by decide), eF 96 1 (by decide) (by decide) (by decide)]; exact hJ.1 1 (by decide)
  have hpr : ∀ s m, prW w1 1 s m = prW w 1 s m := fun s m => prW_cg (fun i => eF 96 i (by decide) (by decide) (by decide)) (fun i => eF 97 i (by decide) (by decide) (by decide)) (fun i => eF 98 i (by decide) (by decide) (by decide)) (fun i => eF 100 i (by decide) (by decide) (by decide)) 1 s m
  have hth : ∀ dd, shD w1 1 dd 1 = shD w 1 dd 1 := fun dd => by unfold shD; rw [thr_cg (fun i => eF 96 i (by decide) (by decide) (by decide)) (fun i => eF 97 i (by decide) (by decide) (by decide)) (fun i => eF 98 i (by decide) (by decide) (by decide)) (fun i => eF 100 i (by decide) (by decide) (by decide))]
  have hL180 : LL.length ≤ 180 := by
      have q := h1I.1 24 3 (0, 180) rfl rfl
      have q2 : w1 24 3 ≤ (180 : Int) := q.2
      rw [hT.1] at q2; omega
  show qG none (d + 1) 48 9 [(2, 23), (2, 69), (0, ((k : Nat) : Int)), (0, ((A : Nat) : Int)), (9, 0), (9, 0), (9, 0), (9, 0), (9, 0)] [] w1 142 Q9
  refine qG.blk 6 (pc' := 20) (ls' := [(2, 23), (2, 69), (0, ((k : Nat) : Int)), (0, ((A : Nat) : Int)), (0, (-1)), (0, 11), (9, 0), (9, 0), (9, 0)]) (st' := [(2, w1 23 15)]) (w' := w1) (n' := 142) rfl ?_
  rw [show w1 23 15 = 40 from zref h1I rfl rfl]
  refine qG.blk 2 (pc' := 22) (ls' := [(2, 23), (2, 69), (0, ((k : Nat) : Int)), (0, ((A : Nat) : Int)), (0, (-1)), (0, 11), (9, 0), (9, 0), (9, 0)]) (st' := [(0, 0), (0, 0), (2, 40)]) (w' := w1) (n' := 142) rfl ?_
  refine qG.ist (m := 1024) rfl rfl (by omega) (by decide) ?_
  show qG none (d + 1) 48 23 [(2, 23), (2, 69), (0, ((k : Nat) : Int)), (0, ((A : Nat) : Int)), (0, (-1)), (0, 11), (9, 0), (9, 0), (9, 0)] [] (qup w1 40 0 0) 142 Q9
  refine qG.blk 2 (pc' := 26) (ls' := [(2, 23), (2, 69), (0, ((k : Nat) : Int)), (0, ((A : Nat) : Int)), (0, (-1)), (0, 11), (0, 0), (9, 0), (9, 0)]) (st' := []) (w' := (qup w1 40 0 0)) (n' := 142) rfl ?_
  have L26 : ∀ (m9 : Nat) (s : Nat) (w9 : qW) (b9 f9 : Int) (x7 x8 : qV), 1024 - s = m9 → (s ≤ 1024 ∧ (∀ q j, q ≠ 40 → w9 q j = w1 q j) ∧ (∀ j, j < s ∨ j = 0 → w9 40 j = prW w 1 j 10) ∧ b9 = bpF w 1 k R s ∧ f9 = (if b9 = -1 then 11 else bitsF b9 16) ∧ yInv zgf zga zra zSp w9) → qG none (d + 1) 48 26 [(2, 23), (2, 69), (0, ((k : Nat) : Int)), (0, ((A : Nat) : Int)), (0, b9), (0, f9), (0, ((s : Nat) : Int)), x7, x8] [] w9 142 Q9 := by
    intro m9
    induction m9 using Nat.strongRecOn with
    | ind m9 ih26 =>
    intro s w9 b9 f9 x7 x8 hm26 hI26
    obtain ⟨hs1, hfr, hrow, hb9, hf9, hI9⟩ := hI26
    refine qG.blk 2 (pc' := 31) (ls' := [(2, 23), (2, 69), (0, ((k : Nat) : Int)), (0, ((A : Nat) : Int)), (0, b9), (0, f9), (0, ((s : Nat) : Int)), x7, x8]) (st' := [(0, 1023), (0, ((s : Nat) : Int))]) (w' := w9) (n' := 142) rfl ?_
    rw [show (1023 : Int) = N3 from hN3.symm]
    refine qG.br (P := N3 < ((s : Nat) : Int)) (pc1 := 122) (pc2 := 34) (st1 := []) rfl (fun h31 => ?_) (fun h31 => ?_)
    · skip
      rw [hN3] at h31
      refine qG.blk 1 (pc' := 124) (ls' := [(2, 23), (2, 69), (0, ((k : Nat) : Int)), (0, ((A : Nat) : Int)), (0, b9), (0, f9), (0, ((s : Nat) : Int)), x7, x8]) (st' := [(0, b9)]) (w' := w9) (n' := 142) rfl ?_
      refine qG.ret rfl rfl ?_
      subst hQ9
      exact ⟨by rw [hb9, show s = 1024 by omega], rfl⟩
    · skip
      rw [hN3] at h31
      have hE9 : JE w9 := fun c2 d2 a b => by rw [hfr (66 + 5 * c2) d2 (by omega), hfr (67 + 5 * c2) d2 (by omega), hfr (68 + 5 * c2) d2 (by omega), hfr 97 _ (by decide), hfr 98 _ (by decide), hfr 100 _ (by decide)]; exact hE1 c2 d2 a b
      have hth9 : ∀ dd, shD w9 1 dd 1 = shD w 1 dd 1 := fun dd => by rw [← hth]; unfold shD; rw [thr_cg (fun i => hfr 96 i (by decide)) (fun i => hfr 97 i (by decide)) (fun i => hfr 98 i (by decide)) (fun i => hfr 100 i (by decide))]
      refine qG.blk 1 (pc' := 36) (ls' := [(2, 23), (2, 69), (0, ((k : Nat) : Int)), (0, ((A : Nat) : Int)), (0, b9), (0, f9), (0, ((s : Nat) : Int)), x7, x8]) (st' := [(0, ((s : Nat) : Int))]) (w' := w9) (n' := 142) rfl ?_
      refine qG.call (t := 301) (na := 1) (sk := 0) (md := 0) (ls1 := [(0, ((s : Nat) : Int)), (9, 0)]) (r1 := []) rfl rfl rfl rfl rfl (K_nTZ (Nat.zero_le _) ((s : Nat) : Int) w9) ?_
      rintro _ w7 _ ⟨rfl, hw7, rfl⟩
      rw [hw7]
      obtain ⟨r, i2, hr1, hi2, hi3, hi4, hi5⟩ := low_w (s := s) (by omega) hrow
      rw [hr1]
      show qG none (d + 1) 48 39 [(2, 23), (2, 69), (0, ((k : Nat) : Int)), (0, ((A : Nat) : Int)), (0, b9), (0, f9), (0, ((s : Nat) : Int)), x7, x8] [(0, ((r : Nat) : Int))] w9 142 Q9
      refine qG.blk 3 (pc' := 45) (ls' := [(2, 23), (2, 69), (0, ((k : Nat) : Int)), (0, ((A : Nat) : Int)), (0, b9), (0, f9), (0, ((s : Nat) : Int)), (0, ((r : Nat) : Int)), x8]) (st' := [(2, w9 23 15)]) (w' := w9) (n' := 142) rfl ?_
      rw [show w9 23 15 = 40 from (hfr 23 15 (by decide)).trans (zref h1I rfl rfl)]
      refine qG.blk 3 (pc' := 51) (ls' := [(2, 23), (2, 69), (0, ((k : Nat) : Int)), (0, ((A : Nat) : Int)), (0, b9), (0, f9), (0, ((s : Nat) : Int)), (0, ((r : Nat) : Int)), x8]) (st' := [(2, w9 23 15), (0, ((s : Nat) : Int)), (2, 40)]) (w' := w9) (n' := 142) rfl ?_
      rw [show w9 23 15 = 40 from (hfr 23 15 (by decide)).trans (zref h1I rfl rfl)]
      refine qG.blk 4 (pc' := 57) (ls' := [(2, 23), (2, 69), (0, ((k : Nat) : Int)), (0, ((A : Nat) : Int)), (0, b9), (0, f9), (0, ((s : Nat) : Int)), (0, ((r : Nat) : Int)), x8]) (st' := [(0, wrp (((s : Nat) : Int) - 1)), (0, ((s : Nat) : Int)), (2, 40), (0, ((s : Nat) : Int)), (2, 40)]) (w' := w9) (n' := 142) rfl ?_
      rw [show wrp (((s : Nat) : Int) - 1) = ((s : Nat) : Int) - 1 from wrp_id (by omega) (by omega)]
      refine qG.blk 1 (pc' := 58) (ls' := [(2, 23), (2, 69), (0, ((k : Nat) : Int)), (0, ((A : Nat) : Int)), (0, b9), (0, f9), (0, ((s : Nat) : Int)), (0, ((r : Nat) : Int)), x8]) (st' := [(0, qand ((s : Nat) : Int) (((s : Nat) : Int) - 1)), (2, 40), (0, ((s : Nat) : Int)), (2, 40)]) (w' := w9) (n' := 142) rfl ?_
      rw [show qand ((s : Nat) : Int) (((s : Nat) : Int) - 1) = ((i2 : Nat) : Int) from hi2]
      refine qG.ild (m := 1024) rfl rfl (by omega) (by decide) ?_
      show qG none (d + 1) 48 59 [(2, 23), (2, 69), (0, ((k : Nat) : Int)), (0, ((A : Nat) : Int)), (0, b9), (0, f9), (0, ((s : Nat) : Int)), (0, ((r : Nat) : Int)), x8] [(0, w9 40 i2), (0, ((s : Nat) : Int)), (2, 40)] w9 142 Q9
      rw [show w9 40 i2 = prW w 1 i2 10 from hi4]
      refine qG.blk 3 (pc' := 63) (ls' := [(2, 23), (2, 69), (0, ((k : Nat) : Int)), (0, ((A : Nat) : Int)), (0, b9), (0, f9), (0, ((s : Nat) : Int)), (0, ((r : Nat) : Int)), x8]) (st' := [(0, 1), (0, ((r : Nat) : Int)), (2, 69), (0, prW w 1 i2 10), (0, ((s : Nat) : Int)), (2, 40)]) (w' := w9) (n' := 142) rfl ?_
      refine qG.call (t := 27) (na := 3) (sk := 1) (md := 1) (ls1 := [(2, 69), (0, ((r : Nat) : Int)), (0, 1), (9, 0), (9, 0)]) (r1 := [(0, prW w 1 i2 10), (0, ((s : Nat) : Int)), (2, 40)]) rfl rfl rfl rfl rfl (K_shown69 (Nat.zero_le _) r 1 w9 hI9 ((hfr 69 0 (by decide)).trans (hK1.trans (hfr 96 1 (by decide)).symm)) hE9) ?_
      rintro _ w7 _ ⟨rfl, hw7, rfl⟩
      rw [hw7, hth9]
      show qG none (d + 1) 48 66 [(2, 23), (2, 69), (0, ((k : Nat) : Int)), (0, ((A : Nat) : Int)), (0, b9), (0, f9), (0, ((s : Nat) : Int)), (0, ((r : Nat) : Int)), x8] [(0, shD w 1 r 1), (0, prW w 1 i2 10), (0, ((s : Nat) : Int)), (2, 40)] w9 142 Q9
      refine qG.blk 1 (pc' := 67) (ls' := [(2, 23), (2, 69), (0, ((k : Nat) : Int)), (0, ((A : Nat) : Int)), (0, b9), (0, f9), (0, ((s : Nat) : Int)), (0, ((r : Nat) : Int)), x8]) (st' := [(0, qor (prW w 1 i2 10) (shD w 1 r 1)), (0, ((s : Nat) : Int)), (2, 40)]) (w' := w9) (n' := 142) rfl ?_
      refine qG.ist (m := 1024) rfl rfl (by omega) (by decide) ?_
      show qG none (d + 1) 48 68 [(2, 23), (2, 69), (0, ((k : Nat) : Int)), (0, ((A : Nat) : Int)), (0, b9), (0, f9), (0, ((s : Nat) : Int)), (0, ((r : Nat) : Int)), x8] [] (qup w9 40 s (qor (prW w 1 i2 10) (shD w 1 r 1))) 142 Q9
      refine qG.blk 1 (pc' := 70) (ls' := [(2, 23), (2, 69), (0, ((k : Nat) : Int)), (0, ((A : Nat) : Int)), (0, b9), (0, f9), (0, ((s : Nat) : Int)), (0, ((r : Nat) : Int)), x8]) (st' := [(0, ((s : Nat) : Int))]) (w' := (qup w9 40 s (qor (prW w 1 i2 10) (shD w 1 r 1)))) (n' := 142) rfl ?_
      obtain ⟨wB, hwB⟩ : ∃ q : qW, q = (qup w9 40 s (qor (prW w 1 i2 10) (shD w 1 r 1))) := ⟨_, rfl⟩
      have hin9 := prW_in (set := s) hI hE (show 1 < 3 by decide) 10 (Nat.le_refl _)
      have hIB : yInv zgf zga zra zSp wB := by rw [hwB, ← hi5]; exact zup_a hI9 (b := (0, 65535)) rfl rfl ⟨hin9.1, hin9.2⟩
      have hrowB : ∀ j, j < s + 1 ∨ j = 0 → wB 40 j = prW w 1 j 10 := by rw [hwB, ← hi5]; exact row_up hrow
      rw [← hwB]
      refine qG.call (t := 302) (na := 1) (sk := 0) (md := 0) (ls1 := [(0, ((s : Nat) : Int))]) (r1 := []) rfl rfl rfl rfl rfl (K_bcJ (Nat.zero_le _) ((s : Nat) : Int) (by omega) (by omega) _) ?_
      rintro _ w7 _ ⟨rfl, hw7, rfl⟩
      rw [hw7, show bitsF ((s : Nat) : Int) 30 = bitsF ((s : Nat) : Int) 16 from by rw [bitsF_n (by omega) 30 (by decide), bitsF_n (by omega) 16 (by decide), pcn_h (by omega)]]
      show qG none (d + 1) 48 73 [(2, 23), (2, 69), (0, ((k : Nat) : Int)), (0, ((A : Nat) : Int)), (0, b9), (0, f9), (0, ((s : Nat) : Int)), (0, ((r : Nat) : Int)), x8] [(0, bitsF ((s : Nat) : Int) 16)] wB 142 Q9
      refine qG.blk 6 (pc' := 81) (ls' := [(2, 23), (2, 69), (0, ((k : Nat) : Int)), (0, ((A : Nat) : Int)), (0, b9), (0, f9), (0, ((s : Nat) : Int)), (0, ((r : Nat) : Int)), (0, bitsF ((s : Nat) : Int) 16)]) (st' := [(0, qand ((s : Nat) : Int) (qxor ((A : Nat) : Int) (-1)))]) (w' := wB) (n' := 142) rfl ?_
      rw [show qand ((s : Nat) : Int) (qxor ((A : Nat) : Int) (-1)) = ((s &&& R : Nat) : Int) from (by rw [← hA]; exact ref_eq (by omega) hR)]
      refine qG.br (P := ((s &&& R : Nat) : Int) = 0) (pc1 := 84) (pc2 := 116) (st1 := []) rfl (fun h81 => ?_) (fun h81 => ?_)
      · skip
        have hz81 : s &&& R = 0 := by omega
        refine qG.blk 2 (pc' := 88) (ls' := [(2, 23), (2, 69), (0, ((k : Nat) : Int)), (0, ((A : Nat) : Int)), (0, b9), (0, f9), (0, ((s : Nat) : Int)), (0, ((r : Nat) : Int)), (0, bitsF ((s : Nat) : Int) 16)]) (st' := [(0, f9), (0, bitsF ((s : Nat) : Int) 16)]) (w' := wB) (n' := 142) rfl ?_
        refine qG.br (P := bitsF ((s : Nat) : Int) 16 < f9) (pc1 := 91) (pc2 := 116) (st1 := []) rfl (fun hbt0 => ?_) (fun hbt0 => ?_)
        · skip
          have hbt : b9 = -1 ∨ bitsF ((s : Nat) : Int) 16 < bitsF b9 16 := Decidable.byCases (fun e => .inl e) (fun e => .inr (by rw [hf9, if_neg e] at hbt0; exact hbt0))
          refine qG.blk 2 (pc' := 95) (ls' := [(2, 23), (2, 69), (0, ((k : Nat) : Int)), (0, ((A : Nat) : Int)), (0, b9), (0, f9), (0, ((s : Nat) : Int)), (0, ((r : Nat) : Int)), (0, bitsF ((s : Nat) : Int) 16)]) (st' := [(2, wB 23 0)]) (w' := wB) (n' := 142) rfl ?_
          rw [show wB 23 0 = 24 from (by rw [hwB, qup_ne (by decide)]; exact (hfr 23 0 (by decide)).trans (zref h1I rfl rfl))]
          refine qG.blk 2 (pc' := 99) (ls' := [(2, 23), (2, 69), (0, ((k : Nat) : Int)), (0, ((A : Nat) : Int)), (0, b9), (0, f9), (0, ((s : Nat) : Int)), (0, ((r : Nat) : Int)), (0, bitsF ((s : Nat) : Int) 16)]) (st' := [(2, wB 23 15), (2, 24)]) (w' := wB) (n' := 142) rfl ?_
          rw [show wB 23 15 = 40 from (by rw [hwB, qup_ne (by decide)]; exact (hfr 23 15 (by decide)).trans (zref h1I rfl rfl))]
          refine qG.blk 1 (pc' := 101) (ls' := [(2, 23), (2, 69), (0, ((k : Nat) : Int)), (0, ((A : Nat) : Int)), (0, b9), (0, f9), (0, ((s : Nat) : Int)), (0, ((r : Nat) : Int)), (0, bitsF ((s : Nat) : Int) 16)]) (st' := [(0, ((s : Nat) : Int)), (2, 40), (2, 24)]) (w' := wB) (n' := 142) rfl ?_
          refine qG.ild (m := 1024) rfl rfl (by omega) (by decide) ?_
          show qG none (d + 1) 48 102 [(2, 23), (2, 69), (0, ((k : Nat) : Int)), (0, ((A : Nat) : Int)), (0, b9), (0, f9), (0, ((s : Nat) : Int)), (0, ((r : Nat) : Int)), (0, bitsF ((s : Nat) : Int) 16)] [(0, wB 40 s), (2, 24)] wB 142 Q9
          rw [show wB 40 s = prW w 1 s 10 from hrowB s (.inl (by omega))]
          refine qG.call (t := 104) (na := 2) (sk := 1) (md := 1) (ls1 := [(2, 24), (0, prW w 1 s 10), (9, 0)]) (r1 := []) rfl rfl rfl rfl rfl (K_allSeen (Nat.zero_le _) LL hL180 (prW w 1 s 10) wB hIB (by rw [hwB, qup_ne (by decide), hfr 24 3 (by decide)]; exact hT.1) (fun j hj => by rw [hwB, qup_ne (by decide), hfr 25 j (by decide)]; exact hT.2 j hj)) ?_
          rintro _ w7 _ ⟨rfl, hw7, rfl⟩
          rw [hw7]
          show qG none (d + 1) 48 105 [(2, 23), (2, 69), (0, ((k : Nat) : Int)), (0, ((A : Nat) : Int)), (0, b9), (0, f9), (0, ((s : Nat) : Int)), (0, ((r : Nat) : Int)), (0, bitsF ((s : Nat) : Int) 16)] [(0, (if alF LL (prW w 1 s 10) LL.length = true then 1 else 0))] wB 142 Q9
          refine qG.br (P := (if alF LL (prW w 1 s 10) LL.length = true then 1 else 0) = 0) (pc1 := 116) (pc2 := 108) (st1 := []) rfl (fun hal0 => ?_) (fun hal0 => ?_)
          · skip
            have hal : ¬ alF LL (prW w 1 s 10) LL.length = true := ite01.mp hal0
            refine qG.blk 1 (pc' := 119) (ls' := [(2, 23), (2, 69), (0, ((k : Nat) : Int)), (0, ((A : Nat) : Int)), (0, b9), (0, f9), (0, wrp (((s : Nat) : Int) + 1)), (0, ((r : Nat) : Int)), (0, bitsF ((s : Nat) : Int) 16)]) (st' := []) (w' := wB) (n' := 142) rfl ?_
            rw [show wrp (((s : Nat) : Int) + 1) = ((s + 1 : Nat) : Int) from wrp_id (by omega) (by omega)]
            refine qG.blk 1 (pc' := 26) (ls' := [(2, 23), (2, 69), (0, ((k : Nat) : Int)), (0, ((A : Nat) : Int)), (0, b9), (0, f9), (0, ((s + 1 : Nat) : Int)), (0, ((r : Nat) : Int)), (0, bitsF ((s : Nat) : Int) 16)]) (st' := []) (w' := wB) (n' := 142) rfl ?_
            have hn9 : bpF w 1 k R (s + 1) = b9 := by unfold bpF; rw [← hLL, ← hb9]; exact if_neg (fun z => by first | exact hz81 z.1 | exact hbt z.2.1 | exact hal z.2.2)
            exact ih26 _ (by omega) (s + 1) (wB) (b9) (f9) ((0, ((r : Nat) : Int))) ((0, bitsF ((s : Nat) : Int) 16)) rfl ⟨by omega, fun q j h => by rw [hwB, qup_ne h]; exact hfr q j h, hrowB, hn9.symm, (by first | exact hf9 | exact (if_neg (by omega)).symm), hIB⟩
          · skip
            have hal : alF LL (prW w 1 s 10) LL.length = true := Decidable.of_not_not (fun z => hal0 (ite01.mpr z))
            refine qG.blk 5 (pc' := 119) (ls' := [(2, 23), (2, 69), (0, ((k : Nat) : Int)), (0, ((A : Nat) : Int)), (0, ((s : Nat) : Int)), (0, bitsF ((s : Nat) : Int) 16), (0, wrp (((s : Nat) : Int) + 1)), (0, ((r : Nat) : Int)), (0, bitsF ((s : Nat) : Int) 16)]) (st' := []) (w' := wB) (n' := 142) rfl ?_
            rw [show wrp (((s : Nat) : Int) + 1) = ((s + 1 : Nat) : Int) from wrp_id (by omega) (by omega)]
            refine qG.blk 1 (pc' := 26) (ls' := [(2, 23), (2, 69), (0, ((k : Nat) : Int)), (0, ((A : Nat) : Int)), (0, ((s : Nat) : Int)), (0, bitsF ((s : Nat) : Int) 16), (0, ((s + 1 : Nat) : Int)), (0, ((r : Nat) : Int)), (0, bitsF ((s : Nat) : Int) 16)]) (st' := []) (w' := wB) (n' := 142) rfl ?_
            have hn9 : bpF w 1 k R (s + 1) = ((s : Nat) : Int) := by unfold bpF; rw [← hLL, ← hb9]; exact if_pos ⟨hz81, hbt, hal⟩
            exact ih26 _ (by omega) (s + 1) (wB) (((s : Nat) : Int)) (bitsF ((s : Nat) : Int) 16) ((0, ((r : Nat) : Int))) ((0, bitsF ((s : Nat) : Int) 16)) rfl ⟨by omega, fun q j h => by rw [hwB, qup_ne h]; exact hfr q j h, hrowB, hn9.symm, (by first | exact hf9 | exact (if_neg (by omega)).symm), hIB⟩
        · skip
          have hbt : ¬ (b9 = -1 ∨ bitsF ((s : Nat) : Int) 16 < bitsF b9 16) := fun z => by rw [hf9] at hbt0; have q10 := of_decide_eq_true (bits_10 s (by omega)); by_cases e : b9 = -1; (rw [if_pos e] at hbt0; omega); (rw [if_neg e] at hbt0; rcases z with z | z; exact e z; exact hbt0 z)
          refine qG.blk 1 (pc' := 119) (ls' := [(2, 23), (2, 69), (0, ((k : Nat) : Int)), (0, ((A : Nat) : Int)), (0, b9), (0, f9), (0, wrp (((s : Nat) : Int) + 1)), (0, ((r : Nat) : Int)), (0, bitsF ((s : Nat) : Int) 16)]) (st' := []) (w' := wB) (n' := 142) rfl ?_
          rw [show wrp (((s : Nat) : Int) + 1) = ((s + 1 : Nat) : Int) from wrp_id (by omega) (by omega)]
          refine qG.blk 1 (pc' := 26) (ls' := [(2, 23), (2, 69), (0, ((k : Nat) : Int)), (0, ((A : Nat) : Int)), (0, b9), (0, f9), (0, ((s + 1 : Nat) : Int)), (0, ((r : Nat) : Int)), (0, bitsF ((s : Nat) : Int) 16)]) (st' := []) (w' := wB) (n' := 142) rfl ?_
          have hn9 : bpF w 1 k R (s + 1) = b9 := by unfold bpF; rw [← hLL, ← hb9]; exact if_neg (fun z => by first | exact hz81 z.1 | exact hbt z.2.1 | exact hal z.2.2)
          exact ih26 _ (by omega) (s + 1) (wB) (b9) (f9) ((0, ((r : Nat) : Int))) ((0, bitsF ((s : Nat) : Int) 16)) rfl ⟨by omega, fun q j h => by rw [hwB, qup_ne h]; exact hfr q j h, hrowB, hn9.symm, (by first | exact hf9 | exact (if_neg (by omega)).symm), hIB⟩
      · skip
        have hz81 : ¬ s &&& R = 0 := fun z => h81 (by rw [z]; rfl)
        refine qG.blk 1 (pc' := 119) (ls' := [(2, 23), (2, 69), (0, ((k : Nat) : Int)), (0, ((A : Nat) : Int)), (0, b9), (0, f9), (0, wrp (((s : Nat) : Int) + 1)), (0, ((r : Nat) : Int)), (0, bitsF ((s : Nat) : Int) 16)]) (st' := []) (w' := wB) (n' := 142) rfl ?_
        rw [show wrp (((s : Nat) : Int) + 1) = ((s + 1 : Nat) : Int) from wrp_id (by omega) (by omega)]
        refine qG.blk 1 (pc' := 26) (ls' := [(2, 23), (2, 69), (0, ((k : Nat) : Int)), (0, ((A : Nat) : Int)), (0, b9), (0, f9), (0, ((s + 1 : Nat) : Int)), (0, ((r : Nat) : Int)), (0, bitsF ((s : Nat) : Int) 16)]) (st' := []) (w' := wB) (n' := 142) rfl ?_
        have hn9 : bpF w 1 k R (s + 1) = b9 := by unfold bpF; rw [← hLL, ← hb9]; exact if_neg (fun z => by first | exact hz81 z.1 | exact hbt z.2.1 | exact hal z.2.2)
        exact ih26 _ (by omega) (s + 1) (wB) (b9) (f9) ((0, ((r : Nat) : Int))) ((0, bitsF ((s : Nat) : Int) 16)) rfl ⟨by omega, fun q j h => by rw [hwB, qup_ne h]; exact hfr q j h, hrowB, hn9.symm, (by first | exact hf9 | exact (if_neg (by omega)).symm), hIB⟩
  exact L26 _ (0) ((qup w1 40 0 0)) ((-1)) (11) ((9, 0)) ((9, 0)) rfl (⟨by omega, fun q j h => congrFun (qup_ne h) j, fun j hj => by rw [show j = 0 by omega, qup_k]; rfl, rfl, (if_pos rfl).symm, zup_a h1I (b := (0, 65535)) rfl rfl ⟨by decide, by decide⟩⟩)
theorem K_findProof74 {d : Nat} (hd : 8 ≤ d) (k : Nat) (hk1 : 1 ≤ k) (hk2 : k ≤ 4) (R : Nat) (hR : R < 1024) (A : Nat) (hA : qand 1023 (qxor ((R : Nat) : Int) (-1)) = ((A : Nat) : Int)) (n : Nat) (w : qW) (hI : yInv zgf zga zra zSp w) (hJ : J9 n w) (hE : JE w) : qG none d 48 0 [(2, 23), (2, 74), (0, ((k : Nat) : Int)), (0, ((A : Nat) : Int)), (9, 0), (9, 0), (9, 0), (9, 0), (9, 0)] [] w 142 (fun (r : qV) (_ : qW) (n1 : Nat) => r = (0, bpF w 2 k R 1024) ∧ n1 = 142) := by
  generalize hQ9 : (fun (r : qV) (_ : qW) (n1 : Nat) => r = (0, bpF w 2 k R 1024) ∧ n1 = 142) = Q9
  obtain ⟨N3, hN3⟩ : ∃ N : Int, N = 1023 := ⟨_, rfl⟩
  obtain ⟨d, rfl⟩ : ∃ d9, d = d9 + 1 := ⟨d - 1, by omega⟩
  refine qG.blk 2 (pc' := 4) (ls' := [(2, 23), (2, 74), (0, ((k : Nat) : Int)), (0, ((A : Nat) : Int)), (9, 0), (9, 0), (9, 0), (9, 0), (9, 0)]) (st' := [(2, w 23 0)]) (w' := w) (n' := 142) rfl ?_
  rw [show w 23 0 = 24 from zref hI rfl rfl]
  refine qG.blk 2 (pc' := 6) (ls' := [(2, 23), (2, 74), (0, ((k : Nat) : Int)), (0, ((A : Nat) : Int)), (9, 0), (9, 0), (9, 0), (9, 0), (9, 0)]) (st' := [(0, ((k : Nat) : Int)), (2, 74), (2, 24)]) (w' := w) (n' := 142) rfl ?_
  refine qG.call (t := 94) (na := 3) (sk := 1) (md := 1) (ls1 := [(2, 24), (2, 74), (0, ((k : Nat) : Int))]) (r1 := []) rfl rfl rfl rfl rfl (qG.and (T_findFor_74 (w0 := w) d [(2, 24), (2, 74), (0, ((k : Nat) : Int))] w (show C_findFor_74.2.1 ≤ d by exact Nat.le_trans (by decide) (show 7 ≤ d by omega)) ⟨⟨rfl, by decide, by decide⟩, ⟨rfl, by decide, by decide⟩, ⟨rfl, by show (1 : Int) ≤ _; omega, by show _ ≤ (4 : Int); omega⟩, trivial⟩ hI (fun p hp => by cases hp) (fun e he => by cases he)) (K_findForC74 (by omega) k hk1 hk2 n w hI hJ)) ?_
  rintro ⟨_, _⟩ w1 _ ⟨⟨-, h1I, -, -, -⟩, hr1, rfl, hF⟩
  obtain ⟨rfl, rfl⟩ := Prod.mk.inj hr1
  have eF : ∀ q j, q ≠ 24 → q ≠ 25 → q ≠ 26 → w1 q j = w q j := fun q j a b e => hF.2.2.2.2 q j (fun z => a z.1) b e
  have hT := hF.2.2.2.1
  rw [show TX 65536 w1 2 k = (w1 24 3 = (((fpL w1 2 k 65536).length : Nat) : Int) ∧ ∀ j, j < (fpL w1 2 k 65536).length → w1 25 j = (((fpL w1 2 k 65536).getD j 0 : Nat) : Int)) from rfl, fpL_cg (fun i => eF 96 i (by decide) (by decide) (by decide)) (fun i => eF 99 i (by decide) (by decide) (by decide))] at hT
  obtain ⟨LL, hLL⟩ : ∃ l, l = fpL w 2 k 65536 := ⟨_, rfl⟩
  rw [← hLL] at hT
  have hE1 : JE w1 := fun c2 d2 a b => by rw [eF (66 + 5 * c2) d2 (by omega) (by omega) (by omega), eF (67 + 5 * c2) d2 (by omega) (by omega) (by omega), eF (68 + 5 * c2) d2 (by omega) (by omega) (by omega), eF 97 _ (by decide) (by decide) (by decide), eF 98 _ (by decide) (by decide) (by decide), eF 100 _ (by decide) (by decide) (by decide)]; exact hE c2 d2 a b
  have hK1 : w1 74 0 = w1 96 2 := by rw [eF 74 0 (by decide) (by decide) (by decide), eF 96 2 (by decide) (by decide) (by decide)]; exact hJ.1 2 (by decide)
  have hpr : ∀ s m, prW w1 2 s m = prW w 2 s m := fun s m => prW_cg (fun i => eF 96 i (by decide) (by decide) (by decide)) (fun i => eF 97 i (by decide) (by decide) (by decide)) (fun i => eF 98 i (by decide) (by decide) (by decide)) (fun i => eF 100 i (by decide) (by decide) (by decide)) 2 s m
  have hth : ∀ dd, shD w1 2 dd 1 = shD w 2 dd 1 := fun dd => by unfold shD; rw [thr_cg (fun i => eF 96 i (by decide) (by decide) (by decide)) (fun i => eF 97 i (by decide) (by decide) (by decide)) (fun i => eF 98 i (by decide) (by decide) (by decide)) (fun i => eF 100 i (by decide) (by decide) (by decide))]
  have hL180 : LL.length ≤ 180 := by
      have q := h1I.1 24 3 (0, 180) rfl rfl
      have q2 : w1 24 3 ≤ (180 : Int) := q.2
      rw [hT.1] at q2; omega
  show qG none (d + 1) 48 9 [(2, 23), (2, 74), (0, ((k : Nat) : Int)), (0, ((A : Nat) : Int)), (9, 0), (9, 0), (9, 0), (9, 0), (9, 0)] [] w1 142 Q9
  refine qG.blk 6 (pc' := 20) (ls' := [(2, 23), (2, 74), (0, ((k : Nat) : Int)), (0, ((A : Nat) : Int)), (0, (-1)), (0, 11), (9, 0), (9, 0), (9, 0)]) (st' := [(2, w1 23 15)]) (w' := w1) (n' := 142) rfl ?_
  rw [show w1 23 15 = 40 from zref h1I rfl rfl]
  refine qG.blk 2 (pc' := 22) (ls' := [(2, 23), (2, 74), (0, ((k : Nat) : Int)), (0, ((A : Nat) : Int)), (0, (-1)), (0, 11), (9, 0), (9, 0), (9, 0)]) (st' := [(0, 0), (0, 0), (2, 40)]) (w' := w1) (n' := 142) rfl ?_
  refine qG.ist (m := 1024) rfl rfl (by omega) (by decide) ?_
  show qG none (d + 1) 48 23 [(2, 23), (2, 74), (0, ((k : Nat) : Int)), (0, ((A : Nat) : Int)), (0, (-1)), (0, 11), (9, 0), (9, 0), (9, 0)] [] (qup w1 40 0 0) 142 Q9
  refine qG.blk 2 (pc' := 26) (ls' := [(2, 23), (2, 74), (0, ((k : Nat) : Int)), (0, ((A : Nat) : Int)), (0, (-1)), (0, 11), (0, 0), (9, 0), (9, 0)]) (st' := []) (w' := (qup w1 40 0 0)) (n' := 142) rfl ?_
  have L26 : ∀ (m9 : Nat) (s : Nat) (w9 : qW) (b9 f9 : Int) (x7 x8 : qV), 1024 - s = m9 → (s ≤ 1024 ∧ (∀ q j, q ≠ 40 → w9 q j = w1 q j) ∧ (∀ j, j < s ∨ j = 0 → w9 40 j = prW w 2 j 10) ∧ b9 = bpF w 2 k R s ∧ f9 = (if b9 = -1 then 11 else bitsF b9 16) ∧ yInv zgf zga zra zSp w9) → qG none (d + 1) 48 26 [(2, 23), (2, 74), (0, ((k : Nat) : Int)), (0, ((A : Nat) : Int)), (0, b9), (0, f9), (0, ((s : Nat) : Int)), x7, x8] [] w9 142 Q9 := by
    intro m9
    induction m9 using Nat.strongRecOn with
    | ind m9 ih26 =>
    intro s w9 b9 f9 x7 x8 hm26 hI26
    obtain ⟨hs1, hfr, hrow, hb9, hf9, hI9⟩ := hI26
    refine qG.blk 2 (pc' := 31) (ls' := [(2, 23), (2, 74), (0, ((k : Nat) : Int)), (0, ((A : Nat) : Int)), (0, b9), (0, f9), (0, ((s : Nat) : Int)), x7, x8]) (st' := [(0, 1023), (0, ((s : Nat) : Int))]) (w' := w9) (n' := 142) rfl ?_
    rw [show (1023 : Int) = N3 from hN3.symm]
    refine qG.br (P := N3 < ((s : Nat) : Int)) (pc1 := 122) (pc2 := 34) (st1 := []) rfl (fun h31 => ?_) (fun h31 => ?_)
    · skip
      rw [hN3] at h31
      refine qG.blk 1 (pc' := 124) (ls' := [(2, 23), (2, 74), (0, ((k : Nat) : Int)), (0, ((A : Nat) : Int)), (0, b9), (0, f9), (0, ((s : Nat) : Int)), x7, x8]) (st' := [(0, b9)]) (w' := w9) (n' := 142) rfl ?_
      refine qG.ret rfl rfl ?_
      subst hQ9
      exact ⟨by rw [hb9, show s = 1024 by omega], rfl⟩
    · skip
      rw [hN3] at h31
      have hE9 : JE w9 := fun c2 d2 a b => by rw [hfr (66 + 5 * c2) d2 (by omega), hfr (67 + 5 * c2) d2 (by omega), hfr (68 + 5 * c2) d2 (by omega), hfr 97 _ (by decide), hfr 98 _ (by decide), hfr 100 _ (by decide)]; exact hE1 c2 d2 a b
      have hth9 : ∀ dd, shD w9 2 dd 1 = shD w 2 dd 1 := fun dd => by rw [← hth]; unfold shD; rw [thr_cg (fun i => hfr 96 i (by decide)) (fun i => hfr 97 i (by decide)) (fun i => hfr 98 i (by decide)) (fun i => hfr 100 i (by decide))]
      refine qG.blk 1 (pc' := 36) (ls' := [(2, 23), (2, 74), (0, ((k : Nat) : Int)), (0, ((A : Nat) : Int)), (0, b9), (0, f9), (0, ((s : Nat) : Int)), x7, x8]) (st' := [(0, ((s : Nat) : Int))]) (w' := w9) (n' := 142) rfl ?_
      refine qG.call (t := 301) (na := 1) (sk := 0) (md := 0) (ls1 := [(0, ((s : Nat) : Int)), (9, 0)]) (r1 := []) rfl rfl rfl rfl rfl (K_nTZ (Nat.zero_le _) ((s : Nat) : Int) w9) ?_
      rintro _ w7 _ ⟨rfl, hw7, rfl⟩
      rw [hw7]
      obtain ⟨r, i2, hr1, hi2, hi3, hi4, hi5⟩ := low_w (s := s) (by omega) hrow
      rw [hr1]
      show qG none (d + 1) 48 39 [(2, 23), (2, 74), (0, ((k : Nat) : Int)), (0, ((A : Nat) : Int)), (0, b9), (0, f9), (0, ((s : Nat) : Int)), x7, x8] [(0, ((r : Nat) : Int))] w9 142 Q9
      refine qG.blk 3 (pc' := 45) (ls' := [(2, 23), (2, 74), (0, ((k : Nat) : Int)), (0, ((A : Nat) : Int)), (0, b9), (0, f9), (0, ((s : Nat) : Int)), (0, ((r : Nat) : Int)), x8]) (st' := [(2, w9 23 15)]) (w' := w9) (n' := 142) rfl ?_
      rw [show w9 23 15 = 40 from (hfr 23 15 (by decide)).trans (zref h1I rfl rfl)]
      refine qG.blk 3 (pc' := 51) (ls' := [(2, 23), (2, 74), (0, ((k : Nat) : Int)), (0, ((A : Nat) : Int)), (0, b9), (0, f9), (0, ((s : Nat) : Int)), (0, ((r : Nat) : Int)), x8]) (st' := [(2, w9 23 15), (0, ((s : Nat) : Int)), (2, 40)]) (w' := w9) (n' := 142) rfl ?_
      rw [show w9 23 15 = 40 from (hfr 23 15 (by decide)).trans (zref h1I rfl rfl)]
      refine qG.blk 4 (pc' := 57) (ls' := [(2, 23), (2, 74), (0, ((k : Nat) : Int)), (0, ((A : Nat) : Int)), (0, b9), (0, f9), (0, ((s : Nat) : Int)), (0, ((r : Nat) : Int)), x8]) (st' := [(0, wrp (((s : Nat) : Int) - 1)), (0, ((s : Nat) : Int)), (2, 40), (0, ((s : Nat) : Int)), (2, 40)]) (w' := w9) (n' := 142) rfl ?_
      rw [show wrp (((s : Nat) : Int) - 1) = ((s : Nat) : Int) - 1 from wrp_id (by omega) (by omega)]
      refine qG.blk 1 (pc' := 58) (ls' := [(2, 23), (2, 74), (0, ((k : Nat) : Int)), (0, ((A : Nat) : Int)), (0, b9), (0, f9), (0, ((s : Nat) : Int)), (0, ((r : Nat) : Int)), x8]) (st' := [(0, qand ((s : Nat) : Int) (((s : Nat) : Int) - 1)), (2, 40), (0, ((s : Nat) : Int)), (2, 40)]) (w' := w9) (n' := 142) rfl ?_
      rw [show qand ((s : Nat) : Int) (((s : Nat) : Int) - 1) = ((i2 : Nat) : Int) from hi2]
      refine qG.ild (m := 1024) rfl rfl (by omega) (by decide) ?_
      show qG none (d + 1) 48 59 [(2, 23), (2, 74), (0, ((k : Nat) : Int)), (0, ((A : Nat) : Int)), (0, b9), (0, f9), (0, ((s : Nat) : Int)), (0, ((r : Nat) : Int)), x8] [(0, w9 40 i2), (0, ((s : Nat) : Int)), (2, 40)] w9 142 Q9
      rw [show w9 40 i2 = prW w 2 i2 10 from hi4]
      refine qG.blk 3 (pc' := 63) (ls' := [(2, 23), (2, 74), (0, ((k : Nat) : Int)), (0, ((A : Nat) : Int)), (0, b9), (0, f9), (0, ((s : Nat) : Int)), (0, ((r : Nat) : Int)), x8]) (st' := [(0, 1), (0, ((r : Nat) : Int)), (2, 74), (0, prW w 2 i2 10), (0, ((s : Nat) : Int)), (2, 40)]) (w' := w9) (n' := 142) rfl ?_
      refine qG.call (t := 27) (na := 3) (sk := 1) (md := 1) (ls1 := [(2, 74), (0, ((r : Nat) : Int)), (0, 1), (9, 0), (9, 0)]) (r1 := [(0, prW w 2 i2 10), (0, ((s : Nat) : Int)), (2, 40)]) rfl rfl rfl rfl rfl (K_shown74 (Nat.zero_le _) r 1 w9 hI9 ((hfr 74 0 (by decide)).trans (hK1.trans (hfr 96 2 (by decide)).symm)) hE9) ?_
      rintro _ w7 _ ⟨rfl, hw7, rfl⟩
      rw [hw7, hth9]
      show qG none (d + 1) 48 66 [(2, 23), (2, 74), (0, ((k : Nat) : Int)), (0, ((A : Nat) : Int)), (0, b9), (0, f9), (0, ((s : Nat) : Int)), (0, ((r : Nat) : Int)), x8] [(0, shD w 2 r 1), (0, prW w 2 i2 10), (0, ((s : Nat) : Int)), (2, 40)] w9 142 Q9
      refine qG.blk 1 (pc' := 67) (ls' := [(2, 23), (2, 74), (0, ((k : Nat) : Int)), (0, ((A : Nat) : Int)), (0, b9), (0, f9), (0, ((s : Nat) : Int)), (0, ((r : Nat) : Int)), x8]) (st' := [(0, qor (prW w 2 i2 10) (shD w 2 r 1)), (0, ((s : Nat) : Int)), (2, 40)]) (w' := w9) (n' := 142) rfl ?_
      refine qG.ist (m := 1024) rfl rfl (by omega) (by decide) ?_
      show qG none (d + 1) 48 68 [(2, 23), (2, 74), (0, ((k : Nat) : Int)), (0, ((A : Nat) : Int)), (0, b9), (0, f9), (0, ((s : Nat) : Int)), (0, ((r : Nat) : Int)), x8] [] (qup w9 40 s (qor (prW w 2 i2 10) (shD w 2 r 1))) 142 Q9
      refine qG.blk 1 (pc' := 70) (ls' := [(2, 23), (2, 74), (0, ((k : Nat) : Int)), (0, ((A : Nat) : Int)), (0, b9), (0, f9), (0, ((s : Nat) : Int)), (0, ((r : Nat) : Int)), x8]) (st' := [(0, ((s : Nat) : Int))]) (w' := (qup w9 40 s (qor (prW w 2 i2 10) (shD w 2 r 1)))) (n' := 142) rfl ?_
      obtain ⟨wB, hwB⟩ : ∃ q : qW, q = (qup w9 40 s (qor (prW w 2 i2 10) (shD w 2 r 1))) := ⟨_, rfl⟩
      have hin9 := prW_in (set := s) hI hE (show 2 < 3 by decide) 10 (Nat.le_refl _)
      have hIB : yInv zgf zga zra zSp wB := by rw [hwB, ← hi5]; exact zup_a hI9 (b := (0, 65535)) rfl rfl ⟨hin9.1, hin9.2⟩
      have hrowB : ∀ j, j < s + 1 ∨ j = 0 → wB 40 j = prW w 2 j 10 := by rw [hwB, ← hi5]; exact row_up hrow
      rw [← hwB]
      refine qG.call (t := 302) (na := 1) (sk := 0) (md := 0) (ls1 := [(0, ((s : Nat) : Int))]) (r1 := []) rfl rfl rfl rfl rfl (K_bcJ (Nat.zero_le _) ((s : Nat) : Int) (by omega) (by omega) _) ?_
      rintro _ w7 _ ⟨rfl, hw7, rfl⟩
      rw [hw7, show bitsF ((s : Nat) : Int) 30 = bitsF ((s : Nat) : Int) 16 from by rw [bitsF_n (by omega) 30 (by decide), bitsF_n (by omega) 16 (by decide), pcn_h (by omega)]]
      show qG none (d + 1) 48 73 [(2, 23), (2, 74), (0, ((k : Nat) : Int)), (0, ((A : Nat) : Int)), (0, b9), (0, f9), (0, ((s : Nat) : Int)), (0, ((r : Nat) : Int)), x8] [(0, bitsF ((s : Nat) : Int) 16)] wB 142 Q9
      refine qG.blk 6 (pc' := 81) (ls' := [(2, 23), (2, 74), (0, ((k : Nat) : Int)), (0, ((A : Nat) : Int)), (0, b9), (0, f9), (0, ((s : Nat) : Int)), (0, ((r : Nat) : Int)), (0, bitsF ((s : Nat) : Int) 16)]) (st' := [(0, qand ((s : Nat) : Int) (qxor ((A : Nat) : Int) (-1)))]) (w' := wB) (n' := 142) rfl ?_
      rw [show qand ((s : Nat) : Int) (qxor ((A : Nat) : Int) (-1)) = ((s &&& R : Nat) : Int) from (by rw [← hA]; exact ref_eq (by omega) hR)]
      refine qG.br (P := ((s &&& R : Nat) : Int) = 0) (pc1 := 84) (pc2 := 116) (st1 := []) rfl (fun h81 => ?_) (fun h81 => ?_)
      · skip
        have hz81 : s &&& R = 0 := by omega
        refine qG.blk 2 (pc' := 88) (ls' := [(2, 23), (2, 74), (0, ((k : Nat) : Int)), (0, ((A : Nat) : Int)), (0, b9), (0, f9), (0, ((s : Nat) : Int)), (0, ((r : Nat) : Int)), (0, bitsF ((s : Nat) : Int) 16)]) (st' := [(0, f9), (0, bitsF ((s : Nat) : Int) 16)]) (w' := wB) (n' := 142) rfl ?_
        refine qG.br (P := bitsF ((s : Nat) : Int) 16 < f9) (pc1 := 91) (pc2 := 116) (st1 := []) rfl (fun hbt0 => ?_) (fun hbt0 => ?_)
        · skip
          have hbt : b9 = -1 ∨ bitsF ((s : Nat) : Int) 16 < bitsF b9 16 := Decidable.byCases (fun e => .inl e) (fun e => .inr (by rw [hf9, if_neg e] at hbt0; exact hbt0))
          refine qG.blk 2 (pc' := 95) (ls' := [(2, 23), (2, 74), (0, ((k : Nat) : Int)), (0, ((A : Nat) : Int)), (0, b9), (0, f9), (0, ((s : Nat) : Int)), (0, ((r : Nat) : Int)), (0, bitsF ((s : Nat) : Int) 16)]) (st' := [(2, wB 23 0)]) (w' := wB) (n' := 142) rfl ?_
          rw [show wB 23 0 = 24 from (by rw [hwB, qup_ne (by decide)]; exact (hfr 23 0 (by decide)).trans (zref h1I rfl rfl))]
          refine qG.blk 2 (pc' := 99) (ls' := [(2, 23), (2, 74), (0, ((k : Nat) : Int)), (0, ((A : Nat) : Int)), (0, b9), (0, f9), (0, ((s : Nat) : Int)), (0, ((r : Nat) : Int)), (0, bitsF ((s : Nat) : Int) 16)]) (st' := [(2, wB 23 15), (2, 24)]) (w' := wB) (n' := 142) rfl ?_
          rw [show wB 23 15 = 40 from (by rw [hwB, qup_ne (by decide)]; exact (hfr 23 15 (by decide)).trans (zref h1I rfl rfl))]
          refine qG.blk 1 (pc' := 101) (ls' := [(2, 23), (2, 74), (0, ((k : Nat) : Int)), (0, ((A : Nat) : Int)), (0, b9), (0, f9), (0, ((s : Nat) : Int)), (0, ((r : Nat) : Int)), (0, bitsF ((s : Nat) : Int) 16)]) (st' := [(0, ((s : Nat) : Int)), (2, 40), (2, 24)]) (w' := wB) (n' := 142) rfl ?_
          refine qG.ild (m := 1024) rfl rfl (by omega) (by decide) ?_
          show qG none (d + 1) 48 102 [(2, 23), (2, 74), (0, ((k : Nat) : Int)), (0, ((A : Nat) : Int)), (0, b9), (0, f9), (0, ((s : Nat) : Int)), (0, ((r : Nat) : Int)), (0, bitsF ((s : Nat) : Int) 16)] [(0, wB 40 s), (2, 24)] wB 142 Q9
          rw [show wB 40 s = prW w 2 s 10 from hrowB s (.inl (by omega))]
          refine qG.call (t := 104) (na := 2) (sk := 1) (md := 1) (ls1 := [(2, 24), (0, prW w 2 s 10), (9, 0)]) (r1 := []) rfl rfl rfl rfl rfl (K_allSeen (Nat.zero_le _) LL hL180 (prW w 2 s 10) wB hIB (by rw [hwB, qup_ne (by decide), hfr 24 3 (by decide)]; exact hT.1) (fun j hj => by rw [hwB, qup_ne (by decide), hfr 25 j (by decide)]; exact hT.2 j hj)) ?_
          rintro _ w7 _ ⟨rfl, hw7, rfl⟩
          rw [hw7]
          show qG none (d + 1) 48 105 [(2, 23), (2, 74), (0, ((k : Nat) : Int)), (0, ((A : Nat) : Int)), (0, b9), (0, f9), (0, ((s : Nat) : Int)), (0, ((r : Nat) : Int)), (0, bitsF ((s : Nat) : Int) 16)] [(0, (if alF LL (prW w 2 s 10) LL.length = true then 1 else 0))] wB 142 Q9
          refine qG.br (P := (if alF LL (prW w 2 s 10) LL.length = true then 1 else 0) = 0) (pc1 := 116) (pc2 := 108) (st1 := []) rfl (fun hal0 => ?_) (fun hal0 => ?_)
          · skip
            have hal : ¬ alF LL (prW w 2 s 10) LL.length = true := ite01.mp hal0
            refine qG.blk 1 (pc' := 119) (ls' := [(2, 23), (2, 74), (0, ((k : Nat) : Int)), (0, ((A : Nat) : Int)), (0, b9), (0, f9), (0, wrp (((s : Nat) : Int) + 1)), (0, ((r : Nat) : Int)), (0, bitsF ((s : Nat) : Int) 16)]) (st' := []) (w' := wB) (n' := 142) rfl ?_
            rw [show wrp (((s : Nat) : Int) + 1) = ((s + 1 : Nat) : Int) from wrp_id (by omega) (by omega)]
            refine qG.blk 1 (pc' := 26) (ls' := [(2, 23), (2, 74), (0, ((k : Nat) : Int)), (0, ((A : Nat) : Int)), (0, b9), (0, f9), (0, ((s + 1 : Nat) : Int)), (0, ((r : Nat) : Int)), (0, bitsF ((s : Nat) : Int) 16)]) (st' := []) (w' := wB) (n' := 142) rfl ?_
            have hn9 : bpF w 2 k R (s + 1) = b9 := by unfold bpF; rw [← hLL, ← hb9]; exact if_neg (fun z => by first | exact hz81 z.1 | exact hbt z.2.1 | exact hal z.2.2)
            exact ih26 _ (by omega) (s + 1) (wB) (b9) (f9) ((0, ((r : Nat) : Int))) ((0, bitsF ((s : Nat) : Int) 16)) rfl ⟨by omega, fun q j h => by rw [hwB, qup_ne h]; exact hfr q j h, hrowB, hn9.symm, (by first | exact hf9 | exact (if_neg (by omega)).symm), hIB⟩
          · skip
            have hal : alF LL (prW w 2 s 10) LL.length = true := Decidable.of_not_not (fun z => hal0 (ite01.mpr z))
            refine qG.blk 5 (pc' := 119) (ls' := [(2, 23), (2, 74), (0, ((k : Nat) : Int)), (0, ((A : Nat) : Int)), (0, ((s : Nat) : Int)), (0, bitsF ((s : Nat) : Int) 16), (0, wrp (((s : Nat) : Int) + 1)), (0, ((r : Nat) : Int)), (0, bitsF ((s : Nat) : Int) 16)]) (st' := []) (w' := wB) (n' := 142) rfl ?_
            rw [show wrp (((s : Nat) : Int) + 1) = ((s + 1 : Nat) : Int) from wrp_id (by omega) (by omega)]
            refine qG.blk 1 (pc' := 26) (ls' := [(2, 23), (2, 74), (0, ((k : Nat) : Int)), (0, ((A : Nat) : Int)), (0, ((s : Nat) : Int)), (0, bitsF ((s : Nat) : Int) 16), (0, ((s + 1 : Nat) : Int)), (0, ((r : Nat) : Int)), (0, bitsF ((s : Nat) : Int) 16)]) (st' := []) (w' := wB) (n' := 142) rfl ?_
            have hn9 : bpF w 2 k R (s + 1) = ((s : Nat) : Int) := by unfold bpF; rw [← hLL, ← hb9]; exact if_pos ⟨hz81, hbt, hal⟩
            exact ih26 _ (by omega) (s + 1) (wB) (((s : Nat) : Int)) (bitsF ((s : Nat) : Int) 16) ((0, ((r : Nat) : Int))) ((0, bitsF ((s : Nat) : Int) 16)) rfl ⟨by omega, fun q j h => by rw [hwB, qup_ne h]; exact hfr q j h, hrowB, hn9.symm, (by first | exact hf9 | exact (if_neg (by omega)).symm), hIB⟩
        · skip
          have hbt : ¬ (b9 = -1 ∨ bitsF ((s : Nat) : Int) 16 < bitsF b9 16) := fun z => by rw [hf9] at hbt0; have q10 := of_decide_eq_true (bits_10 s (by omega)); by_cases e : b9 = -1; (rw [if_pos e] at hbt0; omega); (rw [if_neg e] at hbt0; rcases z with z | z; exact e z; exact hbt0 z)
          refine qG.blk 1 (pc' := 119) (ls' := [(2, 23), (2, 74), (0, ((k : Nat) : Int)), (0, ((A : Nat) : Int)), (0, b9), (0, f9), (0, wrp (((s : Nat) : Int) + 1)), (0, ((r : Nat) : Int)), (0, bitsF ((s : Nat) : Int) 16)]) (st' := []) (w' := wB) (n' := 142) rfl ?_
          rw [show wrp (((s : Nat) : Int) + 1) = ((s + 1 : Nat) : Int) from wrp_id (by omega) (by omega)]
          refine qG.blk 1 (pc' := 26) (ls' := [(2, 23), (2, 74), (0, ((k : Nat) : Int)), (0, ((A : Nat) : Int)), (0, b9), (0, f9), (0, ((s + 1 : Nat) : Int)), (0, ((r : Nat) : Int)), (0, bitsF ((s : Nat) : Int) 16)]) (st' := []) (w' := wB) (n' := 142) rfl ?_
          have hn9 : bpF w 2 k R (s + 1) = b9 := by unfold bpF; rw [← hLL, ← hb9]; exact if_neg (fun z => by first | exact hz81 z.1 | exact hbt z.2.1 | exact hal z.2.2)
          exact ih26 _ (by omega) (s + 1) (wB) (b9) (f9) ((0, ((r : Nat) : Int))) ((0, bitsF ((s : Nat) : Int) 16)) rfl ⟨by omega, fun q j h => by rw [hwB, qup_ne h]; exact hfr q j h, hrowB, hn9.symm, (by first | exact hf9 | exact (if_neg (by omega)).symm), hIB⟩
      · skip
        have hz81 : ¬ s &&& R = 0 := fun z => h81 (by rw [z]; rfl)
        refine qG.blk 1 (pc' := 119) (ls' := [(2, 23), (2, 74), (0, ((k : Nat) : Int)), (0, ((A : Nat) : Int)), (0, b9), (0, f9), (0, wrp (((s : Nat) : Int) + 1)), (0, ((r : Nat) : Int)), (0, bitsF ((s : Nat) : Int) 16)]) (st' := []) (w' := wB) (n' := 142) rfl ?_
        rw [show wrp (((s : Nat) : Int) + 1) = ((s + 1 : Nat) : Int) from wrp_id (by omega) (by omega)]
        refine qG.blk 1 (pc' := 26) (ls' := [(2, 23), (2, 74), (0, ((k : Nat) : Int)), (0, ((A : Nat) : Int)), (0, b9), (0, f9), (0, ((s + 1 : Nat) : Int)), (0, ((r : Nat) : Int)), (0, bitsF ((s : Nat) : Int) 16)]) (st' := []) (w' := wB) (n' := 142) rfl ?_
        have hn9 : bpF w 2 k R (s + 1) = b9 := by unfold bpF; rw [← hLL, ← hb9]; exact if_neg (fun z => by first | exact hz81 z.1 | exact hbt z.2.1 | exact hal z.2.2)
        exact ih26 _ (by omega) (s + 1) (wB) (b9) (f9) ((0, ((r : Nat) : Int))) ((0, bitsF ((s : Nat) : Int) 16)) rfl ⟨by omega, fun q j h => by rw [hwB, qup_ne h]; exact hfr q j h, hrowB, hn9.symm, (by first | exact hf9 | exact (if_neg (by omega)).symm), hIB⟩
  exact L26 _ (0) ((qup w1 40 0 0)) ((-1)) (11) ((9, 0)) ((9, 0)) rfl (⟨by omega, fun q j h => congrFun (qup_ne h) j, fun j hj => by rw [show j = 0 by omega, qup_k]; rfl, rfl, (if_pos rfl).symm, zup_a h1I (b := (0, 65535)) rfl rfl ⟨by decide, by decide⟩⟩)
theorem K_X11_isDoorSet {d : Nat} (hd : 0 ≤ d) (c : Int) (w : qW) : qG none d 201 0 [(0, c)] [] w 142 (fun (r : qV) (w1 : qW) (n1 : Nat) => r = (0, isInV c 0 1023) ∧ w1 = w ∧ n1 = 142) := by
  generalize hQ9 : (fun (r : qV) (w1 : qW) (n1 : Nat) => r = (0, isInV c 0 1023) ∧ w1 = w ∧ n1 = 142) = Q9
  refine qG.blk 1 (pc' := 1) (ls' := [(0, c)]) (st' := [(0, c)]) (w' := w) (n' := 142) rfl ?_
  refine qG.br (P := c < 0) (pc1 := 15) (pc2 := 4) (st1 := []) rfl (fun h1 => ?_) (fun h1 => ?_)
  · skip
    refine qG.blk 1 (pc' := 16) (ls' := [(0, c)]) (st' := [(0, 0)]) (w' := w) (n' := 142) rfl ?_
    refine qG.ret rfl (by first | rfl | exact decide_eq_true (by omega)) ?_
    subst hQ9
    exact ⟨by unfold isInV; split <;> (try split) <;> first | rfl | (exfalso; omega), rfl, rfl⟩
  · skip
    refine qG.blk 2 (pc' := 8) (ls' := [(0, c)]) (st' := [(0, 1023), (0, c)]) (w' := w) (n' := 142) rfl ?_
    refine qG.br (P := 1023 < c) (pc1 := 15) (pc2 := 11) (st1 := []) rfl (fun h2 => ?_) (fun h2 => ?_)
    · skip
      refine qG.blk 1 (pc' := 16) (ls' := [(0, c)]) (st' := [(0, 0)]) (w' := w) (n' := 142) rfl ?_
      refine qG.ret rfl (by first | rfl | exact decide_eq_true (by omega)) ?_
      subst hQ9
      exact ⟨by unfold isInV; split <;> (try split) <;> first | rfl | (exfalso; omega), rfl, rfl⟩
    · skip
      refine qG.blk 2 (pc' := 16) (ls' := [(0, c)]) (st' := [(0, 1)]) (w' := w) (n' := 142) rfl ?_
      refine qG.ret rfl (by first | rfl | exact decide_eq_true (by omega)) ?_
      subst hQ9
      exact ⟨by unfold isInV; split <;> (try split) <;> first | rfl | (exfalso; omega), rfl, rfl⟩
theorem K_X11_proofA_0 {d : Nat} (hd : 9 ≤ d) (n : Nat) (k s : Int) (w : qW) (hI : yInv zgf zga zra zSp w) (hJ : J9 n w) (hE : JE w) : qG none d 177 0 [(2, 1), (0, 0), (0, k), (0, s)] [] w 142 (fun (r : qV) (_ : qW) (_ : Nat) => r = (0, pfV w 0 k s)) := by
  generalize hQ9 : (fun (r : qV) (_ : qW) (_ : Nat) => r = (0, pfV w 0 k s)) = Q9
  obtain ⟨d, rfl⟩ : ∃ d9, d = d9 + 1 := ⟨d - 1, by omega⟩
  refine qG.blk 1 (pc' := 1) (ls' := [(2, 1), (0, 0), (0, k), (0, s)]) (st' := [(0, 0)]) (w' := w) (n' := 142) rfl ?_
  refine qG.call (t := 198) (na := 1) (sk := 0) (md := 0) (ls1 := [(0, 0)]) (r1 := []) rfl rfl rfl rfl rfl (K_X11_isChest (Nat.zero_le _) _ _) ?_
  rintro _ w7 _ ⟨rfl, hw7, rfl⟩
  rw [hw7, show isInV 0 0 2 = 1 from by decide]
  show qG none (d + 1) 177 4 [(2, 1), (0, 0), (0, k), (0, s)] [(0, 1)] w 142 Q9
  refine qG.br (P := (1 : Int) = 0) (pc1 := 21) (pc2 := 7) (st1 := []) rfl (fun h1 => ?_) (fun h1 => ?_)
  · exact absurd h1 (by decide)
  · skip
    refine qG.blk 1 (pc' := 8) (ls' := [(2, 1), (0, 0), (0, k), (0, s)]) (st' := [(0, k)]) (w' := w) (n' := 142) rfl ?_
    refine qG.call (t := 200) (na := 1) (sk := 0) (md := 0) (ls1 := [(0, k)]) (r1 := []) rfl rfl rfl rfl rfl (K_X11_isSize (Nat.zero_le _) _ _) ?_
    rintro _ w7 _ ⟨rfl, hw7, rfl⟩
    rw [hw7]
    show qG none (d + 1) 177 11 [(2, 1), (0, 0), (0, k), (0, s)] [(0, isInV k 1 4)] w 142 Q9
    refine qG.br (P := isInV k 1 4 = 0) (pc1 := 21) (pc2 := 14) (st1 := []) rfl (fun hk0 => ?_) (fun hk0 => ?_)
    · skip
      refine qG.blk 1 (pc' := 22) (ls' := [(2, 1), (0, 0), (0, k), (0, s)]) (st' := [(0, (-1))]) (w' := w) (n' := 142) rfl ?_
      refine qG.ret rfl rfl ?_
      subst hQ9
      first | exact (congrArg (Prod.mk 0) (pfV_s hk0).symm) | exact (congrArg (Prod.mk 0) (pfV_k hs0).symm) | exact (congrArg (Prod.mk 0) (pfV_y (c := 0) (by decide) hk0 hs0).symm)
    · skip
      obtain ⟨k9, rfl, hlk9, huk9⟩ := isIn_n (by decide) hk0
      refine qG.blk 1 (pc' := 15) (ls' := [(2, 1), (0, 0), (0, ((k9 : Nat) : Int)), (0, s)]) (st' := [(0, s)]) (w' := w) (n' := 142) rfl ?_
      refine qG.call (t := 201) (na := 1) (sk := 0) (md := 0) (ls1 := [(0, s)]) (r1 := []) rfl rfl rfl rfl rfl (K_X11_isDoorSet (Nat.zero_le _) _ _) ?_
      rintro _ w7 _ ⟨rfl, hw7, rfl⟩
      rw [hw7]
      show qG none (d + 1) 177 18 [(2, 1), (0, 0), (0, ((k9 : Nat) : Int)), (0, s)] [(0, isInV s 0 1023)] w 142 Q9
      refine qG.br (P := isInV s 0 1023 = 0) (pc1 := 21) (pc2 := 23) (st1 := []) rfl (fun hs0 => ?_) (fun hs0 => ?_)
      · skip
        refine qG.blk 1 (pc' := 22) (ls' := [(2, 1), (0, 0), (0, ((k9 : Nat) : Int)), (0, s)]) (st' := [(0, (-1))]) (w' := w) (n' := 142) rfl ?_
        refine qG.ret rfl rfl ?_
        subst hQ9
        first | exact (congrArg (Prod.mk 0) (pfV_s hk0).symm) | exact (congrArg (Prod.mk 0) (pfV_k hs0).symm) | exact (congrArg (Prod.mk 0) (pfV_y (c := 0) (by decide) hk0 hs0).symm)
      · skip
        obtain ⟨s9, rfl, hls9, hus9⟩ := isIn_n (by decide) hs0
        obtain ⟨A, hA, hA2⟩ := all_in (R := s9) (by omega)
        refine qG.blk 2 (pc' := 27) (ls' := [(2, 1), (0, 0), (0, ((k9 : Nat) : Int)), (0, ((s9 : Nat) : Int))]) (st' := [(2, w 1 5)]) (w' := w) (n' := 142) rfl ?_
        rw [show w 1 5 = 23 from zref hI rfl rfl]
        refine qG.blk 2 (pc' := 31) (ls' := [(2, 1), (0, 0), (0, ((k9 : Nat) : Int)), (0, ((s9 : Nat) : Int))]) (st' := [(2, w 1 0), (2, 23)]) (w' := w) (n' := 142) rfl ?_
        rw [show w 1 0 = 2 from zref hI rfl rfl]
        refine qG.blk 1 (pc' := 32) (ls' := [(2, 1), (0, 0), (0, ((k9 : Nat) : Int)), (0, ((s9 : Nat) : Int))]) (st' := [(0, 0), (2, 2), (2, 23)]) (w' := w) (n' := 142) rfl ?_
        refine qG.ar (P := 0 ≤ 0 ∧ 0 < ((3 : Nat) : Int)) (P2 := 0 < (2 : Int) ∧ (2 : Int) ≤ ((142 : Nat) : Int)) (pc' := 33) (ls' := [(2, 1), (0, 0), (0, ((k9 : Nat) : Int)), (0, ((s9 : Nat) : Int))]) (st' := [(2, w 2 0), (2, 23)]) (w' := w) (n' := 142) rfl (by omega) (by decide) ?_
        rw [show w 2 0 = 64 from zref hI rfl rfl]
        refine qG.blk 6 (pc' := 41) (ls' := [(2, 1), (0, 0), (0, ((k9 : Nat) : Int)), (0, ((s9 : Nat) : Int))]) (st' := [(0, qand 1023 (qxor ((s9 : Nat) : Int) (-1))), (0, ((k9 : Nat) : Int)), (2, 64), (2, 23)]) (w' := w) (n' := 142) rfl ?_
        rw [show qand 1023 (qxor ((s9 : Nat) : Int) (-1)) = ((A : Nat) : Int) from hA]
        refine qG.call (t := 48) (na := 4) (sk := 1) (md := 1) (ls1 := [(2, 23), (2, 64), (0, ((k9 : Nat) : Int)), (0, ((A : Nat) : Int)), (9, 0), (9, 0), (9, 0), (9, 0), (9, 0)]) (r1 := []) rfl rfl rfl rfl rfl (K_findProof64 (by omega) k9 (by omega) (by omega) s9 (by omega) A hA n w hI hJ hE) ?_
        rintro _ w1 _ ⟨rfl, rfl⟩
        show qG none (d + 1) 177 44 [(2, 1), (0, 0), (0, ((k9 : Nat) : Int)), (0, ((s9 : Nat) : Int))] [(0, bpF w 0 k9 s9 1024)] w1 142 Q9
        refine qG.ret rfl rfl ?_
        subst hQ9
        first | exact (congrArg (Prod.mk 0) (pfV_s hk0).symm) | exact (congrArg (Prod.mk 0) (pfV_k hs0).symm) | exact (congrArg (Prod.mk 0) (pfV_y (c := 0) (by decide) hk0 hs0).symm)
theorem K_X11_proofA_1 {d : Nat} (hd : 9 ≤ d) (n : Nat) (k s : Int) (w : qW) (hI : yInv zgf zga zra zSp w) (hJ : J9 n w) (hE : JE w) : qG none d 177 0 [(2, 1), (0, 1), (0, k), (0, s)] [] w 142 (fun (r : qV) (_ : qW) (_ : Nat) => r = (0, pfV w 1 k s)) := by
  generalize hQ9 : (fun (r : qV) (_ : qW) (_ : Nat) => r = (0, pfV w 1 k s)) = Q9
  obtain ⟨d, rfl⟩ : ∃ d9, d = d9 + 1 := ⟨d - 1, by omega⟩
  refine qG.blk 1 (pc' := 1) (ls' := [(2, 1), (0, 1), (0, k), (0, s)]) (st' := [(0, 1)]) (w' := w) (n' := 142) rfl ?_
  refine qG.call (t := 198) (na := 1) (sk := 0) (md := 0) (ls1 := [(0, 1)]) (r1 := []) rfl rfl rfl rfl rfl (K_X11_isChest (Nat.zero_le _) _ _) ?_
  rintro _ w7 _ ⟨rfl, hw7, rfl⟩
  rw [hw7, show isInV 1 0 2 = 1 from by decide]
  show qG none (d + 1) 177 4 [(2, 1), (0, 1), (0, k), (0, s)] [(0, 1)] w 142 Q9
  refine qG.br (P := (1 : Int) = 0) (pc1 := 21) (pc2 := 7) (st1 := []) rfl (fun h1 => ?_) (fun h1 => ?_)
  · exact absurd h1 (by decide)
  · skip
    refine qG.blk 1 (pc' := 8) (ls' := [(2, 1), (0, 1), (0, k), (0, s)]) (st' := [(0, k)]) (w' := w) (n' := 142) rfl ?_
    refine qG.call (t := 200) (na := 1) (sk := 0) (md := 0) (ls1 := [(0, k)]) (r1 := []) rfl rfl rfl rfl rfl (K_X11_isSize (Nat.zero_le _) _ _) ?_
    rintro _ w7 _ ⟨rfl, hw7, rfl⟩
    rw [hw7]
    show qG none (d + 1) 177 11 [(2, 1), (0, 1), (0, k), (0, s)] [(0, isInV k 1 4)] w 142 Q9
    refine qG.br (P := isInV k 1 4 = 0) (pc1 := 21) (pc2 := 14) (st1 := []) rfl (fun hk0 => ?_) (fun hk0 => ?_)
    · skip
      refine qG.blk 1 (pc' := 22) (ls' := [(2, 1), (0, 1), (0, k), (0, s)]) (st' := [(0, (-1))]) (w' := w) (n' := 142) rfl ?_
      refine qG.ret rfl rfl ?_
      subst hQ9
      first | exact (congrArg (Prod.mk 0) (pfV_s hk0).symm) | exact (congrArg (Prod.mk 0) (pfV_k hs0).symm) | exact (congrArg (Prod.mk 0) (pfV_y (c := 1) (by decide) hk0 hs0).symm)
    · skip
      obtain ⟨k9, rfl, hlk9, huk9⟩ := isIn_n (by decide) hk0
      refine qG.blk 1 (pc' := 15) (ls' := [(2, 1), (0, 1), (0, ((k9 : Nat) : Int)), (0, s)]) (st' := [(0, s)]) (w' := w) (n' := 142) rfl ?_
      refine qG.call (t := 201) (na := 1) (sk := 0) (md := 0) (ls1 := [(0, s)]) (r1 := []) rfl rfl rfl rfl rfl (K_X11_isDoorSet (Nat.zero_le _) _ _) ?_
      rintro _ w7 _ ⟨rfl, hw7, rfl⟩
      rw [hw7]
      show qG none (d + 1) 177 18 [(2, 1), (0, 1), (0, ((k9 : Nat) : Int)), (0, s)] [(0, isInV s 0 1023)] w 142 Q9
      refine qG.br (P := isInV s 0 1023 = 0) (pc1 := 21) (pc2 := 23) (st1 := []) rfl (fun hs0 => ?_) (fun hs0 => ?_)
      · skip
        refine qG.blk 1 (pc' := 22) (ls' := [(2, 1), (0, 1), (0, ((k9 : Nat) : Int)), (0, s)]) (st' := [(0, (-1))]) (w' := w) (n' := 142) rfl ?_
        refine qG.ret rfl rfl ?_
        subst hQ9
        first | exact (congrArg (Prod.mk 0) (pfV_s hk0).symm) | exact (congrArg (Prod.mk 0) (pfV_k hs0).symm) | exact (congrArg (Prod.mk 0) (pfV_y (c := 1) (by decide) hk0 hs0).symm)
      · skip
        obtain ⟨s9, rfl, hls9, hus9⟩ := isIn_n (by decide) hs0
        obtain ⟨A, hA, hA2⟩ := all_in (R := s9) (by omega)
        refine qG.blk 2 (pc' := 27) (ls' := [(2, 1), (0, 1), (0, ((k9 : Nat) : Int)), (0, ((s9 : Nat) : Int))]) (st' := [(2, w 1 5)]) (w' := w) (n' := 142) rfl ?_
        rw [show w 1 5 = 23 from zref hI rfl rfl]
        refine qG.blk 2 (pc' := 31) (ls' := [(2, 1), (0, 1), (0, ((k9 : Nat) : Int)), (0, ((s9 : Nat) : Int))]) (st' := [(2, w 1 0), (2, 23)]) (w' := w) (n' := 142) rfl ?_
        rw [show w 1 0 = 2 from zref hI rfl rfl]
        refine qG.blk 1 (pc' := 32) (ls' := [(2, 1), (0, 1), (0, ((k9 : Nat) : Int)), (0, ((s9 : Nat) : Int))]) (st' := [(0, 1), (2, 2), (2, 23)]) (w' := w) (n' := 142) rfl ?_
        refine qG.ar (P := 0 ≤ 1 ∧ 1 < ((3 : Nat) : Int)) (P2 := 0 < (2 : Int) ∧ (2 : Int) ≤ ((142 : Nat) : Int)) (pc' := 33) (ls' := [(2, 1), (0, 1), (0, ((k9 : Nat) : Int)), (0, ((s9 : Nat) : Int))]) (st' := [(2, w 2 1), (2, 23)]) (w' := w) (n' := 142) rfl (by omega) (by decide) ?_
        rw [show w 2 1 = 69 from zref hI rfl rfl]
        refine qG.blk 6 (pc' := 41) (ls' := [(2, 1), (0, 1), (0, ((k9 : Nat) : Int)), (0, ((s9 : Nat) : Int))]) (st' := [(0, qand 1023 (qxor ((s9 : Nat) : Int) (-1))), (0, ((k9 : Nat) : Int)), (2, 69), (2, 23)]) (w' := w) (n' := 142) rfl ?_
        rw [show qand 1023 (qxor ((s9 : Nat) : Int) (-1)) = ((A : Nat) : Int) from hA]
        refine qG.call (t := 48) (na := 4) (sk := 1) (md := 1) (ls1 := [(2, 23), (2, 69), (0, ((k9 : Nat) : Int)), (0, ((A : Nat) : Int)), (9, 0), (9, 0), (9, 0), (9, 0), (9, 0)]) (r1 := []) rfl rfl rfl rfl rfl (K_findProof69 (by omega) k9 (by omega) (by omega) s9 (by omega) A hA n w hI hJ hE) ?_
        rintro _ w1 _ ⟨rfl, rfl⟩
        show qG none (d + 1) 177 44 [(2, 1), (0, 1), (0, ((k9 : Nat) : Int)), (0, ((s9 : Nat) : Int))] [(0, bpF w 1 k9 s9 1024)] w1 142 Q9
        refine qG.ret rfl rfl ?_
        subst hQ9
        first | exact (congrArg (Prod.mk 0) (pfV_s hk0).symm) | exact (congrArg (Prod.mk 0) (pfV_k hs0).symm) | exact (congrArg (Prod.mk 0) (pfV_y (c := 1) (by decide) hk0 hs0).symm)
theorem K_X11_proofA_2 {d : Nat} (hd : 9 ≤ d) (n : Nat) (k s : Int) (w : qW) (hI : yInv zgf zga zra zSp w) (hJ : J9 n w) (hE : JE w) : qG none d 177 0 [(2, 1), (0, 2), (0, k), (0, s)] [] w 142 (fun (r : qV) (_ : qW) (_ : Nat) => r = (0, pfV w 2 k s)) := by
  generalize hQ9 : (fun (r : qV) (_ : qW) (_ : Nat) => r = (0, pfV w 2 k s)) = Q9
  obtain ⟨d, rfl⟩ : ∃ d9, d = d9 + 1 := ⟨d - 1, by omega⟩
  refine qG.blk 1 (pc' := 1) (ls' := [(2, 1), (0, 2), (0, k), (0, s)]) (st' := [(0, 2)]) (w' := w) (n' := 142) rfl ?_
  refine qG.call (t := 198) (na := 1) (sk := 0) (md := 0) (ls1 := [(0, 2)]) (r1 := []) rfl rfl rfl rfl rfl (K_X11_isChest (Nat.zero_le _) _ _) ?_
  rintro _ w7 _ ⟨rfl, hw7, rfl⟩
  rw [hw7, show isInV 2 0 2 = 1 from by decide]
  show qG none (d + 1) 177 4 [(2, 1), (0, 2), (0, k), (0, s)] [(0, 1)] w 142 Q9
  refine qG.br (P := (1 : Int) = 0) (pc1 := 21) (pc2 := 7) (st1 := []) rfl (fun h1 => ?_) (fun h1 => ?_)
  · exact absurd h1 (by decide)
  · skip
    refine qG.blk 1 (pc' := 8) (ls' := [(2, 1), (0, 2), (0, k), (0, s)]) (st' := [(0, k)]) (w' := w) (n' := 142) rfl ?_
    refine qG.call (t := 200) (na := 1) (sk := 0) (md := 0) (ls1 := [(0, k)]) (r1 := []) rfl rfl rfl rfl rfl (K_X11_isSize (Nat.zero_le _) _ _) ?_
    rintro _ w7 _ ⟨rfl, hw7, rfl⟩
    rw [hw7]
    show qG none (d + 1) 177 11 [(2, 1), (0, 2), (0, k), (0, s)] [(0, isInV k 1 4)] w 142 Q9
    refine qG.br (P := isInV k 1 4 = 0) (pc1 := 21) (pc2 := 14) (st1 := []) rfl (fun hk0 => ?_) (fun hk0 => ?_)
    · skip
      refine qG.blk 1 (pc' := 22) (ls' := [(2, 1), (0, 2), (0, k), (0, s)]) (st' := [(0, (-1))]) (w' := w) (n' := 142) rfl ?_
      refine qG.ret rfl rfl ?_
      subst hQ9
      first | exact (congrArg (Prod.mk 0) (pfV_s hk0).symm) | exact (congrArg (Prod.mk 0) (pfV_k hs0).symm) | exact (congrArg (Prod.mk 0) (pfV_y (c := 2) (by decide) hk0 hs0).symm)
    · skip
      obtain ⟨k9, rfl, hlk9, huk9⟩ := isIn_n (by decide) hk0
      refine qG.blk 1 (pc' := 15) (ls' := [(2, 1), (0, 2), (0, ((k9 : Nat) : Int)), (0, s)]) (st' := [(0, s)]) (w' := w) (n' := 142) rfl ?_
      refine qG.call (t := 201) (na := 1) (sk := 0) (md := 0) (ls1 := [(0, s)]) (r1 := []) rfl rfl rfl rfl rfl (K_X11_isDoorSet (Nat.zero_le _) _ _) ?_
      rintro _ w7 _ ⟨rfl, hw7, rfl⟩
      rw [hw7]
      show qG none (d + 1) 177 18 [(2, 1), (0, 2), (0, ((k9 : Nat) : Int)), (0, s)] [(0, isInV s 0 1023)] w 142 Q9
      refine qG.br (P := isInV s 0 1023 = 0) (pc1 := 21) (pc2 := 23) (st1 := []) rfl (fun hs0 => ?_) (fun hs0 => ?_)
      · skip
        refine qG.blk 1 (pc' := 22) (ls' := [(2, 1), (0, 2), (0, ((k9 : Nat) : Int)), (0, s)]) (st' := [(0, (-1))]) (w' := w) (n' := 142) rfl ?_
        refine qG.ret rfl rfl ?_
        subst hQ9
        first | exact (congrArg (Prod.mk 0) (pfV_s hk0).symm) | exact (congrArg (Prod.mk 0) (pfV_k hs0).symm) | exact (congrArg (Prod.mk 0) (pfV_y (c := 2) (by decide) hk0 hs0).symm)
      · skip
        obtain ⟨s9, rfl, hls9, hus9⟩ := isIn_n (by decide) hs0
        obtain ⟨A, hA, hA2⟩ := all_in (R := s9) (by omega)
        refine qG.blk 2 (pc' := 27) (ls' := [(2, 1), (0, 2), (0, ((k9 : Nat) : Int)), (0, ((s9 : Nat) : Int))]) (st' := [(2, w 1 5)]) (w' := w) (n' := 142) rfl ?_
        rw [show w 1 5 = 23 from zref hI rfl rfl]
        refine qG.blk 2 (pc' := 31) (ls' := [(2, 1), (0, 2), (0, ((k9 : Nat) : Int)), (0, ((s9 : Nat) : Int))]) (st' := [(2, w 1 0), (2, 23)]) (w' := w) (n' := 142) rfl ?_
        rw [show w 1 0 = 2 from zref hI rfl rfl]
        refine qG.blk 1 (pc' := 32) (ls' := [(2, 1), (0, 2), (0, ((k9 : Nat) : Int)), (0, ((s9 : Nat) : Int))]) (st' := [(0, 2), (2, 2), (2, 23)]) (w' := w) (n' := 142) rfl ?_
        refine qG.ar (P := 0 ≤ 2 ∧ 2 < ((3 : Nat) : Int)) (P2 := 0 < (2 : Int) ∧ (2 : Int) ≤ ((142 : Nat) : Int)) (pc' := 33) (ls' := [(2, 1), (0, 2), (0, ((k9 : Nat) : Int)), (0, ((s9 : Nat) : Int))]) (st' := [(2, w 2 2), (2, 23)]) (w' := w) (n' := 142) rfl (by omega) (by decide) ?_
        rw [show w 2 2 = 74 from zref hI rfl rfl]
        refine qG.blk 6 (pc' := 41) (ls' := [(2, 1), (0, 2), (0, ((k9 : Nat) : Int)), (0, ((s9 : Nat) : Int))]) (st' := [(0, qand 1023 (qxor ((s9 : Nat) : Int) (-1))), (0, ((k9 : Nat) : Int)), (2, 74), (2, 23)]) (w' := w) (n' := 142) rfl ?_
        rw [show qand 1023 (qxor ((s9 : Nat) : Int) (-1)) = ((A : Nat) : Int) from hA]
        refine qG.call (t := 48) (na := 4) (sk := 1) (md := 1) (ls1 := [(2, 23), (2, 74), (0, ((k9 : Nat) : Int)), (0, ((A : Nat) : Int)), (9, 0), (9, 0), (9, 0), (9, 0), (9, 0)]) (r1 := []) rfl rfl rfl rfl rfl (K_findProof74 (by omega) k9 (by omega) (by omega) s9 (by omega) A hA n w hI hJ hE) ?_
        rintro _ w1 _ ⟨rfl, rfl⟩
        show qG none (d + 1) 177 44 [(2, 1), (0, 2), (0, ((k9 : Nat) : Int)), (0, ((s9 : Nat) : Int))] [(0, bpF w 2 k9 s9 1024)] w1 142 Q9
        refine qG.ret rfl rfl ?_
        subst hQ9
        first | exact (congrArg (Prod.mk 0) (pfV_s hk0).symm) | exact (congrArg (Prod.mk 0) (pfV_k hs0).symm) | exact (congrArg (Prod.mk 0) (pfV_y (c := 2) (by decide) hk0 hs0).symm)
theorem K_X11_proofA_n {d : Nat} (hd : 9 ≤ d) (c k s : Int) (hc : isInV c 0 2 = 0) (w : qW) (hI : yInv zgf zga zra zSp w) : qG none d 177 0 [(2, 1), (0, c), (0, k), (0, s)] [] w 142 (fun (r : qV) (_ : qW) (_ : Nat) => r = (0, pfV w c k s)) := by
  generalize hQ9 : (fun (r : qV) (_ : qW) (_ : Nat) => r = (0, pfV w c k s)) = Q9
  obtain ⟨d, rfl⟩ : ∃ d9, d = d9 + 1 := ⟨d - 1, by omega⟩
  refine qG.blk 1 (pc' := 1) (ls' := [(2, 1), (0, c), (0, k), (0, s)]) (st' := [(0, c)]) (w' := w) (n' := 142) rfl ?_
  refine qG.call (t := 198) (na := 1) (sk := 0) (md := 0) (ls1 := [(0, c)]) (r1 := []) rfl rfl rfl rfl rfl (K_X11_isChest (Nat.zero_le _) _ _) ?_
  rintro _ w7 _ ⟨rfl, hw7, rfl⟩
  rw [hw7]
  show qG none (d + 1) 177 4 [(2, 1), (0, c), (0, k), (0, s)] [(0, isInV c 0 2)] w 142 Q9
  refine qG.br (P := isInV c 0 2 = 0) (pc1 := 21) (pc2 := 7) (st1 := []) rfl (fun hc0 => ?_) (fun hc0 => ?_)
  · skip
    refine qG.blk 1 (pc' := 22) (ls' := [(2, 1), (0, c), (0, k), (0, s)]) (st' := [(0, (-1))]) (w' := w) (n' := 142) rfl ?_
    refine qG.ret rfl rfl ?_
    subst hQ9
    exact (congrArg (Prod.mk 0) (pfV_c hc).symm)
  · exfalso; exact hc0 hc
theorem K_X11_proofA {d : Nat} (hd : 9 ≤ d) (n : Nat) (c k s : Int) (w : qW) (hI : yInv zgf zga zra zSp w) (hJ : J9 n w) (hE : JE w) : qG none d 177 0 (qini 177 [(2, 1), (0, c), (0, k), (0, s)]) [] w 142 (fun (r : qV) (_ : qW) (_ : Nat) => r = (0, pfV w c k s)) := by
  by_cases h : isInV c 0 2 = 0
  · exact K_X11_proofA_n hd c k s h w hI
  · obtain ⟨m, rfl, h1, h2⟩ := isIn_n (by decide) h
    rcases (show m = 0 ∨ m = 1 ∨ m = 2 by omega) with rfl | rfl | rfl
    · exact K_X11_proofA_0 hd n k s w hI hJ hE
    · exact K_X11_proofA_1 hd n k s w hI hJ hE
    · exact K_X11_proofA_2 hd n k s w hI hJ hE
theorem bit_t {s d : Nat} (hs : s < 1024) (hd : d < 10) : qand (qshr (s : Int) (d : Int)) 1 = 1 ↔ s.testBit d = true := by
  rw [hb_bit (by omega) (by omega)]
  constructor
  · intro h
    by_cases e : s.testBit d = true
    · exact e
    · rw [if_neg e] at h; cases h
  · intro h; rw [if_pos h]
theorem prW_y {w : qW} {c s d : Nat} (h : s.testBit d = true) : prW w c s (d + 1) = qor (prW w c s d) (thrF w c d 1) := if_pos h
theorem prW_n {w : qW} {c s d : Nat} (h : ¬ s.testBit d = true) : prW w c s (d + 1) = prW w c s d := if_neg h
theorem alF_le {L : List Nat} {v : Int} : ∀ {m : Nat}, alF L v m = true → ∀ i, i ≤ m → alF L v i = true
  | 0, h, i, hi => by rw [show i = 0 by omega]; exact h
  | m + 1, h, i, hi => by
    by_cases e : i = m + 1
    · rw [e]; exact h
    · unfold alF at h
      rw [Bool.and_eq_true] at h
      exact alF_le h.1 i (by omega)
def b01N (b : Bool) : Int := if b = true then 1 else 0
theorem K_X12_proofA {d : Nat} (hd : 6 ≤ d) (c k s : Int) (w : qW) (hI : yInv zgf zga zra zSp w) (hS : S3 w) : qG none d 264 0 [(2, 95), (0, c), (0, k), (0, s), (9, 0), (9, 0), (9, 0), (9, 0), (9, 0)] [] w 142 (fun (r : qV) (_ : qW) (_ : Nat) => r = (0, pfV w c k s)) := by
  generalize hQ9 : (fun (r : qV) (_ : qW) (_ : Nat) => r = (0, pfV w c k s)) = Q9
  obtain ⟨N6, hN6⟩ : ∃ N : Int, N = 1024 := ⟨_, rfl⟩
  obtain ⟨d, rfl⟩ : ∃ d9, d = d9 + 1 := ⟨d - 1, by omega⟩
  refine qG.blk 1 (pc' := 1) (ls' := [(2, 95), (0, c), (0, k), (0, s), (9, 0), (9, 0), (9, 0), (9, 0), (9, 0)]) (st' := [(0, c)]) (w' := w) (n' := 142) rfl ?_
  refine qG.call (t := 207) (na := 1) (sk := 0) (md := 0) (ls1 := [(0, c)]) (r1 := []) rfl rfl rfl rfl rfl (K_isChest (by omega) _ _) ?_
  rintro _ w7 _ ⟨rfl, hw7, rfl⟩
  rw [hw7]
  show qG none (d + 1) 264 4 [(2, 95), (0, c), (0, k), (0, s), (9, 0), (9, 0), (9, 0), (9, 0), (9, 0)] [(0, isInV c 0 2)] w 142 Q9
  refine qG.br (P := isInV c 0 2 = 0) (pc1 := 25) (pc2 := 7) (st1 := []) rfl (fun hc0 => ?_) (fun hc0 => ?_)
  · skip
    refine qG.blk 1 (pc' := 26) (ls' := [(2, 95), (0, c), (0, k), (0, s), (9, 0), (9, 0), (9, 0), (9, 0), (9, 0)]) (st' := [(0, (-1))]) (w' := w) (n' := 142) rfl ?_
    refine qG.ret rfl rfl ?_
    subst hQ9
    first | exact (congrArg (Prod.mk 0) (pfV_c hc0).symm) | exact (congrArg (Prod.mk 0) (pfV_s hk0).symm) | exact (congrArg (Prod.mk 0) (pfV_k hs0).symm) | (rw [hx4, show s = 1024 by omega]; exact (congrArg (Prod.mk 0) (pfV_y hc0 hk0 hs0).symm))
  · skip
    obtain ⟨c9, rfl, hlc9, huc9⟩ := isIn_n (by decide) hc0
    refine qG.blk 1 (pc' := 8) (ls' := [(2, 95), (0, ((c9 : Nat) : Int)), (0, k), (0, s), (9, 0), (9, 0), (9, 0), (9, 0), (9, 0)]) (st' := [(0, k)]) (w' := w) (n' := 142) rfl ?_
    refine qG.call (t := 210) (na := 1) (sk := 0) (md := 0) (ls1 := [(0, k)]) (r1 := []) rfl rfl rfl rfl rfl (K_isSize (by omega) _ _) ?_
    rintro _ w7 _ ⟨rfl, hw7, rfl⟩
    rw [hw7]
    show qG none (d + 1) 264 11 [(2, 95), (0, ((c9 : Nat) : Int)), (0, k), (0, s), (9, 0), (9, 0), (9, 0), (9, 0), (9, 0)] [(0, isInV k 1 4)] w 142 Q9
    refine qG.br (P := isInV k 1 4 = 0) (pc1 := 25) (pc2 := 14) (st1 := []) rfl (fun hk0 => ?_) (fun hk0 => ?_)
    · skip
      refine qG.blk 1 (pc' := 26) (ls' := [(2, 95), (0, ((c9 : Nat) : Int)), (0, k), (0, s), (9, 0), (9, 0), (9, 0), (9, 0), (9, 0)]) (st' := [(0, (-1))]) (w' := w) (n' := 142) rfl ?_
      refine qG.ret rfl rfl ?_
      subst hQ9
      first | exact (congrArg (Prod.mk 0) (pfV_c hc0).symm) | exact (congrArg (Prod.mk 0) (pfV_s hk0).symm) | exact (congrArg (Prod.mk 0) (pfV_k hs0).symm) | (rw [hx4, show s = 1024 by omega]; exact (congrArg (Prod.mk 0) (pfV_y hc0 hk0 hs0).symm))
    · skip
      obtain ⟨k9, rfl, hlk9, huk9⟩ := isIn_n (by decide) hk0
      refine qG.blk 3 (pc' := 19) (ls' := [(2, 95), (0, ((c9 : Nat) : Int)), (0, ((k9 : Nat) : Int)), (0, s), (9, 0), (9, 0), (9, 0), (9, 0), (9, 0)]) (st' := [(0, 1023), (0, 0), (0, s)]) (w' := w) (n' := 142) rfl ?_
      refine qG.call (t := 206) (na := 3) (sk := 0) (md := 0) (ls1 := [(0, s), (0, 0), (0, 1023)]) (r1 := []) rfl rfl rfl rfl rfl (K_isIn (Nat.zero_le _) _ _ _ _) ?_
      rintro _ w7 _ ⟨rfl, hw7, rfl⟩
      rw [hw7]
      show qG none (d + 1) 264 22 [(2, 95), (0, ((c9 : Nat) : Int)), (0, ((k9 : Nat) : Int)), (0, s), (9, 0), (9, 0), (9, 0), (9, 0), (9, 0)] [(0, isInV (s) (0) (1023))] w 142 Q9
      refine qG.br (P := isInV (s) (0) (1023) = 0) (pc1 := 25) (pc2 := 27) (st1 := []) rfl (fun hs0 => ?_) (fun hs0 => ?_)
      · skip
        refine qG.blk 1 (pc' := 26) (ls' := [(2, 95), (0, ((c9 : Nat) : Int)), (0, ((k9 : Nat) : Int)), (0, s), (9, 0), (9, 0), (9, 0), (9, 0), (9, 0)]) (st' := [(0, (-1))]) (w' := w) (n' := 142) rfl ?_
        refine qG.ret rfl rfl ?_
        subst hQ9
        first | exact (congrArg (Prod.mk 0) (pfV_c hc0).symm) | exact (congrArg (Prod.mk 0) (pfV_s hk0).symm) | exact (congrArg (Prod.mk 0) (pfV_k hs0).symm) | (rw [hx4, show s = 1024 by omega]; exact (congrArg (Prod.mk 0) (pfV_y hc0 hk0 hs0).symm))
      · skip
        obtain ⟨s9, rfl, hls9, hus9⟩ := isIn_n (by decide) hs0
        refine qG.blk 3 (pc' := 30) (ls' := [(2, 95), (0, ((c9 : Nat) : Int)), (0, ((k9 : Nat) : Int)), (0, ((s9 : Nat) : Int)), (9, 0), (9, 0), (9, 0), (9, 0), (9, 0)]) (st' := [(0, ((k9 : Nat) : Int)), (0, ((c9 : Nat) : Int)), (2, 95)]) (w' := w) (n' := 142) rfl ?_
        refine qG.call (t := 220) (na := 3) (sk := 1) (md := 1) (ls1 := [(2, 95), (0, ((c9 : Nat) : Int)), (0, ((k9 : Nat) : Int)), (9, 0), (9, 0)]) (r1 := []) rfl rfl rfl rfl rfl (K_fp (by omega) c9 k9 (by omega) (by omega) (by omega) w hI hS) ?_
        rintro _ w0 _ ⟨rfl, rfl, hfp, hA0, hS0⟩
        obtain ⟨LL, hLL⟩ : ∃ l, l = fpL w c9 k9 65536 := ⟨_, rfl⟩
        obtain ⟨hT8, hT1⟩ : w0 95 8 = ((LL.length : Nat) : Int) ∧ ∀ j, j < LL.length → w0 101 j = ((LL.getD j 0 : Nat) : Int) := tb_l hfp hA0 hS0 (by omega) (by omega) (by omega) hLL
        have hL8 : LL.length ≤ 1820 := by have q := zfld hA0.1 (j := 8) (b := (0, 1820)) rfl; have q2 : w0 95 8 ≤ (1820 : Int) := q.2; rw [hT8] at q2; omega
        have hth : ∀ dd, thrF w0 c9 dd 1 = thrF w c9 dd 1 := fun dd => thr_cg (fun i => hA0.2 96 i (fun _ => ymo_far (by decide) (by decide) i)) (fun i => hA0.2 97 i (fun _ => ymo_far (by decide) (by decide) i)) (fun i => hA0.2 98 i (fun _ => ymo_far (by decide) (by decide) i)) (fun i => hA0.2 100 i (fun _ => ymo_far (by decide) (by decide) i)) c9 dd 1
        show qG none (d + 1) 264 33 [(2, 95), (0, ((c9 : Nat) : Int)), (0, ((k9 : Nat) : Int)), (0, ((s9 : Nat) : Int)), (9, 0), (9, 0), (9, 0), (9, 0), (9, 0)] [] w0 142 Q9
        refine qG.blk 4 (pc' := 39) (ls' := [(2, 95), (0, ((c9 : Nat) : Int)), (0, ((k9 : Nat) : Int)), (0, ((s9 : Nat) : Int)), (0, (-1)), (0, 0), (9, 0), (9, 0), (9, 0)]) (st' := []) (w' := w0) (n' := 142) rfl ?_
        have L39 : ∀ (m9 : Nat) (s : Nat) (x4 : Int) (x6 x7 x8 : qV), 1024 - s = m9 → (s ≤ 1024 ∧ x4 = bpF w c9 k9 s9 s) → qG none (d + 1) 264 39 [(2, 95), (0, ((c9 : Nat) : Int)), (0, ((k9 : Nat) : Int)), (0, ((s9 : Nat) : Int)), (0, x4), (0, ((s : Nat) : Int)), x6, x7, x8] [] w0 142 Q9 := by
          intro m9
          induction m9 using Nat.strongRecOn with
          | ind m9 ih39 =>
          intro s x4 x6 x7 x8 hm39 hI39
          obtain ⟨hs1, hx4⟩ := hI39
          refine qG.blk 2 (pc' := 44) (ls' := [(2, 95), (0, ((c9 : Nat) : Int)), (0, ((k9 : Nat) : Int)), (0, ((s9 : Nat) : Int)), (0, x4), (0, ((s : Nat) : Int)), x6, x7, x8]) (st' := [(0, 1024), (0, ((s : Nat) : Int))]) (w' := w0) (n' := 142) rfl ?_
          rw [show (1024 : Int) = N6 from hN6.symm]
          refine qG.br (P := ((s : Nat) : Int) < N6) (pc1 := 47) (pc2 := 180) (st1 := []) rfl (fun hn => ?_) (fun hn => ?_)
          · skip
            refine qG.blk 3 (pc' := 51) (ls' := [(2, 95), (0, ((c9 : Nat) : Int)), (0, ((k9 : Nat) : Int)), (0, ((s9 : Nat) : Int)), (0, x4), (0, ((s : Nat) : Int)), x6, x7, x8]) (st' := [(0, qand ((s : Nat) : Int) ((s9 : Nat) : Int))]) (w' := w0) (n' := 142) rfl ?_
            rw [show qand ((s : Nat) : Int) ((s9 : Nat) : Int) = ((s &&& s9 : Nat) : Int) from qand_n (by omega) (by omega)]
            refine qG.br (P := ((s &&& s9 : Nat) : Int) = 0) (pc1 := 54) (pc2 := 174) (st1 := []) rfl (fun h51 => ?_) (fun h51 => ?_)
            · skip
              have hz : s &&& s9 = 0 := by omega
              refine qG.blk 2 (pc' := 57) (ls' := [(2, 95), (0, ((c9 : Nat) : Int)), (0, ((k9 : Nat) : Int)), (0, ((s9 : Nat) : Int)), (0, x4), (0, ((s : Nat) : Int)), x6, x7, x8]) (st' := [(0, (-1)), (0, x4)]) (w' := w0) (n' := 142) rfl ?_
              refine qG.br (P := x4 = (-1)) (pc1 := 76) (pc2 := 60) (st1 := []) rfl (fun h57 => ?_) (fun h57 => ?_)
              · skip
                have hbt : x4 = -1 ∨ bitsF ((s : Nat) : Int) 16 < bitsF x4 16 := .inl h57
                refine qG.blk 4 (pc' := 82) (ls' := [(2, 95), (0, ((c9 : Nat) : Int)), (0, ((k9 : Nat) : Int)), (0, ((s9 : Nat) : Int)), (0, x4), (0, ((s : Nat) : Int)), (0, 0), (0, 0), x8]) (st' := []) (w' := w0) (n' := 142) rfl ?_
                have L82 : ∀ (m9 : Nat) (d9 : Nat) (x6 : Int), 10 - d9 = m9 → (d9 ≤ 10 ∧ x6 = prW w c9 s d9) → qG none (d + 1) 264 82 [(2, 95), (0, ((c9 : Nat) : Int)), (0, ((k9 : Nat) : Int)), (0, ((s9 : Nat) : Int)), (0, x4), (0, ((s : Nat) : Int)), (0, x6), (0, ((d9 : Nat) : Int)), x8] [] w0 142 Q9 := by
                  intro m9
                  induction m9 using Nat.strongRecOn with
                  | ind m9 ih82 =>
                  intro d9 x6 hm82 hI82
                  obtain ⟨hd1, hx6⟩ := hI82
                  refine qG.blk 2 (pc' := 86) (ls' := [(2, 95), (0, ((c9 : Nat) : Int)), (0, ((k9 : Nat) : Int)), (0, ((s9 : Nat) : Int)), (0, x4), (0, ((s : Nat) : Int)), (0, x6), (0, ((d9 : Nat) : Int)), x8]) (st' := [(0, 10), (0, ((d9 : Nat) : Int))]) (w' := w0) (n' := 142) rfl ?_
                  refine qG.br (P := ((d9 : Nat) : Int) < 10) (pc1 := 89) (pc2 := 119) (st1 := []) rfl (fun hd10 => ?_) (fun hd10 => ?_)
                  · skip
                    have hd10 : d9 < 10 := by omega
                    refine qG.blk 6 (pc' := 97) (ls' := [(2, 95), (0, ((c9 : Nat) : Int)), (0, ((k9 : Nat) : Int)), (0, ((s9 : Nat) : Int)), (0, x4), (0, ((s : Nat) : Int)), (0, x6), (0, ((d9 : Nat) : Int)), x8]) (st' := [(0, 1), (0, qand (qshr ((s : Nat) : Int) ((d9 : Nat) : Int)) 1)]) (w' := w0) (n' := 142) rfl ?_
                    refine qG.br (P := qand (qshr ((s : Nat) : Int) ((d9 : Nat) : Int)) 1 = 1) (pc1 := 100) (pc2 := 113) (st1 := []) rfl (fun h97 => ?_) (fun h97 => ?_)
                    · skip
                      have hbd : s.testBit d9 = true := (bit_t (by omega) hd10).mp h97
                      refine qG.blk 5 (pc' := 107) (ls' := [(2, 95), (0, ((c9 : Nat) : Int)), (0, ((k9 : Nat) : Int)), (0, ((s9 : Nat) : Int)), (0, x4), (0, ((s : Nat) : Int)), (0, x6), (0, ((d9 : Nat) : Int)), x8]) (st' := [(0, 1), (0, ((d9 : Nat) : Int)), (0, ((c9 : Nat) : Int)), (2, 95), (0, x6)]) (w' := w0) (n' := 142) rfl ?_
                      refine qG.call (t := 250) (na := 4) (sk := 1) (md := 1) (ls1 := [(2, 95), (0, ((c9 : Nat) : Int)), (0, ((d9 : Nat) : Int)), (0, 1), (9, 0), (9, 0)]) (r1 := [(0, x6)]) rfl rfl rfl rfl rfl (K_through (Nat.zero_le _) c9 d9 1 (by omega) hd10 w0 hA0.1) ?_
                      rintro _ w7 _ ⟨rfl, hw7, rfl⟩
                      rw [hw7, hth]
                      show qG none (d + 1) 264 110 [(2, 95), (0, ((c9 : Nat) : Int)), (0, ((k9 : Nat) : Int)), (0, ((s9 : Nat) : Int)), (0, x4), (0, ((s : Nat) : Int)), (0, x6), (0, ((d9 : Nat) : Int)), x8] [(0, thrF w c9 d9 1), (0, x6)] w0 142 Q9
                      refine qG.blk 3 (pc' := 116) (ls' := [(2, 95), (0, ((c9 : Nat) : Int)), (0, ((k9 : Nat) : Int)), (0, ((s9 : Nat) : Int)), (0, x4), (0, ((s : Nat) : Int)), (0, qor x6 (thrF w c9 d9 1)), (0, wrp (((d9 : Nat) : Int) + 1)), x8]) (st' := []) (w' := w0) (n' := 142) rfl ?_
                      rw [show wrp (((d9 : Nat) : Int) + 1) = ((d9 + 1 : Nat) : Int) from wrp_id (by omega) (by omega)]
                      refine qG.blk 1 (pc' := 82) (ls' := [(2, 95), (0, ((c9 : Nat) : Int)), (0, ((k9 : Nat) : Int)), (0, ((s9 : Nat) : Int)), (0, x4), (0, ((s : Nat) : Int)), (0, qor x6 (thrF w c9 d9 1)), (0, ((d9 + 1 : Nat) : Int)), x8]) (st' := []) (w' := w0) (n' := 142) rfl ?_
                      exact ih82 _ (by omega) (d9 + 1) (qor x6 (thrF w c9 d9 1)) rfl (⟨by omega, by first | (rw [prW_y hbd, hx6]; done) | (rw [prW_n hbd, hx6]; done)⟩)
                    · skip
                      have hbd : ¬ s.testBit d9 = true := fun z => h97 ((bit_t (by omega) hd10).mpr z)
                      refine qG.blk 1 (pc' := 116) (ls' := [(2, 95), (0, ((c9 : Nat) : Int)), (0, ((k9 : Nat) : Int)), (0, ((s9 : Nat) : Int)), (0, x4), (0, ((s : Nat) : Int)), (0, x6), (0, wrp (((d9 : Nat) : Int) + 1)), x8]) (st' := []) (w' := w0) (n' := 142) rfl ?_
                      rw [show wrp (((d9 : Nat) : Int) + 1) = ((d9 + 1 : Nat) : Int) from wrp_id (by omega) (by omega)]
                      refine qG.blk 1 (pc' := 82) (ls' := [(2, 95), (0, ((c9 : Nat) : Int)), (0, ((k9 : Nat) : Int)), (0, ((s9 : Nat) : Int)), (0, x4), (0, ((s : Nat) : Int)), (0, x6), (0, ((d9 + 1 : Nat) : Int)), x8]) (st' := []) (w' := w0) (n' := 142) rfl ?_
                      exact ih82 _ (by omega) (d9 + 1) (x6) rfl (⟨by omega, by first | (rw [prW_y hbd, hx6]; done) | (rw [prW_n hbd, hx6]; done)⟩)
                  · skip
                    have hd10n : d9 = 10 := by omega
                    refine qG.blk 4 (pc' := 125) (ls' := [(2, 95), (0, ((c9 : Nat) : Int)), (0, ((k9 : Nat) : Int)), (0, ((s9 : Nat) : Int)), (0, x4), (0, ((s : Nat) : Int)), (0, x6), (0, 1), (0, 0)]) (st' := []) (w' := w0) (n' := 142) rfl ?_
                    have L125 : ∀ (m9 : Nat) (i : Nat) (x7 : Int), LL.length - i = m9 → (i ≤ LL.length ∧ x7 = b01N (alF LL x6 i)) → qG none (d + 1) 264 125 [(2, 95), (0, ((c9 : Nat) : Int)), (0, ((k9 : Nat) : Int)), (0, ((s9 : Nat) : Int)), (0, x4), (0, ((s : Nat) : Int)), (0, x6), (0, x7), (0, ((i : Nat) : Int))] [] w0 142 Q9 := by
                      intro m9
                      induction m9 using Nat.strongRecOn with
                      | ind m9 ih125 =>
                      intro i x7 hm125 hI125
                      obtain ⟨hi1, hx7⟩ := hI125
                      refine qG.blk 3 (pc' := 131) (ls' := [(2, 95), (0, ((c9 : Nat) : Int)), (0, ((k9 : Nat) : Int)), (0, ((s9 : Nat) : Int)), (0, x4), (0, ((s : Nat) : Int)), (0, x6), (0, x7), (0, ((i : Nat) : Int))]) (st' := [(0, w0 95 8), (0, ((i : Nat) : Int))]) (w' := w0) (n' := 142) rfl ?_
                      rw [show w0 95 8 = ((LL.length : Nat) : Int) from hT8]
                      refine qG.br (P := ((i : Nat) : Int) < ((LL.length : Nat) : Int)) (pc1 := 134) (pc2 := 165) (st1 := []) rfl (fun h1 => ?_) (fun h1 => ?_)
                      · skip
                        refine qG.blk 1 (pc' := 136) (ls' := [(2, 95), (0, ((c9 : Nat) : Int)), (0, ((k9 : Nat) : Int)), (0, ((s9 : Nat) : Int)), (0, x4), (0, ((s : Nat) : Int)), (0, x6), (0, x7), (0, ((i : Nat) : Int))]) (st' := [(0, x7)]) (w' := w0) (n' := 142) rfl ?_
                        refine qG.br (P := x7 = 0) (pc1 := 165) (pc2 := 139) (st1 := []) rfl (fun h136 => ?_) (fun h136 => ?_)
                        · skip
                          have hal3 : ¬ alF LL x6 i = true := fun z => by rw [hx7] at h136; unfold b01N at h136; rw [if_pos z] at h136; cases h136
                          refine qG.blk 1 (pc' := 167) (ls' := [(2, 95), (0, ((c9 : Nat) : Int)), (0, ((k9 : Nat) : Int)), (0, ((s9 : Nat) : Int)), (0, x4), (0, ((s : Nat) : Int)), (0, x6), (0, x7), (0, ((i : Nat) : Int))]) (st' := [(0, x7)]) (w' := w0) (n' := 142) rfl ?_
                          have e6 : x6 = prW w c9 s 10 := by rw [hx6, hd10n]
                          refine qG.br (P := x7 = 0) (pc1 := 174) (pc2 := 170) (st1 := []) rfl (fun h167 => ?_) (fun h167 => ?_)
                          · skip
                            have hal2 : ¬ alF LL (prW w c9 s 10) LL.length = true := fun z => by rw [← e6] at z; have q := alF_le z i hi1; rw [hx7] at h167; unfold b01N at h167; rw [if_pos q] at h167; cases h167
                            refine qG.blk 1 (pc' := 177) (ls' := [(2, 95), (0, ((c9 : Nat) : Int)), (0, ((k9 : Nat) : Int)), (0, ((s9 : Nat) : Int)), (0, x4), (0, wrp (((s : Nat) : Int) + 1)), (0, x6), (0, x7), (0, ((i : Nat) : Int))]) (st' := []) (w' := w0) (n' := 142) rfl ?_
                            rw [show wrp (((s : Nat) : Int) + 1) = ((s + 1 : Nat) : Int) from wrp_id (by omega) (by omega)]
                            refine qG.blk 1 (pc' := 39) (ls' := [(2, 95), (0, ((c9 : Nat) : Int)), (0, ((k9 : Nat) : Int)), (0, ((s9 : Nat) : Int)), (0, x4), (0, ((s + 1 : Nat) : Int)), (0, x6), (0, x7), (0, ((i : Nat) : Int))]) (st' := []) (w' := w0) (n' := 142) rfl ?_
                            have hn9 : bpF w c9 k9 s9 (s + 1) = x4 := by unfold bpF; rw [← hLL, ← hx4]; exact if_neg (fun z => by first | exact hz z.1 | exact hbt z.2.1 | exact hal2 z.2.2)
                            exact ih39 _ (by omega) (s + 1) (x4) ((0, x6)) ((0, x7)) ((0, ((i : Nat) : Int))) rfl ⟨by omega, hn9.symm⟩
                          · exfalso; exact h167 h136
                        · skip
                          have hal : alF LL x6 i = true := Decidable.of_not_not (fun z => h136 (by rw [hx7]; unfold b01N; exact if_neg z))
                          refine qG.blk 2 (pc' := 143) (ls' := [(2, 95), (0, ((c9 : Nat) : Int)), (0, ((k9 : Nat) : Int)), (0, ((s9 : Nat) : Int)), (0, x4), (0, ((s : Nat) : Int)), (0, x6), (0, x7), (0, ((i : Nat) : Int))]) (st' := [(2, w0 95 5)]) (w' := w0) (n' := 142) rfl ?_
                          rw [show w0 95 5 = 101 from zref hA0.1 rfl rfl]
                          refine qG.blk 1 (pc' := 145) (ls' := [(2, 95), (0, ((c9 : Nat) : Int)), (0, ((k9 : Nat) : Int)), (0, ((s9 : Nat) : Int)), (0, x4), (0, ((s : Nat) : Int)), (0, x6), (0, x7), (0, ((i : Nat) : Int))]) (st' := [(0, ((i : Nat) : Int)), (2, 101)]) (w' := w0) (n' := 142) rfl ?_
                          refine qG.ild (m := 1820) rfl rfl (by omega) (by decide) ?_
                          show qG none (d + 1) 264 146 [(2, 95), (0, ((c9 : Nat) : Int)), (0, ((k9 : Nat) : Int)), (0, ((s9 : Nat) : Int)), (0, x4), (0, ((s : Nat) : Int)), (0, x6), (0, x7), (0, ((i : Nat) : Int))] [(0, w0 101 i)] w0 142 Q9
                          rw [show w0 101 i = ((LL.getD i 0 : Nat) : Int) from hT1 i (by omega)]
                          refine qG.blk 2 (pc' := 149) (ls' := [(2, 95), (0, ((c9 : Nat) : Int)), (0, ((k9 : Nat) : Int)), (0, ((s9 : Nat) : Int)), (0, x4), (0, ((s : Nat) : Int)), (0, x6), (0, x7), (0, ((i : Nat) : Int))]) (st' := [(0, qand ((LL.getD i 0 : Nat) : Int) x6)]) (w' := w0) (n' := 142) rfl ?_
                          refine qG.br (P := qand ((LL.getD i 0 : Nat) : Int) x6 = 0) (pc1 := 156) (pc2 := 152) (st1 := []) rfl (fun h149 => ?_) (fun h149 => ?_)
                          · skip
                            refine qG.blk 3 (pc' := 162) (ls' := [(2, 95), (0, ((c9 : Nat) : Int)), (0, ((k9 : Nat) : Int)), (0, ((s9 : Nat) : Int)), (0, x4), (0, ((s : Nat) : Int)), (0, x6), (0, 0), (0, wrp (((i : Nat) : Int) + 1))]) (st' := []) (w' := w0) (n' := 142) rfl ?_
                            rw [show wrp (((i : Nat) : Int) + 1) = ((i + 1 : Nat) : Int) from wrp_id (by omega) (by omega)]
                            refine qG.blk 1 (pc' := 125) (ls' := [(2, 95), (0, ((c9 : Nat) : Int)), (0, ((k9 : Nat) : Int)), (0, ((s9 : Nat) : Int)), (0, x4), (0, ((s : Nat) : Int)), (0, x6), (0, 0), (0, ((i + 1 : Nat) : Int))]) (st' := []) (w' := w0) (n' := 142) rfl ?_
                            exact ih125 _ (by omega) (i + 1) (0) rfl (⟨by omega, by first | exact (congrArg b01N (alF_n h149 (i + 1) (by omega))).symm | exact (congrArg b01N (alF_y hal h149)).symm⟩)
                          · skip
                            refine qG.blk 4 (pc' := 162) (ls' := [(2, 95), (0, ((c9 : Nat) : Int)), (0, ((k9 : Nat) : Int)), (0, ((s9 : Nat) : Int)), (0, x4), (0, ((s : Nat) : Int)), (0, x6), (0, 1), (0, wrp (((i : Nat) : Int) + 1))]) (st' := []) (w' := w0) (n' := 142) rfl ?_
                            rw [show wrp (((i : Nat) : Int) + 1) = ((i + 1 : Nat) : Int) from wrp_id (by omega) (by omega)]
                            refine qG.blk 1 (pc' := 125) (ls' := [(2, 95), (0, ((c9 : Nat) : Int)), (0, ((k9 : Nat) : Int)), (0, ((s9 : Nat) : Int)), (0, x4), (0, ((s : Nat) : Int)), (0, x6), (0, 1), (0, ((i + 1 : Nat) : Int))]) (st' := []) (w' := w0) (n' := 142) rfl ?_
                            exact ih125 _ (by omega) (i + 1) (1) rfl (⟨by omega, by first | exact (congrArg b01N (alF_n h149 (i + 1) (by omega))).symm | exact (congrArg b01N (alF_y hal h149)).symm⟩)
                      · skip
                        refine qG.blk 1 (pc' := 167) (ls' := [(2, 95), (0, ((c9 : Nat) : Int)), (0, ((k9 : Nat) : Int)), (0, ((s9 : Nat) : Int)), (0, x4), (0, ((s : Nat) : Int)), (0, x6), (0, x7), (0, ((i : Nat) : Int))]) (st' := [(0, x7)]) (w' := w0) (n' := 142) rfl ?_
                        have e6 : x6 = prW w c9 s 10 := by rw [hx6, hd10n]
                        refine qG.br (P := x7 = 0) (pc1 := 174) (pc2 := 170) (st1 := []) rfl (fun h167 => ?_) (fun h167 => ?_)
                        · skip
                          have hal2 : ¬ alF LL (prW w c9 s 10) LL.length = true := fun z => by rw [← e6] at z; have q := alF_le z i hi1; rw [hx7] at h167; unfold b01N at h167; rw [if_pos q] at h167; cases h167
                          refine qG.blk 1 (pc' := 177) (ls' := [(2, 95), (0, ((c9 : Nat) : Int)), (0, ((k9 : Nat) : Int)), (0, ((s9 : Nat) : Int)), (0, x4), (0, wrp (((s : Nat) : Int) + 1)), (0, x6), (0, x7), (0, ((i : Nat) : Int))]) (st' := []) (w' := w0) (n' := 142) rfl ?_
                          rw [show wrp (((s : Nat) : Int) + 1) = ((s + 1 : Nat) : Int) from wrp_id (by omega) (by omega)]
                          refine qG.blk 1 (pc' := 39) (ls' := [(2, 95), (0, ((c9 : Nat) : Int)), (0, ((k9 : Nat) : Int)), (0, ((s9 : Nat) : Int)), (0, x4), (0, ((s + 1 : Nat) : Int)), (0, x6), (0, x7), (0, ((i : Nat) : Int))]) (st' := []) (w' := w0) (n' := 142) rfl ?_
                          have hn9 : bpF w c9 k9 s9 (s + 1) = x4 := by unfold bpF; rw [← hLL, ← hx4]; exact if_neg (fun z => by first | exact hz z.1 | exact hbt z.2.1 | exact hal2 z.2.2)
                          exact ih39 _ (by omega) (s + 1) (x4) ((0, x6)) ((0, x7)) ((0, ((i : Nat) : Int))) rfl ⟨by omega, hn9.symm⟩
                        · skip
                          have hal2 : alF LL (prW w c9 s 10) LL.length = true := Decidable.of_not_not (fun z => h167 (by rw [hx7]; unfold b01N; exact if_neg (by rw [show i = LL.length by omega, e6]; exact z)))
                          refine qG.blk 3 (pc' := 177) (ls' := [(2, 95), (0, ((c9 : Nat) : Int)), (0, ((k9 : Nat) : Int)), (0, ((s9 : Nat) : Int)), (0, ((s : Nat) : Int)), (0, wrp (((s : Nat) : Int) + 1)), (0, x6), (0, x7), (0, ((i : Nat) : Int))]) (st' := []) (w' := w0) (n' := 142) rfl ?_
                          rw [show wrp (((s : Nat) : Int) + 1) = ((s + 1 : Nat) : Int) from wrp_id (by omega) (by omega)]
                          refine qG.blk 1 (pc' := 39) (ls' := [(2, 95), (0, ((c9 : Nat) : Int)), (0, ((k9 : Nat) : Int)), (0, ((s9 : Nat) : Int)), (0, ((s : Nat) : Int)), (0, ((s + 1 : Nat) : Int)), (0, x6), (0, x7), (0, ((i : Nat) : Int))]) (st' := []) (w' := w0) (n' := 142) rfl ?_
                          have hn9 : bpF w c9 k9 s9 (s + 1) = ((s : Nat) : Int) := by unfold bpF; rw [← hLL, ← hx4]; exact if_pos ⟨hz, hbt, hal2⟩
                          exact ih39 _ (by omega) (s + 1) (((s : Nat) : Int)) ((0, x6)) ((0, x7)) ((0, ((i : Nat) : Int))) rfl ⟨by omega, hn9.symm⟩
                    exact L125 _ (0) (1) rfl (⟨by omega, rfl⟩)
                exact L82 _ (0) (0) rfl (⟨by omega, rfl⟩)
              · skip
                refine qG.blk 1 (pc' := 62) (ls' := [(2, 95), (0, ((c9 : Nat) : Int)), (0, ((k9 : Nat) : Int)), (0, ((s9 : Nat) : Int)), (0, x4), (0, ((s : Nat) : Int)), x6, x7, x8]) (st' := [(0, ((s : Nat) : Int))]) (w' := w0) (n' := 142) rfl ?_
                refine qG.call (t := 211) (na := 1) (sk := 0) (md := 0) (ls1 := [(0, ((s : Nat) : Int)), (9, 0), (9, 0)]) (r1 := []) rfl rfl rfl rfl rfl (K_bits (Nat.zero_le _) (((s : Nat) : Int)) _) ?_
                rintro _ w7 _ ⟨rfl, hw7, rfl⟩
                rw [hw7]
                show qG none (d + 1) 264 65 [(2, 95), (0, ((c9 : Nat) : Int)), (0, ((k9 : Nat) : Int)), (0, ((s9 : Nat) : Int)), (0, x4), (0, ((s : Nat) : Int)), x6, x7, x8] [(0, bitsF (((s : Nat) : Int)) 16)] w0 142 Q9
                refine qG.blk 1 (pc' := 67) (ls' := [(2, 95), (0, ((c9 : Nat) : Int)), (0, ((k9 : Nat) : Int)), (0, ((s9 : Nat) : Int)), (0, x4), (0, ((s : Nat) : Int)), x6, x7, x8]) (st' := [(0, x4), (0, bitsF (((s : Nat) : Int)) 16)]) (w' := w0) (n' := 142) rfl ?_
                refine qG.call (t := 211) (na := 1) (sk := 0) (md := 0) (ls1 := [(0, x4), (9, 0), (9, 0)]) (r1 := [(0, bitsF (((s : Nat) : Int)) 16)]) rfl rfl rfl rfl rfl (K_bits (Nat.zero_le _) (x4) _) ?_
                rintro _ w7 _ ⟨rfl, hw7, rfl⟩
                rw [hw7]
                show qG none (d + 1) 264 70 [(2, 95), (0, ((c9 : Nat) : Int)), (0, ((k9 : Nat) : Int)), (0, ((s9 : Nat) : Int)), (0, x4), (0, ((s : Nat) : Int)), x6, x7, x8] [(0, bitsF (x4) 16), (0, bitsF (((s : Nat) : Int)) 16)] w0 142 Q9
                refine qG.br (P := bitsF (((s : Nat) : Int)) 16 < bitsF (x4) 16) (pc1 := 76) (pc2 := 73) (st1 := []) rfl (fun h70 => ?_) (fun h70 => ?_)
                · skip
                  have hbt : x4 = -1 ∨ bitsF ((s : Nat) : Int) 16 < bitsF x4 16 := .inr h70
                  refine qG.blk 4 (pc' := 82) (ls' := [(2, 95), (0, ((c9 : Nat) : Int)), (0, ((k9 : Nat) : Int)), (0, ((s9 : Nat) : Int)), (0, x4), (0, ((s : Nat) : Int)), (0, 0), (0, 0), x8]) (st' := []) (w' := w0) (n' := 142) rfl ?_
                  have L82_1 : ∀ (m9 : Nat) (d9 : Nat) (x6 : Int), 10 - d9 = m9 → (d9 ≤ 10 ∧ x6 = prW w c9 s d9) → qG none (d + 1) 264 82 [(2, 95), (0, ((c9 : Nat) : Int)), (0, ((k9 : Nat) : Int)), (0, ((s9 : Nat) : Int)), (0, x4), (0, ((s : Nat) : Int)), (0, x6), (0, ((d9 : Nat) : Int)), x8] [] w0 142 Q9 := by
                    intro m9
                    induction m9 using Nat.strongRecOn with
                    | ind m9 ih82 =>
                    intro d9 x6 hm82 hI82
                    obtain ⟨hd1, hx6⟩ := hI82
                    refine qG.blk 2 (pc' := 86) (ls' := [(2, 95), (0, ((c9 : Nat) : Int)), (0, ((k9 : Nat) : Int)), (0, ((s9 : Nat) : Int)), (0, x4), (0, ((s : Nat) : Int)), (0, x6), (0, ((d9 : Nat) : Int)), x8]) (st' := [(0, 10), (0, ((d9 : Nat) : Int))]) (w' := w0) (n' := 142) rfl ?_
                    refine qG.br (P := ((d9 : Nat) : Int) < 10) (pc1 := 89) (pc2 := 119) (st1 := []) rfl (fun hd10 => ?_) (fun hd10 => ?_)
                    · skip
                      have hd10 : d9 < 10 := by omega
                      refine qG.blk 6 (pc' := 97) (ls' := [(2, 95), (0, ((c9 : Nat) : Int)), (0, ((k9 : Nat) : Int)), (0, ((s9 : Nat) : Int)), (0, x4), (0, ((s : Nat) : Int)), (0, x6), (0, ((d9 : Nat) : Int)), x8]) (st' := [(0, 1), (0, qand (qshr ((s : Nat) : Int) ((d9 : Nat) : Int)) 1)]) (w' := w0) (n' := 142) rfl ?_
                      refine qG.br (P := qand (qshr ((s : Nat) : Int) ((d9 : Nat) : Int)) 1 = 1) (pc1 := 100) (pc2 := 113) (st1 := []) rfl (fun h97 => ?_) (fun h97 => ?_)
                      · skip
                        have hbd : s.testBit d9 = true := (bit_t (by omega) hd10).mp h97
                        refine qG.blk 5 (pc' := 107) (ls' := [(2, 95), (0, ((c9 : Nat) : Int)), (0, ((k9 : Nat) : Int)), (0, ((s9 : Nat) : Int)), (0, x4), (0, ((s : Nat) : Int)), (0, x6), (0, ((d9 : Nat) : Int)), x8]) (st' := [(0, 1), (0, ((d9 : Nat) : Int)), (0, ((c9 : Nat) : Int)), (2, 95), (0, x6)]) (w' := w0) (n' := 142) rfl ?_
                        refine qG.call (t := 250) (na := 4) (sk := 1) (md := 1) (ls1 := [(2, 95), (0, ((c9 : Nat) : Int)), (0, ((d9 : Nat) : Int)), (0, 1), (9, 0), (9, 0)]) (r1 := [(0, x6)]) rfl rfl rfl rfl rfl (K_through (Nat.zero_le _) c9 d9 1 (by omega) hd10 w0 hA0.1) ?_
                        rintro _ w7 _ ⟨rfl, hw7, rfl⟩
                        rw [hw7, hth]
                        show qG none (d + 1) 264 110 [(2, 95), (0, ((c9 : Nat) : Int)), (0, ((k9 : Nat) : Int)), (0, ((s9 : Nat) : Int)), (0, x4), (0, ((s : Nat) : Int)), (0, x6), (0, ((d9 : Nat) : Int)), x8] [(0, thrF w c9 d9 1), (0, x6)] w0 142 Q9
                        refine qG.blk 3 (pc' := 116) (ls' := [(2, 95), (0, ((c9 : Nat) : Int)), (0, ((k9 : Nat) : Int)), (0, ((s9 : Nat) : Int)), (0, x4), (0, ((s : Nat) : Int)), (0, qor x6 (thrF w c9 d9 1)), (0, wrp (((d9 : Nat) : Int) + 1)), x8]) (st' := []) (w' := w0) (n' := 142) rfl ?_
                        rw [show wrp (((d9 : Nat) : Int) + 1) = ((d9 + 1 : Nat) : Int) from wrp_id (by omega) (by omega)]
                        refine qG.blk 1 (pc' := 82) (ls' := [(2, 95), (0, ((c9 : Nat) : Int)), (0, ((k9 : Nat) : Int)), (0, ((s9 : Nat) : Int)), (0, x4), (0, ((s : Nat) : Int)), (0, qor x6 (thrF w c9 d9 1)), (0, ((d9 + 1 : Nat) : Int)), x8]) (st' := []) (w' := w0) (n' := 142) rfl ?_
                        exact ih82 _ (by omega) (d9 + 1) (qor x6 (thrF w c9 d9 1)) rfl (⟨by omega, by first | (rw [prW_y hbd, hx6]; done) | (rw [prW_n hbd, hx6]; done)⟩)
                      · skip
                        have hbd : ¬ s.testBit d9 = true := fun z => h97 ((bit_t (by omega) hd10).mpr z)
                        refine qG.blk 1 (pc' := 116) (ls' := [(2, 95), (0, ((c9 : Nat) : Int)), (0, ((k9 : Nat) : Int)), (0, ((s9 : Nat) : Int)), (0, x4), (0, ((s : Nat) : Int)), (0, x6), (0, wrp (((d9 : Nat) : Int) + 1)), x8]) (st' := []) (w' := w0) (n' := 142) rfl ?_
                        rw [show wrp (((d9 : Nat) : Int) + 1) = ((d9 + 1 : Nat) : Int) from wrp_id (by omega) (by omega)]
                        refine qG.blk 1 (pc' := 82) (ls' := [(2, 95), (0, ((c9 : Nat) : Int)), (0, ((k9 : Nat) : Int)), (0, ((s9 : Nat) : Int)), (0, x4), (0, ((s : Nat) : Int)), (0, x6), (0, ((d9 + 1 : Nat) : Int)), x8]) (st' := []) (w' := w0) (n' := 142) rfl ?_
                        exact ih82 _ (by omega) (d9 + 1) (x6) rfl (⟨by omega, by first | (rw [prW_y hbd, hx6]; done) | (rw [prW_n hbd, hx6]; done)⟩)
                    · skip
                      have hd10n : d9 = 10 := by omega
                      refine qG.blk 4 (pc' := 125) (ls' := [(2, 95), (0, ((c9 : Nat) : Int)), (0, ((k9 : Nat) : Int)), (0, ((s9 : Nat) : Int)), (0, x4), (0, ((s : Nat) : Int)), (0, x6), (0, 1), (0, 0)]) (st' := []) (w' := w0) (n' := 142) rfl ?_
                      have L125_1 : ∀ (m9 : Nat) (i : Nat) (x7 : Int), LL.length - i = m9 → (i ≤ LL.length ∧ x7 = b01N (alF LL x6 i)) → qG none (d + 1) 264 125 [(2, 95), (0, ((c9 : Nat) : Int)), (0, ((k9 : Nat) : Int)), (0, ((s9 : Nat) : Int)), (0, x4), (0, ((s : Nat) : Int)), (0, x6), (0, x7), (0, ((i : Nat) : Int))] [] w0 142 Q9 := by
                        intro m9
                        induction m9 using Nat.strongRecOn with
                        | ind m9 ih125 =>
                        intro i x7 hm125 hI125
                        obtain ⟨hi1, hx7⟩ := hI125
                        refine qG.blk 3 (pc' := 131) (ls' := [(2, 95), (0, ((c9 : Nat) : Int)), (0, ((k9 : Nat) : Int)), (0, ((s9 : Nat) : Int)), (0, x4), (0, ((s : Nat) : Int)), (0, x6), (0, x7), (0, ((i : Nat) : Int))]) (st' := [(0, w0 95 8), (0, ((i : Nat) : Int))]) (w' := w0) (n' := 142) rfl ?_
                        rw [show w0 95 8 = ((LL.length : Nat) : Int) from hT8]
                        refine qG.br (P := ((i : Nat) : Int) < ((LL.length : Nat) : Int)) (pc1 := 134) (pc2 := 165) (st1 := []) rfl (fun h2 => ?_) (fun h2 => ?_)
                        · skip
                          refine qG.blk 1 (pc' := 136) (ls' := [(2, 95), (0, ((c9 : Nat) : Int)), (0, ((k9 : Nat) : Int)), (0, ((s9 : Nat) : Int)), (0, x4), (0, ((s : Nat) : Int)), (0, x6), (0, x7), (0, ((i : Nat) : Int))]) (st' := [(0, x7)]) (w' := w0) (n' := 142) rfl ?_
                          refine qG.br (P := x7 = 0) (pc1 := 165) (pc2 := 139) (st1 := []) rfl (fun h136 => ?_) (fun h136 => ?_)
                          · skip
                            have hal3 : ¬ alF LL x6 i = true := fun z => by rw [hx7] at h136; unfold b01N at h136; rw [if_pos z] at h136; cases h136
                            refine qG.blk 1 (pc' := 167) (ls' := [(2, 95), (0, ((c9 : Nat) : Int)), (0, ((k9 : Nat) : Int)), (0, ((s9 : Nat) : Int)), (0, x4), (0, ((s : Nat) : Int)), (0, x6), (0, x7), (0, ((i : Nat) : Int))]) (st' := [(0, x7)]) (w' := w0) (n' := 142) rfl ?_
                            have e6 : x6 = prW w c9 s 10 := by rw [hx6, hd10n]
                            refine qG.br (P := x7 = 0) (pc1 := 174) (pc2 := 170) (st1 := []) rfl (fun h167 => ?_) (fun h167 => ?_)
                            · skip
                              have hal2 : ¬ alF LL (prW w c9 s 10) LL.length = true := fun z => by rw [← e6] at z; have q := alF_le z i hi1; rw [hx7] at h167; unfold b01N at h167; rw [if_pos q] at h167; cases h167
                              refine qG.blk 1 (pc' := 177) (ls' := [(2, 95), (0, ((c9 : Nat) : Int)), (0, ((k9 : Nat) : Int)), (0, ((s9 : Nat) : Int)), (0, x4), (0, wrp (((s : Nat) : Int) + 1)), (0, x6), (0, x7), (0, ((i : Nat) : Int))]) (st' := []) (w' := w0) (n' := 142) rfl ?_
                              rw [show wrp (((s : Nat) : Int) + 1) = ((s + 1 : Nat) : Int) from wrp_id (by omega) (by omega)]
                              refine qG.blk 1 (pc' := 39) (ls' := [(2, 95), (0, ((c9 : Nat) : Int)), (0, ((k9 : Nat) : Int)), (0, ((s9 : Nat) : Int)), (0, x4), (0, ((s + 1 : Nat) : Int)), (0, x6), (0, x7), (0, ((i : Nat) : Int))]) (st' := []) (w' := w0) (n' := 142) rfl ?_
                              have hn9 : bpF w c9 k9 s9 (s + 1) = x4 := by unfold bpF; rw [← hLL, ← hx4]; exact if_neg (fun z => by first | exact hz z.1 | exact hbt z.2.1 | exact hal2 z.2.2)
                              exact ih39 _ (by omega) (s + 1) (x4) ((0, x6)) ((0, x7)) ((0, ((i : Nat) : Int))) rfl ⟨by omega, hn9.symm⟩
                            · exfalso; exact h167 h136
                          · skip
                            have hal : alF LL x6 i = true := Decidable.of_not_not (fun z => h136 (by rw [hx7]; unfold b01N; exact if_neg z))
                            refine qG.blk 2 (pc' := 143) (ls' := [(2, 95), (0, ((c9 : Nat) : Int)), (0, ((k9 : Nat) : Int)), (0, ((s9 : Nat) : Int)), (0, x4), (0, ((s : Nat) : Int)), (0, x6), (0, x7), (0, ((i : Nat) : Int))]) (st' := [(2, w0 95 5)]) (w' := w0) (n' := 142) rfl ?_
                            rw [show w0 95 5 = 101 from zref hA0.1 rfl rfl]
                            refine qG.blk 1 (pc' := 145) (ls' := [(2, 95), (0, ((c9 : Nat) : Int)), (0, ((k9 : Nat) : Int)), (0, ((s9 : Nat) : Int)), (0, x4), (0, ((s : Nat) : Int)), (0, x6), (0, x7), (0, ((i : Nat) : Int))]) (st' := [(0, ((i : Nat) : Int)), (2, 101)]) (w' := w0) (n' := 142) rfl ?_
                            refine qG.ild (m := 1820) rfl rfl (by omega) (by decide) ?_
                            show qG none (d + 1) 264 146 [(2, 95), (0, ((c9 : Nat) : Int)), (0, ((k9 : Nat) : Int)), (0, ((s9 : Nat) : Int)), (0, x4), (0, ((s : Nat) : Int)), (0, x6), (0, x7), (0, ((i : Nat) : Int))] [(0, w0 101 i)] w0 142 Q9
                            rw [show w0 101 i = ((LL.getD i 0 : Nat) : Int) from hT1 i (by omega)]
                            refine qG.blk 2 (pc' := 149) (ls' := [(2, 95), (0, ((c9 : Nat) : Int)), (0, ((k9 : Nat) : Int)), (0, ((s9 : Nat) : Int)), (0, x4), (0, ((s : Nat) : Int)), (0, x6), (0, x7), (0, ((i : Nat) : Int))]) (st' := [(0, qand ((LL.getD i 0 : Nat) : Int) x6)]) (w' := w0) (n' := 142) rfl ?_
                            refine qG.br (P := qand ((LL.getD i 0 : Nat) : Int) x6 = 0) (pc1 := 156) (pc2 := 152) (st1 := []) rfl (fun h149 => ?_) (fun h149 => ?_)
                            · skip
                              refine qG.blk 3 (pc' := 162) (ls' := [(2, 95), (0, ((c9 : Nat) : Int)), (0, ((k9 : Nat) : Int)), (0, ((s9 : Nat) : Int)), (0, x4), (0, ((s : Nat) : Int)), (0, x6), (0, 0), (0, wrp (((i : Nat) : Int) + 1))]) (st' := []) (w' := w0) (n' := 142) rfl ?_
                              rw [show wrp (((i : Nat) : Int) + 1) = ((i + 1 : Nat) : Int) from wrp_id (by omega) (by omega)]
                              refine qG.blk 1 (pc' := 125) (ls' := [(2, 95), (0, ((c9 : Nat) : Int)), (0, ((k9 : Nat) : Int)), (0, ((s9 : Nat) : Int)), (0, x4), (0, ((s : Nat) : Int)), (0, x6), (0, 0), (0, ((i + 1 : Nat) : Int))]) (st' := []) (w' := w0) (n' := 142) rfl ?_
                              exact ih125 _ (by omega) (i + 1) (0) rfl (⟨by omega, by first | exact (congrArg b01N (alF_n h149 (i + 1) (by omega))).symm | exact (congrArg b01N (alF_y hal h149)).symm⟩)
                            · skip
                              refine qG.blk 4 (pc' := 162) (ls' := [(2, 95), (0, ((c9 : Nat) : Int)), (0, ((k9 : Nat) : Int)), (0, ((s9 : Nat) : Int)), (0, x4), (0, ((s : Nat) : Int)), (0, x6), (0, 1), (0, wrp (((i : Nat) : Int) + 1))]) (st' := []) (w' := w0) (n' := 142) rfl ?_
                              rw [show wrp (((i : Nat) : Int) + 1) = ((i + 1 : Nat) : Int) from wrp_id (by omega) (by omega)]
                              refine qG.blk 1 (pc' := 125) (ls' := [(2, 95), (0, ((c9 : Nat) : Int)), (0, ((k9 : Nat) : Int)), (0, ((s9 : Nat) : Int)), (0, x4), (0, ((s : Nat) : Int)), (0, x6), (0, 1), (0, ((i + 1 : Nat) : Int))]) (st' := []) (w' := w0) (n' := 142) rfl ?_
                              exact ih125 _ (by omega) (i + 1) (1) rfl (⟨by omega, by first | exact (congrArg b01N (alF_n h149 (i + 1) (by omega))).symm | exact (congrArg b01N (alF_y hal h149)).symm⟩)
                        · skip
                          refine qG.blk 1 (pc' := 167) (ls' := [(2, 95), (0, ((c9 : Nat) : Int)), (0, ((k9 : Nat) : Int)), (0, ((s9 : Nat) : Int)), (0, x4), (0, ((s : Nat) : Int)), (0, x6), (0, x7), (0, ((i : Nat) : Int))]) (st' := [(0, x7)]) (w' := w0) (n' := 142) rfl ?_
                          have e6 : x6 = prW w c9 s 10 := by rw [hx6, hd10n]
                          refine qG.br (P := x7 = 0) (pc1 := 174) (pc2 := 170) (st1 := []) rfl (fun h167 => ?_) (fun h167 => ?_)
                          · skip
                            have hal2 : ¬ alF LL (prW w c9 s 10) LL.length = true := fun z => by rw [← e6] at z; have q := alF_le z i hi1; rw [hx7] at h167; unfold b01N at h167; rw [if_pos q] at h167; cases h167
                            refine qG.blk 1 (pc' := 177) (ls' := [(2, 95), (0, ((c9 : Nat) : Int)), (0, ((k9 : Nat) : Int)), (0, ((s9 : Nat) : Int)), (0, x4), (0, wrp (((s : Nat) : Int) + 1)), (0, x6), (0, x7), (0, ((i : Nat) : Int))]) (st' := []) (w' := w0) (n' := 142) rfl ?_
                            rw [show wrp (((s : Nat) : Int) + 1) = ((s + 1 : Nat) : Int) from wrp_id (by omega) (by omega)]
                            refine qG.blk 1 (pc' := 39) (ls' := [(2, 95), (0, ((c9 : Nat) : Int)), (0, ((k9 : Nat) : Int)), (0, ((s9 : Nat) : Int)), (0, x4), (0, ((s + 1 : Nat) : Int)), (0, x6), (0, x7), (0, ((i : Nat) : Int))]) (st' := []) (w' := w0) (n' := 142) rfl ?_
                            have hn9 : bpF w c9 k9 s9 (s + 1) = x4 := by unfold bpF; rw [← hLL, ← hx4]; exact if_neg (fun z => by first | exact hz z.1 | exact hbt z.2.1 | exact hal2 z.2.2)
                            exact ih39 _ (by omega) (s + 1) (x4) ((0, x6)) ((0, x7)) ((0, ((i : Nat) : Int))) rfl ⟨by omega, hn9.symm⟩
                          · skip
                            have hal2 : alF LL (prW w c9 s 10) LL.length = true := Decidable.of_not_not (fun z => h167 (by rw [hx7]; unfold b01N; exact if_neg (by rw [show i = LL.length by omega, e6]; exact z)))
                            refine qG.blk 3 (pc' := 177) (ls' := [(2, 95), (0, ((c9 : Nat) : Int)), (0, ((k9 : Nat) : Int)), (0, ((s9 : Nat) : Int)), (0, ((s : Nat) : Int)), (0, wrp (((s : Nat) : Int) + 1)), (0, x6), (0, x7), (0, ((i : Nat) : Int))]) (st' := []) (w' := w0) (n' := 142) rfl ?_
                            rw [show wrp (((s : Nat) : Int) + 1) = ((s + 1 : Nat) : Int) from wrp_id (by omega) (by omega)]
                            refine qG.blk 1 (pc' := 39) (ls' := [(2, 95), (0, ((c9 : Nat) : Int)), (0, ((k9 : Nat) : Int)), (0, ((s9 : Nat) : Int)), (0, ((s : Nat) : Int)), (0, ((s + 1 : Nat) : Int)), (0, x6), (0, x7), (0, ((i : Nat) : Int))]) (st' := []) (w' := w0) (n' := 142) rfl ?_
                            have hn9 : bpF w c9 k9 s9 (s + 1) = ((s : Nat) : Int) := by unfold bpF; rw [← hLL, ← hx4]; exact if_pos ⟨hz, hbt, hal2⟩
                            exact ih39 _ (by omega) (s + 1) (((s : Nat) : Int)) ((0, x6)) ((0, x7)) ((0, ((i : Nat) : Int))) rfl ⟨by omega, hn9.symm⟩
                      exact L125_1 _ (0) (1) rfl (⟨by omega, rfl⟩)
                  exact L82_1 _ (0) (0) rfl (⟨by omega, rfl⟩)
                · skip
                  have hbt : ¬ (x4 = -1 ∨ bitsF ((s : Nat) : Int) 16 < bitsF x4 16) := fun z => z.elim h57 h70
                  refine qG.blk 2 (pc' := 177) (ls' := [(2, 95), (0, ((c9 : Nat) : Int)), (0, ((k9 : Nat) : Int)), (0, ((s9 : Nat) : Int)), (0, x4), (0, wrp (((s : Nat) : Int) + 1)), x6, x7, x8]) (st' := []) (w' := w0) (n' := 142) rfl ?_
                  rw [show wrp (((s : Nat) : Int) + 1) = ((s + 1 : Nat) : Int) from wrp_id (by omega) (by omega)]
                  refine qG.blk 1 (pc' := 39) (ls' := [(2, 95), (0, ((c9 : Nat) : Int)), (0, ((k9 : Nat) : Int)), (0, ((s9 : Nat) : Int)), (0, x4), (0, ((s + 1 : Nat) : Int)), x6, x7, x8]) (st' := []) (w' := w0) (n' := 142) rfl ?_
                  have hn9 : bpF w c9 k9 s9 (s + 1) = x4 := by unfold bpF; rw [← hLL, ← hx4]; exact if_neg (fun z => by first | exact hz z.1 | exact hbt z.2.1 | exact hal2 z.2.2)
                  exact ih39 _ (by omega) (s + 1) (x4) (x6) (x7) (x8) rfl ⟨by omega, hn9.symm⟩
            · skip
              have hz : ¬ s &&& s9 = 0 := fun z => h51 (by rw [z]; rfl)
              have hbt : True := trivial
              refine qG.blk 1 (pc' := 177) (ls' := [(2, 95), (0, ((c9 : Nat) : Int)), (0, ((k9 : Nat) : Int)), (0, ((s9 : Nat) : Int)), (0, x4), (0, wrp (((s : Nat) : Int) + 1)), x6, x7, x8]) (st' := []) (w' := w0) (n' := 142) rfl ?_
              rw [show wrp (((s : Nat) : Int) + 1) = ((s + 1 : Nat) : Int) from wrp_id (by omega) (by omega)]
              refine qG.blk 1 (pc' := 39) (ls' := [(2, 95), (0, ((c9 : Nat) : Int)), (0, ((k9 : Nat) : Int)), (0, ((s9 : Nat) : Int)), (0, x4), (0, ((s + 1 : Nat) : Int)), x6, x7, x8]) (st' := []) (w' := w0) (n' := 142) rfl ?_
              have hn9 : bpF w c9 k9 s9 (s + 1) = x4 := by unfold bpF; rw [← hLL, ← hx4]; exact if_neg (fun z => by first | exact hz z.1 | exact hbt z.2.1 | exact hal2 z.2.2)
              exact ih39 _ (by omega) (s + 1) (x4) (x6) (x7) (x8) rfl ⟨by omega, hn9.symm⟩
          · skip
            refine qG.blk 1 (pc' := 182) (ls' := [(2, 95), (0, ((c9 : Nat) : Int)), (0, ((k9 : Nat) : Int)), (0, ((s9 : Nat) : Int)), (0, x4), (0, ((s : Nat) : Int)), x6, x7, x8]) (st' := [(0, x4)]) (w' := w0) (n' := 142) rfl ?_
            refine qG.ret rfl rfl ?_
            subst hQ9
            first | exact (congrArg (Prod.mk 0) (pfV_c hc0).symm) | exact (congrArg (Prod.mk 0) (pfV_s hk0).symm) | exact (congrArg (Prod.mk 0) (pfV_k hs0).symm) | (rw [hx4, show s = 1024 by omega]; exact (congrArg (Prod.mk 0) (pfV_y hc0 hk0 hs0).symm))
        exact L39 _ (0) ((-1)) ((9, 0)) ((9, 0)) ((9, 0)) rfl (⟨by omega, rfl⟩)
/-- J9 and the doors -/
def JP (n : Nat) (w : qW) : Prop := J9 n w ∧ JE w
def jpM (m : List Nat) : Bool := j9m m && jeM m
theorem JP.up {n m : Nat} {w : qW} (h : JP n w) (hm : n ≤ m) : JP m w := ⟨h.1.up hm, h.2⟩
theorem JP.aw {n : Nat} {m : List Nat} {w w1 : qW} (h : JP n w) (a : AW m w w1) (hm : jpM m = true) : JP n w1 := by
  unfold jpM at hm
  rw [Bool.and_eq_true] at hm
  exact ⟨h.1.aw a hm.1, h.2.aw a hm.2⟩
