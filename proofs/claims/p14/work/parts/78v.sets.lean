/-! the class's sets of as many: all of them, in their order -/
noncomputable def gosN (m : Nat) : Nat := (gosF (m : Int)).toNat
noncomputable def gN (m : Nat) : Nat → Nat
  | 0 => m
  | i + 1 => gN (gosN m) i
noncomputable def gosC (k : Nat) : Nat → Nat → Bool
  | 0, m => Nat.blt 65535 m
  | n + 1, m => match m with
    | 0 => false
    | q + 1 => Nat.ble (q + 1) 65535 && (Nat.beq (pc (q + 1) 16) k && (decide (0 ≤ gosF ((q + 1 : Nat) : Int)) && (Nat.blt (q + 1) (gosN (q + 1)) && gosC k n (gosN (q + 1)))))
theorem gos_1 : gosC 1 16 1 = true := by decide +kernel
theorem gos_2 : gosC 2 120 3 = true := by decide +kernel
theorem gos_3 : gosC 3 560 7 = true := by decide +kernel
theorem gos_4 : gosC 4 1820 15 = true := by decide +kernel
theorem gos_f {k : Nat} : ∀ n m, gosC k n m = true → (∀ i, i < n → (0 < gN m i ∧ gN m i ≤ 65535) ∧ pc (gN m i) 16 = k ∧ gN m i < gN m (i + 1) ∧ gosF ((gN m i : Nat) : Int) = ((gN m (i + 1) : Nat) : Int)) ∧ 65535 < gN m n
  | 0, m, h => ⟨fun i hi => absurd hi (Nat.not_lt_zero i), Nat.blt_eq.mp h⟩
  | n + 1, 0, h => absurd (show false = true from h) Bool.false_ne_true
  | n + 1, q + 1, h => by
    have h : (Nat.ble (q + 1) 65535 && (Nat.beq (pc (q + 1) 16) k && (decide (0 ≤ gosF ((q + 1 : Nat) : Int)) && (Nat.blt (q + 1) (gosN (q + 1)) && gosC k n (gosN (q + 1)))))) = true := h
    rw [Bool.and_eq_true, Bool.and_eq_true, Bool.and_eq_true, Bool.and_eq_true, decide_eq_true_eq] at h
    obtain ⟨h1, h2, h3, h4, h5⟩ := h
    have h1 := Nat.le_of_ble_eq_true h1
    have h2 := Nat.eq_of_beq_eq_true h2
    have h4 := Nat.blt_eq.mp h4
    have ih := gos_f n (gosN (q + 1)) h5
    refine ⟨fun i hi => ?_, ih.2⟩
    cases i with
    | zero => exact ⟨⟨Nat.succ_pos q, h1⟩, h2, h4, (Int.toNat_of_nonneg h3).symm⟩
    | succ i => exact ih.1 i (Nat.lt_of_succ_lt_succ hi)
theorem gN_lt {k n m : Nat} (h : gosC k n m = true) {i : Nat} : ∀ d, i + d < n → gN m i < gN m (i + d + 1)
  | 0, hd => ((gos_f n m h).1 i hd).2.2.1
  | d + 1, hd => Nat.lt_trans (gN_lt h d (by omega)) ((gos_f n m h).1 (i + (d + 1)) hd).2.2.1
theorem two_sorted : ∀ (A B : List Nat), A.Pairwise (fun a b => a < b) → B.Pairwise (fun a b => a < b) → (∀ x ∈ B, x ∈ A) → A.length ≤ B.length → A = B
  | [], B, _, _, h, _ => by
    cases B with
    | nil => rfl
    | cons b B => exact absurd (h b (.head _)) List.not_mem_nil
  | a :: A, [], _, _, _, h => absurd h (by simp)
  | a :: A, b :: B, hA, hB, h, hl => by
    have hA1 := List.pairwise_cons.mp hA
    have hB1 := List.pairwise_cons.mp hB
    by_cases e : b = a
    · subst e
      rw [two_sorted A B hA1.2 hB1.2 (fun x hx => by
        rcases List.mem_cons.mp (h x (.tail _ hx)) with q | q
        · have := hB1.1 x hx; omega
        · exact q) (by simpa using hl)]
    · exfalso
      have hb : b ∈ A := by
        rcases List.mem_cons.mp (h b (.head _)) with q | q
        · exact absurd q e
        · exact q
      have hab := hA1.1 b hb
      have sub : ∀ x ∈ b :: B, x ∈ A := fun x hx => by
        rcases List.mem_cons.mp (h x hx) with q | q
        · rcases List.mem_cons.mp hx with z | z
          · omega
          · have := hB1.1 x z; omega
        · exact q
      have nd : (b :: B).Nodup := hB.imp (fun z => Nat.ne_of_lt z)
      have := pigeon nd sub
      simp only [List.length_cons] at this hl
      omega
theorem sets_eq {k n m : Nat} (h : gosC k n m = true) (hn : binm 16 k = n) : (List.range 65536).filter (fun s => Nat.beq (pc s 16) k) = (List.range n).map (gN m) := by
  have hf := gos_f n m h
  refine two_sorted _ _ (List.Pairwise.filter _ List.pairwise_lt_range) ?_ (fun x hx => ?_) ?_
  · rw [List.pairwise_map]
    refine List.Pairwise.imp_of_mem ?_ (List.pairwise_lt_range (n := n))
    intro i j hi hj hij
    have hj := List.mem_range.mp hj
    have := gN_lt h (i := i) (j - i - 1) (by omega)
    rwa [show i + (j - i - 1) + 1 = j by omega] at this
  · obtain ⟨i, hi, rfl⟩ := List.mem_map.mp hx
    have q := hf.1 i (List.mem_range.mp hi)
    refine List.mem_filter.mpr ⟨List.mem_range.mpr (by omega), ?_⟩
    show Nat.beq (pc (gN m i) 16) k = true
    rw [q.2.1]
    exact Nat.beq_refl k
  · rw [List.length_map, List.length_range, ← hn]
    exact Nat.le_of_eq (bin_count 16 k)
theorem fp_sets {w : qW} {c k n m : Nat} (h : gosC k n m = true) (hn : binm 16 k = n) : fpL w c k 65536 = ((List.range n).map (gN m)).filter (fpd w c k) := by
  rw [← sets_eq h hn, List.filter_filter]
  unfold fpL
  refine List.filter_congr (fun s hs => ?_)
  have hs := List.mem_range.mp hs
  cases e : fpd w c k s
  · rfl
  · have hb := fpd_b e
    rw [bitsF_pc hs 16 (Nat.le_refl _)] at hb
    have : pc s 16 = k := by omega
    rw [this, show Nat.beq k k = true from Nat.beq_refl k]; rfl
/-- the first i sets that are poses -/
noncomputable def fpG (w : qW) (c k m i : Nat) : List Nat := ((List.range i).map (gN m)).filter (fpd w c k)
theorem fpG_y {w : qW} {c k m i : Nat} (h : fpd w c k (gN m i) = true) : fpG w c k m (i + 1) = fpG w c k m i ++ [gN m i] := by
  unfold fpG
  rw [List.range_succ, List.map_append, List.filter_append]
  show _ ++ List.filter (fpd w c k) [gN m i] = _
  rw [List.filter_cons_of_pos h]; rfl
theorem fpG_n {w : qW} {c k m i : Nat} (h : fpd w c k (gN m i) = false) : fpG w c k m (i + 1) = fpG w c k m i := by
  unfold fpG
  rw [List.range_succ, List.map_append, List.filter_append]
  show _ ++ List.filter (fpd w c k) [gN m i] = _
  rw [List.filter_cons_of_neg (by rw [h]; exact Bool.false_ne_true)]
  exact List.append_nil _
