/-! the class's hangsTogether and the reference's hangs agree on sets of four spaces at most (pure) -/
theorem hb_t {n j : Nat} (hn : n < 65536) (hj : j < 16) : hbit (n : Int) j = n.testBit j := by
  unfold hbit
  rw [hb_bit hn hj]
  cases n.testBit j <;> rfl
theorem tb_hi {n i : Nat} (hn : n < 65536) (hi : ¬ i < 16) : n.testBit i = false :=
  Nat.testBit_lt_two_pow (Nat.lt_of_lt_of_le (show n < 2 ^ 16 from hn) (Nat.pow_le_pow_right (by decide) (by omega)))
theorem hb_ext {a b : Int} (ha : 0 ≤ a ∧ a ≤ 65535) (hb : 0 ≤ b ∧ b ≤ 65535) (h : ∀ s, s < 16 → hbit a s = hbit b s) : a = b := by
  obtain ⟨n, rfl⟩ : ∃ n : Nat, a = n := ⟨a.toNat, by omega⟩
  obtain ⟨m, rfl⟩ : ∃ m : Nat, b = m := ⟨b.toNat, by omega⟩
  have e : n = m := by
    apply Nat.eq_of_testBit_eq
    intro i
    by_cases hi : i < 16
    · have := h i hi
      rw [hb_t (by omega) hi, hb_t (by omega) hi] at this
      exact this
    · rw [tb_hi (by omega) hi, tb_hi (by omega) hi]
  rw [e]
noncomputable def sbs (a b : Int) : Prop := ∀ s, s < 16 → hbit a s = true → hbit b s = true
theorem sbs.rf (a : Int) : sbs a a := fun _ _ h => h
theorem sbs.tr {a b c : Int} (h : sbs a b) (h2 : sbs b c) : sbs a c := fun s hs z => h2 s hs (h s hs z)
theorem sbs.eq {a b : Int} (ha : 0 ≤ a ∧ a ≤ 65535) (hb : 0 ≤ b ∧ b ≤ 65535) (h : sbs a b) (h2 : sbs b a) : a = b := by
  refine hb_ext ha hb (fun s hs => ?_)
  cases e : hbit a s
  · cases e2 : hbit b s
    · rfl
    · rw [h2 s hs e2] at e; cases e
  · exact (h s hs e).symm
