/-! counting sets of so many of sixteen -/
noncomputable def ctb (f : Nat → Bool) : Nat → Nat
  | 0 => 0
  | m + 1 => ctb f m + (bif f m then 1 else 0)
noncomputable def pc (n m : Nat) : Nat := ctb (fun i => n.testBit i) m
theorem ctb_congr {f g : Nat → Bool} : ∀ {m : Nat}, (∀ i, i < m → f i = g i) → ctb f m = ctb g m
  | 0, _ => rfl
  | m + 1, h => by
    show ctb f m + (bif f m then 1 else 0) = ctb g m + (bif g m then 1 else 0)
    rw [ctb_congr (fun i hi => h i (by omega)), h m (by omega)]
theorem ctb_filter (f : Nat → Bool) : ∀ m, ((List.range m).filter f).length = ctb f m
  | 0 => rfl
  | m + 1 => by
    rw [List.range_succ, List.filter_append, List.length_append, ctb_filter f m]
    show ctb f m + ([m].filter f).length = ctb f m + (bif f m then 1 else 0)
    congr 1
    rw [List.filter_cons, List.filter_nil]
    cases f m <;> rfl
theorem ctb_not (f : Nat → Bool) : ∀ m, ctb f m + ctb (fun i => !f i) m = m
  | 0 => rfl
  | m + 1 => by
    have := ctb_not f m
    show ctb f m + (bif f m then 1 else 0) + (ctb (fun i => !f i) m + (bif !f m then 1 else 0)) = m + 1
    cases f m
    · show ctb f m + 0 + (ctb (fun i => !f i) m + 1) = m + 1; omega
    · show ctb f m + 1 + (ctb (fun i => !f i) m + 0) = m + 1; omega
theorem ctb_mono {f g : Nat → Bool} : ∀ {m : Nat}, (∀ i, i < m → f i = true → g i = true) → ctb f m ≤ ctb g m
  | 0, _ => Nat.le_refl 0
  | m + 1, h => by
    have ih := ctb_mono (m := m) (fun i hi => h i (by omega))
    have h1 := h m (by omega)
    show ctb f m + (bif f m then 1 else 0) ≤ ctb g m + (bif g m then 1 else 0)
    cases hf : f m
    · show ctb f m + 0 ≤ _; omega
    · rw [h1 hf]; show ctb f m + 1 ≤ ctb g m + 1; omega
/-- one bit less in common: one place where they differ -/
theorem ctb_one {f g : Nat → Bool} : ∀ {m : Nat}, ctb (fun i => f i && g i) m + 1 = ctb f m → ∃ x, x < m ∧ f x = true ∧ g x = false ∧ ∀ z, z < m → z ≠ x → f z = true → g z = true
  | 0, h => by
    have h : 0 + 1 = 0 := h
    omega
  | m + 1, h => by
    have h : ctb (fun i => f i && g i) m + (bif f m && g m then 1 else 0) + 1 = ctb f m + (bif f m then 1 else 0) := h
    have hle : ctb (fun i => f i && g i) m ≤ ctb f m := ctb_mono (fun i _ hi => by rw [Bool.and_eq_true] at hi; exact hi.1)
    by_cases hf : f m = true
    · by_cases hg : g m = true
      · rw [hf, hg] at h
        have h : ctb (fun i => f i && g i) m + 1 + 1 = ctb f m + 1 := h
        obtain ⟨x, h1, h2, h3, h4⟩ := ctb_one (f := f) (g := g) (m := m) (by omega)
        refine ⟨x, by omega, h2, h3, fun z hz hzx hfz => ?_⟩
        by_cases e : z = m
        · rw [e]; exact hg
        · exact h4 z (by omega) hzx hfz
      · rw [hf, ybf hg] at h
        have h : ctb (fun i => f i && g i) m + 0 + 1 = ctb f m + 1 := h
        refine ⟨m, by omega, hf, ybf hg, fun z hz hzx hfz => ?_⟩
        have key : ∀ j, ctb (fun i => f i && g i) j = ctb f j → ∀ z, z < j → f z = true → g z = true := by
          intro j
          induction j with
          | zero => intro _ z hz; omega
          | succ j ih =>
            intro he z hz hfz
            have he : ctb (fun i => f i && g i) j + (bif f j && g j then 1 else 0) = ctb f j + (bif f j then 1 else 0) := he
            have hl : ctb (fun i => f i && g i) j ≤ ctb f j := ctb_mono (fun i _ hi => by rw [Bool.and_eq_true] at hi; exact hi.1)
            cases hfj : f j
            · rw [hfj] at he
              have he : ctb (fun i => f i && g i) j + 0 = ctb f j + 0 := he
              by_cases e : z = j
              · rw [e, hfj] at hfz; cases hfz
              · exact ih (by omega) z (by omega) hfz
            · rw [hfj] at he
              cases hgj : g j
              · rw [hgj] at he
                have he : ctb (fun i => f i && g i) j + 0 = ctb f j + 1 := he
                omega
              · rw [hgj] at he
                have he : ctb (fun i => f i && g i) j + 1 = ctb f j + 1 := he
                by_cases e : z = j
                · rw [e]; exact hgj
                · exact ih (by omega) z (by omega) hfz
        exact key m (by omega) z (by omega) hfz
    · rw [ybf hf] at h
      have h : ctb (fun i => f i && g i) m + 0 + 1 = ctb f m + 0 := h
      obtain ⟨x, h1, h2, h3, h4⟩ := ctb_one (f := f) (g := g) (m := m) (by omega)
      refine ⟨x, by omega, h2, h3, fun z hz hzx hfz => ?_⟩
      by_cases e : z = m
      · rw [e] at hfz; exact absurd hfz hf
      · exact h4 z (by omega) hzx hfz
/-- a without a bit, with another -/
noncomputable def swaps (a : Nat) : List Nat := ((List.range 16).filter (fun x => a.testBit x)).flatMap (fun x => ((List.range 16).filter (fun y => !a.testBit y)).map (fun y => a ^^^ 2 ^ x ^^^ 2 ^ y))
theorem flat_len {α β : Type} {f : α → List β} {c : Nat} : ∀ {l : List α}, (∀ x ∈ l, (f x).length = c) → (l.flatMap f).length = l.length * c
  | [], _ => by rw [List.flatMap_nil]; show 0 = 0 * c; omega
  | a :: l, h => by
    rw [List.flatMap_cons, List.length_append, h a List.mem_cons_self, flat_len (fun x hx => h x (List.mem_cons_of_mem _ hx)), List.length_cons, Nat.add_mul]
    omega
theorem swaps_len (a : Nat) : (swaps a).length = pc a 16 * (16 - pc a 16) := by
  unfold swaps
  rw [flat_len (c := 16 - pc a 16), ctb_filter]
  · rfl
  · intro x _
    rw [List.length_map, ctb_filter]
    have := ctb_not (fun i => a.testBit i) 16
    unfold pc
    omega
theorem swaps_in {a b : Nat} (ha : a < 65536) (hb : b < 65536) {k : Nat} (h1 : pc a 16 = k) (h2 : pc b 16 = k) (h3 : pc (a &&& b) 16 + 1 = k) : b ∈ swaps a := by
  have e1 : ctb (fun i => a.testBit i && b.testBit i) 16 + 1 = ctb (fun i => a.testBit i) 16 := by
    have : pc (a &&& b) 16 = ctb (fun i => a.testBit i && b.testBit i) 16 := ctb_congr (fun i _ => by show (a &&& b).testBit i = _; rw [Nat.testBit_and])
    unfold pc at h1 this
    unfold pc at h3
    omega
  have e2 : ctb (fun i => b.testBit i && a.testBit i) 16 + 1 = ctb (fun i => b.testBit i) 16 := by
    have : pc (a &&& b) 16 = ctb (fun i => b.testBit i && a.testBit i) 16 := ctb_congr (fun i _ => by show (a &&& b).testBit i = _; rw [Nat.testBit_and, Bool.and_comm])
    unfold pc at h2 this
    unfold pc at h3
    omega
  obtain ⟨x, x1, x2, x3, x4⟩ := ctb_one e1
  obtain ⟨y, y1, y2, y3, y4⟩ := ctb_one e2
  unfold swaps
  rw [List.mem_flatMap]
  refine ⟨x, List.mem_filter.mpr ⟨List.mem_range.mpr x1, x2⟩, List.mem_map.mpr ⟨y, List.mem_filter.mpr ⟨List.mem_range.mpr y1, by rw [y3]; rfl⟩, ?_⟩⟩
  apply Nat.eq_of_testBit_eq
  intro i
  rw [Nat.testBit_xor, Nat.testBit_xor, Nat.testBit_two_pow, Nat.testBit_two_pow]
  by_cases hi : i < 16
  · by_cases c1 : x = i
    · subst c1
      have c2 : ¬ y = x := fun z => by rw [z, x2] at y3; cases y3
      rw [x2, decide_eq_true rfl, decide_eq_false c2, x3]; rfl
    · by_cases c2 : y = i
      · subst c2
        rw [y3, decide_eq_false c1, decide_eq_true rfl, y2]; rfl
      · rw [decide_eq_false c1, decide_eq_false c2, Bool.xor_false, Bool.xor_false]
        cases q1 : a.testBit i
        · cases q2 : b.testBit i
          · rfl
          · have := y4 i hi (fun z => c2 z.symm) q2
            rw [q1] at this; cases this
        · exact (x4 i hi (fun z => c1 z.symm) q1).symm
  · have z1 : a.testBit i = false := Nat.testBit_lt_two_pow (Nat.lt_of_lt_of_le ha (Nat.pow_le_pow_right (n := 2) (i := 16) (by decide) (by omega)))
    have z2 : b.testBit i = false := Nat.testBit_lt_two_pow (Nat.lt_of_lt_of_le hb (Nat.pow_le_pow_right (n := 2) (i := 16) (by decide) (by omega)))
    rw [z1, z2, decide_eq_false (by omega), decide_eq_false (by omega)]; rfl
theorem pigeon : ∀ {l L : List Nat}, l.Nodup → (∀ b ∈ l, b ∈ L) → l.length ≤ L.length
  | [], _, _, _ => Nat.zero_le _
  | a :: l, L, hn, h => by
    have ha := h a List.mem_cons_self
    have h1 := List.nodup_cons.mp hn
    have ih := pigeon (l := l) (L := L.erase a) h1.2 (fun b hb => (List.mem_erase_of_ne (fun z => h1.1 (by rw [← z]; exact hb))).mpr (h b (List.mem_cons_of_mem _ hb)))
    rw [List.length_erase_of_mem ha] at ih
    have : 0 < L.length := List.length_pos_of_mem ha
    show l.length + 1 ≤ L.length
    omega
/-- how many numbers below 2 to the m have k ones -/
noncomputable def binm : Nat → Nat → Nat
  | 0, 0 => 1
  | 0, _ + 1 => 0
  | m + 1, 0 => binm m 0
  | m + 1, k + 1 => binm m (k + 1) + binm m k
theorem pc_lo {m n : Nat} (h : n < 2 ^ m) : pc n (m + 1) = pc n m := by
  show ctb _ m + (bif n.testBit m then 1 else 0) = ctb _ m
  rw [Nat.testBit_lt_two_pow h]; rfl
theorem pc_hi {m n : Nat} (h : n < 2 ^ m) : pc (2 ^ m + n) (m + 1) = pc n m + 1 := by
  show ctb _ m + (bif (2 ^ m + n).testBit m then 1 else 0) = ctb _ m + 1
  rw [Nat.testBit_two_pow_add_eq, Nat.testBit_lt_two_pow h]
  show ctb _ m + 1 = ctb _ m + 1
  congr 1
  exact ctb_congr (fun i hi => Nat.testBit_two_pow_add_gt hi n)
theorem bin_count : ∀ (m k : Nat), ((List.range (2 ^ m)).filter (fun n => Nat.beq (pc n m) k)).length = binm m k
  | 0, 0 => rfl
  | 0, k + 1 => rfl
  | m + 1, k => by
    have e : (List.range (2 ^ (m + 1))).filter (fun n => Nat.beq (pc n (m + 1)) k) = (List.range (2 ^ m)).filter (fun n => Nat.beq (pc n m) k) ++ ((List.range (2 ^ m)).map (fun x => 2 ^ m + x)).filter (fun n => Nat.beq (pc n (m + 1)) k) := by
      rw [show 2 ^ (m + 1) = 2 ^ m + 2 ^ m by rw [Nat.pow_succ]; omega, List.range_add, List.filter_append]
      congr 1
      exact List.filter_congr (fun n hn => by rw [pc_lo (List.mem_range.mp hn)])
    rw [e, List.length_append, List.filter_map, List.length_map, bin_count m k]
    cases k with
    | zero =>
      show binm m 0 + _ = binm m 0
      have : (List.range (2 ^ m)).filter ((fun n => Nat.beq (pc n (m + 1)) 0) ∘ (fun x => 2 ^ m + x)) = [] := by
        rw [List.filter_eq_nil_iff]
        intro n hn h
        have h : Nat.beq (pc (2 ^ m + n) (m + 1)) 0 = true := h
        rw [pc_hi (List.mem_range.mp hn)] at h; cases h
      rw [this]; rfl
    | succ k =>
      show binm m (k + 1) + _ = binm m (k + 1) + binm m k
      rw [← bin_count m k]
      congr 2
      exact List.filter_congr (fun n hn => by show Nat.beq (pc (2 ^ m + n) (m + 1)) (k + 1) = _; rw [pc_hi (List.mem_range.mp hn)]; rfl)
theorem bin_16 : ∀ k, k < 5 → binm 16 k ≤ 1820 := by decide +kernel
theorem swap_49 : ∀ k, k < 5 → k * (16 - k) ≤ 48 := by decide
/-- the plain run's bits are these -/
theorem hb_bit {n j : Nat} (hn : n < 65536) (hj : j < 16) : qand (qshr (n : Int) (j : Int)) 1 = if n.testBit j = true then 1 else 0 := by
  have h1 : qshr (n : Int) (j : Int) = ((n / 2 ^ j : Nat) : Int) := by
    unfold qshr
    rw [yofn (x := (n : Int)) (by omega) (by omega), yofn (x := (j : Int)) (by omega) (by omega), Int.toNat_natCast, Int.toNat_natCast, yb_shr (by omega) (by omega)]
    have : n / 2 ^ j ≤ n := Nat.div_le_self _ _
    rw [nI_toInt (by omega)]
  have h2 : n / 2 ^ j ≤ n := Nat.div_le_self _ _
  rw [h1]
  have h3 := qand_n (a := n / 2 ^ j) (b := 1) (by omega) (by omega)
  have h3 : qand ((n / 2 ^ j : Nat) : Int) 1 = ((n / 2 ^ j &&& 1 : Nat) : Int) := h3
  rw [h3, Nat.and_one_is_mod, Nat.testBit_eq_decide_div_mod_eq]
  generalize n / 2 ^ j = q
  by_cases c : q % 2 = 1
  · rw [c]; rfl
  · rw [if_neg (by rw [decide_eq_true_eq]; exact c), show q % 2 = 0 by omega]; rfl
theorem bitsF_pc {n : Nat} (hn : n < 65536) : ∀ m, m ≤ 16 → bitsF (n : Int) m = ((pc n m : Nat) : Int)
  | 0, _ => rfl
  | m + 1, hm => by
    show bitsF (n : Int) m + qand (qshr (n : Int) (m : Int)) 1 = ((ctb (fun i => n.testBit i) m + (bif n.testBit m then 1 else 0) : Nat) : Int)
    rw [bitsF_pc hn m (by omega), hb_bit hn (by omega)]
    unfold pc
    generalize ctb (fun i => n.testBit i) m = z
    cases n.testBit m
    · show (z : Int) + 0 = ((z + 0 : Nat) : Int); omega
    · show (z : Int) + 1 = ((z + 1 : Nat) : Int); omega
