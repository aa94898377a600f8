/-! the class's hangsTogether and the reference's hangs agree on sets of four spaces at most (pure) -/
theorem hb_t {n j : Nat} (hn : n < 65536) (hj : j < 16) : hbit (n : Int) j = n.testBit j := by
  unfold hbit
  rw [hb_bit hn hj]
  cases n.testBit j <;> rfl
theorem tb_hi {n i : Nat} (hn : n < 65536) (hi : ¬ i < 16) : n.testBit i = false :=
  Nat.testBit_lt_two_pow (Nat.lt_of_lt_of_le (show n < 2 ^ 16 from hn) (Nat.pow_le_pow_right (by decide) (by omega)))
theorem hb_ext {a b : Int} (ha : 0 ≤ a ∧ a ≤ 65535) (hb : 0 ≤ b ∧ b ≤ 65535) (h : ∀ s, s < 16 → hbit a s = hbit b s) : a = b := by
  obtain ⟨n, rfl⟩ : ∃ n : Nat, a = n := ⟨a.toNat, by omega⟩
  obtain ⟨m, rfl⟩ : ∃ m : Nat, b = m := ⟨b.toNat, by omega⟩
  have e : n = m := by
    apply Nat.eq_of_testBit_eq
    intro i
    by_cases hi : i < 16
    · have := h i hi
      rw [hb_t (by omega) hi, hb_t (by omega) hi] at this
      exact this
    · rw [tb_hi (by omega) hi, tb_hi (by omega) hi]
  rw [e]
theorem hbit_and {x y : Int} {s : Nat} (hs : s < 32) : hbit (qand x y) s = (hbit x s && hbit y s) := by
  rw [hbit_b hs, hbit_b hs, hbit_b hs]
  unfold qand
  rw [Int32.ofInt_toInt, Int32.toBitVec_and, BitVec.getLsbD_and]
noncomputable def sbs (a b : Int) : Prop := ∀ s, s < 16 → hbit a s = true → hbit b s = true
noncomputable def clo (P : Nat → Nat → Bool) (v X : Int) : Prop := ∀ s t, s < 16 → t < 16 → hbit X s = true → hbit v t = true → P s t = true → hbit X t = true
theorem sbs.rf (a : Int) : sbs a a := fun _ _ h => h
theorem sbs.tr {a b c : Int} (h : sbs a b) (h2 : sbs b c) : sbs a c := fun s hs z => h2 s hs (h s hs z)
theorem sbs.eq {a b : Int} (ha : 0 ≤ a ∧ a ≤ 65535) (hb : 0 ≤ b ∧ b ≤ 65535) (h : sbs a b) (h2 : sbs b a) : a = b := by
  refine hb_ext ha hb (fun s hs => ?_)
  cases e : hbit a s
  · cases e2 : hbit b s
    · rfl
    · rw [h2 s hs e2] at e; cases e
  · exact (h s hs e).symm
theorem hgT_b {P : Nat → Nat → Bool} {v m : Int} {s t j : Nat} (ht : t < 16) (hj : j < 16) : hbit (hgT P v s (t + 1) m) j = (hbit (hgT P v s t m) j || ((hbit (hgT P v s t m) s && (hbit v t && P s t)) && decide (t = j))) := by
  show hbit (bif hbit (hgT P v s t m) s && (hbit v t && P s t) then qor (hgT P v s t m) (qshl 1 (t : Int)) else hgT P v s t m) j = _
  cases hbit (hgT P v s t m) s && (hbit v t && P s t)
  · show hbit (hgT P v s t m) j = (hbit (hgT P v s t m) j || (false && decide (t = j)))
    rw [Bool.false_and, Bool.or_false]
  · show hbit (qor (hgT P v s t m) (qshl 1 (t : Int))) j = (hbit (hgT P v s t m) j || (true && decide (t = j)))
    rw [hbit_or (by omega), hbit_1 t (by omega) j (by omega), Bool.true_and]
theorem hgT_m {P : Nat → Nat → Bool} {v m : Int} {s t : Nat} : ∀ k, t + k ≤ 16 → sbs (hgT P v s t m) (hgT P v s (t + k) m)
  | 0, _ => sbs.rf _
  | k + 1, hk => fun j hj z => by
    have ih := hgT_m (P := P) (v := v) (m := m) (s := s) (t := t) k (by omega) j hj z
    show hbit (hgT P v s (t + k + 1) m) j = true
    rw [hgT_b (by omega) hj, ih, Bool.true_or]
theorem hgT_c {P : Nat → Nat → Bool} {v m X : Int} {s : Nat} (hX : clo P v X) (hm : sbs m X) (hs : s < 16) : ∀ t, t ≤ 16 → sbs (hgT P v s t m) X
  | 0, _ => hm
  | t + 1, ht => fun j hj z => by
    have ih := hgT_c hX hm hs t (by omega)
    rw [hgT_b (by omega) hj, Bool.or_eq_true] at z
    rcases z with z | z
    · exact ih j hj z
    · rw [Bool.and_eq_true, Bool.and_eq_true, Bool.and_eq_true, decide_eq_true_eq] at z
      obtain ⟨⟨z1, z2, z3⟩, rfl⟩ := z
      exact hX s t hs hj (ih s hs z1) z2 z3
theorem hgS_m {P : Nat → Nat → Bool} {v m : Int} {s : Nat} : ∀ k, s + k ≤ 16 → sbs (hgS P v s m) (hgS P v (s + k) m)
  | 0, _ => sbs.rf _
  | k + 1, hk => (hgS_m (P := P) (v := v) (m := m) (s := s) k (by omega)).tr (by
    have := hgT_m (P := P) (v := v) (m := hgS P v (s + k) m) (s := s + k) (t := 0) 16 (by omega)
    rw [Nat.zero_add] at this
    exact this)
theorem hgS_c {P : Nat → Nat → Bool} {v m X : Int} (hX : clo P v X) (hm : sbs m X) : ∀ s, s ≤ 16 → sbs (hgS P v s m) X
  | 0, _ => hm
  | s + 1, hs => hgT_c hX (hgS_c hX hm s (by omega)) (by omega) 16 (by omega)
theorem fix_clo {P : Nat → Nat → Bool} {v m : Int} (h : hgS P v 16 m = m) : clo P v m := by
  intro s t hs ht h1 h2 h3
  have a0 := hgS_m (P := P) (v := v) (m := m) (s := 0) s (by omega)
  rw [Nat.zero_add] at a0
  have a1 : hbit (hgS P v s m) s = true := a0 s hs h1
  have b0 := hgT_m (P := P) (v := v) (m := hgS P v s m) (s := s) (t := 0) t (by omega)
  rw [Nat.zero_add] at b0
  have b1 : hbit (hgT P v s t (hgS P v s m)) s = true := b0 s hs a1
  have c1 : hbit (hgT P v s (t + 1) (hgS P v s m)) t = true := by
    rw [hgT_b ht ht, b1, h2, h3, decide_eq_true rfl]
    cases hbit (hgT P v s t (hgS P v s m)) t <;> rfl
  have c2 := hgT_m (P := P) (v := v) (m := hgS P v s m) (s := s) (t := t + 1) (16 - (t + 1)) (by omega) t ht c1
  rw [show t + 1 + (16 - (t + 1)) = 16 by omega] at c2
  have d := hgS_m (P := P) (v := v) (m := m) (s := s + 1) (16 - (s + 1)) (by omega) t ht c2
  rw [show s + 1 + (16 - (s + 1)) = 16 by omega, h] at d
  exact d
theorem hgF_s {P : Nat → Nat → Bool} {v m : Int} {n : Nat} : hgF P v (n + 1) m = if hgS P v 16 m = m then m else hgF P v n (hgS P v 16 m) := rfl
theorem hgF_c {P : Nat → Nat → Bool} {v X : Int} (hX : clo P v X) : ∀ (n : Nat) (m : Int), sbs m X → sbs (hgF P v n m) X
  | 0, _, hm => hm
  | n + 1, m, hm => by
    rw [hgF_s]
    split
    · exact hm
    · exact hgF_c hX n _ (hgS_c hX hm 16 (by omega))
theorem hgF_m {P : Nat → Nat → Bool} {v : Int} : ∀ (n : Nat) (m : Int), sbs m (hgF P v n m)
  | 0, _ => sbs.rf _
  | n + 1, m => by
    rw [hgF_s]
    split
    · exact sbs.rf _
    · have a := hgS_m (P := P) (v := v) (m := m) (s := 0) 16 (by omega)
      rw [Nat.zero_add] at a
      exact sbs.tr a (hgF_m n _)
theorem hgF_f {P : Nat → Nat → Bool} {v : Int} : ∀ (n : Nat) (m : Int), 0 ≤ m → m ≤ 65535 → 65536 - m ≤ (n : Int) → hgS P v 16 (hgF P v n m) = hgF P v n m ∧ 0 ≤ hgF P v n m ∧ hgF P v n m ≤ 65535
  | 0, m, h0, h1, h2 => by omega
  | n + 1, m, h0, h1, h2 => by
    rw [hgF_s]
    have k := hgS_in (P := P) (v := v) (m := m) h0 h1 16
    by_cases e : hgS P v 16 m = m
    · rw [if_pos e]; exact ⟨e, h0, h1⟩
    · rw [if_neg e]; exact hgF_f n _ (by omega) k.2 (by omega)
/-- the lowest space -/
theorem hgL_lo (v : Int) : ∀ s, s ≤ 16 → (hgL v s = 0 ∧ ∀ t, t < s → hbit v t = false) ∨ ∃ r, r < s ∧ hbit v r = true ∧ (∀ t, t < r → hbit v t = false) ∧ hgL v s = qshl 1 (r : Int)
  | 0, _ => .inl ⟨rfl, fun t ht => absurd ht (Nat.not_lt_zero t)⟩
  | s + 1, hs => by
    have ih := hgL_lo v s (by omega)
    rcases ih with ⟨a, b⟩ | ⟨r, a, b, c, e⟩
    · cases hb : hbit v s
      · refine .inl ⟨?_, fun t ht => ?_⟩
        · show (if hgL v s = 0 then (bif hbit v s then qshl 1 (s : Int) else 0) else hgL v s) = 0
          rw [if_pos a, hb]; rfl
        · by_cases q : t = s
          · rw [q]; exact hb
          · exact b t (by omega)
      · refine .inr ⟨s, by omega, hb, b, ?_⟩
        show (if hgL v s = 0 then (bif hbit v s then qshl 1 (s : Int) else 0) else hgL v s) = _
        rw [if_pos a, hb]; rfl
    · have hne : ¬ hgL v s = 0 := by
        rw [e]
        obtain ⟨e1, -⟩ := q2p r (by omega)
        rw [e1]
        have : 0 < 2 ^ r := Nat.two_pow_pos r
        omega
      refine .inr ⟨r, by omega, b, c, ?_⟩
      show (if hgL v s = 0 then (bif hbit v s then qshl 1 (s : Int) else 0) else hgL v s) = _
      rw [if_neg hne]; exact e
/-- what is next to a set, and one step of the class's -/
noncomputable def ntF (R : Nat → Int) (x : Int) : Nat → Int
  | 0 => 0
  | s + 1 => if hbit x s = true then qor (ntF R x s) (R s) else ntF R x s
theorem ntF_b {R : Nat → Int} {x : Int} {t : Nat} (ht : t < 16) : ∀ k, k ≤ 16 → (hbit (ntF R x k) t = true ↔ ∃ s, s < k ∧ hbit x s = true ∧ hbit (R s) t = true)
  | 0, _ => by
    show hbit 0 t = true ↔ _
    rw [hbit_z t (by omega)]
    exact ⟨fun z => (by cases z), fun ⟨s, hs, _⟩ => absurd hs (Nat.not_lt_zero s)⟩
  | k + 1, hk => by
    have ih := ntF_b (R := R) (x := x) ht k (by omega)
    show hbit (if hbit x k = true then qor (ntF R x k) (R k) else ntF R x k) t = true ↔ _
    by_cases c : hbit x k = true
    · rw [if_pos c, hbit_or (by omega), Bool.or_eq_true, ih]
      constructor
      · rintro (⟨s, a, b⟩ | z)
        · exact ⟨s, by omega, b⟩
        · exact ⟨k, by omega, c, z⟩
      · rintro ⟨s, a, b, z⟩
        by_cases q : s = k
        · rw [q] at z; exact .inr z
        · exact .inl ⟨s, by omega, b, z⟩
    · rw [if_neg c, ih]
      constructor
      · rintro ⟨s, a, b⟩; exact ⟨s, by omega, b⟩
      · rintro ⟨s, a, b, z⟩
        by_cases q : s = k
        · rw [q] at b; exact absurd b c
        · exact ⟨s, by omega, b, z⟩
noncomputable def stI (R : Nat → Int) (v x : Int) : Int := qor x (qand (ntF R x 16) v)
theorem stI_b {R : Nat → Int} {P : Nat → Nat → Bool} {v x : Int} (hR : ∀ s t, s < 16 → t < 16 → hbit (R s) t = P s t) {t : Nat} (ht : t < 16) : hbit (stI R v x) t = true ↔ hbit x t = true ∨ (hbit v t = true ∧ ∃ s, s < 16 ∧ hbit x s = true ∧ P s t = true) := by
  unfold stI
  rw [hbit_or (by omega), hbit_and (by omega), Bool.or_eq_true, Bool.and_eq_true, ntF_b ht 16 (Nat.le_refl _)]
  constructor
  · rintro (z | ⟨⟨s, a, b, z⟩, z2⟩)
    · exact .inl z
    · rw [hR s t a ht] at z; exact .inr ⟨z2, s, a, b, z⟩
  · rintro (z | ⟨z2, s, a, b, z⟩)
    · exact .inl z
    · rw [← hR s t a ht] at z; exact .inr ⟨⟨s, a, b, z⟩, z2⟩
theorem qor_in {x y : Int} (hx : 0 ≤ x ∧ x ≤ 65535) (hy : 0 ≤ y ∧ y ≤ 65535) : 0 ≤ qor x y ∧ qor x y ≤ 65535 := by
  obtain ⟨n, rfl⟩ : ∃ n : Nat, x = n := ⟨x.toNat, by omega⟩
  obtain ⟨m, rfl⟩ : ∃ m : Nat, y = m := ⟨y.toNat, by omega⟩
  rw [qor_n (by omega) (by omega)]
  have h3 : n ||| m < 2 ^ 16 := Nat.or_lt_two_pow (by omega) (by omega)
  omega
theorem stI_in {R : Nat → Int} {v x : Int} (hv : 0 ≤ v ∧ v ≤ 65535) (hx : 0 ≤ x ∧ x ≤ 65535) : 0 ≤ stI R v x ∧ stI R v x ≤ 65535 := by
  have h := qand_hi (x := ntF R x 16) (y := v) (d := 65535) hv.1 hv.2 (by decide)
  exact qor_in hx ⟨h.1, h.2⟩
theorem ctb_st {f g : Nat → Bool} {i : Nat} (hf : f i = false) (hg : g i = true) : ∀ {m : Nat}, (∀ i, i < m → f i = true → g i = true) → i < m → ctb f m < ctb g m
  | 0, _, h => absurd h (Nat.not_lt_zero i)
  | m + 1, h, hi => by
    show ctb f m + (bif f m then 1 else 0) < ctb g m + (bif g m then 1 else 0)
    by_cases e : i = m
    · rw [← e, hf, hg]
      have := ctb_mono (f := f) (g := g) (m := i) (fun j hj z => h j (by omega) z)
      show ctb f i + 0 < ctb g i + 1
      omega
    · have ih := ctb_st hf hg (m := m) (fun j hj z => h j (by omega) z) (by omega)
      cases hm : f m
      · cases g m
        · show ctb f m + 0 < ctb g m + 0; omega
        · show ctb f m + 0 < ctb g m + 1; omega
      · rw [h m (by omega) hm]
        show ctb f m + 1 < ctb g m + 1; omega
noncomputable def cnt16 (x : Int) : Nat := ctb (fun i => hbit x i) 16
theorem cnt_lt {a b : Int} (ha : 0 ≤ a ∧ a ≤ 65535) (hb : 0 ≤ b ∧ b ≤ 65535) (h : sbs a b) (hne : ¬ a = b) : cnt16 a < cnt16 b := by
  have : ∃ i, i < 16 ∧ hbit a i = false ∧ hbit b i = true := by
    refine Decidable.byContradiction (fun z => hne (sbs.eq ha hb h (fun s hs q => ?_)))
    cases e : hbit a s
    · exact absurd ⟨s, hs, e, q⟩ z
    · rfl
  obtain ⟨i, h1, h2, h3⟩ := this
  exact ctb_st (f := fun i => hbit a i) (g := fun i => hbit b i) h2 h3 (fun j hj z => h j hj z) h1
/-- three steps from the lowest space reach all of a set of four at most just where the reference's closure is all of it -/
theorem hang_eq {R : Nat → Int} {P : Nat → Nat → Bool} (hR : ∀ s t, s < 16 → t < 16 → hbit (R s) t = P s t) {v : Int} (hv : 0 ≤ v ∧ v ≤ 65535) (h4 : cnt16 v ≤ 4) {r : Nat} (hr : r < 16) (hbr : hbit v r = true) (hlo : hgL v 16 = qshl 1 (r : Int)) : stI R v (stI R v (stI R v (qshl 1 (r : Int)))) = v ↔ hgR P v = v := by
  obtain ⟨e1, e2⟩ := q2p r hr
  have hx0 : 0 ≤ qshl 1 (r : Int) ∧ qshl 1 (r : Int) ≤ 65535 := by rw [e1]; have : 0 < 2 ^ r := Nat.two_pow_pos r; omega
  have hb0 : ∀ t, t < 16 → (hbit (qshl 1 (r : Int)) t = true ↔ t = r) := fun t ht => by
    rw [hbit_1 r (by omega) t (by omega), decide_eq_true_eq]
    exact ⟨fun z => z.symm, fun z => z.symm⟩
  have hlow : ¬ hgL v 16 = 0 := by rw [hlo, e1]; have : 0 < 2 ^ r := Nat.two_pow_pos r; omega
  have eR : hgR P v = hgF P v 65536 (qshl 1 (r : Int)) := by unfold hgR; rw [if_neg hlow, hlo]
  have hF := hgF_f (P := P) (v := v) 65536 (qshl 1 (r : Int)) hx0.1 hx0.2 (by omega)
  rw [← eR] at hF
  have cR : clo P v (hgR P v) := fix_clo hF.1
  have lR : sbs (qshl 1 (r : Int)) (hgR P v) := by rw [eR]; exact hgF_m _ _
  have inR : ∀ X, clo P v X → sbs (qshl 1 (r : Int)) X → sbs (hgR P v) X := fun X hX hm => by rw [eR]; exact hgF_c hX _ _ hm
  have cv : clo P v v := fun s t _ _ _ z _ => z
  have lv : sbs (qshl 1 (r : Int)) v := fun s hs z => by rw [(hb0 s hs).mp z]; exact hbr
  have up : ∀ x, sbs x (stI R v x) := fun x s hs z => (stI_b hR hs).mpr (.inl z)
  have cl : ∀ X, clo P v X → ∀ x, sbs x X → sbs (stI R v x) X := fun X hX x hx t ht z => by
    rcases (stI_b hR ht).mp z with z | ⟨z2, s, a, b, z⟩
    · exact hx t ht z
    · exact hX s t a ht (hx s a b) z2 z
  have fx : ∀ x, stI R v x = x → clo P v x := fun x e s t hs ht h1 h2 h3 => by
    have := (stI_b (P := P) (v := v) (x := x) hR ht).mpr (.inr ⟨h2, s, hs, h1, h3⟩)
    rwa [e] at this
  have i1 := stI_in (R := R) (v := v) (x := qshl 1 (r : Int)) hv hx0
  have i2 := stI_in (R := R) (v := v) hv i1
  have i3 := stI_in (R := R) (v := v) hv i2
  have v1 := cl v cv _ lv
  have v2 := cl v cv _ v1
  have v3 := cl v cv _ v2
  have u1 := up (qshl 1 (r : Int))
  have u2 := up (stI R v (qshl 1 (r : Int)))
  have u3 := up (stI R v (stI R v (qshl 1 (r : Int))))
  constructor
  · intro h
    have q3 := cl _ cR _ (cl _ cR _ (cl _ cR _ lR))
    rw [h] at q3
    exact sbs.eq hF.2 hv (inR v cv lv) q3
  · intro h
    refine Decidable.byContradiction (fun hne => ?_)
    have no : ∀ x, 0 ≤ x ∧ x ≤ 65535 → sbs (qshl 1 (r : Int)) x → sbs x v → ¬ x = v → ¬ stI R v x = x := fun x hx a b hn e => hn (sbs.eq hx hv b (by
      have := inR x (fx x e) a
      rwa [h] at this))
    -- where a step adds nothing, all further ones add nothing
    by_cases s0 : stI R v (qshl 1 (r : Int)) = qshl 1 (r : Int)
    · rw [s0, s0, s0] at hne
      exact no _ hx0 (sbs.rf _) lv hne s0
    · by_cases s1 : stI R v (stI R v (qshl 1 (r : Int))) = stI R v (qshl 1 (r : Int))
      · rw [s1, s1] at hne
        exact no _ i1 u1 v1 hne s1
      · by_cases s2 : stI R v (stI R v (stI R v (qshl 1 (r : Int)))) = stI R v (stI R v (qshl 1 (r : Int)))
        · rw [s2] at hne
          exact no _ i2 (u1.tr u2) v2 hne s2
        · have c0 : 0 < cnt16 (qshl 1 (r : Int)) := by
            have z : cnt16 0 < cnt16 (qshl 1 (r : Int)) := cnt_lt ⟨by decide, by decide⟩ hx0 (fun s hs q => by rw [hbit_z s (by omega)] at q; cases q) (fun e => hlow (by rw [hlo]; exact e.symm))
            omega
          have c1 := cnt_lt hx0 i1 u1 (fun e => s0 e.symm)
          have c2 := cnt_lt i1 i2 u2 (fun e => s1 e.symm)
          have c3 := cnt_lt i2 i3 u3 (fun e => s2 e.symm)
          have c4 := cnt_lt i3 hv v3 hne
          omega
