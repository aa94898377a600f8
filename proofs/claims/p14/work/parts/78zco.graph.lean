/-! the class's move of poses is the reference's -/
theorem hb_not {x : Int} {s : Nat} (hs : s < 32) : hbit (qxor x (-1)) s = !hbit x s := by
  rw [hbit_b hs, ← e_xor, Int32.toBitVec_xor, BitVec.getLsbD_xor, ← hbit_b hs, ← hbit_b hs, show hbit (-1) s = true from (show ∀ t : Nat, t < 32 → hbit (-1) t = true by decide +kernel) s hs, Bool.xor_true]
/-- who hangs together with another lies next to one -/
theorem hg_conn {P : Nat → Nat → Bool} (hsy : ∀ s t, s < 16 → t < 16 → P s t = P t s) {v : Nat} (hv : v < 65536) (h : hgR P (v : Int) = (v : Int)) {t u : Nat} (ht : t < 16) (hu : u < 16) (hvt : v.testBit t = true) (hvu : v.testBit u = true) (hne : u ≠ t) : ∃ s, s < 16 ∧ v.testBit s = true ∧ s ≠ t ∧ P s t = true := by
  by_cases q : ∃ s, s < 16 ∧ v.testBit s = true ∧ s ≠ t ∧ P s t = true
  · exact q
  exfalso
  unfold hgR at h
  rcases hgL_lo (v : Int) 16 (Nat.le_refl _) with ⟨-, z⟩ | ⟨r, hr, hbr, -, hL⟩
  · have := z t ht
    rw [hb_t hv ht, hvt] at this; cases this
  have e2 := q2p r hr
  have hp : 0 < 2 ^ r := Nat.two_pow_pos r
  rw [hL, if_neg (by rw [e2.1]; omega)] at h
  by_cases e : r = t
  · subst e
    have hX : clo P (v : Int) (qshl 1 (r : Int)) := fun s t' hs ht' hXs hvt' hP => by
      rw [hbit_1 r (by omega) s (by omega)] at hXs
      have es : r = s := of_decide_eq_true hXs
      rw [hbit_1 r (by omega) t' (by omega)]
      by_cases e3 : r = t'
      · exact decide_eq_true e3
      · rw [hb_t hv ht'] at hvt'
        exact absurd ⟨t', ht', hvt', fun z => e3 z.symm, by rw [hsy t' r ht' hr, es]; exact hP⟩ q
    have c := hgF_c hX 65536 _ (sbs.rf _)
    rw [h] at c
    have := c u hu (by rw [hb_t hv hu]; exact hvu)
    rw [hbit_1 r (by omega) u (by omega)] at this
    exact hne (of_decide_eq_true this).symm
  · have hb9 : ∀ s, s < 16 → hbit (qand (v : Int) (qxor (qshl 1 (t : Int)) (-1))) s = (v.testBit s && !decide (t = s)) := fun s hs => by
      rw [hbit_and (by omega), hb_t hv hs, hb_not (by omega), hbit_1 t (by omega) s (by omega)]
    have hX : clo P (v : Int) (qand (v : Int) (qxor (qshl 1 (t : Int)) (-1))) := fun s t' hs ht' hXs hvt' hP => by
      rw [hb9 s hs, Bool.and_eq_true, Bool.not_eq_true', decide_eq_false_iff_not] at hXs
      rw [hb_t hv ht'] at hvt'
      rw [hb9 t' ht', hvt', Bool.true_and, Bool.not_eq_true', decide_eq_false_iff_not]
      intro z
      subst z
      exact q ⟨s, hs, hXs.1, fun y => hXs.2 y.symm, hP⟩
    have c := hgF_c hX 65536 (qshl 1 (r : Int)) (fun s hs z => by
      rw [hbit_1 r (by omega) s (by omega)] at z
      have es : r = s := of_decide_eq_true z
      subst es
      rw [hb9 r hs, ← hb_t hv hs, hbr, decide_eq_false (fun y => e y.symm)]; rfl)
    rw [h] at c
    have := c t ht (by rw [hb_t hv ht]; exact hvt)
    rw [hb9 t ht, decide_eq_true rfl, Bool.not_true, Bool.and_false] at this
    cases this
/-- two that lie side by side hang together -/
theorem hg_two {P : Nat → Nat → Bool} (hsy : ∀ s t, s < 16 → t < 16 → P s t = P t s) {v s t : Nat} (hv : v < 65536) (hs : s < 16) (ht : t < 16) (hP : P s t = true) (hvs : v.testBit s = true) (hvt : v.testBit t = true) (hall : ∀ z, z < 16 → v.testBit z = true → z = s ∨ z = t) : hgR P (v : Int) = (v : Int) := by
  have hv16 : 0 ≤ (v : Int) ∧ (v : Int) ≤ 65535 := by omega
  rcases hgL_lo (v : Int) 16 (Nat.le_refl _) with ⟨-, z⟩ | ⟨r, hr, hbr, -, hL⟩
  · have := z t ht
    rw [hb_t hv ht, hvt] at this; cases this
  have e2 := q2p r hr
  have hp : 0 < 2 ^ r := Nat.two_pow_pos r
  unfold hgR
  rw [hL, if_neg (by rw [e2.1]; omega)]
  obtain ⟨f1, f2, f3⟩ := hgF_f (P := P) (v := (v : Int)) 65536 (qshl 1 (r : Int)) (by rw [e2.1]; omega) (by rw [e2.1]; omega) (by rw [e2.1]; omega)
  have hcl := fix_clo f1
  have hm := hgF_m (P := P) (v := (v : Int)) 65536 (qshl 1 (r : Int))
  have hrX : hbit (hgF P (v : Int) 65536 (qshl 1 (r : Int))) r = true := hm r hr (by rw [hbit_1 r (by omega) r (by omega)]; exact decide_eq_true rfl)
  have hrv : v.testBit r = true := by rw [← hb_t hv hr]; exact hbr
  have hX : ∀ z, z < 16 → (z = s ∨ z = t) → hbit (hgF P (v : Int) 65536 (qshl 1 (r : Int))) z = true := fun z hz hzz => by
    by_cases e : z = r
    · rw [e]; exact hrX
    · have hvz : hbit (v : Int) z = true := by rw [hb_t hv hz]; rcases hzz with rfl | rfl <;> assumption
      refine hcl r z hr hz hrX hvz ?_
      rcases hall r hr hrv with e1 | e1 <;> rcases hzz with e3 | e3
      · exact absurd (e3.trans e1.symm) e
      · rw [e1, e3]; exact hP
      · rw [e1, e3, hsy t s ht hs]; exact hP
      · exact absurd (e3.trans e1.symm) e
  have hcv : clo P (v : Int) (v : Int) := fun _ _ _ _ _ h _ => h
  have hup := hgF_c hcv 65536 (qshl 1 (r : Int)) (fun z hz y => by
    rw [hbit_1 r (by omega) z (by omega)] at y
    rw [← of_decide_eq_true y]; exact hbr)
  exact sbs.eq ⟨f2, f3⟩ hv16 hup (fun z hz y => hX z hz (hall z hz (by rw [← hb_t hv hz]; exact y)))
theorem ctb_split {f g : Nat → Bool} : ∀ m, ctb (fun i => f i && !g i) m + ctb (fun i => f i && g i) m = ctb f m
  | 0 => rfl
  | m + 1 => by
    have ih := ctb_split (f := f) (g := g) m
    show (ctb (fun i => f i && !g i) m + (bif f m && !g m then 1 else 0)) + (ctb (fun i => f i && g i) m + (bif f m && g m then 1 else 0)) = ctb f m + (bif f m then 1 else 0)
    cases f m <;> cases g m <;> simp only [Bool.false_and, Bool.true_and, Bool.not_true, Bool.not_false, cond_true, cond_false] <;> omega
theorem ctb_pos {f : Nat → Bool} : ∀ m, 0 < ctb f m → ∃ z, z < m ∧ f z = true
  | 0, h => absurd h (Nat.lt_irrefl 0)
  | m + 1, h => by
    cases hf : f m with
    | true => exact ⟨m, by omega, hf⟩
    | false =>
      have h : 0 < ctb f m + (bif f m then 1 else 0) := h
      rw [hf] at h
      obtain ⟨z, a, b⟩ := ctb_pos m h
      exact ⟨z, by omega, b⟩
theorem mv_eq {w : qW} {c k : Nat} {R : Nat → Int} (hR : ∀ s t, s < 16 → t < 16 → hbit (R s) t = pasB w c s t) (hsy : ∀ s t, s < 16 → t < 16 → pasB w c s t = pasB w c t s) {a b : Nat} (ha : a < 65536) (hb : b < 65536) (hk1 : 1 ≤ k) (pa : pc a 16 = k) (pb : pc b 16 = k) (hgb : hgR (pasB w c) (b : Int) = (b : Int)) (hne : a ≠ b) : imB (a : Int) (b : Int) (ntF R (a : Int) 16) = mvB w c k (a : Int) (b : Int) := by
  have hfr := qand_16 (a := qxor (a : Int) (-1)) (b := (b : Int)) (by omega)
  obtain ⟨fr, hf⟩ : ∃ fr : Nat, qand (b : Int) (qxor (a : Int) (-1)) = (fr : Int) := ⟨(qand (b : Int) (qxor (a : Int) (-1))).toNat, by omega⟩
  have hf16 : fr < 65536 := by rw [hf] at hfr; omega
  have hfb : ∀ z, z < 16 → fr.testBit z = (b.testBit z && !a.testBit z) := fun z hz => by
    rw [← hb_t hf16 hz, ← hf, hbit_and (by omega), hb_t hb hz, hb_not (by omega), hb_t ha hz]
  have hab : qand (a : Int) (b : Int) = ((a &&& b : Nat) : Int) := qand_n (by omega) (by omega)
  have hab6 : a &&& b < 65536 := Nat.lt_of_le_of_lt Nat.and_le_left ha
  have c1 : bitsF (fr : Int) 30 = ((pc fr 16 : Nat) : Int) := by
    rw [bitsF_n (by omega) 30 (by decide), pcn_h hf16, pcnL_c]; rfl
  have c2 : bitsF ((a &&& b : Nat) : Int) 16 = ((pc (a &&& b) 16 : Nat) : Int) := bitsF_pc hab6 16 (Nat.le_refl _)
  have c3 : pc fr 16 + pc (a &&& b) 16 = k := by
    rw [← pb]
    have e1 : pc fr 16 = ctb (fun i => b.testBit i && !a.testBit i) 16 := ctb_congr (fun i hi => hfb i hi)
    have e2 : pc (a &&& b) 16 = ctb (fun i => b.testBit i && a.testBit i) 16 := ctb_congr (fun i hi => by rw [Nat.testBit_and, Bool.and_comm])
    rw [e1, e2]
    exact ctb_split 16
  unfold imB mvB
  rw [hf, hab, c1, c2, decide_eq_false (show ¬ (a : Int) = (b : Int) by omega), Bool.false_or]
  by_cases h1 : pc fr 16 = 1
  · rw [decide_eq_true (show ((pc fr 16 : Nat) : Int) = 1 by omega), decide_eq_true (show ((pc (a &&& b) 16 : Nat) : Int) = (k : Int) - 1 by omega), Bool.true_and, Bool.true_and]
    obtain ⟨t, ht, hbt, hat, hun⟩ := ctb_one (f := fun i => b.testBit i) (g := fun i => a.testBit i) (m := 16) (by
      have e2 : pc (a &&& b) 16 = ctb (fun i => b.testBit i && a.testBit i) 16 := ctb_congr (fun i hi => by rw [Nat.testBit_and, Bool.and_comm])
      have e3 : pc b 16 = ctb (fun i => b.testBit i) 16 := rfl
      omega)
    have hx : (∃ s, s < 16 ∧ a.testBit s = true ∧ pasB w c s t = true) ↔ ¬ qand (fr : Int) (ntF R (a : Int) 16) = 0 := by
      have hin := qand_16 (a := ntF R (a : Int) 16) (b := (fr : Int)) (by omega)
      constructor
      · rintro ⟨s, hs, has, hP⟩ z
        have q : hbit (qand (fr : Int) (ntF R (a : Int) 16)) t = true := by
          rw [hbit_and (by omega), hb_t hf16 ht, hfb t ht, hbt, hat]
          exact (ntF_b ht 16 (Nat.le_refl _)).mpr ⟨s, hs, by rw [hb_t ha hs]; exact has, by rw [hR s t hs ht]; exact hP⟩
        rw [z, hbit_z t (by omega)] at q
        cases q
      · intro z
        by_cases q : hbit (ntF R (a : Int) 16) t = true
        · obtain ⟨s, hs, h2, h3⟩ := (ntF_b ht 16 (Nat.le_refl _)).mp q
          exact ⟨s, hs, by rw [← hb_t ha hs]; exact h2, by rw [← hR s t hs ht]; exact h3⟩
        · refine absurd (hb_ext hin ⟨Int.le_refl 0, by decide⟩ (fun s hs => ?_)) z
          rw [hbit_and (by omega), hb_t hf16 hs, hfb s hs, hbit_z s (by omega)]
          by_cases e : s = t
          · rw [e]
            have q : hbit (ntF R (a : Int) 16) t = false := by
              cases hh : hbit (ntF R (a : Int) 16) t with
              | false => rfl
              | true => exact absurd hh q
            rw [q, Bool.and_false]
          · cases hbs : b.testBit s with
            | false => rfl
            | true => rw [hun s hs e hbs]; rfl
    by_cases hk : (1 : Int) < (k : Int)
    · rw [decide_eq_true hk, Bool.true_or]
      have hpos : 0 < pc (a &&& b) 16 := by omega
      obtain ⟨z, hz, hzb⟩ := ctb_pos 16 hpos
      have hzb : (a &&& b).testBit z = true := hzb
      rw [Nat.testBit_and, Bool.and_eq_true] at hzb
      have hzt : z ≠ t := fun y => by rw [y, hat] at hzb; cases hzb.1
      obtain ⟨s, hs, hbs, hst, hP⟩ := hg_conn hsy hb hgb ht hz hbt hzb.2 hzt
      rw [decide_eq_false (hx.mp ⟨s, hs, hun s hs hst hbs, hP⟩)]; rfl
    · rw [decide_eq_false hk, Bool.false_or]
      have hk1' : k = 1 := by omega
      obtain ⟨s, hs, has⟩ := ctb_pos (f := fun i => a.testBit i) 16 (by have : pc a 16 = ctb (fun i => a.testBit i) 16 := rfl; omega)
      have has : a.testBit s = true := has
      have hbs : b.testBit s = false := by
        cases hh : b.testBit s with
        | false => rfl
        | true =>
          have : 0 < pc (a &&& b) 16 := by
            have q : ctb (fun i => decide (i = s)) 16 ≤ pc (a &&& b) 16 := ctb_mono (fun i hi z => by rw [of_decide_eq_true z, Nat.testBit_and, has, hh]; rfl)
            have q2 : ∀ s : Nat, s < 16 → ctb (fun i => decide (i = s)) 16 = 1 := by decide +kernel
            have := q2 s hs
            omega
          omega
      have hst : s ≠ t := fun y => by rw [y, hbt] at hbs; cases hbs
      have hone : ∀ z, z < 16 → a.testBit z = true → z = s := fun z hz haz => by
        by_cases e : z = s
        · exact e
        exfalso
        have q : ctb (fun i => decide (i = s) || decide (i = z)) 16 ≤ pc a 16 := ctb_mono (fun i hi y => by
          rw [Bool.or_eq_true, decide_eq_true_eq, decide_eq_true_eq] at y
          rcases y with y | y <;> rw [y] <;> assumption)
        have q2 : ∀ s : Nat, s < 16 → ∀ z : Nat, z < 16 → (Nat.beq z s || Nat.beq (ctb (fun i => decide (i = s) || decide (i = z)) 16) 2) = true := by decide +kernel
        have q3 := q2 s hs z hz
        rw [Bool.or_eq_true] at q3
        rcases q3 with q3 | q3
        · exact e (Nat.eq_of_beq_eq_true q3)
        · have := Nat.eq_of_beq_eq_true q3
          omega
      have hor : qor (a : Int) (b : Int) = ((a ||| b : Nat) : Int) := qor_n (by omega) (by omega)
      have hor6 : a ||| b < 65536 := Nat.or_lt_two_pow (n := 16) ha hb
      have hv : ∀ z, z < 16 → (a ||| b).testBit z = true → z = s ∨ z = t := fun z hz y => by
        rw [Nat.testBit_or, Bool.or_eq_true] at y
        rcases y with y | y
        · exact .inl (hone z hz y)
        · by_cases e : z = t
          · exact .inr e
          · exact .inl (hone z hz (hun z hz e y))
      have hvs : (a ||| b).testBit s = true := by rw [Nat.testBit_or, has]; rfl
      have hvt : (a ||| b).testBit t = true := by rw [Nat.testBit_or, hbt, Bool.or_true]
      rw [hor]
      by_cases hP : pasB w c s t = true
      · rw [decide_eq_false (hx.mp ⟨s, hs, has, hP⟩), decide_eq_true (hg_two hsy hor6 hs ht hP hvs hvt hv)]; rfl
      · have n1 : qand (fr : Int) (ntF R (a : Int) 16) = 0 := by
          by_cases y : qand (fr : Int) (ntF R (a : Int) 16) = 0
          · exact y
          · obtain ⟨s', hs', has', hP'⟩ := hx.mpr y
            rw [hone s' hs' has'] at hP'
            exact absurd hP' hP
        have n2 : ¬ hgR (pasB w c) ((a ||| b : Nat) : Int) = ((a ||| b : Nat) : Int) := fun y => by
          obtain ⟨s', hs', hb', hne', hP'⟩ := hg_conn hsy hor6 y ht hs hvt hvs hst
          rcases hv s' hs' hb' with e | e
          · rw [e] at hP'; exact hP hP'
          · exact hne' e
        rw [decide_eq_true n1, decide_eq_false n2]; rfl
  · rw [decide_eq_false (show ¬ ((pc fr 16 : Nat) : Int) = 1 by omega), decide_eq_false (show ¬ ((pc (a &&& b) 16 : Nat) : Int) = (k : Int) - 1 by omega)]; rfl
theorem fpL_el {w : qW} {c k j : Nat} (hj : j < (fpL w c k 65536).length) : (fpL w c k 65536).getD j 0 < 65536 ∧ pc ((fpL w c k 65536).getD j 0) 16 = k ∧ hgR (pasB w c) (((fpL w c k 65536).getD j 0 : Nat) : Int) = (((fpL w c k 65536).getD j 0 : Nat) : Int) := by
  have hm : (fpL w c k 65536).getD j 0 ∈ fpL w c k 65536 := by
    rw [List.getD_eq_getElem?_getD, List.getElem?_eq_getElem hj]
    exact List.getElem_mem hj
  have q := fpL_in (Nat.le_refl _) hm
  have h : fpd w c k ((fpL w c k 65536).getD j 0) = true := (List.mem_filter.mp hm).2
  unfold fpd at h
  rw [Bool.and_eq_true, Bool.and_eq_true, decide_eq_true_eq, decide_eq_true_eq, decide_eq_true_eq] at h
  exact ⟨q.1, q.2, h.2.2⟩
theorem fpL_lt {w : qW} {c k i j : Nat} (hi : i < j) (hj : j < (fpL w c k 65536).length) : (fpL w c k 65536).getD i 0 < (fpL w c k 65536).getD j 0 := by
  have hp : (fpL w c k 65536).Pairwise (fun a b => a < b) := List.Pairwise.filter _ List.pairwise_lt_range
  have q := List.pairwise_iff_getElem.mp hp i j (by omega) hj hi
  rw [List.getD_eq_getElem?_getD, List.getElem?_eq_getElem (show i < (fpL w c k 65536).length by omega), List.getD_eq_getElem?_getD, List.getElem?_eq_getElem hj]
  exact q
theorem fpL_ne {w : qW} {c k i j : Nat} (hi : i < (fpL w c k 65536).length) (hj : j < (fpL w c k 65536).length) (h : i ≠ j) : (fpL w c k 65536).getD i 0 ≠ (fpL w c k 65536).getD j 0 := by
  rcases Nat.lt_or_gt_of_ne h with q | q
  · have := fpL_lt q hj; omega
  · have := fpL_lt q hi; omega
theorem mvX_eq {w w1 : qW} {c k : Nat} {R : Nat → Int} (hR : ∀ s t, s < 16 → t < 16 → hbit (R s) t = pasB w c s t) (hsy : ∀ s t, s < 16 → t < 16 → pasB w c s t = pasB w c t s) (hk1 : 1 ≤ k) (h25 : ∀ j, j < (fpL w c k 65536).length → w1 25 j = (((fpL w c k 65536).getD j 0 : Nat) : Int)) {r j : Nat} (hr : r < (fpL w c k 65536).length) (hj : j < (fpL w c k 65536).length) : mvX w1 R r j = mvB w c k (((fpL w c k 65536).getD r 0 : Nat) : Int) (((fpL w c k 65536).getD j 0 : Nat) : Int) := by
  unfold mvX
  by_cases e : r = j
  · rw [decide_eq_true e, e, mv_1 rfl]; rfl
  · rw [decide_eq_false e, Bool.false_or, h25 r hr, h25 j hj]
    obtain ⟨a1, a2, -⟩ := fpL_el hr
    obtain ⟨b1, b2, b3⟩ := fpL_el hj
    exact mv_eq hR hsy a1 b1 hk1 a2 b2 b3 (fpL_ne hr hj e)

