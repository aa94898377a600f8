/-! hiding, told by the sets of poses in which he can be -/
noncomputable def exN (f : Nat → Bool) : Nat → Bool
  | 0 => false
  | m + 1 => exN f m || f m
theorem exN_iff {f : Nat → Bool} : ∀ {m : Nat}, exN f m = true ↔ ∃ i, i < m ∧ f i = true
  | 0 => ⟨fun h => (by cases h), fun ⟨i, h, _⟩ => absurd h (Nat.not_lt_zero i)⟩
  | m + 1 => by
    show (exN f m || f m) = true ↔ _
    rw [Bool.or_eq_true, exN_iff]
    constructor
    · rintro (⟨i, a, b⟩ | h)
      · exact ⟨i, by omega, b⟩
      · exact ⟨m, by omega, h⟩
    · rintro ⟨i, a, b⟩
      by_cases e : i = m
      · exact .inr (e ▸ b)
      · exact .inl ⟨i, by omega, b⟩
/-- the poses (of N, with the sets P and the moves M) in which he can be after t seconds that show V -/
noncomputable def hz (N : Nat) (P : Nat → Int) (M : Nat → Nat → Bool) (V : Nat → Int) : Nat → Nat → Bool
  | 0, j => decide (j < N)
  | t + 1, j => decide (j < N) && (decide (qand (P j) (V t) = 0) && exN (fun i => hz N P M V t i && M i j) N)
theorem hz_s {N : Nat} {P : Nat → Int} {M : Nat → Nat → Bool} {V : Nat → Int} {t j : Nat} : hz N P M V (t + 1) j = (decide (j < N) && (decide (qand (P j) (V t) = 0) && exN (fun i => hz N P M V t i && M i j) N)) := rfl
theorem hz_N {N : Nat} {P : Nat → Int} {M : Nat → Nat → Bool} {V : Nat → Int} {t j : Nat} (h : ¬ j < N) : hz N P M V t j = false := by
  cases t with
  | zero => exact decide_eq_false h
  | succ t => rw [hz_s, decide_eq_false h, Bool.false_and]
noncomputable def hzE (f : Nat → Bool) : Prop := ∀ j, f j = false
theorem hzE_s {N : Nat} {P : Nat → Int} {M : Nat → Nat → Bool} {V : Nat → Int} {t : Nat} (h : hzE (hz N P M V t)) : hzE (hz N P M V (t + 1)) := fun j => by
  cases q : hz N P M V (t + 1) j with
  | false => rfl
  | true =>
    rw [hz_s, Bool.and_eq_true, Bool.and_eq_true] at q
    obtain ⟨i, -, hi⟩ := exN_iff.mp q.2.2
    rw [h i] at hi
    cases hi
theorem hzE_u {N : Nat} {P : Nat → Int} {M : Nat → Nat → Bool} {V : Nat → Int} {t : Nat} (h : hzE (hz N P M V t)) : ∀ u, hzE (hz N P M V (t + u))
  | 0 => h
  | u + 1 => hzE_s (hzE_u h u)
theorem hz_cg {N : Nat} {P P2 : Nat → Int} {M M2 : Nat → Nat → Bool} {V V2 : Nat → Int} {S : Nat} (hP : ∀ i, i < N → P2 i = P i) (hM : ∀ i j, i < N → j < N → M2 i j = M i j) (hV : ∀ t, t < S → V2 t = V t) : ∀ t, t ≤ S → hz N P2 M2 V2 t = hz N P M V t
  | 0, _ => rfl
  | t + 1, ht => funext fun j => by
    rw [hz_s, hz_s, hz_cg hP hM hV t (by omega), hV t (by omega)]
    by_cases hj : j < N
    · rw [hP j hj]
      congr 2
      rw [Bool.eq_iff_iff, exN_iff, exN_iff]
      constructor <;> (rintro ⟨i, a, b⟩; refine ⟨i, a, ?_⟩; simp only [hM i j a hj] at *; exact b)
    · rw [decide_eq_false hj, Bool.false_and, Bool.false_and]
/-- what hiding comes to: when it fails, in how many poses he is at the end -/
noncomputable def HSP (N : Nat) (P : Nat → Int) (M : Nat → Nat → Bool) (V : Nat → Int) (S : Nat) (fl cn : Int) : Prop := (N = 0 ∧ fl = 0 ∧ cn = 0) ∨ (0 < N ∧ ((fl = -1 ∧ cn = ((ctb (hz N P M V S) N : Nat) : Int) ∧ ¬ hzE (hz N P M V S)) ∨ ∃ f : Nat, f < S ∧ fl = (f : Int) ∧ cn = 0 ∧ ¬ hzE (hz N P M V f) ∧ hzE (hz N P M V (f + 1))))
theorem HSP.uniq {N : Nat} {P : Nat → Int} {M : Nat → Nat → Bool} {V : Nat → Int} {S : Nat} {fl cn fl2 cn2 : Int} (h : HSP N P M V S fl cn) (h2 : HSP N P M V S fl2 cn2) : fl = fl2 ∧ cn = cn2 := by
  have no : ∀ a b : Nat, a < b → hzE (hz N P M V (a + 1)) → ¬ hzE (hz N P M V b) → False := fun a b hab h1 h2 => by
    have := hzE_u h1 (b - (a + 1))
    rw [show a + 1 + (b - (a + 1)) = b by omega] at this
    exact h2 this
  rcases h with ⟨a1, a2, a3⟩ | ⟨a1, ⟨a2, a3, a4⟩ | ⟨f, a2, a3, a4, a5, a6⟩⟩
  · rcases h2 with ⟨b1, b2, b3⟩ | ⟨b1, -⟩
    · omega
    · omega
  · rcases h2 with ⟨b1, -⟩ | ⟨-, ⟨b2, b3, -⟩ | ⟨f, b2, -, -, -, b6⟩⟩
    · omega
    · omega
    · exact (no f S b2 b6 a4).elim
  · rcases h2 with ⟨b1, -⟩ | ⟨-, ⟨-, -, b4⟩ | ⟨g, b2, b3, b4, b5, b6⟩⟩
    · omega
    · exact (no f S a2 a6 b4).elim
    · have : f = g := by
        rcases Nat.lt_trichotomy f g with q | q | q
        · exact (no f g q a6 b5).elim
        · exact q
        · exact (no g f q b6 a5).elim
      omega
theorem HSP.cg {N : Nat} {P P2 : Nat → Int} {M M2 : Nat → Nat → Bool} {V V2 : Nat → Int} {S : Nat} {fl cn : Int} (h : HSP N P2 M2 V2 S fl cn) (hP : ∀ i, i < N → P2 i = P i) (hM : ∀ i j, i < N → j < N → M2 i j = M i j) (hV : ∀ t, t < S → V2 t = V t) : HSP N P M V S fl cn := by
  have e := hz_cg hP hM hV
  rcases h with h | ⟨a, ⟨b1, b2, b3⟩ | ⟨f, b1, b2, b3, b4, b5⟩⟩
  · exact .inl h
  · rw [e S (Nat.le_refl _)] at b2 b3
    exact .inr ⟨a, .inl ⟨b1, b2, b3⟩⟩
  · rw [e f (by omega)] at b4
    rw [e (f + 1) (by omega)] at b5
    exact .inr ⟨a, .inr ⟨f, b1, b2, b3, b4, b5⟩⟩
noncomputable def hoV (fl cn v : Int) : Int := if v = 0 then (if 0 < cn then 1 else 0) else if v = 1 then fl else if v = 2 then cn else -1
theorem ctb_0 {f : Nat → Bool} : ∀ {m : Nat}, ctb f m = 0 ↔ ∀ i, i < m → f i = false
  | 0 => ⟨fun _ i h => absurd h (Nat.not_lt_zero i), fun _ => rfl⟩
  | m + 1 => by
    have ih := ctb_0 (f := f) (m := m)
    show ctb f m + (bif f m then 1 else 0) = 0 ↔ _
    constructor
    · intro h i hi
      by_cases e : i = m
      · rw [e]
        cases hf : f m with
        | false => rfl
        | true =>
          rw [hf] at h
          have h : ctb f m + 1 = 0 := h
          omega
      · exact ih.mp (by omega) i (by omega)
    · intro h
      rw [ih.mpr (fun i hi => h i (by omega)), h m (by omega)]; rfl
theorem cntF_c (f : Nat → Bool) : ∀ m, cntF f m = ctb f m
  | 0 => rfl
  | m + 1 => by
    show cntF f m + (if f m = true then 1 else 0) = ctb f m + (bif f m then 1 else 0)
    rw [cntF_c f m]
    cases f m <;> rfl
theorem hz_c0 {N : Nat} {P : Nat → Int} {M : Nat → Nat → Bool} {V : Nat → Int} {t m : Nat} (hm : N ≤ m) : ctb (hz N P M V t) m = 0 ↔ hzE (hz N P M V t) := by
  rw [ctb_0]
  exact ⟨fun h j => if q : j < m then h j q else hz_N (by omega), fun h j _ => h j⟩
/-- the poses of a chest and size, by number; the moves between them -/
noncomputable def pzP (w : qW) (c k i : Nat) : Int := (((fpL w c k 65536).getD i 0 : Nat) : Int)
noncomputable def pzM (w : qW) (c k i j : Nat) : Bool := mvB w c k (pzP w c k i) (pzP w c k j)
noncomputable def pzN (w : qW) (c k : Nat) : Nat := (fpL w c k 65536).length
theorem pzN_e {w : qW} {c k : Nat} : pzN w c k = (fpL w c k 65536).length := rfl
theorem pzM_sym {w : qW} {c k i j : Nat} (hi : i < pzN w c k) (hj : j < pzN w c k) : pzM w c k i j = pzM w c k j i := by
  rw [pzN_e] at hi hj
  have a := (fpL_el hi).1
  have b := (fpL_el hj).1
  rw [Bool.eq_iff_iff]
  exact ⟨fun h => mv_sym a b h, fun h => mv_sym b a h⟩
theorem pz_cg {w w1 : qW} (h96 : ∀ i, w1 96 i = w 96 i) (h99 : ∀ i, w1 99 i = w 99 i) (c k : Nat) : pzN w1 c k = pzN w c k ∧ pzP w1 c k = pzP w c k ∧ pzM w1 c k = pzM w c k := by
  have e := fpL_cg h96 h99 c k 65536
  have e2 : pzP w1 c k = pzP w c k := funext fun i => by unfold pzP; rw [e]
  refine ⟨by unfold pzN; rw [e], e2, funext fun i => funext fun j => ?_⟩
  unfold pzM
  rw [e2, mvB_cg h99]
/-- the reference's seconds are these -/
theorem cF_hz {w : qW} {c k : Nat} (hI : yInv zgf zga zra zSp w) (hT : TB 65536 w c k) : ∀ t i, i < pzN w c k → cF w t i = hz (pzN w c k) (pzP w c k) (pzM w c k) (w 116) t i
  | 0, i, hi => (decide_eq_true hi).symm
  | t + 1, i, hi => by
    have hT0 := hT
    obtain ⟨-, h1, hN⟩ := hT
    have hi0 := hi
    rw [pzN_e] at hi0
    obtain ⟨n1, n2⟩ := hN i hi0
    show (clF w t i && anyF (cF w t) (nxF w i) (w 102 i).toNat) = _
    rw [hz_s, decide_eq_true hi, Bool.true_and]
    have e1 : clF w t i = decide (qand (pzP w c k i) (w 116 t) = 0) := by
      unfold clF
      rw [h1 i hi0]; rfl
    rw [e1]
    suffices key : anyF (cF w t) (nxF w i) (w 102 i).toNat = exN (fun i2 => hz (pzN w c k) (pzP w c k) (pzM w c k) (w 116) t i2 && pzM w c k i2 i) (pzN w c k) by rw [key]
    rw [Bool.eq_iff_iff, exN_iff]
    constructor
    · intro h
      obtain ⟨q, hq, hc⟩ := anyF_in h
      rw [n1] at hq
      obtain ⟨j, hj, hcj, hm⟩ := cM_ex (w := w) (c := c) (k := k) (a := (fpL w c k 65536).getD i 0) (l := fpL w c k 65536) (Nat.le_refl _) q (by omega)
      have hw := n2 j hj hm
      rw [hcj] at hw
      have e : nxF w i q = j := by unfold nxF; rw [hw]; omega
      rw [e] at hc
      refine ⟨j, hj, ?_⟩
      show (hz _ _ _ _ t j && pzM w c k j i) = true
      rw [← cF_hz hI hT0 t j hj, hc, pzM_sym hj hi, Bool.true_and]
      exact hm
    · rintro ⟨j, hj, h⟩
      have h : (hz (pzN w c k) (pzP w c k) (pzM w c k) (w 116) t j && pzM w c k j i) = true := h
      rw [Bool.and_eq_true, ← cF_hz hI hT0 t j hj, pzM_sym hj hi] at h
      have hm : mvB w c k (((fpL w c k 65536).getD i 0 : Nat) : Int) (((fpL w c k 65536).getD j 0 : Nat) : Int) = true := h.2
      have hw := n2 j (by rw [pzN_e] at hj; exact hj) hm
      refine anyF_mk (k := cM w c k (fpL w c k 65536) ((fpL w c k 65536).getD i 0) j) ?_ ?_
      · rw [n1]
        rw [pzN_e] at hj
        have := cM_lt hj (Nat.le_refl _) hm
        omega
      · have e : nxF w i (cM w c k (fpL w c k 65536) ((fpL w c k 65536).getD i 0) j) = j := by unfold nxF; rw [hw]; omega
        rw [e]; exact h.1
theorem K_hidesF {d : Nat} (hd : 6 ≤ d) (c k9 : Nat) (hc : c < 3) (hk1 : 1 ≤ k9) (hk2 : k9 ≤ 4) (w : qW) (hI : yInv zgf zga zra zSp w) (hS : S3 w) : qG none d 257 0 [(2, 95), (0, ((c : Nat) : Int)), (0, ((k9 : Nat) : Int)), (9, 0), (9, 0), (9, 0), (9, 0)] [] w 142 (fun (r : qV) (w1 : qW) (n1 : Nat) => n1 = 142 ∧ ∃ w0, fpP w c k9 w0 ∧ AW zfpm w w0 ∧ S3 w0 ∧ hdW w0 w1 ∧ ∃ N S t : Nat, w0 95 8 = (N : Int) ∧ w0 95 37 = (S : Int) ∧ t ≤ S ∧ r = (0, ((cntF (cF w0 t) N : Nat) : Int)) ∧ (t = S ∨ cntF (cF w0 t) N = 0) ∧ w1 95 46 = (if N = 0 then 0 else if cntF (cF w0 t) N = 0 then (t : Int) - 1 else -1) ∧ (N ≠ 0 → t = 0 ∨ cntF (cF w0 (t - 1)) N ≠ 0)) := by
  generalize hQ9 : (fun (r : qV) (w1 : qW) (n1 : Nat) => n1 = 142 ∧ ∃ w0, fpP w c k9 w0 ∧ AW zfpm w w0 ∧ S3 w0 ∧ hdW w0 w1 ∧ ∃ N S t : Nat, w0 95 8 = (N : Int) ∧ w0 95 37 = (S : Int) ∧ t ≤ S ∧ r = (0, ((cntF (cF w0 t) N : Nat) : Int)) ∧ (t = S ∨ cntF (cF w0 t) N = 0) ∧ w1 95 46 = (if N = 0 then 0 else if cntF (cF w0 t) N = 0 then (t : Int) - 1 else -1) ∧ (N ≠ 0 → t = 0 ∨ cntF (cF w0 (t - 1)) N ≠ 0)) = Q9
  obtain ⟨d, rfl⟩ : ∃ d9, d = d9 + 1 := ⟨d - 1, by omega⟩
  refine qG.blk 3 (pc' := 3) (ls' := [(2, 95), (0, ((c : Nat) : Int)), (0, ((k9 : Nat) : Int)), (9, 0), (9, 0), (9, 0), (9, 0)]) (st' := [(0, ((k9 : Nat) : Int)), (0, ((c : Nat) : Int)), (2, 95)]) (w' := w) (n' := 142) rfl ?_
  refine qG.call (t := 220) (na := 3) (sk := 1) (md := 1) (ls1 := [(2, 95), (0, ((c : Nat) : Int)), (0, ((k9 : Nat) : Int)), (9, 0), (9, 0)]) (r1 := []) rfl rfl rfl rfl rfl (K_fp (by omega) c k9 hc hk1 hk2 w hI hS) ?_
  rintro _ w0 _ ⟨rfl, rfl, hfp, hA0, hS0⟩
  have h8 := zfld hA0.1 (j := 8) (b := (0, 1820)) rfl
  have h37 := zfld hA0.1 (j := 37) (b := (0, 800)) rfl
  have a8 : (0 : Int) ≤ w0 95 8 := h8.1
  have b8 : w0 95 8 ≤ (1820 : Int) := h8.2
  have a37 : (0 : Int) ≤ w0 95 37 := h37.1
  have b37 : w0 95 37 ≤ (800 : Int) := h37.2
  obtain ⟨N, hN⟩ : ∃ N : Nat, w0 95 8 = (N : Int) := ⟨(w0 95 8).toNat, by omega⟩
  obtain ⟨S, hSS⟩ : ∃ S : Nat, w0 95 37 = (S : Int) := ⟨(w0 95 37).toNat, by omega⟩
  have hm2 : ∀ i, (0 : Int) ≤ w0 102 i ∧ w0 102 i ≤ 50 := fun i => hA0.1.2.1 102 i (0, 50) rfl rfl
  show qG none (d + 1) 257 6 [(2, 95), (0, ((c : Nat) : Int)), (0, ((k9 : Nat) : Int)), (9, 0), (9, 0), (9, 0), (9, 0)] [] w0 142 Q9
  refine qG.blk 3 (pc' := 11) (ls' := [(2, 95), (0, ((c : Nat) : Int)), (0, ((k9 : Nat) : Int)), (9, 0), (9, 0), (9, 0), (9, 0)]) (st' := [(0, w0 95 8), (2, 95)]) (w' := w0) (n' := 142) rfl ?_
  rw [show w0 95 8 = ((N : Nat) : Int) from hN]
  refine qG.br (P := ((N : Nat) : Int) = 0) (pc1 := 14) (pc2 := 18) (st1 := [(2, 95)]) rfl (fun h1 => ?_) (fun h1 => ?_)
  · skip
    refine qG.blk 5 (pc' := 26) (ls' := [(2, 95), (0, ((c : Nat) : Int)), (0, ((k9 : Nat) : Int)), (9, 0), (9, 0), (9, 0), (9, 0)]) (st' := [(0, w0 95 8)]) (w' := (qup w0 95 46 0)) (n' := 142) rfl ?_
    rw [show w0 95 8 = ((N : Nat) : Int) from hN]
    refine qG.blk 3 (pc' := 30) (ls' := [(2, 95), (0, ((c : Nat) : Int)), (0, ((k9 : Nat) : Int)), (0, ((N : Nat) : Int)), (0, 0), (9, 0), (9, 0)]) (st' := []) (w' := (qup w0 95 46 0)) (n' := 142) rfl ?_
    have L30 : ∀ (m9 : Nat) (i : Nat) (w9 : qW), N - i = m9 → ((w9 95 46 = (if N = 0 then 0 else -1)) ∧ (i ≤ N ∧ hdW w0 w9 ∧ ∀ j, j < i → w9 117 j = 1)) → qG none (d + 1) 257 30 [(2, 95), (0, ((c : Nat) : Int)), (0, ((k9 : Nat) : Int)), (0, ((N : Nat) : Int)), (0, ((i : Nat) : Int)), (9, 0), (9, 0)] [] w9 142 Q9 := by
      intro m9
      induction m9 using Nat.strongRecOn with
      | ind m9 ih30 =>
      intro i w9 hm30 hI30
      obtain ⟨hF30, hI30⟩ := hI30
      refine qG.blk 3 (pc' := 36) (ls' := [(2, 95), (0, ((c : Nat) : Int)), (0, ((k9 : Nat) : Int)), (0, ((N : Nat) : Int)), (0, ((i : Nat) : Int)), (9, 0), (9, 0)]) (st' := [(0, w9 95 8), (0, ((i : Nat) : Int))]) (w' := w9) (n' := 142) rfl ?_
      rw [show w9 95 8 = ((N : Nat) : Int) from (hI30.2.1.1 95 (8) (by decide) (by decide) (fun z => by cases z.2)).trans hN]
      refine qG.br (P := ((i : Nat) : Int) < ((N : Nat) : Int)) (pc1 := 39) (pc2 := 53) (st1 := []) rfl (fun h2 => ?_) (fun h2 => ?_)
      · skip
        refine qG.blk 2 (pc' := 43) (ls' := [(2, 95), (0, ((c : Nat) : Int)), (0, ((k9 : Nat) : Int)), (0, ((N : Nat) : Int)), (0, ((i : Nat) : Int)), (9, 0), (9, 0)]) (st' := [(2, w9 95 44)]) (w' := w9) (n' := 142) rfl ?_
        rw [show w9 95 44 = 117 from zref hI30.2.1.2 rfl rfl]
        refine qG.blk 2 (pc' := 46) (ls' := [(2, 95), (0, ((c : Nat) : Int)), (0, ((k9 : Nat) : Int)), (0, ((N : Nat) : Int)), (0, ((i : Nat) : Int)), (9, 0), (9, 0)]) (st' := [(0, 1), (0, ((i : Nat) : Int)), (2, 117)]) (w' := w9) (n' := 142) rfl ?_
        refine qG.bst (m := 1820) rfl rfl (by omega) (by decide) ?_
        show qG none (d + 1) 257 47 [(2, 95), (0, ((c : Nat) : Int)), (0, ((k9 : Nat) : Int)), (0, ((N : Nat) : Int)), (0, ((i : Nat) : Int)), (9, 0), (9, 0)] [] (qup w9 117 i 1) 142 Q9
        refine qG.blk 1 (pc' := 50) (ls' := [(2, 95), (0, ((c : Nat) : Int)), (0, ((k9 : Nat) : Int)), (0, ((N : Nat) : Int)), (0, wrp (((i : Nat) : Int) + 1)), (9, 0), (9, 0)]) (st' := []) (w' := (qup w9 117 i 1)) (n' := 142) rfl ?_
        rw [show wrp (((i : Nat) : Int) + 1) = ((i + 1 : Nat) : Int) from wrp_id (by omega) (by omega)]
        refine qG.blk 1 (pc' := 30) (ls' := [(2, 95), (0, ((c : Nat) : Int)), (0, ((k9 : Nat) : Int)), (0, ((N : Nat) : Int)), (0, ((i + 1 : Nat) : Int)), (9, 0), (9, 0)]) (st' := []) (w' := (qup w9 117 i 1)) (n' := 142) rfl ?_
        exact ih30 _ (by omega) (i + 1) ((qup w9 117 i 1)) rfl (⟨by rw [qup_ne (by decide)]; exact hF30, ⟨by omega, hdW.u117 hI30.2.1 (by decide), rows.nx (f := fun _ => 1) hI30.2.2 rfl⟩⟩)
      · skip
        refine qG.blk 2 (pc' := 56) (ls' := [(2, 95), (0, ((c : Nat) : Int)), (0, ((k9 : Nat) : Int)), (0, ((N : Nat) : Int)), (0, 0), (9, 0), (9, 0)]) (st' := []) (w' := w9) (n' := 142) rfl ?_
        have L56 : ∀ (m9 : Nat) (t m : Nat) (w8 : qW) (x5 x6 : qV), S - t = m9 → ((w8 95 46 = (if N = 0 then 0 else if m = 0 then (t : Int) - 1 else -1) ∧ (t = 0 ∨ cntF (cF w0 (t - 1)) N ≠ 0)) ∧ (t ≤ S ∧ hdW w0 w8 ∧ (∀ j, j < N → w8 117 j = b01 (cF w0 t j)) ∧ m = cntF (cF w0 t) N)) → qG none (d + 1) 257 56 [(2, 95), (0, ((c : Nat) : Int)), (0, ((k9 : Nat) : Int)), (0, ((m : Nat) : Int)), (0, ((t : Nat) : Int)), x5, x6] [] w8 142 Q9 := by
          intro m9
          induction m9 using Nat.strongRecOn with
          | ind m9 ih56 =>
          intro t m w8 x5 x6 hm56 hI56
          obtain ⟨hF56, hI56⟩ := hI56
          have hm9 := cntF_le (cF w0 t) N
          rw [← hI56.2.2.2] at hm9
          refine qG.blk 3 (pc' := 62) (ls' := [(2, 95), (0, ((c : Nat) : Int)), (0, ((k9 : Nat) : Int)), (0, ((m : Nat) : Int)), (0, ((t : Nat) : Int)), x5, x6]) (st' := [(0, w8 95 37), (0, ((t : Nat) : Int))]) (w' := w8) (n' := 142) rfl ?_
          rw [show w8 95 37 = ((S : Nat) : Int) from (hI56.2.1.1 95 (37) (by decide) (by decide) (fun z => by cases z.2)).trans hSS]
          refine qG.br (P := ((t : Nat) : Int) < ((S : Nat) : Int)) (pc1 := 65) (pc2 := 237) (st1 := []) rfl (fun hts => ?_) (fun hts => ?_)
          · skip
            refine qG.blk 1 (pc' := 66) (ls' := [(2, 95), (0, ((c : Nat) : Int)), (0, ((k9 : Nat) : Int)), (0, ((m : Nat) : Int)), (0, ((t : Nat) : Int)), x5, x6]) (st' := [(0, ((m : Nat) : Int))]) (w' := w8) (n' := 142) rfl ?_
            refine qG.br (P := 0 < ((m : Nat) : Int)) (pc1 := 69) (pc2 := 237) (st1 := []) rfl (fun hmp => ?_) (fun hmp => ?_)
            · skip
              refine qG.blk 4 (pc' := 74) (ls' := [(2, 95), (0, ((c : Nat) : Int)), (0, ((k9 : Nat) : Int)), (0, 0), (0, ((t : Nat) : Int)), (0, 0), x6]) (st' := []) (w' := w8) (n' := 142) rfl ?_
              have L74 : ∀ (m9 : Nat) (i m2 : Nat) (w7 : qW) (x6 : qV), N - i = m9 → ((w7 95 46 = -1) ∧ (i ≤ N ∧ hdW w0 w7 ∧ (∀ j, j < N → w7 117 j = b01 (cF w0 t j)) ∧ (∀ j, j < i → w7 118 j = b01 (cF w0 (t + 1) j)) ∧ m2 = cntF (cF w0 (t + 1)) i ∧ m2 ≤ i)) → qG none (d + 1) 257 74 [(2, 95), (0, ((c : Nat) : Int)), (0, ((k9 : Nat) : Int)), (0, ((m2 : Nat) : Int)), (0, ((t : Nat) : Int)), (0, ((i : Nat) : Int)), x6] [] w7 142 Q9 := by
                intro m9
                induction m9 using Nat.strongRecOn with
                | ind m9 ih74 =>
                intro i m2 w7 x6 hm74 hI74
                obtain ⟨hF74, hI74⟩ := hI74
                have hm2i := hm2 i
                refine qG.blk 3 (pc' := 80) (ls' := [(2, 95), (0, ((c : Nat) : Int)), (0, ((k9 : Nat) : Int)), (0, ((m2 : Nat) : Int)), (0, ((t : Nat) : Int)), (0, ((i : Nat) : Int)), x6]) (st' := [(0, w7 95 8), (0, ((i : Nat) : Int))]) (w' := w7) (n' := 142) rfl ?_
                rw [show w7 95 8 = ((N : Nat) : Int) from (hI74.2.1.1 95 (8) (by decide) (by decide) (fun z => by cases z.2)).trans hN]
                refine qG.br (P := ((i : Nat) : Int) < ((N : Nat) : Int)) (pc1 := 83) (pc2 := 189) (st1 := []) rfl (fun hiN => ?_) (fun hiN => ?_)
                · skip
                  refine qG.blk 2 (pc' := 87) (ls' := [(2, 95), (0, ((c : Nat) : Int)), (0, ((k9 : Nat) : Int)), (0, ((m2 : Nat) : Int)), (0, ((t : Nat) : Int)), (0, ((i : Nat) : Int)), x6]) (st' := [(2, w7 95 45)]) (w' := w7) (n' := 142) rfl ?_
                  rw [show w7 95 45 = 118 from zref hI74.2.1.2 rfl rfl]
                  refine qG.blk 2 (pc' := 90) (ls' := [(2, 95), (0, ((c : Nat) : Int)), (0, ((k9 : Nat) : Int)), (0, ((m2 : Nat) : Int)), (0, ((t : Nat) : Int)), (0, ((i : Nat) : Int)), x6]) (st' := [(0, 0), (0, ((i : Nat) : Int)), (2, 118)]) (w' := w7) (n' := 142) rfl ?_
                  refine qG.bst (m := 1820) rfl rfl (by omega) (by decide) ?_
                  show qG none (d + 1) 257 91 [(2, 95), (0, ((c : Nat) : Int)), (0, ((k9 : Nat) : Int)), (0, ((m2 : Nat) : Int)), (0, ((t : Nat) : Int)), (0, ((i : Nat) : Int)), x6] [] (qup w7 118 i 0) 142 Q9
                  refine qG.blk 2 (pc' := 94) (ls' := [(2, 95), (0, ((c : Nat) : Int)), (0, ((k9 : Nat) : Int)), (0, ((m2 : Nat) : Int)), (0, ((t : Nat) : Int)), (0, ((i : Nat) : Int)), (0, 0)]) (st' := []) (w' := (qup w7 118 i 0)) (n' := 142) rfl ?_
                  have L94 : ∀ (m9 : Nat) (k : Nat) (w6 : qW), 50 - k = m9 → ((w6 95 46 = -1) ∧ ((k : Int) ≤ w0 102 i ∧ hdW w0 w6 ∧ (∀ j, j < N → w6 117 j = b01 (cF w0 t j)) ∧ (∀ j, j < i → w6 118 j = b01 (cF w0 (t + 1) j)) ∧ w6 118 i = b01 (clF w0 t i && anyF (cF w0 t) (nxF w0 i) k))) → qG none (d + 1) 257 94 [(2, 95), (0, ((c : Nat) : Int)), (0, ((k9 : Nat) : Int)), (0, ((m2 : Nat) : Int)), (0, ((t : Nat) : Int)), (0, ((i : Nat) : Int)), (0, ((k : Nat) : Int))] [] w6 142 Q9 := by
                    intro m9
                    induction m9 using Nat.strongRecOn with
                    | ind m9 ih94 =>
                    intro k w6 hm94 hI94
                    obtain ⟨hF94, hI94⟩ := hI94
                    have hm2i := hm2 i
                    refine qG.blk 3 (pc' := 100) (ls' := [(2, 95), (0, ((c : Nat) : Int)), (0, ((k9 : Nat) : Int)), (0, ((m2 : Nat) : Int)), (0, ((t : Nat) : Int)), (0, ((i : Nat) : Int)), (0, ((k : Nat) : Int))]) (st' := [(2, w6 95 6), (0, ((k : Nat) : Int))]) (w' := w6) (n' := 142) rfl ?_
                    rw [show w6 95 6 = 102 from zref hI94.2.1.2 rfl rfl]
                    refine qG.blk 1 (pc' := 102) (ls' := [(2, 95), (0, ((c : Nat) : Int)), (0, ((k9 : Nat) : Int)), (0, ((m2 : Nat) : Int)), (0, ((t : Nat) : Int)), (0, ((i : Nat) : Int)), (0, ((k : Nat) : Int))]) (st' := [(0, ((i : Nat) : Int)), (2, 102), (0, ((k : Nat) : Int))]) (w' := w6) (n' := 142) rfl ?_
                    refine qG.ild (m := 1820) rfl rfl (by omega) (by decide) ?_
                    show qG none (d + 1) 257 103 [(2, 95), (0, ((c : Nat) : Int)), (0, ((k9 : Nat) : Int)), (0, ((m2 : Nat) : Int)), (0, ((t : Nat) : Int)), (0, ((i : Nat) : Int)), (0, ((k : Nat) : Int))] [(0, w6 102 i), (0, ((k : Nat) : Int))] w6 142 Q9
                    rw [show w6 102 i = w0 102 i from hI94.2.1.1 102 (i) (by decide) (by decide) (fun z => by cases z.1)]
                    refine qG.br (P := ((k : Nat) : Int) < w0 102 i) (pc1 := 106) (pc2 := 165) (st1 := []) rfl (fun hkm => ?_) (fun hkm => ?_)
                    · skip
                      have hnx : nxF w0 i k < N := nx_lt hA0.1 hS0 hN (by omega) hkm
                      refine qG.blk 2 (pc' := 110) (ls' := [(2, 95), (0, ((c : Nat) : Int)), (0, ((k9 : Nat) : Int)), (0, ((m2 : Nat) : Int)), (0, ((t : Nat) : Int)), (0, ((i : Nat) : Int)), (0, ((k : Nat) : Int))]) (st' := [(2, w6 95 45)]) (w' := w6) (n' := 142) rfl ?_
                      rw [show w6 95 45 = 118 from zref hI94.2.1.2 rfl rfl]
                      refine qG.blk 1 (pc' := 112) (ls' := [(2, 95), (0, ((c : Nat) : Int)), (0, ((k9 : Nat) : Int)), (0, ((m2 : Nat) : Int)), (0, ((t : Nat) : Int)), (0, ((i : Nat) : Int)), (0, ((k : Nat) : Int))]) (st' := [(0, ((i : Nat) : Int)), (2, 118)]) (w' := w6) (n' := 142) rfl ?_
                      refine qG.bld (m := 1820) rfl rfl (by omega) (by decide) ?_
                      show qG none (d + 1) 257 113 [(2, 95), (0, ((c : Nat) : Int)), (0, ((k9 : Nat) : Int)), (0, ((m2 : Nat) : Int)), (0, ((t : Nat) : Int)), (0, ((i : Nat) : Int)), (0, ((k : Nat) : Int))] [(0, w6 118 i)] w6 142 Q9
                      rw [show w6 118 i = b01 (clF w0 t i && anyF (cF w0 t) (nxF w0 i) k) from hI94.2.2.2.2]
                      refine qG.br (P := b01 (clF w0 t i && anyF (cF w0 t) (nxF w0 i) k) = 0) (pc1 := 116) (pc2 := 165) (st1 := []) rfl (fun htn => ?_) (fun htn => ?_)
                      · skip
                        refine qG.blk 2 (pc' := 120) (ls' := [(2, 95), (0, ((c : Nat) : Int)), (0, ((k9 : Nat) : Int)), (0, ((m2 : Nat) : Int)), (0, ((t : Nat) : Int)), (0, ((i : Nat) : Int)), (0, ((k : Nat) : Int))]) (st' := [(2, w6 95 5)]) (w' := w6) (n' := 142) rfl ?_
                        rw [show w6 95 5 = 101 from zref hI94.2.1.2 rfl rfl]
                        refine qG.blk 1 (pc' := 122) (ls' := [(2, 95), (0, ((c : Nat) : Int)), (0, ((k9 : Nat) : Int)), (0, ((m2 : Nat) : Int)), (0, ((t : Nat) : Int)), (0, ((i : Nat) : Int)), (0, ((k : Nat) : Int))]) (st' := [(0, ((i : Nat) : Int)), (2, 101)]) (w' := w6) (n' := 142) rfl ?_
                        refine qG.ild (m := 1820) rfl rfl (by omega) (by decide) ?_
                        show qG none (d + 1) 257 123 [(2, 95), (0, ((c : Nat) : Int)), (0, ((k9 : Nat) : Int)), (0, ((m2 : Nat) : Int)), (0, ((t : Nat) : Int)), (0, ((i : Nat) : Int)), (0, ((k : Nat) : Int))] [(0, w6 101 i)] w6 142 Q9
                        rw [show w6 101 i = w0 101 i from hI94.2.1.1 101 (i) (by decide) (by decide) (fun z => by cases z.1)]
                        refine qG.blk 2 (pc' := 127) (ls' := [(2, 95), (0, ((c : Nat) : Int)), (0, ((k9 : Nat) : Int)), (0, ((m2 : Nat) : Int)), (0, ((t : Nat) : Int)), (0, ((i : Nat) : Int)), (0, ((k : Nat) : Int))]) (st' := [(2, w6 95 36), (0, w0 101 i)]) (w' := w6) (n' := 142) rfl ?_
                        rw [show w6 95 36 = 116 from zref hI94.2.1.2 rfl rfl]
                        refine qG.blk 1 (pc' := 129) (ls' := [(2, 95), (0, ((c : Nat) : Int)), (0, ((k9 : Nat) : Int)), (0, ((m2 : Nat) : Int)), (0, ((t : Nat) : Int)), (0, ((i : Nat) : Int)), (0, ((k : Nat) : Int))]) (st' := [(0, ((t : Nat) : Int)), (2, 116), (0, w0 101 i)]) (w' := w6) (n' := 142) rfl ?_
                        refine qG.ild (m := 900) rfl rfl (by omega) (by decide) ?_
                        show qG none (d + 1) 257 130 [(2, 95), (0, ((c : Nat) : Int)), (0, ((k9 : Nat) : Int)), (0, ((m2 : Nat) : Int)), (0, ((t : Nat) : Int)), (0, ((i : Nat) : Int)), (0, ((k : Nat) : Int))] [(0, w6 116 t), (0, w0 101 i)] w6 142 Q9
                        rw [show w6 116 t = w0 116 t from hI94.2.1.1 116 (t) (by decide) (by decide) (fun z => by cases z.1)]
                        refine qG.blk 1 (pc' := 131) (ls' := [(2, 95), (0, ((c : Nat) : Int)), (0, ((k9 : Nat) : Int)), (0, ((m2 : Nat) : Int)), (0, ((t : Nat) : Int)), (0, ((i : Nat) : Int)), (0, ((k : Nat) : Int))]) (st' := [(0, qand (w0 101 i) (w0 116 t))]) (w' := w6) (n' := 142) rfl ?_
                        refine qG.br (P := qand (w0 101 i) (w0 116 t) = 0) (pc1 := 134) (pc2 := 165) (st1 := []) rfl (fun hcl => ?_) (fun hcl => ?_)
                        · skip
                          refine qG.blk 2 (pc' := 138) (ls' := [(2, 95), (0, ((c : Nat) : Int)), (0, ((k9 : Nat) : Int)), (0, ((m2 : Nat) : Int)), (0, ((t : Nat) : Int)), (0, ((i : Nat) : Int)), (0, ((k : Nat) : Int))]) (st' := [(2, w6 95 45)]) (w' := w6) (n' := 142) rfl ?_
                          rw [show w6 95 45 = 118 from zref hI94.2.1.2 rfl rfl]
                          refine qG.blk 3 (pc' := 144) (ls' := [(2, 95), (0, ((c : Nat) : Int)), (0, ((k9 : Nat) : Int)), (0, ((m2 : Nat) : Int)), (0, ((t : Nat) : Int)), (0, ((i : Nat) : Int)), (0, ((k : Nat) : Int))]) (st' := [(2, w6 95 44), (0, ((i : Nat) : Int)), (2, 118)]) (w' := w6) (n' := 142) rfl ?_
                          rw [show w6 95 44 = 117 from zref hI94.2.1.2 rfl rfl]
                          refine qG.blk 2 (pc' := 148) (ls' := [(2, 95), (0, ((c : Nat) : Int)), (0, ((k9 : Nat) : Int)), (0, ((m2 : Nat) : Int)), (0, ((t : Nat) : Int)), (0, ((i : Nat) : Int)), (0, ((k : Nat) : Int))]) (st' := [(2, w6 95 7), (2, 117), (0, ((i : Nat) : Int)), (2, 118)]) (w' := w6) (n' := 142) rfl ?_
                          rw [show w6 95 7 = 103 from zref hI94.2.1.2 rfl rfl]
                          refine qG.blk 3 (pc' := 153) (ls' := [(2, 95), (0, ((c : Nat) : Int)), (0, ((k9 : Nat) : Int)), (0, ((m2 : Nat) : Int)), (0, ((t : Nat) : Int)), (0, ((i : Nat) : Int)), (0, ((k : Nat) : Int))]) (st' := [(0, wrp (50 * ((i : Nat) : Int))), (2, 103), (2, 117), (0, ((i : Nat) : Int)), (2, 118)]) (w' := w6) (n' := 142) rfl ?_
                          rw [show wrp (50 * ((i : Nat) : Int)) = ((50 * i : Nat) : Int) from by rw [wrp_id (by omega) (by omega)]; omega]
                          refine qG.blk 2 (pc' := 156) (ls' := [(2, 95), (0, ((c : Nat) : Int)), (0, ((k9 : Nat) : Int)), (0, ((m2 : Nat) : Int)), (0, ((t : Nat) : Int)), (0, ((i : Nat) : Int)), (0, ((k : Nat) : Int))]) (st' := [(0, wrp (((50 * i : Nat) : Int) + ((k : Nat) : Int))), (2, 103), (2, 117), (0, ((i : Nat) : Int)), (2, 118)]) (w' := w6) (n' := 142) rfl ?_
                          rw [show wrp (((50 * i : Nat) : Int) + ((k : Nat) : Int)) = ((50 * i + k : Nat) : Int) from by rw [wrp_id (by omega) (by omega)]; omega]
                          refine qG.ild (m := 91000) rfl rfl (by omega) (by decide) ?_
                          show qG none (d + 1) 257 157 [(2, 95), (0, ((c : Nat) : Int)), (0, ((k9 : Nat) : Int)), (0, ((m2 : Nat) : Int)), (0, ((t : Nat) : Int)), (0, ((i : Nat) : Int)), (0, ((k : Nat) : Int))] [(0, w6 103 (50 * i + k)), (2, 117), (0, ((i : Nat) : Int)), (2, 118)] w6 142 Q9
                          rw [show w6 103 (50 * i + k) = ((nxF w0 i k : Nat) : Int) from (hI94.2.1.1 103 (50 * i + k) (by decide) (by decide) (fun z => by cases z.1)).trans (nx_e hA0.1 i k)]
                          refine qG.bld (m := 1820) rfl rfl (by omega) (by decide) ?_
                          show qG none (d + 1) 257 158 [(2, 95), (0, ((c : Nat) : Int)), (0, ((k9 : Nat) : Int)), (0, ((m2 : Nat) : Int)), (0, ((t : Nat) : Int)), (0, ((i : Nat) : Int)), (0, ((k : Nat) : Int))] [(0, w6 117 (nxF w0 i k)), (0, ((i : Nat) : Int)), (2, 118)] w6 142 Q9
                          rw [show w6 117 (nxF w0 i k) = b01 (cF w0 t (nxF w0 i k)) from hI94.2.2.1 _ hnx]
                          refine qG.bst (m := 1820) rfl rfl (by exact ⟨⟨by omega, by omega⟩, b01_in _⟩) (by decide) ?_
                          show qG none (d + 1) 257 159 [(2, 95), (0, ((c : Nat) : Int)), (0, ((k9 : Nat) : Int)), (0, ((m2 : Nat) : Int)), (0, ((t : Nat) : Int)), (0, ((i : Nat) : Int)), (0, ((k : Nat) : Int))] [] (qup w6 118 i (b01 (cF w0 t (nxF w0 i k)))) 142 Q9
                          refine qG.blk 1 (pc' := 162) (ls' := [(2, 95), (0, ((c : Nat) : Int)), (0, ((k9 : Nat) : Int)), (0, ((m2 : Nat) : Int)), (0, ((t : Nat) : Int)), (0, ((i : Nat) : Int)), (0, wrp (((k : Nat) : Int) + 1))]) (st' := []) (w' := (qup w6 118 i (b01 (cF w0 t (nxF w0 i k))))) (n' := 142) rfl ?_
                          rw [show wrp (((k : Nat) : Int) + 1) = ((k + 1 : Nat) : Int) from wrp_id (by omega) (by omega)]
                          refine qG.blk 1 (pc' := 94) (ls' := [(2, 95), (0, ((c : Nat) : Int)), (0, ((k9 : Nat) : Int)), (0, ((m2 : Nat) : Int)), (0, ((t : Nat) : Int)), (0, ((i : Nat) : Int)), (0, ((k + 1 : Nat) : Int))]) (st' := []) (w' := (qup w6 118 i (b01 (cF w0 t (nxF w0 i k))))) (n' := 142) rfl ?_
                          exact ih94 _ (by omega) (k + 1) ((qup w6 118 i (b01 (cF w0 t (nxF w0 i k))))) rfl (⟨by rw [qup_ne (by decide)]; exact hF94, ⟨by omega, hdW.u118 hI94.2.1 (b01_in _), fun j hj => by rw [qup_ne (by decide)]; exact hI94.2.2.1 j hj, rows.ke (f := fun j => b01 (cF w0 (t + 1) j)) hI94.2.2.2.1 (Nat.le_refl _), by rw [qup_k]; exact hd_S hcl (b01_0 htn)⟩⟩)
                        · skip
                          have hE := hd_E (t := t) hA0.1 hI94.1 (.inr (.inr (decide_eq_false hcl)))
                          refine qG.blk 3 (pc' := 170) (ls' := [(2, 95), (0, ((c : Nat) : Int)), (0, ((k9 : Nat) : Int)), (0, ((m2 : Nat) : Int)), (0, ((t : Nat) : Int)), (0, ((i : Nat) : Int)), (0, ((k : Nat) : Int))]) (st' := [(2, w6 95 45), (0, ((m2 : Nat) : Int))]) (w' := w6) (n' := 142) rfl ?_
                          rw [show w6 95 45 = 118 from zref hI94.2.1.2 rfl rfl]
                          refine qG.blk 1 (pc' := 172) (ls' := [(2, 95), (0, ((c : Nat) : Int)), (0, ((k9 : Nat) : Int)), (0, ((m2 : Nat) : Int)), (0, ((t : Nat) : Int)), (0, ((i : Nat) : Int)), (0, ((k : Nat) : Int))]) (st' := [(0, ((i : Nat) : Int)), (2, 118), (0, ((m2 : Nat) : Int))]) (w' := w6) (n' := 142) rfl ?_
                          refine qG.bld (m := 1820) rfl rfl (by omega) (by decide) ?_
                          show qG none (d + 1) 257 173 [(2, 95), (0, ((c : Nat) : Int)), (0, ((k9 : Nat) : Int)), (0, ((m2 : Nat) : Int)), (0, ((t : Nat) : Int)), (0, ((i : Nat) : Int)), (0, ((k : Nat) : Int))] [(0, w6 118 i), (0, ((m2 : Nat) : Int))] w6 142 Q9
                          rw [show w6 118 i = b01 (clF w0 t i && anyF (cF w0 t) (nxF w0 i) k) from hI94.2.2.2.2]
                          refine qG.br (P := b01 (clF w0 t i && anyF (cF w0 t) (nxF w0 i) k) = 0) (pc1 := 180) (pc2 := 176) (st1 := [(0, ((m2 : Nat) : Int))]) rfl (fun hth => ?_) (fun hth => ?_)
                          · skip
                            refine qG.blk 2 (pc' := 182) (ls' := [(2, 95), (0, ((c : Nat) : Int)), (0, ((k9 : Nat) : Int)), (0, ((m2 : Nat) : Int)), (0, ((t : Nat) : Int)), (0, ((i : Nat) : Int)), (0, ((k : Nat) : Int))]) (st' := [(0, wrp (((m2 : Nat) : Int) + 0))]) (w' := w6) (n' := 142) rfl ?_
                            rw [show wrp (((m2 : Nat) : Int) + 0) = ((m2 + 0 : Nat) : Int) from by rw [wrp_id (by omega) (by omega)]; omega]
                            refine qG.blk 2 (pc' := 186) (ls' := [(2, 95), (0, ((c : Nat) : Int)), (0, ((k9 : Nat) : Int)), (0, ((m2 + 0 : Nat) : Int)), (0, ((t : Nat) : Int)), (0, wrp (((i : Nat) : Int) + 1)), (0, ((k : Nat) : Int))]) (st' := []) (w' := w6) (n' := 142) rfl ?_
                            rw [show wrp (((i : Nat) : Int) + 1) = ((i + 1 : Nat) : Int) from wrp_id (by omega) (by omega)]
                            refine qG.blk 1 (pc' := 74) (ls' := [(2, 95), (0, ((c : Nat) : Int)), (0, ((k9 : Nat) : Int)), (0, ((m2 + 0 : Nat) : Int)), (0, ((t : Nat) : Int)), (0, ((i + 1 : Nat) : Int)), (0, ((k : Nat) : Int))]) (st' := []) (w' := w6) (n' := 142) rfl ?_
                            exact ih74 _ (by omega) (i + 1) (m2 + 0) (w6) ((0, ((k : Nat) : Int))) rfl (⟨hF94, ⟨by omega, hI94.2.1, hI94.2.2.1, rows.e1 (f := fun j => b01 (cF w0 (t + 1) j)) hI94.2.2.2.1 (by rw [hI94.2.2.2.2, hE]), by first | (rw [cntF_n (by rw [← hE]; exact b01_0 hth)]; omega) | (rw [cntF_y (by rw [← hE]; exact b01_1 hth)]; omega), by omega⟩⟩)
                          · skip
                            refine qG.blk 3 (pc' := 182) (ls' := [(2, 95), (0, ((c : Nat) : Int)), (0, ((k9 : Nat) : Int)), (0, ((m2 : Nat) : Int)), (0, ((t : Nat) : Int)), (0, ((i : Nat) : Int)), (0, ((k : Nat) : Int))]) (st' := [(0, wrp (((m2 : Nat) : Int) + 1))]) (w' := w6) (n' := 142) rfl ?_
                            rw [show wrp (((m2 : Nat) : Int) + 1) = ((m2 + 1 : Nat) : Int) from by rw [wrp_id (by omega) (by omega)]; omega]
                            refine qG.blk 2 (pc' := 186) (ls' := [(2, 95), (0, ((c : Nat) : Int)), (0, ((k9 : Nat) : Int)), (0, ((m2 + 1 : Nat) : Int)), (0, ((t : Nat) : Int)), (0, wrp (((i : Nat) : Int) + 1)), (0, ((k : Nat) : Int))]) (st' := []) (w' := w6) (n' := 142) rfl ?_
                            rw [show wrp (((i : Nat) : Int) + 1) = ((i + 1 : Nat) : Int) from wrp_id (by omega) (by omega)]
                            refine qG.blk 1 (pc' := 74) (ls' := [(2, 95), (0, ((c : Nat) : Int)), (0, ((k9 : Nat) : Int)), (0, ((m2 + 1 : Nat) : Int)), (0, ((t : Nat) : Int)), (0, ((i + 1 : Nat) : Int)), (0, ((k : Nat) : Int))]) (st' := []) (w' := w6) (n' := 142) rfl ?_
                            exact ih74 _ (by omega) (i + 1) (m2 + 1) (w6) ((0, ((k : Nat) : Int))) rfl (⟨hF94, ⟨by omega, hI94.2.1, hI94.2.2.1, rows.e1 (f := fun j => b01 (cF w0 (t + 1) j)) hI94.2.2.2.1 (by rw [hI94.2.2.2.2, hE]), by first | (rw [cntF_n (by rw [← hE]; exact b01_0 hth)]; omega) | (rw [cntF_y (by rw [← hE]; exact b01_1 hth)]; omega), by omega⟩⟩)
                      · skip
                        have hE := hd_E (t := t) hA0.1 hI94.1 (.inr (.inl (b01_1 htn)))
                        refine qG.blk 3 (pc' := 170) (ls' := [(2, 95), (0, ((c : Nat) : Int)), (0, ((k9 : Nat) : Int)), (0, ((m2 : Nat) : Int)), (0, ((t : Nat) : Int)), (0, ((i : Nat) : Int)), (0, ((k : Nat) : Int))]) (st' := [(2, w6 95 45), (0, ((m2 : Nat) : Int))]) (w' := w6) (n' := 142) rfl ?_
                        rw [show w6 95 45 = 118 from zref hI94.2.1.2 rfl rfl]
                        refine qG.blk 1 (pc' := 172) (ls' := [(2, 95), (0, ((c : Nat) : Int)), (0, ((k9 : Nat) : Int)), (0, ((m2 : Nat) : Int)), (0, ((t : Nat) : Int)), (0, ((i : Nat) : Int)), (0, ((k : Nat) : Int))]) (st' := [(0, ((i : Nat) : Int)), (2, 118), (0, ((m2 : Nat) : Int))]) (w' := w6) (n' := 142) rfl ?_
                        refine qG.bld (m := 1820) rfl rfl (by omega) (by decide) ?_
                        show qG none (d + 1) 257 173 [(2, 95), (0, ((c : Nat) : Int)), (0, ((k9 : Nat) : Int)), (0, ((m2 : Nat) : Int)), (0, ((t : Nat) : Int)), (0, ((i : Nat) : Int)), (0, ((k : Nat) : Int))] [(0, w6 118 i), (0, ((m2 : Nat) : Int))] w6 142 Q9
                        rw [show w6 118 i = b01 (clF w0 t i && anyF (cF w0 t) (nxF w0 i) k) from hI94.2.2.2.2]
                        refine qG.br (P := b01 (clF w0 t i && anyF (cF w0 t) (nxF w0 i) k) = 0) (pc1 := 180) (pc2 := 176) (st1 := [(0, ((m2 : Nat) : Int))]) rfl (fun hth => ?_) (fun hth => ?_)
                        · skip
                          refine qG.blk 2 (pc' := 182) (ls' := [(2, 95), (0, ((c : Nat) : Int)), (0, ((k9 : Nat) : Int)), (0, ((m2 : Nat) : Int)), (0, ((t : Nat) : Int)), (0, ((i : Nat) : Int)), (0, ((k : Nat) : Int))]) (st' := [(0, wrp (((m2 : Nat) : Int) + 0))]) (w' := w6) (n' := 142) rfl ?_
                          rw [show wrp (((m2 : Nat) : Int) + 0) = ((m2 + 0 : Nat) : Int) from by rw [wrp_id (by omega) (by omega)]; omega]
                          refine qG.blk 2 (pc' := 186) (ls' := [(2, 95), (0, ((c : Nat) : Int)), (0, ((k9 : Nat) : Int)), (0, ((m2 + 0 : Nat) : Int)), (0, ((t : Nat) : Int)), (0, wrp (((i : Nat) : Int) + 1)), (0, ((k : Nat) : Int))]) (st' := []) (w' := w6) (n' := 142) rfl ?_
                          rw [show wrp (((i : Nat) : Int) + 1) = ((i + 1 : Nat) : Int) from wrp_id (by omega) (by omega)]
                          refine qG.blk 1 (pc' := 74) (ls' := [(2, 95), (0, ((c : Nat) : Int)), (0, ((k9 : Nat) : Int)), (0, ((m2 + 0 : Nat) : Int)), (0, ((t : Nat) : Int)), (0, ((i + 1 : Nat) : Int)), (0, ((k : Nat) : Int))]) (st' := []) (w' := w6) (n' := 142) rfl ?_
                          exact ih74 _ (by omega) (i + 1) (m2 + 0) (w6) ((0, ((k : Nat) : Int))) rfl (⟨hF94, ⟨by omega, hI94.2.1, hI94.2.2.1, rows.e1 (f := fun j => b01 (cF w0 (t + 1) j)) hI94.2.2.2.1 (by rw [hI94.2.2.2.2, hE]), by first | (rw [cntF_n (by rw [← hE]; exact b01_0 hth)]; omega) | (rw [cntF_y (by rw [← hE]; exact b01_1 hth)]; omega), by omega⟩⟩)
                        · skip
                          refine qG.blk 3 (pc' := 182) (ls' := [(2, 95), (0, ((c : Nat) : Int)), (0, ((k9 : Nat) : Int)), (0, ((m2 : Nat) : Int)), (0, ((t : Nat) : Int)), (0, ((i : Nat) : Int)), (0, ((k : Nat) : Int))]) (st' := [(0, wrp (((m2 : Nat) : Int) + 1))]) (w' := w6) (n' := 142) rfl ?_
                          rw [show wrp (((m2 : Nat) : Int) + 1) = ((m2 + 1 : Nat) : Int) from by rw [wrp_id (by omega) (by omega)]; omega]
                          refine qG.blk 2 (pc' := 186) (ls' := [(2, 95), (0, ((c : Nat) : Int)), (0, ((k9 : Nat) : Int)), (0, ((m2 + 1 : Nat) : Int)), (0, ((t : Nat) : Int)), (0, wrp (((i : Nat) : Int) + 1)), (0, ((k : Nat) : Int))]) (st' := []) (w' := w6) (n' := 142) rfl ?_
                          rw [show wrp (((i : Nat) : Int) + 1) = ((i + 1 : Nat) : Int) from wrp_id (by omega) (by omega)]
                          refine qG.blk 1 (pc' := 74) (ls' := [(2, 95), (0, ((c : Nat) : Int)), (0, ((k9 : Nat) : Int)), (0, ((m2 + 1 : Nat) : Int)), (0, ((t : Nat) : Int)), (0, ((i + 1 : Nat) : Int)), (0, ((k : Nat) : Int))]) (st' := []) (w' := w6) (n' := 142) rfl ?_
                          exact ih74 _ (by omega) (i + 1) (m2 + 1) (w6) ((0, ((k : Nat) : Int))) rfl (⟨hF94, ⟨by omega, hI94.2.1, hI94.2.2.1, rows.e1 (f := fun j => b01 (cF w0 (t + 1) j)) hI94.2.2.2.1 (by rw [hI94.2.2.2.2, hE]), by first | (rw [cntF_n (by rw [← hE]; exact b01_0 hth)]; omega) | (rw [cntF_y (by rw [← hE]; exact b01_1 hth)]; omega), by omega⟩⟩)
                    · skip
                      have hE := hd_E (t := t) hA0.1 hI94.1 (.inl hkm)
                      refine qG.blk 3 (pc' := 170) (ls' := [(2, 95), (0, ((c : Nat) : Int)), (0, ((k9 : Nat) : Int)), (0, ((m2 : Nat) : Int)), (0, ((t : Nat) : Int)), (0, ((i : Nat) : Int)), (0, ((k : Nat) : Int))]) (st' := [(2, w6 95 45), (0, ((m2 : Nat) : Int))]) (w' := w6) (n' := 142) rfl ?_
                      rw [show w6 95 45 = 118 from zref hI94.2.1.2 rfl rfl]
                      refine qG.blk 1 (pc' := 172) (ls' := [(2, 95), (0, ((c : Nat) : Int)), (0, ((k9 : Nat) : Int)), (0, ((m2 : Nat) : Int)), (0, ((t : Nat) : Int)), (0, ((i : Nat) : Int)), (0, ((k : Nat) : Int))]) (st' := [(0, ((i : Nat) : Int)), (2, 118), (0, ((m2 : Nat) : Int))]) (w' := w6) (n' := 142) rfl ?_
                      refine qG.bld (m := 1820) rfl rfl (by omega) (by decide) ?_
                      show qG none (d + 1) 257 173 [(2, 95), (0, ((c : Nat) : Int)), (0, ((k9 : Nat) : Int)), (0, ((m2 : Nat) : Int)), (0, ((t : Nat) : Int)), (0, ((i : Nat) : Int)), (0, ((k : Nat) : Int))] [(0, w6 118 i), (0, ((m2 : Nat) : Int))] w6 142 Q9
                      rw [show w6 118 i = b01 (clF w0 t i && anyF (cF w0 t) (nxF w0 i) k) from hI94.2.2.2.2]
                      refine qG.br (P := b01 (clF w0 t i && anyF (cF w0 t) (nxF w0 i) k) = 0) (pc1 := 180) (pc2 := 176) (st1 := [(0, ((m2 : Nat) : Int))]) rfl (fun hth => ?_) (fun hth => ?_)
                      · skip
                        refine qG.blk 2 (pc' := 182) (ls' := [(2, 95), (0, ((c : Nat) : Int)), (0, ((k9 : Nat) : Int)), (0, ((m2 : Nat) : Int)), (0, ((t : Nat) : Int)), (0, ((i : Nat) : Int)), (0, ((k : Nat) : Int))]) (st' := [(0, wrp (((m2 : Nat) : Int) + 0))]) (w' := w6) (n' := 142) rfl ?_
                        rw [show wrp (((m2 : Nat) : Int) + 0) = ((m2 + 0 : Nat) : Int) from by rw [wrp_id (by omega) (by omega)]; omega]
                        refine qG.blk 2 (pc' := 186) (ls' := [(2, 95), (0, ((c : Nat) : Int)), (0, ((k9 : Nat) : Int)), (0, ((m2 + 0 : Nat) : Int)), (0, ((t : Nat) : Int)), (0, wrp (((i : Nat) : Int) + 1)), (0, ((k : Nat) : Int))]) (st' := []) (w' := w6) (n' := 142) rfl ?_
                        rw [show wrp (((i : Nat) : Int) + 1) = ((i + 1 : Nat) : Int) from wrp_id (by omega) (by omega)]
                        refine qG.blk 1 (pc' := 74) (ls' := [(2, 95), (0, ((c : Nat) : Int)), (0, ((k9 : Nat) : Int)), (0, ((m2 + 0 : Nat) : Int)), (0, ((t : Nat) : Int)), (0, ((i + 1 : Nat) : Int)), (0, ((k : Nat) : Int))]) (st' := []) (w' := w6) (n' := 142) rfl ?_
                        exact ih74 _ (by omega) (i + 1) (m2 + 0) (w6) ((0, ((k : Nat) : Int))) rfl (⟨hF94, ⟨by omega, hI94.2.1, hI94.2.2.1, rows.e1 (f := fun j => b01 (cF w0 (t + 1) j)) hI94.2.2.2.1 (by rw [hI94.2.2.2.2, hE]), by first | (rw [cntF_n (by rw [← hE]; exact b01_0 hth)]; omega) | (rw [cntF_y (by rw [← hE]; exact b01_1 hth)]; omega), by omega⟩⟩)
                      · skip
                        refine qG.blk 3 (pc' := 182) (ls' := [(2, 95), (0, ((c : Nat) : Int)), (0, ((k9 : Nat) : Int)), (0, ((m2 : Nat) : Int)), (0, ((t : Nat) : Int)), (0, ((i : Nat) : Int)), (0, ((k : Nat) : Int))]) (st' := [(0, wrp (((m2 : Nat) : Int) + 1))]) (w' := w6) (n' := 142) rfl ?_
                        rw [show wrp (((m2 : Nat) : Int) + 1) = ((m2 + 1 : Nat) : Int) from by rw [wrp_id (by omega) (by omega)]; omega]
                        refine qG.blk 2 (pc' := 186) (ls' := [(2, 95), (0, ((c : Nat) : Int)), (0, ((k9 : Nat) : Int)), (0, ((m2 + 1 : Nat) : Int)), (0, ((t : Nat) : Int)), (0, wrp (((i : Nat) : Int) + 1)), (0, ((k : Nat) : Int))]) (st' := []) (w' := w6) (n' := 142) rfl ?_
                        rw [show wrp (((i : Nat) : Int) + 1) = ((i + 1 : Nat) : Int) from wrp_id (by omega) (by omega)]
                        refine qG.blk 1 (pc' := 74) (ls' := [(2, 95), (0, ((c : Nat) : Int)), (0, ((k9 : Nat) : Int)), (0, ((m2 + 1 : Nat) : Int)), (0, ((t : Nat) : Int)), (0, ((i + 1 : Nat) : Int)), (0, ((k : Nat) : Int))]) (st' := []) (w' := w6) (n' := 142) rfl ?_
                        exact ih74 _ (by omega) (i + 1) (m2 + 1) (w6) ((0, ((k : Nat) : Int))) rfl (⟨hF94, ⟨by omega, hI94.2.1, hI94.2.2.1, rows.e1 (f := fun j => b01 (cF w0 (t + 1) j)) hI94.2.2.2.1 (by rw [hI94.2.2.2.2, hE]), by first | (rw [cntF_n (by rw [← hE]; exact b01_0 hth)]; omega) | (rw [cntF_y (by rw [← hE]; exact b01_1 hth)]; omega), by omega⟩⟩)
                  exact L94 _ (0) ((qup w7 118 i 0)) rfl (⟨by rw [qup_ne (by decide)]; exact hF74, ⟨by omega, hdW.u118 hI74.2.1 (by decide), fun j hj => by rw [qup_ne (by decide)]; exact hI74.2.2.1 j hj, rows.ke (f := fun j => b01 (cF w0 (t + 1) j)) hI74.2.2.2.1 (Nat.le_refl _), by rw [qup_k]; show (0 : Int) = b01 (_ && false); rw [Bool.and_false]; rfl⟩⟩)
                · skip
                  refine qG.blk 1 (pc' := 190) (ls' := [(2, 95), (0, ((c : Nat) : Int)), (0, ((k9 : Nat) : Int)), (0, ((m2 : Nat) : Int)), (0, ((t : Nat) : Int)), (0, ((i : Nat) : Int)), x6]) (st' := [(0, ((m2 : Nat) : Int))]) (w' := w7) (n' := 142) rfl ?_
                  refine qG.br (P := ((m2 : Nat) : Int) = 0) (pc1 := 193) (pc2 := 199) (st1 := []) rfl (fun hz => ?_) (fun hz => ?_)
                  · skip
                    refine qG.blk 5 (pc' := 202) (ls' := [(2, 95), (0, ((c : Nat) : Int)), (0, ((k9 : Nat) : Int)), (0, ((m2 : Nat) : Int)), (0, ((t : Nat) : Int)), (0, 0), x6]) (st' := []) (w' := (qup w7 95 46 ((t : Nat) : Int))) (n' := 142) rfl ?_
                    have L202 : ∀ (m9 : Nat) (i2 : Nat) (w5 : qW), N - i2 = m9 → ((w5 95 46 = (if m2 = 0 then (t : Int) else -1)) ∧ (i2 ≤ N ∧ hdW w0 w5 ∧ (∀ j, j < N → w5 118 j = b01 (cF w0 (t + 1) j)) ∧ (∀ j, j < i2 → w5 117 j = b01 (cF w0 (t + 1) j)))) → qG none (d + 1) 257 202 [(2, 95), (0, ((c : Nat) : Int)), (0, ((k9 : Nat) : Int)), (0, ((m2 : Nat) : Int)), (0, ((t : Nat) : Int)), (0, ((i2 : Nat) : Int)), x6] [] w5 142 Q9 := by
                      intro m9
                      induction m9 using Nat.strongRecOn with
                      | ind m9 ih202 =>
                      intro i2 w5 hm202 hI202
                      obtain ⟨hF202, hI202⟩ := hI202
                      refine qG.blk 3 (pc' := 208) (ls' := [(2, 95), (0, ((c : Nat) : Int)), (0, ((k9 : Nat) : Int)), (0, ((m2 : Nat) : Int)), (0, ((t : Nat) : Int)), (0, ((i2 : Nat) : Int)), x6]) (st' := [(0, w5 95 8), (0, ((i2 : Nat) : Int))]) (w' := w5) (n' := 142) rfl ?_
                      rw [show w5 95 8 = ((N : Nat) : Int) from (hI202.2.1.1 95 (8) (by decide) (by decide) (fun z => by cases z.2)).trans hN]
                      refine qG.br (P := ((i2 : Nat) : Int) < ((N : Nat) : Int)) (pc1 := 211) (pc2 := 231) (st1 := []) rfl (fun h3 => ?_) (fun h3 => ?_)
                      · skip
                        refine qG.blk 2 (pc' := 215) (ls' := [(2, 95), (0, ((c : Nat) : Int)), (0, ((k9 : Nat) : Int)), (0, ((m2 : Nat) : Int)), (0, ((t : Nat) : Int)), (0, ((i2 : Nat) : Int)), x6]) (st' := [(2, w5 95 44)]) (w' := w5) (n' := 142) rfl ?_
                        rw [show w5 95 44 = 117 from zref hI202.2.1.2 rfl rfl]
                        refine qG.blk 3 (pc' := 221) (ls' := [(2, 95), (0, ((c : Nat) : Int)), (0, ((k9 : Nat) : Int)), (0, ((m2 : Nat) : Int)), (0, ((t : Nat) : Int)), (0, ((i2 : Nat) : Int)), x6]) (st' := [(2, w5 95 45), (0, ((i2 : Nat) : Int)), (2, 117)]) (w' := w5) (n' := 142) rfl ?_
                        rw [show w5 95 45 = 118 from zref hI202.2.1.2 rfl rfl]
                        refine qG.blk 1 (pc' := 223) (ls' := [(2, 95), (0, ((c : Nat) : Int)), (0, ((k9 : Nat) : Int)), (0, ((m2 : Nat) : Int)), (0, ((t : Nat) : Int)), (0, ((i2 : Nat) : Int)), x6]) (st' := [(0, ((i2 : Nat) : Int)), (2, 118), (0, ((i2 : Nat) : Int)), (2, 117)]) (w' := w5) (n' := 142) rfl ?_
                        refine qG.bld (m := 1820) rfl rfl (by omega) (by decide) ?_
                        show qG none (d + 1) 257 224 [(2, 95), (0, ((c : Nat) : Int)), (0, ((k9 : Nat) : Int)), (0, ((m2 : Nat) : Int)), (0, ((t : Nat) : Int)), (0, ((i2 : Nat) : Int)), x6] [(0, w5 118 i2), (0, ((i2 : Nat) : Int)), (2, 117)] w5 142 Q9
                        rw [show w5 118 i2 = b01 (cF w0 (t + 1) i2) from hI202.2.2.1 _ (by omega)]
                        refine qG.bst (m := 1820) rfl rfl (by exact ⟨⟨by omega, by omega⟩, b01_in _⟩) (by decide) ?_
                        show qG none (d + 1) 257 225 [(2, 95), (0, ((c : Nat) : Int)), (0, ((k9 : Nat) : Int)), (0, ((m2 : Nat) : Int)), (0, ((t : Nat) : Int)), (0, ((i2 : Nat) : Int)), x6] [] (qup w5 117 i2 (b01 (cF w0 (t + 1) i2))) 142 Q9
                        refine qG.blk 1 (pc' := 228) (ls' := [(2, 95), (0, ((c : Nat) : Int)), (0, ((k9 : Nat) : Int)), (0, ((m2 : Nat) : Int)), (0, ((t : Nat) : Int)), (0, wrp (((i2 : Nat) : Int) + 1)), x6]) (st' := []) (w' := (qup w5 117 i2 (b01 (cF w0 (t + 1) i2)))) (n' := 142) rfl ?_
                        rw [show wrp (((i2 : Nat) : Int) + 1) = ((i2 + 1 : Nat) : Int) from wrp_id (by omega) (by omega)]
                        refine qG.blk 1 (pc' := 202) (ls' := [(2, 95), (0, ((c : Nat) : Int)), (0, ((k9 : Nat) : Int)), (0, ((m2 : Nat) : Int)), (0, ((t : Nat) : Int)), (0, ((i2 + 1 : Nat) : Int)), x6]) (st' := []) (w' := (qup w5 117 i2 (b01 (cF w0 (t + 1) i2)))) (n' := 142) rfl ?_
                        exact ih202 _ (by omega) (i2 + 1) ((qup w5 117 i2 (b01 (cF w0 (t + 1) i2)))) rfl (⟨by rw [qup_ne (by decide)]; exact hF202, ⟨by omega, hdW.u117 hI202.2.1 (b01_in _), fun j hj => by rw [qup_ne (by decide)]; exact hI202.2.2.1 j hj, rows.nx (f := fun j => b01 (cF w0 (t + 1) j)) hI202.2.2.2 rfl⟩⟩)
                      · skip
                        refine qG.blk 1 (pc' := 234) (ls' := [(2, 95), (0, ((c : Nat) : Int)), (0, ((k9 : Nat) : Int)), (0, ((m2 : Nat) : Int)), (0, wrp (((t : Nat) : Int) + 1)), (0, ((i2 : Nat) : Int)), x6]) (st' := []) (w' := w5) (n' := 142) rfl ?_
                        rw [show wrp (((t : Nat) : Int) + 1) = ((t + 1 : Nat) : Int) from wrp_id (by omega) (by omega)]
                        refine qG.blk 1 (pc' := 56) (ls' := [(2, 95), (0, ((c : Nat) : Int)), (0, ((k9 : Nat) : Int)), (0, ((m2 : Nat) : Int)), (0, ((t + 1 : Nat) : Int)), (0, ((i2 : Nat) : Int)), x6]) (st' := []) (w' := w5) (n' := 142) rfl ?_
                        exact ih56 _ (by omega) (t + 1) (m2) (w5) ((0, ((i2 : Nat) : Int))) (x6) rfl (⟨⟨by rw [hF202]; (repeat' split) <;> omega, .inr (by rw [show t + 1 - 1 = t by omega, ← hI56.2.2.2]; omega)⟩, ⟨by omega, hI202.2.1, fun j hj => hI202.2.2.2 j (by omega), by rw [hI74.2.2.2.2.1, show i = N by omega]⟩⟩)
                    exact L202 _ (0) ((qup w7 95 46 ((t : Nat) : Int))) rfl (⟨by first | (rw [qup_k, if_pos (by omega)]; done) | (rw [hF74, if_neg (by omega)]; done), ⟨by omega, by first | exact hI74.2.1 | exact hI74.2.1.u46 (by omega) (by omega), fun j hj => by first | exact hI74.2.2.2.1 j (by omega) | (rw [qup_ne (by decide)]; exact hI74.2.2.2.1 j (by omega)), fun j hj => absurd hj (Nat.not_lt_zero j)⟩⟩)
                  · skip
                    refine qG.blk 2 (pc' := 202) (ls' := [(2, 95), (0, ((c : Nat) : Int)), (0, ((k9 : Nat) : Int)), (0, ((m2 : Nat) : Int)), (0, ((t : Nat) : Int)), (0, 0), x6]) (st' := []) (w' := w7) (n' := 142) rfl ?_
                    have L202_1 : ∀ (m9 : Nat) (i2 : Nat) (w5 : qW), N - i2 = m9 → ((w5 95 46 = (if m2 = 0 then (t : Int) else -1)) ∧ (i2 ≤ N ∧ hdW w0 w5 ∧ (∀ j, j < N → w5 118 j = b01 (cF w0 (t + 1) j)) ∧ (∀ j, j < i2 → w5 117 j = b01 (cF w0 (t + 1) j)))) → qG none (d + 1) 257 202 [(2, 95), (0, ((c : Nat) : Int)), (0, ((k9 : Nat) : Int)), (0, ((m2 : Nat) : Int)), (0, ((t : Nat) : Int)), (0, ((i2 : Nat) : Int)), x6] [] w5 142 Q9 := by
                      intro m9
                      induction m9 using Nat.strongRecOn with
                      | ind m9 ih202 =>
                      intro i2 w5 hm202 hI202
                      obtain ⟨hF202, hI202⟩ := hI202
                      refine qG.blk 3 (pc' := 208) (ls' := [(2, 95), (0, ((c : Nat) : Int)), (0, ((k9 : Nat) : Int)), (0, ((m2 : Nat) : Int)), (0, ((t : Nat) : Int)), (0, ((i2 : Nat) : Int)), x6]) (st' := [(0, w5 95 8), (0, ((i2 : Nat) : Int))]) (w' := w5) (n' := 142) rfl ?_
                      rw [show w5 95 8 = ((N : Nat) : Int) from (hI202.2.1.1 95 (8) (by decide) (by decide) (fun z => by cases z.2)).trans hN]
                      refine qG.br (P := ((i2 : Nat) : Int) < ((N : Nat) : Int)) (pc1 := 211) (pc2 := 231) (st1 := []) rfl (fun h4 => ?_) (fun h4 => ?_)
                      · skip
                        refine qG.blk 2 (pc' := 215) (ls' := [(2, 95), (0, ((c : Nat) : Int)), (0, ((k9 : Nat) : Int)), (0, ((m2 : Nat) : Int)), (0, ((t : Nat) : Int)), (0, ((i2 : Nat) : Int)), x6]) (st' := [(2, w5 95 44)]) (w' := w5) (n' := 142) rfl ?_
                        rw [show w5 95 44 = 117 from zref hI202.2.1.2 rfl rfl]
                        refine qG.blk 3 (pc' := 221) (ls' := [(2, 95), (0, ((c : Nat) : Int)), (0, ((k9 : Nat) : Int)), (0, ((m2 : Nat) : Int)), (0, ((t : Nat) : Int)), (0, ((i2 : Nat) : Int)), x6]) (st' := [(2, w5 95 45), (0, ((i2 : Nat) : Int)), (2, 117)]) (w' := w5) (n' := 142) rfl ?_
                        rw [show w5 95 45 = 118 from zref hI202.2.1.2 rfl rfl]
                        refine qG.blk 1 (pc' := 223) (ls' := [(2, 95), (0, ((c : Nat) : Int)), (0, ((k9 : Nat) : Int)), (0, ((m2 : Nat) : Int)), (0, ((t : Nat) : Int)), (0, ((i2 : Nat) : Int)), x6]) (st' := [(0, ((i2 : Nat) : Int)), (2, 118), (0, ((i2 : Nat) : Int)), (2, 117)]) (w' := w5) (n' := 142) rfl ?_
                        refine qG.bld (m := 1820) rfl rfl (by omega) (by decide) ?_
                        show qG none (d + 1) 257 224 [(2, 95), (0, ((c : Nat) : Int)), (0, ((k9 : Nat) : Int)), (0, ((m2 : Nat) : Int)), (0, ((t : Nat) : Int)), (0, ((i2 : Nat) : Int)), x6] [(0, w5 118 i2), (0, ((i2 : Nat) : Int)), (2, 117)] w5 142 Q9
                        rw [show w5 118 i2 = b01 (cF w0 (t + 1) i2) from hI202.2.2.1 _ (by omega)]
                        refine qG.bst (m := 1820) rfl rfl (by exact ⟨⟨by omega, by omega⟩, b01_in _⟩) (by decide) ?_
                        show qG none (d + 1) 257 225 [(2, 95), (0, ((c : Nat) : Int)), (0, ((k9 : Nat) : Int)), (0, ((m2 : Nat) : Int)), (0, ((t : Nat) : Int)), (0, ((i2 : Nat) : Int)), x6] [] (qup w5 117 i2 (b01 (cF w0 (t + 1) i2))) 142 Q9
                        refine qG.blk 1 (pc' := 228) (ls' := [(2, 95), (0, ((c : Nat) : Int)), (0, ((k9 : Nat) : Int)), (0, ((m2 : Nat) : Int)), (0, ((t : Nat) : Int)), (0, wrp (((i2 : Nat) : Int) + 1)), x6]) (st' := []) (w' := (qup w5 117 i2 (b01 (cF w0 (t + 1) i2)))) (n' := 142) rfl ?_
                        rw [show wrp (((i2 : Nat) : Int) + 1) = ((i2 + 1 : Nat) : Int) from wrp_id (by omega) (by omega)]
                        refine qG.blk 1 (pc' := 202) (ls' := [(2, 95), (0, ((c : Nat) : Int)), (0, ((k9 : Nat) : Int)), (0, ((m2 : Nat) : Int)), (0, ((t : Nat) : Int)), (0, ((i2 + 1 : Nat) : Int)), x6]) (st' := []) (w' := (qup w5 117 i2 (b01 (cF w0 (t + 1) i2)))) (n' := 142) rfl ?_
                        exact ih202 _ (by omega) (i2 + 1) ((qup w5 117 i2 (b01 (cF w0 (t + 1) i2)))) rfl (⟨by rw [qup_ne (by decide)]; exact hF202, ⟨by omega, hdW.u117 hI202.2.1 (b01_in _), fun j hj => by rw [qup_ne (by decide)]; exact hI202.2.2.1 j hj, rows.nx (f := fun j => b01 (cF w0 (t + 1) j)) hI202.2.2.2 rfl⟩⟩)
                      · skip
                        refine qG.blk 1 (pc' := 234) (ls' := [(2, 95), (0, ((c : Nat) : Int)), (0, ((k9 : Nat) : Int)), (0, ((m2 : Nat) : Int)), (0, wrp (((t : Nat) : Int) + 1)), (0, ((i2 : Nat) : Int)), x6]) (st' := []) (w' := w5) (n' := 142) rfl ?_
                        rw [show wrp (((t : Nat) : Int) + 1) = ((t + 1 : Nat) : Int) from wrp_id (by omega) (by omega)]
                        refine qG.blk 1 (pc' := 56) (ls' := [(2, 95), (0, ((c : Nat) : Int)), (0, ((k9 : Nat) : Int)), (0, ((m2 : Nat) : Int)), (0, ((t + 1 : Nat) : Int)), (0, ((i2 : Nat) : Int)), x6]) (st' := []) (w' := w5) (n' := 142) rfl ?_
                        exact ih56 _ (by omega) (t + 1) (m2) (w5) ((0, ((i2 : Nat) : Int))) (x6) rfl (⟨⟨by rw [hF202]; (repeat' split) <;> omega, .inr (by rw [show t + 1 - 1 = t by omega, ← hI56.2.2.2]; omega)⟩, ⟨by omega, hI202.2.1, fun j hj => hI202.2.2.2 j (by omega), by rw [hI74.2.2.2.2.1, show i = N by omega]⟩⟩)
                    exact L202_1 _ (0) (w7) rfl (⟨by first | (rw [qup_k, if_pos (by omega)]; done) | (rw [hF74, if_neg (by omega)]; done), ⟨by omega, by first | exact hI74.2.1 | exact hI74.2.1.u46 (by omega) (by omega), fun j hj => by first | exact hI74.2.2.2.1 j (by omega) | (rw [qup_ne (by decide)]; exact hI74.2.2.2.1 j (by omega)), fun j hj => absurd hj (Nat.not_lt_zero j)⟩⟩)
              exact L74 _ (0) (0) (w8) (x6) rfl (⟨by rw [hF56.1]; (repeat' split) <;> omega, ⟨by omega, hI56.2.1, hI56.2.2.1, fun j hj => absurd hj (Nat.not_lt_zero j), rfl, by omega⟩⟩)
            · skip
              refine qG.blk 1 (pc' := 238) (ls' := [(2, 95), (0, ((c : Nat) : Int)), (0, ((k9 : Nat) : Int)), (0, ((m : Nat) : Int)), (0, ((t : Nat) : Int)), x5, x6]) (st' := [(0, ((m : Nat) : Int))]) (w' := w8) (n' := 142) rfl ?_
              refine qG.ret rfl rfl ?_
              subst hQ9
              exact ⟨rfl, w0, hfp, hA0, hS0, hI56.2.1, N, S, t, hN, hSS, hI56.1, by rw [hI56.2.2.2], by first | (left; omega) | (right; omega), by rw [← hI56.2.2.2]; exact hF56.1, fun _ => hF56.2⟩
          · skip
            refine qG.blk 1 (pc' := 238) (ls' := [(2, 95), (0, ((c : Nat) : Int)), (0, ((k9 : Nat) : Int)), (0, ((m : Nat) : Int)), (0, ((t : Nat) : Int)), x5, x6]) (st' := [(0, ((m : Nat) : Int))]) (w' := w8) (n' := 142) rfl ?_
            refine qG.ret rfl rfl ?_
            subst hQ9
            exact ⟨rfl, w0, hfp, hA0, hS0, hI56.2.1, N, S, t, hN, hSS, hI56.1, by rw [hI56.2.2.2], by first | (left; omega) | (right; omega), by rw [← hI56.2.2.2]; exact hF56.1, fun _ => hF56.2⟩
        exact L56 _ (0) (N) (w9) ((9, 0)) ((9, 0)) rfl (⟨⟨by rw [hF30]; (repeat' split) <;> omega, .inl rfl⟩, ⟨by omega, hI30.2.1, fun j hj => by rw [hI30.2.2 j (by omega)]; rfl, (cntF_all (fun _ => rfl) N).symm⟩⟩)
    exact L30 _ (0) ((qup w0 95 46 0)) rfl (⟨by rw [qup_k]; split <;> omega, ⟨by omega, hdW.u46 ⟨fun _ _ _ _ _ => rfl, hA0.1⟩ (by omega) (by omega), fun j hj => absurd hj (Nat.not_lt_zero j)⟩⟩)
  · skip
    refine qG.blk 4 (pc' := 26) (ls' := [(2, 95), (0, ((c : Nat) : Int)), (0, ((k9 : Nat) : Int)), (9, 0), (9, 0), (9, 0), (9, 0)]) (st' := [(0, w0 95 8)]) (w' := (qup w0 95 46 (-1))) (n' := 142) rfl ?_
    rw [show w0 95 8 = ((N : Nat) : Int) from hN]
    refine qG.blk 3 (pc' := 30) (ls' := [(2, 95), (0, ((c : Nat) : Int)), (0, ((k9 : Nat) : Int)), (0, ((N : Nat) : Int)), (0, 0), (9, 0), (9, 0)]) (st' := []) (w' := (qup w0 95 46 (-1))) (n' := 142) rfl ?_
    have L30_1 : ∀ (m9 : Nat) (i : Nat) (w9 : qW), N - i = m9 → ((w9 95 46 = (if N = 0 then 0 else -1)) ∧ (i ≤ N ∧ hdW w0 w9 ∧ ∀ j, j < i → w9 117 j = 1)) → qG none (d + 1) 257 30 [(2, 95), (0, ((c : Nat) : Int)), (0, ((k9 : Nat) : Int)), (0, ((N : Nat) : Int)), (0, ((i : Nat) : Int)), (9, 0), (9, 0)] [] w9 142 Q9 := by
      intro m9
      induction m9 using Nat.strongRecOn with
      | ind m9 ih30 =>
      intro i w9 hm30 hI30
      obtain ⟨hF30, hI30⟩ := hI30
      refine qG.blk 3 (pc' := 36) (ls' := [(2, 95), (0, ((c : Nat) : Int)), (0, ((k9 : Nat) : Int)), (0, ((N : Nat) : Int)), (0, ((i : Nat) : Int)), (9, 0), (9, 0)]) (st' := [(0, w9 95 8), (0, ((i : Nat) : Int))]) (w' := w9) (n' := 142) rfl ?_
      rw [show w9 95 8 = ((N : Nat) : Int) from (hI30.2.1.1 95 (8) (by decide) (by decide) (fun z => by cases z.2)).trans hN]
      refine qG.br (P := ((i : Nat) : Int) < ((N : Nat) : Int)) (pc1 := 39) (pc2 := 53) (st1 := []) rfl (fun h5 => ?_) (fun h5 => ?_)
      · skip
        refine qG.blk 2 (pc' := 43) (ls' := [(2, 95), (0, ((c : Nat) : Int)), (0, ((k9 : Nat) : Int)), (0, ((N : Nat) : Int)), (0, ((i : Nat) : Int)), (9, 0), (9, 0)]) (st' := [(2, w9 95 44)]) (w' := w9) (n' := 142) rfl ?_
        rw [show w9 95 44 = 117 from zref hI30.2.1.2 rfl rfl]
        refine qG.blk 2 (pc' := 46) (ls' := [(2, 95), (0, ((c : Nat) : Int)), (0, ((k9 : Nat) : Int)), (0, ((N : Nat) : Int)), (0, ((i : Nat) : Int)), (9, 0), (9, 0)]) (st' := [(0, 1), (0, ((i : Nat) : Int)), (2, 117)]) (w' := w9) (n' := 142) rfl ?_
        refine qG.bst (m := 1820) rfl rfl (by omega) (by decide) ?_
        show qG none (d + 1) 257 47 [(2, 95), (0, ((c : Nat) : Int)), (0, ((k9 : Nat) : Int)), (0, ((N : Nat) : Int)), (0, ((i : Nat) : Int)), (9, 0), (9, 0)] [] (qup w9 117 i 1) 142 Q9
        refine qG.blk 1 (pc' := 50) (ls' := [(2, 95), (0, ((c : Nat) : Int)), (0, ((k9 : Nat) : Int)), (0, ((N : Nat) : Int)), (0, wrp (((i : Nat) : Int) + 1)), (9, 0), (9, 0)]) (st' := []) (w' := (qup w9 117 i 1)) (n' := 142) rfl ?_
        rw [show wrp (((i : Nat) : Int) + 1) = ((i + 1 : Nat) : Int) from wrp_id (by omega) (by omega)]
        refine qG.blk 1 (pc' := 30) (ls' := [(2, 95), (0, ((c : Nat) : Int)), (0, ((k9 : Nat) : Int)), (0, ((N : Nat) : Int)), (0, ((i + 1 : Nat) : Int)), (9, 0), (9, 0)]) (st' := []) (w' := (qup w9 117 i 1)) (n' := 142) rfl ?_
        exact ih30 _ (by omega) (i + 1) ((qup w9 117 i 1)) rfl (⟨by rw [qup_ne (by decide)]; exact hF30, ⟨by omega, hdW.u117 hI30.2.1 (by decide), rows.nx (f := fun _ => 1) hI30.2.2 rfl⟩⟩)
      · skip
        refine qG.blk 2 (pc' := 56) (ls' := [(2, 95), (0, ((c : Nat) : Int)), (0, ((k9 : Nat) : Int)), (0, ((N : Nat) : Int)), (0, 0), (9, 0), (9, 0)]) (st' := []) (w' := w9) (n' := 142) rfl ?_
        have L56_1 : ∀ (m9 : Nat) (t m : Nat) (w8 : qW) (x5 x6 : qV), S - t = m9 → ((w8 95 46 = (if N = 0 then 0 else if m = 0 then (t : Int) - 1 else -1) ∧ (t = 0 ∨ cntF (cF w0 (t - 1)) N ≠ 0)) ∧ (t ≤ S ∧ hdW w0 w8 ∧ (∀ j, j < N → w8 117 j = b01 (cF w0 t j)) ∧ m = cntF (cF w0 t) N)) → qG none (d + 1) 257 56 [(2, 95), (0, ((c : Nat) : Int)), (0, ((k9 : Nat) : Int)), (0, ((m : Nat) : Int)), (0, ((t : Nat) : Int)), x5, x6] [] w8 142 Q9 := by
          intro m9
          induction m9 using Nat.strongRecOn with
          | ind m9 ih56 =>
          intro t m w8 x5 x6 hm56 hI56
          obtain ⟨hF56, hI56⟩ := hI56
          have hm9 := cntF_le (cF w0 t) N
          rw [← hI56.2.2.2] at hm9
          refine qG.blk 3 (pc' := 62) (ls' := [(2, 95), (0, ((c : Nat) : Int)), (0, ((k9 : Nat) : Int)), (0, ((m : Nat) : Int)), (0, ((t : Nat) : Int)), x5, x6]) (st' := [(0, w8 95 37), (0, ((t : Nat) : Int))]) (w' := w8) (n' := 142) rfl ?_
          rw [show w8 95 37 = ((S : Nat) : Int) from (hI56.2.1.1 95 (37) (by decide) (by decide) (fun z => by cases z.2)).trans hSS]
          refine qG.br (P := ((t : Nat) : Int) < ((S : Nat) : Int)) (pc1 := 65) (pc2 := 237) (st1 := []) rfl (fun hts => ?_) (fun hts => ?_)
          · skip
            refine qG.blk 1 (pc' := 66) (ls' := [(2, 95), (0, ((c : Nat) : Int)), (0, ((k9 : Nat) : Int)), (0, ((m : Nat) : Int)), (0, ((t : Nat) : Int)), x5, x6]) (st' := [(0, ((m : Nat) : Int))]) (w' := w8) (n' := 142) rfl ?_
            refine qG.br (P := 0 < ((m : Nat) : Int)) (pc1 := 69) (pc2 := 237) (st1 := []) rfl (fun hmp => ?_) (fun hmp => ?_)
            · skip
              refine qG.blk 4 (pc' := 74) (ls' := [(2, 95), (0, ((c : Nat) : Int)), (0, ((k9 : Nat) : Int)), (0, 0), (0, ((t : Nat) : Int)), (0, 0), x6]) (st' := []) (w' := w8) (n' := 142) rfl ?_
              have L74_1 : ∀ (m9 : Nat) (i m2 : Nat) (w7 : qW) (x6 : qV), N - i = m9 → ((w7 95 46 = -1) ∧ (i ≤ N ∧ hdW w0 w7 ∧ (∀ j, j < N → w7 117 j = b01 (cF w0 t j)) ∧ (∀ j, j < i → w7 118 j = b01 (cF w0 (t + 1) j)) ∧ m2 = cntF (cF w0 (t + 1)) i ∧ m2 ≤ i)) → qG none (d + 1) 257 74 [(2, 95), (0, ((c : Nat) : Int)), (0, ((k9 : Nat) : Int)), (0, ((m2 : Nat) : Int)), (0, ((t : Nat) : Int)), (0, ((i : Nat) : Int)), x6] [] w7 142 Q9 := by
                intro m9
                induction m9 using Nat.strongRecOn with
                | ind m9 ih74 =>
                intro i m2 w7 x6 hm74 hI74
                obtain ⟨hF74, hI74⟩ := hI74
                have hm2i := hm2 i
                refine qG.blk 3 (pc' := 80) (ls' := [(2, 95), (0, ((c : Nat) : Int)), (0, ((k9 : Nat) : Int)), (0, ((m2 : Nat) : Int)), (0, ((t : Nat) : Int)), (0, ((i : Nat) : Int)), x6]) (st' := [(0, w7 95 8), (0, ((i : Nat) : Int))]) (w' := w7) (n' := 142) rfl ?_
                rw [show w7 95 8 = ((N : Nat) : Int) from (hI74.2.1.1 95 (8) (by decide) (by decide) (fun z => by cases z.2)).trans hN]
                refine qG.br (P := ((i : Nat) : Int) < ((N : Nat) : Int)) (pc1 := 83) (pc2 := 189) (st1 := []) rfl (fun hiN => ?_) (fun hiN => ?_)
                · skip
                  refine qG.blk 2 (pc' := 87) (ls' := [(2, 95), (0, ((c : Nat) : Int)), (0, ((k9 : Nat) : Int)), (0, ((m2 : Nat) : Int)), (0, ((t : Nat) : Int)), (0, ((i : Nat) : Int)), x6]) (st' := [(2, w7 95 45)]) (w' := w7) (n' := 142) rfl ?_
                  rw [show w7 95 45 = 118 from zref hI74.2.1.2 rfl rfl]
                  refine qG.blk 2 (pc' := 90) (ls' := [(2, 95), (0, ((c : Nat) : Int)), (0, ((k9 : Nat) : Int)), (0, ((m2 : Nat) : Int)), (0, ((t : Nat) : Int)), (0, ((i : Nat) : Int)), x6]) (st' := [(0, 0), (0, ((i : Nat) : Int)), (2, 118)]) (w' := w7) (n' := 142) rfl ?_
                  refine qG.bst (m := 1820) rfl rfl (by omega) (by decide) ?_
                  show qG none (d + 1) 257 91 [(2, 95), (0, ((c : Nat) : Int)), (0, ((k9 : Nat) : Int)), (0, ((m2 : Nat) : Int)), (0, ((t : Nat) : Int)), (0, ((i : Nat) : Int)), x6] [] (qup w7 118 i 0) 142 Q9
                  refine qG.blk 2 (pc' := 94) (ls' := [(2, 95), (0, ((c : Nat) : Int)), (0, ((k9 : Nat) : Int)), (0, ((m2 : Nat) : Int)), (0, ((t : Nat) : Int)), (0, ((i : Nat) : Int)), (0, 0)]) (st' := []) (w' := (qup w7 118 i 0)) (n' := 142) rfl ?_
                  have L94_1 : ∀ (m9 : Nat) (k : Nat) (w6 : qW), 50 - k = m9 → ((w6 95 46 = -1) ∧ ((k : Int) ≤ w0 102 i ∧ hdW w0 w6 ∧ (∀ j, j < N → w6 117 j = b01 (cF w0 t j)) ∧ (∀ j, j < i → w6 118 j = b01 (cF w0 (t + 1) j)) ∧ w6 118 i = b01 (clF w0 t i && anyF (cF w0 t) (nxF w0 i) k))) → qG none (d + 1) 257 94 [(2, 95), (0, ((c : Nat) : Int)), (0, ((k9 : Nat) : Int)), (0, ((m2 : Nat) : Int)), (0, ((t : Nat) : Int)), (0, ((i : Nat) : Int)), (0, ((k : Nat) : Int))] [] w6 142 Q9 := by
                    intro m9
                    induction m9 using Nat.strongRecOn with
                    | ind m9 ih94 =>
                    intro k w6 hm94 hI94
                    obtain ⟨hF94, hI94⟩ := hI94
                    have hm2i := hm2 i
                    refine qG.blk 3 (pc' := 100) (ls' := [(2, 95), (0, ((c : Nat) : Int)), (0, ((k9 : Nat) : Int)), (0, ((m2 : Nat) : Int)), (0, ((t : Nat) : Int)), (0, ((i : Nat) : Int)), (0, ((k : Nat) : Int))]) (st' := [(2, w6 95 6), (0, ((k : Nat) : Int))]) (w' := w6) (n' := 142) rfl ?_
                    rw [show w6 95 6 = 102 from zref hI94.2.1.2 rfl rfl]
                    refine qG.blk 1 (pc' := 102) (ls' := [(2, 95), (0, ((c : Nat) : Int)), (0, ((k9 : Nat) : Int)), (0, ((m2 : Nat) : Int)), (0, ((t : Nat) : Int)), (0, ((i : Nat) : Int)), (0, ((k : Nat) : Int))]) (st' := [(0, ((i : Nat) : Int)), (2, 102), (0, ((k : Nat) : Int))]) (w' := w6) (n' := 142) rfl ?_
                    refine qG.ild (m := 1820) rfl rfl (by omega) (by decide) ?_
                    show qG none (d + 1) 257 103 [(2, 95), (0, ((c : Nat) : Int)), (0, ((k9 : Nat) : Int)), (0, ((m2 : Nat) : Int)), (0, ((t : Nat) : Int)), (0, ((i : Nat) : Int)), (0, ((k : Nat) : Int))] [(0, w6 102 i), (0, ((k : Nat) : Int))] w6 142 Q9
                    rw [show w6 102 i = w0 102 i from hI94.2.1.1 102 (i) (by decide) (by decide) (fun z => by cases z.1)]
                    refine qG.br (P := ((k : Nat) : Int) < w0 102 i) (pc1 := 106) (pc2 := 165) (st1 := []) rfl (fun hkm => ?_) (fun hkm => ?_)
                    · skip
                      have hnx : nxF w0 i k < N := nx_lt hA0.1 hS0 hN (by omega) hkm
                      refine qG.blk 2 (pc' := 110) (ls' := [(2, 95), (0, ((c : Nat) : Int)), (0, ((k9 : Nat) : Int)), (0, ((m2 : Nat) : Int)), (0, ((t : Nat) : Int)), (0, ((i : Nat) : Int)), (0, ((k : Nat) : Int))]) (st' := [(2, w6 95 45)]) (w' := w6) (n' := 142) rfl ?_
                      rw [show w6 95 45 = 118 from zref hI94.2.1.2 rfl rfl]
                      refine qG.blk 1 (pc' := 112) (ls' := [(2, 95), (0, ((c : Nat) : Int)), (0, ((k9 : Nat) : Int)), (0, ((m2 : Nat) : Int)), (0, ((t : Nat) : Int)), (0, ((i : Nat) : Int)), (0, ((k : Nat) : Int))]) (st' := [(0, ((i : Nat) : Int)), (2, 118)]) (w' := w6) (n' := 142) rfl ?_
                      refine qG.bld (m := 1820) rfl rfl (by omega) (by decide) ?_
                      show qG none (d + 1) 257 113 [(2, 95), (0, ((c : Nat) : Int)), (0, ((k9 : Nat) : Int)), (0, ((m2 : Nat) : Int)), (0, ((t : Nat) : Int)), (0, ((i : Nat) : Int)), (0, ((k : Nat) : Int))] [(0, w6 118 i)] w6 142 Q9
                      rw [show w6 118 i = b01 (clF w0 t i && anyF (cF w0 t) (nxF w0 i) k) from hI94.2.2.2.2]
                      refine qG.br (P := b01 (clF w0 t i && anyF (cF w0 t) (nxF w0 i) k) = 0) (pc1 := 116) (pc2 := 165) (st1 := []) rfl (fun htn => ?_) (fun htn => ?_)
                      · skip
                        refine qG.blk 2 (pc' := 120) (ls' := [(2, 95), (0, ((c : Nat) : Int)), (0, ((k9 : Nat) : Int)), (0, ((m2 : Nat) : Int)), (0, ((t : Nat) : Int)), (0, ((i : Nat) : Int)), (0, ((k : Nat) : Int))]) (st' := [(2, w6 95 5)]) (w' := w6) (n' := 142) rfl ?_
                        rw [show w6 95 5 = 101 from zref hI94.2.1.2 rfl rfl]
                        refine qG.blk 1 (pc' := 122) (ls' := [(2, 95), (0, ((c : Nat) : Int)), (0, ((k9 : Nat) : Int)), (0, ((m2 : Nat) : Int)), (0, ((t : Nat) : Int)), (0, ((i : Nat) : Int)), (0, ((k : Nat) : Int))]) (st' := [(0, ((i : Nat) : Int)), (2, 101)]) (w' := w6) (n' := 142) rfl ?_
                        refine qG.ild (m := 1820) rfl rfl (by omega) (by decide) ?_
                        show qG none (d + 1) 257 123 [(2, 95), (0, ((c : Nat) : Int)), (0, ((k9 : Nat) : Int)), (0, ((m2 : Nat) : Int)), (0, ((t : Nat) : Int)), (0, ((i : Nat) : Int)), (0, ((k : Nat) : Int))] [(0, w6 101 i)] w6 142 Q9
                        rw [show w6 101 i = w0 101 i from hI94.2.1.1 101 (i) (by decide) (by decide) (fun z => by cases z.1)]
                        refine qG.blk 2 (pc' := 127) (ls' := [(2, 95), (0, ((c : Nat) : Int)), (0, ((k9 : Nat) : Int)), (0, ((m2 : Nat) : Int)), (0, ((t : Nat) : Int)), (0, ((i : Nat) : Int)), (0, ((k : Nat) : Int))]) (st' := [(2, w6 95 36), (0, w0 101 i)]) (w' := w6) (n' := 142) rfl ?_
                        rw [show w6 95 36 = 116 from zref hI94.2.1.2 rfl rfl]
                        refine qG.blk 1 (pc' := 129) (ls' := [(2, 95), (0, ((c : Nat) : Int)), (0, ((k9 : Nat) : Int)), (0, ((m2 : Nat) : Int)), (0, ((t : Nat) : Int)), (0, ((i : Nat) : Int)), (0, ((k : Nat) : Int))]) (st' := [(0, ((t : Nat) : Int)), (2, 116), (0, w0 101 i)]) (w' := w6) (n' := 142) rfl ?_
                        refine qG.ild (m := 900) rfl rfl (by omega) (by decide) ?_
                        show qG none (d + 1) 257 130 [(2, 95), (0, ((c : Nat) : Int)), (0, ((k9 : Nat) : Int)), (0, ((m2 : Nat) : Int)), (0, ((t : Nat) : Int)), (0, ((i : Nat) : Int)), (0, ((k : Nat) : Int))] [(0, w6 116 t), (0, w0 101 i)] w6 142 Q9
                        rw [show w6 116 t = w0 116 t from hI94.2.1.1 116 (t) (by decide) (by decide) (fun z => by cases z.1)]
                        refine qG.blk 1 (pc' := 131) (ls' := [(2, 95), (0, ((c : Nat) : Int)), (0, ((k9 : Nat) : Int)), (0, ((m2 : Nat) : Int)), (0, ((t : Nat) : Int)), (0, ((i : Nat) : Int)), (0, ((k : Nat) : Int))]) (st' := [(0, qand (w0 101 i) (w0 116 t))]) (w' := w6) (n' := 142) rfl ?_
                        refine qG.br (P := qand (w0 101 i) (w0 116 t) = 0) (pc1 := 134) (pc2 := 165) (st1 := []) rfl (fun hcl => ?_) (fun hcl => ?_)
                        · skip
                          refine qG.blk 2 (pc' := 138) (ls' := [(2, 95), (0, ((c : Nat) : Int)), (0, ((k9 : Nat) : Int)), (0, ((m2 : Nat) : Int)), (0, ((t : Nat) : Int)), (0, ((i : Nat) : Int)), (0, ((k : Nat) : Int))]) (st' := [(2, w6 95 45)]) (w' := w6) (n' := 142) rfl ?_
                          rw [show w6 95 45 = 118 from zref hI94.2.1.2 rfl rfl]
                          refine qG.blk 3 (pc' := 144) (ls' := [(2, 95), (0, ((c : Nat) : Int)), (0, ((k9 : Nat) : Int)), (0, ((m2 : Nat) : Int)), (0, ((t : Nat) : Int)), (0, ((i : Nat) : Int)), (0, ((k : Nat) : Int))]) (st' := [(2, w6 95 44), (0, ((i : Nat) : Int)), (2, 118)]) (w' := w6) (n' := 142) rfl ?_
                          rw [show w6 95 44 = 117 from zref hI94.2.1.2 rfl rfl]
                          refine qG.blk 2 (pc' := 148) (ls' := [(2, 95), (0, ((c : Nat) : Int)), (0, ((k9 : Nat) : Int)), (0, ((m2 : Nat) : Int)), (0, ((t : Nat) : Int)), (0, ((i : Nat) : Int)), (0, ((k : Nat) : Int))]) (st' := [(2, w6 95 7), (2, 117), (0, ((i : Nat) : Int)), (2, 118)]) (w' := w6) (n' := 142) rfl ?_
                          rw [show w6 95 7 = 103 from zref hI94.2.1.2 rfl rfl]
                          refine qG.blk 3 (pc' := 153) (ls' := [(2, 95), (0, ((c : Nat) : Int)), (0, ((k9 : Nat) : Int)), (0, ((m2 : Nat) : Int)), (0, ((t : Nat) : Int)), (0, ((i : Nat) : Int)), (0, ((k : Nat) : Int))]) (st' := [(0, wrp (50 * ((i : Nat) : Int))), (2, 103), (2, 117), (0, ((i : Nat) : Int)), (2, 118)]) (w' := w6) (n' := 142) rfl ?_
                          rw [show wrp (50 * ((i : Nat) : Int)) = ((50 * i : Nat) : Int) from by rw [wrp_id (by omega) (by omega)]; omega]
                          refine qG.blk 2 (pc' := 156) (ls' := [(2, 95), (0, ((c : Nat) : Int)), (0, ((k9 : Nat) : Int)), (0, ((m2 : Nat) : Int)), (0, ((t : Nat) : Int)), (0, ((i : Nat) : Int)), (0, ((k : Nat) : Int))]) (st' := [(0, wrp (((50 * i : Nat) : Int) + ((k : Nat) : Int))), (2, 103), (2, 117), (0, ((i : Nat) : Int)), (2, 118)]) (w' := w6) (n' := 142) rfl ?_
                          rw [show wrp (((50 * i : Nat) : Int) + ((k : Nat) : Int)) = ((50 * i + k : Nat) : Int) from by rw [wrp_id (by omega) (by omega)]; omega]
                          refine qG.ild (m := 91000) rfl rfl (by omega) (by decide) ?_
                          show qG none (d + 1) 257 157 [(2, 95), (0, ((c : Nat) : Int)), (0, ((k9 : Nat) : Int)), (0, ((m2 : Nat) : Int)), (0, ((t : Nat) : Int)), (0, ((i : Nat) : Int)), (0, ((k : Nat) : Int))] [(0, w6 103 (50 * i + k)), (2, 117), (0, ((i : Nat) : Int)), (2, 118)] w6 142 Q9
                          rw [show w6 103 (50 * i + k) = ((nxF w0 i k : Nat) : Int) from (hI94.2.1.1 103 (50 * i + k) (by decide) (by decide) (fun z => by cases z.1)).trans (nx_e hA0.1 i k)]
                          refine qG.bld (m := 1820) rfl rfl (by omega) (by decide) ?_
                          show qG none (d + 1) 257 158 [(2, 95), (0, ((c : Nat) : Int)), (0, ((k9 : Nat) : Int)), (0, ((m2 : Nat) : Int)), (0, ((t : Nat) : Int)), (0, ((i : Nat) : Int)), (0, ((k : Nat) : Int))] [(0, w6 117 (nxF w0 i k)), (0, ((i : Nat) : Int)), (2, 118)] w6 142 Q9
                          rw [show w6 117 (nxF w0 i k) = b01 (cF w0 t (nxF w0 i k)) from hI94.2.2.1 _ hnx]
                          refine qG.bst (m := 1820) rfl rfl (by exact ⟨⟨by omega, by omega⟩, b01_in _⟩) (by decide) ?_
                          show qG none (d + 1) 257 159 [(2, 95), (0, ((c : Nat) : Int)), (0, ((k9 : Nat) : Int)), (0, ((m2 : Nat) : Int)), (0, ((t : Nat) : Int)), (0, ((i : Nat) : Int)), (0, ((k : Nat) : Int))] [] (qup w6 118 i (b01 (cF w0 t (nxF w0 i k)))) 142 Q9
                          refine qG.blk 1 (pc' := 162) (ls' := [(2, 95), (0, ((c : Nat) : Int)), (0, ((k9 : Nat) : Int)), (0, ((m2 : Nat) : Int)), (0, ((t : Nat) : Int)), (0, ((i : Nat) : Int)), (0, wrp (((k : Nat) : Int) + 1))]) (st' := []) (w' := (qup w6 118 i (b01 (cF w0 t (nxF w0 i k))))) (n' := 142) rfl ?_
                          rw [show wrp (((k : Nat) : Int) + 1) = ((k + 1 : Nat) : Int) from wrp_id (by omega) (by omega)]
                          refine qG.blk 1 (pc' := 94) (ls' := [(2, 95), (0, ((c : Nat) : Int)), (0, ((k9 : Nat) : Int)), (0, ((m2 : Nat) : Int)), (0, ((t : Nat) : Int)), (0, ((i : Nat) : Int)), (0, ((k + 1 : Nat) : Int))]) (st' := []) (w' := (qup w6 118 i (b01 (cF w0 t (nxF w0 i k))))) (n' := 142) rfl ?_
                          exact ih94 _ (by omega) (k + 1) ((qup w6 118 i (b01 (cF w0 t (nxF w0 i k))))) rfl (⟨by rw [qup_ne (by decide)]; exact hF94, ⟨by omega, hdW.u118 hI94.2.1 (b01_in _), fun j hj => by rw [qup_ne (by decide)]; exact hI94.2.2.1 j hj, rows.ke (f := fun j => b01 (cF w0 (t + 1) j)) hI94.2.2.2.1 (Nat.le_refl _), by rw [qup_k]; exact hd_S hcl (b01_0 htn)⟩⟩)
                        · skip
                          have hE := hd_E (t := t) hA0.1 hI94.1 (.inr (.inr (decide_eq_false hcl)))
                          refine qG.blk 3 (pc' := 170) (ls' := [(2, 95), (0, ((c : Nat) : Int)), (0, ((k9 : Nat) : Int)), (0, ((m2 : Nat) : Int)), (0, ((t : Nat) : Int)), (0, ((i : Nat) : Int)), (0, ((k : Nat) : Int))]) (st' := [(2, w6 95 45), (0, ((m2 : Nat) : Int))]) (w' := w6) (n' := 142) rfl ?_
                          rw [show w6 95 45 = 118 from zref hI94.2.1.2 rfl rfl]
                          refine qG.blk 1 (pc' := 172) (ls' := [(2, 95), (0, ((c : Nat) : Int)), (0, ((k9 : Nat) : Int)), (0, ((m2 : Nat) : Int)), (0, ((t : Nat) : Int)), (0, ((i : Nat) : Int)), (0, ((k : Nat) : Int))]) (st' := [(0, ((i : Nat) : Int)), (2, 118), (0, ((m2 : Nat) : Int))]) (w' := w6) (n' := 142) rfl ?_
                          refine qG.bld (m := 1820) rfl rfl (by omega) (by decide) ?_
                          show qG none (d + 1) 257 173 [(2, 95), (0, ((c : Nat) : Int)), (0, ((k9 : Nat) : Int)), (0, ((m2 : Nat) : Int)), (0, ((t : Nat) : Int)), (0, ((i : Nat) : Int)), (0, ((k : Nat) : Int))] [(0, w6 118 i), (0, ((m2 : Nat) : Int))] w6 142 Q9
                          rw [show w6 118 i = b01 (clF w0 t i && anyF (cF w0 t) (nxF w0 i) k) from hI94.2.2.2.2]
                          refine qG.br (P := b01 (clF w0 t i && anyF (cF w0 t) (nxF w0 i) k) = 0) (pc1 := 180) (pc2 := 176) (st1 := [(0, ((m2 : Nat) : Int))]) rfl (fun hth => ?_) (fun hth => ?_)
                          · skip
                            refine qG.blk 2 (pc' := 182) (ls' := [(2, 95), (0, ((c : Nat) : Int)), (0, ((k9 : Nat) : Int)), (0, ((m2 : Nat) : Int)), (0, ((t : Nat) : Int)), (0, ((i : Nat) : Int)), (0, ((k : Nat) : Int))]) (st' := [(0, wrp (((m2 : Nat) : Int) + 0))]) (w' := w6) (n' := 142) rfl ?_
                            rw [show wrp (((m2 : Nat) : Int) + 0) = ((m2 + 0 : Nat) : Int) from by rw [wrp_id (by omega) (by omega)]; omega]
                            refine qG.blk 2 (pc' := 186) (ls' := [(2, 95), (0, ((c : Nat) : Int)), (0, ((k9 : Nat) : Int)), (0, ((m2 + 0 : Nat) : Int)), (0, ((t : Nat) : Int)), (0, wrp (((i : Nat) : Int) + 1)), (0, ((k : Nat) : Int))]) (st' := []) (w' := w6) (n' := 142) rfl ?_
                            rw [show wrp (((i : Nat) : Int) + 1) = ((i + 1 : Nat) : Int) from wrp_id (by omega) (by omega)]
                            refine qG.blk 1 (pc' := 74) (ls' := [(2, 95), (0, ((c : Nat) : Int)), (0, ((k9 : Nat) : Int)), (0, ((m2 + 0 : Nat) : Int)), (0, ((t : Nat) : Int)), (0, ((i + 1 : Nat) : Int)), (0, ((k : Nat) : Int))]) (st' := []) (w' := w6) (n' := 142) rfl ?_
                            exact ih74 _ (by omega) (i + 1) (m2 + 0) (w6) ((0, ((k : Nat) : Int))) rfl (⟨hF94, ⟨by omega, hI94.2.1, hI94.2.2.1, rows.e1 (f := fun j => b01 (cF w0 (t + 1) j)) hI94.2.2.2.1 (by rw [hI94.2.2.2.2, hE]), by first | (rw [cntF_n (by rw [← hE]; exact b01_0 hth)]; omega) | (rw [cntF_y (by rw [← hE]; exact b01_1 hth)]; omega), by omega⟩⟩)
                          · skip
                            refine qG.blk 3 (pc' := 182) (ls' := [(2, 95), (0, ((c : Nat) : Int)), (0, ((k9 : Nat) : Int)), (0, ((m2 : Nat) : Int)), (0, ((t : Nat) : Int)), (0, ((i : Nat) : Int)), (0, ((k : Nat) : Int))]) (st' := [(0, wrp (((m2 : Nat) : Int) + 1))]) (w' := w6) (n' := 142) rfl ?_
                            rw [show wrp (((m2 : Nat) : Int) + 1) = ((m2 + 1 : Nat) : Int) from by rw [wrp_id (by omega) (by omega)]; omega]
                            refine qG.blk 2 (pc' := 186) (ls' := [(2, 95), (0, ((c : Nat) : Int)), (0, ((k9 : Nat) : Int)), (0, ((m2 + 1 : Nat) : Int)), (0, ((t : Nat) : Int)), (0, wrp (((i : Nat) : Int) + 1)), (0, ((k : Nat) : Int))]) (st' := []) (w' := w6) (n' := 142) rfl ?_
                            rw [show wrp (((i : Nat) : Int) + 1) = ((i + 1 : Nat) : Int) from wrp_id (by omega) (by omega)]
                            refine qG.blk 1 (pc' := 74) (ls' := [(2, 95), (0, ((c : Nat) : Int)), (0, ((k9 : Nat) : Int)), (0, ((m2 + 1 : Nat) : Int)), (0, ((t : Nat) : Int)), (0, ((i + 1 : Nat) : Int)), (0, ((k : Nat) : Int))]) (st' := []) (w' := w6) (n' := 142) rfl ?_
                            exact ih74 _ (by omega) (i + 1) (m2 + 1) (w6) ((0, ((k : Nat) : Int))) rfl (⟨hF94, ⟨by omega, hI94.2.1, hI94.2.2.1, rows.e1 (f := fun j => b01 (cF w0 (t + 1) j)) hI94.2.2.2.1 (by rw [hI94.2.2.2.2, hE]), by first | (rw [cntF_n (by rw [← hE]; exact b01_0 hth)]; omega) | (rw [cntF_y (by rw [← hE]; exact b01_1 hth)]; omega), by omega⟩⟩)
                      · skip
                        have hE := hd_E (t := t) hA0.1 hI94.1 (.inr (.inl (b01_1 htn)))
                        refine qG.blk 3 (pc' := 170) (ls' := [(2, 95), (0, ((c : Nat) : Int)), (0, ((k9 : Nat) : Int)), (0, ((m2 : Nat) : Int)), (0, ((t : Nat) : Int)), (0, ((i : Nat) : Int)), (0, ((k : Nat) : Int))]) (st' := [(2, w6 95 45), (0, ((m2 : Nat) : Int))]) (w' := w6) (n' := 142) rfl ?_
                        rw [show w6 95 45 = 118 from zref hI94.2.1.2 rfl rfl]
                        refine qG.blk 1 (pc' := 172) (ls' := [(2, 95), (0, ((c : Nat) : Int)), (0, ((k9 : Nat) : Int)), (0, ((m2 : Nat) : Int)), (0, ((t : Nat) : Int)), (0, ((i : Nat) : Int)), (0, ((k : Nat) : Int))]) (st' := [(0, ((i : Nat) : Int)), (2, 118), (0, ((m2 : Nat) : Int))]) (w' := w6) (n' := 142) rfl ?_
                        refine qG.bld (m := 1820) rfl rfl (by omega) (by decide) ?_
                        show qG none (d + 1) 257 173 [(2, 95), (0, ((c : Nat) : Int)), (0, ((k9 : Nat) : Int)), (0, ((m2 : Nat) : Int)), (0, ((t : Nat) : Int)), (0, ((i : Nat) : Int)), (0, ((k : Nat) : Int))] [(0, w6 118 i), (0, ((m2 : Nat) : Int))] w6 142 Q9
                        rw [show w6 118 i = b01 (clF w0 t i && anyF (cF w0 t) (nxF w0 i) k) from hI94.2.2.2.2]
                        refine qG.br (P := b01 (clF w0 t i && anyF (cF w0 t) (nxF w0 i) k) = 0) (pc1 := 180) (pc2 := 176) (st1 := [(0, ((m2 : Nat) : Int))]) rfl (fun hth => ?_) (fun hth => ?_)
                        · skip
                          refine qG.blk 2 (pc' := 182) (ls' := [(2, 95), (0, ((c : Nat) : Int)), (0, ((k9 : Nat) : Int)), (0, ((m2 : Nat) : Int)), (0, ((t : Nat) : Int)), (0, ((i : Nat) : Int)), (0, ((k : Nat) : Int))]) (st' := [(0, wrp (((m2 : Nat) : Int) + 0))]) (w' := w6) (n' := 142) rfl ?_
                          rw [show wrp (((m2 : Nat) : Int) + 0) = ((m2 + 0 : Nat) : Int) from by rw [wrp_id (by omega) (by omega)]; omega]
                          refine qG.blk 2 (pc' := 186) (ls' := [(2, 95), (0, ((c : Nat) : Int)), (0, ((k9 : Nat) : Int)), (0, ((m2 + 0 : Nat) : Int)), (0, ((t : Nat) : Int)), (0, wrp (((i : Nat) : Int) + 1)), (0, ((k : Nat) : Int))]) (st' := []) (w' := w6) (n' := 142) rfl ?_
                          rw [show wrp (((i : Nat) : Int) + 1) = ((i + 1 : Nat) : Int) from wrp_id (by omega) (by omega)]
                          refine qG.blk 1 (pc' := 74) (ls' := [(2, 95), (0, ((c : Nat) : Int)), (0, ((k9 : Nat) : Int)), (0, ((m2 + 0 : Nat) : Int)), (0, ((t : Nat) : Int)), (0, ((i + 1 : Nat) : Int)), (0, ((k : Nat) : Int))]) (st' := []) (w' := w6) (n' := 142) rfl ?_
                          exact ih74 _ (by omega) (i + 1) (m2 + 0) (w6) ((0, ((k : Nat) : Int))) rfl (⟨hF94, ⟨by omega, hI94.2.1, hI94.2.2.1, rows.e1 (f := fun j => b01 (cF w0 (t + 1) j)) hI94.2.2.2.1 (by rw [hI94.2.2.2.2, hE]), by first | (rw [cntF_n (by rw [← hE]; exact b01_0 hth)]; omega) | (rw [cntF_y (by rw [← hE]; exact b01_1 hth)]; omega), by omega⟩⟩)
                        · skip
                          refine qG.blk 3 (pc' := 182) (ls' := [(2, 95), (0, ((c : Nat) : Int)), (0, ((k9 : Nat) : Int)), (0, ((m2 : Nat) : Int)), (0, ((t : Nat) : Int)), (0, ((i : Nat) : Int)), (0, ((k : Nat) : Int))]) (st' := [(0, wrp (((m2 : Nat) : Int) + 1))]) (w' := w6) (n' := 142) rfl ?_
                          rw [show wrp (((m2 : Nat) : Int) + 1) = ((m2 + 1 : Nat) : Int) from by rw [wrp_id (by omega) (by omega)]; omega]
                          refine qG.blk 2 (pc' := 186) (ls' := [(2, 95), (0, ((c : Nat) : Int)), (0, ((k9 : Nat) : Int)), (0, ((m2 + 1 : Nat) : Int)), (0, ((t : Nat) : Int)), (0, wrp (((i : Nat) : Int) + 1)), (0, ((k : Nat) : Int))]) (st' := []) (w' := w6) (n' := 142) rfl ?_
                          rw [show wrp (((i : Nat) : Int) + 1) = ((i + 1 : Nat) : Int) from wrp_id (by omega) (by omega)]
                          refine qG.blk 1 (pc' := 74) (ls' := [(2, 95), (0, ((c : Nat) : Int)), (0, ((k9 : Nat) : Int)), (0, ((m2 + 1 : Nat) : Int)), (0, ((t : Nat) : Int)), (0, ((i + 1 : Nat) : Int)), (0, ((k : Nat) : Int))]) (st' := []) (w' := w6) (n' := 142) rfl ?_
                          exact ih74 _ (by omega) (i + 1) (m2 + 1) (w6) ((0, ((k : Nat) : Int))) rfl (⟨hF94, ⟨by omega, hI94.2.1, hI94.2.2.1, rows.e1 (f := fun j => b01 (cF w0 (t + 1) j)) hI94.2.2.2.1 (by rw [hI94.2.2.2.2, hE]), by first | (rw [cntF_n (by rw [← hE]; exact b01_0 hth)]; omega) | (rw [cntF_y (by rw [← hE]; exact b01_1 hth)]; omega), by omega⟩⟩)
                    · skip
                      have hE := hd_E (t := t) hA0.1 hI94.1 (.inl hkm)
                      refine qG.blk 3 (pc' := 170) (ls' := [(2, 95), (0, ((c : Nat) : Int)), (0, ((k9 : Nat) : Int)), (0, ((m2 : Nat) : Int)), (0, ((t : Nat) : Int)), (0, ((i : Nat) : Int)), (0, ((k : Nat) : Int))]) (st' := [(2, w6 95 45), (0, ((m2 : Nat) : Int))]) (w' := w6) (n' := 142) rfl ?_
                      rw [show w6 95 45 = 118 from zref hI94.2.1.2 rfl rfl]
                      refine qG.blk 1 (pc' := 172) (ls' := [(2, 95), (0, ((c : Nat) : Int)), (0, ((k9 : Nat) : Int)), (0, ((m2 : Nat) : Int)), (0, ((t : Nat) : Int)), (0, ((i : Nat) : Int)), (0, ((k : Nat) : Int))]) (st' := [(0, ((i : Nat) : Int)), (2, 118), (0, ((m2 : Nat) : Int))]) (w' := w6) (n' := 142) rfl ?_
                      refine qG.bld (m := 1820) rfl rfl (by omega) (by decide) ?_
                      show qG none (d + 1) 257 173 [(2, 95), (0, ((c : Nat) : Int)), (0, ((k9 : Nat) : Int)), (0, ((m2 : Nat) : Int)), (0, ((t : Nat) : Int)), (0, ((i : Nat) : Int)), (0, ((k : Nat) : Int))] [(0, w6 118 i), (0, ((m2 : Nat) : Int))] w6 142 Q9
                      rw [show w6 118 i = b01 (clF w0 t i && anyF (cF w0 t) (nxF w0 i) k) from hI94.2.2.2.2]
                      refine qG.br (P := b01 (clF w0 t i && anyF (cF w0 t) (nxF w0 i) k) = 0) (pc1 := 180) (pc2 := 176) (st1 := [(0, ((m2 : Nat) : Int))]) rfl (fun hth => ?_) (fun hth => ?_)
                      · skip
                        refine qG.blk 2 (pc' := 182) (ls' := [(2, 95), (0, ((c : Nat) : Int)), (0, ((k9 : Nat) : Int)), (0, ((m2 : Nat) : Int)), (0, ((t : Nat) : Int)), (0, ((i : Nat) : Int)), (0, ((k : Nat) : Int))]) (st' := [(0, wrp (((m2 : Nat) : Int) + 0))]) (w' := w6) (n' := 142) rfl ?_
                        rw [show wrp (((m2 : Nat) : Int) + 0) = ((m2 + 0 : Nat) : Int) from by rw [wrp_id (by omega) (by omega)]; omega]
                        refine qG.blk 2 (pc' := 186) (ls' := [(2, 95), (0, ((c : Nat) : Int)), (0, ((k9 : Nat) : Int)), (0, ((m2 + 0 : Nat) : Int)), (0, ((t : Nat) : Int)), (0, wrp (((i : Nat) : Int) + 1)), (0, ((k : Nat) : Int))]) (st' := []) (w' := w6) (n' := 142) rfl ?_
                        rw [show wrp (((i : Nat) : Int) + 1) = ((i + 1 : Nat) : Int) from wrp_id (by omega) (by omega)]
                        refine qG.blk 1 (pc' := 74) (ls' := [(2, 95), (0, ((c : Nat) : Int)), (0, ((k9 : Nat) : Int)), (0, ((m2 + 0 : Nat) : Int)), (0, ((t : Nat) : Int)), (0, ((i + 1 : Nat) : Int)), (0, ((k : Nat) : Int))]) (st' := []) (w' := w6) (n' := 142) rfl ?_
                        exact ih74 _ (by omega) (i + 1) (m2 + 0) (w6) ((0, ((k : Nat) : Int))) rfl (⟨hF94, ⟨by omega, hI94.2.1, hI94.2.2.1, rows.e1 (f := fun j => b01 (cF w0 (t + 1) j)) hI94.2.2.2.1 (by rw [hI94.2.2.2.2, hE]), by first | (rw [cntF_n (by rw [← hE]; exact b01_0 hth)]; omega) | (rw [cntF_y (by rw [← hE]; exact b01_1 hth)]; omega), by omega⟩⟩)
                      · skip
                        refine qG.blk 3 (pc' := 182) (ls' := [(2, 95), (0, ((c : Nat) : Int)), (0, ((k9 : Nat) : Int)), (0, ((m2 : Nat) : Int)), (0, ((t : Nat) : Int)), (0, ((i : Nat) : Int)), (0, ((k : Nat) : Int))]) (st' := [(0, wrp (((m2 : Nat) : Int) + 1))]) (w' := w6) (n' := 142) rfl ?_
                        rw [show wrp (((m2 : Nat) : Int) + 1) = ((m2 + 1 : Nat) : Int) from by rw [wrp_id (by omega) (by omega)]; omega]
                        refine qG.blk 2 (pc' := 186) (ls' := [(2, 95), (0, ((c : Nat) : Int)), (0, ((k9 : Nat) : Int)), (0, ((m2 + 1 : Nat) : Int)), (0, ((t : Nat) : Int)), (0, wrp (((i : Nat) : Int) + 1)), (0, ((k : Nat) : Int))]) (st' := []) (w' := w6) (n' := 142) rfl ?_
                        rw [show wrp (((i : Nat) : Int) + 1) = ((i + 1 : Nat) : Int) from wrp_id (by omega) (by omega)]
                        refine qG.blk 1 (pc' := 74) (ls' := [(2, 95), (0, ((c : Nat) : Int)), (0, ((k9 : Nat) : Int)), (0, ((m2 + 1 : Nat) : Int)), (0, ((t : Nat) : Int)), (0, ((i + 1 : Nat) : Int)), (0, ((k : Nat) : Int))]) (st' := []) (w' := w6) (n' := 142) rfl ?_
                        exact ih74 _ (by omega) (i + 1) (m2 + 1) (w6) ((0, ((k : Nat) : Int))) rfl (⟨hF94, ⟨by omega, hI94.2.1, hI94.2.2.1, rows.e1 (f := fun j => b01 (cF w0 (t + 1) j)) hI94.2.2.2.1 (by rw [hI94.2.2.2.2, hE]), by first | (rw [cntF_n (by rw [← hE]; exact b01_0 hth)]; omega) | (rw [cntF_y (by rw [← hE]; exact b01_1 hth)]; omega), by omega⟩⟩)
                  exact L94_1 _ (0) ((qup w7 118 i 0)) rfl (⟨by rw [qup_ne (by decide)]; exact hF74, ⟨by omega, hdW.u118 hI74.2.1 (by decide), fun j hj => by rw [qup_ne (by decide)]; exact hI74.2.2.1 j hj, rows.ke (f := fun j => b01 (cF w0 (t + 1) j)) hI74.2.2.2.1 (Nat.le_refl _), by rw [qup_k]; show (0 : Int) = b01 (_ && false); rw [Bool.and_false]; rfl⟩⟩)
                · skip
                  refine qG.blk 1 (pc' := 190) (ls' := [(2, 95), (0, ((c : Nat) : Int)), (0, ((k9 : Nat) : Int)), (0, ((m2 : Nat) : Int)), (0, ((t : Nat) : Int)), (0, ((i : Nat) : Int)), x6]) (st' := [(0, ((m2 : Nat) : Int))]) (w' := w7) (n' := 142) rfl ?_
                  refine qG.br (P := ((m2 : Nat) : Int) = 0) (pc1 := 193) (pc2 := 199) (st1 := []) rfl (fun hz => ?_) (fun hz => ?_)
                  · skip
                    refine qG.blk 5 (pc' := 202) (ls' := [(2, 95), (0, ((c : Nat) : Int)), (0, ((k9 : Nat) : Int)), (0, ((m2 : Nat) : Int)), (0, ((t : Nat) : Int)), (0, 0), x6]) (st' := []) (w' := (qup w7 95 46 ((t : Nat) : Int))) (n' := 142) rfl ?_
                    have L202_2 : ∀ (m9 : Nat) (i2 : Nat) (w5 : qW), N - i2 = m9 → ((w5 95 46 = (if m2 = 0 then (t : Int) else -1)) ∧ (i2 ≤ N ∧ hdW w0 w5 ∧ (∀ j, j < N → w5 118 j = b01 (cF w0 (t + 1) j)) ∧ (∀ j, j < i2 → w5 117 j = b01 (cF w0 (t + 1) j)))) → qG none (d + 1) 257 202 [(2, 95), (0, ((c : Nat) : Int)), (0, ((k9 : Nat) : Int)), (0, ((m2 : Nat) : Int)), (0, ((t : Nat) : Int)), (0, ((i2 : Nat) : Int)), x6] [] w5 142 Q9 := by
                      intro m9
                      induction m9 using Nat.strongRecOn with
                      | ind m9 ih202 =>
                      intro i2 w5 hm202 hI202
                      obtain ⟨hF202, hI202⟩ := hI202
                      refine qG.blk 3 (pc' := 208) (ls' := [(2, 95), (0, ((c : Nat) : Int)), (0, ((k9 : Nat) : Int)), (0, ((m2 : Nat) : Int)), (0, ((t : Nat) : Int)), (0, ((i2 : Nat) : Int)), x6]) (st' := [(0, w5 95 8), (0, ((i2 : Nat) : Int))]) (w' := w5) (n' := 142) rfl ?_
                      rw [show w5 95 8 = ((N : Nat) : Int) from (hI202.2.1.1 95 (8) (by decide) (by decide) (fun z => by cases z.2)).trans hN]
                      refine qG.br (P := ((i2 : Nat) : Int) < ((N : Nat) : Int)) (pc1 := 211) (pc2 := 231) (st1 := []) rfl (fun h6 => ?_) (fun h6 => ?_)
                      · skip
                        refine qG.blk 2 (pc' := 215) (ls' := [(2, 95), (0, ((c : Nat) : Int)), (0, ((k9 : Nat) : Int)), (0, ((m2 : Nat) : Int)), (0, ((t : Nat) : Int)), (0, ((i2 : Nat) : Int)), x6]) (st' := [(2, w5 95 44)]) (w' := w5) (n' := 142) rfl ?_
                        rw [show w5 95 44 = 117 from zref hI202.2.1.2 rfl rfl]
                        refine qG.blk 3 (pc' := 221) (ls' := [(2, 95), (0, ((c : Nat) : Int)), (0, ((k9 : Nat) : Int)), (0, ((m2 : Nat) : Int)), (0, ((t : Nat) : Int)), (0, ((i2 : Nat) : Int)), x6]) (st' := [(2, w5 95 45), (0, ((i2 : Nat) : Int)), (2, 117)]) (w' := w5) (n' := 142) rfl ?_
                        rw [show w5 95 45 = 118 from zref hI202.2.1.2 rfl rfl]
                        refine qG.blk 1 (pc' := 223) (ls' := [(2, 95), (0, ((c : Nat) : Int)), (0, ((k9 : Nat) : Int)), (0, ((m2 : Nat) : Int)), (0, ((t : Nat) : Int)), (0, ((i2 : Nat) : Int)), x6]) (st' := [(0, ((i2 : Nat) : Int)), (2, 118), (0, ((i2 : Nat) : Int)), (2, 117)]) (w' := w5) (n' := 142) rfl ?_
                        refine qG.bld (m := 1820) rfl rfl (by omega) (by decide) ?_
                        show qG none (d + 1) 257 224 [(2, 95), (0, ((c : Nat) : Int)), (0, ((k9 : Nat) : Int)), (0, ((m2 : Nat) : Int)), (0, ((t : Nat) : Int)), (0, ((i2 : Nat) : Int)), x6] [(0, w5 118 i2), (0, ((i2 : Nat) : Int)), (2, 117)] w5 142 Q9
                        rw [show w5 118 i2 = b01 (cF w0 (t + 1) i2) from hI202.2.2.1 _ (by omega)]
                        refine qG.bst (m := 1820) rfl rfl (by exact ⟨⟨by omega, by omega⟩, b01_in _⟩) (by decide) ?_
                        show qG none (d + 1) 257 225 [(2, 95), (0, ((c : Nat) : Int)), (0, ((k9 : Nat) : Int)), (0, ((m2 : Nat) : Int)), (0, ((t : Nat) : Int)), (0, ((i2 : Nat) : Int)), x6] [] (qup w5 117 i2 (b01 (cF w0 (t + 1) i2))) 142 Q9
                        refine qG.blk 1 (pc' := 228) (ls' := [(2, 95), (0, ((c : Nat) : Int)), (0, ((k9 : Nat) : Int)), (0, ((m2 : Nat) : Int)), (0, ((t : Nat) : Int)), (0, wrp (((i2 : Nat) : Int) + 1)), x6]) (st' := []) (w' := (qup w5 117 i2 (b01 (cF w0 (t + 1) i2)))) (n' := 142) rfl ?_
                        rw [show wrp (((i2 : Nat) : Int) + 1) = ((i2 + 1 : Nat) : Int) from wrp_id (by omega) (by omega)]
                        refine qG.blk 1 (pc' := 202) (ls' := [(2, 95), (0, ((c : Nat) : Int)), (0, ((k9 : Nat) : Int)), (0, ((m2 : Nat) : Int)), (0, ((t : Nat) : Int)), (0, ((i2 + 1 : Nat) : Int)), x6]) (st' := []) (w' := (qup w5 117 i2 (b01 (cF w0 (t + 1) i2)))) (n' := 142) rfl ?_
                        exact ih202 _ (by omega) (i2 + 1) ((qup w5 117 i2 (b01 (cF w0 (t + 1) i2)))) rfl (⟨by rw [qup_ne (by decide)]; exact hF202, ⟨by omega, hdW.u117 hI202.2.1 (b01_in _), fun j hj => by rw [qup_ne (by decide)]; exact hI202.2.2.1 j hj, rows.nx (f := fun j => b01 (cF w0 (t + 1) j)) hI202.2.2.2 rfl⟩⟩)
                      · skip
                        refine qG.blk 1 (pc' := 234) (ls' := [(2, 95), (0, ((c : Nat) : Int)), (0, ((k9 : Nat) : Int)), (0, ((m2 : Nat) : Int)), (0, wrp (((t : Nat) : Int) + 1)), (0, ((i2 : Nat) : Int)), x6]) (st' := []) (w' := w5) (n' := 142) rfl ?_
                        rw [show wrp (((t : Nat) : Int) + 1) = ((t + 1 : Nat) : Int) from wrp_id (by omega) (by omega)]
                        refine qG.blk 1 (pc' := 56) (ls' := [(2, 95), (0, ((c : Nat) : Int)), (0, ((k9 : Nat) : Int)), (0, ((m2 : Nat) : Int)), (0, ((t + 1 : Nat) : Int)), (0, ((i2 : Nat) : Int)), x6]) (st' := []) (w' := w5) (n' := 142) rfl ?_
                        exact ih56 _ (by omega) (t + 1) (m2) (w5) ((0, ((i2 : Nat) : Int))) (x6) rfl (⟨⟨by rw [hF202]; (repeat' split) <;> omega, .inr (by rw [show t + 1 - 1 = t by omega, ← hI56.2.2.2]; omega)⟩, ⟨by omega, hI202.2.1, fun j hj => hI202.2.2.2 j (by omega), by rw [hI74.2.2.2.2.1, show i = N by omega]⟩⟩)
                    exact L202_2 _ (0) ((qup w7 95 46 ((t : Nat) : Int))) rfl (⟨by first | (rw [qup_k, if_pos (by omega)]; done) | (rw [hF74, if_neg (by omega)]; done), ⟨by omega, by first | exact hI74.2.1 | exact hI74.2.1.u46 (by omega) (by omega), fun j hj => by first | exact hI74.2.2.2.1 j (by omega) | (rw [qup_ne (by decide)]; exact hI74.2.2.2.1 j (by omega)), fun j hj => absurd hj (Nat.not_lt_zero j)⟩⟩)
                  · skip
                    refine qG.blk 2 (pc' := 202) (ls' := [(2, 95), (0, ((c : Nat) : Int)), (0, ((k9 : Nat) : Int)), (0, ((m2 : Nat) : Int)), (0, ((t : Nat) : Int)), (0, 0), x6]) (st' := []) (w' := w7) (n' := 142) rfl ?_
                    have L202_3 : ∀ (m9 : Nat) (i2 : Nat) (w5 : qW), N - i2 = m9 → ((w5 95 46 = (if m2 = 0 then (t : Int) else -1)) ∧ (i2 ≤ N ∧ hdW w0 w5 ∧ (∀ j, j < N → w5 118 j = b01 (cF w0 (t + 1) j)) ∧ (∀ j, j < i2 → w5 117 j = b01 (cF w0 (t + 1) j)))) → qG none (d + 1) 257 202 [(2, 95), (0, ((c : Nat) : Int)), (0, ((k9 : Nat) : Int)), (0, ((m2 : Nat) : Int)), (0, ((t : Nat) : Int)), (0, ((i2 : Nat) : Int)), x6] [] w5 142 Q9 := by
                      intro m9
                      induction m9 using Nat.strongRecOn with
                      | ind m9 ih202 =>
                      intro i2 w5 hm202 hI202
                      obtain ⟨hF202, hI202⟩ := hI202
                      refine qG.blk 3 (pc' := 208) (ls' := [(2, 95), (0, ((c : Nat) : Int)), (0, ((k9 : Nat) : Int)), (0, ((m2 : Nat) : Int)), (0, ((t : Nat) : Int)), (0, ((i2 : Nat) : Int)), x6]) (st' := [(0, w5 95 8), (0, ((i2 : Nat) : Int))]) (w' := w5) (n' := 142) rfl ?_
                      rw [show w5 95 8 = ((N : Nat) : Int) from (hI202.2.1.1 95 (8) (by decide) (by decide) (fun z => by cases z.2)).trans hN]
                      refine qG.br (P := ((i2 : Nat) : Int) < ((N : Nat) : Int)) (pc1 := 211) (pc2 := 231) (st1 := []) rfl (fun h7 => ?_) (fun h7 => ?_)
                      · skip
                        refine qG.blk 2 (pc' := 215) (ls' := [(2, 95), (0, ((c : Nat) : Int)), (0, ((k9 : Nat) : Int)), (0, ((m2 : Nat) : Int)), (0, ((t : Nat) : Int)), (0, ((i2 : Nat) : Int)), x6]) (st' := [(2, w5 95 44)]) (w' := w5) (n' := 142) rfl ?_
                        rw [show w5 95 44 = 117 from zref hI202.2.1.2 rfl rfl]
                        refine qG.blk 3 (pc' := 221) (ls' := [(2, 95), (0, ((c : Nat) : Int)), (0, ((k9 : Nat) : Int)), (0, ((m2 : Nat) : Int)), (0, ((t : Nat) : Int)), (0, ((i2 : Nat) : Int)), x6]) (st' := [(2, w5 95 45), (0, ((i2 : Nat) : Int)), (2, 117)]) (w' := w5) (n' := 142) rfl ?_
                        rw [show w5 95 45 = 118 from zref hI202.2.1.2 rfl rfl]
                        refine qG.blk 1 (pc' := 223) (ls' := [(2, 95), (0, ((c : Nat) : Int)), (0, ((k9 : Nat) : Int)), (0, ((m2 : Nat) : Int)), (0, ((t : Nat) : Int)), (0, ((i2 : Nat) : Int)), x6]) (st' := [(0, ((i2 : Nat) : Int)), (2, 118), (0, ((i2 : Nat) : Int)), (2, 117)]) (w' := w5) (n' := 142) rfl ?_
                        refine qG.bld (m := 1820) rfl rfl (by omega) (by decide) ?_
                        show qG none (d + 1) 257 224 [(2, 95), (0, ((c : Nat) : Int)), (0, ((k9 : Nat) : Int)), (0, ((m2 : Nat) : Int)), (0, ((t : Nat) : Int)), (0, ((i2 : Nat) : Int)), x6] [(0, w5 118 i2), (0, ((i2 : Nat) : Int)), (2, 117)] w5 142 Q9
                        rw [show w5 118 i2 = b01 (cF w0 (t + 1) i2) from hI202.2.2.1 _ (by omega)]
                        refine qG.bst (m := 1820) rfl rfl (by exact ⟨⟨by omega, by omega⟩, b01_in _⟩) (by decide) ?_
                        show qG none (d + 1) 257 225 [(2, 95), (0, ((c : Nat) : Int)), (0, ((k9 : Nat) : Int)), (0, ((m2 : Nat) : Int)), (0, ((t : Nat) : Int)), (0, ((i2 : Nat) : Int)), x6] [] (qup w5 117 i2 (b01 (cF w0 (t + 1) i2))) 142 Q9
                        refine qG.blk 1 (pc' := 228) (ls' := [(2, 95), (0, ((c : Nat) : Int)), (0, ((k9 : Nat) : Int)), (0, ((m2 : Nat) : Int)), (0, ((t : Nat) : Int)), (0, wrp (((i2 : Nat) : Int) + 1)), x6]) (st' := []) (w' := (qup w5 117 i2 (b01 (cF w0 (t + 1) i2)))) (n' := 142) rfl ?_
                        rw [show wrp (((i2 : Nat) : Int) + 1) = ((i2 + 1 : Nat) : Int) from wrp_id (by omega) (by omega)]
                        refine qG.blk 1 (pc' := 202) (ls' := [(2, 95), (0, ((c : Nat) : Int)), (0, ((k9 : Nat) : Int)), (0, ((m2 : Nat) : Int)), (0, ((t : Nat) : Int)), (0, ((i2 + 1 : Nat) : Int)), x6]) (st' := []) (w' := (qup w5 117 i2 (b01 (cF w0 (t + 1) i2)))) (n' := 142) rfl ?_
                        exact ih202 _ (by omega) (i2 + 1) ((qup w5 117 i2 (b01 (cF w0 (t + 1) i2)))) rfl (⟨by rw [qup_ne (by decide)]; exact hF202, ⟨by omega, hdW.u117 hI202.2.1 (b01_in _), fun j hj => by rw [qup_ne (by decide)]; exact hI202.2.2.1 j hj, rows.nx (f := fun j => b01 (cF w0 (t + 1) j)) hI202.2.2.2 rfl⟩⟩)
                      · skip
                        refine qG.blk 1 (pc' := 234) (ls' := [(2, 95), (0, ((c : Nat) : Int)), (0, ((k9 : Nat) : Int)), (0, ((m2 : Nat) : Int)), (0, wrp (((t : Nat) : Int) + 1)), (0, ((i2 : Nat) : Int)), x6]) (st' := []) (w' := w5) (n' := 142) rfl ?_
                        rw [show wrp (((t : Nat) : Int) + 1) = ((t + 1 : Nat) : Int) from wrp_id (by omega) (by omega)]
                        refine qG.blk 1 (pc' := 56) (ls' := [(2, 95), (0, ((c : Nat) : Int)), (0, ((k9 : Nat) : Int)), (0, ((m2 : Nat) : Int)), (0, ((t + 1 : Nat) : Int)), (0, ((i2 : Nat) : Int)), x6]) (st' := []) (w' := w5) (n' := 142) rfl ?_
                        exact ih56 _ (by omega) (t + 1) (m2) (w5) ((0, ((i2 : Nat) : Int))) (x6) rfl (⟨⟨by rw [hF202]; (repeat' split) <;> omega, .inr (by rw [show t + 1 - 1 = t by omega, ← hI56.2.2.2]; omega)⟩, ⟨by omega, hI202.2.1, fun j hj => hI202.2.2.2 j (by omega), by rw [hI74.2.2.2.2.1, show i = N by omega]⟩⟩)
                    exact L202_3 _ (0) (w7) rfl (⟨by first | (rw [qup_k, if_pos (by omega)]; done) | (rw [hF74, if_neg (by omega)]; done), ⟨by omega, by first | exact hI74.2.1 | exact hI74.2.1.u46 (by omega) (by omega), fun j hj => by first | exact hI74.2.2.2.1 j (by omega) | (rw [qup_ne (by decide)]; exact hI74.2.2.2.1 j (by omega)), fun j hj => absurd hj (Nat.not_lt_zero j)⟩⟩)
              exact L74_1 _ (0) (0) (w8) (x6) rfl (⟨by rw [hF56.1]; (repeat' split) <;> omega, ⟨by omega, hI56.2.1, hI56.2.2.1, fun j hj => absurd hj (Nat.not_lt_zero j), rfl, by omega⟩⟩)
            · skip
              refine qG.blk 1 (pc' := 238) (ls' := [(2, 95), (0, ((c : Nat) : Int)), (0, ((k9 : Nat) : Int)), (0, ((m : Nat) : Int)), (0, ((t : Nat) : Int)), x5, x6]) (st' := [(0, ((m : Nat) : Int))]) (w' := w8) (n' := 142) rfl ?_
              refine qG.ret rfl rfl ?_
              subst hQ9
              exact ⟨rfl, w0, hfp, hA0, hS0, hI56.2.1, N, S, t, hN, hSS, hI56.1, by rw [hI56.2.2.2], by first | (left; omega) | (right; omega), by rw [← hI56.2.2.2]; exact hF56.1, fun _ => hF56.2⟩
          · skip
            refine qG.blk 1 (pc' := 238) (ls' := [(2, 95), (0, ((c : Nat) : Int)), (0, ((k9 : Nat) : Int)), (0, ((m : Nat) : Int)), (0, ((t : Nat) : Int)), x5, x6]) (st' := [(0, ((m : Nat) : Int))]) (w' := w8) (n' := 142) rfl ?_
            refine qG.ret rfl rfl ?_
            subst hQ9
            exact ⟨rfl, w0, hfp, hA0, hS0, hI56.2.1, N, S, t, hN, hSS, hI56.1, by rw [hI56.2.2.2], by first | (left; omega) | (right; omega), by rw [← hI56.2.2.2]; exact hF56.1, fun _ => hF56.2⟩
        exact L56_1 _ (0) (N) (w9) ((9, 0)) ((9, 0)) rfl (⟨⟨by rw [hF30]; (repeat' split) <;> omega, .inl rfl⟩, ⟨by omega, hI30.2.1, fun j hj => by rw [hI30.2.2 j (by omega)]; rfl, (cntF_all (fun _ => rfl) N).symm⟩⟩)
    exact L30_1 _ (0) ((qup w0 95 46 (-1))) rfl (⟨by rw [qup_k]; split <;> omega, ⟨by omega, hdW.u46 ⟨fun _ _ _ _ _ => rfl, hA0.1⟩ (by omega) (by omega), fun j hj => absurd hj (Nat.not_lt_zero j)⟩⟩)
theorem hidesF_sp {w0 w1 : qW} {c k N S t : Nat} {r : Int} (hI : yInv zgf zga zra zSp w0) (hT : TB 65536 w0 c k) (hN : w0 95 8 = (N : Int)) (hSS : t ≤ S) (hr : r = ((cntF (cF w0 t) N : Nat) : Int)) (ht : t = S ∨ cntF (cF w0 t) N = 0) (h46 : w1 95 46 = (if N = 0 then 0 else if cntF (cF w0 t) N = 0 then (t : Int) - 1 else -1)) (hmin : N ≠ 0 → t = 0 ∨ cntF (cF w0 (t - 1)) N ≠ 0) : HSP (pzN w0 c k) (pzP w0 c k) (pzM w0 c k) (w0 116) S (w1 95 46) r := by
  have eN : N = pzN w0 c k := by have := hT.1; rw [pzN_e]; omega
  clear hN
  revert hr ht h46 hmin
  rw [eN]
  intro hr ht h46 hmin
  have e : ∀ t, cntF (cF w0 t) (pzN w0 c k) = ctb (hz (pzN w0 c k) (pzP w0 c k) (pzM w0 c k) (w0 116) t) (pzN w0 c k) := fun t => by
    rw [cntF_c]
    exact ctb_congr (fun i hi => cF_hz hI hT t i hi)
  by_cases h0 : pzN w0 c k = 0
  · refine .inl ⟨h0, by rw [h46, if_pos h0], ?_⟩
    rw [hr, e]
    have : ctb (hz (pzN w0 c k) (pzP w0 c k) (pzM w0 c k) (w0 116) t) (pzN w0 c k) = 0 := by
      rw [ctb_0]; intro i hi; omega
    omega
  · refine .inr ⟨by omega, ?_⟩
    by_cases h1 : cntF (cF w0 t) (pzN w0 c k) = 0
    · have ht0 : t ≠ 0 := fun z => by
        rw [z] at h1
        have := cntF_all (f := cF w0 0) (fun _ => rfl) (pzN w0 c k)
        omega
      refine .inr ⟨t - 1, by omega, by rw [h46, if_neg h0, if_pos h1]; omega, by omega, ?_, ?_⟩
      · have q := (hmin h0).resolve_left ht0
        rw [e] at q
        exact fun z => q ((hz_c0 (Nat.le_refl _)).mpr z)
      · rw [show t - 1 + 1 = t by omega]
        rw [e] at h1
        exact (hz_c0 (Nat.le_refl _)).mp h1
    · have hts : t = S := ht.resolve_right h1
      refine .inl ⟨by rw [h46, if_neg h0, if_neg h1], by rw [hr, e, hts], ?_⟩
      rw [← hts]
      rw [e] at h1
      exact fun z => h1 ((hz_c0 (Nat.le_refl _)).mpr z)
/-! the class: seconds in which the same poses are unseen -/
/-- the class's table of poses and moves stands for N, P, M -/
noncomputable def CTB (N : Nat) (P : Nat → Int) (M : Nat → Nat → Bool) (w : qW) : Prop := N ≤ 180 ∧ w 24 3 = (N : Int) ∧ (∀ j, j < N → w 25 j = P j) ∧ ∀ i j, i < 180 → j < 192 → mb w i j = (decide (i < N) && (decide (j < N) && M i j))
theorem CTB.cg {N : Nat} {P : Nat → Int} {M : Nat → Nat → Bool} {w w1 : qW} (h : CTB N P M w) (e : ∀ q j, q = 24 ∨ q = 25 ∨ q = 26 → w1 q j = w q j) : CTB N P M w1 := ⟨h.1, (e 24 3 (.inl rfl)).trans h.2.1, fun j hj => (e 25 j (.inr (.inl rfl))).trans (h.2.2.1 j hj), fun i j hi hj => by unfold mb; rw [e 26 _ (.inr (.inr rfl))]; exact h.2.2.2 i j hi hj⟩
/-- the row p holds f -/
noncomputable def HOLD (w : qW) (p : Nat) (f : Nat → Bool) : Prop := ∀ j, j < 192 → sb w p j = f j
theorem HOLD.sp {N : Nat} {P : Nat → Int} {M : Nat → Nat → Bool} {w : qW} {p : Nat} {f : Nat → Bool} (hT : CTB N P M w) (h : HOLD w p f) (hf : ∀ j, ¬ j < N → f j = false) {j : Nat} (hj : j < 192) : spF w p j 192 = (decide (j < N) && exN (fun i => f i && M i j) N) := by
  rw [Bool.eq_iff_iff, spF_iff, Bool.and_eq_true, decide_eq_true_eq, exN_iff]
  have hN := hT.1
  constructor
  · rintro ⟨i, hi, h1, h2, h3⟩
    rw [hT.2.2.2 i j h2 hj, Bool.and_eq_true, Bool.and_eq_true, decide_eq_true_eq, decide_eq_true_eq] at h3
    rw [h i hi] at h1
    exact ⟨h3.2.1, i, h3.1, by rw [h1, h3.2.2]; rfl⟩
  · rintro ⟨hjN, i, hi, h2⟩
    rw [Bool.and_eq_true] at h2
    refine ⟨i, by omega, by rw [h i (by omega)]; exact h2.1, by omega, ?_⟩
    rw [hT.2.2.2 i j (by omega) hj, decide_eq_true hi, decide_eq_true hjN, h2.2]; rfl
/-- what stayUnseen leaves, from the second t on, s seconds -/
noncomputable def SUX (N : Nat) (P : Nat → Int) (M : Nat → Nat → Bool) (V : Nat → Int) (t s : Nat) (w : qW) (r : qV) (w1 : qW) : Prop := (∀ q j, q ≠ 27 → q ≠ 28 → w1 q j = w q j) ∧ yInv zgf zga zra zSp w1 ∧ ((r = (0, (s : Int)) ∧ HOLD w1 27 (hz N P M V (t + s)) ∧ ¬ hzE (hz N P M V (t + s))) ∨ ∃ i : Nat, i < s ∧ r = (0, (i : Int)) ∧ HOLD w1 27 (fun _ => false) ∧ ¬ hzE (hz N P M V (t + i)) ∧ hzE (hz N P M V (t + i + 1)))
theorem hz_st {N : Nat} {P : Nat → Int} {M : Nat → Nat → Bool} {V : Nat → Int} {t s : Nat} {v : Int} (hN : N ≤ 180) (hV : ∀ u, u < s → V (t + u) = v) {i : Nat} (hi : i < s) (h : ∀ j, j < 192 → hz N P M V (t + i) j = hz N P M V (t + i + 1) j) : ∀ u, i + u ≤ s → hz N P M V (t + i + u) = hz N P M V (t + i)
  | 0, _ => rfl
  | u + 1, hu => by
    have ih := hz_st hN hV hi h u (by omega)
    have e : hz N P M V (t + i) = hz N P M V (t + i + 1) := funext fun j => if q : j < 192 then h j q else (hz_N (by omega)).trans (hz_N (by omega)).symm
    refine Eq.trans (funext fun j => ?_) e.symm
    show hz N P M V ((t + i + u) + 1) j = hz N P M V ((t + i) + 1) j
    rw [hz_s, hz_s, ih, show t + i + u = t + (i + u) by omega, hV (i + u) (by omega), hV i hi]
theorem K_stayU {d : Nat} (hd : 3 ≤ d) (N : Nat) (P : Nat → Int) (M : Nat → Nat → Bool) (V : Nat → Int) (t s : Nat) (v : Int) (hs8 : s ≤ 2147483647) (hV : ∀ u, u < s → V (t + u) = v) (w : qW) (hI : yInv zgf zga zra zSp w) (hT : CTB N P M w) (h27 : HOLD w 27 (hz N P M V t)) (h29 : HOLD w 29 (fun j => decide (j < N) && decide (qand (P j) v = 0))) (hne0 : ¬ hzE (hz N P M V t)) : qG none d 36 0 [(2, 23), (0, ((s : Nat) : Int)), (9, 0)] [] w 142 (fun (r : qV) (w1 : qW) (n1 : Nat) => n1 = 142 ∧ SUX N P M V t s w r w1) := by
  generalize hQ9 : (fun (r : qV) (w1 : qW) (n1 : Nat) => n1 = 142 ∧ SUX N P M V t s w r w1) = Q9
  obtain ⟨d, rfl⟩ : ∃ d9, d = d9 + 1 := ⟨d - 1, by omega⟩
  refine qG.blk 2 (pc' := 2) (ls' := [(2, 23), (0, ((s : Nat) : Int)), (0, 0)]) (st' := []) (w' := w) (n' := 142) rfl ?_
  have L2 : ∀ (m9 : Nat) (i : Nat) (wS : qW), s - i = m9 → (i ≤ s ∧ (∀ q j, q ≠ 27 → q ≠ 28 → wS q j = w q j) ∧ yInv zgf zga zra zSp wS ∧ HOLD wS 27 (hz N P M V (t + i)) ∧ ¬ hzE (hz N P M V (t + i))) → qG none (d + 1) 36 2 [(2, 23), (0, ((s : Nat) : Int)), (0, ((i : Nat) : Int))] [] wS 142 Q9 := by
    intro m9
    induction m9 using Nat.strongRecOn with
    | ind m9 ih2 =>
    intro i wS hm2 hI2
    obtain ⟨his, hfr, hIS, hHS, hne⟩ := hI2
    have hTS := hT.cg (w1 := wS) (fun q j h => hfr q j (by omega) (by omega))
    have hF29 : ∀ j, j < 192 → sb wS 29 j = (decide (j < N) && decide (qand (P j) v = 0)) := fun j hj => by rw [show sb wS 29 j = sb w 29 j from by unfold sb; rw [hfr 29 _ (by decide) (by decide)]]; exact h29 j hj
    refine qG.blk 2 (pc' := 4) (ls' := [(2, 23), (0, ((s : Nat) : Int)), (0, ((i : Nat) : Int))]) (st' := [(0, ((s : Nat) : Int)), (0, ((i : Nat) : Int))]) (w' := wS) (n' := 142) rfl ?_
    refine qG.br (P := ((i : Nat) : Int) < ((s : Nat) : Int)) (pc1 := 7) (pc2 := 100) (st1 := []) rfl (fun hi4 => ?_) (fun hi4 => ?_)
    · skip
      refine qG.blk 2 (pc' := 11) (ls' := [(2, 23), (0, ((s : Nat) : Int)), (0, ((i : Nat) : Int))]) (st' := [(2, wS 23 0)]) (w' := wS) (n' := 142) rfl ?_
      rw [show wS 23 0 = 24 from zref hIS rfl rfl]
      refine qG.blk 2 (pc' := 15) (ls' := [(2, 23), (0, ((s : Nat) : Int)), (0, ((i : Nat) : Int))]) (st' := [(2, wS 23 1), (2, 24)]) (w' := wS) (n' := 142) rfl ?_
      rw [show wS 23 1 = 27 from zref hIS rfl rfl]
      refine qG.blk 2 (pc' := 19) (ls' := [(2, 23), (0, ((s : Nat) : Int)), (0, ((i : Nat) : Int))]) (st' := [(2, wS 23 2), (2, 27), (2, 24)]) (w' := wS) (n' := 142) rfl ?_
      rw [show wS 23 2 = 28 from zref hIS rfl rfl]
      refine qG.call (t := 101) (na := 3) (sk := 1) (md := 1) (ls1 := [(2, 24), (2, 27), (2, 28), (9, 0), (9, 0), (9, 0), (9, 0), (9, 0), (9, 0), (9, 0), (9, 0), (9, 0), (9, 0), (9, 0)]) (r1 := []) rfl rfl rfl rfl rfl (K_spread27_28 (by omega) wS hIS) ?_
      rintro _ wA _ ⟨rfl, rfl, hRA⟩
      have hTA := hTS.cg (w1 := wA) (fun q j h => hRA.2.1 q j (by omega))
      have hA29 : ∀ j, sb wA 29 j = sb wS 29 j := fun j => hRA.o (by decide)
      have hA27 : ∀ j, sb wA 27 j = sb wS 27 j := fun j => hRA.o (by decide)
      have hIA := hRA.2.2
      show qG none (d + 1) 36 22 [(2, 23), (0, ((s : Nat) : Int)), (0, ((i : Nat) : Int))] [] wA 142 Q9
      refine qG.blk 2 (pc' := 26) (ls' := [(2, 23), (0, ((s : Nat) : Int)), (0, ((i : Nat) : Int))]) (st' := [(2, wA 23 2)]) (w' := wA) (n' := 142) rfl ?_
      rw [show wA 23 2 = 28 from zref hIA rfl rfl]
      refine qG.blk 2 (pc' := 30) (ls' := [(2, 23), (0, ((s : Nat) : Int)), (0, ((i : Nat) : Int))]) (st' := [(2, wA 23 3), (2, 28)]) (w' := wA) (n' := 142) rfl ?_
      rw [show wA 23 3 = 29 from zref hIA rfl rfl]
      refine qG.blk 2 (pc' := 34) (ls' := [(2, 23), (0, ((s : Nat) : Int)), (0, ((i : Nat) : Int))]) (st' := [(2, wA 23 2), (2, 29), (2, 28)]) (w' := wA) (n' := 142) rfl ?_
      rw [show wA 23 2 = 28 from zref hIA rfl rfl]
      refine qG.call (t := 49) (na := 3) (sk := 0) (md := 0) (ls1 := [(2, 28), (2, 29), (2, 28), (9, 0)]) (r1 := []) rfl rfl rfl rfl rfl (K_keep28_29_28 (by omega) wA hIA) ?_
      rintro _ wB _ ⟨rfl, rfl, hRB⟩
      have hIB := hRB.2.2
      have hB28 : ∀ j, j < 192 → sb wB 28 j = hz N P M V (t + i + 1) j := fun j hj => by
        rw [hRB.1 j hj]
        show (sb wA 28 j && sb wA 29 j) = _
        rw [show sb wA 28 j = spF wS 27 j 192 from hRA.1 j hj, hHS.sp hTS (fun j hj => hz_N hj) hj, hA29, hF29 j hj, hz_s, hV i (by omega)]
        cases decide (j < N) <;> cases decide (qand (P j) v = 0) <;> simp only [Bool.false_and, Bool.true_and, Bool.and_false, Bool.and_true]
      have hB27 : ∀ j, j < 192 → sb wB 27 j = hz N P M V (t + i) j := fun j hj => by rw [hRB.o (by decide), hA27, hHS j hj]
      have hB29 : ∀ j, sb wB 29 j = sb wS 29 j := fun j => by rw [hRB.o (by decide), hA29]
      show qG none (d + 1) 36 37 [(2, 23), (0, ((s : Nat) : Int)), (0, ((i : Nat) : Int))] [] wB 142 Q9
      refine qG.blk 2 (pc' := 41) (ls' := [(2, 23), (0, ((s : Nat) : Int)), (0, ((i : Nat) : Int))]) (st' := [(2, wB 23 1)]) (w' := wB) (n' := 142) rfl ?_
      rw [show wB 23 1 = 27 from zref hIB rfl rfl]
      refine qG.blk 2 (pc' := 45) (ls' := [(2, 23), (0, ((s : Nat) : Int)), (0, ((i : Nat) : Int))]) (st' := [(2, wB 23 2), (2, 27)]) (w' := wB) (n' := 142) rfl ?_
      rw [show wB 23 2 = 28 from zref hIB rfl rfl]
      refine qG.call (t := 50) (na := 2) (sk := 0) (md := 0) (ls1 := [(2, 27), (2, 28), (9, 0)]) (r1 := []) rfl rfl rfl rfl rfl (K_isSame (by omega) wB hIB) ?_
      rintro _ w7 _ ⟨hw7, rfl, ⟨rfl, hsm⟩ | ⟨rfl, hsm⟩⟩ <;> rw [hw7]
      · skip
        show qG none (d + 1) 36 48 [(2, 23), (0, ((s : Nat) : Int)), (0, ((i : Nat) : Int))] [(0, 1)] wB 142 Q9
        refine qG.br (P := (1 : Int) = 0) (pc1 := 67) (pc2 := 51) (st1 := []) rfl (fun h1 => ?_) (fun h1 => ?_)
        · exact absurd h1 (by decide)
        · skip
          refine qG.blk 2 (pc' := 55) (ls' := [(2, 23), (0, ((s : Nat) : Int)), (0, ((i : Nat) : Int))]) (st' := [(2, wB 23 1)]) (w' := wB) (n' := 142) rfl ?_
          rw [show wB 23 1 = 27 from zref hIB rfl rfl]
          refine qG.call (t := 51) (na := 1) (sk := 0) (md := 0) (ls1 := [(2, 27)]) (r1 := []) rfl rfl rfl rfl rfl (K_isEmpty27 (by omega) wB) ?_
          rintro _ w7 _ ⟨rfl, hw7, rfl⟩
          rw [hw7, if_neg (fun z => hne (fun j => if q : j < 192 then (hB27 j q).symm.trans (ctb_0.mp z j q) else hz_N (by have := hTS.1; omega)))]
          show qG none (d + 1) 36 58 [(2, 23), (0, ((s : Nat) : Int)), (0, ((i : Nat) : Int))] [(0, 0)] wB 142 Q9
          refine qG.br (P := (0 : Int) = 0) (pc1 := 65) (pc2 := 61) (st1 := []) rfl (fun h2 => ?_) (fun h2 => ?_)
          · skip
            refine qG.blk 1 (pc' := 66) (ls' := [(2, 23), (0, ((s : Nat) : Int)), (0, ((i : Nat) : Int))]) (st' := [(0, ((s : Nat) : Int))]) (w' := wB) (n' := 142) rfl ?_
            refine qG.ret rfl rfl ?_
            subst hQ9
            have hst := hz_st (P := P) (M := M) hTS.1 hV (i := i) (by omega) (fun j hj => by rw [← hB27 j hj, ← hB28 j hj]; exact hsm j hj) (s - i) (by omega)
            rw [show t + i + (s - i) = t + s by omega] at hst
            refine ⟨rfl, fun q j a b => ((hRB.2.1 q j b).trans (hRA.2.1 q j b)).trans (hfr q j a b), hIB, .inl ⟨rfl, fun j hj => by rw [hst]; exact hB27 j hj, by rw [hst]; exact hne⟩⟩
          · exact absurd h2 (by decide)
      · skip
        show qG none (d + 1) 36 48 [(2, 23), (0, ((s : Nat) : Int)), (0, ((i : Nat) : Int))] [(0, 0)] wB 142 Q9
        refine qG.br (P := (0 : Int) = 0) (pc1 := 67) (pc2 := 51) (st1 := []) rfl (fun h3 => ?_) (fun h3 => ?_)
        · skip
          refine qG.blk 2 (pc' := 71) (ls' := [(2, 23), (0, ((s : Nat) : Int)), (0, ((i : Nat) : Int))]) (st' := [(2, wB 23 2)]) (w' := wB) (n' := 142) rfl ?_
          rw [show wB 23 2 = 28 from zref hIB rfl rfl]
          refine qG.blk 2 (pc' := 75) (ls' := [(2, 23), (0, ((s : Nat) : Int)), (0, ((i : Nat) : Int))]) (st' := [(2, wB 23 3), (2, 28)]) (w' := wB) (n' := 142) rfl ?_
          rw [show wB 23 3 = 29 from zref hIB rfl rfl]
          refine qG.blk 2 (pc' := 79) (ls' := [(2, 23), (0, ((s : Nat) : Int)), (0, ((i : Nat) : Int))]) (st' := [(2, wB 23 1), (2, 29), (2, 28)]) (w' := wB) (n' := 142) rfl ?_
          rw [show wB 23 1 = 27 from zref hIB rfl rfl]
          refine qG.call (t := 49) (na := 3) (sk := 0) (md := 0) (ls1 := [(2, 28), (2, 29), (2, 27), (9, 0)]) (r1 := []) rfl rfl rfl rfl rfl (K_keep28_29_27 (by omega) wB hIB) ?_
          rintro _ wC _ ⟨rfl, rfl, hRC⟩
          have hIC := hRC.2.2
          have hC27 : HOLD wC 27 (hz N P M V (t + i + 1)) := fun j hj => by
            rw [hRC.1 j hj]
            show (sb wB 28 j && sb wB 29 j) = _
            rw [hB28 j hj, hB29, hF29 j hj, hz_s]
            rw [hV i (by omega)]
            cases decide (j < N) <;> cases decide (qand (P j) v = 0) <;> simp only [Bool.false_and, Bool.true_and, Bool.and_false, Bool.and_true]
          have hC9 : ∀ q j, q ≠ 27 → q ≠ 28 → wC q j = wS q j := fun q j a b => (hRC.2.1 q j a).trans ((hRB.2.1 q j b).trans (hRA.2.1 q j b))
          show qG none (d + 1) 36 82 [(2, 23), (0, ((s : Nat) : Int)), (0, ((i : Nat) : Int))] [] wC 142 Q9
          refine qG.blk 2 (pc' := 86) (ls' := [(2, 23), (0, ((s : Nat) : Int)), (0, ((i : Nat) : Int))]) (st' := [(2, wC 23 1)]) (w' := wC) (n' := 142) rfl ?_
          rw [show wC 23 1 = 27 from zref hIC rfl rfl]
          refine qG.call (t := 51) (na := 1) (sk := 0) (md := 0) (ls1 := [(2, 27)]) (r1 := []) rfl rfl rfl rfl rfl (K_isEmpty27 (by omega) wC) ?_
          rintro _ w7 _ ⟨rfl, hw7, rfl⟩
          rw [hw7]
          show qG none (d + 1) 36 89 [(2, 23), (0, ((s : Nat) : Int)), (0, ((i : Nat) : Int))] [(0, (if ctb (fun j => sb wC 27 j) 192 = 0 then 1 else 0))] wC 142 Q9
          refine qG.br (P := (if ctb (fun j => sb wC 27 j) 192 = 0 then 1 else 0) = 0) (pc1 := 94) (pc2 := 92) (st1 := []) rfl (fun hem => ?_) (fun hem => ?_)
          · skip
            have hnE : ¬ hzE (hz N P M V (t + i + 1)) := fun z => by
              have y : ctb (fun j => sb wC 27 j) 192 = 0 := ctb_0.mpr (fun j hj => (hC27 j hj).trans (z j))
              rw [if_pos y] at hem; omega
            refine qG.blk 1 (pc' := 97) (ls' := [(2, 23), (0, ((s : Nat) : Int)), (0, wrp (((i : Nat) : Int) + 1))]) (st' := []) (w' := wC) (n' := 142) rfl ?_
            rw [show wrp (((i : Nat) : Int) + 1) = ((i + 1 : Nat) : Int) from wrp_id (by omega) (by omega)]
            refine qG.blk 1 (pc' := 2) (ls' := [(2, 23), (0, ((s : Nat) : Int)), (0, ((i + 1 : Nat) : Int))]) (st' := []) (w' := wC) (n' := 142) rfl ?_
            exact ih2 _ (by omega) (i + 1) (wC) rfl (⟨by omega, fun q j a b => (hC9 q j a b).trans (hfr q j a b), hIC, hC27, hnE⟩)
          · skip
            refine qG.blk 1 (pc' := 93) (ls' := [(2, 23), (0, ((s : Nat) : Int)), (0, ((i : Nat) : Int))]) (st' := [(0, ((i : Nat) : Int))]) (w' := wC) (n' := 142) rfl ?_
            refine qG.ret rfl rfl ?_
            subst hQ9
            have y : ctb (fun j => sb wC 27 j) 192 = 0 := by by_cases y : ctb (fun j => sb wC 27 j) 192 = 0; exact y; rw [if_neg y] at hem; omega
            refine ⟨rfl, fun q j a b => (hC9 q j a b).trans (hfr q j a b), hIC, .inr ⟨i, by omega, rfl, fun j hj => ctb_0.mp y j hj, hne, fun j => ?_⟩⟩
            exact if q : j < 192 then (hC27 j q).symm.trans (ctb_0.mp y j q) else hz_N (by have := hTS.1; omega)
        · exact absurd h3 (by decide)
    · skip
      refine qG.blk 1 (pc' := 101) (ls' := [(2, 23), (0, ((s : Nat) : Int)), (0, ((i : Nat) : Int))]) (st' := [(0, ((s : Nat) : Int))]) (w' := wS) (n' := 142) rfl ?_
      refine qG.ret rfl rfl ?_
      subst hQ9
      exact ⟨rfl, hfr, hIS, .inl ⟨rfl, by rw [show s = i by omega]; exact hHS, by rw [show s = i by omega]; exact hne⟩⟩
  exact L2 _ (0) (w) rfl (⟨Nat.zero_le _, fun _ _ _ _ => rfl, hI, h27, hne0⟩)
