/-! a show run, as functions of its steps -/
noncomputable def oS (k n o : Int) : Int := if k = 0 then qor o (qshl 1 n) else if k = 1 then qand o (qxor (qshl 1 n) (-1)) else o
noncomputable def caS (k n c : Int) : Int := if k = 3 then n else if k = 4 then -1 else c
noncomputable def sdS (k s : Int) : Int := if k = 5 then 1 - s else s
noncomputable def tuS (k t : Int) : Int := if k = 5 then wrp (t + 1) else t
noncomputable def moS (o m : Int) : Int := if m < bitsF o 16 then bitsF o 16 else m
/-- what is seen with the doors o open, the candle at cd, the side sd in front -/
noncomputable def seG (w : qW) (c : Nat) (o cd sd : Int) : Nat → Int
  | 0 => 0
  | j + 1 => if qand (qshr o (j : Int)) 1 = 1 then (if w 97 (10 * c + j) = sd then qor (seG w c o cd sd j) (thrF w c j (if (j : Int) = cd then 1 else 0)) else seG w c o cd sd j) else seG w c o cd sd j
theorem seG_s {w : qW} {c j : Nat} {o cd sd : Int} : seG w c o cd sd (j + 1) = if qand (qshr o (j : Int)) 1 = 1 then (if w 97 (10 * c + j) = sd then qor (seG w c o cd sd j) (thrF w c j (if (j : Int) = cd then 1 else 0)) else seG w c o cd sd j) else seG w c o cd sd j := rfl
theorem thr_g {w w1 : qW} (h96 : ∀ i, w1 96 i = w 96 i) (h97 : ∀ i, w1 97 i = w 97 i) (h98 : ∀ i, w1 98 i = w 98 i) (h100 : ∀ i, w1 100 i = w 100 i) (c d : Nat) (l : Int) : thrF w1 c d l = thrF w c d l := by
  unfold thrF
  rw [h96, h97, h98, h100]
theorem seG_cg {w w1 : qW} (h96 : ∀ i, w1 96 i = w 96 i) (h97 : ∀ i, w1 97 i = w 97 i) (h98 : ∀ i, w1 98 i = w 98 i) (h100 : ∀ i, w1 100 i = w 100 i) (c : Nat) (o cd sd : Int) : ∀ j, seG w1 c o cd sd j = seG w c o cd sd j
  | 0 => rfl
  | j + 1 => by rw [seG_s, seG_s, seG_cg h96 h97 h98 h100 c o cd sd j, h97, thr_g h96 h97 h98 h100]
theorem seesF_G (w : qW) (c : Nat) : ∀ j, seesF w c j = seG w c (w 95 41) (w 95 42) (w 95 43) j
  | 0 => rfl
  | j + 1 => by rw [seesF_s, seG_s, seesF_G w c j]
/-- the doors open, the candle, the side, the turns behind i steps of kinds K with numbers N -/
noncomputable def oF (K N : Nat → Int) : Nat → Int
  | 0 => 0
  | i + 1 => oS (K i) (N i) (oF K N i)
noncomputable def caF (K N : Nat → Int) : Nat → Int
  | 0 => -1
  | i + 1 => caS (K i) (N i) (caF K N i)
noncomputable def sdF (K : Nat → Int) : Nat → Int
  | 0 => 0
  | i + 1 => sdS (K i) (sdF K i)
noncomputable def tuF (K : Nat → Int) : Nat → Int
  | 0 => 0
  | i + 1 => tuS (K i) (tuF K i)
noncomputable def moF (K N : Nat → Int) : Nat → Int
  | 0 => 0
  | i + 1 => moS (oF K N (i + 1)) (moF K N i)
/-- what is seen in the step i -/
noncomputable def vwF (w : qW) (c : Nat) (K N : Nat → Int) (i : Nat) : Int := seG w c (oF K N (i + 1)) (caF K N (i + 1)) (sdF K (i + 1)) 10
noncomputable def asF (w : qW) (c : Nat) (K N : Nat → Int) : Nat → Int
  | 0 => 0
  | i + 1 => qor (asF w c K N i) (vwF w c K N i)
/-- the seconds of i steps, and what is seen in the second s of them -/
noncomputable def scF (K N : Nat → Int) : Nat → Nat
  | 0 => 0
  | i + 1 => scF K N i + dN (K i) (N i)
noncomputable def siF (w : qW) (c : Nat) (K N : Nat → Int) : Nat → Nat → Int
  | 0, _ => 0
  | i + 1, s => if s < scF K N i then siF w c K N i s else vwF w c K N i
/-- numbers alike where a kind uses them -/
noncomputable def KN (K N K2 N2 : Nat → Int) (L : Nat) : Prop := ∀ i, i < L → K i = K2 i ∧ (K i = 0 ∨ K i = 1 ∨ K i = 2 ∨ K i = 3 → N i = N2 i)
theorem KN.st {K N K2 N2 : Nat → Int} {L : Nat} (h : KN K N K2 N2 L) : ∀ i, i ≤ L → oF K N i = oF K2 N2 i ∧ caF K N i = caF K2 N2 i ∧ sdF K i = sdF K2 i ∧ tuF K i = tuF K2 i ∧ scF K N i = scF K2 N2 i ∧ moF K N i = moF K2 N2 i
  | 0, _ => ⟨rfl, rfl, rfl, rfl, rfl, rfl⟩
  | i + 1, hi => by
    obtain ⟨a, b, c, d, e, f⟩ := KN.st h i (by omega)
    obtain ⟨hk, hn⟩ := h i (by omega)
    have o1 : oF K N (i + 1) = oF K2 N2 (i + 1) := by
      show oS _ _ _ = oS _ _ _
      rw [a, ← hk]
      unfold oS
      by_cases e0 : K i = 0
      · rw [if_pos e0, if_pos e0, hn (by omega)]
      · rw [if_neg e0, if_neg e0]
        by_cases e1 : K i = 1
        · rw [if_pos e1, if_pos e1, hn (by omega)]
        · rw [if_neg e1, if_neg e1]
    refine ⟨o1, ?_, ?_, ?_, ?_, ?_⟩
    · show caS _ _ _ = caS _ _ _
      rw [b, ← hk]
      unfold caS
      by_cases e3 : K i = 3
      · rw [if_pos e3, if_pos e3, hn (by omega)]
      · rw [if_neg e3, if_neg e3]
    · show sdS _ _ = sdS _ _
      rw [c, hk]
    · show tuS _ _ = tuS _ _
      rw [d, hk]
    · show _ + dN _ _ = _ + dN _ _
      rw [e, ← hk]
      unfold dN
      by_cases e2 : K i = 2
      · rw [if_pos e2, if_pos e2, hn (by omega)]
      · rw [if_neg e2, if_neg e2]
    · show moS (oF K N (i + 1)) _ = moS (oF K2 N2 (i + 1)) _
      rw [o1, f]
theorem KN.vw {K N K2 N2 : Nat → Int} {L : Nat} (h : KN K N K2 N2 L) (w : qW) (c : Nat) {i : Nat} (hi : i < L) : vwF w c K N i = vwF w c K2 N2 i := by
  obtain ⟨a, b, d, -, -, -⟩ := h.st (i + 1) (by omega)
  unfold vwF
  rw [a, b, d]
theorem KN.al {K N K2 N2 : Nat → Int} {L : Nat} (h : KN K N K2 N2 L) (w : qW) (c : Nat) : ∀ i, i ≤ L → asF w c K N i = asF w c K2 N2 i
  | 0, _ => rfl
  | i + 1, hi => by
    show qor _ _ = qor _ _
    rw [KN.al h w c i (by omega), h.vw w c (by omega)]
theorem KN.si {K N K2 N2 : Nat → Int} {L : Nat} (h : KN K N K2 N2 L) (w : qW) (c s : Nat) : ∀ i, i ≤ L → siF w c K N i s = siF w c K2 N2 i s
  | 0, _ => rfl
  | i + 1, hi => by
    show (if _ then _ else _) = (if _ then _ else _)
    rw [KN.si h w c s i (by omega), h.vw w c (by omega), (h.st i (by omega)).2.2.2.2.1]
/-- where a second lies -/
theorem siF_at {w : qW} {c : Nat} {K N : Nat → Int} {i s : Nat} (h1 : scF K N i ≤ s) : siF w c K N (i + 1) s = vwF w c K N i := if_neg (by omega)
theorem scF_le {K N : Nat → Int} : ∀ {i L : Nat}, i ≤ L → scF K N i ≤ scF K N L
  | i, 0, h => by rw [show i = 0 by omega]; exact Nat.le_refl _
  | i, L + 1, h => by
    by_cases e : i = L + 1
    · rw [e]; exact Nat.le_refl _
    · exact Nat.le_trans (scF_le (i := i) (L := L) (by omega)) (Nat.le_add_right _ _)
theorem siF_up {w : qW} {c : Nat} {K N : Nat → Int} {i s : Nat} (h : s < scF K N i) : ∀ L, i ≤ L → siF w c K N L s = siF w c K N i s
  | 0, hL => by rw [show i = 0 by omega]
  | L + 1, hL => by
    by_cases e : i = L + 1
    · rw [e]
    · have q := scF_le (K := K) (N := N) (show i ≤ L by omega)
      show (if s < scF K N L then _ else _) = _
      rw [if_pos (by omega)]
      exact siF_up h L (by omega)
-- the reference
theorem dA_41 {k n : Int} {w : qW} : dA k n w 95 41 = oS k n (w 95 41) := by
  unfold dA oS
  by_cases e0 : k = 0
  · rw [if_pos e0, if_pos e0, qup_k]
  by_cases e1 : k = 1
  · rw [if_neg e0, if_neg e0, if_pos e1, if_pos e1, qup_k]
  rw [if_neg e0, if_neg e0, if_neg e1, if_neg e1]
  (repeat' split) <;> first | rfl | (rw [qup_j (by decide), qup_j (by decide)]; done) | (rw [qup_j (by decide)]; done)
theorem dA_42 {k n : Int} {w : qW} : dA k n w 95 42 = caS k n (w 95 42) := by
  unfold dA caS
  by_cases e0 : k = 0
  · rw [if_pos e0, if_neg (by omega), if_neg (by omega), qup_j (by decide)]
  by_cases e1 : k = 1
  · rw [if_neg e0, if_pos e1, if_neg (by omega), if_neg (by omega), qup_j (by decide)]
  by_cases e3 : k = 3
  · rw [if_neg e0, if_neg e1, if_pos e3, if_pos e3, qup_k]
  by_cases e4 : k = 4
  · rw [if_neg e0, if_neg e1, if_neg e3, if_pos e4, if_neg e3, if_pos e4, qup_k]
  rw [if_neg e0, if_neg e1, if_neg e3, if_neg e4, if_neg e3, if_neg e4]
  split <;> first | rfl | (rw [qup_j (by decide), qup_j (by decide)]; done)
theorem dA_43 {k n : Int} {w : qW} : dA k n w 95 43 = sdS k (w 95 43) := by
  unfold dA sdS
  by_cases e5 : k = 5
  · rw [if_neg (by omega), if_neg (by omega), if_neg (by omega), if_neg (by omega), if_pos e5, if_pos e5, qup_j (by decide), qup_k]
  · rw [if_neg e5, if_neg e5]
    (repeat' split) <;> first | rfl | (rw [qup_j (by decide)]; done)
theorem dA_40 {k n : Int} {w : qW} : dA k n w 95 40 = tuS k (w 95 40) := by
  unfold dA tuS
  by_cases e5 : k = 5
  · rw [if_neg (by omega), if_neg (by omega), if_neg (by omega), if_neg (by omega), if_pos e5, if_pos e5, qup_k]
  · rw [if_neg e5, if_neg e5]
    (repeat' split) <;> first | rfl | (rw [qup_j (by decide)]; done)
theorem dB_116 {v : Int} {s : Nat} {w : qW} : ∀ n j, dB v s w n 116 j = if s ≤ j ∧ j < s + n then v else w 116 j
  | 0, j => by rw [if_neg (by omega)]; rfl
  | n + 1, j => by
    show qup (qup (dB v s w n) 116 (s + n) v) 95 37 _ 116 j = _
    rw [qup_ne (by decide)]
    by_cases e : j = s + n
    · rw [e, qup_k, if_pos (by omega)]
    · rw [qup_j e, dB_116 n j]
      by_cases q : s ≤ j ∧ j < s + n
      · rw [if_pos q, if_pos (by omega)]
      · rw [if_neg q, if_neg (by omega)]
/-- the reference's show behind i steps -/
noncomputable def SHP (w : qW) (c : Nat) (K N : Nat → Int) (i : Nat) (wS : qW) : Prop := wS 95 41 = oF K N i ∧ wS 95 42 = caF K N i ∧ wS 95 43 = sdF K i ∧ wS 95 40 = tuF K i ∧ wS 95 38 = asF w c K N i ∧ wS 95 39 = moF K N i ∧ wS 95 37 = ((scF K N i : Nat) : Int) ∧ ∀ s, s < scF K N i → wS 116 s = siF w c K N i s
theorem SHP.does {w : qW} {c i : Nat} {K N : Nat → Int} {wS : qW} (h96 : ∀ j, wS 96 j = w 96 j) (h97 : ∀ j, wS 97 j = w 97 j) (h98 : ∀ j, wS 98 j = w 98 j) (h100 : ∀ j, wS 100 j = w 100 j) (h : SHP w c K N i wS) : SHP w c K N (i + 1) (doesW wS c (K i) (N i)) := by
  obtain ⟨a1, a2, a3, a4, a5, a6, a7, a8⟩ := h
  have o41 : dA (K i) (N i) wS 95 41 = oF K N (i + 1) := by rw [dA_41, a1]; rfl
  have o42 : dA (K i) (N i) wS 95 42 = caF K N (i + 1) := by rw [dA_42, a2]; rfl
  have o43 : dA (K i) (N i) wS 95 43 = sdF K (i + 1) := by rw [dA_43, a3]; rfl
  have o40 : dA (K i) (N i) wS 95 40 = tuF K (i + 1) := by rw [dA_40, a4]; rfl
  have oo : ∀ p j, ¬ (p = 95 ∧ (j = 41 ∨ j = 42 ∨ j = 43 ∨ j = 40)) → dA (K i) (N i) wS p j = wS p j := fun p j hp => dA_o hp
  have v9 : seesF (dA (K i) (N i) wS) c 10 = vwF w c K N i := by
    rw [seesF_G, o41, o42, o43]
    exact seG_cg (fun j => (oo 96 j (by omega)).trans (h96 j)) (fun j => (oo 97 j (by omega)).trans (h97 j)) (fun j => (oo 98 j (by omega)).trans (h98 j)) (fun j => (oo 100 j (by omega)).trans (h100 j)) c _ _ _ 10
  have s9 : (dA (K i) (N i) wS) 95 37 = ((scF K N i : Nat) : Int) := (oo 95 37 (by omega)).trans a7
  have t9 : (wS 95 37).toNat = scF K N i := by rw [a7, Int.toNat_natCast]
  unfold doesW
  rw [v9, t9]
  have f : ∀ j, j ≠ 38 → j ≠ 39 → j ≠ 37 → dD (dC (vwF w c K N i) (dB (vwF w c K N i) (scF K N i) (dA (K i) (N i) wS) (dN (K i) (N i)))) 95 j = dA (K i) (N i) wS 95 j := fun j q1 q2 q3 => by
    unfold dD dC
    rw [qup_j q2, qup_j q1, dB_o (by decide) (fun z => q3 z.2)]
  refine ⟨(f 41 (by decide) (by decide) (by decide)).trans o41, (f 42 (by decide) (by decide) (by decide)).trans o42, (f 43 (by decide) (by decide) (by decide)).trans o43, (f 40 (by decide) (by decide) (by decide)).trans o40, ?_, ?_, ?_, fun s hs => ?_⟩
  · unfold dD dC
    rw [qup_j (by decide), qup_k, dB_o (by decide) (by omega), oo 95 38 (by omega), a5]
    rfl
  · unfold dD dC
    rw [qup_k, qup_j (by decide), qup_j (by decide), dB_o (by decide) (by omega), dB_o (by decide) (by omega), oo 95 39 (by omega), o41, a6]
    rfl
  · unfold dD dC
    rw [qup_j (by decide), qup_j (by decide), dB_s s9]
    rfl
  · unfold dD dC
    rw [qup_ne (by decide), qup_ne (by decide), dB_116]
    show _ = (if s < scF K N i then siF w c K N i s else vwF w c K N i)
    have hs2 : s < scF K N i + dN (K i) (N i) := hs
    by_cases e : s < scF K N i
    · rw [if_neg (by omega), if_pos e, oo 116 s (by omega)]; exact a8 s e
    · rw [if_pos (by omega), if_neg e]
