/-! order, told by rows of doors -/
/-- the steps of a row of doors: its candle, open, wait, shut -/
noncomputable def kR (i : Nat) : Int := if i % 4 = 0 then 3 else if i % 4 = 1 then 0 else if i % 4 = 2 then 2 else 1
noncomputable def nR (r : Nat → Nat) (W : Int) (i : Nat) : Int := if i % 4 = 2 then W else ((r (i / 4) : Nat) : Int)
noncomputable def upR (r : Nat → Nat) (n j : Nat) : Nat → Nat := fun k => if k = n then j else r k
theorem kR_0 (n : Nat) : kR (4 * n) = 3 := if_pos (by omega)
theorem kR_1 (n : Nat) : kR (4 * n + 1) = 0 := by unfold kR; rw [if_neg (by omega), if_pos (by omega)]
theorem kR_2 (n : Nat) : kR (4 * n + 2) = 2 := by unfold kR; rw [if_neg (by omega), if_neg (by omega), if_pos (by omega)]
theorem kR_3 (n : Nat) : kR (4 * n + 3) = 1 := by unfold kR; rw [if_neg (by omega), if_neg (by omega), if_neg (by omega)]
theorem kR_5 (i : Nat) : ¬ kR i = 5 := by
  unfold kR
  (repeat' split) <;> decide
theorem nR_0 {r : Nat → Nat} {W : Int} (n : Nat) : nR r W (4 * n) = ((r n : Nat) : Int) := by unfold nR; rw [if_neg (by omega), show 4 * n / 4 = n by omega]
theorem nR_1 {r : Nat → Nat} {W : Int} (n : Nat) : nR r W (4 * n + 1) = ((r n : Nat) : Int) := by unfold nR; rw [if_neg (by omega), show (4 * n + 1) / 4 = n by omega]
theorem nR_2 {r : Nat → Nat} {W : Int} (n : Nat) : nR r W (4 * n + 2) = W := if_pos (by omega)
theorem nR_3 {r : Nat → Nat} {W : Int} (n : Nat) : nR r W (4 * n + 3) = ((r n : Nat) : Int) := by unfold nR; rw [if_neg (by omega), show (4 * n + 3) / 4 = n by omega]
theorem nR_kn {r r2 : Nat → Nat} {W : Int} {n : Nat} (h : ∀ k, k < n → r2 k = r k) : KN kR (nR r2 W) kR (nR r W) (4 * n) := fun i hi => ⟨rfl, fun _ => by unfold nR; rw [h (i / 4) (by omega)]⟩
theorem upR_lo {r : Nat → Nat} {n j k : Nat} (h : k < n) : upR r n j k = r k := if_neg (by omega)
theorem upR_at {r : Nat → Nat} {n j : Nat} : upR r n j n = j := if_pos rfl
theorem sdR : ∀ i, sdF kR i = 0
  | 0 => rfl
  | i + 1 => by
    show sdS (kR i) (sdF kR i) = 0
    rw [sdR i]
    unfold sdS
    rw [if_neg (kR_5 i)]
theorem o_shut : ∀ d : Nat, d < 10 → qand (qor 0 (qshl 1 (d : Int))) (qxor (qshl 1 (d : Int)) (-1)) = 0 := by decide +kernel
theorem o_none : ∀ j : Nat, j < 10 → ¬ qand (qshr 0 (j : Int)) 1 = 1 := by decide +kernel
theorem o_bit : ∀ d : Nat, d < 10 → ∀ j : Nat, j < 10 → (qand (qshr (qor 0 (qshl 1 (d : Int))) (j : Int)) 1 = 1 ↔ j = d) := by decide +kernel
/-- what is open, and where the candle is, in the four steps of the door r n -/
theorem R_st {r : Nat → Nat} {W : Int} {n : Nat} (hr : r n < 10) (h0 : oF kR (nR r W) (4 * n) = 0) : oF kR (nR r W) (4 * n + 1) = 0 ∧ oF kR (nR r W) (4 * n + 2) = qor 0 (qshl 1 ((r n : Nat) : Int)) ∧ oF kR (nR r W) (4 * n + 3) = qor 0 (qshl 1 ((r n : Nat) : Int)) ∧ oF kR (nR r W) (4 * n + 4) = 0 ∧ caF kR (nR r W) (4 * n + 1) = ((r n : Nat) : Int) ∧ caF kR (nR r W) (4 * n + 2) = ((r n : Nat) : Int) ∧ caF kR (nR r W) (4 * n + 3) = ((r n : Nat) : Int) ∧ caF kR (nR r W) (4 * n + 4) = ((r n : Nat) : Int) := by
  have e1 : oF kR (nR r W) (4 * n + 1) = 0 := by
    show oS (kR (4 * n)) (nR r W (4 * n)) (oF kR (nR r W) (4 * n)) = 0
    rw [kR_0, h0]
    unfold oS
    rw [if_neg (by decide), if_neg (by decide)]
  have e2 : oF kR (nR r W) (4 * n + 2) = qor 0 (qshl 1 ((r n : Nat) : Int)) := by
    show oS (kR (4 * n + 1)) (nR r W (4 * n + 1)) (oF kR (nR r W) (4 * n + 1)) = _
    rw [kR_1, nR_1, e1]
    unfold oS
    rw [if_pos rfl]
  have e3 : oF kR (nR r W) (4 * n + 3) = qor 0 (qshl 1 ((r n : Nat) : Int)) := by
    show oS (kR (4 * n + 2)) (nR r W (4 * n + 2)) (oF kR (nR r W) (4 * n + 2)) = _
    rw [kR_2, e2]
    unfold oS
    rw [if_neg (by decide), if_neg (by decide)]
  have e4 : oF kR (nR r W) (4 * n + 4) = 0 := by
    show oS (kR (4 * n + 3)) (nR r W (4 * n + 3)) (oF kR (nR r W) (4 * n + 3)) = 0
    rw [kR_3, nR_3, e3]
    unfold oS
    rw [if_neg (by decide), if_pos rfl]
    exact o_shut (r n) hr
  have c1 : caF kR (nR r W) (4 * n + 1) = ((r n : Nat) : Int) := by
    show caS (kR (4 * n)) (nR r W (4 * n)) (caF kR (nR r W) (4 * n)) = _
    rw [kR_0, nR_0]
    unfold caS
    rw [if_pos rfl]
  have c2 : caF kR (nR r W) (4 * n + 2) = ((r n : Nat) : Int) := by
    show caS (kR (4 * n + 1)) (nR r W (4 * n + 1)) (caF kR (nR r W) (4 * n + 1)) = _
    rw [kR_1, c1]
    unfold caS
    rw [if_neg (by decide), if_neg (by decide)]
  have c3 : caF kR (nR r W) (4 * n + 3) = ((r n : Nat) : Int) := by
    show caS (kR (4 * n + 2)) (nR r W (4 * n + 2)) (caF kR (nR r W) (4 * n + 2)) = _
    rw [kR_2, c2]
    unfold caS
    rw [if_neg (by decide), if_neg (by decide)]
  have c4 : caF kR (nR r W) (4 * n + 4) = ((r n : Nat) : Int) := by
    show caS (kR (4 * n + 3)) (nR r W (4 * n + 3)) (caF kR (nR r W) (4 * n + 3)) = _
    rw [kR_3, c3]
    unfold caS
    rw [if_neg (by decide), if_neg (by decide)]
  exact ⟨e1, e2, e3, e4, c1, c2, c3, c4⟩
theorem oR {r : Nat → Nat} {W : Int} : ∀ n, (∀ k, k < n → r k < 10) → oF kR (nR r W) (4 * n) = 0
  | 0, _ => rfl
  | n + 1, h => (R_st (h n (by omega)) (oR n (fun k hk => h k (by omega)))).2.2.2.1
theorem seG_0 {w : qW} {c : Nat} {cd sd : Int} : ∀ j, j ≤ 10 → seG w c 0 cd sd j = 0
  | 0, _ => rfl
  | j + 1, h => by rw [seG_s, if_neg (o_none j (by omega))]; exact seG_0 j (by omega)
/-- what the open door d shows, a candle behind it -/
noncomputable def vD (w : qW) (c d : Nat) : Int := if w 97 (10 * c + d) = 0 then qor 0 (thrF w c d 1) else 0
theorem seG_1 {w : qW} {c d : Nat} (hd : d < 10) : ∀ j, j ≤ 10 → seG w c (qor 0 (qshl 1 (d : Int))) (d : Int) 0 j = if d < j then vD w c d else 0
  | 0, _ => (if_neg (by omega)).symm
  | j + 1, h => by
    have ih := seG_1 (w := w) (c := c) hd j (by omega)
    rw [seG_s]
    by_cases e : j = d
    · have i0 : seG w c (qor 0 (qshl 1 (d : Int))) (d : Int) 0 j = 0 := ih.trans (if_neg (by omega))
      rw [if_pos ((o_bit d hd j (by omega)).mpr e), i0, show (if d < j + 1 then vD w c d else 0) = vD w c d from if_pos (by omega)]
      unfold vD
      rw [e, if_pos rfl]
    · rw [if_neg (fun z => e ((o_bit d hd j (by omega)).mp z)), ih]
      by_cases q : d < j
      · rw [if_pos q, if_pos (by omega)]
      · rw [if_neg q, if_neg (by omega)]
theorem R_vw {w : qW} {c : Nat} {r : Nat → Nat} {W : Int} {n : Nat} (hr : r n < 10) (h0 : oF kR (nR r W) (4 * n) = 0) : vwF w c kR (nR r W) (4 * n) = 0 ∧ vwF w c kR (nR r W) (4 * n + 1) = vD w c (r n) ∧ vwF w c kR (nR r W) (4 * n + 2) = vD w c (r n) ∧ vwF w c kR (nR r W) (4 * n + 3) = 0 := by
  obtain ⟨e1, e2, e3, e4, c1, c2, c3, c4⟩ := R_st hr h0
  refine ⟨?_, ?_, ?_, ?_⟩
  · unfold vwF; rw [e1]; exact seG_0 10 (Nat.le_refl _)
  · unfold vwF; rw [show 4 * n + 1 + 1 = 4 * n + 2 from rfl, e2, c2, sdR, seG_1 hr 10 (Nat.le_refl _), if_pos hr]
  · unfold vwF; rw [show 4 * n + 2 + 1 = 4 * n + 3 from rfl, e3, c3, sdR, seG_1 hr 10 (Nat.le_refl _), if_pos hr]
  · unfold vwF; rw [show 4 * n + 3 + 1 = 4 * n + 4 from rfl, e4]; exact seG_0 10 (Nat.le_refl _)
theorem R_sc {r : Nat → Nat} {W : Int} {n : Nat} : scF kR (nR r W) (4 * n + 1) = scF kR (nR r W) (4 * n) + 1 ∧ scF kR (nR r W) (4 * n + 2) = scF kR (nR r W) (4 * n) + 2 ∧ scF kR (nR r W) (4 * n + 3) = scF kR (nR r W) (4 * n) + 2 + W.toNat ∧ scF kR (nR r W) (4 * n + 4) = scF kR (nR r W) (4 * n) + 3 + W.toNat := by
  have e1 : scF kR (nR r W) (4 * n + 1) = scF kR (nR r W) (4 * n) + 1 := by
    show _ + dN (kR (4 * n)) _ = _
    rw [kR_0]
    unfold dN
    rw [if_neg (by decide)]
  have e2 : scF kR (nR r W) (4 * n + 2) = scF kR (nR r W) (4 * n) + 2 := by
    show scF kR (nR r W) (4 * n + 1) + dN (kR (4 * n + 1)) _ = _
    rw [kR_1, e1]
    unfold dN
    rw [if_neg (by decide)]
  have e3 : scF kR (nR r W) (4 * n + 3) = scF kR (nR r W) (4 * n) + 2 + W.toNat := by
    show scF kR (nR r W) (4 * n + 2) + dN (kR (4 * n + 2)) (nR r W (4 * n + 2)) = _
    rw [kR_2, nR_2, e2]
    unfold dN
    rw [if_pos rfl]
  refine ⟨e1, e2, e3, ?_⟩
  show scF kR (nR r W) (4 * n + 3) + dN (kR (4 * n + 3)) _ = _
  rw [kR_3, e3]
  unfold dN
  rw [if_neg (by decide)]
  omega
theorem R_dn {r : Nat → Nat} {W : Int} {n : Nat} : dN (kR (4 * n)) (nR r W (4 * n)) = 1 ∧ dN (kR (4 * n + 1)) (nR r W (4 * n + 1)) = 1 ∧ dN (kR (4 * n + 2)) (nR r W (4 * n + 2)) = W.toNat ∧ dN (kR (4 * n + 3)) (nR r W (4 * n + 3)) = 1 := by
  unfold dN
  rw [kR_0, kR_1, kR_2, kR_3, nR_2]
  exact ⟨if_neg (by decide), if_neg (by decide), if_pos rfl, if_neg (by decide)⟩
/-- the seconds of one door more -/
theorem row_si {w : qW} {c : Nat} {r : Nat → Nat} {W : Int} {n j : Nat} (hj : j < 10) (hr : ∀ k, k < n → r k < 10) : (∀ t, t < scF kR (nR r W) (4 * n) → siF w c kR (nR (upR r n j) W) (4 * (n + 1)) t = siF w c kR (nR r W) (4 * n) t) ∧ siF w c kR (nR (upR r n j) W) (4 * (n + 1)) (scF kR (nR r W) (4 * n)) = 0 ∧ (∀ u, u < 1 + W.toNat → siF w c kR (nR (upR r n j) W) (4 * (n + 1)) (scF kR (nR r W) (4 * n) + 1 + u) = vD w c j) ∧ siF w c kR (nR (upR r n j) W) (4 * (n + 1)) (scF kR (nR r W) (4 * n) + 1 + (1 + W.toNat)) = 0 ∧ scF kR (nR (upR r n j) W) (4 * (n + 1)) = scF kR (nR r W) (4 * n) + 1 + (1 + W.toNat) + 1 := by
  have kn : KN kR (nR (upR r n j) W) kR (nR r W) (4 * n) := nR_kn (fun k hk => upR_lo hk)
  have es := (kn.st (4 * n) (Nat.le_refl _)).2.2.2.2.1
  have eo := (kn.st (4 * n) (Nat.le_refl _)).1
  rw [oR n hr] at eo
  obtain ⟨v0, v1, v2, v3⟩ := R_vw (w := w) (c := c) (r := upR r n j) (W := W) (n := n) (by rw [upR_at]; exact hj) eo
  rw [upR_at] at v1 v2
  obtain ⟨s1, s2, s3, s4⟩ := R_sc (r := upR r n j) (W := W) (n := n)
  obtain ⟨d0, d1, d2, d3⟩ := R_dn (r := upR r n j) (W := W) (n := n)
  rw [es] at s1 s2 s3 s4
  have e4 : 4 * (n + 1) = 4 * n + 4 := by omega
  rw [e4]
  refine ⟨fun t ht => ?_, ?_, fun u hu => ?_, ?_, ?_⟩
  · rw [siF_up (i := 4 * n) (by rw [es]; exact ht) (4 * n + 4) (by omega)]
    exact kn.si w c t (4 * n) (Nat.le_refl _)
  · have z := siF_vw (w := w) (c := c) (K := kR) (N := nR (upR r n j) W) (L := 4 * n + 4) (g := 4 * n) (u := 0) (by omega) (by rw [d0]; omega)
    rw [es, v0] at z
    exact z
  · by_cases q : u = 0
    · have z := siF_vw (w := w) (c := c) (K := kR) (N := nR (upR r n j) W) (L := 4 * n + 4) (g := 4 * n + 1) (u := 0) (by omega) (by rw [d1]; omega)
      rw [s1, v1] at z
      rw [q]
      exact z
    · have z := siF_vw (w := w) (c := c) (K := kR) (N := nR (upR r n j) W) (L := 4 * n + 4) (g := 4 * n + 2) (u := u - 1) (by omega) (by rw [d2]; omega)
      rw [s2, v2] at z
      rw [← z]
      congr 1
      omega
  · have z := siF_vw (w := w) (c := c) (K := kR) (N := nR (upR r n j) W) (L := 4 * n + 4) (g := 4 * n + 3) (u := 0) (by omega) (by rw [d3]; omega)
    rw [s3, v3] at z
    rw [← z]
    congr 1
    omega
  · rw [s4]; omega
theorem qor_0r {a : Int} (h : -2147483648 ≤ a ∧ a ≤ 2147483647) : qor a 0 = a := by rw [qor_c2]; exact qor_0l h
theorem qor_vv (a b : Int) : qor (qor a b) b = qor a b := by
  unfold qor
  rw [Int32.ofInt_toInt, Int32.or_assoc, Int32.or_self]
theorem asF_32 {w : qW} {c : Nat} {K N : Nat → Int} : ∀ i, -2147483648 ≤ asF w c K N i ∧ asF w c K N i ≤ 2147483647
  | 0 => by show (-2147483648 : Int) ≤ 0 ∧ (0 : Int) ≤ 2147483647; decide
  | i + 1 => by
    have q := qor_32 (asF w c K N i) (vwF w c K N i)
    exact ⟨q.1, q.2⟩
/-- what one door more shows in all -/
theorem row_as {w : qW} {c : Nat} {r : Nat → Nat} {W : Int} {n j : Nat} (hj : j < 10) (hr : ∀ k, k < n → r k < 10) : asF w c kR (nR (upR r n j) W) (4 * (n + 1)) = qor (asF w c kR (nR r W) (4 * n)) (vD w c j) := by
  have kn : KN kR (nR (upR r n j) W) kR (nR r W) (4 * n) := nR_kn (fun k hk => upR_lo hk)
  have ea := kn.al w c (4 * n) (Nat.le_refl _)
  have eo := (kn.st (4 * n) (Nat.le_refl _)).1
  rw [oR n hr] at eo
  obtain ⟨v0, v1, v2, v3⟩ := R_vw (w := w) (c := c) (r := upR r n j) (W := W) (n := n) (by rw [upR_at]; exact hj) eo
  rw [upR_at] at v1 v2
  rw [show 4 * (n + 1) = 4 * n + 4 by omega]
  show qor (qor (qor (qor (asF w c kR (nR (upR r n j) W) (4 * n)) (vwF w c kR (nR (upR r n j) W) (4 * n))) (vwF w c kR (nR (upR r n j) W) (4 * n + 1))) (vwF w c kR (nR (upR r n j) W) (4 * n + 2))) (vwF w c kR (nR (upR r n j) W) (4 * n + 3)) = _
  rw [v0, v1, v2, v3, ea, qor_0r (asF_32 _), qor_vv, qor_0r]
  have q := qor_32 (asF w c kR (nR r W) (4 * n)) (vD w c j)
  exact ⟨q.1, q.2⟩
/-- he can stay unseen through the row -/
noncomputable def okO (N : Nat) (P : Nat → Int) (M : Nat → Nat → Bool) (w : qW) (c : Nat) (W : Int) (n : Nat) (r : Nat → Nat) : Bool := !decide (ctb (hz N P M (fun t => siF w c kR (nR r W) (4 * n) t) (scF kR (nR r W) (4 * n))) N = 0)
noncomputable def snO (w : qW) (c : Nat) (W : Int) (n : Nat) (r : Nat → Nat) : Int := asF w c kR (nR r W) (4 * n)
theorem okO_no {N : Nat} {P : Nat → Int} {M : Nat → Nat → Bool} {w : qW} {c : Nat} {W : Int} {n : Nat} {r : Nat → Nat} : okO N P M w c W n r = false ↔ hzE (hz N P M (fun t => siF w c kR (nR r W) (4 * n) t) (scF kR (nR r W) (4 * n))) := by
  unfold okO
  rw [← hz_c0 (Nat.le_refl N)]
  constructor
  · intro h
    exact of_decide_eq_true (by cases q : decide (ctb (hz N P M (fun t => siF w c kR (nR r W) (4 * n) t) (scF kR (nR r W) (4 * n))) N = 0) with | true => rfl | false => rw [q] at h; cases h)
  · intro h
    rw [decide_eq_true h]; rfl
/-- what is kept: how many doors (-1: nothing), the spaces seen, the doors -/
noncomputable abbrev oSt := Int × Int × (Nat → Int)
noncomputable def kpO (ok : Nat → (Nat → Nat) → Bool) (sn : Nat → (Nat → Nat) → Int) (n : Nat) (r : Nat → Nat) (s : oSt) : oSt := if ok n r = true ∧ (s.1 = -1 ∨ bitsF s.2.1 16 < bitsF (sn n r) 16 ∨ (bitsF (sn n r) 16 = bitsF s.2.1 16 ∧ (n : Int) < s.1)) then ((n : Int), sn n r, fun k => ((r k : Nat) : Int)) else s
noncomputable def flO (g : Nat → oSt → oSt) : Nat → oSt → oSt
  | 0, s => s
  | m + 1, s => g m (flO g m s)
noncomputable def XPo (ok : Nat → (Nat → Nat) → Bool) (sn : Nat → (Nat → Nat) → Int) (D : Nat) : Nat → Nat → (Nat → Nat) → Nat → oSt → oSt
  | 0, n, r, _, s => kpO ok sn n r s
  | f + 1, n, r, U, s => flO (fun j s => if (trX D U).testBit j = true then XPo ok sn D f (n + 1) (upR r n j) (U ||| 2 ^ j) s else s) 10 (kpO ok sn n r s)
/-- the step of the door j, with f doors left to lay -/
noncomputable def stO (ok : Nat → (Nat → Nat) → Bool) (sn : Nat → (Nat → Nat) → Int) (D f n : Nat) (r : Nat → Nat) (U j : Nat) (s : oSt) : oSt := if (trX D U).testBit j = true then (if f = 0 then s else XPo ok sn D (f - 1) (n + 1) (upR r n j) (U ||| 2 ^ j) s) else s
theorem flO_id {g : Nat → oSt → oSt} (h : ∀ j s, g j s = s) (s : oSt) : ∀ m, flO g m s = s
  | 0 => rfl
  | m + 1 => by
    show g m (flO g m s) = s
    rw [h, flO_id h s m]
theorem XPo_st {ok : Nat → (Nat → Nat) → Bool} {sn : Nat → (Nat → Nat) → Int} {D U : Nat} {n : Nat} {r : Nat → Nat} {s : oSt} : ∀ f, XPo ok sn D f n r U s = flO (stO ok sn D f n r U) 10 (kpO ok sn n r s)
  | 0 => by
    rw [flO_id (fun j s => ?_)]
    · rfl
    · unfold stO
      rw [if_pos rfl]
      split <;> rfl
  | f + 1 => by
    have e : (fun (j : Nat) (s : oSt) => if (trX D U).testBit j = true then XPo ok sn D f (n + 1) (upR r n j) (U ||| 2 ^ j) s else s) = stO ok sn D (f + 1) n r U := funext fun j => funext fun s => by
      unfold stO
      rw [if_neg (Nat.succ_ne_zero f), Nat.add_sub_cancel]
    show flO (fun (j : Nat) (s : oSt) => if (trX D U).testBit j = true then XPo ok sn D f (n + 1) (upR r n j) (U ||| 2 ^ j) s else s) 10 (kpO ok sn n r s) = _
    rw [e]
theorem kpO_no {ok : Nat → (Nat → Nat) → Bool} {sn : Nat → (Nat → Nat) → Int} {n : Nat} {r : Nat → Nat} {s : oSt} (h : ok n r = false) : kpO ok sn n r s = s := if_neg (fun z => by rw [h] at z; cases z.1)
theorem XPo_no {ok : Nat → (Nat → Nat) → Bool} {sn : Nat → (Nat → Nat) → Int} {D : Nat} (hx : ∀ n r j, ok n r = false → ok (n + 1) (upR r n j) = false) : ∀ f n r U s, ok n r = false → XPo ok sn D f n r U s = s
  | 0, n, r, _, s, h => kpO_no h
  | f + 1, n, r, U, s, h => by
    show flO _ 10 (kpO ok sn n r s) = s
    rw [kpO_no h, flO_id]
    intro j s
    split
    · exact XPo_no hx f (n + 1) (upR r n j) _ s (hx n r j h)
    · rfl
theorem okO_x {N : Nat} {P : Nat → Int} {M : Nat → Nat → Bool} {w : qW} {c : Nat} {W : Int} (n : Nat) (r : Nat → Nat) (j : Nat) (h : okO N P M w c W n r = false) : okO N P M w c W (n + 1) (upR r n j) = false := by
  rw [okO_no] at h ⊢
  have kn : KN kR (nR (upR r n j) W) kR (nR r W) (4 * n) := nR_kn (fun k hk => upR_lo hk)
  have es := (kn.st (4 * n) (Nat.le_refl _)).2.2.2.2.1
  have le := scF_le (K := kR) (N := nR (upR r n j) W) (show 4 * n ≤ 4 * (n + 1) by omega)
  rw [es] at le
  have e := hz_cg (N := N) (P := P) (M := M) (V := fun t => siF w c kR (nR r W) (4 * n) t) (V2 := fun t => siF w c kR (nR (upR r n j) W) (4 * (n + 1)) t) (S := scF kR (nR r W) (4 * n)) (fun _ _ => rfl) (fun _ _ _ _ => rfl) (fun t ht => by
    show siF w c kR (nR (upR r n j) W) (4 * (n + 1)) t = siF w c kR (nR r W) (4 * n) t
    rw [siF_up (i := 4 * n) (by rw [es]; exact ht) (4 * (n + 1)) (by omega)]
    exact kn.si w c t (4 * n) (Nat.le_refl _)) (scF kR (nR r W) (4 * n)) (Nat.le_refl _)
  rw [← e] at h
  have z := hzE_u h (scF kR (nR (upR r n j) W) (4 * (n + 1)) - scF kR (nR r W) (4 * n))
  rw [show scF kR (nR r W) (4 * n) + (scF kR (nR (upR r n j) W) (4 * (n + 1)) - scF kR (nR r W) (4 * n)) = scF kR (nR (upR r n j) W) (4 * (n + 1)) by omega] at z
  exact z
/-- what order keeps, and what it answers -/
noncomputable def odS (w : qW) (c D : Nat) (W : Int) (s : Nat) : oSt := XPo (okO (pzN w c s) (pzP w c s) (pzM w c s) w c W) (snO w c W) D 4 0 (fun _ => 0) 0 (-1, 0, fun _ => 0)
noncomputable def odA (s : oSt) (v : Int) : Int := if s.1 = -1 then -1 else if v < 0 then -1 else if v = 0 then bitsF s.2.1 16 else if v = 1 then s.1 else if v - 2 < s.1 then s.2.2 (v - 2).toNat else -1
noncomputable def odB (c D W s : Int) : Prop := isInV c 0 2 = 0 ∨ isInV D 0 1023 = 0 ∨ 4 < bitsF D 16 ∨ isInV W 1 5 = 0 ∨ isInV s 1 4 = 0
noncomputable def ORT (w : qW) (c D W s v x : Int) : Prop := (odB c D W s ∧ x = -1) ∨ (¬ odB c D W s ∧ x = odA (odS w c.toNat D.toNat W s.toNat) v)
theorem ORT.uniq {w : qW} {c D W s v x y : Int} (h : ORT w c D W s v x) (h2 : ORT w c D W s v y) : x = y := by
  rcases h with ⟨a, b⟩ | ⟨a, b⟩
  · rcases h2 with ⟨-, b2⟩ | ⟨a2, -⟩
    · rw [b, b2]
    · exact absurd a a2
  · rcases h2 with ⟨a2, -⟩ | ⟨-, b2⟩
    · exact absurd a2 a
    · rw [b, b2]
theorem odS_cg {w w1 : qW} (h : RRh w w1) (c D : Nat) (W : Int) (s : Nat) : odS w1 c D W s = odS w c D W s := by
  obtain ⟨⟨⟨h96, h97, h98, h100⟩, -⟩, h99⟩ := h
  obtain ⟨e1, e2, e3⟩ := pz_cg h96 h99 c s
  have e4 : snO w1 c W = snO w c W := funext fun n => funext fun r => asF_cg h96 h97 h98 h100 c _ _ _
  have e5 : ∀ N P M, okO N P M w1 c W = okO N P M w c W := fun N P M => funext fun n => funext fun r => by
    unfold okO
    rw [show (fun t => siF w1 c kR (nR r W) (4 * n) t) = (fun t => siF w c kR (nR r W) (4 * n) t) from funext fun t => siF_cg h96 h97 h98 h100 c _ _ t _]
  unfold odS
  rw [e1, e2, e3, e4, e5]
theorem ORT.cg {w w1 : qW} (h : RRh w w1) {c D W s v x : Int} (hd : ORT w1 c D W s v x) : ORT w c D W s v x := by
  rcases hd with q | ⟨a, e⟩
  · exact .inl q
  · rw [odS_cg h] at e
    exact .inr ⟨a, e⟩
theorem flO_in {g : Nat → oSt → oSt} {A : oSt → Prop} (h : ∀ j s, A s → A (g j s)) {s : oSt} (hs : A s) : ∀ m, A (flO g m s)
  | 0 => hs
  | m + 1 => h m _ (flO_in h hs m)
theorem kpO_4 {ok : Nat → (Nat → Nat) → Bool} {sn : Nat → (Nat → Nat) → Int} {n : Nat} {r : Nat → Nat} {s : oSt} (hn : n ≤ 4) (hs : s.1 ≤ 4) : (kpO ok sn n r s).1 ≤ 4 := by
  unfold kpO
  split
  · show (n : Int) ≤ 4
    omega
  · exact hs
theorem XPo_4 {ok : Nat → (Nat → Nat) → Bool} {sn : Nat → (Nat → Nat) → Int} {D : Nat} : ∀ f n r U s, n + f ≤ 4 → s.1 ≤ 4 → (XPo ok sn D f n r U s).1 ≤ 4
  | 0, n, r, _, s, h, hs => kpO_4 (by omega) hs
  | f + 1, n, r, U, s, h, hs => flO_in (A := fun s => s.1 ≤ 4) (fun j s hs => by
      show (if (trX D U).testBit j = true then XPo ok sn D f (n + 1) (upR r n j) (U ||| 2 ^ j) s else s).1 ≤ 4
      split
      · exact XPo_4 f (n + 1) _ _ s (by omega) hs
      · exact hs) (kpO_4 (ok := ok) (sn := sn) (r := r) (show n ≤ 4 by omega) hs) 10
theorem odS_4 {w : qW} {c D : Nat} {W : Int} {s : Nat} : (odS w c D W s).1 ≤ 4 := XPo_4 4 0 _ _ _ (by decide) (by decide)
theorem odV_out {s : oSt} {v : Int} (h4 : s.1 ≤ 4) (h : isInV v 0 5 = 0) : odA s v = -1 := by
  unfold isInV at h
  unfold odA
  (repeat' split at h) <;> (repeat' split) <;> first | rfl | omega | (exfalso; omega)
