/-! the reference's tries on the fresh pair -/
def trX (D U : Nat) : Nat := D &&& (1023 - U)
theorem tr_tab : ∀ U : Nat, U < 1024 → qand 1023 (qxor (U : Int) (-1)) = ((1023 - U : Nat) : Int) := by decide +kernel
theorem tr_not : ∀ U : Nat, U < 1024 → ∀ j : Nat, j < 10 → (1023 - U).testBit j = !U.testBit j := by decide +kernel
theorem tr_pow : ∀ j : Nat, j < 10 → qshl 1 (j : Int) = ((2 ^ j : Nat) : Int) ∧ 2 ^ j < 1024 := by decide +kernel
theorem qand_as (x y z : Int) : qand (qand x y) z = qand x (qand y z) := by
  unfold qand
  rw [Int32.ofInt_toInt, Int32.ofInt_toInt, Int32.and_assoc]
theorem tr_and {D U : Nat} (hD : D < 1024) (hU : U < 1024) : qand (D : Int) (qxor (U : Int) (-1)) = ((trX D U : Nat) : Int) := by
  have h1 : qand (D : Int) 1023 = (D : Int) := by
    have h := qand_n (a := D) (b := 1023) (by omega) (by omega)
    have h : qand (D : Int) 1023 = ((D &&& 1023 : Nat) : Int) := h
    rw [h, show D &&& 1023 = D % 1024 from Nat.and_two_pow_sub_one_eq_mod D 10, Nat.mod_eq_of_lt hD]
  rw [← h1, qand_as, tr_tab U hU, qand_n (by omega) (by omega)]
  rfl
theorem trX_lt {D U : Nat} (hD : D < 1024) : trX D U < 1024 := Nat.lt_of_le_of_lt Nat.and_le_left hD
theorem tr_bit {D U j : Nat} (hU : U < 1024) (hj : j < 10) : (trX D U).testBit j = (D.testBit j && !U.testBit j) := by
  unfold trX
  rw [Nat.testBit_and, tr_not U hU j hj]
theorem tr_ult {U j : Nat} (hU : U < 1024) (hj : j < 10) : U ||| 2 ^ j < 1024 := Nat.or_lt_two_pow (n := 10) hU (tr_pow j hj).2
theorem tr_or {U j : Nat} (hU : U < 1024) (hj : j < 10) : qor (U : Int) (qshl 1 (j : Int)) = ((U ||| 2 ^ j : Nat) : Int) := by
  have := (tr_pow j hj).2
  rw [(tr_pow j hj).1, qor_n (by omega) (by omega)]
theorem ctb_lt {f g : Nat → Bool} {x : Nat} : ∀ {m : Nat}, (∀ i, i < m → f i = true → g i = true) → x < m → g x = true → f x = false → ctb f m + 1 ≤ ctb g m
  | 0, _, h, _, _ => absurd h (Nat.not_lt_zero x)
  | m + 1, hm, h, hg, hf => by
    show ctb f m + (bif f m then 1 else 0) + 1 ≤ ctb g m + (bif g m then 1 else 0)
    by_cases e : x = m
    · subst e
      have := ctb_mono (f := f) (g := g) (m := x) (fun i hi => hm i (by omega))
      rw [hg, hf]
      show ctb f x + 0 + 1 ≤ ctb g x + 1
      omega
    · have ih := ctb_lt (f := f) (g := g) (m := m) (fun i hi => hm i (by omega)) (by omega) hg hf
      have k := hm m (by omega)
      cases q1 : f m with
      | false =>
        show ctb f m + 0 + 1 ≤ ctb g m + (bif g m then 1 else 0)
        omega
      | true =>
        rw [k q1]
        show ctb f m + 1 + 1 ≤ ctb g m + 1
        omega
theorem tr_dec {D U j : Nat} (hU : U < 1024) (hj : j < 10) (h : (trX D U).testBit j = true) : pc (trX D (U ||| 2 ^ j)) 10 + 1 ≤ pc (trX D U) 10 := by
  refine ctb_lt (f := fun i => (trX D (U ||| 2 ^ j)).testBit i) (g := fun i => (trX D U).testBit i) (x := j) (fun i hi q => ?_) hj h ?_
  · have q : (trX D (U ||| 2 ^ j)).testBit i = true := q
    rw [tr_bit (tr_ult hU hj) hi, Nat.testBit_or] at q
    show (trX D U).testBit i = true
    rw [tr_bit hU hi]
    revert q
    cases D.testBit i <;> cases U.testBit i <;> cases (2 ^ j).testBit i <;> decide
  · show (trX D (U ||| 2 ^ j)).testBit j = false
    rw [tr_bit (tr_ult hU hj) hj, Nat.testBit_or, Nat.testBit_two_pow_self]
    cases D.testBit j <;> cases U.testBit j <;> rfl
def trMC : yM := (120, 0) :: trM0
theorem trN_in {p : Nat} (h : ymem p trN = true) : p = 96 ∨ p = 97 ∨ p = 98 ∨ p = 99 ∨ p = 100 := by
  have := ymem_in h
  simpa [trN] using this
theorem trN_M {p : Nat} (h : ymem p trN = true) (i : Nat) : ymd p i trMC = false := by
  rcases trN_in h with rfl | rfl | rfl | rfl | rfl <;> rfl
def TRs (w0 : qW) (n : Nat) : Prop := ∀ (d : Nat) (w : qW) (c W k : Int) (D U : Nat), 20 - n ≤ d → (0 ≤ c ∧ c ≤ 2) → D < 1024 → (1 ≤ W ∧ W ≤ 5) → (1 ≤ k ∧ k ≤ 4) → U < 1024 → pc (trX D U) 10 + n ≤ 4 → yInv zgf zga zra zSp w → (∀ p, ymem p trN = true → ∀ j, w p j = w0 p j) → w 95 50 = 0 → w 95 51 = 0 → qG none d 262 0 [(2, 95), (0, c), (0, (D : Int)), (0, W), (0, k), (0, (n : Int)), (0, (U : Int)), (9, 0), (9, 0), (9, 0)] [] w 142 (fun (r : qV) (w1 : qW) (n1 : Nat) => r = (9, 0) ∧ n1 = 142 ∧ yInv zgf zga zra zSp w1 ∧ (∀ p j, ymd p j trMC = false → w1 p j = w p j))
theorem K_tr174 {w0 : qW} (n : Nat) (hn : n ≤ 4) (IH : n < 4 → TRs w0 (n + 1)) {d : Nat} (hd : 20 - n ≤ d) (c W k : Int) (D U : Nat) (hc : 0 ≤ c ∧ c ≤ 2) (hD : D < 1024) (hW : 1 ≤ W ∧ W ≤ 5) (hk : 1 ≤ k ∧ k ≤ 4) (hU : U < 1024) (hpc : pc (trX D U) 10 + n ≤ 4) (b : Int) (x9 : qV) (w : qW) (hI : yInv zgf zga zra zSp w) (hw : ∀ p, ymem p trN = true → ∀ j, w p j = w0 p j) (h50 : w 95 50 = 0) (h51 : w 95 51 = 0) : qG none d 262 174 [(2, 95), (0, c), (0, ((D : Nat) : Int)), (0, W), (0, k), (0, ((n : Nat) : Int)), (0, ((U : Nat) : Int)), (0, 0), (0, b), x9] [] w 142 (fun (r : qV) (w1 : qW) (n1 : Nat) => r = (9, 0) ∧ n1 = 142 ∧ yInv zgf zga zra zSp w1 ∧ (∀ p j, ymd p j trMC = false → w1 p j = w p j)) := by
  generalize hQ9 : (fun (r : qV) (w1 : qW) (n1 : Nat) => r = (9, 0) ∧ n1 = 142 ∧ yInv zgf zga zra zSp w1 ∧ (∀ p j, ymd p j trMC = false → w1 p j = w p j)) = Q9
  obtain ⟨d, rfl⟩ : ∃ d9, d = d9 + 1 := ⟨d - 1, by omega⟩
  refine qG.blk 2 (pc' := 177) (ls' := [(2, 95), (0, c), (0, ((D : Nat) : Int)), (0, W), (0, k), (0, ((n : Nat) : Int)), (0, ((U : Nat) : Int)), (0, 0), (0, b), (0, 0)]) (st' := []) (w' := w) (n' := 142) rfl ?_
  have L177 : ∀ (m9 : Nat) (j : Nat) (w9 : qW), 10 - j = m9 → (j ≤ 10 ∧ yInv zgf zga zra zSp w9 ∧ (∀ p i, ymd p i trMC = false → w9 p i = w p i)) → qG none (d + 1) 262 177 [(2, 95), (0, c), (0, ((D : Nat) : Int)), (0, W), (0, k), (0, ((n : Nat) : Int)), (0, ((U : Nat) : Int)), (0, 0), (0, b), (0, ((j : Nat) : Int))] [] w9 142 Q9 := by
    intro m9
    induction m9 using Nat.strongRecOn with
    | ind m9 ih177 =>
    intro j w9 hm177 hI177
    refine qG.blk 2 (pc' := 181) (ls' := [(2, 95), (0, c), (0, ((D : Nat) : Int)), (0, W), (0, k), (0, ((n : Nat) : Int)), (0, ((U : Nat) : Int)), (0, 0), (0, b), (0, ((j : Nat) : Int))]) (st' := [(0, 10), (0, ((j : Nat) : Int))]) (w' := w9) (n' := 142) rfl ?_
    refine qG.br (P := ((j : Nat) : Int) < 10) (pc1 := 184) (pc2 := 236) (st1 := []) rfl (fun h1 => ?_) (fun h1 => ?_)
    · skip
      refine qG.blk 5 (pc' := 190) (ls' := [(2, 95), (0, c), (0, ((D : Nat) : Int)), (0, W), (0, k), (0, ((n : Nat) : Int)), (0, ((U : Nat) : Int)), (0, 0), (0, b), (0, ((j : Nat) : Int))]) (st' := [(0, qand ((D : Nat) : Int) (qxor ((U : Nat) : Int) (-1)))]) (w' := w9) (n' := 142) rfl ?_
      rw [show qand ((D : Nat) : Int) (qxor ((U : Nat) : Int) (-1)) = ((trX D U : Nat) : Int) from tr_and hD hU]
      refine qG.blk 4 (pc' := 195) (ls' := [(2, 95), (0, c), (0, ((D : Nat) : Int)), (0, W), (0, k), (0, ((n : Nat) : Int)), (0, ((U : Nat) : Int)), (0, 0), (0, b), (0, ((j : Nat) : Int))]) (st' := [(0, qand (qshr ((trX D U : Nat) : Int) ((j : Nat) : Int)) 1)]) (w' := w9) (n' := 142) rfl ?_
      rw [show qand (qshr ((trX D U : Nat) : Int) ((j : Nat) : Int)) 1 = (if (trX D U).testBit j = true then 1 else 0) from hb_bit (Nat.lt_of_lt_of_le (trX_lt hD) (by decide)) (by omega)]
      refine qG.br (P := (if (trX D U).testBit j = true then 1 else 0) = 0) (pc1 := 198) (pc2 := 201) (st1 := []) rfl (fun htb => ?_) (fun htb => ?_)
      · skip
        refine qG.blk 2 (pc' := 233) (ls' := [(2, 95), (0, c), (0, ((D : Nat) : Int)), (0, W), (0, k), (0, ((n : Nat) : Int)), (0, ((U : Nat) : Int)), (0, 0), (0, b), (0, wrp (((j : Nat) : Int) + 1))]) (st' := []) (w' := w9) (n' := 142) rfl ?_
        rw [show wrp (((j : Nat) : Int) + 1) = ((j + 1 : Nat) : Int) from wrp_id (by omega) (by omega)]
        refine qG.blk 1 (pc' := 177) (ls' := [(2, 95), (0, c), (0, ((D : Nat) : Int)), (0, W), (0, k), (0, ((n : Nat) : Int)), (0, ((U : Nat) : Int)), (0, 0), (0, b), (0, ((j + 1 : Nat) : Int))]) (st' := []) (w' := w9) (n' := 142) rfl ?_
        exact ih177 _ (by omega) (j + 1) (w9) rfl (⟨by omega, hI177.2.1, hI177.2.2⟩)
      · skip
        have htb2 : (trX D U).testBit j = true := Decidable.of_not_not (fun z => htb (ite01.mpr z))
        have hj9 : j < 10 := by omega
        have hdec := tr_dec hU hj9 htb2
        have hI10 : yInv zgf zga zra zSp (qup w9 120 n ((j : Nat) : Int)) := zup_a hI177.2.1 (b := (0, 9)) rfl rfl ⟨by show (0 : Int) ≤ _; omega, by show _ ≤ (9 : Int); omega⟩
        have hf10 : ∀ p i, ymd p i trMC = false → (qup w9 120 n ((j : Nat) : Int)) p i = w p i := fun p i hp => by rw [qup_ne (fun z => (by rw [z] at hp; cases hp))]; exact hI177.2.2 p i hp
        refine qG.blk 2 (pc' := 205) (ls' := [(2, 95), (0, c), (0, ((D : Nat) : Int)), (0, W), (0, k), (0, ((n : Nat) : Int)), (0, ((U : Nat) : Int)), (0, 0), (0, b), (0, ((j : Nat) : Int))]) (st' := [(2, w9 95 48)]) (w' := w9) (n' := 142) rfl ?_
        rw [show w9 95 48 = 120 from zref hI177.2.1 rfl rfl]
        refine qG.blk 2 (pc' := 209) (ls' := [(2, 95), (0, c), (0, ((D : Nat) : Int)), (0, W), (0, k), (0, ((n : Nat) : Int)), (0, ((U : Nat) : Int)), (0, 0), (0, b), (0, ((j : Nat) : Int))]) (st' := [(0, ((j : Nat) : Int)), (0, ((n : Nat) : Int)), (2, 120)]) (w' := w9) (n' := 142) rfl ?_
        refine qG.ar (P := 0 ≤ ((n : Nat) : Int) ∧ ((n : Nat) : Int) < ((4 : Nat) : Int)) (P2 := 0 < (120 : Int) ∧ (120 : Int) ≤ ((142 : Nat) : Int)) (pc' := 210) (ls' := [(2, 95), (0, c), (0, ((D : Nat) : Int)), (0, W), (0, k), (0, ((n : Nat) : Int)), (0, ((U : Nat) : Int)), (0, 0), (0, b), (0, ((j : Nat) : Int))]) (st' := []) (w' := (qup w9 120 n ((j : Nat) : Int))) (n' := 142) rfl (by omega) (by decide) ?_
        refine qG.blk 8 (pc' := 220) (ls' := [(2, 95), (0, c), (0, ((D : Nat) : Int)), (0, W), (0, k), (0, ((n : Nat) : Int)), (0, ((U : Nat) : Int)), (0, 0), (0, b), (0, ((j : Nat) : Int))]) (st' := [(0, wrp (((n : Nat) : Int) + 1)), (0, k), (0, W), (0, ((D : Nat) : Int)), (0, c), (2, 95)]) (w' := (qup w9 120 n ((j : Nat) : Int))) (n' := 142) rfl ?_
        rw [show wrp (((n : Nat) : Int) + 1) = ((n + 1 : Nat) : Int) from wrp_id (by omega) (by omega)]
        refine qG.blk 5 (pc' := 227) (ls' := [(2, 95), (0, c), (0, ((D : Nat) : Int)), (0, W), (0, k), (0, ((n : Nat) : Int)), (0, ((U : Nat) : Int)), (0, 0), (0, b), (0, ((j : Nat) : Int))]) (st' := [(0, qor ((U : Nat) : Int) (qshl 1 ((j : Nat) : Int))), (0, ((n + 1 : Nat) : Int)), (0, k), (0, W), (0, ((D : Nat) : Int)), (0, c), (2, 95)]) (w' := (qup w9 120 n ((j : Nat) : Int))) (n' := 142) rfl ?_
        rw [show qor ((U : Nat) : Int) (qshl 1 ((j : Nat) : Int)) = ((U ||| 2 ^ j : Nat) : Int) from tr_or hU hj9]
        refine qG.call (t := 262) (na := 7) (sk := 1) (md := 1) (ls1 := [(2, 95), (0, c), (0, ((D : Nat) : Int)), (0, W), (0, k), (0, ((n + 1 : Nat) : Int)), (0, ((U ||| 2 ^ j : Nat) : Int)), (9, 0), (9, 0), (9, 0)]) (r1 := []) rfl rfl rfl rfl rfl (IH (by omega) d (qup w9 120 n ((j : Nat) : Int)) c W k D (U ||| 2 ^ j) (by omega) hc hD hW hk (tr_ult hU hj9) (by omega) hI10 (fun p hp i => (hf10 p i (trN_M hp i)).trans (hw p hp i)) ((hf10 95 50 rfl).trans h50) ((hf10 95 51 rfl).trans h51)) ?_
        rintro _ w7 _ ⟨rfl, rfl, hI7, hf7⟩
        show qG none (d + 1) 262 230 [(2, 95), (0, c), (0, ((D : Nat) : Int)), (0, W), (0, k), (0, ((n : Nat) : Int)), (0, ((U : Nat) : Int)), (0, 0), (0, b), (0, ((j : Nat) : Int))] [] w7 142 Q9
        refine qG.blk 1 (pc' := 233) (ls' := [(2, 95), (0, c), (0, ((D : Nat) : Int)), (0, W), (0, k), (0, ((n : Nat) : Int)), (0, ((U : Nat) : Int)), (0, 0), (0, b), (0, wrp (((j : Nat) : Int) + 1))]) (st' := []) (w' := w7) (n' := 142) rfl ?_
        rw [show wrp (((j : Nat) : Int) + 1) = ((j + 1 : Nat) : Int) from wrp_id (by omega) (by omega)]
        refine qG.blk 1 (pc' := 177) (ls' := [(2, 95), (0, c), (0, ((D : Nat) : Int)), (0, W), (0, k), (0, ((n : Nat) : Int)), (0, ((U : Nat) : Int)), (0, 0), (0, b), (0, ((j + 1 : Nat) : Int))]) (st' := []) (w' := w7) (n' := 142) rfl ?_
        exact ih177 _ (by omega) (j + 1) (w7) rfl (⟨by omega, hI7, fun p i hp => (hf7 p i hp).trans (hf10 p i hp)⟩)
    · skip
      refine qG.retv rfl rfl ?_
      subst hQ9
      exact ⟨rfl, rfl, hI177.2.1, hI177.2.2⟩
  exact L177 _ (0) (w) rfl (⟨by omega, hI, fun p i _ => rfl⟩)
theorem trM_s {p j : Nat} (h : ymd p j trMC = false) : ymd p j trM0 = false := by
  have h : ((Nat.beq 120 p && (Nat.beq 0 0 || Nat.beq 0 (j + 1))) || ymd p j trM0) = false := h
  rw [Bool.or_eq_false_iff] at h
  exact h.2
theorem trN_0 {p : Nat} (h : ymem p trN = true) (i : Nat) : ymd p i trM0 = false := trM_s (trN_M h i)
theorem TR_4 {w0 : qW} (hF : zF w0) : TRs w0 4 := fun d w c W k D U hd hc hD hW hk hU hpc hI hw h50 h51 =>
  trA_4 hF hd hc ⟨by omega, by omega⟩ hW hk ⟨by omega, by omega⟩ hI hw h50 h51 (fun w' hI' hfr f50 f51 =>
    qG.mono (K_tr174 4 (by decide) (fun h => absurd h (by decide)) hd c W k D U hc hD hW hk hU hpc 0 (9, 0) w' hI' (fun p hp j => (hfr p j (trN_0 hp j)).trans (hw p hp j)) f50 f51) (fun v w1 n1 hh => ⟨hh.1, hh.2.1, hh.2.2.1, fun p j hp => (hh.2.2.2 p j hp).trans (hfr p j (trM_s hp))⟩))
theorem TR_3 {w0 : qW} (hF : zF w0) : TRs w0 3 := fun d w c W k D U hd hc hD hW hk hU hpc hI hw h50 h51 =>
  trA_3 hF hd hc ⟨by omega, by omega⟩ hW hk ⟨by omega, by omega⟩ hI hw h50 h51 (fun w' hI' hfr f50 f51 =>
    qG.mono (K_tr174 3 (by decide) (fun _ => TR_4 hF) hd c W k D U hc hD hW hk hU hpc 0 (9, 0) w' hI' (fun p hp j => (hfr p j (trN_0 hp j)).trans (hw p hp j)) f50 f51) (fun v w1 n1 hh => ⟨hh.1, hh.2.1, hh.2.2.1, fun p j hp => (hh.2.2.2 p j hp).trans (hfr p j (trM_s hp))⟩))
theorem TR_2 {w0 : qW} (hF : zF w0) : TRs w0 2 := fun d w c W k D U hd hc hD hW hk hU hpc hI hw h50 h51 =>
  trA_2 hF hd hc ⟨by omega, by omega⟩ hW hk ⟨by omega, by omega⟩ hI hw h50 h51 (fun w' hI' hfr f50 f51 =>
    qG.mono (K_tr174 2 (by decide) (fun _ => TR_3 hF) hd c W k D U hc hD hW hk hU hpc 0 (9, 0) w' hI' (fun p hp j => (hfr p j (trN_0 hp j)).trans (hw p hp j)) f50 f51) (fun v w1 n1 hh => ⟨hh.1, hh.2.1, hh.2.2.1, fun p j hp => (hh.2.2.2 p j hp).trans (hfr p j (trM_s hp))⟩))
theorem TR_1 {w0 : qW} (hF : zF w0) : TRs w0 1 := fun d w c W k D U hd hc hD hW hk hU hpc hI hw h50 h51 =>
  trA_1 hF hd hc ⟨by omega, by omega⟩ hW hk ⟨by omega, by omega⟩ hI hw h50 h51 (fun w' hI' hfr f50 f51 =>
    qG.mono (K_tr174 1 (by decide) (fun _ => TR_2 hF) hd c W k D U hc hD hW hk hU hpc 0 (9, 0) w' hI' (fun p hp j => (hfr p j (trN_0 hp j)).trans (hw p hp j)) f50 f51) (fun v w1 n1 hh => ⟨hh.1, hh.2.1, hh.2.2.1, fun p j hp => (hh.2.2.2 p j hp).trans (hfr p j (trM_s hp))⟩))
def trM2 : yM := (120, 0) :: trM1
theorem trM_t {p j : Nat} (h : ymd p j trM2 = false) : ymd p j trM1 = false ∧ ymd p j trMC = false := by
  have h : ((Nat.beq 120 p && (Nat.beq 0 0 || Nat.beq 0 (j + 1))) || ymd p j trM1) = false := h
  rw [Bool.or_eq_false_iff] at h
  refine ⟨h.2, ?_⟩
  show ((Nat.beq 120 p && (Nat.beq 0 0 || Nat.beq 0 (j + 1))) || ymd p j trM0) = false
  rw [h.1, Bool.false_or]
  have h2 := h.2
  unfold trM1 at h2
  unfold trM0
  simp only [ymd, Bool.or_eq_false_iff] at h2 ⊢
  simp only [h2, and_self, true_and]
theorem trN_1 {p : Nat} (h : ymem p trN = true) (i : Nat) : ymd p i trM1 = false := by
  rcases trN_in h with rfl | rfl | rfl | rfl | rfl <;> rfl
theorem TR_0_1 {w0 w : qW} (hF : zF w0) {d : Nat} {c W : Int} {D : Nat} (hd : 20 ≤ d) (hc : 0 ≤ c ∧ c ≤ 2) (hD : D < 1024) (hW : 1 ≤ W ∧ W ≤ 5) (hpc : pc (trX D 0) 10 ≤ 4) (hI : yInv zgf zga zra zSp w) (hw : ∀ p, ymem p trN = true → ∀ j, w p j = w0 p j) (h50 : w 95 50 = -1) (h9 : w 95 9 = -1) : qG none d 262 0 [(2, 95), (0, c), (0, (D : Int)), (0, W), (0, 1), (0, 0), (0, 0), (9, 0), (9, 0), (9, 0)] [] w 142 (fun (r : qV) (w1 : qW) (n1 : Nat) => r = (9, 0) ∧ n1 = 142 ∧ yInv zgf zga zra zSp w1 ∧ w1 95 50 = 0 ∧ w1 95 51 = 0 ∧ (∀ p j, ymd p j trM2 = false → w1 p j = w p j)) :=
  trA_0_1 hF hd hc ⟨by omega, by omega⟩ hW ⟨by omega, by omega⟩ hI hw h50 h9 (fun w' hI' hfr f50 f51 =>
    qG.mono (K_tr174 0 (by decide) (fun _ => TR_1 hF) hd c W 1 D 0 hc hD hW ⟨by decide, by decide⟩ (by decide) hpc 1 (0, 0) w' hI' (fun p hp j => (hfr p j (trN_1 hp j)).trans (hw p hp j)) f50 f51) (fun v w1 n1 hh => ⟨hh.1, hh.2.1, hh.2.2.1, (hh.2.2.2 95 50 rfl).trans f50, (hh.2.2.2 95 51 rfl).trans f51, fun p j hp => (hh.2.2.2 p j (trM_t hp).2).trans (hfr p j (trM_t hp).1)⟩))
theorem TR_0_2 {w0 w : qW} (hF : zF w0) {d : Nat} {c W : Int} {D : Nat} (hd : 20 ≤ d) (hc : 0 ≤ c ∧ c ≤ 2) (hD : D < 1024) (hW : 1 ≤ W ∧ W ≤ 5) (hpc : pc (trX D 0) 10 ≤ 4) (hI : yInv zgf zga zra zSp w) (hw : ∀ p, ymem p trN = true → ∀ j, w p j = w0 p j) (h50 : w 95 50 = -1) (h9 : w 95 9 = -1) : qG none d 262 0 [(2, 95), (0, c), (0, (D : Int)), (0, W), (0, 2), (0, 0), (0, 0), (9, 0), (9, 0), (9, 0)] [] w 142 (fun (r : qV) (w1 : qW) (n1 : Nat) => r = (9, 0) ∧ n1 = 142 ∧ yInv zgf zga zra zSp w1 ∧ w1 95 50 = 0 ∧ w1 95 51 = 0 ∧ (∀ p j, ymd p j trM2 = false → w1 p j = w p j)) :=
  trA_0_2 hF hd hc ⟨by omega, by omega⟩ hW ⟨by omega, by omega⟩ hI hw h50 h9 (fun w' hI' hfr f50 f51 =>
    qG.mono (K_tr174 0 (by decide) (fun _ => TR_1 hF) hd c W 2 D 0 hc hD hW ⟨by decide, by decide⟩ (by decide) hpc 1 (0, 0) w' hI' (fun p hp j => (hfr p j (trN_1 hp j)).trans (hw p hp j)) f50 f51) (fun v w1 n1 hh => ⟨hh.1, hh.2.1, hh.2.2.1, (hh.2.2.2 95 50 rfl).trans f50, (hh.2.2.2 95 51 rfl).trans f51, fun p j hp => (hh.2.2.2 p j (trM_t hp).2).trans (hfr p j (trM_t hp).1)⟩))
theorem TR_0_3 {w0 w : qW} (hF : zF w0) {d : Nat} {c W : Int} {D : Nat} (hd : 20 ≤ d) (hc : 0 ≤ c ∧ c ≤ 2) (hD : D < 1024) (hW : 1 ≤ W ∧ W ≤ 5) (hpc : pc (trX D 0) 10 ≤ 4) (hI : yInv zgf zga zra zSp w) (hw : ∀ p, ymem p trN = true → ∀ j, w p j = w0 p j) (h50 : w 95 50 = -1) (h9 : w 95 9 = -1) : qG none d 262 0 [(2, 95), (0, c), (0, (D : Int)), (0, W), (0, 3), (0, 0), (0, 0), (9, 0), (9, 0), (9, 0)] [] w 142 (fun (r : qV) (w1 : qW) (n1 : Nat) => r = (9, 0) ∧ n1 = 142 ∧ yInv zgf zga zra zSp w1 ∧ w1 95 50 = 0 ∧ w1 95 51 = 0 ∧ (∀ p j, ymd p j trM2 = false → w1 p j = w p j)) :=
  trA_0_3 hF hd hc ⟨by omega, by omega⟩ hW ⟨by omega, by omega⟩ hI hw h50 h9 (fun w' hI' hfr f50 f51 =>
    qG.mono (K_tr174 0 (by decide) (fun _ => TR_1 hF) hd c W 3 D 0 hc hD hW ⟨by decide, by decide⟩ (by decide) hpc 1 (0, 0) w' hI' (fun p hp j => (hfr p j (trN_1 hp j)).trans (hw p hp j)) f50 f51) (fun v w1 n1 hh => ⟨hh.1, hh.2.1, hh.2.2.1, (hh.2.2.2 95 50 rfl).trans f50, (hh.2.2.2 95 51 rfl).trans f51, fun p j hp => (hh.2.2.2 p j (trM_t hp).2).trans (hfr p j (trM_t hp).1)⟩))
theorem TR_0_4 {w0 w : qW} (hF : zF w0) {d : Nat} {c W : Int} {D : Nat} (hd : 20 ≤ d) (hc : 0 ≤ c ∧ c ≤ 2) (hD : D < 1024) (hW : 1 ≤ W ∧ W ≤ 5) (hpc : pc (trX D 0) 10 ≤ 4) (hI : yInv zgf zga zra zSp w) (hw : ∀ p, ymem p trN = true → ∀ j, w p j = w0 p j) (h50 : w 95 50 = -1) (h9 : w 95 9 = -1) : qG none d 262 0 [(2, 95), (0, c), (0, (D : Int)), (0, W), (0, 4), (0, 0), (0, 0), (9, 0), (9, 0), (9, 0)] [] w 142 (fun (r : qV) (w1 : qW) (n1 : Nat) => r = (9, 0) ∧ n1 = 142 ∧ yInv zgf zga zra zSp w1 ∧ w1 95 50 = 0 ∧ w1 95 51 = 0 ∧ (∀ p j, ymd p j trM2 = false → w1 p j = w p j)) :=
  trA_0_4 hF hd hc ⟨by omega, by omega⟩ hW ⟨by omega, by omega⟩ hI hw h50 h9 (fun w' hI' hfr f50 f51 =>
    qG.mono (K_tr174 0 (by decide) (fun _ => TR_1 hF) hd c W 4 D 0 hc hD hW ⟨by decide, by decide⟩ (by decide) hpc 1 (0, 0) w' hI' (fun p hp j => (hfr p j (trN_1 hp j)).trans (hw p hp j)) f50 f51) (fun v w1 n1 hh => ⟨hh.1, hh.2.1, hh.2.2.1, (hh.2.2.2 95 50 rfl).trans f50, (hh.2.2.2 95 51 rfl).trans f51, fun p j hp => (hh.2.2.2 p j (trM_t hp).2).trans (hfr p j (trM_t hp).1)⟩))
