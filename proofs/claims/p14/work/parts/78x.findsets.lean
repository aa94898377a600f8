/-! the class's findSets: how many poses, and which -/
theorem fr_and {x v : Int} (hx : 0 ≤ x ∧ x ≤ 65535) (hv : 0 ≤ v ∧ v ≤ 65535) : qand x (qxor (qand 65535 (qxor v (-1))) (-1)) = qand x v := by
  obtain ⟨n, rfl⟩ : ∃ n : Nat, v = n := ⟨v.toNat, by omega⟩
  rw [fr_n (by omega), qxor_m1 (by omega) (by omega)]
  have hl : ∀ y, 0 ≤ qand x y ∧ qand x y ≤ 65535 := fun y => by
    rw [qand_c]
    have := qand_hi (x := y) (y := x) (d := 65535) hx.1 hx.2 (by decide)
    exact ⟨this.1, this.2⟩
  refine hb_ext (hl _) (hl _) (fun s hs => ?_)
  rw [hbit_and (by omega), hbit_and (by omega)]
  congr 1
  have e : hbit (-1 - ((65535 - n : Nat) : Int)) s = !hbit ((65535 - n : Nat) : Int) s := by
    rw [← qxor_m1 (x := ((65535 - n : Nat) : Int)) (by omega) (by omega), hbit_b (by omega), hbit_b (by omega)]
    unfold qxor
    rw [Int32.ofInt_toInt, Int32.toBitVec_xor, BitVec.getLsbD_xor]
    have h1 : (Int32.ofInt (-1)).toBitVec.getLsbD s = true := by
      have : ∀ s : Nat, s < 16 → (Int32.ofInt (-1)).toBitVec.getLsbD s = true := by decide +kernel
      exact this s hs
    rw [h1, Bool.xor_true]
  rw [e, hb_t (by omega) hs, hb_t (by omega) hs]
  have c : ∀ n : Nat, n < 65536 → (65535 - n).testBit s = !n.testBit s := fun n hn => by
    have z : 65535 - n = 2 ^ 16 - (n + 1) := by omega
    rw [z, Nat.testBit_two_pow_sub_succ (by omega)]
    rw [decide_eq_true hs, Bool.true_and]
  rw [c n (by omega), Bool.not_not]
theorem hang_x {R : Nat → Int} {P : Nat → Nat → Bool} (hR : ∀ s t, s < 16 → t < 16 → hbit (R s) t = P s t) {v : Nat} (h0 : 0 < v) (hv : v < 65536) (h4 : pc v 16 ≤ 4) : stI R (v : Int) (stI R (v : Int) (stI R (v : Int) (qand (v : Int) (wrp (-(v : Int)))))) = (v : Int) ↔ hgR P (v : Int) = (v : Int) := by
  rcases loF_ok (v := v) 16 (Nat.le_refl _) with ⟨-, b⟩ | ⟨a, b, c⟩
  · exfalso
    have : v = 0 := by
      apply Nat.eq_of_testBit_eq
      intro i
      rw [Nat.zero_testBit]
      by_cases hi : i < 16
      · exact b i hi
      · exact tb_hi hv hi
    omega
  · rw [low_eq (r := loF v 16) (by omega) a (by rw [hb_t hv a]; exact b) (fun t ht => by rw [hb_t hv (by omega)]; exact c t ht)]
    exact hang_eq hR (by omega) (by rw [cnt_pc hv]; exact h4) a (by rw [hb_t hv a]; exact b) (lo_h hv a b c)
/-- the class's table after i sets -/
noncomputable def FS (w : qW) (c k m i : Nat) (w9 : qW) : Prop := w9 24 3 = (((fpG w c k m i).length : Nat) : Int) ∧ (∀ j, j < (fpG w c k m i).length → w9 25 j = (((fpG w c k m i).getD j 0 : Nat) : Int)) ∧ ∀ q j, q ≠ 25 → ¬ (q = 24 ∧ j = 3) → w9 q j = w q j
theorem FS.no {w w9 : qW} {c k m i : Nat} (h : FS w c k m i w9) (e : fpd w c k (gN m i) = false) : FS w c k m (i + 1) w9 := by
  unfold FS
  rw [fpG_n e]
  exact h
theorem FS.yes {w w9 : qW} {c k m i : Nat} (h : FS w c k m i w9) (e : fpd w c k (gN m i) = true) : FS w c k m (i + 1) (qup (qup w9 25 (fpG w c k m i).length ((gN m i : Nat) : Int)) 24 3 (((fpG w c k m i).length + 1 : Nat) : Int)) := by
  obtain ⟨h1, h2, h3⟩ := h
  unfold FS
  rw [fpG_y e]
  refine ⟨?_, fun j hj => ?_, fun q j hq hf => ?_⟩
  · rw [qup_k, List.length_append]; rfl
  · rw [List.length_append] at hj
    have hj : j < (fpG w c k m i).length + 1 := hj
    rw [qup_ne (by decide)]
    by_cases z : j = (fpG w c k m i).length
    · rw [z, qup_k, List.getD_eq_getElem?_getD, List.getElem?_append_right (Nat.le_refl _), Nat.sub_self]; rfl
    · rw [qup_j z, h2 j (by omega), List.getD_eq_getElem?_getD, List.getD_eq_getElem?_getD, List.getElem?_append_left (by omega)]
  · rw [qup_f hf, qup_ne hq]
    exact h3 q j hq hf
theorem fpd_iff {w : qW} {c k n m i : Nat} (hg : gosC k n m = true) (hi : i < n) : fpd w c k (gN m i) = true ↔ qand ((gN m i : Nat) : Int) (w 96 c) = 0 ∧ hgR (pasB w c) ((gN m i : Nat) : Int) = ((gN m i : Nat) : Int) := by
  have q := (gos_f n m hg).1 i hi
  have hb : bitsF ((gN m i : Nat) : Int) 16 = (k : Int) := by rw [bitsF_pc (by omega) 16 (Nat.le_refl _), q.2.1]
  constructor
  · intro z
    unfold fpd at z
    rw [Bool.and_eq_true, Bool.and_eq_true, decide_eq_true_eq, decide_eq_true_eq, decide_eq_true_eq] at z
    exact ⟨z.1, z.2.2⟩
  · intro z
    exact fpd_y z.1 hb z.2
theorem K_freeX64 {d : Nat} (hd : 0 ≤ d) (w : qW) {x : Int} (hx : w 64 0 = x) : qG none d 25 0 [(2, 64)] [] w 142 (fun (r : qV) (w1 : qW) (n1 : Nat) => r = (0, qand 65535 (qxor x (-1))) ∧ w1 = w ∧ n1 = 142) := by
  generalize hQ9 : (fun (r : qV) (w1 : qW) (n1 : Nat) => r = (0, qand 65535 (qxor x (-1))) ∧ w1 = w ∧ n1 = 142) = Q9
  refine qG.blk 3 (pc' := 6) (ls' := [(2, 64)]) (st' := [(0, w 64 0), (0, 65535)]) (w' := w) (n' := 142) rfl ?_
  rw [show w 64 0 = x from hx]
  refine qG.blk 3 (pc' := 9) (ls' := [(2, 64)]) (st' := [(0, qand 65535 (qxor x (-1)))]) (w' := w) (n' := 142) rfl ?_
  refine qG.ret rfl rfl ?_
  subst hQ9
  exact ⟨rfl, rfl, rfl⟩
theorem K_findSets64 {d : Nat} (hd : 2 ≤ d) (k n m : Nat) (hk4 : k ≤ 4) (hg : gosC k n m = true) (hN : binm 16 k = n) (hn18 : n ≤ 1820) (hbud : budH n m 180 = true) (hm0 : wrp (qshl 1 ((k : Nat) : Int) - 1) = ((m : Nat) : Int)) (w : qW) (hI : yInv zgf zga zra zSp w) (hws : w 64 0 = w 96 0) (hsz : w 24 1 = ((k : Nat) : Int)) (hR : ∀ s t, s < 16 → t < 16 → hbit (w 65 s) t = pasB w 0 s t) : qG none d 95 0 [(2, 24), (2, 64), (9, 0), (9, 0), (9, 0)] [] w 142 (fun (r : qV) (w1 : qW) (n1 : Nat) => r = (9, 0) ∧ n1 = 142 ∧ FS w 0 k m n w1) := by
  generalize hQ9 : (fun (r : qV) (w1 : qW) (n1 : Nat) => r = (9, 0) ∧ n1 = 142 ∧ FS w 0 k m n w1) = Q9
  obtain ⟨N1, hN1⟩ : ∃ N : Int, N = 180 := ⟨_, rfl⟩
  obtain ⟨N18, hN18⟩ : ∃ N : Int, N = 1820 := ⟨_, rfl⟩
  obtain ⟨N65, hN65⟩ : ∃ N : Int, N = 65535 := ⟨_, rfl⟩
  obtain ⟨d, rfl⟩ : ∃ d9, d = d9 + 1 := ⟨d - 1, by omega⟩
  refine qG.blk 4 (pc' := 6) (ls' := [(2, 24), (2, 64), (9, 0), (9, 0), (9, 0)]) (st' := [(2, 64)]) (w' := (qup w 24 3 0)) (n' := 142) rfl ?_
  refine qG.call (t := 25) (na := 1) (sk := 1) (md := 1) (ls1 := [(2, 64)]) (r1 := []) rfl rfl rfl rfl rfl (K_freeX64 (Nat.zero_le _) (qup w 24 3 0) (show (qup w 24 3 0) 64 0 = w 96 0 by simp (disch := decide) only [qup_ne]; exact hws)) ?_
  rintro _ w7 _ ⟨rfl, hw7, rfl⟩
  rw [hw7]
  show qG none (d + 1) 95 9 [(2, 24), (2, 64), (9, 0), (9, 0), (9, 0)] [(0, qand 65535 (qxor (w 96 0) (-1)))] (qup w 24 3 0) 142 Q9
  refine qG.blk 4 (pc' := 15) (ls' := [(2, 24), (2, 64), (0, qand 65535 (qxor (w 96 0) (-1))), (9, 0), (9, 0)]) (st' := [(0, w 24 1), (0, 1)]) (w' := (qup w 24 3 0)) (n' := 142) rfl ?_
  rw [show w 24 1 = ((k : Nat) : Int) from hsz]
  refine qG.blk 3 (pc' := 18) (ls' := [(2, 24), (2, 64), (0, qand 65535 (qxor (w 96 0) (-1))), (9, 0), (9, 0)]) (st' := [(0, wrp ((qshl 1 ((k : Nat) : Int)) - 1))]) (w' := (qup w 24 3 0)) (n' := 142) rfl ?_
  rw [show wrp ((qshl 1 ((k : Nat) : Int)) - 1) = ((m : Nat) : Int) from hm0]
  refine qG.blk 3 (pc' := 22) (ls' := [(2, 24), (2, 64), (0, qand 65535 (qxor (w 96 0) (-1))), (0, ((m : Nat) : Int)), (0, 0)]) (st' := []) (w' := (qup w 24 3 0)) (n' := 142) rfl ?_
  have L22 : ∀ (m9 : Nat) (i : Nat) (w9 : qW), n - i = m9 → (i ≤ n ∧ FS w 0 k m i w9) → qG none (d + 1) 95 22 [(2, 24), (2, 64), (0, qand 65535 (qxor (w 96 0) (-1))), (0, ((gN m i : Nat) : Int)), (0, ((i : Nat) : Int))] [] w9 142 Q9 := by
    intro m9
    induction m9 using Nat.strongRecOn with
    | ind m9 ih22 =>
    intro i w9 hm22 hI22
    refine qG.blk 2 (pc' := 27) (ls' := [(2, 24), (2, 64), (0, qand 65535 (qxor (w 96 0) (-1))), (0, ((gN m i : Nat) : Int)), (0, ((i : Nat) : Int))]) (st' := [(0, 1820), (0, ((i : Nat) : Int))]) (w' := w9) (n' := 142) rfl ?_
    rw [show (1820 : Int) = N18 from hN18.symm]
    refine qG.br (P := ((i : Nat) : Int) < N18) (pc1 := 30) (pc2 := 93) (st1 := []) rfl (fun h27 => ?_) (fun h27 => ?_)
    · skip
      refine qG.blk 2 (pc' := 33) (ls' := [(2, 24), (2, 64), (0, qand 65535 (qxor (w 96 0) (-1))), (0, ((gN m i : Nat) : Int)), (0, ((i : Nat) : Int))]) (st' := [(0, 65535), (0, ((gN m i : Nat) : Int))]) (w' := w9) (n' := 142) rfl ?_
      rw [show (65535 : Int) = N65 from hN65.symm]
      refine qG.br (P := N65 < ((gN m i : Nat) : Int)) (pc1 := 93) (pc2 := 36) (st1 := []) rfl (fun h33 => ?_) (fun h33 => ?_)
      · skip
        have hin : ¬ i < n := fun z => by have q := ((gos_f n m hg).1 i z).1.2; omega
        refine qG.retv rfl rfl ?_
        subst hQ9
        exact ⟨rfl, rfl, (show i = n by omega) ▸ hI22.2⟩
      · skip
        rw [hN65]
        have hin : i < n := Decidable.byContradiction (fun z => h33 (by have q := (gos_f n m hg).2; rw [show i = n by omega]; omega))
        have hgi := (gos_f n m hg).1 i hin
        have hRr : ∀ s t, s < 16 → t < 16 → hbit (w9 65 s) t = pasB w 0 s t := fun s t hs ht => (by rw [hI22.2.2.2 65 s (by decide) (fun z => by cases z.1)]; exact hR s t hs ht)
        have hxr : 0 ≤ ((gN m i : Nat) : Int) ∧ ((gN m i : Nat) : Int) ≤ 65535 := by omega
        have hw6 := w96_in hI 0
        refine qG.blk 5 (pc' := 41) (ls' := [(2, 24), (2, 64), (0, qand 65535 (qxor (w 96 0) (-1))), (0, ((gN m i : Nat) : Int)), (0, ((i : Nat) : Int))]) (st' := [(0, qand ((gN m i : Nat) : Int) (qxor (qand 65535 (qxor (w 96 0) (-1))) (-1)))]) (w' := w9) (n' := 142) rfl ?_
        rw [show qand ((gN m i : Nat) : Int) (qxor (qand 65535 (qxor (w 96 0) (-1))) (-1)) = qand ((gN m i : Nat) : Int) (w 96 0) from fr_and hxr hw6]
        refine qG.br (P := qand ((gN m i : Nat) : Int) (w 96 0) = 0) (pc1 := 44) (pc2 := 82) (st1 := []) rfl (fun h41 => ?_) (fun h41 => ?_)
        · skip
          refine qG.blk 2 (pc' := 46) (ls' := [(2, 24), (2, 64), (0, qand 65535 (qxor (w 96 0) (-1))), (0, ((gN m i : Nat) : Int)), (0, ((i : Nat) : Int))]) (st' := [(0, ((gN m i : Nat) : Int)), (2, 64)]) (w' := w9) (n' := 142) rfl ?_
          refine qG.call (t := 29) (na := 2) (sk := 1) (md := 1) (ls1 := [(2, 64), (0, ((gN m i : Nat) : Int)), (9, 0), (9, 0)]) (r1 := []) rfl rfl rfl rfl rfl (K_hangsX64 (by omega) ((gN m i : Nat) : Int) w9 ((hI22.2.2.2 64 2 (by decide) (by decide)).trans (zref hI rfl rfl))) ?_
          rintro _ w7 _ ⟨rfl, hw7, rfl⟩
          rw [hw7]
          show qG none (d + 1) 95 49 [(2, 24), (2, 64), (0, qand 65535 (qxor (w 96 0) (-1))), (0, ((gN m i : Nat) : Int)), (0, ((i : Nat) : Int))] [(0, (if stI (w9 65) ((gN m i : Nat) : Int) (stI (w9 65) ((gN m i : Nat) : Int) (stI (w9 65) ((gN m i : Nat) : Int) (qand ((gN m i : Nat) : Int) (wrp (-((gN m i : Nat) : Int)))))) = ((gN m i : Nat) : Int) then 1 else 0))] w9 142 Q9
          refine qG.br (P := (if stI (w9 65) ((gN m i : Nat) : Int) (stI (w9 65) ((gN m i : Nat) : Int) (stI (w9 65) ((gN m i : Nat) : Int) (qand ((gN m i : Nat) : Int) (wrp (-((gN m i : Nat) : Int)))))) = ((gN m i : Nat) : Int) then 1 else 0) = 0) (pc1 := 82) (pc2 := 52) (st1 := []) rfl (fun hh9 => ?_) (fun hh9 => ?_)
          · skip
            have hh : ¬ stI (w9 65) ((gN m i : Nat) : Int) (stI (w9 65) ((gN m i : Nat) : Int) (stI (w9 65) ((gN m i : Nat) : Int) (qand ((gN m i : Nat) : Int) (wrp (-((gN m i : Nat) : Int)))))) = ((gN m i : Nat) : Int) := ite01.mp hh9
            refine qG.blk 1 (pc' := 83) (ls' := [(2, 24), (2, 64), (0, qand 65535 (qxor (w 96 0) (-1))), (0, ((gN m i : Nat) : Int)), (0, ((i : Nat) : Int))]) (st' := [(0, ((gN m i : Nat) : Int))]) (w' := w9) (n' := 142) rfl ?_
            refine qG.call (t := 96) (na := 1) (sk := 0) (md := 0) (ls1 := [(0, ((gN m i : Nat) : Int)), (9, 0), (9, 0)]) (r1 := []) rfl rfl rfl rfl rfl (K_nextOf (by omega) ((gN m i : Nat) : Int) w9) ?_
            rintro _ w7 _ ⟨rfl, hw7, rfl⟩
            rw [hw7, hgi.2.2.2]
            show qG none (d + 1) 95 86 [(2, 24), (2, 64), (0, qand 65535 (qxor (w 96 0) (-1))), (0, ((gN m i : Nat) : Int)), (0, ((i : Nat) : Int))] [(0, ((gN m (i + 1) : Nat) : Int))] w9 142 Q9
            refine qG.blk 2 (pc' := 90) (ls' := [(2, 24), (2, 64), (0, qand 65535 (qxor (w 96 0) (-1))), (0, ((gN m (i + 1) : Nat) : Int)), (0, wrp (((i : Nat) : Int) + 1))]) (st' := []) (w' := w9) (n' := 142) rfl ?_
            rw [show wrp (((i : Nat) : Int) + 1) = ((i + 1 : Nat) : Int) from wrp_id (by omega) (by omega)]
            refine qG.blk 1 (pc' := 22) (ls' := [(2, 24), (2, 64), (0, qand 65535 (qxor (w 96 0) (-1))), (0, ((gN m (i + 1) : Nat) : Int)), (0, ((i + 1 : Nat) : Int))]) (st' := []) (w' := w9) (n' := 142) rfl ?_
            have hno : fpd w 0 k (gN m i) = false := by
              cases e9 : fpd w 0 k (gN m i)
              · rfl
              · exfalso
                have z := (fpd_iff hg hin).mp e9
                first | exact h41 z.1 | exact hh ((hang_x hRr hgi.1.1 (by omega) (by rw [hgi.2.1]; exact hk4)).mpr z.2) | omega
            exact ih22 _ (by omega) (i + 1) w9 rfl ⟨by omega, FS.no hI22.2 hno⟩
          · skip
            have hh : stI (w9 65) ((gN m i : Nat) : Int) (stI (w9 65) ((gN m i : Nat) : Int) (stI (w9 65) ((gN m i : Nat) : Int) (qand ((gN m i : Nat) : Int) (wrp (-((gN m i : Nat) : Int)))))) = ((gN m i : Nat) : Int) := Decidable.of_not_not (fun z => hh9 (ite01.mpr z))
            have hyes : fpd w 0 k (gN m i) = true := (fpd_iff hg hin).mpr ⟨h41, (hang_x hRr hgi.1.1 (by omega) (by rw [hgi.2.1]; exact hk4)).mp hh⟩
            have hle := fp_180 (w := w) (c := 0) hg hN hk4 hbud (i + 1) (by omega)
            rw [fpG_y hyes, List.length_append] at hle
            have hle2 : (fpG w 0 k m i).length + 1 ≤ 180 := hle
            refine qG.blk 2 (pc' := 56) (ls' := [(2, 24), (2, 64), (0, qand 65535 (qxor (w 96 0) (-1))), (0, ((gN m i : Nat) : Int)), (0, ((i : Nat) : Int))]) (st' := [(0, w9 24 3)]) (w' := w9) (n' := 142) rfl ?_
            rw [show w9 24 3 = (((fpG w 0 k m i).length : Nat) : Int) from hI22.2.1]
            refine qG.blk 1 (pc' := 59) (ls' := [(2, 24), (2, 64), (0, qand 65535 (qxor (w 96 0) (-1))), (0, ((gN m i : Nat) : Int)), (0, ((i : Nat) : Int))]) (st' := [(0, 180), (0, (((fpG w 0 k m i).length : Nat) : Int))]) (w' := w9) (n' := 142) rfl ?_
            rw [show (180 : Int) = N1 from hN1.symm]
            refine qG.br (P := (((fpG w 0 k m i).length : Nat) : Int) < N1) (pc1 := 62) (pc2 := 82) (st1 := []) rfl (fun h59 => ?_) (fun h59 => ?_)
            · skip
              refine qG.blk 2 (pc' := 66) (ls' := [(2, 24), (2, 64), (0, qand 65535 (qxor (w 96 0) (-1))), (0, ((gN m i : Nat) : Int)), (0, ((i : Nat) : Int))]) (st' := [(2, w9 24 4)]) (w' := w9) (n' := 142) rfl ?_
              rw [show w9 24 4 = 25 from (hI22.2.2.2 24 4 (by decide) (by decide)).trans (zref hI rfl rfl)]
              refine qG.blk 2 (pc' := 70) (ls' := [(2, 24), (2, 64), (0, qand 65535 (qxor (w 96 0) (-1))), (0, ((gN m i : Nat) : Int)), (0, ((i : Nat) : Int))]) (st' := [(0, w9 24 3), (2, 25)]) (w' := w9) (n' := 142) rfl ?_
              rw [show w9 24 3 = (((fpG w 0 k m i).length : Nat) : Int) from hI22.2.1]
              refine qG.blk 1 (pc' := 71) (ls' := [(2, 24), (2, 64), (0, qand 65535 (qxor (w 96 0) (-1))), (0, ((gN m i : Nat) : Int)), (0, ((i : Nat) : Int))]) (st' := [(0, ((gN m i : Nat) : Int)), (0, (((fpG w 0 k m i).length : Nat) : Int)), (2, 25)]) (w' := w9) (n' := 142) rfl ?_
              refine qG.ist (m := 180) rfl rfl (by omega) (by decide) ?_
              show qG none (d + 1) 95 72 [(2, 24), (2, 64), (0, qand 65535 (qxor (w 96 0) (-1))), (0, ((gN m i : Nat) : Int)), (0, ((i : Nat) : Int))] [] (qup w9 25 ((fpG w 0 k m i).length) ((gN m i : Nat) : Int)) 142 Q9
              refine qG.blk 3 (pc' := 77) (ls' := [(2, 24), (2, 64), (0, qand 65535 (qxor (w 96 0) (-1))), (0, ((gN m i : Nat) : Int)), (0, ((i : Nat) : Int))]) (st' := [(0, w9 24 3), (2, 24)]) (w' := (qup w9 25 ((fpG w 0 k m i).length) ((gN m i : Nat) : Int))) (n' := 142) rfl ?_
              rw [show w9 24 3 = (((fpG w 0 k m i).length : Nat) : Int) from hI22.2.1]
              refine qG.blk 2 (pc' := 79) (ls' := [(2, 24), (2, 64), (0, qand 65535 (qxor (w 96 0) (-1))), (0, ((gN m i : Nat) : Int)), (0, ((i : Nat) : Int))]) (st' := [(0, wrp ((((fpG w 0 k m i).length : Nat) : Int) + 1)), (2, 24)]) (w' := (qup w9 25 ((fpG w 0 k m i).length) ((gN m i : Nat) : Int))) (n' := 142) rfl ?_
              rw [show wrp ((((fpG w 0 k m i).length : Nat) : Int) + 1) = (((fpG w 0 k m i).length + 1 : Nat) : Int) from by rw [wrp_id (by omega) (by omega)]; omega]
              refine qG.blk 2 (pc' := 83) (ls' := [(2, 24), (2, 64), (0, qand 65535 (qxor (w 96 0) (-1))), (0, ((gN m i : Nat) : Int)), (0, ((i : Nat) : Int))]) (st' := [(0, ((gN m i : Nat) : Int))]) (w' := (qup (qup w9 25 ((fpG w 0 k m i).length) ((gN m i : Nat) : Int)) 24 3 (((fpG w 0 k m i).length + 1 : Nat) : Int))) (n' := 142) rfl ?_
              refine qG.call (t := 96) (na := 1) (sk := 0) (md := 0) (ls1 := [(0, ((gN m i : Nat) : Int)), (9, 0), (9, 0)]) (r1 := []) rfl rfl rfl rfl rfl (K_nextOf (by omega) ((gN m i : Nat) : Int) (qup (qup w9 25 ((fpG w 0 k m i).length) ((gN m i : Nat) : Int)) 24 3 (((fpG w 0 k m i).length + 1 : Nat) : Int))) ?_
              rintro _ w7 _ ⟨rfl, hw7, rfl⟩
              rw [hw7, hgi.2.2.2]
              show qG none (d + 1) 95 86 [(2, 24), (2, 64), (0, qand 65535 (qxor (w 96 0) (-1))), (0, ((gN m i : Nat) : Int)), (0, ((i : Nat) : Int))] [(0, ((gN m (i + 1) : Nat) : Int))] (qup (qup w9 25 ((fpG w 0 k m i).length) ((gN m i : Nat) : Int)) 24 3 (((fpG w 0 k m i).length + 1 : Nat) : Int)) 142 Q9
              refine qG.blk 2 (pc' := 90) (ls' := [(2, 24), (2, 64), (0, qand 65535 (qxor (w 96 0) (-1))), (0, ((gN m (i + 1) : Nat) : Int)), (0, wrp (((i : Nat) : Int) + 1))]) (st' := []) (w' := (qup (qup w9 25 ((fpG w 0 k m i).length) ((gN m i : Nat) : Int)) 24 3 (((fpG w 0 k m i).length + 1 : Nat) : Int))) (n' := 142) rfl ?_
              rw [show wrp (((i : Nat) : Int) + 1) = ((i + 1 : Nat) : Int) from wrp_id (by omega) (by omega)]
              refine qG.blk 1 (pc' := 22) (ls' := [(2, 24), (2, 64), (0, qand 65535 (qxor (w 96 0) (-1))), (0, ((gN m (i + 1) : Nat) : Int)), (0, ((i + 1 : Nat) : Int))]) (st' := []) (w' := (qup (qup w9 25 ((fpG w 0 k m i).length) ((gN m i : Nat) : Int)) 24 3 (((fpG w 0 k m i).length + 1 : Nat) : Int))) (n' := 142) rfl ?_
              exact ih22 _ (by omega) (i + 1) ((qup (qup w9 25 ((fpG w 0 k m i).length) ((gN m i : Nat) : Int)) 24 3 (((fpG w 0 k m i).length + 1 : Nat) : Int))) rfl ⟨by omega, FS.yes hI22.2 hyes⟩
            · exfalso; omega
        · skip
          refine qG.blk 1 (pc' := 83) (ls' := [(2, 24), (2, 64), (0, qand 65535 (qxor (w 96 0) (-1))), (0, ((gN m i : Nat) : Int)), (0, ((i : Nat) : Int))]) (st' := [(0, ((gN m i : Nat) : Int))]) (w' := w9) (n' := 142) rfl ?_
          refine qG.call (t := 96) (na := 1) (sk := 0) (md := 0) (ls1 := [(0, ((gN m i : Nat) : Int)), (9, 0), (9, 0)]) (r1 := []) rfl rfl rfl rfl rfl (K_nextOf (by omega) ((gN m i : Nat) : Int) w9) ?_
          rintro _ w7 _ ⟨rfl, hw7, rfl⟩
          rw [hw7, hgi.2.2.2]
          show qG none (d + 1) 95 86 [(2, 24), (2, 64), (0, qand 65535 (qxor (w 96 0) (-1))), (0, ((gN m i : Nat) : Int)), (0, ((i : Nat) : Int))] [(0, ((gN m (i + 1) : Nat) : Int))] w9 142 Q9
          refine qG.blk 2 (pc' := 90) (ls' := [(2, 24), (2, 64), (0, qand 65535 (qxor (w 96 0) (-1))), (0, ((gN m (i + 1) : Nat) : Int)), (0, wrp (((i : Nat) : Int) + 1))]) (st' := []) (w' := w9) (n' := 142) rfl ?_
          rw [show wrp (((i : Nat) : Int) + 1) = ((i + 1 : Nat) : Int) from wrp_id (by omega) (by omega)]
          refine qG.blk 1 (pc' := 22) (ls' := [(2, 24), (2, 64), (0, qand 65535 (qxor (w 96 0) (-1))), (0, ((gN m (i + 1) : Nat) : Int)), (0, ((i + 1 : Nat) : Int))]) (st' := []) (w' := w9) (n' := 142) rfl ?_
          have hno : fpd w 0 k (gN m i) = false := by
            cases e9 : fpd w 0 k (gN m i)
            · rfl
            · exfalso
              have z := (fpd_iff hg hin).mp e9
              first | exact h41 z.1 | exact hh ((hang_x hRr hgi.1.1 (by omega) (by rw [hgi.2.1]; exact hk4)).mpr z.2) | omega
          exact ih22 _ (by omega) (i + 1) w9 rfl ⟨by omega, FS.no hI22.2 hno⟩
    · skip
      refine qG.retv rfl rfl ?_
      subst hQ9
      exact ⟨rfl, rfl, (show i = n by omega) ▸ hI22.2⟩
  exact L22 _ (0) ((qup w 24 3 0)) rfl (⟨by omega, rfl, fun j hj => absurd hj (Nat.not_lt_zero j), fun q j h1 h2 => qup_f h2⟩)
theorem K_freeX69 {d : Nat} (hd : 0 ≤ d) (w : qW) {x : Int} (hx : w 69 0 = x) : qG none d 25 0 [(2, 69)] [] w 142 (fun (r : qV) (w1 : qW) (n1 : Nat) => r = (0, qand 65535 (qxor x (-1))) ∧ w1 = w ∧ n1 = 142) := by
  generalize hQ9 : (fun (r : qV) (w1 : qW) (n1 : Nat) => r = (0, qand 65535 (qxor x (-1))) ∧ w1 = w ∧ n1 = 142) = Q9
  refine qG.blk 3 (pc' := 6) (ls' := [(2, 69)]) (st' := [(0, w 69 0), (0, 65535)]) (w' := w) (n' := 142) rfl ?_
  rw [show w 69 0 = x from hx]
  refine qG.blk 3 (pc' := 9) (ls' := [(2, 69)]) (st' := [(0, qand 65535 (qxor x (-1)))]) (w' := w) (n' := 142) rfl ?_
  refine qG.ret rfl rfl ?_
  subst hQ9
  exact ⟨rfl, rfl, rfl⟩
theorem K_findSets69 {d : Nat} (hd : 2 ≤ d) (k n m : Nat) (hk4 : k ≤ 4) (hg : gosC k n m = true) (hN : binm 16 k = n) (hn18 : n ≤ 1820) (hbud : budH n m 180 = true) (hm0 : wrp (qshl 1 ((k : Nat) : Int) - 1) = ((m : Nat) : Int)) (w : qW) (hI : yInv zgf zga zra zSp w) (hws : w 69 0 = w 96 1) (hsz : w 24 1 = ((k : Nat) : Int)) (hR : ∀ s t, s < 16 → t < 16 → hbit (w 70 s) t = pasB w 1 s t) : qG none d 95 0 [(2, 24), (2, 69), (9, 0), (9, 0), (9, 0)] [] w 142 (fun (r : qV) (w1 : qW) (n1 : Nat) => r = (9, 0) ∧ n1 = 142 ∧ FS w 1 k m n w1) := by
  generalize hQ9 : (fun (r : qV) (w1 : qW) (n1 : Nat) => r = (9, 0) ∧ n1 = 142 ∧ FS w 1 k m n w1) = Q9
  obtain ⟨N1, hN1⟩ : ∃ N : Int, N = 180 := ⟨_, rfl⟩
  obtain ⟨N18, hN18⟩ : ∃ N : Int, N = 1820 := ⟨_, rfl⟩
  obtain ⟨N65, hN65⟩ : ∃ N : Int, N = 65535 := ⟨_, rfl⟩
  obtain ⟨d, rfl⟩ : ∃ d9, d = d9 + 1 := ⟨d - 1, by omega⟩
  refine qG.blk 4 (pc' := 6) (ls' := [(2, 24), (2, 69), (9, 0), (9, 0), (9, 0)]) (st' := [(2, 69)]) (w' := (qup w 24 3 0)) (n' := 142) rfl ?_
  refine qG.call (t := 25) (na := 1) (sk := 1) (md := 1) (ls1 := [(2, 69)]) (r1 := []) rfl rfl rfl rfl rfl (K_freeX69 (Nat.zero_le _) (qup w 24 3 0) (show (qup w 24 3 0) 69 0 = w 96 1 by simp (disch := decide) only [qup_ne]; exact hws)) ?_
  rintro _ w7 _ ⟨rfl, hw7, rfl⟩
  rw [hw7]
  show qG none (d + 1) 95 9 [(2, 24), (2, 69), (9, 0), (9, 0), (9, 0)] [(0, qand 65535 (qxor (w 96 1) (-1)))] (qup w 24 3 0) 142 Q9
  refine qG.blk 4 (pc' := 15) (ls' := [(2, 24), (2, 69), (0, qand 65535 (qxor (w 96 1) (-1))), (9, 0), (9, 0)]) (st' := [(0, w 24 1), (0, 1)]) (w' := (qup w 24 3 0)) (n' := 142) rfl ?_
  rw [show w 24 1 = ((k : Nat) : Int) from hsz]
  refine qG.blk 3 (pc' := 18) (ls' := [(2, 24), (2, 69), (0, qand 65535 (qxor (w 96 1) (-1))), (9, 0), (9, 0)]) (st' := [(0, wrp ((qshl 1 ((k : Nat) : Int)) - 1))]) (w' := (qup w 24 3 0)) (n' := 142) rfl ?_
  rw [show wrp ((qshl 1 ((k : Nat) : Int)) - 1) = ((m : Nat) : Int) from hm0]
  refine qG.blk 3 (pc' := 22) (ls' := [(2, 24), (2, 69), (0, qand 65535 (qxor (w 96 1) (-1))), (0, ((m : Nat) : Int)), (0, 0)]) (st' := []) (w' := (qup w 24 3 0)) (n' := 142) rfl ?_
  have L22 : ∀ (m9 : Nat) (i : Nat) (w9 : qW), n - i = m9 → (i ≤ n ∧ FS w 1 k m i w9) → qG none (d + 1) 95 22 [(2, 24), (2, 69), (0, qand 65535 (qxor (w 96 1) (-1))), (0, ((gN m i : Nat) : Int)), (0, ((i : Nat) : Int))] [] w9 142 Q9 := by
    intro m9
    induction m9 using Nat.strongRecOn with
    | ind m9 ih22 =>
    intro i w9 hm22 hI22
    refine qG.blk 2 (pc' := 27) (ls' := [(2, 24), (2, 69), (0, qand 65535 (qxor (w 96 1) (-1))), (0, ((gN m i : Nat) : Int)), (0, ((i : Nat) : Int))]) (st' := [(0, 1820), (0, ((i : Nat) : Int))]) (w' := w9) (n' := 142) rfl ?_
    rw [show (1820 : Int) = N18 from hN18.symm]
    refine qG.br (P := ((i : Nat) : Int) < N18) (pc1 := 30) (pc2 := 93) (st1 := []) rfl (fun h27 => ?_) (fun h27 => ?_)
    · skip
      refine qG.blk 2 (pc' := 33) (ls' := [(2, 24), (2, 69), (0, qand 65535 (qxor (w 96 1) (-1))), (0, ((gN m i : Nat) : Int)), (0, ((i : Nat) : Int))]) (st' := [(0, 65535), (0, ((gN m i : Nat) : Int))]) (w' := w9) (n' := 142) rfl ?_
      rw [show (65535 : Int) = N65 from hN65.symm]
      refine qG.br (P := N65 < ((gN m i : Nat) : Int)) (pc1 := 93) (pc2 := 36) (st1 := []) rfl (fun h33 => ?_) (fun h33 => ?_)
      · skip
        have hin : ¬ i < n := fun z => by have q := ((gos_f n m hg).1 i z).1.2; omega
        refine qG.retv rfl rfl ?_
        subst hQ9
        exact ⟨rfl, rfl, (show i = n by omega) ▸ hI22.2⟩
      · skip
        rw [hN65]
        have hin : i < n := Decidable.byContradiction (fun z => h33 (by have q := (gos_f n m hg).2; rw [show i = n by omega]; omega))
        have hgi := (gos_f n m hg).1 i hin
        have hRr : ∀ s t, s < 16 → t < 16 → hbit (w9 70 s) t = pasB w 1 s t := fun s t hs ht => (by rw [hI22.2.2.2 70 s (by decide) (fun z => by cases z.1)]; exact hR s t hs ht)
        have hxr : 0 ≤ ((gN m i : Nat) : Int) ∧ ((gN m i : Nat) : Int) ≤ 65535 := by omega
        have hw6 := w96_in hI 1
        refine qG.blk 5 (pc' := 41) (ls' := [(2, 24), (2, 69), (0, qand 65535 (qxor (w 96 1) (-1))), (0, ((gN m i : Nat) : Int)), (0, ((i : Nat) : Int))]) (st' := [(0, qand ((gN m i : Nat) : Int) (qxor (qand 65535 (qxor (w 96 1) (-1))) (-1)))]) (w' := w9) (n' := 142) rfl ?_
        rw [show qand ((gN m i : Nat) : Int) (qxor (qand 65535 (qxor (w 96 1) (-1))) (-1)) = qand ((gN m i : Nat) : Int) (w 96 1) from fr_and hxr hw6]
        refine qG.br (P := qand ((gN m i : Nat) : Int) (w 96 1) = 0) (pc1 := 44) (pc2 := 82) (st1 := []) rfl (fun h41 => ?_) (fun h41 => ?_)
        · skip
          refine qG.blk 2 (pc' := 46) (ls' := [(2, 24), (2, 69), (0, qand 65535 (qxor (w 96 1) (-1))), (0, ((gN m i : Nat) : Int)), (0, ((i : Nat) : Int))]) (st' := [(0, ((gN m i : Nat) : Int)), (2, 69)]) (w' := w9) (n' := 142) rfl ?_
          refine qG.call (t := 29) (na := 2) (sk := 1) (md := 1) (ls1 := [(2, 69), (0, ((gN m i : Nat) : Int)), (9, 0), (9, 0)]) (r1 := []) rfl rfl rfl rfl rfl (K_hangsX69 (by omega) ((gN m i : Nat) : Int) w9 ((hI22.2.2.2 69 2 (by decide) (by decide)).trans (zref hI rfl rfl))) ?_
          rintro _ w7 _ ⟨rfl, hw7, rfl⟩
          rw [hw7]
          show qG none (d + 1) 95 49 [(2, 24), (2, 69), (0, qand 65535 (qxor (w 96 1) (-1))), (0, ((gN m i : Nat) : Int)), (0, ((i : Nat) : Int))] [(0, (if stI (w9 70) ((gN m i : Nat) : Int) (stI (w9 70) ((gN m i : Nat) : Int) (stI (w9 70) ((gN m i : Nat) : Int) (qand ((gN m i : Nat) : Int) (wrp (-((gN m i : Nat) : Int)))))) = ((gN m i : Nat) : Int) then 1 else 0))] w9 142 Q9
          refine qG.br (P := (if stI (w9 70) ((gN m i : Nat) : Int) (stI (w9 70) ((gN m i : Nat) : Int) (stI (w9 70) ((gN m i : Nat) : Int) (qand ((gN m i : Nat) : Int) (wrp (-((gN m i : Nat) : Int)))))) = ((gN m i : Nat) : Int) then 1 else 0) = 0) (pc1 := 82) (pc2 := 52) (st1 := []) rfl (fun hh9 => ?_) (fun hh9 => ?_)
          · skip
            have hh : ¬ stI (w9 70) ((gN m i : Nat) : Int) (stI (w9 70) ((gN m i : Nat) : Int) (stI (w9 70) ((gN m i : Nat) : Int) (qand ((gN m i : Nat) : Int) (wrp (-((gN m i : Nat) : Int)))))) = ((gN m i : Nat) : Int) := ite01.mp hh9
            refine qG.blk 1 (pc' := 83) (ls' := [(2, 24), (2, 69), (0, qand 65535 (qxor (w 96 1) (-1))), (0, ((gN m i : Nat) : Int)), (0, ((i : Nat) : Int))]) (st' := [(0, ((gN m i : Nat) : Int))]) (w' := w9) (n' := 142) rfl ?_
            refine qG.call (t := 96) (na := 1) (sk := 0) (md := 0) (ls1 := [(0, ((gN m i : Nat) : Int)), (9, 0), (9, 0)]) (r1 := []) rfl rfl rfl rfl rfl (K_nextOf (by omega) ((gN m i : Nat) : Int) w9) ?_
            rintro _ w7 _ ⟨rfl, hw7, rfl⟩
            rw [hw7, hgi.2.2.2]
            show qG none (d + 1) 95 86 [(2, 24), (2, 69), (0, qand 65535 (qxor (w 96 1) (-1))), (0, ((gN m i : Nat) : Int)), (0, ((i : Nat) : Int))] [(0, ((gN m (i + 1) : Nat) : Int))] w9 142 Q9
            refine qG.blk 2 (pc' := 90) (ls' := [(2, 24), (2, 69), (0, qand 65535 (qxor (w 96 1) (-1))), (0, ((gN m (i + 1) : Nat) : Int)), (0, wrp (((i : Nat) : Int) + 1))]) (st' := []) (w' := w9) (n' := 142) rfl ?_
            rw [show wrp (((i : Nat) : Int) + 1) = ((i + 1 : Nat) : Int) from wrp_id (by omega) (by omega)]
            refine qG.blk 1 (pc' := 22) (ls' := [(2, 24), (2, 69), (0, qand 65535 (qxor (w 96 1) (-1))), (0, ((gN m (i + 1) : Nat) : Int)), (0, ((i + 1 : Nat) : Int))]) (st' := []) (w' := w9) (n' := 142) rfl ?_
            have hno : fpd w 1 k (gN m i) = false := by
              cases e9 : fpd w 1 k (gN m i)
              · rfl
              · exfalso
                have z := (fpd_iff hg hin).mp e9
                first | exact h41 z.1 | exact hh ((hang_x hRr hgi.1.1 (by omega) (by rw [hgi.2.1]; exact hk4)).mpr z.2) | omega
            exact ih22 _ (by omega) (i + 1) w9 rfl ⟨by omega, FS.no hI22.2 hno⟩
          · skip
            have hh : stI (w9 70) ((gN m i : Nat) : Int) (stI (w9 70) ((gN m i : Nat) : Int) (stI (w9 70) ((gN m i : Nat) : Int) (qand ((gN m i : Nat) : Int) (wrp (-((gN m i : Nat) : Int)))))) = ((gN m i : Nat) : Int) := Decidable.of_not_not (fun z => hh9 (ite01.mpr z))
            have hyes : fpd w 1 k (gN m i) = true := (fpd_iff hg hin).mpr ⟨h41, (hang_x hRr hgi.1.1 (by omega) (by rw [hgi.2.1]; exact hk4)).mp hh⟩
            have hle := fp_180 (w := w) (c := 1) hg hN hk4 hbud (i + 1) (by omega)
            rw [fpG_y hyes, List.length_append] at hle
            have hle2 : (fpG w 1 k m i).length + 1 ≤ 180 := hle
            refine qG.blk 2 (pc' := 56) (ls' := [(2, 24), (2, 69), (0, qand 65535 (qxor (w 96 1) (-1))), (0, ((gN m i : Nat) : Int)), (0, ((i : Nat) : Int))]) (st' := [(0, w9 24 3)]) (w' := w9) (n' := 142) rfl ?_
            rw [show w9 24 3 = (((fpG w 1 k m i).length : Nat) : Int) from hI22.2.1]
            refine qG.blk 1 (pc' := 59) (ls' := [(2, 24), (2, 69), (0, qand 65535 (qxor (w 96 1) (-1))), (0, ((gN m i : Nat) : Int)), (0, ((i : Nat) : Int))]) (st' := [(0, 180), (0, (((fpG w 1 k m i).length : Nat) : Int))]) (w' := w9) (n' := 142) rfl ?_
            rw [show (180 : Int) = N1 from hN1.symm]
            refine qG.br (P := (((fpG w 1 k m i).length : Nat) : Int) < N1) (pc1 := 62) (pc2 := 82) (st1 := []) rfl (fun h59 => ?_) (fun h59 => ?_)
            · skip
              refine qG.blk 2 (pc' := 66) (ls' := [(2, 24), (2, 69), (0, qand 65535 (qxor (w 96 1) (-1))), (0, ((gN m i : Nat) : Int)), (0, ((i : Nat) : Int))]) (st' := [(2, w9 24 4)]) (w' := w9) (n' := 142) rfl ?_
              rw [show w9 24 4 = 25 from (hI22.2.2.2 24 4 (by decide) (by decide)).trans (zref hI rfl rfl)]
              refine qG.blk 2 (pc' := 70) (ls' := [(2, 24), (2, 69), (0, qand 65535 (qxor (w 96 1) (-1))), (0, ((gN m i : Nat) : Int)), (0, ((i : Nat) : Int))]) (st' := [(0, w9 24 3), (2, 25)]) (w' := w9) (n' := 142) rfl ?_
              rw [show w9 24 3 = (((fpG w 1 k m i).length : Nat) : Int) from hI22.2.1]
              refine qG.blk 1 (pc' := 71) (ls' := [(2, 24), (2, 69), (0, qand 65535 (qxor (w 96 1) (-1))), (0, ((gN m i : Nat) : Int)), (0, ((i : Nat) : Int))]) (st' := [(0, ((gN m i : Nat) : Int)), (0, (((fpG w 1 k m i).length : Nat) : Int)), (2, 25)]) (w' := w9) (n' := 142) rfl ?_
              refine qG.ist (m := 180) rfl rfl (by omega) (by decide) ?_
              show qG none (d + 1) 95 72 [(2, 24), (2, 69), (0, qand 65535 (qxor (w 96 1) (-1))), (0, ((gN m i : Nat) : Int)), (0, ((i : Nat) : Int))] [] (qup w9 25 ((fpG w 1 k m i).length) ((gN m i : Nat) : Int)) 142 Q9
              refine qG.blk 3 (pc' := 77) (ls' := [(2, 24), (2, 69), (0, qand 65535 (qxor (w 96 1) (-1))), (0, ((gN m i : Nat) : Int)), (0, ((i : Nat) : Int))]) (st' := [(0, w9 24 3), (2, 24)]) (w' := (qup w9 25 ((fpG w 1 k m i).length) ((gN m i : Nat) : Int))) (n' := 142) rfl ?_
              rw [show w9 24 3 = (((fpG w 1 k m i).length : Nat) : Int) from hI22.2.1]
              refine qG.blk 2 (pc' := 79) (ls' := [(2, 24), (2, 69), (0, qand 65535 (qxor (w 96 1) (-1))), (0, ((gN m i : Nat) : Int)), (0, ((i : Nat) : Int))]) (st' := [(0, wrp ((((fpG w 1 k m i).length : Nat) : Int) + 1)), (2, 24)]) (w' := (qup w9 25 ((fpG w 1 k m i).length) ((gN m i : Nat) : Int))) (n' := 142) rfl ?_
              rw [show wrp ((((fpG w 1 k m i).length : Nat) : Int) + 1) = (((fpG w 1 k m i).length + 1 : Nat) : Int) from by rw [wrp_id (by omega) (by omega)]; omega]
              refine qG.blk 2 (pc' := 83) (ls' := [(2, 24), (2, 69), (0, qand 65535 (qxor (w 96 1) (-1))), (0, ((gN m i : Nat) : Int)), (0, ((i : Nat) : Int))]) (st' := [(0, ((gN m i : Nat) : Int))]) (w' := (qup (qup w9 25 ((fpG w 1 k m i).length) ((gN m i : Nat) : Int)) 24 3 (((fpG w 1 k m i).length + 1 : Nat) : Int))) (n' := 142) rfl ?_
              refine qG.call (t := 96) (na := 1) (sk := 0) (md := 0) (ls1 := [(0, ((gN m i : Nat) : Int)), (9, 0), (9, 0)]) (r1 := []) rfl rfl rfl rfl rfl (K_nextOf (by omega) ((gN m i : Nat) : Int) (qup (qup w9 25 ((fpG w 1 k m i).length) ((gN m i : Nat) : Int)) 24 3 (((fpG w 1 k m i).length + 1 : Nat) : Int))) ?_
              rintro _ w7 _ ⟨rfl, hw7, rfl⟩
              rw [hw7, hgi.2.2.2]
              show qG none (d + 1) 95 86 [(2, 24), (2, 69), (0, qand 65535 (qxor (w 96 1) (-1))), (0, ((gN m i : Nat) : Int)), (0, ((i : Nat) : Int))] [(0, ((gN m (i + 1) : Nat) : Int))] (qup (qup w9 25 ((fpG w 1 k m i).length) ((gN m i : Nat) : Int)) 24 3 (((fpG w 1 k m i).length + 1 : Nat) : Int)) 142 Q9
              refine qG.blk 2 (pc' := 90) (ls' := [(2, 24), (2, 69), (0, qand 65535 (qxor (w 96 1) (-1))), (0, ((gN m (i + 1) : Nat) : Int)), (0, wrp (((i : Nat) : Int) + 1))]) (st' := []) (w' := (qup (qup w9 25 ((fpG w 1 k m i).length) ((gN m i : Nat) : Int)) 24 3 (((fpG w 1 k m i).length + 1 : Nat) : Int))) (n' := 142) rfl ?_
              rw [show wrp (((i : Nat) : Int) + 1) = ((i + 1 : Nat) : Int) from wrp_id (by omega) (by omega)]
              refine qG.blk 1 (pc' := 22) (ls' := [(2, 24), (2, 69), (0, qand 65535 (qxor (w 96 1) (-1))), (0, ((gN m (i + 1) : Nat) : Int)), (0, ((i + 1 : Nat) : Int))]) (st' := []) (w' := (qup (qup w9 25 ((fpG w 1 k m i).length) ((gN m i : Nat) : Int)) 24 3 (((fpG w 1 k m i).length + 1 : Nat) : Int))) (n' := 142) rfl ?_
              exact ih22 _ (by omega) (i + 1) ((qup (qup w9 25 ((fpG w 1 k m i).length) ((gN m i : Nat) : Int)) 24 3 (((fpG w 1 k m i).length + 1 : Nat) : Int))) rfl ⟨by omega, FS.yes hI22.2 hyes⟩
            · exfalso; omega
        · skip
          refine qG.blk 1 (pc' := 83) (ls' := [(2, 24), (2, 69), (0, qand 65535 (qxor (w 96 1) (-1))), (0, ((gN m i : Nat) : Int)), (0, ((i : Nat) : Int))]) (st' := [(0, ((gN m i : Nat) : Int))]) (w' := w9) (n' := 142) rfl ?_
          refine qG.call (t := 96) (na := 1) (sk := 0) (md := 0) (ls1 := [(0, ((gN m i : Nat) : Int)), (9, 0), (9, 0)]) (r1 := []) rfl rfl rfl rfl rfl (K_nextOf (by omega) ((gN m i : Nat) : Int) w9) ?_
          rintro _ w7 _ ⟨rfl, hw7, rfl⟩
          rw [hw7, hgi.2.2.2]
          show qG none (d + 1) 95 86 [(2, 24), (2, 69), (0, qand 65535 (qxor (w 96 1) (-1))), (0, ((gN m i : Nat) : Int)), (0, ((i : Nat) : Int))] [(0, ((gN m (i + 1) : Nat) : Int))] w9 142 Q9
          refine qG.blk 2 (pc' := 90) (ls' := [(2, 24), (2, 69), (0, qand 65535 (qxor (w 96 1) (-1))), (0, ((gN m (i + 1) : Nat) : Int)), (0, wrp (((i : Nat) : Int) + 1))]) (st' := []) (w' := w9) (n' := 142) rfl ?_
          rw [show wrp (((i : Nat) : Int) + 1) = ((i + 1 : Nat) : Int) from wrp_id (by omega) (by omega)]
          refine qG.blk 1 (pc' := 22) (ls' := [(2, 24), (2, 69), (0, qand 65535 (qxor (w 96 1) (-1))), (0, ((gN m (i + 1) : Nat) : Int)), (0, ((i + 1 : Nat) : Int))]) (st' := []) (w' := w9) (n' := 142) rfl ?_
          have hno : fpd w 1 k (gN m i) = false := by
            cases e9 : fpd w 1 k (gN m i)
            · rfl
            · exfalso
              have z := (fpd_iff hg hin).mp e9
              first | exact h41 z.1 | exact hh ((hang_x hRr hgi.1.1 (by omega) (by rw [hgi.2.1]; exact hk4)).mpr z.2) | omega
          exact ih22 _ (by omega) (i + 1) w9 rfl ⟨by omega, FS.no hI22.2 hno⟩
    · skip
      refine qG.retv rfl rfl ?_
      subst hQ9
      exact ⟨rfl, rfl, (show i = n by omega) ▸ hI22.2⟩
  exact L22 _ (0) ((qup w 24 3 0)) rfl (⟨by omega, rfl, fun j hj => absurd hj (Nat.not_lt_zero j), fun q j h1 h2 => qup_f h2⟩)
theorem K_freeX74 {d : Nat} (hd : 0 ≤ d) (w : qW) {x : Int} (hx : w 74 0 = x) : qG none d 25 0 [(2, 74)] [] w 142 (fun (r : qV) (w1 : qW) (n1 : Nat) => r = (0, qand 65535 (qxor x (-1))) ∧ w1 = w ∧ n1 = 142) := by
  generalize hQ9 : (fun (r : qV) (w1 : qW) (n1 : Nat) => r = (0, qand 65535 (qxor x (-1))) ∧ w1 = w ∧ n1 = 142) = Q9
  refine qG.blk 3 (pc' := 6) (ls' := [(2, 74)]) (st' := [(0, w 74 0), (0, 65535)]) (w' := w) (n' := 142) rfl ?_
  rw [show w 74 0 = x from hx]
  refine qG.blk 3 (pc' := 9) (ls' := [(2, 74)]) (st' := [(0, qand 65535 (qxor x (-1)))]) (w' := w) (n' := 142) rfl ?_
  refine qG.ret rfl rfl ?_
  subst hQ9
  exact ⟨rfl, rfl, rfl⟩
theorem K_findSets74 {d : Nat} (hd : 2 ≤ d) (k n m : Nat) (hk4 : k ≤ 4) (hg : gosC k n m = true) (hN : binm 16 k = n) (hn18 : n ≤ 1820) (hbud : budH n m 180 = true) (hm0 : wrp (qshl 1 ((k : Nat) : Int) - 1) = ((m : Nat) : Int)) (w : qW) (hI : yInv zgf zga zra zSp w) (hws : w 74 0 = w 96 2) (hsz : w 24 1 = ((k : Nat) : Int)) (hR : ∀ s t, s < 16 → t < 16 → hbit (w 75 s) t = pasB w 2 s t) : qG none d 95 0 [(2, 24), (2, 74), (9, 0), (9, 0), (9, 0)] [] w 142 (fun (r : qV) (w1 : qW) (n1 : Nat) => r = (9, 0) ∧ n1 = 142 ∧ FS w 2 k m n w1) := by
  generalize hQ9 : (fun (r : qV) (w1 : qW) (n1 : Nat) => r = (9, 0) ∧ n1 = 142 ∧ FS w 2 k m n w1) = Q9
  obtain ⟨N1, hN1⟩ : ∃ N : Int, N = 180 := ⟨_, rfl⟩
  obtain ⟨N18, hN18⟩ : ∃ N : Int, N = 1820 := ⟨_, rfl⟩
  obtain ⟨N65, hN65⟩ : ∃ N : Int, N = 65535 := ⟨_, rfl⟩
  obtain ⟨d, rfl⟩ : ∃ d9, d = d9 + 1 := ⟨d - 1, by omega⟩
  refine qG.blk 4 (pc' := 6) (ls' := [(2, 24), (2, 74), (9, 0), (9, 0), (9, 0)]) (st' := [(2, 74)]) (w' := (qup w 24 3 0)) (n' := 142) rfl ?_
  refine qG.call (t := 25) (na := 1) (sk := 1) (md := 1) (ls1 := [(2, 74)]) (r1 := []) rfl rfl rfl rfl rfl (K_freeX74 (Nat.zero_le _) (qup w 24 3 0) (show (qup w 24 3 0) 74 0 = w 96 2 by simp (disch := decide) only [qup_ne]; exact hws)) ?_
  rintro _ w7 _ ⟨rfl, hw7, rfl⟩
  rw [hw7]
  show qG none (d + 1) 95 9 [(2, 24), (2, 74), (9, 0), (9, 0), (9, 0)] [(0, qand 65535 (qxor (w 96 2) (-1)))] (qup w 24 3 0) 142 Q9
  refine qG.blk 4 (pc' := 15) (ls' := [(2, 24), (2, 74), (0, qand 65535 (qxor (w 96 2) (-1))), (9, 0), (9, 0)]) (st' := [(0, w 24 1), (0, 1)]) (w' := (qup w 24 3 0)) (n' := 142) rfl ?_
  rw [show w 24 1 = ((k : Nat) : Int) from hsz]
  refine qG.blk 3 (pc' := 18) (ls' := [(2, 24), (2, 74), (0, qand 65535 (qxor (w 96 2) (-1))), (9, 0), (9, 0)]) (st' := [(0, wrp ((qshl 1 ((k : Nat) : Int)) - 1))]) (w' := (qup w 24 3 0)) (n' := 142) rfl ?_
  rw [show wrp ((qshl 1 ((k : Nat) : Int)) - 1) = ((m : Nat) : Int) from hm0]
  refine qG.blk 3 (pc' := 22) (ls' := [(2, 24), (2, 74), (0, qand 65535 (qxor (w 96 2) (-1))), (0, ((m : Nat) : Int)), (0, 0)]) (st' := []) (w' := (qup w 24 3 0)) (n' := 142) rfl ?_
  have L22 : ∀ (m9 : Nat) (i : Nat) (w9 : qW), n - i = m9 → (i ≤ n ∧ FS w 2 k m i w9) → qG none (d + 1) 95 22 [(2, 24), (2, 74), (0, qand 65535 (qxor (w 96 2) (-1))), (0, ((gN m i : Nat) : Int)), (0, ((i : Nat) : Int))] [] w9 142 Q9 := by
    intro m9
    induction m9 using Nat.strongRecOn with
    | ind m9 ih22 =>
    intro i w9 hm22 hI22
    refine qG.blk 2 (pc' := 27) (ls' := [(2, 24), (2, 74), (0, qand 65535 (qxor (w 96 2) (-1))), (0, ((gN m i : Nat) : Int)), (0, ((i : Nat) : Int))]) (st' := [(0, 1820), (0, ((i : Nat) : Int))]) (w' := w9) (n' := 142) rfl ?_
    rw [show (1820 : Int) = N18 from hN18.symm]
    refine qG.br (P := ((i : Nat) : Int) < N18) (pc1 := 30) (pc2 := 93) (st1 := []) rfl (fun h27 => ?_) (fun h27 => ?_)
    · skip
      refine qG.blk 2 (pc' := 33) (ls' := [(2, 24), (2, 74), (0, qand 65535 (qxor (w 96 2) (-1))), (0, ((gN m i : Nat) : Int)), (0, ((i : Nat) : Int))]) (st' := [(0, 65535), (0, ((gN m i : Nat) : Int))]) (w' := w9) (n' := 142) rfl ?_
      rw [show (65535 : Int) = N65 from hN65.symm]
      refine qG.br (P := N65 < ((gN m i : Nat) : Int)) (pc1 := 93) (pc2 := 36) (st1 := []) rfl (fun h33 => ?_) (fun h33 => ?_)
      · skip
        have hin : ¬ i < n := fun z => by have q := ((gos_f n m hg).1 i z).1.2; omega
        refine qG.retv rfl rfl ?_
        subst hQ9
        exact ⟨rfl, rfl, (show i = n by omega) ▸ hI22.2⟩
      · skip
        rw [hN65]
        have hin : i < n := Decidable.byContradiction (fun z => h33 (by have q := (gos_f n m hg).2; rw [show i = n by omega]; omega))
        have hgi := (gos_f n m hg).1 i hin
        have hRr : ∀ s t, s < 16 → t < 16 → hbit (w9 75 s) t = pasB w 2 s t := fun s t hs ht => (by rw [hI22.2.2.2 75 s (by decide) (fun z => by cases z.1)]; exact hR s t hs ht)
        have hxr : 0 ≤ ((gN m i : Nat) : Int) ∧ ((gN m i : Nat) : Int) ≤ 65535 := by omega
        have hw6 := w96_in hI 2
        refine qG.blk 5 (pc' := 41) (ls' := [(2, 24), (2, 74), (0, qand 65535 (qxor (w 96 2) (-1))), (0, ((gN m i : Nat) : Int)), (0, ((i : Nat) : Int))]) (st' := [(0, qand ((gN m i : Nat) : Int) (qxor (qand 65535 (qxor (w 96 2) (-1))) (-1)))]) (w' := w9) (n' := 142) rfl ?_
        rw [show qand ((gN m i : Nat) : Int) (qxor (qand 65535 (qxor (w 96 2) (-1))) (-1)) = qand ((gN m i : Nat) : Int) (w 96 2) from fr_and hxr hw6]
        refine qG.br (P := qand ((gN m i : Nat) : Int) (w 96 2) = 0) (pc1 := 44) (pc2 := 82) (st1 := []) rfl (fun h41 => ?_) (fun h41 => ?_)
        · skip
          refine qG.blk 2 (pc' := 46) (ls' := [(2, 24), (2, 74), (0, qand 65535 (qxor (w 96 2) (-1))), (0, ((gN m i : Nat) : Int)), (0, ((i : Nat) : Int))]) (st' := [(0, ((gN m i : Nat) : Int)), (2, 74)]) (w' := w9) (n' := 142) rfl ?_
          refine qG.call (t := 29) (na := 2) (sk := 1) (md := 1) (ls1 := [(2, 74), (0, ((gN m i : Nat) : Int)), (9, 0), (9, 0)]) (r1 := []) rfl rfl rfl rfl rfl (K_hangsX74 (by omega) ((gN m i : Nat) : Int) w9 ((hI22.2.2.2 74 2 (by decide) (by decide)).trans (zref hI rfl rfl))) ?_
          rintro _ w7 _ ⟨rfl, hw7, rfl⟩
          rw [hw7]
          show qG none (d + 1) 95 49 [(2, 24), (2, 74), (0, qand 65535 (qxor (w 96 2) (-1))), (0, ((gN m i : Nat) : Int)), (0, ((i : Nat) : Int))] [(0, (if stI (w9 75) ((gN m i : Nat) : Int) (stI (w9 75) ((gN m i : Nat) : Int) (stI (w9 75) ((gN m i : Nat) : Int) (qand ((gN m i : Nat) : Int) (wrp (-((gN m i : Nat) : Int)))))) = ((gN m i : Nat) : Int) then 1 else 0))] w9 142 Q9
          refine qG.br (P := (if stI (w9 75) ((gN m i : Nat) : Int) (stI (w9 75) ((gN m i : Nat) : Int) (stI (w9 75) ((gN m i : Nat) : Int) (qand ((gN m i : Nat) : Int) (wrp (-((gN m i : Nat) : Int)))))) = ((gN m i : Nat) : Int) then 1 else 0) = 0) (pc1 := 82) (pc2 := 52) (st1 := []) rfl (fun hh9 => ?_) (fun hh9 => ?_)
          · skip
            have hh : ¬ stI (w9 75) ((gN m i : Nat) : Int) (stI (w9 75) ((gN m i : Nat) : Int) (stI (w9 75) ((gN m i : Nat) : Int) (qand ((gN m i : Nat) : Int) (wrp (-((gN m i : Nat) : Int)))))) = ((gN m i : Nat) : Int) := ite01.mp hh9
            refine qG.blk 1 (pc' := 83) (ls' := [(2, 24), (2, 74), (0, qand 65535 (qxor (w 96 2) (-1))), (0, ((gN m i : Nat) : Int)), (0, ((i : Nat) : Int))]) (st' := [(0, ((gN m i : Nat) : Int))]) (w' := w9) (n' := 142) rfl ?_
            refine qG.call (t := 96) (na := 1) (sk := 0) (md := 0) (ls1 := [(0, ((gN m i : Nat) : Int)), (9, 0), (9, 0)]) (r1 := []) rfl rfl rfl rfl rfl (K_nextOf (by omega) ((gN m i : Nat) : Int) w9) ?_
            rintro _ w7 _ ⟨rfl, hw7, rfl⟩
            rw [hw7, hgi.2.2.2]
            show qG none (d + 1) 95 86 [(2, 24), (2, 74), (0, qand 65535 (qxor (w 96 2) (-1))), (0, ((gN m i : Nat) : Int)), (0, ((i : Nat) : Int))] [(0, ((gN m (i + 1) : Nat) : Int))] w9 142 Q9
            refine qG.blk 2 (pc' := 90) (ls' := [(2, 24), (2, 74), (0, qand 65535 (qxor (w 96 2) (-1))), (0, ((gN m (i + 1) : Nat) : Int)), (0, wrp (((i : Nat) : Int) + 1))]) (st' := []) (w' := w9) (n' := 142) rfl ?_
            rw [show wrp (((i : Nat) : Int) + 1) = ((i + 1 : Nat) : Int) from wrp_id (by omega) (by omega)]
            refine qG.blk 1 (pc' := 22) (ls' := [(2, 24), (2, 74), (0, qand 65535 (qxor (w 96 2) (-1))), (0, ((gN m (i + 1) : Nat) : Int)), (0, ((i + 1 : Nat) : Int))]) (st' := []) (w' := w9) (n' := 142) rfl ?_
            have hno : fpd w 2 k (gN m i) = false := by
              cases e9 : fpd w 2 k (gN m i)
              · rfl
              · exfalso
                have z := (fpd_iff hg hin).mp e9
                first | exact h41 z.1 | exact hh ((hang_x hRr hgi.1.1 (by omega) (by rw [hgi.2.1]; exact hk4)).mpr z.2) | omega
            exact ih22 _ (by omega) (i + 1) w9 rfl ⟨by omega, FS.no hI22.2 hno⟩
          · skip
            have hh : stI (w9 75) ((gN m i : Nat) : Int) (stI (w9 75) ((gN m i : Nat) : Int) (stI (w9 75) ((gN m i : Nat) : Int) (qand ((gN m i : Nat) : Int) (wrp (-((gN m i : Nat) : Int)))))) = ((gN m i : Nat) : Int) := Decidable.of_not_not (fun z => hh9 (ite01.mpr z))
            have hyes : fpd w 2 k (gN m i) = true := (fpd_iff hg hin).mpr ⟨h41, (hang_x hRr hgi.1.1 (by omega) (by rw [hgi.2.1]; exact hk4)).mp hh⟩
            have hle := fp_180 (w := w) (c := 2) hg hN hk4 hbud (i + 1) (by omega)
            rw [fpG_y hyes, List.length_append] at hle
            have hle2 : (fpG w 2 k m i).length + 1 ≤ 180 := hle
            refine qG.blk 2 (pc' := 56) (ls' := [(2, 24), (2, 74), (0, qand 65535 (qxor (w 96 2) (-1))), (0, ((gN m i : Nat) : Int)), (0, ((i : Nat) : Int))]) (st' := [(0, w9 24 3)]) (w' := w9) (n' := 142) rfl ?_
            rw [show w9 24 3 = (((fpG w 2 k m i).length : Nat) : Int) from hI22.2.1]
            refine qG.blk 1 (pc' := 59) (ls' := [(2, 24), (2, 74), (0, qand 65535 (qxor (w 96 2) (-1))), (0, ((gN m i : Nat) : Int)), (0, ((i : Nat) : Int))]) (st' := [(0, 180), (0, (((fpG w 2 k m i).length : Nat) : Int))]) (w' := w9) (n' := 142) rfl ?_
            rw [show (180 : Int) = N1 from hN1.symm]
            refine qG.br (P := (((fpG w 2 k m i).length : Nat) : Int) < N1) (pc1 := 62) (pc2 := 82) (st1 := []) rfl (fun h59 => ?_) (fun h59 => ?_)
            · skip
              refine qG.blk 2 (pc' := 66) (ls' := [(2, 24), (2, 74), (0, qand 65535 (qxor (w 96 2) (-1))), (0, ((gN m i : Nat) : Int)), (0, ((i : Nat) : Int))]) (st' := [(2, w9 24 4)]) (w' := w9) (n' := 142) rfl ?_
              rw [show w9 24 4 = 25 from (hI22.2.2.2 24 4 (by decide) (by decide)).trans (zref hI rfl rfl)]
              refine qG.blk 2 (pc' := 70) (ls' := [(2, 24), (2, 74), (0, qand 65535 (qxor (w 96 2) (-1))), (0, ((gN m i : Nat) : Int)), (0, ((i : Nat) : Int))]) (st' := [(0, w9 24 3), (2, 25)]) (w' := w9) (n' := 142) rfl ?_
              rw [show w9 24 3 = (((fpG w 2 k m i).length : Nat) : Int) from hI22.2.1]
              refine qG.blk 1 (pc' := 71) (ls' := [(2, 24), (2, 74), (0, qand 65535 (qxor (w 96 2) (-1))), (0, ((gN m i : Nat) : Int)), (0, ((i : Nat) : Int))]) (st' := [(0, ((gN m i : Nat) : Int)), (0, (((fpG w 2 k m i).length : Nat) : Int)), (2, 25)]) (w' := w9) (n' := 142) rfl ?_
              refine qG.ist (m := 180) rfl rfl (by omega) (by decide) ?_
              show qG none (d + 1) 95 72 [(2, 24), (2, 74), (0, qand 65535 (qxor (w 96 2) (-1))), (0, ((gN m i : Nat) : Int)), (0, ((i : Nat) : Int))] [] (qup w9 25 ((fpG w 2 k m i).length) ((gN m i : Nat) : Int)) 142 Q9
              refine qG.blk 3 (pc' := 77) (ls' := [(2, 24), (2, 74), (0, qand 65535 (qxor (w 96 2) (-1))), (0, ((gN m i : Nat) : Int)), (0, ((i : Nat) : Int))]) (st' := [(0, w9 24 3), (2, 24)]) (w' := (qup w9 25 ((fpG w 2 k m i).length) ((gN m i : Nat) : Int))) (n' := 142) rfl ?_
              rw [show w9 24 3 = (((fpG w 2 k m i).length : Nat) : Int) from hI22.2.1]
              refine qG.blk 2 (pc' := 79) (ls' := [(2, 24), (2, 74), (0, qand 65535 (qxor (w 96 2) (-1))), (0, ((gN m i : Nat) : Int)), (0, ((i : Nat) : Int))]) (st' := [(0, wrp ((((fpG w 2 k m i).length : Nat) : Int) + 1)), (2, 24)]) (w' := (qup w9 25 ((fpG w 2 k m i).length) ((gN m i : Nat) : Int))) (n' := 142) rfl ?_
              rw [show wrp ((((fpG w 2 k m i).length : Nat) : Int) + 1) = (((fpG w 2 k m i).length + 1 : Nat) : Int) from by rw [wrp_id (by omega) (by omega)]; omega]
              refine qG.blk 2 (pc' := 83) (ls' := [(2, 24), (2, 74), (0, qand 65535 (qxor (w 96 2) (-1))), (0, ((gN m i : Nat) : Int)), (0, ((i : Nat) : Int))]) (st' := [(0, ((gN m i : Nat) : Int))]) (w' := (qup (qup w9 25 ((fpG w 2 k m i).length) ((gN m i : Nat) : Int)) 24 3 (((fpG w 2 k m i).length + 1 : Nat) : Int))) (n' := 142) rfl ?_
              refine qG.call (t := 96) (na := 1) (sk := 0) (md := 0) (ls1 := [(0, ((gN m i : Nat) : Int)), (9, 0), (9, 0)]) (r1 := []) rfl rfl rfl rfl rfl (K_nextOf (by omega) ((gN m i : Nat) : Int) (qup (qup w9 25 ((fpG w 2 k m i).length) ((gN m i : Nat) : Int)) 24 3 (((fpG w 2 k m i).length + 1 : Nat) : Int))) ?_
              rintro _ w7 _ ⟨rfl, hw7, rfl⟩
              rw [hw7, hgi.2.2.2]
              show qG none (d + 1) 95 86 [(2, 24), (2, 74), (0, qand 65535 (qxor (w 96 2) (-1))), (0, ((gN m i : Nat) : Int)), (0, ((i : Nat) : Int))] [(0, ((gN m (i + 1) : Nat) : Int))] (qup (qup w9 25 ((fpG w 2 k m i).length) ((gN m i : Nat) : Int)) 24 3 (((fpG w 2 k m i).length + 1 : Nat) : Int)) 142 Q9
              refine qG.blk 2 (pc' := 90) (ls' := [(2, 24), (2, 74), (0, qand 65535 (qxor (w 96 2) (-1))), (0, ((gN m (i + 1) : Nat) : Int)), (0, wrp (((i : Nat) : Int) + 1))]) (st' := []) (w' := (qup (qup w9 25 ((fpG w 2 k m i).length) ((gN m i : Nat) : Int)) 24 3 (((fpG w 2 k m i).length + 1 : Nat) : Int))) (n' := 142) rfl ?_
              rw [show wrp (((i : Nat) : Int) + 1) = ((i + 1 : Nat) : Int) from wrp_id (by omega) (by omega)]
              refine qG.blk 1 (pc' := 22) (ls' := [(2, 24), (2, 74), (0, qand 65535 (qxor (w 96 2) (-1))), (0, ((gN m (i + 1) : Nat) : Int)), (0, ((i + 1 : Nat) : Int))]) (st' := []) (w' := (qup (qup w9 25 ((fpG w 2 k m i).length) ((gN m i : Nat) : Int)) 24 3 (((fpG w 2 k m i).length + 1 : Nat) : Int))) (n' := 142) rfl ?_
              exact ih22 _ (by omega) (i + 1) ((qup (qup w9 25 ((fpG w 2 k m i).length) ((gN m i : Nat) : Int)) 24 3 (((fpG w 2 k m i).length + 1 : Nat) : Int))) rfl ⟨by omega, FS.yes hI22.2 hyes⟩
            · exfalso; omega
        · skip
          refine qG.blk 1 (pc' := 83) (ls' := [(2, 24), (2, 74), (0, qand 65535 (qxor (w 96 2) (-1))), (0, ((gN m i : Nat) : Int)), (0, ((i : Nat) : Int))]) (st' := [(0, ((gN m i : Nat) : Int))]) (w' := w9) (n' := 142) rfl ?_
          refine qG.call (t := 96) (na := 1) (sk := 0) (md := 0) (ls1 := [(0, ((gN m i : Nat) : Int)), (9, 0), (9, 0)]) (r1 := []) rfl rfl rfl rfl rfl (K_nextOf (by omega) ((gN m i : Nat) : Int) w9) ?_
          rintro _ w7 _ ⟨rfl, hw7, rfl⟩
          rw [hw7, hgi.2.2.2]
          show qG none (d + 1) 95 86 [(2, 24), (2, 74), (0, qand 65535 (qxor (w 96 2) (-1))), (0, ((gN m i : Nat) : Int)), (0, ((i : Nat) : Int))] [(0, ((gN m (i + 1) : Nat) : Int))] w9 142 Q9
          refine qG.blk 2 (pc' := 90) (ls' := [(2, 24), (2, 74), (0, qand 65535 (qxor (w 96 2) (-1))), (0, ((gN m (i + 1) : Nat) : Int)), (0, wrp (((i : Nat) : Int) + 1))]) (st' := []) (w' := w9) (n' := 142) rfl ?_
          rw [show wrp (((i : Nat) : Int) + 1) = ((i + 1 : Nat) : Int) from wrp_id (by omega) (by omega)]
          refine qG.blk 1 (pc' := 22) (ls' := [(2, 24), (2, 74), (0, qand 65535 (qxor (w 96 2) (-1))), (0, ((gN m (i + 1) : Nat) : Int)), (0, ((i + 1 : Nat) : Int))]) (st' := []) (w' := w9) (n' := 142) rfl ?_
          have hno : fpd w 2 k (gN m i) = false := by
            cases e9 : fpd w 2 k (gN m i)
            · rfl
            · exfalso
              have z := (fpd_iff hg hin).mp e9
              first | exact h41 z.1 | exact hh ((hang_x hRr hgi.1.1 (by omega) (by rw [hgi.2.1]; exact hk4)).mpr z.2) | omega
          exact ih22 _ (by omega) (i + 1) w9 rfl ⟨by omega, FS.no hI22.2 hno⟩
    · skip
      refine qG.retv rfl rfl ?_
      subst hQ9
      exact ⟨rfl, rfl, (show i = n by omega) ▸ hI22.2⟩
  exact L22 _ (0) ((qup w 24 3 0)) rfl (⟨by omega, rfl, fun j hj => absurd hj (Nat.not_lt_zero j), fun q j h1 h2 => qup_f h2⟩)
