/-! order: the reference's tries -/
noncomputable def ORs (w : qW) (s : oSt) : Prop := w 95 50 = s.1 ∧ (¬ s.1 = -1 → w 95 51 = bitsF s.2.1 16) ∧ ∀ k : Nat, (k : Int) < s.1 → w 121 k = s.2.2 k
theorem ORs.cg {w w1 : qW} {s : oSt} (h : ORs w s) (e1 : w1 95 50 = w 95 50) (e2 : w1 95 51 = w 95 51) (e3 : ∀ k, w1 121 k = w 121 k) : ORs w1 s := ⟨e1.trans h.1, fun z => e2.trans (h.2.1 z), fun k hk => (e3 k).trans (h.2.2 k hk)⟩
noncomputable def RX (w0 w : qW) : Prop := (∀ i, w 96 i = w0 96 i) ∧ (∀ i, w 97 i = w0 97 i) ∧ (∀ i, w 98 i = w0 98 i) ∧ (∀ i, w 99 i = w0 99 i) ∧ ∀ i, w 100 i = w0 100 i
theorem RX.aw {m : List Nat} {w0 w w1 : qW} (h : RX w0 w) (a : AW m w w1) (hm : [96, 97, 98, 99, 100].all (fun p => m.all (fun e => !Nat.beq (e % 1000) p)) = true) : RX w0 w1 := by
  rw [List.all_eq_true] at hm
  exact ⟨fun i => (a.a (by decide) (hm 96 (by decide)) i).trans (h.1 i), fun i => (a.a (by decide) (hm 97 (by decide)) i).trans (h.2.1 i), fun i => (a.a (by decide) (hm 98 (by decide)) i).trans (h.2.2.1 i), fun i => (a.a (by decide) (hm 99 (by decide)) i).trans (h.2.2.2.1 i), fun i => (a.a (by decide) (hm 100 (by decide)) i).trans (h.2.2.2.2 i)⟩
/-- what tries answers for: the state kept, the rows laid -/
noncomputable def TT (w0 : qW) (c s : Nat) (W : Int) (n : Nat) (w : qW) (st : oSt) (r1 : qV) (w1 : qW) (n1 : Nat) : Prop := TQ w r1 w1 n1 ∧ (∀ k, k < n → w1 120 k = w 120 k) ∧ ORs w1 st
noncomputable def TRT (w0 : qW) (c s : Nat) (W : Int) (D : Nat) (n : Nat) : Prop := ∀ (d : Nat) (w : qW) (U : Nat) (r : Nat → Nat) (st : oSt), 20 - n ≤ d → U < 1024 → pc (trX D U) 10 + n ≤ 4 → (∀ k, k < n → r k < 10) → (∀ k, k < n → w 120 k = ((r k : Nat) : Int)) → ORs w st → RX w0 w → yInv zgf zga zra zSp w → S3 w → qG none d 262 0 [(2, 95), (0, (c : Int)), (0, (D : Int)), (0, W), (0, (s : Int)), (0, (n : Int)), (0, (U : Int)), (9, 0), (9, 0), (9, 0)] [] w 142 (TT w0 c s W n w (XPo (okO (pzN w0 c s) (pzP w0 c s) (pzM w0 c s) w0 c W) (snO w0 c W) D (4 - n) n r U st))
noncomputable def betP (s1 sb bt n : Int) : Prop := s1 = -1 ∨ sb < bt ∨ (bt = sb ∧ n < s1)
theorem betA {w5 s1 sb bt n : Int} (h50 : w5 = s1) (h6 : w5 = -1) : (1 : Int) = 0 ↔ ¬ betP s1 sb bt n := ⟨fun z => absurd z (by decide), fun z => absurd (.inl (h50.symm.trans h6)) z⟩
theorem betB {w5 w6 s1 sb bt n : Int} (h50 : w5 = s1) (h51 : ¬ s1 = -1 → w6 = sb) (h6 : ¬ w5 = -1) (h7 : w6 < bt) : (1 : Int) = 0 ↔ ¬ betP s1 sb bt n := by
  have e := h51 (fun z => h6 (h50.trans z))
  rw [e] at h7
  exact ⟨fun z => absurd z (by decide), fun z => absurd (.inr (.inl h7)) z⟩
theorem betC {w5 w6 s1 sb bt n : Int} (h50 : w5 = s1) (h51 : ¬ s1 = -1 → w6 = sb) (h6 : ¬ w5 = -1) (h8 : bt = w6) (h9 : n < w5) : (1 : Int) = 0 ↔ ¬ betP s1 sb bt n := by
  have e := h51 (fun z => h6 (h50.trans z))
  rw [e] at h8
  rw [h50] at h9
  exact ⟨fun z => absurd z (by decide), fun z => absurd (.inr (.inr ⟨h8, h9⟩)) z⟩
theorem betD {w5 w6 s1 sb bt n : Int} (h50 : w5 = s1) (h51 : ¬ s1 = -1 → w6 = sb) (h6 : ¬ w5 = -1) (h7 : ¬ w6 < bt) (h9 : ¬ n < w5) : (0 : Int) = 0 ↔ ¬ betP s1 sb bt n := by
  have e := h51 (fun z => h6 (h50.trans z))
  rw [e] at h7
  rw [h50] at h6 h9
  refine ⟨fun _ z => ?_, fun _ => rfl⟩
  rcases z with z | z | z
  · exact h6 z
  · exact h7 z
  · exact h9 z.2
theorem betE {w5 w6 s1 sb bt n : Int} (h50 : w5 = s1) (h51 : ¬ s1 = -1 → w6 = sb) (h6 : ¬ w5 = -1) (h7 : ¬ w6 < bt) (h8 : ¬ bt = w6) : (0 : Int) = 0 ↔ ¬ betP s1 sb bt n := by
  have e := h51 (fun z => h6 (h50.trans z))
  rw [e] at h7 h8
  rw [h50] at h6
  refine ⟨fun _ z => ?_, fun _ => rfl⟩
  rcases z with z | z | z
  · exact h6 z
  · exact h7 z
  · exact h8 z.1
theorem kpO_nb {ok : Nat → (Nat → Nat) → Bool} {sn : Nat → (Nat → Nat) → Int} {n : Nat} {r : Nat → Nat} {s : oSt} (h : ¬ betP s.1 (bitsF s.2.1 16) (bitsF (sn n r) 16) (n : Int)) : kpO ok sn n r s = s := if_neg (fun z => h z.2)
theorem kpO_yes {ok : Nat → (Nat → Nat) → Bool} {sn : Nat → (Nat → Nat) → Int} {n : Nat} {r : Nat → Nat} {s : oSt} (h : ok n r = true) (h2 : betP s.1 (bitsF s.2.1 16) (bitsF (sn n r) 16) (n : Int)) : kpO ok sn n r s = ((n : Int), sn n r, fun k => ((r k : Nat) : Int)) := if_pos ⟨h, h2⟩
theorem K_tt174 (w0 : qW) (c s : Nat) (W : Int) (D : Nat) (n : Nat) (hn : n ≤ 4) (IH : n < 4 → TRT w0 c s W D (n + 1)) {d : Nat} (hd : 20 - n ≤ d) (U : Nat) (r : Nat → Nat) (st : oSt) (hc : c < 3) (hD : D < 1024) (hW : 1 ≤ W ∧ W ≤ 5) (hk : 1 ≤ s ∧ s ≤ 4) (hU : U < 1024) (hpc : pc (trX D U) 10 + n ≤ 4) (hr : ∀ k, k < n → r k < 10) (w : qW) (hrow : ∀ k, k < n → w 120 k = ((r k : Nat) : Int)) (hO : ORs w st) (hX : RX w0 w) (x7 x8 : Int) (x9 : qV) (hI : yInv zgf zga zra zSp w) (hS : S3 w) : qG none d 262 174 [(2, 95), (0, ((c : Nat) : Int)), (0, ((D : Nat) : Int)), (0, W), (0, ((s : Nat) : Int)), (0, ((n : Nat) : Int)), (0, ((U : Nat) : Int)), (0, x7), (0, x8), x9] [] w 142 (TT w0 c s W n w (flO (stO (okO (pzN w0 c s) (pzP w0 c s) (pzM w0 c s) w0 c W) (snO w0 c W) D (4 - n) n r U) 10 st)) := by
  generalize hQ9 : (TT w0 c s W n w (flO (stO (okO (pzN w0 c s) (pzP w0 c s) (pzM w0 c s) w0 c W) (snO w0 c W) D (4 - n) n r U) 10 st)) = Q9
  obtain ⟨d, rfl⟩ : ∃ d9, d = d9 + 1 := ⟨d - 1, by omega⟩
  refine qG.blk 2 (pc' := 177) (ls' := [(2, 95), (0, ((c : Nat) : Int)), (0, ((D : Nat) : Int)), (0, W), (0, ((s : Nat) : Int)), (0, ((n : Nat) : Int)), (0, ((U : Nat) : Int)), (0, x7), (0, x8), (0, 0)]) (st' := []) (w' := w) (n' := 142) rfl ?_
  have L177 : ∀ (m9 : Nat) (j : Nat) (w9 : qW), 10 - j = m9 → (j ≤ 10 ∧ AW TRM w w9 ∧ S3 w9 ∧ (∀ k, k < n → w9 120 k = w 120 k) ∧ ORs w9 (flO (stO (okO (pzN w0 c s) (pzP w0 c s) (pzM w0 c s) w0 c W) (snO w0 c W) D (4 - n) n r U) j st)) → qG none (d + 1) 262 177 [(2, 95), (0, ((c : Nat) : Int)), (0, ((D : Nat) : Int)), (0, W), (0, ((s : Nat) : Int)), (0, ((n : Nat) : Int)), (0, ((U : Nat) : Int)), (0, x7), (0, x8), (0, ((j : Nat) : Int))] [] w9 142 Q9 := by
    intro m9
    induction m9 using Nat.strongRecOn with
    | ind m9 ih177 =>
    intro j w9 hm177 hI177
    refine qG.blk 2 (pc' := 181) (ls' := [(2, 95), (0, ((c : Nat) : Int)), (0, ((D : Nat) : Int)), (0, W), (0, ((s : Nat) : Int)), (0, ((n : Nat) : Int)), (0, ((U : Nat) : Int)), (0, x7), (0, x8), (0, ((j : Nat) : Int))]) (st' := [(0, 10), (0, ((j : Nat) : Int))]) (w' := w9) (n' := 142) rfl ?_
    refine qG.br (P := ((j : Nat) : Int) < 10) (pc1 := 184) (pc2 := 236) (st1 := []) rfl (fun h1 => ?_) (fun h1 => ?_)
    · skip
      refine qG.blk 5 (pc' := 190) (ls' := [(2, 95), (0, ((c : Nat) : Int)), (0, ((D : Nat) : Int)), (0, W), (0, ((s : Nat) : Int)), (0, ((n : Nat) : Int)), (0, ((U : Nat) : Int)), (0, x7), (0, x8), (0, ((j : Nat) : Int))]) (st' := [(0, qand ((D : Nat) : Int) (qxor ((U : Nat) : Int) (-1)))]) (w' := w9) (n' := 142) rfl ?_
      rw [show qand ((D : Nat) : Int) (qxor ((U : Nat) : Int) (-1)) = ((trX D U : Nat) : Int) from tr_and hD hU]
      refine qG.blk 4 (pc' := 195) (ls' := [(2, 95), (0, ((c : Nat) : Int)), (0, ((D : Nat) : Int)), (0, W), (0, ((s : Nat) : Int)), (0, ((n : Nat) : Int)), (0, ((U : Nat) : Int)), (0, x7), (0, x8), (0, ((j : Nat) : Int))]) (st' := [(0, qand (qshr ((trX D U : Nat) : Int) ((j : Nat) : Int)) 1)]) (w' := w9) (n' := 142) rfl ?_
      rw [show qand (qshr ((trX D U : Nat) : Int) ((j : Nat) : Int)) 1 = (if (trX D U).testBit j = true then 1 else 0) from hb_bit (Nat.lt_of_lt_of_le (trX_lt hD) (by decide)) (by omega)]
      refine qG.br (P := (if (trX D U).testBit j = true then 1 else 0) = 0) (pc1 := 198) (pc2 := 201) (st1 := []) rfl (fun htb => ?_) (fun htb => ?_)
      · skip
        refine qG.blk 2 (pc' := 233) (ls' := [(2, 95), (0, ((c : Nat) : Int)), (0, ((D : Nat) : Int)), (0, W), (0, ((s : Nat) : Int)), (0, ((n : Nat) : Int)), (0, ((U : Nat) : Int)), (0, x7), (0, x8), (0, wrp (((j : Nat) : Int) + 1))]) (st' := []) (w' := w9) (n' := 142) rfl ?_
        rw [show wrp (((j : Nat) : Int) + 1) = ((j + 1 : Nat) : Int) from wrp_id (by omega) (by omega)]
        refine qG.blk 1 (pc' := 177) (ls' := [(2, 95), (0, ((c : Nat) : Int)), (0, ((D : Nat) : Int)), (0, W), (0, ((s : Nat) : Int)), (0, ((n : Nat) : Int)), (0, ((U : Nat) : Int)), (0, x7), (0, x8), (0, ((j + 1 : Nat) : Int))]) (st' := []) (w' := w9) (n' := 142) rfl ?_
        exact ih177 _ (by omega) (j + 1) (w9) rfl (⟨by omega, hI177.2.1, hI177.2.2.1, hI177.2.2.2.1, (by show ORs w9 (stO (okO (pzN w0 c s) (pzP w0 c s) (pzM w0 c s) w0 c W) (snO w0 c W) D (4 - n) n r U j (flO (stO (okO (pzN w0 c s) (pzP w0 c s) (pzM w0 c s) w0 c W) (snO w0 c W) D (4 - n) n r U) j st)); unfold stO; rw [if_neg (ite01.mp htb)]; exact hI177.2.2.2.2)⟩)
      · skip
        have htb2 : (trX D U).testBit j = true := Decidable.of_not_not (fun z => htb (ite01.mpr z))
        have hj9 : j < 10 := by omega
        have hdec := tr_dec hU hj9 htb2
        have hA10 : AW TRM w (qup w9 120 n ((j : Nat) : Int)) := hI177.2.1.upd (by decide) rfl (zup_a hI177.2.1.1 (b := (0, 9)) rfl rfl ⟨by show (0 : Int) ≤ _; omega, by show _ ≤ (9 : Int); omega⟩)
        have hS10 : S3 (qup w9 120 n ((j : Nat) : Int)) := hI177.2.2.1.cong (by rw [qup_ne (by decide)]) (fun i => by rw [qup_ne (by decide)]) (fun i => by rw [qup_ne (by decide)]) ⟨by rw [qup_ne (by decide)], fun i => by rw [qup_ne (by decide)], fun i => by rw [qup_ne (by decide)], fun i => by rw [qup_ne (by decide)]⟩
        have hX10 : RX w0 (qup w9 120 n ((j : Nat) : Int)) := hX.aw hA10 (by decide +kernel)
        have hO10 : ORs (qup w9 120 n ((j : Nat) : Int)) (flO (stO (okO (pzN w0 c s) (pzP w0 c s) (pzM w0 c s) w0 c W) (snO w0 c W) D (4 - n) n r U) j st) := hI177.2.2.2.2.cg (by rw [qup_ne (by decide)]) (by rw [qup_ne (by decide)]) (fun k => by rw [qup_ne (by decide)])
        have hrow10 : ∀ k, k < n + 1 → (qup w9 120 n ((j : Nat) : Int)) 120 k = (((upR r n j) k : Nat) : Int) := fun k hk => by
          by_cases e : k = n
          · rw [e, qup_k, upR_at]
          · rw [qup_j e, hI177.2.2.2.1 k (by omega), upR_lo (by omega)]; exact hrow k (by omega)
        refine qG.blk 2 (pc' := 205) (ls' := [(2, 95), (0, ((c : Nat) : Int)), (0, ((D : Nat) : Int)), (0, W), (0, ((s : Nat) : Int)), (0, ((n : Nat) : Int)), (0, ((U : Nat) : Int)), (0, x7), (0, x8), (0, ((j : Nat) : Int))]) (st' := [(2, w9 95 48)]) (w' := w9) (n' := 142) rfl ?_
        rw [show w9 95 48 = 120 from zref hI177.2.1.1 rfl rfl]
        refine qG.blk 2 (pc' := 209) (ls' := [(2, 95), (0, ((c : Nat) : Int)), (0, ((D : Nat) : Int)), (0, W), (0, ((s : Nat) : Int)), (0, ((n : Nat) : Int)), (0, ((U : Nat) : Int)), (0, x7), (0, x8), (0, ((j : Nat) : Int))]) (st' := [(0, ((j : Nat) : Int)), (0, ((n : Nat) : Int)), (2, 120)]) (w' := w9) (n' := 142) rfl ?_
        refine qG.ar (P := 0 ≤ ((n : Nat) : Int) ∧ ((n : Nat) : Int) < ((4 : Nat) : Int)) (P2 := 0 < (120 : Int) ∧ (120 : Int) ≤ ((142 : Nat) : Int)) (pc' := 210) (ls' := [(2, 95), (0, ((c : Nat) : Int)), (0, ((D : Nat) : Int)), (0, W), (0, ((s : Nat) : Int)), (0, ((n : Nat) : Int)), (0, ((U : Nat) : Int)), (0, x7), (0, x8), (0, ((j : Nat) : Int))]) (st' := []) (w' := (qup w9 120 n ((j : Nat) : Int))) (n' := 142) rfl (by omega) (by decide) ?_
        refine qG.blk 8 (pc' := 220) (ls' := [(2, 95), (0, ((c : Nat) : Int)), (0, ((D : Nat) : Int)), (0, W), (0, ((s : Nat) : Int)), (0, ((n : Nat) : Int)), (0, ((U : Nat) : Int)), (0, x7), (0, x8), (0, ((j : Nat) : Int))]) (st' := [(0, wrp (((n : Nat) : Int) + 1)), (0, ((s : Nat) : Int)), (0, W), (0, ((D : Nat) : Int)), (0, ((c : Nat) : Int)), (2, 95)]) (w' := (qup w9 120 n ((j : Nat) : Int))) (n' := 142) rfl ?_
        rw [show wrp (((n : Nat) : Int) + 1) = ((n + 1 : Nat) : Int) from by rw [wrp_id (by omega) (by omega)]; omega]
        refine qG.blk 5 (pc' := 227) (ls' := [(2, 95), (0, ((c : Nat) : Int)), (0, ((D : Nat) : Int)), (0, W), (0, ((s : Nat) : Int)), (0, ((n : Nat) : Int)), (0, ((U : Nat) : Int)), (0, x7), (0, x8), (0, ((j : Nat) : Int))]) (st' := [(0, qor ((U : Nat) : Int) (qshl 1 ((j : Nat) : Int))), (0, ((n + 1 : Nat) : Int)), (0, ((s : Nat) : Int)), (0, W), (0, ((D : Nat) : Int)), (0, ((c : Nat) : Int)), (2, 95)]) (w' := (qup w9 120 n ((j : Nat) : Int))) (n' := 142) rfl ?_
        rw [show qor ((U : Nat) : Int) (qshl 1 ((j : Nat) : Int)) = ((U ||| 2 ^ j : Nat) : Int) from tr_or hU hj9]
        refine qG.call (t := 262) (na := 7) (sk := 1) (md := 1) (ls1 := [(2, 95), (0, ((c : Nat) : Int)), (0, ((D : Nat) : Int)), (0, W), (0, ((s : Nat) : Int)), (0, ((n + 1 : Nat) : Int)), (0, ((U ||| 2 ^ j : Nat) : Int)), (9, 0), (9, 0), (9, 0)]) (r1 := []) rfl rfl rfl rfl rfl (IH (by omega) d (qup w9 120 n ((j : Nat) : Int)) (U ||| 2 ^ j) (upR r n j) (flO (stO (okO (pzN w0 c s) (pzP w0 c s) (pzM w0 c s) w0 c W) (snO w0 c W) D (4 - n) n r U) j st) (by omega) (tr_ult hU hj9) (by omega) (fun k hk => by by_cases e : k = n; rw [e, upR_at]; exact hj9; rw [upR_lo (by omega)]; exact hr k (by omega)) hrow10 hO10 hX10 hA10.1 hS10) ?_
        rintro _ w7 _ ⟨hT7, h7r, h7o⟩
        obtain ⟨rfl, rfl, -, -⟩ := id hT7
        show qG none (d + 1) 262 230 [(2, 95), (0, ((c : Nat) : Int)), (0, ((D : Nat) : Int)), (0, W), (0, ((s : Nat) : Int)), (0, ((n : Nat) : Int)), (0, ((U : Nat) : Int)), (0, x7), (0, x8), (0, ((j : Nat) : Int))] [] w7 142 Q9
        refine qG.blk 1 (pc' := 233) (ls' := [(2, 95), (0, ((c : Nat) : Int)), (0, ((D : Nat) : Int)), (0, W), (0, ((s : Nat) : Int)), (0, ((n : Nat) : Int)), (0, ((U : Nat) : Int)), (0, x7), (0, x8), (0, wrp (((j : Nat) : Int) + 1))]) (st' := []) (w' := w7) (n' := 142) rfl ?_
        rw [show wrp (((j : Nat) : Int) + 1) = ((j + 1 : Nat) : Int) from wrp_id (by omega) (by omega)]
        refine qG.blk 1 (pc' := 177) (ls' := [(2, 95), (0, ((c : Nat) : Int)), (0, ((D : Nat) : Int)), (0, W), (0, ((s : Nat) : Int)), (0, ((n : Nat) : Int)), (0, ((U : Nat) : Int)), (0, x7), (0, x8), (0, ((j + 1 : Nat) : Int))]) (st' := []) (w' := w7) (n' := 142) rfl ?_
        exact ih177 _ (by omega) (j + 1) (w7) rfl (⟨by omega, hA10.tr hT7.2.2.1 (by decide +kernel), hT7.2.2.2, fun k hk => (h7r k (by omega)).trans ((qup_j (show k ≠ n by omega)).trans (hI177.2.2.2.1 k hk)), (by show ORs w7 (stO (okO (pzN w0 c s) (pzP w0 c s) (pzM w0 c s) w0 c W) (snO w0 c W) D (4 - n) n r U j (flO (stO (okO (pzN w0 c s) (pzP w0 c s) (pzM w0 c s) w0 c W) (snO w0 c W) D (4 - n) n r U) j st)); unfold stO; rw [if_pos htb2, if_neg (by omega), show 4 - n - 1 = 4 - (n + 1) by omega]; exact h7o)⟩)
    · skip
      refine qG.retv rfl rfl ?_
      subst hQ9
      exact ⟨⟨rfl, rfl, hI177.2.1, hI177.2.2.1⟩, hI177.2.2.2.1, by rw [show j = 10 by omega] at hI177; exact hI177.2.2.2.2⟩
  exact L177 _ (0) (w) rfl (⟨by omega, AW.rf hI, hS, fun _ _ => rfl, hO⟩)
theorem K_tt117 (w0 : qW) (c s : Nat) (W : Int) (D : Nat) (n : Nat) (hn : n ≤ 4) (IH : n < 4 → TRT w0 c s W D (n + 1)) {d : Nat} (hd : 20 - n ≤ d) (U : Nat) (r : Nat → Nat) (st : oSt) (hc : c < 3) (hD : D < 1024) (hW : 1 ≤ W ∧ W ≤ 5) (hk : 1 ≤ s ∧ s ≤ 4) (hU : U < 1024) (hpc : pc (trX D U) 10 + n ≤ 4) (hr : ∀ k, k < n → r k < 10) (w : qW) (hrow : ∀ k, k < n → w 120 k = ((r k : Nat) : Int)) (hO : ORs w st) (hX : RX w0 w) (x7 b : Int) (hx7 : yin (0, 16) x7) (hx7e : x7 = bitsF ((snO w0 c W) n r) 16) (hb : b = 0 ↔ ¬ (betP st.1 (bitsF st.2.1 16) (bitsF ((snO w0 c W) n r) 16) (n : Int))) (h37 : w 95 37 = ((scF kR (nR r W) (4 * n) : Nat) : Int)) (h116 : ∀ t, t < scF kR (nR r W) (4 * n) → w 116 t = siF w0 c kR (nR r W) (4 * n) t) (x9 : qV) (hI : yInv zgf zga zra zSp w) (hS : S3 w) : qG none d 262 117 [(2, 95), (0, ((c : Nat) : Int)), (0, ((D : Nat) : Int)), (0, W), (0, ((s : Nat) : Int)), (0, ((n : Nat) : Int)), (0, ((U : Nat) : Int)), (0, x7), (0, b), x9] [] w 142 (TT w0 c s W n w (flO (stO (okO (pzN w0 c s) (pzP w0 c s) (pzM w0 c s) w0 c W) (snO w0 c W) D (4 - n) n r U) 10 (kpO (okO (pzN w0 c s) (pzP w0 c s) (pzM w0 c s) w0 c W) (snO w0 c W) n r st))) := by
  generalize hQ9 : (TT w0 c s W n w (flO (stO (okO (pzN w0 c s) (pzP w0 c s) (pzM w0 c s) w0 c W) (snO w0 c W) D (4 - n) n r U) 10 (kpO (okO (pzN w0 c s) (pzP w0 c s) (pzM w0 c s) w0 c W) (snO w0 c W) n r st))) = Q9
  obtain ⟨d, rfl⟩ : ∃ d9, d = d9 + 1 := ⟨d - 1, by omega⟩
  refine qG.blk 1 (pc' := 119) (ls' := [(2, 95), (0, ((c : Nat) : Int)), (0, ((D : Nat) : Int)), (0, W), (0, ((s : Nat) : Int)), (0, ((n : Nat) : Int)), (0, ((U : Nat) : Int)), (0, x7), (0, b), x9]) (st' := [(0, b)]) (w' := w) (n' := 142) rfl ?_
  refine qG.br (P := b = 0) (pc1 := 174) (pc2 := 122) (st1 := []) rfl (fun hb0 => ?_) (fun hb0 => ?_)
  · skip
    have hnb : ¬ (betP st.1 (bitsF st.2.1 16) (bitsF ((snO w0 c W) n r) 16) (n : Int)) := hb.mp hb0
    subst hQ9
    have hO1 : ORs w (kpO (okO (pzN w0 c s) (pzP w0 c s) (pzM w0 c s) w0 c W) (snO w0 c W) n r st) := by rw [kpO_nb hnb]; exact hO
    refine qG.mono (K_tt174 w0 c s W D n hn IH hd U r (kpO (okO (pzN w0 c s) (pzP w0 c s) (pzM w0 c s) w0 c W) (snO w0 c W) n r st) hc hD hW hk hU hpc hr w (fun k hk => ((fun (k : Nat) (_ : k < n) => (rfl : w 120 k = w 120 k)) k hk).trans (hrow k hk)) hO1 hX x7 b x9 ((AW.rf hI : AW TRM w w)).1 hS) ?_
    rintro r1 w2 n1 ⟨a1, a2, a3⟩
    exact ⟨TQ.tr ((AW.rf hI : AW TRM w w)) a1, fun k hk => (a2 k hk).trans ((fun (k : Nat) (_ : k < n) => (rfl : w 120 k = w 120 k)) k hk), a3⟩
  · skip
    have hbb : (betP st.1 (bitsF st.2.1 16) (bitsF ((snO w0 c W) n r) 16) (n : Int)) := Classical.byContradiction (fun z => hb0 (hb.mpr z))
    refine qG.blk 3 (pc' := 126) (ls' := [(2, 95), (0, ((c : Nat) : Int)), (0, ((D : Nat) : Int)), (0, W), (0, ((s : Nat) : Int)), (0, ((n : Nat) : Int)), (0, ((U : Nat) : Int)), (0, x7), (0, b), x9]) (st' := [(0, ((s : Nat) : Int)), (0, ((c : Nat) : Int)), (2, 95)]) (w' := w) (n' := 142) rfl ?_
    refine qG.call (t := 257) (na := 3) (sk := 1) (md := 1) (ls1 := [(2, 95), (0, ((c : Nat) : Int)), (0, ((s : Nat) : Int)), (9, 0), (9, 0), (9, 0), (9, 0)]) (r1 := []) rfl rfl rfl rfl rfl (K_hidesF (by omega) c s hc hk.1 hk.2 w hI hS) ?_
    rintro _ w1 _ ⟨rfl, wZ, hfp, hA0, hS0, hdw, N, S, t, hN, hSS, htS, rfl, hts, h46, hmin⟩
    have hTB := hS0.2 c s hc hk.1 hk.2 hfp.at9
    have hsp := hidesF_sp hA0.1 hTB hN htS rfl hts h46 hmin
    obtain ⟨z1, z2, z3⟩ := pz_cg (w := w0) (w1 := wZ) (fun i => (hA0.2 96 i (fun _ => ymo_far (by decide) (by decide) i)).trans (hX.1 i)) (fun i => (hA0.2 99 i (fun _ => ymo_far (by decide) (by decide) i)).trans (hX.2.2.2.1 i)) c s
    rw [z1, z2, z3] at hsp
    have eS : S = scF kR (nR r W) (4 * n) := by have z := hA0.2 95 37 (fun _ => rfl); omega
    have hsp2 := HSP.cg (V := fun t => siF w0 c kR (nR r W) (4 * n) t) hsp (fun _ _ => rfl) (fun _ _ _ _ => rfl) (fun t ht => (hA0.2 116 t (fun _ => ymo_far (by decide) (by decide) t)).trans (h116 t (by omega)))
    rw [eS] at hsp2
    have hcz : ((cntF (cF wZ t) N : Nat) : Int) = 0 ↔ (okO (pzN w0 c s) (pzP w0 c s) (pzM w0 c s) w0 c W) n r = false := hsp2.z.trans (gzE.trans okO_no.symm)
    have hA1 : AW TRM w w1 := (hd_aw hA0 hdw).mono (by decide +kernel)
    have hS3 := hd_s3 hS0 hdw
    have h1f : ∀ q k, q = 120 ∨ q = 121 → w1 q k = w q k := fun q k h => (hdw.1 q k (by omega) (by omega) (by omega)).trans (by rcases h with rfl | rfl; exact hA0.2 120 k (fun _ => ymo_far (by decide) (by decide) k); exact hA0.2 121 k (fun _ => ymo_far (by decide) (by decide) k))
    have h1c : ∀ k, k = 50 ∨ k = 51 → w1 95 k = w 95 k := fun k h => (hdw.1 95 k (by omega) (by omega) (by omega)).trans (by rcases h with rfl | rfl; exact hA0.2 95 50 (fun _ => rfl); exact hA0.2 95 51 (fun _ => rfl))
    clear hsp hsp2 hTB hfp h46 hmin hts
    show qG none (d + 1) 262 129 [(2, 95), (0, ((c : Nat) : Int)), (0, ((D : Nat) : Int)), (0, W), (0, ((s : Nat) : Int)), (0, ((n : Nat) : Int)), (0, ((U : Nat) : Int)), (0, x7), (0, b), x9] [(0, ((cntF (cF wZ t) N : Nat) : Int))] w1 142 Q9
    refine qG.br (P := 0 < ((cntF (cF wZ t) N : Nat) : Int)) (pc1 := 132) (pc2 := 174) (st1 := []) rfl (fun hcn => ?_) (fun hcn => ?_)
    · skip
      have hyok : (okO (pzN w0 c s) (pzP w0 c s) (pzM w0 c s) w0 c W) n r = true := by cases q : (okO (pzN w0 c s) (pzP w0 c s) (pzM w0 c s) w0 c W) n r with | true => rfl | false => have := hcz.mpr q; omega
      refine qG.blk 8 (pc' := 147) (ls' := [(2, 95), (0, ((c : Nat) : Int)), (0, ((D : Nat) : Int)), (0, W), (0, ((s : Nat) : Int)), (0, ((n : Nat) : Int)), (0, ((U : Nat) : Int)), (0, x7), (0, b), (0, 0)]) (st' := []) (w' := (qup (qup w1 95 50 ((n : Nat) : Int)) 95 51 x7)) (n' := 142) rfl ?_
      have L147 : ∀ (m9 : Nat) (j : Nat) (w9 : qW), n - j = m9 → (j ≤ n ∧ AW TRM w w9 ∧ S3 w9 ∧ (∀ k, k < n → w9 120 k = w 120 k) ∧ (∀ k, k < j → w9 121 k = w 120 k) ∧ w9 95 50 = ((n : Nat) : Int) ∧ w9 95 51 = x7) → qG none (d + 1) 262 147 [(2, 95), (0, ((c : Nat) : Int)), (0, ((D : Nat) : Int)), (0, W), (0, ((s : Nat) : Int)), (0, ((n : Nat) : Int)), (0, ((U : Nat) : Int)), (0, x7), (0, b), (0, ((j : Nat) : Int))] [] w9 142 Q9 := by
        intro m9
        induction m9 using Nat.strongRecOn with
        | ind m9 ih147 =>
        intro j w9 hm147 hI147
        have h120 := hI147.2.1.1.2.1 120 j (0, 9) rfl rfl
        refine qG.blk 2 (pc' := 151) (ls' := [(2, 95), (0, ((c : Nat) : Int)), (0, ((D : Nat) : Int)), (0, W), (0, ((s : Nat) : Int)), (0, ((n : Nat) : Int)), (0, ((U : Nat) : Int)), (0, x7), (0, b), (0, ((j : Nat) : Int))]) (st' := [(0, ((n : Nat) : Int)), (0, ((j : Nat) : Int))]) (w' := w9) (n' := 142) rfl ?_
        refine qG.br (P := ((j : Nat) : Int) < ((n : Nat) : Int)) (pc1 := 154) (pc2 := 174) (st1 := []) rfl (fun h1 => ?_) (fun h1 => ?_)
        · skip
          refine qG.blk 2 (pc' := 158) (ls' := [(2, 95), (0, ((c : Nat) : Int)), (0, ((D : Nat) : Int)), (0, W), (0, ((s : Nat) : Int)), (0, ((n : Nat) : Int)), (0, ((U : Nat) : Int)), (0, x7), (0, b), (0, ((j : Nat) : Int))]) (st' := [(2, w9 95 49)]) (w' := w9) (n' := 142) rfl ?_
          rw [show w9 95 49 = 121 from zref hI147.2.1.1 rfl rfl]
          refine qG.blk 3 (pc' := 164) (ls' := [(2, 95), (0, ((c : Nat) : Int)), (0, ((D : Nat) : Int)), (0, W), (0, ((s : Nat) : Int)), (0, ((n : Nat) : Int)), (0, ((U : Nat) : Int)), (0, x7), (0, b), (0, ((j : Nat) : Int))]) (st' := [(2, w9 95 48), (0, ((j : Nat) : Int)), (2, 121)]) (w' := w9) (n' := 142) rfl ?_
          rw [show w9 95 48 = 120 from zref hI147.2.1.1 rfl rfl]
          refine qG.blk 1 (pc' := 166) (ls' := [(2, 95), (0, ((c : Nat) : Int)), (0, ((D : Nat) : Int)), (0, W), (0, ((s : Nat) : Int)), (0, ((n : Nat) : Int)), (0, ((U : Nat) : Int)), (0, x7), (0, b), (0, ((j : Nat) : Int))]) (st' := [(0, ((j : Nat) : Int)), (2, 120), (0, ((j : Nat) : Int)), (2, 121)]) (w' := w9) (n' := 142) rfl ?_
          refine qG.ar (P := 0 ≤ ((j : Nat) : Int) ∧ ((j : Nat) : Int) < ((4 : Nat) : Int)) (P2 := 0 < (120 : Int) ∧ (120 : Int) ≤ ((142 : Nat) : Int)) (pc' := 167) (ls' := [(2, 95), (0, ((c : Nat) : Int)), (0, ((D : Nat) : Int)), (0, W), (0, ((s : Nat) : Int)), (0, ((n : Nat) : Int)), (0, ((U : Nat) : Int)), (0, x7), (0, b), (0, ((j : Nat) : Int))]) (st' := [(0, w9 120 j), (0, ((j : Nat) : Int)), (2, 121)]) (w' := w9) (n' := 142) rfl (by omega) (by decide) ?_
          refine qG.ar (P := 0 ≤ ((j : Nat) : Int) ∧ ((j : Nat) : Int) < ((4 : Nat) : Int)) (P2 := 0 < (121 : Int) ∧ (121 : Int) ≤ ((142 : Nat) : Int)) (pc' := 168) (ls' := [(2, 95), (0, ((c : Nat) : Int)), (0, ((D : Nat) : Int)), (0, W), (0, ((s : Nat) : Int)), (0, ((n : Nat) : Int)), (0, ((U : Nat) : Int)), (0, x7), (0, b), (0, ((j : Nat) : Int))]) (st' := []) (w' := (qup w9 121 j (w9 120 j))) (n' := 142) rfl (by omega) (by decide) ?_
          refine qG.blk 1 (pc' := 171) (ls' := [(2, 95), (0, ((c : Nat) : Int)), (0, ((D : Nat) : Int)), (0, W), (0, ((s : Nat) : Int)), (0, ((n : Nat) : Int)), (0, ((U : Nat) : Int)), (0, x7), (0, b), (0, wrp (((j : Nat) : Int) + 1))]) (st' := []) (w' := (qup w9 121 j (w9 120 j))) (n' := 142) rfl ?_
          rw [show wrp (((j : Nat) : Int) + 1) = ((j + 1 : Nat) : Int) from wrp_id (by omega) (by omega)]
          refine qG.blk 1 (pc' := 147) (ls' := [(2, 95), (0, ((c : Nat) : Int)), (0, ((D : Nat) : Int)), (0, W), (0, ((s : Nat) : Int)), (0, ((n : Nat) : Int)), (0, ((U : Nat) : Int)), (0, x7), (0, b), (0, ((j + 1 : Nat) : Int))]) (st' := []) (w' := (qup w9 121 j (w9 120 j))) (n' := 142) rfl ?_
          exact ih147 _ (by omega) (j + 1) ((qup w9 121 j (w9 120 j))) rfl (⟨by omega, hI147.2.1.upd (by decide) rfl (zup_a hI147.2.1.1 (b := (0, 9)) rfl rfl h120), hI147.2.2.1.cong (by rw [qup_ne (by decide)]) (fun i => by rw [qup_ne (by decide)]) (fun i => by rw [qup_ne (by decide)]) ⟨by rw [qup_ne (by decide)], fun i => by rw [qup_ne (by decide)], fun i => by rw [qup_ne (by decide)], fun i => by rw [qup_ne (by decide)]⟩, fun k hk => by rw [qup_ne (by decide)]; exact hI147.2.2.2.1 k hk, fun k hk => by by_cases e : k = j; (rw [e, qup_k]; exact hI147.2.2.2.1 j (by omega)); (rw [qup_j e]; exact hI147.2.2.2.2.1 k (by omega)), by rw [qup_ne (by decide)]; exact hI147.2.2.2.2.2.1, by rw [qup_ne (by decide)]; exact hI147.2.2.2.2.2.2⟩)
        · skip
          subst hQ9
          have hO1 : ORs w9 (kpO (okO (pzN w0 c s) (pzP w0 c s) (pzM w0 c s) w0 c W) (snO w0 c W) n r st) := by rw [kpO_yes hyok hbb]; exact ⟨hI147.2.2.2.2.2.1, fun _ => hI147.2.2.2.2.2.2.trans hx7e, fun k hk => by have hk : (k : Int) < (n : Int) := hk; rw [hI147.2.2.2.2.1 k (by omega)]; exact hrow k (by omega)⟩
          refine qG.mono (K_tt174 w0 c s W D n hn IH hd U r (kpO (okO (pzN w0 c s) (pzP w0 c s) (pzM w0 c s) w0 c W) (snO w0 c W) n r st) hc hD hW hk hU hpc hr w9 (fun k hk => ((hI147.2.2.2.1) k hk).trans (hrow k hk)) hO1 (hX.aw (hI147.2.1) (by decide +kernel)) x7 b (0, ((j : Nat) : Int)) (hI147.2.1).1 hI147.2.2.1) ?_
          rintro r1 w2 n1 ⟨a1, a2, a3⟩
          exact ⟨TQ.tr (hI147.2.1) a1, fun k hk => (a2 k hk).trans ((hI147.2.2.2.1) k hk), a3⟩
      exact L147 _ (0) ((qup (qup w1 95 50 ((n : Nat) : Int)) 95 51 x7)) rfl (⟨by omega, (hA1.upd (p := 95) (j := 50) (v := ((n : Nat) : Int)) (by decide) rfl (zup_f hA1.1 (b := (-1, 4)) rfl rfl rfl ⟨by show (-1 : Int) ≤ _; omega, by show _ ≤ (4 : Int); omega⟩)).upd (p := 95) (j := 51) (v := x7) (by decide) rfl (zup_f (zup_f hA1.1 (b := (-1, 4)) rfl rfl rfl ⟨by show (-1 : Int) ≤ _; omega, by show _ ≤ (4 : Int); omega⟩) (b := (0, 16)) rfl rfl rfl hx7), hS3.cong ((qup_j (by decide)).trans (qup_j (by decide))) (fun i => by rw [qup_ne (by decide), qup_ne (by decide)]) (fun i => by rw [qup_ne (by decide), qup_ne (by decide)]) ⟨(qup_j (by decide)).trans (qup_j (by decide)), fun i => by rw [qup_ne (by decide), qup_ne (by decide)], fun i => by rw [qup_ne (by decide), qup_ne (by decide)], fun i => by rw [qup_ne (by decide), qup_ne (by decide)]⟩, fun k hk => by rw [qup_ne (by decide), qup_ne (by decide)]; exact h1f 120 k (by decide), fun k hk => absurd hk (Nat.not_lt_zero k), (qup_j (by decide)).trans qup_k, qup_k⟩)
    · skip
      have hnok : (okO (pzN w0 c s) (pzP w0 c s) (pzM w0 c s) w0 c W) n r = false := hcz.mp (by omega)
      subst hQ9
      have hO1 : ORs w1 (kpO (okO (pzN w0 c s) (pzP w0 c s) (pzM w0 c s) w0 c W) (snO w0 c W) n r st) := by rw [kpO_no hnok]; exact hO.cg (h1c 50 (by decide)) (h1c 51 (by decide)) (fun k => h1f 121 k (by decide))
      refine qG.mono (K_tt174 w0 c s W D n hn IH hd U r (kpO (okO (pzN w0 c s) (pzP w0 c s) (pzM w0 c s) w0 c W) (snO w0 c W) n r st) hc hD hW hk hU hpc hr w1 (fun k hk => ((fun k hk => h1f 120 k (by decide)) k hk).trans (hrow k hk)) hO1 (hX.aw (hA1) (by decide +kernel)) x7 b x9 (hA1).1 hS3) ?_
      rintro r1 w2 n1 ⟨a1, a2, a3⟩
      exact ⟨TQ.tr (hA1) a1, fun k hk => (a2 k hk).trans ((fun k hk => h1f 120 k (by decide)) k hk), a3⟩
theorem shW_P0 {w0 w : qW} {c : Nat} {K N : Nat → Int} : SHP w0 c K N 0 (begW w) := by
  refine ⟨?_, ?_, ?_, ?_, ?_, ?_, ?_, fun s hs => absurd hs (Nat.not_lt_zero s)⟩ <;> (unfold begW; simp (disch := decide) only [qup_j, qup_k]; rfl)
theorem R_tot {r : Nat → Nat} {W : Int} (hW : 1 ≤ W ∧ W ≤ 5) : ∀ n, scF kR (nR r W) (4 * n) ≤ 8 * n
  | 0 => Nat.le_refl _
  | n + 1 => by
    have ih := R_tot (r := r) hW n
    have z := (R_sc (r := r) (W := W) (n := n)).2.2.2
    rw [show 4 * (n + 1) = 4 * n + 4 by omega]
    omega
theorem K_tt0 (w0 : qW) (c s : Nat) (W : Int) (D : Nat) (n : Nat) (hn : n ≤ 4) (IH : n < 4 → TRT w0 c s W D (n + 1)) {d : Nat} (hd : 20 - n ≤ d) (U : Nat) (r : Nat → Nat) (st : oSt) (hc : c < 3) (hD : D < 1024) (hW : 1 ≤ W ∧ W ≤ 5) (hk : 1 ≤ s ∧ s ≤ 4) (hU : U < 1024) (hpc : pc (trX D U) 10 + n ≤ 4) (hr : ∀ k, k < n → r k < 10) (w : qW) (hrow : ∀ k, k < n → w 120 k = ((r k : Nat) : Int)) (hO : ORs w st) (hX : RX w0 w) (hI : yInv zgf zga zra zSp w) (hS : S3 w) : qG none d 262 0 [(2, 95), (0, ((c : Nat) : Int)), (0, ((D : Nat) : Int)), (0, W), (0, ((s : Nat) : Int)), (0, ((n : Nat) : Int)), (0, ((U : Nat) : Int)), (9, 0), (9, 0), (9, 0)] [] w 142 (TT w0 c s W n w (XPo (okO (pzN w0 c s) (pzP w0 c s) (pzM w0 c s) w0 c W) (snO w0 c W) D (4 - n) n r U st)) := by
  generalize hQ9 : (TT w0 c s W n w (XPo (okO (pzN w0 c s) (pzP w0 c s) (pzM w0 c s) w0 c W) (snO w0 c W) D (4 - n) n r U st)) = Q9
  obtain ⟨d, rfl⟩ : ∃ d9, d = d9 + 1 := ⟨d - 1, by omega⟩
  refine qG.blk 1 (pc' := 1) (ls' := [(2, 95), (0, ((c : Nat) : Int)), (0, ((D : Nat) : Int)), (0, W), (0, ((s : Nat) : Int)), (0, ((n : Nat) : Int)), (0, ((U : Nat) : Int)), (9, 0), (9, 0), (9, 0)]) (st' := [(2, 95)]) (w' := w) (n' := 142) rfl ?_
  refine qG.call (t := 251) (na := 1) (sk := 1) (md := 1) (ls1 := [(2, 95)]) (r1 := []) rfl rfl rfl rfl rfl (K_begins (Nat.zero_le _) w hI) ?_
  rintro _ wb _ ⟨rfl, hwb, rfl⟩
  have hAb : AW SHM w wb := hwb ▸ bg_aw hI
  have hPb : SHP w0 c kR (nR r W) (4 * 0) wb := by rw [hwb]; exact shW_P0
  show qG none (d + 1) 262 4 [(2, 95), (0, ((c : Nat) : Int)), (0, ((D : Nat) : Int)), (0, W), (0, ((s : Nat) : Int)), (0, ((n : Nat) : Int)), (0, ((U : Nat) : Int)), (9, 0), (9, 0), (9, 0)] [] wb 142 Q9
  refine qG.blk 2 (pc' := 7) (ls' := [(2, 95), (0, ((c : Nat) : Int)), (0, ((D : Nat) : Int)), (0, W), (0, ((s : Nat) : Int)), (0, ((n : Nat) : Int)), (0, ((U : Nat) : Int)), (0, 0), (9, 0), (9, 0)]) (st' := []) (w' := wb) (n' := 142) rfl ?_
  have L7 : ∀ (m9 : Nat) (k7 : Nat) (w9 : qW), n - k7 = m9 → (k7 ≤ n ∧ AW SHM w w9 ∧ SHP w0 c kR (nR r W) (4 * k7) w9) → qG none (d + 1) 262 7 [(2, 95), (0, ((c : Nat) : Int)), (0, ((D : Nat) : Int)), (0, W), (0, ((s : Nat) : Int)), (0, ((n : Nat) : Int)), (0, ((U : Nat) : Int)), (0, ((k7 : Nat) : Int)), (9, 0), (9, 0)] [] w9 142 Q9 := by
    intro m9
    induction m9 using Nat.strongRecOn with
    | ind m9 ih7 =>
    intro k7 w9 hm7 hI7
    have hscn := R_tot (r := r) (W := W) hW k7
    refine qG.blk 2 (pc' := 11) (ls' := [(2, 95), (0, ((c : Nat) : Int)), (0, ((D : Nat) : Int)), (0, W), (0, ((s : Nat) : Int)), (0, ((n : Nat) : Int)), (0, ((U : Nat) : Int)), (0, ((k7 : Nat) : Int)), (9, 0), (9, 0)]) (st' := [(0, ((n : Nat) : Int)), (0, ((k7 : Nat) : Int))]) (w' := w9) (n' := 142) rfl ?_
    refine qG.br (P := ((k7 : Nat) : Int) < ((n : Nat) : Int)) (pc1 := 14) (pc2 := 66) (st1 := []) rfl (fun h1 => ?_) (fun h1 => ?_)
    · skip
      refine qG.blk 5 (pc' := 21) (ls' := [(2, 95), (0, ((c : Nat) : Int)), (0, ((D : Nat) : Int)), (0, W), (0, ((s : Nat) : Int)), (0, ((n : Nat) : Int)), (0, ((U : Nat) : Int)), (0, ((k7 : Nat) : Int)), (9, 0), (9, 0)]) (st' := [(2, w9 95 48), (0, 3), (0, ((c : Nat) : Int)), (2, 95)]) (w' := w9) (n' := 142) rfl ?_
      rw [show w9 95 48 = 120 from zref hI7.2.1.1 rfl rfl]
      refine qG.blk 1 (pc' := 23) (ls' := [(2, 95), (0, ((c : Nat) : Int)), (0, ((D : Nat) : Int)), (0, W), (0, ((s : Nat) : Int)), (0, ((n : Nat) : Int)), (0, ((U : Nat) : Int)), (0, ((k7 : Nat) : Int)), (9, 0), (9, 0)]) (st' := [(0, ((k7 : Nat) : Int)), (2, 120), (0, 3), (0, ((c : Nat) : Int)), (2, 95)]) (w' := w9) (n' := 142) rfl ?_
      refine qG.ar (P := 0 ≤ ((k7 : Nat) : Int) ∧ ((k7 : Nat) : Int) < ((4 : Nat) : Int)) (P2 := 0 < (120 : Int) ∧ (120 : Int) ≤ ((142 : Nat) : Int)) (pc' := 24) (ls' := [(2, 95), (0, ((c : Nat) : Int)), (0, ((D : Nat) : Int)), (0, W), (0, ((s : Nat) : Int)), (0, ((n : Nat) : Int)), (0, ((U : Nat) : Int)), (0, ((k7 : Nat) : Int)), (9, 0), (9, 0)]) (st' := [(0, w9 120 k7), (0, 3), (0, ((c : Nat) : Int)), (2, 95)]) (w' := w9) (n' := 142) rfl (by omega) (by decide) ?_
      rw [show w9 120 k7 = ((r k7 : Nat) : Int) from ((hI7.2.1).2 120 k7 (fun _ => ymo_far (by decide) (by decide) k7)).trans (hrow k7 (by omega))]
      have hdn2 : dN 3 (((r k7 : Nat) : Int)) = 1 := rfl
      have hsm2 := hI7.2.2.2.2.2.2.2.2.1
      have hr2 := hr k7 (by omega)
      refine qG.call (t := 252) (na := 4) (sk := 1) (md := 1) (ls1 := [(2, 95), (0, ((c : Nat) : Int)), (0, 3), (0, ((r k7 : Nat) : Int)), (9, 0), (9, 0)]) (r1 := []) rfl rfl rfl rfl rfl (K_does (by omega) c 3 (((r k7 : Nat) : Int)) hc ⟨by decide, by decide⟩ ⟨by show (-2147483648 : Int) ≤ _; omega, by show _ ≤ (2147483647 : Int); omega⟩ w9 hI7.2.1.1 (by rw [hdn2]; omega)) ?_
      rintro _ w2 _ ⟨rfl, hw2, rfl⟩
      have hA2 : AW SHM w w2 := hw2 ▸ do_aw hI7.2.1 ⟨by show (-2147483648 : Int) ≤ _; omega, by show _ ≤ (2147483647 : Int); omega⟩ (by rw [hdn2]; omega)
      have hX2 := hX.aw hI7.2.1 (by decide +kernel)
      have hP2 : SHP w0 c kR (nR r W) (4 * k7 + 1) w2 := by
        have z := SHP.does (K := kR) (N := nR r W) (i := 4 * k7) hX2.1 hX2.2.1 hX2.2.2.1 hX2.2.2.2.2 hI7.2.2
        rw [kR_0, nR_0] at z
        rw [hw2]; exact z
      show qG none (d + 1) 262 27 [(2, 95), (0, ((c : Nat) : Int)), (0, ((D : Nat) : Int)), (0, W), (0, ((s : Nat) : Int)), (0, ((n : Nat) : Int)), (0, ((U : Nat) : Int)), (0, ((k7 : Nat) : Int)), (9, 0), (9, 0)] [] w2 142 Q9
      refine qG.blk 5 (pc' := 34) (ls' := [(2, 95), (0, ((c : Nat) : Int)), (0, ((D : Nat) : Int)), (0, W), (0, ((s : Nat) : Int)), (0, ((n : Nat) : Int)), (0, ((U : Nat) : Int)), (0, ((k7 : Nat) : Int)), (9, 0), (9, 0)]) (st' := [(2, w2 95 48), (0, 0), (0, ((c : Nat) : Int)), (2, 95)]) (w' := w2) (n' := 142) rfl ?_
      rw [show w2 95 48 = 120 from zref hA2.1 rfl rfl]
      refine qG.blk 1 (pc' := 36) (ls' := [(2, 95), (0, ((c : Nat) : Int)), (0, ((D : Nat) : Int)), (0, W), (0, ((s : Nat) : Int)), (0, ((n : Nat) : Int)), (0, ((U : Nat) : Int)), (0, ((k7 : Nat) : Int)), (9, 0), (9, 0)]) (st' := [(0, ((k7 : Nat) : Int)), (2, 120), (0, 0), (0, ((c : Nat) : Int)), (2, 95)]) (w' := w2) (n' := 142) rfl ?_
      refine qG.ar (P := 0 ≤ ((k7 : Nat) : Int) ∧ ((k7 : Nat) : Int) < ((4 : Nat) : Int)) (P2 := 0 < (120 : Int) ∧ (120 : Int) ≤ ((142 : Nat) : Int)) (pc' := 37) (ls' := [(2, 95), (0, ((c : Nat) : Int)), (0, ((D : Nat) : Int)), (0, W), (0, ((s : Nat) : Int)), (0, ((n : Nat) : Int)), (0, ((U : Nat) : Int)), (0, ((k7 : Nat) : Int)), (9, 0), (9, 0)]) (st' := [(0, w2 120 k7), (0, 0), (0, ((c : Nat) : Int)), (2, 95)]) (w' := w2) (n' := 142) rfl (by omega) (by decide) ?_
      rw [show w2 120 k7 = ((r k7 : Nat) : Int) from ((hA2).2 120 k7 (fun _ => ymo_far (by decide) (by decide) k7)).trans (hrow k7 (by omega))]
      have hdn3 : dN 0 (((r k7 : Nat) : Int)) = 1 := rfl
      have hsm3 := hP2.2.2.2.2.2.2.1
      have hr3 := hr k7 (by omega)
      have hss3 := (R_sc (r := r) (W := W) (n := k7)).1
      refine qG.call (t := 252) (na := 4) (sk := 1) (md := 1) (ls1 := [(2, 95), (0, ((c : Nat) : Int)), (0, 0), (0, ((r k7 : Nat) : Int)), (9, 0), (9, 0)]) (r1 := []) rfl rfl rfl rfl rfl (K_does (by omega) c 0 (((r k7 : Nat) : Int)) hc ⟨by decide, by decide⟩ ⟨by show (-2147483648 : Int) ≤ _; omega, by show _ ≤ (2147483647 : Int); omega⟩ w2 hA2.1 (by rw [hdn3]; omega)) ?_
      rintro _ w3 _ ⟨rfl, hw3, rfl⟩
      have hA3 : AW SHM w w3 := hw3 ▸ do_aw hA2 ⟨by show (-2147483648 : Int) ≤ _; omega, by show _ ≤ (2147483647 : Int); omega⟩ (by rw [hdn3]; omega)
      have hX3 := hX.aw hA2 (by decide +kernel)
      have hP3 : SHP w0 c kR (nR r W) (4 * k7 + 2) w3 := by
        have z := SHP.does (K := kR) (N := nR r W) (i := 4 * k7 + 1) hX3.1 hX3.2.1 hX3.2.2.1 hX3.2.2.2.2 hP2
        rw [kR_1, nR_1] at z
        rw [hw3]; exact z
      show qG none (d + 1) 262 40 [(2, 95), (0, ((c : Nat) : Int)), (0, ((D : Nat) : Int)), (0, W), (0, ((s : Nat) : Int)), (0, ((n : Nat) : Int)), (0, ((U : Nat) : Int)), (0, ((k7 : Nat) : Int)), (9, 0), (9, 0)] [] w3 142 Q9
      refine qG.blk 4 (pc' := 44) (ls' := [(2, 95), (0, ((c : Nat) : Int)), (0, ((D : Nat) : Int)), (0, W), (0, ((s : Nat) : Int)), (0, ((n : Nat) : Int)), (0, ((U : Nat) : Int)), (0, ((k7 : Nat) : Int)), (9, 0), (9, 0)]) (st' := [(0, W), (0, 2), (0, ((c : Nat) : Int)), (2, 95)]) (w' := w3) (n' := 142) rfl ?_
      have hdn4 : dN 2 (W) = (W).toNat := rfl
      have hsm4 := hP3.2.2.2.2.2.2.1
      have hr4 := hr k7 (by omega)
      have hss4 := (R_sc (r := r) (W := W) (n := k7)).2.1
      refine qG.call (t := 252) (na := 4) (sk := 1) (md := 1) (ls1 := [(2, 95), (0, ((c : Nat) : Int)), (0, 2), (0, W), (9, 0), (9, 0)]) (r1 := []) rfl rfl rfl rfl rfl (K_does (by omega) c 2 (W) hc ⟨by decide, by decide⟩ ⟨by show (-2147483648 : Int) ≤ _; omega, by show _ ≤ (2147483647 : Int); omega⟩ w3 hA3.1 (by rw [hdn4]; omega)) ?_
      rintro _ w4 _ ⟨rfl, hw4, rfl⟩
      have hA4 : AW SHM w w4 := hw4 ▸ do_aw hA3 ⟨by show (-2147483648 : Int) ≤ _; omega, by show _ ≤ (2147483647 : Int); omega⟩ (by rw [hdn4]; omega)
      have hX4 := hX.aw hA3 (by decide +kernel)
      have hP4 : SHP w0 c kR (nR r W) (4 * k7 + 3) w4 := by
        have z := SHP.does (K := kR) (N := nR r W) (i := 4 * k7 + 2) hX4.1 hX4.2.1 hX4.2.2.1 hX4.2.2.2.2 hP3
        rw [kR_2, nR_2] at z
        rw [hw4]; exact z
      show qG none (d + 1) 262 47 [(2, 95), (0, ((c : Nat) : Int)), (0, ((D : Nat) : Int)), (0, W), (0, ((s : Nat) : Int)), (0, ((n : Nat) : Int)), (0, ((U : Nat) : Int)), (0, ((k7 : Nat) : Int)), (9, 0), (9, 0)] [] w4 142 Q9
      refine qG.blk 5 (pc' := 54) (ls' := [(2, 95), (0, ((c : Nat) : Int)), (0, ((D : Nat) : Int)), (0, W), (0, ((s : Nat) : Int)), (0, ((n : Nat) : Int)), (0, ((U : Nat) : Int)), (0, ((k7 : Nat) : Int)), (9, 0), (9, 0)]) (st' := [(2, w4 95 48), (0, 1), (0, ((c : Nat) : Int)), (2, 95)]) (w' := w4) (n' := 142) rfl ?_
      rw [show w4 95 48 = 120 from zref hA4.1 rfl rfl]
      refine qG.blk 1 (pc' := 56) (ls' := [(2, 95), (0, ((c : Nat) : Int)), (0, ((D : Nat) : Int)), (0, W), (0, ((s : Nat) : Int)), (0, ((n : Nat) : Int)), (0, ((U : Nat) : Int)), (0, ((k7 : Nat) : Int)), (9, 0), (9, 0)]) (st' := [(0, ((k7 : Nat) : Int)), (2, 120), (0, 1), (0, ((c : Nat) : Int)), (2, 95)]) (w' := w4) (n' := 142) rfl ?_
      refine qG.ar (P := 0 ≤ ((k7 : Nat) : Int) ∧ ((k7 : Nat) : Int) < ((4 : Nat) : Int)) (P2 := 0 < (120 : Int) ∧ (120 : Int) ≤ ((142 : Nat) : Int)) (pc' := 57) (ls' := [(2, 95), (0, ((c : Nat) : Int)), (0, ((D : Nat) : Int)), (0, W), (0, ((s : Nat) : Int)), (0, ((n : Nat) : Int)), (0, ((U : Nat) : Int)), (0, ((k7 : Nat) : Int)), (9, 0), (9, 0)]) (st' := [(0, w4 120 k7), (0, 1), (0, ((c : Nat) : Int)), (2, 95)]) (w' := w4) (n' := 142) rfl (by omega) (by decide) ?_
      rw [show w4 120 k7 = ((r k7 : Nat) : Int) from ((hA4).2 120 k7 (fun _ => ymo_far (by decide) (by decide) k7)).trans (hrow k7 (by omega))]
      have hdn5 : dN 1 (((r k7 : Nat) : Int)) = 1 := rfl
      have hsm5 := hP4.2.2.2.2.2.2.1
      have hr5 := hr k7 (by omega)
      have hss5 := (R_sc (r := r) (W := W) (n := k7)).2.2.1
      refine qG.call (t := 252) (na := 4) (sk := 1) (md := 1) (ls1 := [(2, 95), (0, ((c : Nat) : Int)), (0, 1), (0, ((r k7 : Nat) : Int)), (9, 0), (9, 0)]) (r1 := []) rfl rfl rfl rfl rfl (K_does (by omega) c 1 (((r k7 : Nat) : Int)) hc ⟨by decide, by decide⟩ ⟨by show (-2147483648 : Int) ≤ _; omega, by show _ ≤ (2147483647 : Int); omega⟩ w4 hA4.1 (by rw [hdn5]; omega)) ?_
      rintro _ w5 _ ⟨rfl, hw5, rfl⟩
      have hA5 : AW SHM w w5 := hw5 ▸ do_aw hA4 ⟨by show (-2147483648 : Int) ≤ _; omega, by show _ ≤ (2147483647 : Int); omega⟩ (by rw [hdn5]; omega)
      have hX5 := hX.aw hA4 (by decide +kernel)
      have hP5 : SHP w0 c kR (nR r W) (4 * k7 + 4) w5 := by
        have z := SHP.does (K := kR) (N := nR r W) (i := 4 * k7 + 3) hX5.1 hX5.2.1 hX5.2.2.1 hX5.2.2.2.2 hP4
        rw [kR_3, nR_3] at z
        rw [hw5]; exact z
      show qG none (d + 1) 262 60 [(2, 95), (0, ((c : Nat) : Int)), (0, ((D : Nat) : Int)), (0, W), (0, ((s : Nat) : Int)), (0, ((n : Nat) : Int)), (0, ((U : Nat) : Int)), (0, ((k7 : Nat) : Int)), (9, 0), (9, 0)] [] w5 142 Q9
      refine qG.blk 1 (pc' := 63) (ls' := [(2, 95), (0, ((c : Nat) : Int)), (0, ((D : Nat) : Int)), (0, W), (0, ((s : Nat) : Int)), (0, ((n : Nat) : Int)), (0, ((U : Nat) : Int)), (0, wrp (((k7 : Nat) : Int) + 1)), (9, 0), (9, 0)]) (st' := []) (w' := w5) (n' := 142) rfl ?_
      rw [show wrp (((k7 : Nat) : Int) + 1) = ((k7 + 1 : Nat) : Int) from wrp_id (by omega) (by omega)]
      refine qG.blk 1 (pc' := 7) (ls' := [(2, 95), (0, ((c : Nat) : Int)), (0, ((D : Nat) : Int)), (0, W), (0, ((s : Nat) : Int)), (0, ((n : Nat) : Int)), (0, ((U : Nat) : Int)), (0, ((k7 + 1 : Nat) : Int)), (9, 0), (9, 0)]) (st' := []) (w' := w5) (n' := 142) rfl ?_
      exact ih7 _ (by omega) (k7 + 1) (w5) rfl (⟨by omega, hA5, by rw [show 4 * (k7 + 1) = 4 * k7 + 4 by omega]; exact hP5⟩)
    · skip
      refine qG.blk 2 (pc' := 70) (ls' := [(2, 95), (0, ((c : Nat) : Int)), (0, ((D : Nat) : Int)), (0, W), (0, ((s : Nat) : Int)), (0, ((n : Nat) : Int)), (0, ((U : Nat) : Int)), (0, ((k7 : Nat) : Int)), (9, 0), (9, 0)]) (st' := [(0, w9 95 38)]) (w' := w9) (n' := 142) rfl ?_
      refine qG.call (t := 211) (na := 1) (sk := 0) (md := 0) (ls1 := [(0, w9 95 38), (9, 0), (9, 0)]) (r1 := []) rfl rfl rfl rfl rfl (K_bits (Nat.zero_le _) (w9 95 38) w9) ?_
      rintro _ w6 _ ⟨rfl, hw6, rfl⟩
      rw [hw6]
      show qG none (d + 1) 262 73 [(2, 95), (0, ((c : Nat) : Int)), (0, ((D : Nat) : Int)), (0, W), (0, ((s : Nat) : Int)), (0, ((n : Nat) : Int)), (0, ((U : Nat) : Int)), (0, ((k7 : Nat) : Int)), (9, 0), (9, 0)] [(0, bitsF (w9 95 38) 16)] w9 142 Q9
      refine qG.blk 4 (pc' := 80) (ls' := [(2, 95), (0, ((c : Nat) : Int)), (0, ((D : Nat) : Int)), (0, W), (0, ((s : Nat) : Int)), (0, ((n : Nat) : Int)), (0, ((U : Nat) : Int)), (0, bitsF (w9 95 38) 16), (9, 0), (9, 0)]) (st' := [(0, (-1)), (0, w9 95 50)]) (w' := w9) (n' := 142) rfl ?_
      refine qG.br (P := w9 95 50 = (-1)) (pc1 := 110) (pc2 := 83) (st1 := []) rfl (fun h6 => ?_) (fun h6 => ?_)
      · skip
        refine qG.blk 3 (pc' := 117) (ls' := [(2, 95), (0, ((c : Nat) : Int)), (0, ((D : Nat) : Int)), (0, W), (0, ((s : Nat) : Int)), (0, ((n : Nat) : Int)), (0, ((U : Nat) : Int)), (0, bitsF (w9 95 38) 16), (0, 1), (9, 0)]) (st' := []) (w' := w9) (n' := 142) rfl ?_
        subst hQ9
        obtain rfl : k7 = n := by omega
        have hAT : AW TRM w w9 := hI7.2.1.mono (by decide +kernel)
        have h50 : w9 95 50 = w 95 50 := hI7.2.1.2 95 50 (fun _ => rfl)
        have h51 : w9 95 51 = w 95 51 := hI7.2.1.2 95 51 (fun _ => rfl)
        have h120 : ∀ i, w9 120 i = w 120 i := fun i => hI7.2.1.2 120 i (fun _ => ymo_far (by decide) (by decide) i)
        have h121 : ∀ i, w9 121 i = w 121 i := fun i => hI7.2.1.2 121 i (fun _ => ymo_far (by decide) (by decide) i)
        have hO9 : ORs w9 st := hO.cg h50 h51 h121
        have hsn : w9 95 38 = (snO w0 c W) k7 r := hI7.2.2.2.2.2.2.1
        refine qG.mono (K_tt117 w0 c s W D k7 hn IH hd U r st hc hD hW hk hU hpc hr w9 (fun k hk => (h120 k).trans (hrow k hk)) hO9 (hX.aw hI7.2.1 (by decide +kernel)) (bitsF (w9 95 38) 16) 1 (bitsF_in _ 16) (by rw [hsn]) (by rw [← hsn]; first | exact betA hO9.1 h6 | exact betB hO9.1 hO9.2.1 h6 h7 | exact betC hO9.1 hO9.2.1 h6 h8 h9 | exact betD hO9.1 hO9.2.1 h6 h7 h9 | exact betE hO9.1 hO9.2.1 h6 h7 h8) hI7.2.2.2.2.2.2.2.2.1 hI7.2.2.2.2.2.2.2.2.2 (9, 0) hI7.2.1.1 (hS.aw hI7.2.1 (by decide) (by decide) (by decide))) ?_
        rintro r1 w2 n1 ⟨a1, a2, a3⟩
        exact ⟨TQ.tr hAT a1, fun k hk => (a2 k hk).trans (h120 k), by rw [XPo_st]; exact a3⟩
      · skip
        refine qG.blk 3 (pc' := 89) (ls' := [(2, 95), (0, ((c : Nat) : Int)), (0, ((D : Nat) : Int)), (0, W), (0, ((s : Nat) : Int)), (0, ((n : Nat) : Int)), (0, ((U : Nat) : Int)), (0, bitsF (w9 95 38) 16), (9, 0), (9, 0)]) (st' := [(0, w9 95 51), (0, bitsF (w9 95 38) 16)]) (w' := w9) (n' := 142) rfl ?_
        refine qG.br (P := w9 95 51 < bitsF (w9 95 38) 16) (pc1 := 110) (pc2 := 92) (st1 := []) rfl (fun h7 => ?_) (fun h7 => ?_)
        · skip
          refine qG.blk 3 (pc' := 117) (ls' := [(2, 95), (0, ((c : Nat) : Int)), (0, ((D : Nat) : Int)), (0, W), (0, ((s : Nat) : Int)), (0, ((n : Nat) : Int)), (0, ((U : Nat) : Int)), (0, bitsF (w9 95 38) 16), (0, 1), (9, 0)]) (st' := []) (w' := w9) (n' := 142) rfl ?_
          subst hQ9
          obtain rfl : k7 = n := by omega
          have hAT : AW TRM w w9 := hI7.2.1.mono (by decide +kernel)
          have h50 : w9 95 50 = w 95 50 := hI7.2.1.2 95 50 (fun _ => rfl)
          have h51 : w9 95 51 = w 95 51 := hI7.2.1.2 95 51 (fun _ => rfl)
          have h120 : ∀ i, w9 120 i = w 120 i := fun i => hI7.2.1.2 120 i (fun _ => ymo_far (by decide) (by decide) i)
          have h121 : ∀ i, w9 121 i = w 121 i := fun i => hI7.2.1.2 121 i (fun _ => ymo_far (by decide) (by decide) i)
          have hO9 : ORs w9 st := hO.cg h50 h51 h121
          have hsn : w9 95 38 = (snO w0 c W) k7 r := hI7.2.2.2.2.2.2.1
          refine qG.mono (K_tt117 w0 c s W D k7 hn IH hd U r st hc hD hW hk hU hpc hr w9 (fun k hk => (h120 k).trans (hrow k hk)) hO9 (hX.aw hI7.2.1 (by decide +kernel)) (bitsF (w9 95 38) 16) 1 (bitsF_in _ 16) (by rw [hsn]) (by rw [← hsn]; first | exact betA hO9.1 h6 | exact betB hO9.1 hO9.2.1 h6 h7 | exact betC hO9.1 hO9.2.1 h6 h8 h9 | exact betD hO9.1 hO9.2.1 h6 h7 h9 | exact betE hO9.1 hO9.2.1 h6 h7 h8) hI7.2.2.2.2.2.2.2.2.1 hI7.2.2.2.2.2.2.2.2.2 (9, 0) hI7.2.1.1 (hS.aw hI7.2.1 (by decide) (by decide) (by decide))) ?_
          rintro r1 w2 n1 ⟨a1, a2, a3⟩
          exact ⟨TQ.tr hAT a1, fun k hk => (a2 k hk).trans (h120 k), by rw [XPo_st]; exact a3⟩
        · skip
          refine qG.blk 3 (pc' := 98) (ls' := [(2, 95), (0, ((c : Nat) : Int)), (0, ((D : Nat) : Int)), (0, W), (0, ((s : Nat) : Int)), (0, ((n : Nat) : Int)), (0, ((U : Nat) : Int)), (0, bitsF (w9 95 38) 16), (9, 0), (9, 0)]) (st' := [(0, w9 95 51), (0, bitsF (w9 95 38) 16)]) (w' := w9) (n' := 142) rfl ?_
          refine qG.br (P := bitsF (w9 95 38) 16 = w9 95 51) (pc1 := 101) (pc2 := 114) (st1 := []) rfl (fun h8 => ?_) (fun h8 => ?_)
          · skip
            refine qG.blk 3 (pc' := 107) (ls' := [(2, 95), (0, ((c : Nat) : Int)), (0, ((D : Nat) : Int)), (0, W), (0, ((s : Nat) : Int)), (0, ((n : Nat) : Int)), (0, ((U : Nat) : Int)), (0, bitsF (w9 95 38) 16), (9, 0), (9, 0)]) (st' := [(0, w9 95 50), (0, ((n : Nat) : Int))]) (w' := w9) (n' := 142) rfl ?_
            refine qG.br (P := ((n : Nat) : Int) < w9 95 50) (pc1 := 110) (pc2 := 114) (st1 := []) rfl (fun h9 => ?_) (fun h9 => ?_)
            · skip
              refine qG.blk 3 (pc' := 117) (ls' := [(2, 95), (0, ((c : Nat) : Int)), (0, ((D : Nat) : Int)), (0, W), (0, ((s : Nat) : Int)), (0, ((n : Nat) : Int)), (0, ((U : Nat) : Int)), (0, bitsF (w9 95 38) 16), (0, 1), (9, 0)]) (st' := []) (w' := w9) (n' := 142) rfl ?_
              subst hQ9
              obtain rfl : k7 = n := by omega
              have hAT : AW TRM w w9 := hI7.2.1.mono (by decide +kernel)
              have h50 : w9 95 50 = w 95 50 := hI7.2.1.2 95 50 (fun _ => rfl)
              have h51 : w9 95 51 = w 95 51 := hI7.2.1.2 95 51 (fun _ => rfl)
              have h120 : ∀ i, w9 120 i = w 120 i := fun i => hI7.2.1.2 120 i (fun _ => ymo_far (by decide) (by decide) i)
              have h121 : ∀ i, w9 121 i = w 121 i := fun i => hI7.2.1.2 121 i (fun _ => ymo_far (by decide) (by decide) i)
              have hO9 : ORs w9 st := hO.cg h50 h51 h121
              have hsn : w9 95 38 = (snO w0 c W) k7 r := hI7.2.2.2.2.2.2.1
              refine qG.mono (K_tt117 w0 c s W D k7 hn IH hd U r st hc hD hW hk hU hpc hr w9 (fun k hk => (h120 k).trans (hrow k hk)) hO9 (hX.aw hI7.2.1 (by decide +kernel)) (bitsF (w9 95 38) 16) 1 (bitsF_in _ 16) (by rw [hsn]) (by rw [← hsn]; first | exact betA hO9.1 h6 | exact betB hO9.1 hO9.2.1 h6 h7 | exact betC hO9.1 hO9.2.1 h6 h8 h9 | exact betD hO9.1 hO9.2.1 h6 h7 h9 | exact betE hO9.1 hO9.2.1 h6 h7 h8) hI7.2.2.2.2.2.2.2.2.1 hI7.2.2.2.2.2.2.2.2.2 (9, 0) hI7.2.1.1 (hS.aw hI7.2.1 (by decide) (by decide) (by decide))) ?_
              rintro r1 w2 n1 ⟨a1, a2, a3⟩
              exact ⟨TQ.tr hAT a1, fun k hk => (a2 k hk).trans (h120 k), by rw [XPo_st]; exact a3⟩
            · skip
              refine qG.blk 2 (pc' := 117) (ls' := [(2, 95), (0, ((c : Nat) : Int)), (0, ((D : Nat) : Int)), (0, W), (0, ((s : Nat) : Int)), (0, ((n : Nat) : Int)), (0, ((U : Nat) : Int)), (0, bitsF (w9 95 38) 16), (0, 0), (9, 0)]) (st' := []) (w' := w9) (n' := 142) rfl ?_
              subst hQ9
              obtain rfl : k7 = n := by omega
              have hAT : AW TRM w w9 := hI7.2.1.mono (by decide +kernel)
              have h50 : w9 95 50 = w 95 50 := hI7.2.1.2 95 50 (fun _ => rfl)
              have h51 : w9 95 51 = w 95 51 := hI7.2.1.2 95 51 (fun _ => rfl)
              have h120 : ∀ i, w9 120 i = w 120 i := fun i => hI7.2.1.2 120 i (fun _ => ymo_far (by decide) (by decide) i)
              have h121 : ∀ i, w9 121 i = w 121 i := fun i => hI7.2.1.2 121 i (fun _ => ymo_far (by decide) (by decide) i)
              have hO9 : ORs w9 st := hO.cg h50 h51 h121
              have hsn : w9 95 38 = (snO w0 c W) k7 r := hI7.2.2.2.2.2.2.1
              refine qG.mono (K_tt117 w0 c s W D k7 hn IH hd U r st hc hD hW hk hU hpc hr w9 (fun k hk => (h120 k).trans (hrow k hk)) hO9 (hX.aw hI7.2.1 (by decide +kernel)) (bitsF (w9 95 38) 16) 0 (bitsF_in _ 16) (by rw [hsn]) (by rw [← hsn]; first | exact betA hO9.1 h6 | exact betB hO9.1 hO9.2.1 h6 h7 | exact betC hO9.1 hO9.2.1 h6 h8 h9 | exact betD hO9.1 hO9.2.1 h6 h7 h9 | exact betE hO9.1 hO9.2.1 h6 h7 h8) hI7.2.2.2.2.2.2.2.2.1 hI7.2.2.2.2.2.2.2.2.2 (9, 0) hI7.2.1.1 (hS.aw hI7.2.1 (by decide) (by decide) (by decide))) ?_
              rintro r1 w2 n1 ⟨a1, a2, a3⟩
              exact ⟨TQ.tr hAT a1, fun k hk => (a2 k hk).trans (h120 k), by rw [XPo_st]; exact a3⟩
          · skip
            refine qG.blk 2 (pc' := 117) (ls' := [(2, 95), (0, ((c : Nat) : Int)), (0, ((D : Nat) : Int)), (0, W), (0, ((s : Nat) : Int)), (0, ((n : Nat) : Int)), (0, ((U : Nat) : Int)), (0, bitsF (w9 95 38) 16), (0, 0), (9, 0)]) (st' := []) (w' := w9) (n' := 142) rfl ?_
            subst hQ9
            obtain rfl : k7 = n := by omega
            have hAT : AW TRM w w9 := hI7.2.1.mono (by decide +kernel)
            have h50 : w9 95 50 = w 95 50 := hI7.2.1.2 95 50 (fun _ => rfl)
            have h51 : w9 95 51 = w 95 51 := hI7.2.1.2 95 51 (fun _ => rfl)
            have h120 : ∀ i, w9 120 i = w 120 i := fun i => hI7.2.1.2 120 i (fun _ => ymo_far (by decide) (by decide) i)
            have h121 : ∀ i, w9 121 i = w 121 i := fun i => hI7.2.1.2 121 i (fun _ => ymo_far (by decide) (by decide) i)
            have hO9 : ORs w9 st := hO.cg h50 h51 h121
            have hsn : w9 95 38 = (snO w0 c W) k7 r := hI7.2.2.2.2.2.2.1
            refine qG.mono (K_tt117 w0 c s W D k7 hn IH hd U r st hc hD hW hk hU hpc hr w9 (fun k hk => (h120 k).trans (hrow k hk)) hO9 (hX.aw hI7.2.1 (by decide +kernel)) (bitsF (w9 95 38) 16) 0 (bitsF_in _ 16) (by rw [hsn]) (by rw [← hsn]; first | exact betA hO9.1 h6 | exact betB hO9.1 hO9.2.1 h6 h7 | exact betC hO9.1 hO9.2.1 h6 h8 h9 | exact betD hO9.1 hO9.2.1 h6 h7 h9 | exact betE hO9.1 hO9.2.1 h6 h7 h8) hI7.2.2.2.2.2.2.2.2.1 hI7.2.2.2.2.2.2.2.2.2 (9, 0) hI7.2.1.1 (hS.aw hI7.2.1 (by decide) (by decide) (by decide))) ?_
            rintro r1 w2 n1 ⟨a1, a2, a3⟩
            exact ⟨TQ.tr hAT a1, fun k hk => (a2 k hk).trans (h120 k), by rw [XPo_st]; exact a3⟩
  exact L7 _ (0) (wb) rfl (⟨by omega, hAb, hPb⟩)
theorem TRT_4 (w0 : qW) (c s : Nat) (W : Int) (D : Nat) (hc : c < 3) (hD : D < 1024) (hW : 1 ≤ W ∧ W ≤ 5) (hk : 1 ≤ s ∧ s ≤ 4) : TRT w0 c s W D 4 := fun d w U r st h1 h2 h3 h4 h5 h6 h7 h8 h9 => K_tt0 w0 c s W D 4 (by decide) (fun h => absurd h (by decide)) h1 U r st hc hD hW hk h2 h3 h4 w h5 h6 h7 h8 h9
theorem TRT_3 (w0 : qW) (c s : Nat) (W : Int) (D : Nat) (hc : c < 3) (hD : D < 1024) (hW : 1 ≤ W ∧ W ≤ 5) (hk : 1 ≤ s ∧ s ≤ 4) : TRT w0 c s W D 3 := fun d w U r st h1 h2 h3 h4 h5 h6 h7 h8 h9 => K_tt0 w0 c s W D 3 (by decide) (fun h => TRT_4 w0 c s W D hc hD hW hk) h1 U r st hc hD hW hk h2 h3 h4 w h5 h6 h7 h8 h9
theorem TRT_2 (w0 : qW) (c s : Nat) (W : Int) (D : Nat) (hc : c < 3) (hD : D < 1024) (hW : 1 ≤ W ∧ W ≤ 5) (hk : 1 ≤ s ∧ s ≤ 4) : TRT w0 c s W D 2 := fun d w U r st h1 h2 h3 h4 h5 h6 h7 h8 h9 => K_tt0 w0 c s W D 2 (by decide) (fun h => TRT_3 w0 c s W D hc hD hW hk) h1 U r st hc hD hW hk h2 h3 h4 w h5 h6 h7 h8 h9
theorem TRT_1 (w0 : qW) (c s : Nat) (W : Int) (D : Nat) (hc : c < 3) (hD : D < 1024) (hW : 1 ≤ W ∧ W ≤ 5) (hk : 1 ≤ s ∧ s ≤ 4) : TRT w0 c s W D 1 := fun d w U r st h1 h2 h3 h4 h5 h6 h7 h8 h9 => K_tt0 w0 c s W D 1 (by decide) (fun h => TRT_2 w0 c s W D hc hD hW hk) h1 U r st hc hD hW hk h2 h3 h4 w h5 h6 h7 h8 h9
theorem TRT_0 (w0 : qW) (c s : Nat) (W : Int) (D : Nat) (hc : c < 3) (hD : D < 1024) (hW : 1 ≤ W ∧ W ≤ 5) (hk : 1 ≤ s ∧ s ≤ 4) : TRT w0 c s W D 0 := fun d w U r st h1 h2 h3 h4 h5 h6 h7 h8 h9 => K_tt0 w0 c s W D 0 (by decide) (fun h => TRT_1 w0 c s W D hc hD hW hk) h1 U r st hc hD hW hk h2 h3 h4 w h5 h6 h7 h8 h9
theorem K_X12_orderA {d : Nat} (hd : 22 ≤ d) (c D W s v : Int) (w : qW) (hI : yInv zgf zga zra zSp w) (_ : Sp1 w) (hS : S3 w) : qG none d 263 0 [(2, 95), (0, c), (0, D), (0, W), (0, s), (0, v)] [] w 142 (fun (r : qV) (_ : qW) (_ : Nat) => ∃ x, r = (0, x) ∧ ORT w c D W s v x) := by
  generalize hQ9 : (fun (r : qV) (_ : qW) (_ : Nat) => ∃ x, r = (0, x) ∧ ORT w c D W s v x) = Q9
  obtain ⟨d, rfl⟩ : ∃ d9, d = d9 + 1 := ⟨d - 1, by omega⟩
  refine qG.blk 1 (pc' := 1) (ls' := [(2, 95), (0, c), (0, D), (0, W), (0, s), (0, v)]) (st' := [(0, c)]) (w' := w) (n' := 142) rfl ?_
  refine qG.call (t := 207) (na := 1) (sk := 0) (md := 0) (ls1 := [(0, c)]) (r1 := []) rfl rfl rfl rfl rfl (K_isChest (by omega) _ _) ?_
  rintro _ w7 _ ⟨rfl, hw7, rfl⟩
  rw [hw7]
  show qG none (d + 1) 263 4 [(2, 95), (0, c), (0, D), (0, W), (0, s), (0, v)] [(0, isInV c 0 2)] w 142 Q9
  refine qG.br (P := isInV c 0 2 = 0) (pc1 := 53) (pc2 := 7) (st1 := []) rfl (fun hc0 => ?_) (fun hc0 => ?_)
  · skip
    refine qG.blk 1 (pc' := 54) (ls' := [(2, 95), (0, c), (0, D), (0, W), (0, s), (0, v)]) (st' := [(0, (-1))]) (w' := w) (n' := 142) rfl ?_
    refine qG.ret rfl rfl ?_
    subst hQ9
    first | (exact ⟨_, rfl, .inl ⟨by unfold odB; first | exact .inl hc0 | exact .inr (.inl hD0) | exact .inr (.inr (.inl (by omega))) | exact .inr (.inr (.inr (.inl hW0))) | exact .inr (.inr (.inr (.inr hs0))), rfl⟩⟩; done) | exact ⟨_, rfl, .inr ⟨fun z => z.elim hc0 (fun z => z.elim hD0 (fun z => z.elim (fun z => by omega) (fun z => z.elim hW0 hs0))), by rw [Int.toNat_natCast, Int.toNat_natCast, Int.toNat_natCast]; exact (odV_out odS_4 hv0).symm⟩⟩
  · skip
    obtain ⟨c9, rfl, hlc9, huc9⟩ := isIn_n (by decide) hc0
    refine qG.blk 3 (pc' := 12) (ls' := [(2, 95), (0, ((c9 : Nat) : Int)), (0, D), (0, W), (0, s), (0, v)]) (st' := [(0, 1023), (0, 0), (0, D)]) (w' := w) (n' := 142) rfl ?_
    refine qG.call (t := 206) (na := 3) (sk := 0) (md := 0) (ls1 := [(0, D), (0, 0), (0, 1023)]) (r1 := []) rfl rfl rfl rfl rfl (K_isIn (Nat.zero_le _) _ _ _ _) ?_
    rintro _ w7 _ ⟨rfl, hw7, rfl⟩
    rw [hw7]
    show qG none (d + 1) 263 15 [(2, 95), (0, ((c9 : Nat) : Int)), (0, D), (0, W), (0, s), (0, v)] [(0, isInV (D) (0) (1023))] w 142 Q9
    refine qG.br (P := isInV (D) (0) (1023) = 0) (pc1 := 53) (pc2 := 18) (st1 := []) rfl (fun hD0 => ?_) (fun hD0 => ?_)
    · skip
      refine qG.blk 1 (pc' := 54) (ls' := [(2, 95), (0, ((c9 : Nat) : Int)), (0, D), (0, W), (0, s), (0, v)]) (st' := [(0, (-1))]) (w' := w) (n' := 142) rfl ?_
      refine qG.ret rfl rfl ?_
      subst hQ9
      first | (exact ⟨_, rfl, .inl ⟨by unfold odB; first | exact .inl hc0 | exact .inr (.inl hD0) | exact .inr (.inr (.inl (by omega))) | exact .inr (.inr (.inr (.inl hW0))) | exact .inr (.inr (.inr (.inr hs0))), rfl⟩⟩; done) | exact ⟨_, rfl, .inr ⟨fun z => z.elim hc0 (fun z => z.elim hD0 (fun z => z.elim (fun z => by omega) (fun z => z.elim hW0 hs0))), by rw [Int.toNat_natCast, Int.toNat_natCast, Int.toNat_natCast]; exact (odV_out odS_4 hv0).symm⟩⟩
    · skip
      obtain ⟨D9, rfl, hlD9, huD9⟩ := isIn_n (by decide) hD0
      refine qG.blk 1 (pc' := 19) (ls' := [(2, 95), (0, ((c9 : Nat) : Int)), (0, ((D9 : Nat) : Int)), (0, W), (0, s), (0, v)]) (st' := [(0, ((D9 : Nat) : Int))]) (w' := w) (n' := 142) rfl ?_
      refine qG.call (t := 211) (na := 1) (sk := 0) (md := 0) (ls1 := [(0, ((D9 : Nat) : Int)), (9, 0), (9, 0)]) (r1 := []) rfl rfl rfl rfl rfl (K_bits (Nat.zero_le _) (((D9 : Nat) : Int)) w) ?_
      rintro _ w6 _ ⟨rfl, hw6, rfl⟩
      rw [hw6]
      show qG none (d + 1) 263 22 [(2, 95), (0, ((c9 : Nat) : Int)), (0, ((D9 : Nat) : Int)), (0, W), (0, s), (0, v)] [(0, bitsF ((D9 : Nat) : Int) 16)] w 142 Q9
      refine qG.blk 1 (pc' := 23) (ls' := [(2, 95), (0, ((c9 : Nat) : Int)), (0, ((D9 : Nat) : Int)), (0, W), (0, s), (0, v)]) (st' := [(0, 4), (0, bitsF ((D9 : Nat) : Int) 16)]) (w' := w) (n' := 142) rfl ?_
      refine qG.br (P := 4 < bitsF ((D9 : Nat) : Int) 16) (pc1 := 53) (pc2 := 26) (st1 := []) rfl (fun hb4 => ?_) (fun hb4 => ?_)
      · skip
        refine qG.blk 1 (pc' := 54) (ls' := [(2, 95), (0, ((c9 : Nat) : Int)), (0, ((D9 : Nat) : Int)), (0, W), (0, s), (0, v)]) (st' := [(0, (-1))]) (w' := w) (n' := 142) rfl ?_
        refine qG.ret rfl rfl ?_
        subst hQ9
        first | (exact ⟨_, rfl, .inl ⟨by unfold odB; first | exact .inl hc0 | exact .inr (.inl hD0) | exact .inr (.inr (.inl (by omega))) | exact .inr (.inr (.inr (.inl hW0))) | exact .inr (.inr (.inr (.inr hs0))), rfl⟩⟩; done) | exact ⟨_, rfl, .inr ⟨fun z => z.elim hc0 (fun z => z.elim hD0 (fun z => z.elim (fun z => by omega) (fun z => z.elim hW0 hs0))), by rw [Int.toNat_natCast, Int.toNat_natCast, Int.toNat_natCast]; exact (odV_out odS_4 hv0).symm⟩⟩
      · skip
        refine qG.blk 3 (pc' := 29) (ls' := [(2, 95), (0, ((c9 : Nat) : Int)), (0, ((D9 : Nat) : Int)), (0, W), (0, s), (0, v)]) (st' := [(0, 5), (0, 1), (0, W)]) (w' := w) (n' := 142) rfl ?_
        refine qG.call (t := 206) (na := 3) (sk := 0) (md := 0) (ls1 := [(0, W), (0, 1), (0, 5)]) (r1 := []) rfl rfl rfl rfl rfl (K_isIn (Nat.zero_le _) _ _ _ _) ?_
        rintro _ w7 _ ⟨rfl, hw7, rfl⟩
        rw [hw7]
        show qG none (d + 1) 263 32 [(2, 95), (0, ((c9 : Nat) : Int)), (0, ((D9 : Nat) : Int)), (0, W), (0, s), (0, v)] [(0, isInV (W) (1) (5))] w 142 Q9
        refine qG.br (P := isInV (W) (1) (5) = 0) (pc1 := 53) (pc2 := 35) (st1 := []) rfl (fun hW0 => ?_) (fun hW0 => ?_)
        · skip
          refine qG.blk 1 (pc' := 54) (ls' := [(2, 95), (0, ((c9 : Nat) : Int)), (0, ((D9 : Nat) : Int)), (0, W), (0, s), (0, v)]) (st' := [(0, (-1))]) (w' := w) (n' := 142) rfl ?_
          refine qG.ret rfl rfl ?_
          subst hQ9
          first | (exact ⟨_, rfl, .inl ⟨by unfold odB; first | exact .inl hc0 | exact .inr (.inl hD0) | exact .inr (.inr (.inl (by omega))) | exact .inr (.inr (.inr (.inl hW0))) | exact .inr (.inr (.inr (.inr hs0))), rfl⟩⟩; done) | exact ⟨_, rfl, .inr ⟨fun z => z.elim hc0 (fun z => z.elim hD0 (fun z => z.elim (fun z => by omega) (fun z => z.elim hW0 hs0))), by rw [Int.toNat_natCast, Int.toNat_natCast, Int.toNat_natCast]; exact (odV_out odS_4 hv0).symm⟩⟩
        · skip
          obtain ⟨W8, hW8, hlW8, huW8⟩ := isIn_n (by decide) hW0
          have hW9 : 1 ≤ W ∧ W ≤ 5 := ⟨by omega, by omega⟩
          refine qG.blk 1 (pc' := 37) (ls' := [(2, 95), (0, ((c9 : Nat) : Int)), (0, ((D9 : Nat) : Int)), (0, W), (0, s), (0, v)]) (st' := [(0, s)]) (w' := w) (n' := 142) rfl ?_
          refine qG.call (t := 210) (na := 1) (sk := 0) (md := 0) (ls1 := [(0, s)]) (r1 := []) rfl rfl rfl rfl rfl (K_isSize (by omega) _ _) ?_
          rintro _ w7 _ ⟨rfl, hw7, rfl⟩
          rw [hw7]
          show qG none (d + 1) 263 40 [(2, 95), (0, ((c9 : Nat) : Int)), (0, ((D9 : Nat) : Int)), (0, W), (0, s), (0, v)] [(0, isInV s 1 4)] w 142 Q9
          refine qG.br (P := isInV s 1 4 = 0) (pc1 := 53) (pc2 := 43) (st1 := []) rfl (fun hs0 => ?_) (fun hs0 => ?_)
          · skip
            refine qG.blk 1 (pc' := 54) (ls' := [(2, 95), (0, ((c9 : Nat) : Int)), (0, ((D9 : Nat) : Int)), (0, W), (0, s), (0, v)]) (st' := [(0, (-1))]) (w' := w) (n' := 142) rfl ?_
            refine qG.ret rfl rfl ?_
            subst hQ9
            first | (exact ⟨_, rfl, .inl ⟨by unfold odB; first | exact .inl hc0 | exact .inr (.inl hD0) | exact .inr (.inr (.inl (by omega))) | exact .inr (.inr (.inr (.inl hW0))) | exact .inr (.inr (.inr (.inr hs0))), rfl⟩⟩; done) | exact ⟨_, rfl, .inr ⟨fun z => z.elim hc0 (fun z => z.elim hD0 (fun z => z.elim (fun z => by omega) (fun z => z.elim hW0 hs0))), by rw [Int.toNat_natCast, Int.toNat_natCast, Int.toNat_natCast]; exact (odV_out odS_4 hv0).symm⟩⟩
          · skip
            obtain ⟨s9, rfl, hls9, hus9⟩ := isIn_n (by decide) hs0
            refine qG.blk 3 (pc' := 47) (ls' := [(2, 95), (0, ((c9 : Nat) : Int)), (0, ((D9 : Nat) : Int)), (0, W), (0, ((s9 : Nat) : Int)), (0, v)]) (st' := [(0, 5), (0, 0), (0, v)]) (w' := w) (n' := 142) rfl ?_
            refine qG.call (t := 206) (na := 3) (sk := 0) (md := 0) (ls1 := [(0, v), (0, 0), (0, 5)]) (r1 := []) rfl rfl rfl rfl rfl (K_isIn (Nat.zero_le _) _ _ _ _) ?_
            rintro _ w7 _ ⟨rfl, hw7, rfl⟩
            rw [hw7]
            show qG none (d + 1) 263 50 [(2, 95), (0, ((c9 : Nat) : Int)), (0, ((D9 : Nat) : Int)), (0, W), (0, ((s9 : Nat) : Int)), (0, v)] [(0, isInV (v) (0) (5))] w 142 Q9
            refine qG.br (P := isInV (v) (0) (5) = 0) (pc1 := 53) (pc2 := 55) (st1 := []) rfl (fun hv0 => ?_) (fun hv0 => ?_)
            · skip
              refine qG.blk 1 (pc' := 54) (ls' := [(2, 95), (0, ((c9 : Nat) : Int)), (0, ((D9 : Nat) : Int)), (0, W), (0, ((s9 : Nat) : Int)), (0, v)]) (st' := [(0, (-1))]) (w' := w) (n' := 142) rfl ?_
              refine qG.ret rfl rfl ?_
              subst hQ9
              first | (exact ⟨_, rfl, .inl ⟨by unfold odB; first | exact .inl hc0 | exact .inr (.inl hD0) | exact .inr (.inr (.inl (by omega))) | exact .inr (.inr (.inr (.inl hW0))) | exact .inr (.inr (.inr (.inr hs0))), rfl⟩⟩; done) | exact ⟨_, rfl, .inr ⟨fun z => z.elim hc0 (fun z => z.elim hD0 (fun z => z.elim (fun z => by omega) (fun z => z.elim hW0 hs0))), by rw [Int.toNat_natCast, Int.toNat_natCast, Int.toNat_natCast]; exact (odV_out odS_4 hv0).symm⟩⟩
            · skip
              obtain ⟨v9, rfl, hlv9, huv9⟩ := isIn_n (by decide) hv0
              have hAq : AW TRM w (qup w 95 50 (-1)) := (AW.rf hI).upd (by decide) rfl (zup_f hI (b := (-1, 4)) rfl rfl rfl ⟨by decide, by decide⟩)
              have hSq : S3 (qup w 95 50 (-1)) := hS.cong (qup_j (by decide)) (fun i => by rw [qup_ne (by decide)]) (fun i => by rw [qup_ne (by decide)]) ⟨qup_j (by decide), fun i => by rw [qup_ne (by decide)], fun i => by rw [qup_ne (by decide)], fun i => by rw [qup_ne (by decide)]⟩
              have hodB : ¬ odB (c9 : Int) (D9 : Int) W (s9 : Int) := fun z => z.elim hc0 (fun z => z.elim hD0 (fun z => z.elim (fun z => by omega) (fun z => z.elim hW0 hs0)))
              refine qG.blk 10 (pc' := 68) (ls' := [(2, 95), (0, ((c9 : Nat) : Int)), (0, ((D9 : Nat) : Int)), (0, W), (0, ((s9 : Nat) : Int)), (0, ((v9 : Nat) : Int))]) (st' := [(0, 0), (0, 0), (0, ((s9 : Nat) : Int)), (0, W), (0, ((D9 : Nat) : Int)), (0, ((c9 : Nat) : Int)), (2, 95)]) (w' := (qup w 95 50 (-1))) (n' := 142) rfl ?_
              refine qG.call (t := 262) (na := 7) (sk := 1) (md := 1) (ls1 := [(2, 95), (0, ((c9 : Nat) : Int)), (0, ((D9 : Nat) : Int)), (0, W), (0, ((s9 : Nat) : Int)), (0, 0), (0, 0), (9, 0), (9, 0), (9, 0)]) (r1 := []) rfl rfl rfl rfl rfl ((TRT_0 w c9 s9 W D9 (by omega) (by omega) hW9 ⟨by omega, by omega⟩ d (qup w 95 50 (-1)) 0 (fun _ => 0) (-1, 0, fun _ => 0) (by omega) (by decide) (by rw [trD_0 D9 (by omega)]; rw [bitsF_pc (by omega) 16 (by decide)] at hb4; omega) (fun k hk => absurd hk (Nat.not_lt_zero k)) (fun k hk => absurd hk (Nat.not_lt_zero k)) ⟨qup_k, fun z => absurd rfl z, fun k hk => by have hk : (k : Int) < -1 := hk; omega⟩ ⟨fun i => by rw [qup_ne (by decide)], fun i => by rw [qup_ne (by decide)], fun i => by rw [qup_ne (by decide)], fun i => by rw [qup_ne (by decide)], fun i => by rw [qup_ne (by decide)]⟩ hAq.1 hSq : qG none d 262 0 [(2, 95), (0, ((c9 : Nat) : Int)), (0, ((D9 : Nat) : Int)), (0, W), (0, ((s9 : Nat) : Int)), (0, 0), (0, 0), (9, 0), (9, 0), (9, 0)] [] (qup w 95 50 (-1)) 142 _)) ?_
              rintro _ w1 _ ⟨⟨rfl, rfl, hA1q, hS1⟩, -, hO1⟩
              have hO1 : ORs w1 (odS w c9 D9 W s9) := hO1
              generalize hsO : odS w c9 D9 W s9 = sO at hO1
              have hA1 := hAq.tr hA1q (by decide +kernel)
              have h50 := zfld hA1.1 (j := 50) (b := (-1, 4)) rfl
              have b50 : w1 95 50 ≤ (4 : Int) := h50.2
              have a50 : (-1 : Int) ≤ w1 95 50 := h50.1
              have e50 := hO1.1
              show qG none (d + 1) 263 71 [(2, 95), (0, ((c9 : Nat) : Int)), (0, ((D9 : Nat) : Int)), (0, W), (0, ((s9 : Nat) : Int)), (0, ((v9 : Nat) : Int))] [] w1 142 Q9
              refine qG.blk 2 (pc' := 75) (ls' := [(2, 95), (0, ((c9 : Nat) : Int)), (0, ((D9 : Nat) : Int)), (0, W), (0, ((s9 : Nat) : Int)), (0, ((v9 : Nat) : Int))]) (st' := [(0, w1 95 50)]) (w' := w1) (n' := 142) rfl ?_
              rw [show w1 95 50 = sO.1 from hO1.1]
              refine qG.blk 1 (pc' := 76) (ls' := [(2, 95), (0, ((c9 : Nat) : Int)), (0, ((D9 : Nat) : Int)), (0, W), (0, ((s9 : Nat) : Int)), (0, ((v9 : Nat) : Int))]) (st' := [(0, (-1)), (0, sO.1)]) (w' := w1) (n' := 142) rfl ?_
              refine qG.br (P := sO.1 = (-1)) (pc1 := 79) (pc2 := 81) (st1 := []) rfl (fun hn1 => ?_) (fun hn1 => ?_)
              · skip
                refine qG.blk 1 (pc' := 80) (ls' := [(2, 95), (0, ((c9 : Nat) : Int)), (0, ((D9 : Nat) : Int)), (0, W), (0, ((s9 : Nat) : Int)), (0, ((v9 : Nat) : Int))]) (st' := [(0, (-1))]) (w' := w1) (n' := 142) rfl ?_
                refine qG.ret rfl rfl ?_
                subst hQ9
                refine ⟨_, rfl, .inr ⟨hodB, ?_⟩⟩
                rw [Int.toNat_natCast, Int.toNat_natCast, Int.toNat_natCast, hsO]
                have h51 := hO1.2.1
                have h121 := hO1.2.2
                unfold odA; (repeat' split) <;> first | rfl | omega | exact h51 (by assumption) | (rw [show ((v9 : Int) - 2).toNat = v9 - 2 by omega]; exact h121 (v9 - 2) (by omega))
              · skip
                refine qG.blk 1 (pc' := 83) (ls' := [(2, 95), (0, ((c9 : Nat) : Int)), (0, ((D9 : Nat) : Int)), (0, W), (0, ((s9 : Nat) : Int)), (0, ((v9 : Nat) : Int))]) (st' := [(0, ((v9 : Nat) : Int))]) (w' := w1) (n' := 142) rfl ?_
                refine qG.br (P := ((v9 : Nat) : Int) = 0) (pc1 := 86) (pc2 := 93) (st1 := []) rfl (fun hv1 => ?_) (fun hv1 => ?_)
                · skip
                  refine qG.blk 3 (pc' := 130) (ls' := [(2, 95), (0, ((c9 : Nat) : Int)), (0, ((D9 : Nat) : Int)), (0, W), (0, ((s9 : Nat) : Int)), (0, ((v9 : Nat) : Int))]) (st' := [(0, w1 95 51)]) (w' := w1) (n' := 142) rfl ?_
                  refine qG.ret rfl rfl ?_
                  subst hQ9
                  refine ⟨_, rfl, .inr ⟨hodB, ?_⟩⟩
                  rw [Int.toNat_natCast, Int.toNat_natCast, Int.toNat_natCast, hsO]
                  have h51 := hO1.2.1
                  have h121 := hO1.2.2
                  unfold odA; (repeat' split) <;> first | rfl | omega | exact h51 (by assumption) | (rw [show ((v9 : Int) - 2).toNat = v9 - 2 by omega]; exact h121 (v9 - 2) (by omega))
                · skip
                  refine qG.blk 2 (pc' := 96) (ls' := [(2, 95), (0, ((c9 : Nat) : Int)), (0, ((D9 : Nat) : Int)), (0, W), (0, ((s9 : Nat) : Int)), (0, ((v9 : Nat) : Int))]) (st' := [(0, 1), (0, ((v9 : Nat) : Int))]) (w' := w1) (n' := 142) rfl ?_
                  refine qG.br (P := ((v9 : Nat) : Int) = 1) (pc1 := 99) (pc2 := 106) (st1 := []) rfl (fun hv2 => ?_) (fun hv2 => ?_)
                  · skip
                    refine qG.blk 2 (pc' := 103) (ls' := [(2, 95), (0, ((c9 : Nat) : Int)), (0, ((D9 : Nat) : Int)), (0, W), (0, ((s9 : Nat) : Int)), (0, ((v9 : Nat) : Int))]) (st' := [(0, w1 95 50)]) (w' := w1) (n' := 142) rfl ?_
                    rw [show w1 95 50 = sO.1 from hO1.1]
                    refine qG.blk 1 (pc' := 130) (ls' := [(2, 95), (0, ((c9 : Nat) : Int)), (0, ((D9 : Nat) : Int)), (0, W), (0, ((s9 : Nat) : Int)), (0, ((v9 : Nat) : Int))]) (st' := [(0, sO.1)]) (w' := w1) (n' := 142) rfl ?_
                    refine qG.ret rfl rfl ?_
                    subst hQ9
                    refine ⟨_, rfl, .inr ⟨hodB, ?_⟩⟩
                    rw [Int.toNat_natCast, Int.toNat_natCast, Int.toNat_natCast, hsO]
                    have h51 := hO1.2.1
                    have h121 := hO1.2.2
                    unfold odA; (repeat' split) <;> first | rfl | omega | exact h51 (by assumption) | (rw [show ((v9 : Int) - 2).toNat = v9 - 2 by omega]; exact h121 (v9 - 2) (by omega))
                  · skip
                    refine qG.blk 3 (pc' := 110) (ls' := [(2, 95), (0, ((c9 : Nat) : Int)), (0, ((D9 : Nat) : Int)), (0, W), (0, ((s9 : Nat) : Int)), (0, ((v9 : Nat) : Int))]) (st' := [(0, wrp (((v9 : Nat) : Int) - 2))]) (w' := w1) (n' := 142) rfl ?_
                    rw [show wrp (((v9 : Nat) : Int) - 2) = ((v9 - 2 : Nat) : Int) from by rw [wrp_id (by omega) (by omega)]; omega]
                    refine qG.blk 2 (pc' := 114) (ls' := [(2, 95), (0, ((c9 : Nat) : Int)), (0, ((D9 : Nat) : Int)), (0, W), (0, ((s9 : Nat) : Int)), (0, ((v9 : Nat) : Int))]) (st' := [(0, w1 95 50), (0, ((v9 - 2 : Nat) : Int))]) (w' := w1) (n' := 142) rfl ?_
                    rw [show w1 95 50 = sO.1 from hO1.1]
                    refine qG.br (P := ((v9 - 2 : Nat) : Int) < sO.1) (pc1 := 117) (pc2 := 129) (st1 := []) rfl (fun hv3 => ?_) (fun hv3 => ?_)
                    · skip
                      refine qG.blk 2 (pc' := 121) (ls' := [(2, 95), (0, ((c9 : Nat) : Int)), (0, ((D9 : Nat) : Int)), (0, W), (0, ((s9 : Nat) : Int)), (0, ((v9 : Nat) : Int))]) (st' := [(2, w1 95 49)]) (w' := w1) (n' := 142) rfl ?_
                      rw [show w1 95 49 = 121 from zref hA1.1 rfl rfl]
                      refine qG.blk 3 (pc' := 125) (ls' := [(2, 95), (0, ((c9 : Nat) : Int)), (0, ((D9 : Nat) : Int)), (0, W), (0, ((s9 : Nat) : Int)), (0, ((v9 : Nat) : Int))]) (st' := [(0, wrp (((v9 : Nat) : Int) - 2)), (2, 121)]) (w' := w1) (n' := 142) rfl ?_
                      rw [show wrp (((v9 : Nat) : Int) - 2) = ((v9 - 2 : Nat) : Int) from by rw [wrp_id (by omega) (by omega)]; omega]
                      refine qG.ar (P := 0 ≤ ((v9 - 2 : Nat) : Int) ∧ ((v9 - 2 : Nat) : Int) < ((4 : Nat) : Int)) (P2 := 0 < (121 : Int) ∧ (121 : Int) ≤ ((142 : Nat) : Int)) (pc' := 126) (ls' := [(2, 95), (0, ((c9 : Nat) : Int)), (0, ((D9 : Nat) : Int)), (0, W), (0, ((s9 : Nat) : Int)), (0, ((v9 : Nat) : Int))]) (st' := [(0, w1 121 (v9 - 2))]) (w' := w1) (n' := 142) rfl (by omega) (by decide) ?_
                      refine qG.blk 1 (pc' := 130) (ls' := [(2, 95), (0, ((c9 : Nat) : Int)), (0, ((D9 : Nat) : Int)), (0, W), (0, ((s9 : Nat) : Int)), (0, ((v9 : Nat) : Int))]) (st' := [(0, w1 121 (v9 - 2))]) (w' := w1) (n' := 142) rfl ?_
                      refine qG.ret rfl rfl ?_
                      subst hQ9
                      refine ⟨_, rfl, .inr ⟨hodB, ?_⟩⟩
                      rw [Int.toNat_natCast, Int.toNat_natCast, Int.toNat_natCast, hsO]
                      have h51 := hO1.2.1
                      have h121 := hO1.2.2
                      unfold odA; (repeat' split) <;> first | rfl | omega | exact h51 (by assumption) | (rw [show ((v9 : Int) - 2).toNat = v9 - 2 by omega]; exact h121 (v9 - 2) (by omega))
                    · skip
                      refine qG.blk 1 (pc' := 130) (ls' := [(2, 95), (0, ((c9 : Nat) : Int)), (0, ((D9 : Nat) : Int)), (0, W), (0, ((s9 : Nat) : Int)), (0, ((v9 : Nat) : Int))]) (st' := [(0, (-1))]) (w' := w1) (n' := 142) rfl ?_
                      refine qG.ret rfl rfl ?_
                      subst hQ9
                      refine ⟨_, rfl, .inr ⟨hodB, ?_⟩⟩
                      rw [Int.toNat_natCast, Int.toNat_natCast, Int.toNat_natCast, hsO]
                      have h51 := hO1.2.1
                      have h121 := hO1.2.2
                      unfold odA; (repeat' split) <;> first | rfl | omega | exact h51 (by assumption) | (rw [show ((v9 : Int) - 2).toNat = v9 - 2 by omega]; exact h121 (v9 - 2) (by omega))
