/-! the reference's told shows behind a text -/
noncomputable def RwM (w w1 : qW) : Prop := ∀ q, w1 104 q = w 104 q ∧ w1 105 q = w 105 q ∧ w1 106 q = w 106 q
/-- what a step of the reference lays -/
noncomputable def RWL (w : qW) (L : Nat) (w1 : qW) : Prop := ∃ wa, NX w wa ∧ (∀ j, w1 107 j = if j = L then w 95 27 - 20 else w 107 j) ∧ ∀ j, w1 108 j = if j = L then wa 95 29 else w 108 j
/-- the rows of the steps so far -/
noncomputable def RWS (C : Nat → Int) (L : Nat) (w : qW) (i : Nat) : Prop := i = stB C L ∧ ∀ t, t < L → w 107 t = C (stB C t) - 10000 ∧ (0 ≤ C (stB C t + 1) → C (stB C t + 1) < 10000 → w 108 t = C (stB C t + 1))
theorem RWS.z {C : Nat → Int} {w : qW} : RWS C 0 w 0 := ⟨rfl, fun t ht => absurd ht (Nat.not_lt_zero t)⟩
theorem sStep_w {C : Nat → Int} {c i j : Nat} (h : sStep C c i = (0, j)) : 10000 ≤ C i ∧ C i < 20000 := by
  by_cases q : 10000 ≤ C i ∧ C i < 20000
  · exact q
  · rw [stp_1 q] at h; exact absurd (show (1 : Int) = 0 from congrArg Prod.fst h) (by decide)
theorem RWS.up {S : Nat → qW → Prop} {C P : Nat → Int} (hO : SO S C P TMS) {L i j : Nat} {w w1 : qW} (hI : yInv zgf zga zra zSp w) (hJ : S i w) (h : RWS C L w i) (hs : sStep C L i = (0, j)) (hr : RWL w L w1) : RWS C (L + 1) w1 j := by
  obtain ⟨wa, hN, h7, h8⟩ := hr
  have hw := sStep_w hs
  have ht := (hO.2.1 _ _ hJ).1
  have hv := (hO.2.1 _ _ (hO.1 _ _ _ hJ hI hN)).2.2
  have hk : w 95 27 - 20 = C i - 10000 := by unfold TMS at ht; omega
  have hst : stB C (L + 1) = (sStep C L (stB C L)).2 := rfl
  refine ⟨by rw [hst, ← h.1, hs], fun t ht' => ?_⟩
  rw [h7, h8]
  by_cases e : t = L
  · rw [if_pos e, if_pos e, e, ← h.1]
    exact ⟨hk, fun a b => hv a b⟩
  · rw [if_neg e, if_neg e]
    exact h.2 t (by omega)
theorem ksV_4 {w : qW} {k : Nat} : ∀ n q, ksW w k n 104 q = if 40 * k ≤ q ∧ q < 40 * k + n then w 107 (q - 40 * k) else w 104 q
  | 0, q => by rw [if_neg (by omega)]; exact qup_nk (by decide)
  | n + 1, q => by
    show qup (qup (ksW w k n) 104 (40 * k + n) (w 107 n)) 105 (40 * k + n) (w 108 n) 104 q = _
    rw [qup_nk (by decide)]
    by_cases e : q = 40 * k + n
    · rw [e, qup_k, if_pos (by omega), show 40 * k + n - 40 * k = n by omega]
    · rw [qup_j e, ksV_4 n q]
      by_cases h : 40 * k ≤ q ∧ q < 40 * k + n
      · rw [if_pos h, if_pos (by omega)]
      · rw [if_neg h, if_neg (by omega)]
theorem ksV_5 {w : qW} {k : Nat} : ∀ n q, ksW w k n 105 q = if 40 * k ≤ q ∧ q < 40 * k + n then w 108 (q - 40 * k) else w 105 q
  | 0, q => by rw [if_neg (by omega)]; exact qup_nk (by decide)
  | n + 1, q => by
    show qup (qup (ksW w k n) 104 (40 * k + n) (w 107 n)) 105 (40 * k + n) (w 108 n) 105 q = _
    by_cases e : q = 40 * k + n
    · rw [e, qup_k, if_pos (by omega), show 40 * k + n - 40 * k = n by omega]
    · rw [qup_j e, qup_nk (by decide), ksV_5 n q]
      by_cases h : 40 * k ≤ q ∧ q < 40 * k + n
      · rw [if_pos h, if_pos (by omega)]
      · rw [if_neg h, if_neg (by omega)]
theorem ksV_6 {w : qW} {k : Nat} : ∀ n q, ksW w k n 106 q = if q = k then w 95 23 else w 106 q
  | 0, q => by
    show qup w 106 k (w 95 23) 106 q = _
    by_cases e : q = k
    · rw [e, qup_k, if_pos rfl]
    · rw [qup_j e, if_neg e]
  | n + 1, q => by
    show qup (qup (ksW w k n) 104 (40 * k + n) (w 107 n)) 105 (40 * k + n) (w 108 n) 106 q = _
    rw [qup_nk (by decide), qup_nk (by decide), ksV_6 n q]
theorem tlW_n {w : qW} {v : Int} {p j : Nat} (h : p ≠ 95) : tlW w v p j = w p j := by unfold tlW; rw [qup_nk h, qup_nk h, qup_nk h]
/-- the reference's shows behind the text of the show k with the codes C -/
noncomputable def RWX (C : Nat → Int) (k : Nat) (w w1 : qW) : Prop := (∃ c j : Nat, sSho C = (0, c, j) ∧ c ≤ 40 ∧ w1 106 k = (c : Int) ∧ (∀ q, q ≠ k → w1 106 q = w 106 q) ∧ (∀ t, t < c → w1 104 (40 * k + t) = C (stB C t) - 10000 ∧ (0 ≤ C (stB C t + 1) → C (stB C t + 1) < 10000 → w1 105 (40 * k + t) = C (stB C t + 1))) ∧ ∀ q, (q < 40 * k ∨ 40 * k + 40 ≤ q) → w1 104 q = w 104 q ∧ w1 105 q = w 105 q) ∨ (∃ (s : Int) (c j : Nat), sSho C = (s, c, j) ∧ (s = 1 ∨ s = 2 ∨ s = 3) ∧ RwM w w1)
theorem RwM.xn {w w1 : qW} (h : AW XN w w1) : RwM w w1 := fun q => ⟨h.2 104 q (fun _ => ymo_far (by decide) (by decide +kernel) q), h.2 105 q (fun _ => ymo_far (by decide) (by decide +kernel) q), h.2 106 q (fun _ => ymo_far (by decide) (by decide +kernel) q)⟩
theorem RwM.tl {w w1 : qW} {v : Int} (h : RwM w w1) : RwM w (tlW w1 v) := fun q => ⟨(tlW_n (by decide)).trans (h q).1, (tlW_n (by decide)).trans (h q).2.1, (tlW_n (by decide)).trans (h q).2.2⟩
theorem RwM.kr {w w1 : qW} {L : Nat} (h : RwM w w1) : RwM w (krW w1 L) := fun q => ⟨(krW_o (by omega)).trans (h q).1, (krW_o (by omega)).trans (h q).2.1, (krW_o (by omega)).trans (h q).2.2⟩
theorem RWX.bad {C : Nat → Int} {k c j : Nat} {s v : Int} {w w1 : qW} (hA : AW XN w w1) (h : sSho C = (s, c, j)) (hs : s = 1 ∨ s = 2 ∨ s = 3) : RWX C k w (tlW w1 v) := .inr ⟨s, c, j, h, hs, (RwM.xn hA).tl⟩
theorem RWX.ks {C : Nat → Int} {k L j i : Nat} {w wL : qW} (hA : AW XN w wL) (h : sSho C = (0, L, j)) (hL4 : L ≤ 40) (hL : wL 95 23 = (L : Int)) (hR : RWS C L wL i) : RWX C k w (ksW (tlW wL (-1)) k ((tlW wL (-1)) 95 23).toNat) := by
  have e23 : tlW wL (-1) 95 23 = (L : Int) := (tlW_o (by decide)).trans hL
  have r := (RwM.xn hA).tl (v := -1)
  rw [e23, Int.toNat_natCast]
  refine .inl ⟨L, j, h, hL4, (ksV_6 L k).trans ((if_pos rfl).trans e23), fun q hq => (ksV_6 L q).trans ((if_neg hq).trans (r q).2.2), fun t ht => ?_, fun q hq => ⟨(ksV_4 L q).trans ((if_neg (by omega)).trans (r q).1), (ksV_5 L q).trans ((if_neg (by omega)).trans (r q).2.1)⟩⟩
  rw [ksV_4, ksV_5, if_pos (by omega), if_pos (by omega), show 40 * k + t - 40 * k = t by omega, tlW_n (by decide), tlW_n (by decide)]
  exact hR.2 t ht
theorem K_aStepBR {d : Nat} (hd : 9 ≤ d) (L : Nat) (k : Int) (hk0 : 0 ≤ k) (hk5 : k ≤ 5) (w : qW) (hP : PI w) (hL : w 95 23 = (L : Int)) (hL4 : L < 40) : qG none d 243 70 [(2, 95), (0, k)] [] (stW w L k) 142 (fun (r : qV) (w1 : qW) (n1 : Nat) => n1 = 142 ∧ (r = (0, 1) → ∀ j, w1 107 j = stW w L k 107 j ∧ w1 108 j = stW w L k 108 j)) := by
  generalize hQ9 : (fun (r : qV) (w1 : qW) (n1 : Nat) => n1 = 142 ∧ (r = (0, 1) → ∀ j, w1 107 j = stW w L k 107 j ∧ w1 108 j = stW w L k 108 j)) = Q9
  obtain ⟨d, rfl⟩ : ∃ d9, d = d9 + 1 := ⟨d - 1, by omega⟩
  have hP2 : PI (stW w L k) := stW_P hP hk0 hk5
  refine qG.blk 2 (pc' := 72) (ls' := [(2, 95), (0, k)]) (st' := [(0, 4), (0, k)]) (w' := (stW w L k)) (n' := 142) rfl ?_
  refine qG.br (P := k < 4) (pc1 := 75) (pc2 := 106) (st1 := []) rfl (fun hk4 => ?_) (fun hk4 => ?_)
  · skip
    refine qG.blk 3 (pc' := 78) (ls' := [(2, 95), (0, k)]) (st' := [(0, 2), (0, k), (2, 95)]) (w' := (stW w L k)) (n' := 142) rfl ?_
    refine qG.br (P := k = 2) (pc1 := 81) (pc2 := 85) (st1 := [(2, 95)]) rfl (fun hk2 => ?_) (fun hk2 => ?_)
    · skip
      refine qG.blk 4 (pc' := 88) (ls' := [(2, 95), (0, k)]) (st' := [(0, 2), (0, k), (0, 1), (2, 95)]) (w' := (stW w L k)) (n' := 142) rfl ?_
      refine qG.br (P := k = 2) (pc1 := 91) (pc2 := 96) (st1 := [(0, 1), (2, 95)]) rfl (fun hk2b => ?_) (fun hk2b => ?_)
      · skip
        refine qG.blk 2 (pc' := 98) (ls' := [(2, 95), (0, k)]) (st' := [(0, 20), (0, 1), (2, 95)]) (w' := (stW w L k)) (n' := 142) rfl ?_
        refine qG.call (t := 234) (na := 3) (sk := 1) (md := 1) (ls1 := [(2, 95), (0, 1), (0, 20)]) (r1 := []) rfl rfl rfl rfl rfl (K_number (by omega) (1) (20) (stW w L k) hP2) ?_
        rintro _ w1 _ ⟨rfl, ⟨rfl, hA1⟩ | ⟨rfl, hlo1, hhi1, hS1⟩⟩
        · skip
          show qG none (d + 1) 243 101 [(2, 95), (0, k)] [(0, 0)] w1 142 Q9
          refine qG.br (P := (0 : Int) = 0) (pc1 := 104) (pc2 := 106) (st1 := []) rfl (fun h2 => ?_) (fun h2 => ?_)
          · skip
            refine qG.blk 1 (pc' := 105) (ls' := [(2, 95), (0, k)]) (st' := [(0, 0)]) (w' := w1) (n' := 142) rfl ?_
            refine qG.ret rfl (by first | rfl | exact decide_eq_true (by omega)) ?_
            subst hQ9
            exact ⟨rfl, fun z => absurd (congrArg Prod.snd z) (by decide)⟩
          · exact absurd h2 (by decide)
        · skip
          show qG none (d + 1) 243 101 [(2, 95), (0, k)] [(0, 1)] w1 142 Q9
          have hP1 := PS.tr (PS.rf hP2) hS1 (by omega)
          have hI1 : PI w1 := hS1.2.2.1
          refine qG.br (P := (1 : Int) = 0) (pc1 := 104) (pc2 := 106) (st1 := []) rfl (fun h3 => ?_) (fun h3 => ?_)
          · exact absurd h3 (by decide)
          · skip
            refine qG.blk 3 (pc' := 111) (ls' := [(2, 95), (0, k)]) (st' := [(0, w1 95 23), (2, 95)]) (w' := w1) (n' := 142) rfl ?_
            rw [show w1 95 23 = ((L : Nat) : Int) from (hP1.2.1.2 95 23 (fun _ => rfl)).trans (stW_o.trans hL)]
            refine qG.blk 2 (pc' := 113) (ls' := [(2, 95), (0, k)]) (st' := [(0, wrp (((L : Nat) : Int) + 1)), (2, 95)]) (w' := w1) (n' := 142) rfl ?_
            rw [show wrp (((L : Nat) : Int) + 1) = ((L + 1 : Nat) : Int) from wrp_id (by omega) (by omega)]
            refine qG.blk 3 (pc' := 120) (ls' := [(2, 95), (0, k)]) (st' := [(0, 159), (2, 95)]) (w' := (qup w1 95 23 ((L + 1 : Nat) : Int))) (n' := 142) rfl ?_
            have hIw4 : yInv zgf zga zra zSp (qup w1 95 23 ((L + 1 : Nat) : Int)) := zup_f hI1.1 (b := (0, 40)) rfl rfl rfl ⟨by show (0 : Int) ≤ _; omega, by show _ ≤ (40 : Int); omega⟩
            have hPw4 : PI (qup w1 95 23 ((L + 1 : Nat) : Int)) := hI1.fld (by decide) hIw4
            refine qG.call (t := 233) (na := 2) (sk := 1) (md := 1) (ls1 := [(2, 95), (0, 159)]) (r1 := []) rfl rfl rfl rfl rfl (K_need (by omega) 159 (by decide) (qup w1 95 23 ((L + 1 : Nat) : Int)) hPw4) ?_
            rintro _ w4 _ ⟨rfl, ⟨rfl, hA4⟩ | ⟨rfl, hS4⟩⟩
            · skip
              show qG none (d + 1) 243 123 [(2, 95), (0, k)] [(0, 0)] w4 142 Q9
              refine qG.ret rfl (by first | rfl | exact decide_eq_true (by omega)) ?_
              subst hQ9
              exact ⟨rfl, fun z => absurd (congrArg Prod.snd z) (by decide)⟩
            · skip
              show qG none (d + 1) 243 123 [(2, 95), (0, k)] [(0, 1)] w4 142 Q9
              have hRW : ∀ j, w4 107 j = stW w L k 107 j ∧ w4 108 j = stW w L k 108 j := fun j => ⟨by rw [PM_a hS4.2.1 (by decide) (by decide +kernel), qup_ne (by decide), PM_a hP1.2.1 (by decide) (by decide +kernel)], by rw [PM_a hS4.2.1 (by decide) (by decide +kernel), qup_ne (by decide), PM_a hP1.2.1 (by decide) (by decide +kernel)]⟩
              refine qG.ret rfl (by first | rfl | exact decide_eq_true (by omega)) ?_
              subst hQ9
              exact ⟨rfl, fun _ => hRW⟩
      · skip
        refine qG.blk 1 (pc' := 98) (ls' := [(2, 95), (0, k)]) (st' := [(0, 9), (0, 1), (2, 95)]) (w' := (stW w L k)) (n' := 142) rfl ?_
        refine qG.call (t := 234) (na := 3) (sk := 1) (md := 1) (ls1 := [(2, 95), (0, 1), (0, 9)]) (r1 := []) rfl rfl rfl rfl rfl (K_number (by omega) (1) (9) (stW w L k) hP2) ?_
        rintro _ w5 _ ⟨rfl, ⟨rfl, hA5⟩ | ⟨rfl, hlo5, hhi5, hS5⟩⟩
        · skip
          show qG none (d + 1) 243 101 [(2, 95), (0, k)] [(0, 0)] w5 142 Q9
          refine qG.br (P := (0 : Int) = 0) (pc1 := 104) (pc2 := 106) (st1 := []) rfl (fun h6 => ?_) (fun h6 => ?_)
          · skip
            refine qG.blk 1 (pc' := 105) (ls' := [(2, 95), (0, k)]) (st' := [(0, 0)]) (w' := w5) (n' := 142) rfl ?_
            refine qG.ret rfl (by first | rfl | exact decide_eq_true (by omega)) ?_
            subst hQ9
            exact ⟨rfl, fun z => absurd (congrArg Prod.snd z) (by decide)⟩
          · exact absurd h6 (by decide)
        · skip
          show qG none (d + 1) 243 101 [(2, 95), (0, k)] [(0, 1)] w5 142 Q9
          have hP5 := PS.tr (PS.rf hP2) hS5 (by omega)
          have hI5 : PI w5 := hS5.2.2.1
          refine qG.br (P := (1 : Int) = 0) (pc1 := 104) (pc2 := 106) (st1 := []) rfl (fun h7 => ?_) (fun h7 => ?_)
          · exact absurd h7 (by decide)
          · skip
            refine qG.blk 3 (pc' := 111) (ls' := [(2, 95), (0, k)]) (st' := [(0, w5 95 23), (2, 95)]) (w' := w5) (n' := 142) rfl ?_
            rw [show w5 95 23 = ((L : Nat) : Int) from (hP5.2.1.2 95 23 (fun _ => rfl)).trans (stW_o.trans hL)]
            refine qG.blk 2 (pc' := 113) (ls' := [(2, 95), (0, k)]) (st' := [(0, wrp (((L : Nat) : Int) + 1)), (2, 95)]) (w' := w5) (n' := 142) rfl ?_
            rw [show wrp (((L : Nat) : Int) + 1) = ((L + 1 : Nat) : Int) from wrp_id (by omega) (by omega)]
            refine qG.blk 3 (pc' := 120) (ls' := [(2, 95), (0, k)]) (st' := [(0, 159), (2, 95)]) (w' := (qup w5 95 23 ((L + 1 : Nat) : Int))) (n' := 142) rfl ?_
            have hIw8 : yInv zgf zga zra zSp (qup w5 95 23 ((L + 1 : Nat) : Int)) := zup_f hI5.1 (b := (0, 40)) rfl rfl rfl ⟨by show (0 : Int) ≤ _; omega, by show _ ≤ (40 : Int); omega⟩
            have hPw8 : PI (qup w5 95 23 ((L + 1 : Nat) : Int)) := hI5.fld (by decide) hIw8
            refine qG.call (t := 233) (na := 2) (sk := 1) (md := 1) (ls1 := [(2, 95), (0, 159)]) (r1 := []) rfl rfl rfl rfl rfl (K_need (by omega) 159 (by decide) (qup w5 95 23 ((L + 1 : Nat) : Int)) hPw8) ?_
            rintro _ w8 _ ⟨rfl, ⟨rfl, hA8⟩ | ⟨rfl, hS8⟩⟩
            · skip
              show qG none (d + 1) 243 123 [(2, 95), (0, k)] [(0, 0)] w8 142 Q9
              refine qG.ret rfl (by first | rfl | exact decide_eq_true (by omega)) ?_
              subst hQ9
              exact ⟨rfl, fun z => absurd (congrArg Prod.snd z) (by decide)⟩
            · skip
              show qG none (d + 1) 243 123 [(2, 95), (0, k)] [(0, 1)] w8 142 Q9
              have hRW : ∀ j, w8 107 j = stW w L k 107 j ∧ w8 108 j = stW w L k 108 j := fun j => ⟨by rw [PM_a hS8.2.1 (by decide) (by decide +kernel), qup_ne (by decide), PM_a hP5.2.1 (by decide) (by decide +kernel)], by rw [PM_a hS8.2.1 (by decide) (by decide +kernel), qup_ne (by decide), PM_a hP5.2.1 (by decide) (by decide +kernel)]⟩
              refine qG.ret rfl (by first | rfl | exact decide_eq_true (by omega)) ?_
              subst hQ9
              exact ⟨rfl, fun _ => hRW⟩
    · skip
      refine qG.blk 3 (pc' := 88) (ls' := [(2, 95), (0, k)]) (st' := [(0, 2), (0, k), (0, 0), (2, 95)]) (w' := (stW w L k)) (n' := 142) rfl ?_
      refine qG.br (P := k = 2) (pc1 := 91) (pc2 := 96) (st1 := [(0, 0), (2, 95)]) rfl (fun hk2b => ?_) (fun hk2b => ?_)
      · skip
        refine qG.blk 2 (pc' := 98) (ls' := [(2, 95), (0, k)]) (st' := [(0, 20), (0, 0), (2, 95)]) (w' := (stW w L k)) (n' := 142) rfl ?_
        refine qG.call (t := 234) (na := 3) (sk := 1) (md := 1) (ls1 := [(2, 95), (0, 0), (0, 20)]) (r1 := []) rfl rfl rfl rfl rfl (K_number (by omega) (0) (20) (stW w L k) hP2) ?_
        rintro _ w9 _ ⟨rfl, ⟨rfl, hA9⟩ | ⟨rfl, hlo9, hhi9, hS9⟩⟩
        · skip
          show qG none (d + 1) 243 101 [(2, 95), (0, k)] [(0, 0)] w9 142 Q9
          refine qG.br (P := (0 : Int) = 0) (pc1 := 104) (pc2 := 106) (st1 := []) rfl (fun h10 => ?_) (fun h10 => ?_)
          · skip
            refine qG.blk 1 (pc' := 105) (ls' := [(2, 95), (0, k)]) (st' := [(0, 0)]) (w' := w9) (n' := 142) rfl ?_
            refine qG.ret rfl (by first | rfl | exact decide_eq_true (by omega)) ?_
            subst hQ9
            exact ⟨rfl, fun z => absurd (congrArg Prod.snd z) (by decide)⟩
          · exact absurd h10 (by decide)
        · skip
          show qG none (d + 1) 243 101 [(2, 95), (0, k)] [(0, 1)] w9 142 Q9
          have hP9 := PS.tr (PS.rf hP2) hS9 (by omega)
          have hI9 : PI w9 := hS9.2.2.1
          refine qG.br (P := (1 : Int) = 0) (pc1 := 104) (pc2 := 106) (st1 := []) rfl (fun h11 => ?_) (fun h11 => ?_)
          · exact absurd h11 (by decide)
          · skip
            refine qG.blk 3 (pc' := 111) (ls' := [(2, 95), (0, k)]) (st' := [(0, w9 95 23), (2, 95)]) (w' := w9) (n' := 142) rfl ?_
            rw [show w9 95 23 = ((L : Nat) : Int) from (hP9.2.1.2 95 23 (fun _ => rfl)).trans (stW_o.trans hL)]
            refine qG.blk 2 (pc' := 113) (ls' := [(2, 95), (0, k)]) (st' := [(0, wrp (((L : Nat) : Int) + 1)), (2, 95)]) (w' := w9) (n' := 142) rfl ?_
            rw [show wrp (((L : Nat) : Int) + 1) = ((L + 1 : Nat) : Int) from wrp_id (by omega) (by omega)]
            refine qG.blk 3 (pc' := 120) (ls' := [(2, 95), (0, k)]) (st' := [(0, 159), (2, 95)]) (w' := (qup w9 95 23 ((L + 1 : Nat) : Int))) (n' := 142) rfl ?_
            have hIw12 : yInv zgf zga zra zSp (qup w9 95 23 ((L + 1 : Nat) : Int)) := zup_f hI9.1 (b := (0, 40)) rfl rfl rfl ⟨by show (0 : Int) ≤ _; omega, by show _ ≤ (40 : Int); omega⟩
            have hPw12 : PI (qup w9 95 23 ((L + 1 : Nat) : Int)) := hI9.fld (by decide) hIw12
            refine qG.call (t := 233) (na := 2) (sk := 1) (md := 1) (ls1 := [(2, 95), (0, 159)]) (r1 := []) rfl rfl rfl rfl rfl (K_need (by omega) 159 (by decide) (qup w9 95 23 ((L + 1 : Nat) : Int)) hPw12) ?_
            rintro _ w12 _ ⟨rfl, ⟨rfl, hA12⟩ | ⟨rfl, hS12⟩⟩
            · skip
              show qG none (d + 1) 243 123 [(2, 95), (0, k)] [(0, 0)] w12 142 Q9
              refine qG.ret rfl (by first | rfl | exact decide_eq_true (by omega)) ?_
              subst hQ9
              exact ⟨rfl, fun z => absurd (congrArg Prod.snd z) (by decide)⟩
            · skip
              show qG none (d + 1) 243 123 [(2, 95), (0, k)] [(0, 1)] w12 142 Q9
              have hRW : ∀ j, w12 107 j = stW w L k 107 j ∧ w12 108 j = stW w L k 108 j := fun j => ⟨by rw [PM_a hS12.2.1 (by decide) (by decide +kernel), qup_ne (by decide), PM_a hP9.2.1 (by decide) (by decide +kernel)], by rw [PM_a hS12.2.1 (by decide) (by decide +kernel), qup_ne (by decide), PM_a hP9.2.1 (by decide) (by decide +kernel)]⟩
              refine qG.ret rfl (by first | rfl | exact decide_eq_true (by omega)) ?_
              subst hQ9
              exact ⟨rfl, fun _ => hRW⟩
      · skip
        refine qG.blk 1 (pc' := 98) (ls' := [(2, 95), (0, k)]) (st' := [(0, 9), (0, 0), (2, 95)]) (w' := (stW w L k)) (n' := 142) rfl ?_
        refine qG.call (t := 234) (na := 3) (sk := 1) (md := 1) (ls1 := [(2, 95), (0, 0), (0, 9)]) (r1 := []) rfl rfl rfl rfl rfl (K_number (by omega) (0) (9) (stW w L k) hP2) ?_
        rintro _ w13 _ ⟨rfl, ⟨rfl, hA13⟩ | ⟨rfl, hlo13, hhi13, hS13⟩⟩
        · skip
          show qG none (d + 1) 243 101 [(2, 95), (0, k)] [(0, 0)] w13 142 Q9
          refine qG.br (P := (0 : Int) = 0) (pc1 := 104) (pc2 := 106) (st1 := []) rfl (fun h14 => ?_) (fun h14 => ?_)
          · skip
            refine qG.blk 1 (pc' := 105) (ls' := [(2, 95), (0, k)]) (st' := [(0, 0)]) (w' := w13) (n' := 142) rfl ?_
            refine qG.ret rfl (by first | rfl | exact decide_eq_true (by omega)) ?_
            subst hQ9
            exact ⟨rfl, fun z => absurd (congrArg Prod.snd z) (by decide)⟩
          · exact absurd h14 (by decide)
        · skip
          show qG none (d + 1) 243 101 [(2, 95), (0, k)] [(0, 1)] w13 142 Q9
          have hP13 := PS.tr (PS.rf hP2) hS13 (by omega)
          have hI13 : PI w13 := hS13.2.2.1
          refine qG.br (P := (1 : Int) = 0) (pc1 := 104) (pc2 := 106) (st1 := []) rfl (fun h15 => ?_) (fun h15 => ?_)
          · exact absurd h15 (by decide)
          · skip
            refine qG.blk 3 (pc' := 111) (ls' := [(2, 95), (0, k)]) (st' := [(0, w13 95 23), (2, 95)]) (w' := w13) (n' := 142) rfl ?_
            rw [show w13 95 23 = ((L : Nat) : Int) from (hP13.2.1.2 95 23 (fun _ => rfl)).trans (stW_o.trans hL)]
            refine qG.blk 2 (pc' := 113) (ls' := [(2, 95), (0, k)]) (st' := [(0, wrp (((L : Nat) : Int) + 1)), (2, 95)]) (w' := w13) (n' := 142) rfl ?_
            rw [show wrp (((L : Nat) : Int) + 1) = ((L + 1 : Nat) : Int) from wrp_id (by omega) (by omega)]
            refine qG.blk 3 (pc' := 120) (ls' := [(2, 95), (0, k)]) (st' := [(0, 159), (2, 95)]) (w' := (qup w13 95 23 ((L + 1 : Nat) : Int))) (n' := 142) rfl ?_
            have hIw16 : yInv zgf zga zra zSp (qup w13 95 23 ((L + 1 : Nat) : Int)) := zup_f hI13.1 (b := (0, 40)) rfl rfl rfl ⟨by show (0 : Int) ≤ _; omega, by show _ ≤ (40 : Int); omega⟩
            have hPw16 : PI (qup w13 95 23 ((L + 1 : Nat) : Int)) := hI13.fld (by decide) hIw16
            refine qG.call (t := 233) (na := 2) (sk := 1) (md := 1) (ls1 := [(2, 95), (0, 159)]) (r1 := []) rfl rfl rfl rfl rfl (K_need (by omega) 159 (by decide) (qup w13 95 23 ((L + 1 : Nat) : Int)) hPw16) ?_
            rintro _ w16 _ ⟨rfl, ⟨rfl, hA16⟩ | ⟨rfl, hS16⟩⟩
            · skip
              show qG none (d + 1) 243 123 [(2, 95), (0, k)] [(0, 0)] w16 142 Q9
              refine qG.ret rfl (by first | rfl | exact decide_eq_true (by omega)) ?_
              subst hQ9
              exact ⟨rfl, fun z => absurd (congrArg Prod.snd z) (by decide)⟩
            · skip
              show qG none (d + 1) 243 123 [(2, 95), (0, k)] [(0, 1)] w16 142 Q9
              have hRW : ∀ j, w16 107 j = stW w L k 107 j ∧ w16 108 j = stW w L k 108 j := fun j => ⟨by rw [PM_a hS16.2.1 (by decide) (by decide +kernel), qup_ne (by decide), PM_a hP13.2.1 (by decide) (by decide +kernel)], by rw [PM_a hS16.2.1 (by decide) (by decide +kernel), qup_ne (by decide), PM_a hP13.2.1 (by decide) (by decide +kernel)]⟩
              refine qG.ret rfl (by first | rfl | exact decide_eq_true (by omega)) ?_
              subst hQ9
              exact ⟨rfl, fun _ => hRW⟩
  · skip
    refine qG.blk 3 (pc' := 111) (ls' := [(2, 95), (0, k)]) (st' := [(0, (stW w L k) 95 23), (2, 95)]) (w' := (stW w L k)) (n' := 142) rfl ?_
    rw [show (stW w L k) 95 23 = ((L : Nat) : Int) from stW_o.trans hL]
    refine qG.blk 2 (pc' := 113) (ls' := [(2, 95), (0, k)]) (st' := [(0, wrp (((L : Nat) : Int) + 1)), (2, 95)]) (w' := (stW w L k)) (n' := 142) rfl ?_
    rw [show wrp (((L : Nat) : Int) + 1) = ((L + 1 : Nat) : Int) from wrp_id (by omega) (by omega)]
    refine qG.blk 3 (pc' := 120) (ls' := [(2, 95), (0, k)]) (st' := [(0, 159), (2, 95)]) (w' := (qup (stW w L k) 95 23 ((L + 1 : Nat) : Int))) (n' := 142) rfl ?_
    have hIw17 : yInv zgf zga zra zSp (qup (stW w L k) 95 23 ((L + 1 : Nat) : Int)) := zup_f hP2.1 (b := (0, 40)) rfl rfl rfl ⟨by show (0 : Int) ≤ _; omega, by show _ ≤ (40 : Int); omega⟩
    have hPw17 : PI (qup (stW w L k) 95 23 ((L + 1 : Nat) : Int)) := hP2.fld (by decide) hIw17
    refine qG.call (t := 233) (na := 2) (sk := 1) (md := 1) (ls1 := [(2, 95), (0, 159)]) (r1 := []) rfl rfl rfl rfl rfl (K_need (by omega) 159 (by decide) (qup (stW w L k) 95 23 ((L + 1 : Nat) : Int)) hPw17) ?_
    rintro _ w17 _ ⟨rfl, ⟨rfl, hA17⟩ | ⟨rfl, hS17⟩⟩
    · skip
      show qG none (d + 1) 243 123 [(2, 95), (0, k)] [(0, 0)] w17 142 Q9
      refine qG.ret rfl (by first | rfl | exact decide_eq_true (by omega)) ?_
      subst hQ9
      exact ⟨rfl, fun z => absurd (congrArg Prod.snd z) (by decide)⟩
    · skip
      show qG none (d + 1) 243 123 [(2, 95), (0, k)] [(0, 1)] w17 142 Q9
      have hRW : ∀ j, w17 107 j = stW w L k 107 j ∧ w17 108 j = stW w L k 108 j := fun j => ⟨by rw [PM_a hS17.2.1 (by decide) (by decide +kernel), qup_ne (by decide), PM_a (PS.rf hP2).2.1 (by decide) (by decide +kernel)], by rw [PM_a hS17.2.1 (by decide) (by decide +kernel), qup_ne (by decide), PM_a (PS.rf hP2).2.1 (by decide) (by decide +kernel)]⟩
      refine qG.ret rfl (by first | rfl | exact decide_eq_true (by omega)) ?_
      subst hQ9
      exact ⟨rfl, fun _ => hRW⟩
theorem K_aStepR {d : Nat} (hd : 10 ≤ d) (L : Nat) (w : qW) (hP : PI w) (hL : w 95 23 = (L : Int)) (hL4 : L ≤ 40) : qG none d 243 0 [(2, 95), (9, 0)] [] w 142 (fun (r : qV) (w1 : qW) (n1 : Nat) => n1 = 142 ∧ (r = (0, 1) → RWL w L w1)) := by
  generalize hQ9 : (fun (r : qV) (w1 : qW) (n1 : Nat) => n1 = 142 ∧ (r = (0, 1) → RWL w L w1)) = Q9
  have hb0 := hP.b
  obtain ⟨d, rfl⟩ : ∃ d9, d = d9 + 1 := ⟨d - 1, by omega⟩
  refine qG.blk 4 (pc' := 8) (ls' := [(2, 95), (9, 0)]) (st' := [(0, 25), (0, 20), (0, w 95 27)]) (w' := w) (n' := 142) rfl ?_
  refine qG.call (t := 206) (na := 3) (sk := 0) (md := 0) (ls1 := [(0, w 95 27), (0, 20), (0, 25)]) (r1 := []) rfl rfl rfl rfl rfl (K_isIn (by omega) _ _ _ _) ?_
  rintro _ w7 _ ⟨rfl, hw7, rfl⟩
  rw [hw7]
  show qG none (d + 1) 243 11 [(2, 95), (9, 0)] [(0, isInV (w 95 27) 20 25)] w 142 Q9
  refine qG.br (P := isInV (w 95 27) 20 25 = 0) (pc1 := 14) (pc2 := 20) (st1 := []) rfl (fun hin => ?_) (fun hin => ?_)
  · skip
    refine qG.blk 2 (pc' := 16) (ls' := [(2, 95), (9, 0)]) (st' := [(0, 1), (2, 95)]) (w' := w) (n' := 142) rfl ?_
    refine qG.call (t := 232) (na := 2) (sk := 1) (md := 1) (ls1 := [(2, 95), (0, 1)]) (r1 := []) rfl rfl rfl rfl rfl (K_bad (by omega) 1 w hP.1 (by decide) (by decide)) ?_
    rintro _ _ _ ⟨rfl, rfl, rfl⟩
    show qG none (d + 1) 243 19 [(2, 95), (9, 0)] [(0, 0)] (qup (qup w 95 30 1) 95 31 (w 95 28)) 142 Q9
    refine qG.ret rfl (by first | rfl | exact decide_eq_true (by omega)) ?_
    subst hQ9
    exact ⟨rfl, fun z => absurd (congrArg Prod.snd z) (by decide)⟩
  · skip
    have hin2 : 20 ≤ w 95 27 ∧ w 95 27 ≤ 25 := by unfold isInV at hin; (repeat' split at hin) <;> omega
    refine qG.blk 2 (pc' := 24) (ls' := [(2, 95), (9, 0)]) (st' := [(0, w 95 23)]) (w' := w) (n' := 142) rfl ?_
    rw [show w 95 23 = ((L : Nat) : Int) from hL]
    refine qG.blk 1 (pc' := 26) (ls' := [(2, 95), (9, 0)]) (st' := [(0, 40), (0, ((L : Nat) : Int))]) (w' := w) (n' := 142) rfl ?_
    refine qG.br (P := ((L : Nat) : Int) = 40) (pc1 := 29) (pc2 := 35) (st1 := []) rfl (fun h40 => ?_) (fun h40 => ?_)
    · skip
      refine qG.blk 2 (pc' := 31) (ls' := [(2, 95), (9, 0)]) (st' := [(0, 3), (2, 95)]) (w' := w) (n' := 142) rfl ?_
      refine qG.call (t := 232) (na := 2) (sk := 1) (md := 1) (ls1 := [(2, 95), (0, 3)]) (r1 := []) rfl rfl rfl rfl rfl (K_bad (by omega) 3 w hP.1 (by decide) (by decide)) ?_
      rintro _ _ _ ⟨rfl, rfl, rfl⟩
      show qG none (d + 1) 243 34 [(2, 95), (9, 0)] [(0, 0)] (qup (qup w 95 30 3) 95 31 (w 95 28)) 142 Q9
      refine qG.ret rfl (by first | rfl | exact decide_eq_true (by omega)) ?_
      subst hQ9
      exact ⟨rfl, fun z => absurd (congrArg Prod.snd z) (by decide)⟩
    · skip
      refine qG.blk 4 (pc' := 42) (ls' := [(2, 95), (9, 0)]) (st' := [(0, wrp ((w 95 27) - 20))]) (w' := w) (n' := 142) rfl ?_
      rw [show wrp ((w 95 27) - 20) = w 95 27 - 20 from wrp_id (by omega) (by omega)]
      refine qG.blk 2 (pc' := 44) (ls' := [(2, 95), (0, w 95 27 - 20)]) (st' := [(2, 95)]) (w' := w) (n' := 142) rfl ?_
      refine qG.call (t := 231) (na := 1) (sk := 1) (md := 1) (ls1 := [(2, 95), (9, 0)]) (r1 := []) rfl rfl rfl rfl rfl (K_next0 (by omega) w hP.1) ?_
      rintro _ w1 _ ⟨rfl, rfl, hX1⟩
      have hn1 := PS.next hP (by omega) hX1
      have hP1 := PS.tr (PS.rf hP) hn1.1 (by omega)
      have hI1 : PI w1 := hn1.1.2.2.1
      have hg1 := hn1.2
      have hb1 := hI1.b
      have hq1 := hP1.fs
      have hd1 := hP1.2.2.2.2.2.1
      show qG none (d + 1) 243 47 [(2, 95), (0, w 95 27 - 20)] [] w1 142 Q9
      refine qG.blk 2 (pc' := 51) (ls' := [(2, 95), (0, w 95 27 - 20)]) (st' := [(2, w1 95 13)]) (w' := w1) (n' := 142) rfl ?_
      rw [show w1 95 13 = 107 from zref hI1.1 rfl rfl]
      refine qG.blk 2 (pc' := 55) (ls' := [(2, 95), (0, w 95 27 - 20)]) (st' := [(0, w1 95 23), (2, 107)]) (w' := w1) (n' := 142) rfl ?_
      rw [show w1 95 23 = ((L : Nat) : Int) from (hP1.2.1.2 95 23 (fun _ => rfl)).trans hL]
      refine qG.blk 1 (pc' := 56) (ls' := [(2, 95), (0, w 95 27 - 20)]) (st' := [(0, w 95 27 - 20), (0, ((L : Nat) : Int)), (2, 107)]) (w' := w1) (n' := 142) rfl ?_
      refine qG.ar (P := 0 ≤ ((L : Nat) : Int) ∧ ((L : Nat) : Int) < ((40 : Nat) : Int)) (P2 := 0 < (107 : Int) ∧ (107 : Int) ≤ ((142 : Nat) : Int)) (pc' := 57) (ls' := [(2, 95), (0, w 95 27 - 20)]) (st' := []) (w' := (qup w1 107 L (w 95 27 - 20))) (n' := 142) rfl (by omega) (by decide) ?_
      refine qG.blk 2 (pc' := 61) (ls' := [(2, 95), (0, w 95 27 - 20)]) (st' := [(2, w1 95 14)]) (w' := (qup w1 107 L (w 95 27 - 20))) (n' := 142) rfl ?_
      rw [show w1 95 14 = 108 from zref hI1.1 rfl rfl]
      refine qG.blk 2 (pc' := 65) (ls' := [(2, 95), (0, w 95 27 - 20)]) (st' := [(0, w1 95 23), (2, 108)]) (w' := (qup w1 107 L (w 95 27 - 20))) (n' := 142) rfl ?_
      rw [show w1 95 23 = ((L : Nat) : Int) from (hP1.2.1.2 95 23 (fun _ => rfl)).trans hL]
      refine qG.blk 2 (pc' := 69) (ls' := [(2, 95), (0, w 95 27 - 20)]) (st' := [(0, w1 95 29), (0, ((L : Nat) : Int)), (2, 108)]) (w' := (qup w1 107 L (w 95 27 - 20))) (n' := 142) rfl ?_
      refine qG.ar (P := 0 ≤ ((L : Nat) : Int) ∧ ((L : Nat) : Int) < ((40 : Nat) : Int)) (P2 := 0 < (108 : Int) ∧ (108 : Int) ≤ ((142 : Nat) : Int)) (pc' := 70) (ls' := [(2, 95), (0, w 95 27 - 20)]) (st' := []) (w' := (qup (qup w1 107 L (w 95 27 - 20)) 108 L (w1 95 29))) (n' := 142) rfl (by omega) (by decide) ?_
      rw [show qup (qup w1 107 L (w 95 27 - 20)) 108 L (w1 95 29) = stW w1 L (w 95 27 - 20) from rfl]
      subst hQ9
      refine qG.mono (K_aStepBR (by omega) L (w 95 27 - 20) (by omega) (by omega) w1 hI1 ((hP1.2.1.2 95 23 (fun _ => rfl)).trans hL) (by omega)) ?_
      rintro r9 w9 _ ⟨rfl, h9⟩
      refine ⟨rfl, fun z => ⟨w1, hX1, fun j => ?_, fun j => ?_⟩⟩
      · rw [(h9 z j).1]; unfold stW; rw [qup_nk (by decide)]; by_cases e : j = L
        · rw [e, qup_k, if_pos rfl]
        · rw [qup_j e, if_neg e, PM_a hP1.2.1 (by decide) (by decide +kernel)]
      · rw [(h9 z j).2]; unfold stW; by_cases e : j = L
        · rw [e, qup_k, if_pos rfl]
        · rw [qup_j e, if_neg e, qup_nk (by decide), PM_a hP1.2.1 (by decide) (by decide +kernel)]
theorem K_textBSY {d : Nat} (hd : 42 ≤ d) (k : Nat) (hk : k < 4) (w : qW) (hI : yInv zgf zga zra zSp w) {C P : Nat → Int} {t n : Nat} {E : Nat → Nat} (hpos : ∀ k, 0 ≤ w 114 k) (hT : TKS 1 TMS w C P t n E) : qG none d 245 67 [(2, 95), (0, ((k : Nat) : Int)), (9, 0)] [] (txW w 1) 142 (fun (r : qV) (w1 : qW) (_ : Nat) => TXR P (sSho C) r w1 ∧ RWX C k w w1) := by
  generalize hQ9 : (fun (r : qV) (w1 : qW) (_ : Nat) => TXR P (sSho C) r w1 ∧ RWX C k w w1) = Q9
  obtain ⟨d, rfl⟩ : ∃ d9, d = d9 + 1 := ⟨d - 1, by omega⟩
  have hAT : AW XN w (txW w 1) := txW_A hI (by decide) (by decide)
  have tm0 : TMS (-2) 0 := .inl ⟨rfl, rfl⟩
  have tm1 : TMS (-1) 1 := .inr (.inl ⟨rfl, rfl⟩)
  have tm2 : ∀ c, 0 ≤ c → c < 10000 → TMS c 2 := fun c h0 h1 => .inr (.inr (.inl ⟨h0, h1, rfl⟩))
  have hO : SO (SIMR 1 TMS w C P t n E) C P TMS := SIMR.so hpos hT tm0 tm1 tm2
  have hCe : ∀ i, t ≤ i → C i = -2 := fun i hi => (hT.2.2.2.2.2.2.1 i hi).1
  have ht6 : t ≤ 600 := Nat.le_trans hT.2.1 hT.1
  refine qG.blk 1 (pc' := 68) (ls' := [(2, 95), (0, ((k : Nat) : Int)), (9, 0)]) (st' := [(2, 95)]) (w' := (txW w 1)) (n' := 142) rfl ?_
  refine qG.call (t := 231) (na := 1) (sk := 1) (md := 1) (ls1 := [(2, 95), (9, 0)]) (r1 := []) rfl rfl rfl rfl rfl (K_next0 (by omega) (txW w 1) hAT.1) ?_
  rintro _ w1 _ ⟨rfl, rfl, hX1⟩
  obtain ⟨hN1, hg1, hg2, hg3⟩ := hX1.look hAT.1
  have hA1 : AW XN w w1 := hAT.tr hN1 (by decide +kernel)
  have hP1 : PI w1 := ⟨hN1.1, hg2, hg3⟩
  have e23 : w1 95 23 = 0 := (hN1.2 95 23 (fun _ => rfl)).trans (by unfold txW; simp (disch := decide) only [qup_ne, qup_j, qup_k])
  have e24 : w1 95 24 = 0 := (hN1.2 95 24 (fun _ => rfl)).trans (by unfold txW; simp (disch := decide) only [qup_ne, qup_j, qup_k])
  have e35 : w1 95 35 = 1 := (hN1.2 95 35 (fun _ => rfl)).trans (by unfold txW; simp (disch := decide) only [qup_ne, qup_j, qup_k])
  have e109 : w1 109 0 = 0 := (hN1.2 109 0 (fun _ => rfl)).trans (by unfold txW; simp (disch := decide) only [qup_ne, qup_j, qup_k])
  have hb1 := hP1.b
  have hS1 : SIMR 1 TMS w C P t n E 0 w1 := sim_nx hpos hT tm0 tm1 tm2 (i := 0) (by rw [show ENd E t n 0 = 0 from (if_pos (Nat.zero_le _)).trans hT.2.2.2.1]; unfold txW; simp (disch := decide) only [qup_ne, qup_j, qup_k]; rfl) (fun k => by unfold txW; simp (disch := decide) only [qup_ne, qup_j, qup_k]) (by unfold txW; simp (disch := decide) only [qup_ne, qup_j, qup_k]) (by unfold txW; simp (disch := decide) only [qup_ne, qup_j, qup_k]) (by unfold txW; simp (disch := decide) only [qup_ne, qup_j, qup_k]) hX1
  show qG none (d + 1) 245 71 [(2, 95), (0, ((k : Nat) : Int)), (9, 0)] [] w1 142 Q9
  refine qG.blk 2 (pc' := 73) (ls' := [(2, 95), (0, ((k : Nat) : Int)), (0, 1)]) (st' := []) (w' := w1) (n' := 142) rfl ?_
  have L73 : ∀ (m9 : Nat) (good : Int) (L : Nat) (wL : qW), (good * (601 - wL 95 28)).toNat = m9 → (AW XN w wL ∧ wL 95 35 = 1 ∧ ((good = 0 ∧ ∃ (k9 : Int) (c9 j9 : Nat), (sSho C) = (k9, c9, j9) ∧ (k9 = 1 ∨ k9 = 2 ∨ k9 = 3) ∧ wL 95 30 = k9 ∧ wL 95 31 = P j9) ∨ (good = 1 ∧ (L ≤ 40 ∧ PI wL ∧ SL wL L) ∧ ∃ i9, SIMR 1 TMS w C P t n E i9 wL ∧ (sSho C) = sAll C (sStep C) (41 - L) L i9 ∧ RWS C L wL i9))) → qG none (d + 1) 245 73 [(2, 95), (0, ((k : Nat) : Int)), (0, good)] [] wL 142 Q9 := by
    intro m9
    induction m9 using Nat.strongRecOn with
    | ind m9 ih73 =>
    intro good L wL hm73 hI73
    obtain ⟨hAL, heL, hOr⟩ := hI73
    refine qG.blk 1 (pc' := 74) (ls' := [(2, 95), (0, ((k : Nat) : Int)), (0, good)]) (st' := [(0, good)]) (w' := wL) (n' := 142) rfl ?_
    refine qG.br (P := good = 0) (pc1 := 106) (pc2 := 77) (st1 := []) rfl (fun hg => ?_) (fun hg => ?_)
    · skip
      subst hg
      refine qG.blk 9 (pc' := 121) (ls' := [(2, 95), (0, ((k : Nat) : Int)), (0, 0)]) (st' := [(0, 0), (2, 95)]) (w' := (qup (qup wL 95 25 0) 95 32 (wL 95 30))) (n' := 142) rfl ?_
      refine qG.br (P := (0 : Int) = 0) (pc1 := 128) (pc2 := 124) (st1 := [(2, 95)]) rfl (fun h1 => ?_) (fun h1 => ?_)
      · skip
        refine qG.blk 4 (pc' := 136) (ls' := [(2, 95), (0, ((k : Nat) : Int)), (0, 0)]) (st' := [(0, 0)]) (w' := (qup (qup (qup wL 95 25 0) 95 32 (wL 95 30)) 95 34 (wL 95 31))) (n' := 142) rfl ?_
        refine qG.br (P := (0 : Int) = 0) (pc1 := 139) (pc2 := 141) (st1 := []) rfl (fun h2 => ?_) (fun h2 => ?_)
        · skip
          refine qG.blk 1 (pc' := 140) (ls' := [(2, 95), (0, ((k : Nat) : Int)), (0, 0)]) (st' := [(0, (-1))]) (w' := (qup (qup (qup wL 95 25 0) 95 32 (wL 95 30)) 95 34 (wL 95 31))) (n' := 142) rfl ?_
          refine qG.ret rfl rfl ?_
          subst hQ9
          rcases hOr with ⟨-, k9, c9, j9, a1, a2, a3, a4⟩ | ⟨z, -⟩
          · exact ⟨TXR.bad a1 a2 a3 a4, RWX.bad hAL a1 a2⟩
          · exact absurd z (by decide)
        · exact absurd h2 (by decide)
      · exact absurd h1 (by decide)
    · skip
      obtain ⟨hg1, ⟨hL40, hPL, hSL⟩, i9, hJ9, hS9, hR9⟩ := hOr.resolve_left (fun z => hg z.1)
      subst hg1
      have hJO := hJ9
      have hbL := hPL.b
      have htc9 := (hO.2.1 _ _ hJ9).1
      have h309 : wL 95 30 = 0 := hJ9.2.2.2.2.2.2.2
      refine qG.blk 2 (pc' := 81) (ls' := [(2, 95), (0, ((k : Nat) : Int)), (0, 1)]) (st' := [(0, wL 95 27)]) (w' := wL) (n' := 142) rfl ?_
      refine qG.br (P := wL 95 27 = 0) (pc1 := 106) (pc2 := 84) (st1 := []) rfl (fun htok => ?_) (fun htok => ?_)
      · skip
        refine qG.blk 9 (pc' := 121) (ls' := [(2, 95), (0, ((k : Nat) : Int)), (0, 1)]) (st' := [(0, 1), (2, 95)]) (w' := (qup (qup wL 95 25 0) 95 32 (wL 95 30))) (n' := 142) rfl ?_
        refine qG.br (P := (1 : Int) = 0) (pc1 := 128) (pc2 := 124) (st1 := [(2, 95)]) rfl (fun h3 => ?_) (fun h3 => ?_)
        · exact absurd h3 (by decide)
        · skip
          refine qG.blk 4 (pc' := 136) (ls' := [(2, 95), (0, ((k : Nat) : Int)), (0, 1)]) (st' := [(0, 1)]) (w' := (qup (qup (qup wL 95 25 0) 95 32 (wL 95 30)) 95 34 (-1))) (n' := 142) rfl ?_
          refine qG.br (P := (1 : Int) = 0) (pc1 := 139) (pc2 := 141) (st1 := []) rfl (fun h4 => ?_) (fun h4 => ?_)
          · exact absurd h4 (by decide)
          · skip
            refine qG.blk 2 (pc' := 145) (ls' := [(2, 95), (0, ((k : Nat) : Int)), (0, 1)]) (st' := [(0, wL 95 35)]) (w' := (qup (qup (qup wL 95 25 0) 95 32 (wL 95 30)) 95 34 (-1))) (n' := 142) rfl ?_
            rw [show wL 95 35 = 1 from heL]
            refine qG.br (P := (1 : Int) = 0) (pc1 := 156) (pc2 := 148) (st1 := []) rfl (fun h5 => ?_) (fun h5 => ?_)
            · exact absurd h5 (by decide)
            · skip
              refine qG.blk 2 (pc' := 150) (ls' := [(2, 95), (0, ((k : Nat) : Int)), (0, 1)]) (st' := [(0, ((k : Nat) : Int)), (2, 95)]) (w' := (qup (qup (qup wL 95 25 0) 95 32 (wL 95 30)) 95 34 (-1))) (n' := 142) rfl ?_
              have hA3 := tlW_A hAL (v := -1) (by decide) (by decide)
              show qG none (d + 1) 245 150 [(2, 95), (0, ((k : Nat) : Int)), (0, 1)] [(0, ((k : Nat) : Int)), (2, 95)] (tlW wL (-1)) 142 Q9
              refine qG.call (t := 246) (na := 2) (sk := 1) (md := 1) (ls1 := [(2, 95), (0, ((k : Nat) : Int)), (9, 0)]) (r1 := []) rfl rfl rfl rfl rfl (K_keepsShow (by omega) k hk (tlW wL (-1)) hA3.1) ?_
              rintro _ _ _ ⟨rfl, rfl, rfl⟩
              show qG none (d + 1) 245 153 [(2, 95), (0, ((k : Nat) : Int)), (0, 1)] [] (ksW (tlW wL (-1)) k ((tlW wL (-1)) 95 23).toNat) 142 Q9
              refine qG.blk 3 (pc' := 164) (ls' := [(2, 95), (0, ((k : Nat) : Int)), (0, 1)]) (st' := [(0, (ksW (tlW wL (-1)) k ((tlW wL (-1)) 95 23).toNat) 95 23)]) (w' := (ksW (tlW wL (-1)) k ((tlW wL (-1)) 95 23).toNat)) (n' := 142) rfl ?_
              refine qG.ret rfl rfl ?_
              subst hQ9
              have hE9 : C i9 = -2 := by unfold TMS at htc9; omega
              have hT9 : sSho C = (0, L, i9) := hS9.trans (by rw [show 41 - L = (41 - (L + 1)) + 1 by omega]; exact sAll_e hE9)
              exact ⟨TXR.ks hT9 hSL.1 h309, RWX.ks hAL hT9 hL40 hSL.1 hR9⟩
      · skip
        refine qG.blk 2 (pc' := 88) (ls' := [(2, 95), (0, ((k : Nat) : Int)), (0, 1)]) (st' := [(0, wL 95 35)]) (w' := wL) (n' := 142) rfl ?_
        rw [show wL 95 35 = 1 from heL]
        refine qG.br (P := (1 : Int) = 0) (pc1 := 98) (pc2 := 91) (st1 := []) rfl (fun h6 => ?_) (fun h6 => ?_)
        · exact absurd h6 (by decide)
        · skip
          refine qG.blk 1 (pc' := 92) (ls' := [(2, 95), (0, ((k : Nat) : Int)), (0, 1)]) (st' := [(2, 95)]) (w' := wL) (n' := 142) rfl ?_
          refine qG.call (t := 243) (na := 1) (sk := 1) (md := 1) (ls1 := [(2, 95), (9, 0)]) (r1 := []) rfl rfl rfl rfl rfl (qG.and (K_aStep (by omega) L wL hPL hSL hL40) (qG.and (K_aStepX (by omega) hO L wL hPL hSL.1 hL40 i9 hJ9) (K_aStepR (by omega) L wL hPL hSL.1 hL40))) ?_
          rintro _ w7 _ ⟨⟨rfl, ⟨rfl, hS7⟩ | ⟨rfl, hS7, hPn, hSn, hL41, hmn⟩⟩, ⟨-, hXR⟩, -, hRR⟩
          · skip
            show qG none (d + 1) 245 95 [(2, 95), (0, ((k : Nat) : Int)), (0, 1)] [(0, 0)] w7 142 Q9
            have hAn := hAL.tr hS7 (by decide +kernel)
            have hen := (hS7.2 95 35 (fun _ => rfl)).trans heL
            have hbn := hbL
            have hne9 : ¬ C i9 = -2 := fun z => htok (by unfold TMS at htc9; omega)
            obtain ⟨k9, j9, hx9, hk9, h30, h31⟩ := hXR.f
            refine qG.blk 3 (pc' := 73) (ls' := [(2, 95), (0, ((k : Nat) : Int)), (0, 0)]) (st' := []) (w' := w7) (n' := 142) rfl ?_
            exact ih73 _ (by omega) (0) (L) (w7) rfl (⟨hAn, hen, .inl ⟨rfl, k9, L, j9, hS9.trans (by rw [show 41 - L = (41 - (L + 1)) + 1 by omega]; exact sAll_f hne9 hx9 hk9), hk9, h30, h31⟩⟩)
          · skip
            show qG none (d + 1) 245 95 [(2, 95), (0, ((k : Nat) : Int)), (0, 1)] [(0, 1)] w7 142 Q9
            have hAn := hAL.tr hS7 (by decide +kernel)
            have hen := (hS7.2 95 35 (fun _ => rfl)).trans heL
            have hbn := hbL
            have hne9 : ¬ C i9 = -2 := fun z => htok (by unfold TMS at htc9; omega)
            have hbn2 := hPn.b
            obtain ⟨j9, hx9, hJ9⟩ := hXR.y
            refine qG.blk 3 (pc' := 73) (ls' := [(2, 95), (0, ((k : Nat) : Int)), (0, 1)]) (st' := []) (w' := w7) (n' := 142) rfl ?_
            exact ih73 _ (by omega) (1) (L + 1) (w7) rfl (⟨hAn, hen, .inr ⟨rfl, ⟨hL41, hPn, hSn⟩, j9, hJ9, hS9.trans (by rw [show 41 - L = (41 - (L + 1)) + 1 by omega]; exact sAll_s hne9 hx9), hR9.up hO hPL.1 hJO hx9 (hRR rfl)⟩⟩)
  exact L73 _ (1) (0) (w1) rfl (⟨hA1, e35, .inr ⟨rfl, ⟨by omega, hP1, e23, fun i hi => by omega⟩, 0, hS1, rfl, RWS.z⟩⟩)
theorem K_textSY {d : Nat} (hd : 42 ≤ d) (k : Nat) (hk : k < 4) (w : qW) (hI : yInv zgf zga zra zSp w) {C P : Nat → Int} {t n : Nat} {E : Nat → Nat} (hpos : ∀ k, 0 ≤ w 114 k) (hT : TKS 1 TMS w C P t n E) : qG none d 245 0 [(2, 95), (0, ((k : Nat) : Int)), (9, 0)] [] w 142 (fun (r : qV) (w1 : qW) (_ : Nat) => TXR P (sSho C) r w1 ∧ RWX C k w w1) := by
  generalize hQ9 : (fun (r : qV) (w1 : qW) (_ : Nat) => TXR P (sSho C) r w1 ∧ RWX C k w w1) = Q9
  obtain ⟨d, rfl⟩ : ∃ d9, d = d9 + 1 := ⟨d - 1, by omega⟩
  refine qG.blk 6 (pc' := 8) (ls' := [(2, 95), (0, ((k : Nat) : Int)), (9, 0)]) (st' := [(0, 4), (0, 0), (0, ((k : Nat) : Int))]) (w' := (qup w 95 30 0)) (n' := 142) rfl ?_
  refine qG.call (t := 206) (na := 3) (sk := 0) (md := 0) (ls1 := [(0, ((k : Nat) : Int)), (0, 0), (0, 4)]) (r1 := []) rfl rfl rfl rfl rfl (K_isIn (by omega) _ _ _ _) ?_
  rintro _ w7 _ ⟨rfl, hw7, rfl⟩
  rw [hw7]
  show qG none (d + 1) 245 11 [(2, 95), (0, ((k : Nat) : Int)), (9, 0)] [(0, isInV ((k : Nat) : Int) 0 4)] (qup w 95 30 0) 142 Q9
  refine qG.br (P := isInV ((k : Nat) : Int) 0 4 = 0) (pc1 := 14) (pc2 := 31) (st1 := []) rfl (fun hin => ?_) (fun hin => ?_)
  · exfalso; unfold isInV at hin; (repeat' split at hin) <;> omega
  · skip
    refine qG.blk 3 (pc' := 34) (ls' := [(2, 95), (0, ((k : Nat) : Int)), (9, 0)]) (st' := [(0, 4), (0, ((k : Nat) : Int)), (2, 95)]) (w' := (qup w 95 30 0)) (n' := 142) rfl ?_
    refine qG.br (P := ((k : Nat) : Int) < 4) (pc1 := 37) (pc2 := 41) (st1 := [(2, 95)]) rfl (fun hk4 => ?_) (fun hk4 => ?_)
    · skip
      refine qG.blk 2 (pc' := 42) (ls' := [(2, 95), (0, ((k : Nat) : Int)), (9, 0)]) (st' := [(0, 1), (2, 95)]) (w' := (qup w 95 30 0)) (n' := 142) rfl ?_
      refine qG.gd (P := (0 < (95 : Int) ∧ (95 : Int) ≤ ((142 : Nat) : Int)) ∧ 0 ≤ 1 ∧ 1 ≤ 1) (pc' := 45) (ls' := [(2, 95), (0, ((k : Nat) : Int)), (9, 0)]) (st' := []) (w' := (qup (qup w 95 30 0) 95 35 1)) (n' := 142) rfl (by omega) ?_
      refine qG.blk 11 (pc' := 64) (ls' := [(2, 95), (0, ((k : Nat) : Int)), (9, 0)]) (st' := [(2, w 95 15)]) (w' := (qup (qup (qup (qup (qup w 95 30 0) 95 35 1) 95 26 0) 95 23 0) 95 24 0)) (n' := 142) rfl ?_
      rw [show w 95 15 = 109 from zref hI rfl rfl]
      refine qG.blk 2 (pc' := 66) (ls' := [(2, 95), (0, ((k : Nat) : Int)), (9, 0)]) (st' := [(0, 0), (0, 0), (2, 109)]) (w' := (qup (qup (qup (qup (qup w 95 30 0) 95 35 1) 95 26 0) 95 23 0) 95 24 0)) (n' := 142) rfl ?_
      refine qG.ar (P := 0 ≤ 0 ∧ 0 < ((21 : Nat) : Int)) (P2 := 0 < (109 : Int) ∧ (109 : Int) ≤ ((142 : Nat) : Int)) (pc' := 67) (ls' := [(2, 95), (0, ((k : Nat) : Int)), (9, 0)]) (st' := []) (w' := (qup (qup (qup (qup (qup (qup w 95 30 0) 95 35 1) 95 26 0) 95 23 0) 95 24 0) 109 0 0)) (n' := 142) rfl (by omega) (by decide) ?_
      subst hQ9
      exact K_textBSY (by omega) k hk w hI hpos hT
    · exfalso; omega
theorem K_textBPY {d : Nat} (hd : 42 ≤ d) (w : qW) (hI : yInv zgf zga zra zSp w) {C P : Nat → Int} {t n : Nat} {E : Nat → Nat} (hpos : ∀ k, 0 ≤ w 114 k) (hT : TKS 0 TMP w C P t n E) : qG none d 245 67 [(2, 95), (0, 4), (9, 0)] [] (txW w 0) 142 (fun (r : qV) (w1 : qW) (_ : Nat) => TXR P (sPam C) r w1 ∧ RwM w w1) := by
  generalize hQ9 : (fun (r : qV) (w1 : qW) (_ : Nat) => TXR P (sPam C) r w1 ∧ RwM w w1) = Q9
  obtain ⟨d, rfl⟩ : ∃ d9, d = d9 + 1 := ⟨d - 1, by omega⟩
  have hAT : AW XN w (txW w 0) := txW_A hI (by decide) (by decide)
  have tm0 : TMP (-2) 0 := .inl ⟨rfl, rfl⟩
  have tm1 : TMP (-1) 1 := .inr (.inl ⟨rfl, rfl⟩)
  have tm2 : ∀ c, 0 ≤ c → c < 10000 → TMP c 2 := fun c h0 h1 => .inr (.inr (.inl ⟨h0, h1, rfl⟩))
  have hO : SO (SIMR 0 TMP w C P t n E) C P TMP := SIMR.so hpos hT tm0 tm1 tm2
  have hCe : ∀ i, t ≤ i → C i = -2 := fun i hi => (hT.2.2.2.2.2.2.1 i hi).1
  have ht6 : t ≤ 600 := Nat.le_trans hT.2.1 hT.1
  refine qG.blk 1 (pc' := 68) (ls' := [(2, 95), (0, 4), (9, 0)]) (st' := [(2, 95)]) (w' := (txW w 0)) (n' := 142) rfl ?_
  refine qG.call (t := 231) (na := 1) (sk := 1) (md := 1) (ls1 := [(2, 95), (9, 0)]) (r1 := []) rfl rfl rfl rfl rfl (K_next0 (by omega) (txW w 0) hAT.1) ?_
  rintro _ w1 _ ⟨rfl, rfl, hX1⟩
  obtain ⟨hN1, hg1, hg2, hg3⟩ := hX1.look hAT.1
  have hA1 : AW XN w w1 := hAT.tr hN1 (by decide +kernel)
  have hP1 : PI w1 := ⟨hN1.1, hg2, hg3⟩
  have e23 : w1 95 23 = 0 := (hN1.2 95 23 (fun _ => rfl)).trans (by unfold txW; simp (disch := decide) only [qup_ne, qup_j, qup_k])
  have e24 : w1 95 24 = 0 := (hN1.2 95 24 (fun _ => rfl)).trans (by unfold txW; simp (disch := decide) only [qup_ne, qup_j, qup_k])
  have e35 : w1 95 35 = 0 := (hN1.2 95 35 (fun _ => rfl)).trans (by unfold txW; simp (disch := decide) only [qup_ne, qup_j, qup_k])
  have e109 : w1 109 0 = 0 := (hN1.2 109 0 (fun _ => rfl)).trans (by unfold txW; simp (disch := decide) only [qup_ne, qup_j, qup_k])
  have hb1 := hP1.b
  have hS1 : SIMR 0 TMP w C P t n E 0 w1 := sim_nx hpos hT tm0 tm1 tm2 (i := 0) (by rw [show ENd E t n 0 = 0 from (if_pos (Nat.zero_le _)).trans hT.2.2.2.1]; unfold txW; simp (disch := decide) only [qup_ne, qup_j, qup_k]; rfl) (fun k => by unfold txW; simp (disch := decide) only [qup_ne, qup_j, qup_k]) (by unfold txW; simp (disch := decide) only [qup_ne, qup_j, qup_k]) (by unfold txW; simp (disch := decide) only [qup_ne, qup_j, qup_k]) (by unfold txW; simp (disch := decide) only [qup_ne, qup_j, qup_k]) hX1
  show qG none (d + 1) 245 71 [(2, 95), (0, 4), (9, 0)] [] w1 142 Q9
  refine qG.blk 2 (pc' := 73) (ls' := [(2, 95), (0, 4), (0, 1)]) (st' := []) (w' := w1) (n' := 142) rfl ?_
  have L73 : ∀ (m9 : Nat) (good : Int) (L : Nat) (wL : qW), (good * (601 - wL 95 28)).toNat = m9 → (AW XN w wL ∧ wL 95 35 = 0 ∧ ((good = 0 ∧ ∃ (k9 : Int) (c9 j9 : Nat), (sPam C) = (k9, c9, j9) ∧ (k9 = 1 ∨ k9 = 2 ∨ k9 = 3) ∧ wL 95 30 = k9 ∧ wL 95 31 = P j9) ∨ (good = 1 ∧ (L ≤ 20 ∧ PI wL ∧ wL 95 24 ≤ wL 95 28 ∧ RsL wL L) ∧ ∃ i9, SIMR 0 TMP w C P t n E i9 wL ∧ (sPam C) = sAll C (sReas C 601) (21 - L) L i9))) → qG none (d + 1) 245 73 [(2, 95), (0, 4), (0, good)] [] wL 142 Q9 := by
    intro m9
    induction m9 using Nat.strongRecOn with
    | ind m9 ih73 =>
    intro good L wL hm73 hI73
    obtain ⟨hAL, heL, hOr⟩ := hI73
    refine qG.blk 1 (pc' := 74) (ls' := [(2, 95), (0, 4), (0, good)]) (st' := [(0, good)]) (w' := wL) (n' := 142) rfl ?_
    refine qG.br (P := good = 0) (pc1 := 106) (pc2 := 77) (st1 := []) rfl (fun hg => ?_) (fun hg => ?_)
    · skip
      subst hg
      refine qG.blk 9 (pc' := 121) (ls' := [(2, 95), (0, 4), (0, 0)]) (st' := [(0, 0), (2, 95)]) (w' := (qup (qup wL 95 25 0) 95 32 (wL 95 30))) (n' := 142) rfl ?_
      refine qG.br (P := (0 : Int) = 0) (pc1 := 128) (pc2 := 124) (st1 := [(2, 95)]) rfl (fun h1 => ?_) (fun h1 => ?_)
      · skip
        refine qG.blk 4 (pc' := 136) (ls' := [(2, 95), (0, 4), (0, 0)]) (st' := [(0, 0)]) (w' := (qup (qup (qup wL 95 25 0) 95 32 (wL 95 30)) 95 34 (wL 95 31))) (n' := 142) rfl ?_
        refine qG.br (P := (0 : Int) = 0) (pc1 := 139) (pc2 := 141) (st1 := []) rfl (fun h2 => ?_) (fun h2 => ?_)
        · skip
          refine qG.blk 1 (pc' := 140) (ls' := [(2, 95), (0, 4), (0, 0)]) (st' := [(0, (-1))]) (w' := (qup (qup (qup wL 95 25 0) 95 32 (wL 95 30)) 95 34 (wL 95 31))) (n' := 142) rfl ?_
          refine qG.ret rfl rfl ?_
          subst hQ9
          rcases hOr with ⟨-, k9, c9, j9, a1, a2, a3, a4⟩ | ⟨z, -⟩
          · exact ⟨TXR.bad a1 a2 a3 a4, (RwM.xn hAL).tl⟩
          · exact absurd z (by decide)
        · exact absurd h2 (by decide)
      · exact absurd h1 (by decide)
    · skip
      obtain ⟨hg1, ⟨hL40, hPL, hDL, hSL⟩, i9, hJ9, hS9⟩ := hOr.resolve_left (fun z => hg z.1)
      subst hg1
      have hJO := hJ9
      have hbL := hPL.b
      have htc9 := (hO.2.1 _ _ hJ9).1
      have h309 : wL 95 30 = 0 := hJ9.2.2.2.2.2.2.2
      refine qG.blk 2 (pc' := 81) (ls' := [(2, 95), (0, 4), (0, 1)]) (st' := [(0, wL 95 27)]) (w' := wL) (n' := 142) rfl ?_
      refine qG.br (P := wL 95 27 = 0) (pc1 := 106) (pc2 := 84) (st1 := []) rfl (fun htok => ?_) (fun htok => ?_)
      · skip
        refine qG.blk 9 (pc' := 121) (ls' := [(2, 95), (0, 4), (0, 1)]) (st' := [(0, 1), (2, 95)]) (w' := (qup (qup wL 95 25 0) 95 32 (wL 95 30))) (n' := 142) rfl ?_
        refine qG.br (P := (1 : Int) = 0) (pc1 := 128) (pc2 := 124) (st1 := [(2, 95)]) rfl (fun h3 => ?_) (fun h3 => ?_)
        · exact absurd h3 (by decide)
        · skip
          refine qG.blk 4 (pc' := 136) (ls' := [(2, 95), (0, 4), (0, 1)]) (st' := [(0, 1)]) (w' := (qup (qup (qup wL 95 25 0) 95 32 (wL 95 30)) 95 34 (-1))) (n' := 142) rfl ?_
          refine qG.br (P := (1 : Int) = 0) (pc1 := 139) (pc2 := 141) (st1 := []) rfl (fun h4 => ?_) (fun h4 => ?_)
          · exact absurd h4 (by decide)
          · skip
            refine qG.blk 2 (pc' := 145) (ls' := [(2, 95), (0, 4), (0, 1)]) (st' := [(0, wL 95 35)]) (w' := (qup (qup (qup wL 95 25 0) 95 32 (wL 95 30)) 95 34 (-1))) (n' := 142) rfl ?_
            rw [show wL 95 35 = 0 from heL]
            refine qG.br (P := (0 : Int) = 0) (pc1 := 156) (pc2 := 148) (st1 := []) rfl (fun h5 => ?_) (fun h5 => ?_)
            · skip
              refine qG.blk 1 (pc' := 157) (ls' := [(2, 95), (0, 4), (0, 1)]) (st' := [(2, 95)]) (w' := (qup (qup (qup wL 95 25 0) 95 32 (wL 95 30)) 95 34 (-1))) (n' := 142) rfl ?_
              have hA3 := tlW_A hAL (v := -1) (by decide) (by decide)
              show qG none (d + 1) 245 157 [(2, 95), (0, 4), (0, 1)] [(2, 95)] (tlW wL (-1)) 142 Q9
              refine qG.call (t := 247) (na := 1) (sk := 1) (md := 1) (ls1 := [(2, 95), (9, 0)]) (r1 := []) rfl rfl rfl rfl rfl (K_keepsReasons (by omega) L (tlW wL (-1)) hA3.1 hSL.tl hL40) ?_
              rintro _ _ _ ⟨rfl, rfl, rfl⟩
              show qG none (d + 1) 245 160 [(2, 95), (0, 4), (0, 1)] [] (krW (tlW wL (-1)) L) 142 Q9
              refine qG.blk 2 (pc' := 164) (ls' := [(2, 95), (0, 4), (0, 1)]) (st' := [(0, (krW (tlW wL (-1)) L) 95 23)]) (w' := (krW (tlW wL (-1)) L)) (n' := 142) rfl ?_
              refine qG.ret rfl rfl ?_
              subst hQ9
              have hE9 : C i9 = -2 := by unfold TMP at htc9; omega
              have hT9 : sPam C = (0, L, i9) := hS9.trans (by rw [show 21 - L = (21 - (L + 1)) + 1 by omega]; exact sAll_e hE9)
              exact ⟨TXR.kr hT9 hSL.1 h309, ((RwM.xn hAL).tl).kr⟩
            · exact absurd h5 (by decide)
      · skip
        refine qG.blk 2 (pc' := 88) (ls' := [(2, 95), (0, 4), (0, 1)]) (st' := [(0, wL 95 35)]) (w' := wL) (n' := 142) rfl ?_
        rw [show wL 95 35 = 0 from heL]
        refine qG.br (P := (0 : Int) = 0) (pc1 := 98) (pc2 := 91) (st1 := []) rfl (fun h6 => ?_) (fun h6 => ?_)
        · skip
          refine qG.blk 1 (pc' := 99) (ls' := [(2, 95), (0, 4), (0, 1)]) (st' := [(2, 95)]) (w' := wL) (n' := 142) rfl ?_
          refine qG.call (t := 244) (na := 1) (sk := 1) (md := 1) (ls1 := [(2, 95)]) (r1 := []) rfl rfl rfl rfl rfl (qG.and (K_aReason (by omega) L wL hPL hDL hSL hL40) (K_aReasonX (by omega) hO hCe ht6 L wL hPL hDL hSL hL40 i9 hJ9)) ?_
          rintro _ w7 _ ⟨⟨rfl, ⟨rfl, hS7⟩ | ⟨rfl, hS7, hPn, hSn, hDn, hmn, hL41⟩⟩, -, hXR⟩
          · skip
            show qG none (d + 1) 245 102 [(2, 95), (0, 4), (0, 1)] [(0, 0)] w7 142 Q9
            have hAn := hAL.tr hS7 (by decide +kernel)
            have hen := (hS7.2 95 35 (fun _ => rfl)).trans heL
            have hbn := hbL
            have hne9 : ¬ C i9 = -2 := fun z => htok (by unfold TMP at htc9; omega)
            obtain ⟨k9, j9, hx9, hk9, h30, h31⟩ := hXR.f
            refine qG.blk 2 (pc' := 73) (ls' := [(2, 95), (0, 4), (0, 0)]) (st' := []) (w' := w7) (n' := 142) rfl ?_
            exact ih73 _ (by omega) (0) (L) (w7) rfl (⟨hAn, hen, .inl ⟨rfl, k9, L, j9, hS9.trans (by rw [show 21 - L = (21 - (L + 1)) + 1 by omega]; exact sAll_f hne9 hx9 hk9), hk9, h30, h31⟩⟩)
          · skip
            show qG none (d + 1) 245 102 [(2, 95), (0, 4), (0, 1)] [(0, 1)] w7 142 Q9
            have hAn := hAL.tr hS7 (by decide +kernel)
            have hen := (hS7.2 95 35 (fun _ => rfl)).trans heL
            have hbn := hbL
            have hne9 : ¬ C i9 = -2 := fun z => htok (by unfold TMP at htc9; omega)
            have hbn2 := hPn.b
            obtain ⟨j9, hx9, hJ9⟩ := hXR.y
            refine qG.blk 2 (pc' := 73) (ls' := [(2, 95), (0, 4), (0, 1)]) (st' := []) (w' := w7) (n' := 142) rfl ?_
            exact ih73 _ (by omega) (1) (L + 1) (w7) rfl (⟨hAn, hen, .inr ⟨rfl, ⟨hL41, hPn, hDn, hSn⟩, j9, hJ9, hS9.trans (by rw [show 21 - L = (21 - (L + 1)) + 1 by omega]; exact sAll_s hne9 hx9)⟩⟩)
        · exact absurd h6 (by decide)
  exact L73 _ (1) (0) (w1) rfl (⟨hA1, e35, .inr ⟨rfl, ⟨by omega, hP1, by omega, e23, by rw [e109, e24], fun i hi => by rw [show i = 0 by omega, e109, e24]; omega, fun i hi => by omega⟩, 0, hS1, rfl⟩⟩)
theorem K_textPY {d : Nat} (hd : 42 ≤ d) (w : qW) (hI : yInv zgf zga zra zSp w) {C P : Nat → Int} {t n : Nat} {E : Nat → Nat} (hpos : ∀ k, 0 ≤ w 114 k) (hT : TKS 0 TMP w C P t n E) : qG none d 245 0 [(2, 95), (0, 4), (9, 0)] [] w 142 (fun (r : qV) (w1 : qW) (_ : Nat) => TXR P (sPam C) r w1 ∧ RwM w w1) := by
  generalize hQ9 : (fun (r : qV) (w1 : qW) (_ : Nat) => TXR P (sPam C) r w1 ∧ RwM w w1) = Q9
  obtain ⟨d, rfl⟩ : ∃ d9, d = d9 + 1 := ⟨d - 1, by omega⟩
  refine qG.blk 6 (pc' := 8) (ls' := [(2, 95), (0, 4), (9, 0)]) (st' := [(0, 4), (0, 0), (0, 4)]) (w' := (qup w 95 30 0)) (n' := 142) rfl ?_
  refine qG.call (t := 206) (na := 3) (sk := 0) (md := 0) (ls1 := [(0, 4), (0, 0), (0, 4)]) (r1 := []) rfl rfl rfl rfl rfl (K_isIn (by omega) _ _ _ _) ?_
  rintro _ w7 _ ⟨rfl, hw7, rfl⟩
  rw [hw7]
  show qG none (d + 1) 245 11 [(2, 95), (0, 4), (9, 0)] [(0, isInV 4 0 4)] (qup w 95 30 0) 142 Q9
  refine qG.br (P := isInV 4 0 4 = 0) (pc1 := 14) (pc2 := 31) (st1 := []) rfl (fun hin => ?_) (fun hin => ?_)
  · exfalso; unfold isInV at hin; (repeat' split at hin) <;> omega
  · skip
    refine qG.blk 3 (pc' := 34) (ls' := [(2, 95), (0, 4), (9, 0)]) (st' := [(0, 4), (0, 4), (2, 95)]) (w' := (qup w 95 30 0)) (n' := 142) rfl ?_
    refine qG.br (P := (4 : Int) < 4) (pc1 := 37) (pc2 := 41) (st1 := [(2, 95)]) rfl (fun h1 => ?_) (fun h1 => ?_)
    · exact absurd h1 (by decide)
    · skip
      refine qG.blk 1 (pc' := 42) (ls' := [(2, 95), (0, 4), (9, 0)]) (st' := [(0, 0), (2, 95)]) (w' := (qup w 95 30 0)) (n' := 142) rfl ?_
      refine qG.gd (P := (0 < (95 : Int) ∧ (95 : Int) ≤ ((142 : Nat) : Int)) ∧ 0 ≤ 0 ∧ 0 ≤ 1) (pc' := 45) (ls' := [(2, 95), (0, 4), (9, 0)]) (st' := []) (w' := (qup (qup w 95 30 0) 95 35 0)) (n' := 142) rfl (by omega) ?_
      refine qG.blk 11 (pc' := 64) (ls' := [(2, 95), (0, 4), (9, 0)]) (st' := [(2, w 95 15)]) (w' := (qup (qup (qup (qup (qup w 95 30 0) 95 35 0) 95 26 0) 95 23 0) 95 24 0)) (n' := 142) rfl ?_
      rw [show w 95 15 = 109 from zref hI rfl rfl]
      refine qG.blk 2 (pc' := 66) (ls' := [(2, 95), (0, 4), (9, 0)]) (st' := [(0, 0), (0, 0), (2, 109)]) (w' := (qup (qup (qup (qup (qup w 95 30 0) 95 35 0) 95 26 0) 95 23 0) 95 24 0)) (n' := 142) rfl ?_
      refine qG.ar (P := 0 ≤ 0 ∧ 0 < ((21 : Nat) : Int)) (P2 := 0 < (109 : Int) ∧ (109 : Int) ≤ ((142 : Nat) : Int)) (pc' := 67) (ls' := [(2, 95), (0, 4), (9, 0)]) (st' := []) (w' := (qup (qup (qup (qup (qup (qup w 95 30 0) 95 35 0) 95 26 0) 95 23 0) 95 24 0) 109 0 0)) (n' := 142) rfl (by omega) (by decide) ?_
      subst hQ9
      exact K_textBPY (by omega) w hI hpos hT
theorem K_textXY {d : Nat} (hd : 42 ≤ d) (k : Int) (hk : k < 0 ∨ 4 < k) (w : qW) (hI : yInv zgf zga zra zSp w) : qG none d 245 0 [(2, 95), (0, k), (9, 0)] [] w 142 (fun (r : qV) (w1 : qW) (_ : Nat) => r = (0, -1) ∧ w1 95 32 = 0 ∧ w1 95 34 = -1 ∧ RwM w w1) := by
  generalize hQ9 : (fun (r : qV) (w1 : qW) (_ : Nat) => r = (0, -1) ∧ w1 95 32 = 0 ∧ w1 95 34 = -1 ∧ RwM w w1) = Q9
  obtain ⟨d, rfl⟩ : ∃ d9, d = d9 + 1 := ⟨d - 1, by omega⟩
  refine qG.blk 6 (pc' := 8) (ls' := [(2, 95), (0, k), (9, 0)]) (st' := [(0, 4), (0, 0), (0, k)]) (w' := (qup w 95 30 0)) (n' := 142) rfl ?_
  refine qG.call (t := 206) (na := 3) (sk := 0) (md := 0) (ls1 := [(0, k), (0, 0), (0, 4)]) (r1 := []) rfl rfl rfl rfl rfl (K_isIn (by omega) _ _ _ _) ?_
  rintro _ w7 _ ⟨rfl, hw7, rfl⟩
  rw [hw7]
  show qG none (d + 1) 245 11 [(2, 95), (0, k), (9, 0)] [(0, isInV k 0 4)] (qup w 95 30 0) 142 Q9
  refine qG.br (P := isInV k 0 4 = 0) (pc1 := 14) (pc2 := 31) (st1 := []) rfl (fun hin => ?_) (fun hin => ?_)
  · skip
    refine qG.blk 10 (pc' := 30) (ls' := [(2, 95), (0, k), (9, 0)]) (st' := [(0, (-1))]) (w' := (qup (qup (qup (qup w 95 30 0) 95 25 0) 95 32 0) 95 34 (-1))) (n' := 142) rfl ?_
    refine qG.ret rfl rfl ?_
    subst hQ9
    exact ⟨rfl, (qup_j (by decide)).trans qup_k, qup_k, fun q => ⟨by simp (disch := decide) only [qup_ne], by simp (disch := decide) only [qup_ne], by simp (disch := decide) only [qup_ne]⟩⟩
  · exfalso; unfold isInV at hin; (repeat' split at hin) <;> omega
