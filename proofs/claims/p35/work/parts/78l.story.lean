/-! what story answers -/
theorem AW.nil {w w1 : qW} (h : AW [] w w1) : w1 = w := funext (fun p => funext (fun j => h.2 p j (fun _ => rfl)))
theorem ahR_J {w : qW} (hJ : JW w) (a b : Nat) : ahR (w 62) a b = ahB w a b := by
  unfold ahR ahB
  rw [hJ.2.2.1 a, hJ.2.2.1 b]
theorem ahB_as {w : qW} {a b : Nat} (h : ahB w a b = true) (h2 : ahB w b a = true) : False := by
  have h := of_decide_eq_true h
  have h2 := of_decide_eq_true h2
  omega
theorem ahB_tr {w : qW} {a b c : Nat} (h : ahB w a b = true) (h2 : ahB w b c = true) : ahB w a c = true := by
  have h := of_decide_eq_true h
  have h2 := of_decide_eq_true h2
  exact decide_eq_true (by omega)
theorem ahB_to {w : qW} {a b : Nat} (h : ¬ ahB w a b = true) (h2 : ¬ a = b) : ahB w b a = true := by
  have h : ¬ (w 141 a < w 141 b ∨ (w 141 a = w 141 b ∧ a < b)) := fun z => h (decide_eq_true z)
  exact decide_eq_true (by omega)
/-- whom and how many, as the class keeps them -/
def cqI (w : qW) (x k : Nat) (b m : Int) : Prop := b = (cpS w x k).1 ∧ ((b = -1 ∧ m = 1 ∧ (cpS w x k).2 = 0) ∨ (0 ≤ b ∧ b < (k : Int) ∧ m = (cpS w x k).2 ∧ 1 ≤ m))
theorem cq_0 (w : qW) (x : Nat) : cqI w x 0 (-1) 1 := ⟨rfl, .inl ⟨rfl, rfl, rfl⟩⟩
theorem cq_b {w : qW} {x k : Nat} {b m : Int} (h : cqI w x k b m) : -1 ≤ b ∧ b < (k : Int) ∧ 1 ≤ m := by
  rcases h.2 with z | z <;> omega
def cmB (w : qW) (x k : Nat) : Int := bitsF (qand (qand (w 142 k) (w 142 x)) (qxor (w 95 77) (-1))) 30
theorem cq_upd {w : qW} {x k : Nat} {b m : Int} (h : cqI w x k b m) (ha : ahB w k x = true) (h2 : m < cmB w x k ∨ (cmB w x k = m ∧ (b = -1 ∨ ∃ q : Nat, b = (q : Int) ∧ ahB w q k = true))) : cqI w x (k + 1) (k : Int) (cmB w x k) := by
  have e : cmF w x k = cmB w x k := if_pos ha
  have hb := cq_b h
  have e9 : cpS w x (k + 1) = ((k : Int), cmB w x k) := by
    rw [cpS_s, e]
    rw [if_neg (by omega)]
    rw [if_neg (by rcases h.2 with z | z <;> omega)]
    refine if_neg (fun z => ?_)
    rcases h.2 with y | y
    · omega
    · rcases h2 with g | ⟨-, g | ⟨q, g, gq⟩⟩
      · omega
      · omega
      · have z2 := z.2
        rw [← h.1, g, Int.toNat_natCast] at z2
        exact ahB_as z2 gq
  refine ⟨by rw [e9], .inr ⟨by omega, by omega, by rw [e9], by omega⟩⟩
theorem cq_keep {w : qW} {x k : Nat} {b m : Int} (h : cqI w x k b m) (h2 : ¬ (ahB w k x = true ∧ (m < cmB w x k ∨ (cmB w x k = m ∧ (b = -1 ∨ ∃ q : Nat, b = (q : Int) ∧ ahB w q k = true))))) : cqI w x (k + 1) b m := by
  have hb := cq_b h
  have e9 : cpS w x (k + 1) = cpS w x k := by
    rw [cpS_s]
    by_cases ha : ahB w k x = true
    · have e : cmF w x k = cmB w x k := if_pos ha
      rw [e]
      by_cases c0 : cmB w x k = 0
      · rw [if_pos c0]
      · rw [if_neg c0]
        have hc : 0 ≤ cmB w x k := (bitsF_in _ 30).1
        have g1 : ¬ m < cmB w x k := fun z => h2 ⟨ha, .inl z⟩
        rcases h.2 with y | y
        · exact absurd ⟨ha, .inr ⟨by omega, .inl y.1⟩⟩ h2
        · by_cases c1 : cmB w x k < (cpS w x k).2
          · rw [if_pos c1]
          · rw [if_neg c1]
            have c2 : cmB w x k = (cpS w x k).2 := by omega
            obtain ⟨q, hq⟩ : ∃ q : Nat, b = (q : Int) := ⟨b.toNat, by omega⟩
            refine if_pos ⟨c2, ?_⟩
            rw [← h.1, hq, Int.toNat_natCast]
            exact ahB_to (fun z => h2 ⟨ha, .inr ⟨by omega, .inr ⟨q, hq, z⟩⟩⟩) (by omega)
    · have e : cmF w x k = 0 := if_neg ha
      rw [e, if_pos rfl]
  unfold cqI
  rw [e9]
  refine ⟨h.1, ?_⟩
  rcases h.2 with z | z
  · exact .inl z
  · exact .inr ⟨z.1, by omega, z.2.2⟩
theorem cl_in1 {w : qW} (hI : yInv zgf zga zra zSp w) (x : Nat) (z : Int) : 0 ≤ qand (w 142 x) z ∧ qand (w 142 x) z ≤ 1073741823 := by
  have h := hI.2.1 142 x (0, 1073741823) rfl rfl
  have h1 : (0 : Int) ≤ w 142 x := h.1
  have h2 : w 142 x ≤ (1073741823 : Int) := h.2
  rw [qand_c]
  have q := qand_hi (x := z) (y := w 142 x) (d := 1073741823) h1 h2 (by decide)
  exact ⟨q.1, q.2⟩
theorem cl_in {w : qW} (hI : yInv zgf zga zra zSp w) (k x : Nat) (z : Int) : 0 ≤ qand (qand (w 142 k) (w 142 x)) z ∧ qand (qand (w 142 k) (w 142 x)) z ≤ 1073741823 := by
  have h := cl_in1 hI k (w 142 x)
  rw [qand_c]
  have q := qand_hi (x := z) (y := qand (w 142 k) (w 142 x)) (d := 1073741823) h.1 h.2 (by decide)
  exact ⟨q.1, q.2⟩
/-- how many of the first k writers are ahead of y -/
def rkF (w : qW) (y : Nat) : Nat → Nat
  | 0 => 0
  | k + 1 => rkF w y k + if ahB w k y = true then 1 else 0
theorem rk_le {w : qW} {c y : Nat} (h : ahB w c y = true) : ∀ k, rkF w c k ≤ rkF w y k
  | 0 => Nat.le_refl _
  | k + 1 => by
    have ih := rk_le h k
    show rkF w c k + (if ahB w k c = true then 1 else 0) ≤ rkF w y k + (if ahB w k y = true then 1 else 0)
    by_cases g : ahB w k c = true
    · rw [if_pos g, if_pos (ahB_tr g h)]; omega
    · rw [if_neg g]; omega
theorem rk_lt {w : qW} {c y : Nat} (h : ahB w c y = true) : ∀ k, c < k → rkF w c k < rkF w y k
  | 0, hk => absurd hk (Nat.not_lt_zero _)
  | k + 1, hk => by
    show rkF w c k + (if ahB w k c = true then 1 else 0) < rkF w y k + (if ahB w k y = true then 1 else 0)
    by_cases e : c = k
    · subst e
      rw [if_pos h, if_neg (fun z => ahB_as z z)]
      have := rk_le h c
      omega
    · have ih := rk_lt h k (by omega)
      by_cases g : ahB w k c = true
      · rw [if_pos g, if_pos (ahB_tr g h)]; omega
      · rw [if_neg g]; omega
theorem rk_k (w : qW) (y : Nat) : ∀ k, rkF w y k ≤ k
  | 0 => Nat.le_refl _
  | k + 1 => by
    have ih := rk_k w y k
    show rkF w y k + (if ahB w k y = true then 1 else 0) ≤ k + 1
    split <;> omega
theorem rk_y {w : qW} {y : Nat} : ∀ k, y < k → rkF w y k + 1 ≤ k
  | 0, hk => absurd hk (Nat.not_lt_zero _)
  | k + 1, hk => by
    show rkF w y k + (if ahB w k y = true then 1 else 0) + 1 ≤ k + 1
    by_cases e : y = k
    · subst e
      rw [if_neg (fun z => ahB_as z z)]
      have := rk_k w y y
      omega
    · have ih := rk_y (w := w) (y := y) k (by omega)
      split <;> omega
theorem ln_s {w : qW} {i y : Nat} {n : Int} (hi : i < 3000) (h : ¬ cpF w y = -1) : lnF w (3000 - i) y n = lnF w (3000 - (i + 1)) (cpF w y).toNat (n + 1) := by
  rw [show 3000 - i = (3000 - (i + 1)) + 1 by omega]
  exact if_neg h
theorem ln_e {w : qW} {i y : Nat} {n : Int} (hi : i < 3000) (h : cpF w y = -1) : lnF w (3000 - i) y n = (y, n) := by
  rw [show 3000 - i = (3000 - (i + 1)) + 1 by omega]
  exact if_pos h
def stV (w : qW) (x what : Int) : Int := if 0 ≤ x ∧ x < w 95 76 then stF w x.toNat what else -1
theorem K_copiedFrom {d : Nat} (hd : 2 ≤ d) (x : Nat) (n : Nat) (hn9 : n ≤ 20) (w : qW) (hI : yInv zgf zga zra zSp w) (hJ : JW w) (hn : w 61 2 = (n : Int)) (hm : w 95 76 = (n : Int)) (hxn : x < n) : qG none d 161 0 [(2, 61), (0, ((x : Nat) : Int)), (9, 0), (9, 0), (9, 0), (9, 0), (9, 0)] [] w 142 (fun (r : qV) (w1 : qW) (n1 : Nat) => r = (0, cpF w x) ∧ w1 = w ∧ n1 = 142) := by
  generalize hQ9 : (fun (r : qV) (w1 : qW) (n1 : Nat) => r = (0, cpF w x) ∧ w1 = w ∧ n1 = 142) = Q9
  obtain ⟨d, rfl⟩ : ∃ d9, d = d9 + 1 := ⟨d - 1, by omega⟩
  refine qG.blk 2 (pc' := 2) (ls' := [(2, 61), (0, ((x : Nat) : Int)), (9, 0), (9, 0), (9, 0), (9, 0), (9, 0)]) (st' := [(0, ((x : Nat) : Int)), (2, 61)]) (w' := w) (n' := 142) rfl ?_
  refine qG.call (t := 159) (na := 2) (sk := 1) (md := 1) (ls1 := [(2, 61), (0, ((x : Nat) : Int))]) (r1 := []) rfl rfl rfl rfl rfl (K_isWriter (by omega) x n hn9 w hI hn (by omega)) ?_
  rintro _ w7 _ ⟨rfl, hw7, rfl⟩
  rw [hw7]
  show qG none (d + 1) 161 5 [(2, 61), (0, ((x : Nat) : Int)), (9, 0), (9, 0), (9, 0), (9, 0), (9, 0)] [(0, 1)] w 142 Q9
  refine qG.br (P := (1 : Int) = 0) (pc1 := 8) (pc2 := 10) (st1 := []) rfl (fun h1 => ?_) (fun h1 => ?_)
  · exact absurd h1 (by decide)
  · skip
    refine qG.blk 6 (pc' := 17) (ls' := [(2, 61), (0, ((x : Nat) : Int)), (0, (-1)), (0, 1), (0, 0), (9, 0), (9, 0)]) (st' := []) (w' := w) (n' := 142) rfl ?_
    have L17 : ∀ (m9 : Nat) (k : Nat) (bst mst : Int) (q5 q6 : qV), n - k = m9 → (k ≤ n ∧ cqI w x k bst mst) → qG none (d + 1) 161 17 [(2, 61), (0, ((x : Nat) : Int)), (0, bst), (0, mst), (0, ((k : Nat) : Int)), q5, q6] [] w 142 Q9 := by
      intro m9
      induction m9 using Nat.strongRecOn with
      | ind m9 ih17 =>
      intro k bst mst q5 q6 hm17 hI17
      have hbb := cq_b hI17.2
      refine qG.blk 3 (pc' := 23) (ls' := [(2, 61), (0, ((x : Nat) : Int)), (0, bst), (0, mst), (0, ((k : Nat) : Int)), q5, q6]) (st' := [(0, w 61 2), (0, ((k : Nat) : Int))]) (w' := w) (n' := 142) rfl ?_
      rw [show w 61 2 = ((n : Nat) : Int) from hn]
      refine qG.br (P := ((k : Nat) : Int) < ((n : Nat) : Int)) (pc1 := 26) (pc2 := 120) (st1 := []) rfl (fun h2 => ?_) (fun h2 => ?_)
      · skip
        refine qG.blk 2 (pc' := 30) (ls' := [(2, 61), (0, ((x : Nat) : Int)), (0, bst), (0, mst), (0, ((k : Nat) : Int)), q5, q6]) (st' := [(0, 20), (0, ((k : Nat) : Int))]) (w' := w) (n' := 142) rfl ?_
        refine qG.br (P := ((k : Nat) : Int) < 20) (pc1 := 33) (pc2 := 120) (st1 := []) rfl (fun h3 => ?_) (fun h3 => ?_)
        · skip
          refine qG.blk 2 (pc' := 37) (ls' := [(2, 61), (0, ((x : Nat) : Int)), (0, bst), (0, mst), (0, ((k : Nat) : Int)), q5, q6]) (st' := [(2, w 61 1)]) (w' := w) (n' := 142) rfl ?_
          rw [show w 61 1 = 63 from zref hI rfl rfl]
          refine qG.blk 1 (pc' := 39) (ls' := [(2, 61), (0, ((x : Nat) : Int)), (0, bst), (0, mst), (0, ((k : Nat) : Int)), q5, q6]) (st' := [(0, ((k : Nat) : Int)), (2, 63)]) (w' := w) (n' := 142) rfl ?_
          refine qG.ar (P := 0 ≤ ((k : Nat) : Int) ∧ ((k : Nat) : Int) < ((20 : Nat) : Int)) (P2 := 0 < (63 : Int) ∧ (63 : Int) ≤ ((142 : Nat) : Int)) (pc' := 40) (ls' := [(2, 61), (0, ((x : Nat) : Int)), (0, bst), (0, mst), (0, ((k : Nat) : Int)), q5, q6]) (st' := [(0, w 63 k)]) (w' := w) (n' := 142) rfl (by omega) (by decide) ?_
          rw [show w 63 k = w 142 k from hJ.2.2.2 _]
          refine qG.blk 2 (pc' := 44) (ls' := [(2, 61), (0, ((x : Nat) : Int)), (0, bst), (0, mst), (0, ((k : Nat) : Int)), q5, q6]) (st' := [(2, w 61 1), (0, w 142 k)]) (w' := w) (n' := 142) rfl ?_
          rw [show w 61 1 = 63 from zref hI rfl rfl]
          refine qG.blk 1 (pc' := 45) (ls' := [(2, 61), (0, ((x : Nat) : Int)), (0, bst), (0, mst), (0, ((k : Nat) : Int)), q5, q6]) (st' := [(0, ((x : Nat) : Int)), (2, 63), (0, w 142 k)]) (w' := w) (n' := 142) rfl ?_
          refine qG.ar (P := 0 ≤ ((x : Nat) : Int) ∧ ((x : Nat) : Int) < ((20 : Nat) : Int)) (P2 := 0 < (63 : Int) ∧ (63 : Int) ≤ ((142 : Nat) : Int)) (pc' := 46) (ls' := [(2, 61), (0, ((x : Nat) : Int)), (0, bst), (0, mst), (0, ((k : Nat) : Int)), q5, q6]) (st' := [(0, w 63 x), (0, w 142 k)]) (w' := w) (n' := 142) rfl (by omega) (by decide) ?_
          rw [show w 63 x = w 142 x from hJ.2.2.2 _]
          refine qG.blk 3 (pc' := 51) (ls' := [(2, 61), (0, ((x : Nat) : Int)), (0, bst), (0, mst), (0, ((k : Nat) : Int)), q5, q6]) (st' := [(0, w 61 3), (0, qand (w 142 k) (w 142 x))]) (w' := w) (n' := 142) rfl ?_
          rw [show w 61 3 = w 95 77 from hJ.2.1]
          refine qG.blk 3 (pc' := 54) (ls' := [(2, 61), (0, ((x : Nat) : Int)), (0, bst), (0, mst), (0, ((k : Nat) : Int)), q5, q6]) (st' := [(0, qand (qand (w 142 k) (w 142 x)) (qxor (w 95 77) (-1)))]) (w' := w) (n' := 142) rfl ?_
          refine qG.call (t := 302) (na := 1) (sk := 0) (md := 0) (ls1 := [(0, qand (qand (w 142 k) (w 142 x)) (qxor (w 95 77) (-1)))]) (r1 := []) rfl rfl rfl rfl rfl (K_bcJ (by omega) (qand (qand (w 142 k) (w 142 x)) (qxor (w 95 77) (-1))) (cl_in hI k x (qxor (w 95 77) (-1))).1 (cl_in hI k x (qxor (w 95 77) (-1))).2 w) ?_
          rintro _ w7 _ ⟨rfl, hw7, rfl⟩
          rw [hw7]
          rw [show bitsF (qand (qand (w 142 k) (w 142 x)) (qxor (w 95 77) (-1))) 30 = cmB w x k from rfl]
          show qG none (d + 1) 161 57 [(2, 61), (0, ((x : Nat) : Int)), (0, bst), (0, mst), (0, ((k : Nat) : Int)), q5, q6] [(0, cmB w x k)] w 142 Q9
          refine qG.blk 3 (pc' := 61) (ls' := [(2, 61), (0, ((x : Nat) : Int)), (0, bst), (0, mst), (0, ((k : Nat) : Int)), (0, cmB w x k), q6]) (st' := [(0, (-1)), (0, bst)]) (w' := w) (n' := 142) rfl ?_
          refine qG.br (P := bst = (-1)) (pc1 := 74) (pc2 := 64) (st1 := []) rfl (fun h1 => ?_) (fun h1 => ?_)
          · skip
            refine qG.blk 6 (pc' := 85) (ls' := [(2, 61), (0, ((x : Nat) : Int)), (0, bst), (0, mst), (0, ((k : Nat) : Int)), (0, cmB w x k), (0, 1)]) (st' := [(0, ((x : Nat) : Int)), (0, ((k : Nat) : Int)), (2, 61)]) (w' := w) (n' := 142) rfl ?_
            refine qG.call (t := 160) (na := 3) (sk := 1) (md := 1) (ls1 := [(2, 61), (0, ((k : Nat) : Int)), (0, ((x : Nat) : Int))]) (r1 := []) rfl rfl rfl rfl rfl (K_wroteBefore (by omega) k x n hn9 w hI hn (by omega) (by omega)) ?_
            rintro _ w7 _ ⟨rfl, hw7, rfl⟩
            rw [hw7, ahR_J hJ]
            show qG none (d + 1) 161 88 [(2, 61), (0, ((x : Nat) : Int)), (0, bst), (0, mst), (0, ((k : Nat) : Int)), (0, cmB w x k), (0, 1)] [(0, (if ahB w k x = true then 1 else 0))] w 142 Q9
            refine qG.br (P := (if ahB w k x = true then 1 else 0) = 0) (pc1 := 114) (pc2 := 91) (st1 := []) rfl (fun ha9 => ?_) (fun ha9 => ?_)
            · skip
              have hA : ¬ ahB w k x = true := ite01.mp ha9
              refine qG.blk 1 (pc' := 117) (ls' := [(2, 61), (0, ((x : Nat) : Int)), (0, bst), (0, mst), (0, wrp (((k : Nat) : Int) + 1)), (0, cmB w x k), (0, 1)]) (st' := []) (w' := w) (n' := 142) rfl ?_
              rw [show wrp (((k : Nat) : Int) + 1) = ((k + 1 : Nat) : Int) from wrp_id (by omega) (by omega)]
              refine qG.blk 1 (pc' := 17) (ls' := [(2, 61), (0, ((x : Nat) : Int)), (0, bst), (0, mst), (0, ((k + 1 : Nat) : Int)), (0, cmB w x k), (0, 1)]) (st' := []) (w' := w) (n' := 142) rfl ?_
              have hcn : cqI w x (k + 1) (bst) (mst) := cq_keep hI17.2 (fun z => by
                obtain ⟨za, zb⟩ := z
                first
                | exact hA za
                | (rcases zb with zb | ⟨zc, zd | ⟨q, ze, zf⟩⟩
                   · first | exact hgt zb | omega
                   · first | exact h1 zd | exact heq zc | omega
                   · first | exact heq zc | (obtain rfl : b9 = q := (by omega); exact hl zf) | omega))
              exact ih17 _ (by omega) (k + 1) (bst) (mst) (0, cmB w x k) (0, 1) rfl ⟨by omega, hcn⟩
            · skip
              have hA : ahB w k x = true := Decidable.of_not_not (fun z => ha9 (ite01.mpr z))
              refine qG.blk 2 (pc' := 94) (ls' := [(2, 61), (0, ((x : Nat) : Int)), (0, bst), (0, mst), (0, ((k : Nat) : Int)), (0, cmB w x k), (0, 1)]) (st' := [(0, mst), (0, cmB w x k)]) (w' := w) (n' := 142) rfl ?_
              refine qG.br (P := mst < cmB w x k) (pc1 := 108) (pc2 := 97) (st1 := []) rfl (fun hgt => ?_) (fun hgt => ?_)
              · skip
                refine qG.blk 5 (pc' := 117) (ls' := [(2, 61), (0, ((x : Nat) : Int)), (0, ((k : Nat) : Int)), (0, cmB w x k), (0, wrp (((k : Nat) : Int) + 1)), (0, cmB w x k), (0, 1)]) (st' := []) (w' := w) (n' := 142) rfl ?_
                rw [show wrp (((k : Nat) : Int) + 1) = ((k + 1 : Nat) : Int) from wrp_id (by omega) (by omega)]
                refine qG.blk 1 (pc' := 17) (ls' := [(2, 61), (0, ((x : Nat) : Int)), (0, ((k : Nat) : Int)), (0, cmB w x k), (0, ((k + 1 : Nat) : Int)), (0, cmB w x k), (0, 1)]) (st' := []) (w' := w) (n' := 142) rfl ?_
                have hcn : cqI w x (k + 1) ((k : Nat) : Int) (cmB w x k) := cq_upd hI17.2 hA (by first | exact .inl hgt | exact .inr ⟨heq, .inl h1⟩ | exact .inr ⟨heq, .inr ⟨b9, rfl, hl⟩⟩)
                exact ih17 _ (by omega) (k + 1) ((k : Nat) : Int) (cmB w x k) (0, cmB w x k) (0, 1) rfl ⟨by omega, hcn⟩
              · skip
                refine qG.blk 2 (pc' := 100) (ls' := [(2, 61), (0, ((x : Nat) : Int)), (0, bst), (0, mst), (0, ((k : Nat) : Int)), (0, cmB w x k), (0, 1)]) (st' := [(0, mst), (0, cmB w x k)]) (w' := w) (n' := 142) rfl ?_
                refine qG.br (P := cmB w x k = mst) (pc1 := 103) (pc2 := 114) (st1 := []) rfl (fun heq => ?_) (fun heq => ?_)
                · skip
                  refine qG.blk 1 (pc' := 105) (ls' := [(2, 61), (0, ((x : Nat) : Int)), (0, bst), (0, mst), (0, ((k : Nat) : Int)), (0, cmB w x k), (0, 1)]) (st' := [(0, 1)]) (w' := w) (n' := 142) rfl ?_
                  refine qG.br (P := (1 : Int) = 0) (pc1 := 114) (pc2 := 108) (st1 := []) rfl (fun h4 => ?_) (fun h4 => ?_)
                  · exact absurd h4 (by decide)
                  · skip
                    refine qG.blk 5 (pc' := 117) (ls' := [(2, 61), (0, ((x : Nat) : Int)), (0, ((k : Nat) : Int)), (0, cmB w x k), (0, wrp (((k : Nat) : Int) + 1)), (0, cmB w x k), (0, 1)]) (st' := []) (w' := w) (n' := 142) rfl ?_
                    rw [show wrp (((k : Nat) : Int) + 1) = ((k + 1 : Nat) : Int) from wrp_id (by omega) (by omega)]
                    refine qG.blk 1 (pc' := 17) (ls' := [(2, 61), (0, ((x : Nat) : Int)), (0, ((k : Nat) : Int)), (0, cmB w x k), (0, ((k + 1 : Nat) : Int)), (0, cmB w x k), (0, 1)]) (st' := []) (w' := w) (n' := 142) rfl ?_
                    have hcn : cqI w x (k + 1) ((k : Nat) : Int) (cmB w x k) := cq_upd hI17.2 hA (by first | exact .inl hgt | exact .inr ⟨heq, .inl h1⟩ | exact .inr ⟨heq, .inr ⟨b9, rfl, hl⟩⟩)
                    exact ih17 _ (by omega) (k + 1) ((k : Nat) : Int) (cmB w x k) (0, cmB w x k) (0, 1) rfl ⟨by omega, hcn⟩
                · skip
                  refine qG.blk 1 (pc' := 117) (ls' := [(2, 61), (0, ((x : Nat) : Int)), (0, bst), (0, mst), (0, wrp (((k : Nat) : Int) + 1)), (0, cmB w x k), (0, 1)]) (st' := []) (w' := w) (n' := 142) rfl ?_
                  rw [show wrp (((k : Nat) : Int) + 1) = ((k + 1 : Nat) : Int) from wrp_id (by omega) (by omega)]
                  refine qG.blk 1 (pc' := 17) (ls' := [(2, 61), (0, ((x : Nat) : Int)), (0, bst), (0, mst), (0, ((k + 1 : Nat) : Int)), (0, cmB w x k), (0, 1)]) (st' := []) (w' := w) (n' := 142) rfl ?_
                  have hcn : cqI w x (k + 1) (bst) (mst) := cq_keep hI17.2 (fun z => by
                    obtain ⟨za, zb⟩ := z
                    first
                    | exact hA za
                    | (rcases zb with zb | ⟨zc, zd | ⟨q, ze, zf⟩⟩
                       · first | exact hgt zb | omega
                       · first | exact h1 zd | exact heq zc | omega
                       · first | exact heq zc | (obtain rfl : b9 = q := (by omega); exact hl zf) | omega))
                  exact ih17 _ (by omega) (k + 1) (bst) (mst) (0, cmB w x k) (0, 1) rfl ⟨by omega, hcn⟩
          · skip
            obtain ⟨b9, rfl⟩ : ∃ q : Nat, bst = (q : Int) := ⟨bst.toNat, by omega⟩
            refine qG.blk 3 (pc' := 68) (ls' := [(2, 61), (0, ((x : Nat) : Int)), (0, ((b9 : Nat) : Int)), (0, mst), (0, ((k : Nat) : Int)), (0, cmB w x k), q6]) (st' := [(0, ((k : Nat) : Int)), (0, ((b9 : Nat) : Int)), (2, 61)]) (w' := w) (n' := 142) rfl ?_
            refine qG.call (t := 160) (na := 3) (sk := 1) (md := 1) (ls1 := [(2, 61), (0, ((b9 : Nat) : Int)), (0, ((k : Nat) : Int))]) (r1 := []) rfl rfl rfl rfl rfl (K_wroteBefore (by omega) b9 k n hn9 w hI hn (by omega) (by omega)) ?_
            rintro _ w7 _ ⟨rfl, hw7, rfl⟩
            rw [hw7, ahR_J hJ]
            show qG none (d + 1) 161 71 [(2, 61), (0, ((x : Nat) : Int)), (0, ((b9 : Nat) : Int)), (0, mst), (0, ((k : Nat) : Int)), (0, cmB w x k), q6] [(0, (if ahB w b9 k = true then 1 else 0))] w 142 Q9
            refine qG.br (P := (if ahB w b9 k = true then 1 else 0) = 0) (pc1 := 78) (pc2 := 74) (st1 := []) rfl (fun hl9 => ?_) (fun hl9 => ?_)
            · skip
              have hl : ¬ ahB w b9 k = true := ite01.mp hl9
              refine qG.blk 5 (pc' := 85) (ls' := [(2, 61), (0, ((x : Nat) : Int)), (0, ((b9 : Nat) : Int)), (0, mst), (0, ((k : Nat) : Int)), (0, cmB w x k), (0, 0)]) (st' := [(0, ((x : Nat) : Int)), (0, ((k : Nat) : Int)), (2, 61)]) (w' := w) (n' := 142) rfl ?_
              refine qG.call (t := 160) (na := 3) (sk := 1) (md := 1) (ls1 := [(2, 61), (0, ((k : Nat) : Int)), (0, ((x : Nat) : Int))]) (r1 := []) rfl rfl rfl rfl rfl (K_wroteBefore (by omega) k x n hn9 w hI hn (by omega) (by omega)) ?_
              rintro _ w7 _ ⟨rfl, hw7, rfl⟩
              rw [hw7, ahR_J hJ]
              show qG none (d + 1) 161 88 [(2, 61), (0, ((x : Nat) : Int)), (0, ((b9 : Nat) : Int)), (0, mst), (0, ((k : Nat) : Int)), (0, cmB w x k), (0, 0)] [(0, (if ahB w k x = true then 1 else 0))] w 142 Q9
              refine qG.br (P := (if ahB w k x = true then 1 else 0) = 0) (pc1 := 114) (pc2 := 91) (st1 := []) rfl (fun ha9 => ?_) (fun ha9 => ?_)
              · skip
                have hA : ¬ ahB w k x = true := ite01.mp ha9
                refine qG.blk 1 (pc' := 117) (ls' := [(2, 61), (0, ((x : Nat) : Int)), (0, ((b9 : Nat) : Int)), (0, mst), (0, wrp (((k : Nat) : Int) + 1)), (0, cmB w x k), (0, 0)]) (st' := []) (w' := w) (n' := 142) rfl ?_
                rw [show wrp (((k : Nat) : Int) + 1) = ((k + 1 : Nat) : Int) from wrp_id (by omega) (by omega)]
                refine qG.blk 1 (pc' := 17) (ls' := [(2, 61), (0, ((x : Nat) : Int)), (0, ((b9 : Nat) : Int)), (0, mst), (0, ((k + 1 : Nat) : Int)), (0, cmB w x k), (0, 0)]) (st' := []) (w' := w) (n' := 142) rfl ?_
                have hcn : cqI w x (k + 1) (((b9 : Nat) : Int)) (mst) := cq_keep hI17.2 (fun z => by
                  obtain ⟨za, zb⟩ := z
                  first
                  | exact hA za
                  | (rcases zb with zb | ⟨zc, zd | ⟨q, ze, zf⟩⟩
                     · first | exact hgt zb | omega
                     · first | exact h1 zd | exact heq zc | omega
                     · first | exact heq zc | (obtain rfl : b9 = q := (by omega); exact hl zf) | omega))
                exact ih17 _ (by omega) (k + 1) (((b9 : Nat) : Int)) (mst) (0, cmB w x k) (0, 0) rfl ⟨by omega, hcn⟩
              · skip
                have hA : ahB w k x = true := Decidable.of_not_not (fun z => ha9 (ite01.mpr z))
                refine qG.blk 2 (pc' := 94) (ls' := [(2, 61), (0, ((x : Nat) : Int)), (0, ((b9 : Nat) : Int)), (0, mst), (0, ((k : Nat) : Int)), (0, cmB w x k), (0, 0)]) (st' := [(0, mst), (0, cmB w x k)]) (w' := w) (n' := 142) rfl ?_
                refine qG.br (P := mst < cmB w x k) (pc1 := 108) (pc2 := 97) (st1 := []) rfl (fun hgt => ?_) (fun hgt => ?_)
                · skip
                  refine qG.blk 5 (pc' := 117) (ls' := [(2, 61), (0, ((x : Nat) : Int)), (0, ((k : Nat) : Int)), (0, cmB w x k), (0, wrp (((k : Nat) : Int) + 1)), (0, cmB w x k), (0, 0)]) (st' := []) (w' := w) (n' := 142) rfl ?_
                  rw [show wrp (((k : Nat) : Int) + 1) = ((k + 1 : Nat) : Int) from wrp_id (by omega) (by omega)]
                  refine qG.blk 1 (pc' := 17) (ls' := [(2, 61), (0, ((x : Nat) : Int)), (0, ((k : Nat) : Int)), (0, cmB w x k), (0, ((k + 1 : Nat) : Int)), (0, cmB w x k), (0, 0)]) (st' := []) (w' := w) (n' := 142) rfl ?_
                  have hcn : cqI w x (k + 1) ((k : Nat) : Int) (cmB w x k) := cq_upd hI17.2 hA (by first | exact .inl hgt | exact .inr ⟨heq, .inl h1⟩ | exact .inr ⟨heq, .inr ⟨b9, rfl, hl⟩⟩)
                  exact ih17 _ (by omega) (k + 1) ((k : Nat) : Int) (cmB w x k) (0, cmB w x k) (0, 0) rfl ⟨by omega, hcn⟩
                · skip
                  refine qG.blk 2 (pc' := 100) (ls' := [(2, 61), (0, ((x : Nat) : Int)), (0, ((b9 : Nat) : Int)), (0, mst), (0, ((k : Nat) : Int)), (0, cmB w x k), (0, 0)]) (st' := [(0, mst), (0, cmB w x k)]) (w' := w) (n' := 142) rfl ?_
                  refine qG.br (P := cmB w x k = mst) (pc1 := 103) (pc2 := 114) (st1 := []) rfl (fun heq => ?_) (fun heq => ?_)
                  · skip
                    refine qG.blk 1 (pc' := 105) (ls' := [(2, 61), (0, ((x : Nat) : Int)), (0, ((b9 : Nat) : Int)), (0, mst), (0, ((k : Nat) : Int)), (0, cmB w x k), (0, 0)]) (st' := [(0, 0)]) (w' := w) (n' := 142) rfl ?_
                    refine qG.br (P := (0 : Int) = 0) (pc1 := 114) (pc2 := 108) (st1 := []) rfl (fun h5 => ?_) (fun h5 => ?_)
                    · skip
                      refine qG.blk 1 (pc' := 117) (ls' := [(2, 61), (0, ((x : Nat) : Int)), (0, ((b9 : Nat) : Int)), (0, mst), (0, wrp (((k : Nat) : Int) + 1)), (0, cmB w x k), (0, 0)]) (st' := []) (w' := w) (n' := 142) rfl ?_
                      rw [show wrp (((k : Nat) : Int) + 1) = ((k + 1 : Nat) : Int) from wrp_id (by omega) (by omega)]
                      refine qG.blk 1 (pc' := 17) (ls' := [(2, 61), (0, ((x : Nat) : Int)), (0, ((b9 : Nat) : Int)), (0, mst), (0, ((k + 1 : Nat) : Int)), (0, cmB w x k), (0, 0)]) (st' := []) (w' := w) (n' := 142) rfl ?_
                      have hcn : cqI w x (k + 1) (((b9 : Nat) : Int)) (mst) := cq_keep hI17.2 (fun z => by
                        obtain ⟨za, zb⟩ := z
                        first
                        | exact hA za
                        | (rcases zb with zb | ⟨zc, zd | ⟨q, ze, zf⟩⟩
                           · first | exact hgt zb | omega
                           · first | exact h1 zd | exact heq zc | omega
                           · first | exact heq zc | (obtain rfl : b9 = q := (by omega); exact hl zf) | omega))
                      exact ih17 _ (by omega) (k + 1) (((b9 : Nat) : Int)) (mst) (0, cmB w x k) (0, 0) rfl ⟨by omega, hcn⟩
                    · exact absurd h5 (by decide)
                  · skip
                    refine qG.blk 1 (pc' := 117) (ls' := [(2, 61), (0, ((x : Nat) : Int)), (0, ((b9 : Nat) : Int)), (0, mst), (0, wrp (((k : Nat) : Int) + 1)), (0, cmB w x k), (0, 0)]) (st' := []) (w' := w) (n' := 142) rfl ?_
                    rw [show wrp (((k : Nat) : Int) + 1) = ((k + 1 : Nat) : Int) from wrp_id (by omega) (by omega)]
                    refine qG.blk 1 (pc' := 17) (ls' := [(2, 61), (0, ((x : Nat) : Int)), (0, ((b9 : Nat) : Int)), (0, mst), (0, ((k + 1 : Nat) : Int)), (0, cmB w x k), (0, 0)]) (st' := []) (w' := w) (n' := 142) rfl ?_
                    have hcn : cqI w x (k + 1) (((b9 : Nat) : Int)) (mst) := cq_keep hI17.2 (fun z => by
                      obtain ⟨za, zb⟩ := z
                      first
                      | exact hA za
                      | (rcases zb with zb | ⟨zc, zd | ⟨q, ze, zf⟩⟩
                         · first | exact hgt zb | omega
                         · first | exact h1 zd | exact heq zc | omega
                         · first | exact heq zc | (obtain rfl : b9 = q := (by omega); exact hl zf) | omega))
                    exact ih17 _ (by omega) (k + 1) (((b9 : Nat) : Int)) (mst) (0, cmB w x k) (0, 0) rfl ⟨by omega, hcn⟩
            · skip
              have hl : ahB w b9 k = true := Decidable.of_not_not (fun z => hl9 (ite01.mpr z))
              refine qG.blk 6 (pc' := 85) (ls' := [(2, 61), (0, ((x : Nat) : Int)), (0, ((b9 : Nat) : Int)), (0, mst), (0, ((k : Nat) : Int)), (0, cmB w x k), (0, 1)]) (st' := [(0, ((x : Nat) : Int)), (0, ((k : Nat) : Int)), (2, 61)]) (w' := w) (n' := 142) rfl ?_
              refine qG.call (t := 160) (na := 3) (sk := 1) (md := 1) (ls1 := [(2, 61), (0, ((k : Nat) : Int)), (0, ((x : Nat) : Int))]) (r1 := []) rfl rfl rfl rfl rfl (K_wroteBefore (by omega) k x n hn9 w hI hn (by omega) (by omega)) ?_
              rintro _ w7 _ ⟨rfl, hw7, rfl⟩
              rw [hw7, ahR_J hJ]
              show qG none (d + 1) 161 88 [(2, 61), (0, ((x : Nat) : Int)), (0, ((b9 : Nat) : Int)), (0, mst), (0, ((k : Nat) : Int)), (0, cmB w x k), (0, 1)] [(0, (if ahB w k x = true then 1 else 0))] w 142 Q9
              refine qG.br (P := (if ahB w k x = true then 1 else 0) = 0) (pc1 := 114) (pc2 := 91) (st1 := []) rfl (fun ha9 => ?_) (fun ha9 => ?_)
              · skip
                have hA : ¬ ahB w k x = true := ite01.mp ha9
                refine qG.blk 1 (pc' := 117) (ls' := [(2, 61), (0, ((x : Nat) : Int)), (0, ((b9 : Nat) : Int)), (0, mst), (0, wrp (((k : Nat) : Int) + 1)), (0, cmB w x k), (0, 1)]) (st' := []) (w' := w) (n' := 142) rfl ?_
                rw [show wrp (((k : Nat) : Int) + 1) = ((k + 1 : Nat) : Int) from wrp_id (by omega) (by omega)]
                refine qG.blk 1 (pc' := 17) (ls' := [(2, 61), (0, ((x : Nat) : Int)), (0, ((b9 : Nat) : Int)), (0, mst), (0, ((k + 1 : Nat) : Int)), (0, cmB w x k), (0, 1)]) (st' := []) (w' := w) (n' := 142) rfl ?_
                have hcn : cqI w x (k + 1) (((b9 : Nat) : Int)) (mst) := cq_keep hI17.2 (fun z => by
                  obtain ⟨za, zb⟩ := z
                  first
                  | exact hA za
                  | (rcases zb with zb | ⟨zc, zd | ⟨q, ze, zf⟩⟩
                     · first | exact hgt zb | omega
                     · first | exact h1 zd | exact heq zc | omega
                     · first | exact heq zc | (obtain rfl : b9 = q := (by omega); exact hl zf) | omega))
                exact ih17 _ (by omega) (k + 1) (((b9 : Nat) : Int)) (mst) (0, cmB w x k) (0, 1) rfl ⟨by omega, hcn⟩
              · skip
                have hA : ahB w k x = true := Decidable.of_not_not (fun z => ha9 (ite01.mpr z))
                refine qG.blk 2 (pc' := 94) (ls' := [(2, 61), (0, ((x : Nat) : Int)), (0, ((b9 : Nat) : Int)), (0, mst), (0, ((k : Nat) : Int)), (0, cmB w x k), (0, 1)]) (st' := [(0, mst), (0, cmB w x k)]) (w' := w) (n' := 142) rfl ?_
                refine qG.br (P := mst < cmB w x k) (pc1 := 108) (pc2 := 97) (st1 := []) rfl (fun hgt => ?_) (fun hgt => ?_)
                · skip
                  refine qG.blk 5 (pc' := 117) (ls' := [(2, 61), (0, ((x : Nat) : Int)), (0, ((k : Nat) : Int)), (0, cmB w x k), (0, wrp (((k : Nat) : Int) + 1)), (0, cmB w x k), (0, 1)]) (st' := []) (w' := w) (n' := 142) rfl ?_
                  rw [show wrp (((k : Nat) : Int) + 1) = ((k + 1 : Nat) : Int) from wrp_id (by omega) (by omega)]
                  refine qG.blk 1 (pc' := 17) (ls' := [(2, 61), (0, ((x : Nat) : Int)), (0, ((k : Nat) : Int)), (0, cmB w x k), (0, ((k + 1 : Nat) : Int)), (0, cmB w x k), (0, 1)]) (st' := []) (w' := w) (n' := 142) rfl ?_
                  have hcn : cqI w x (k + 1) ((k : Nat) : Int) (cmB w x k) := cq_upd hI17.2 hA (by first | exact .inl hgt | exact .inr ⟨heq, .inl h1⟩ | exact .inr ⟨heq, .inr ⟨b9, rfl, hl⟩⟩)
                  exact ih17 _ (by omega) (k + 1) ((k : Nat) : Int) (cmB w x k) (0, cmB w x k) (0, 1) rfl ⟨by omega, hcn⟩
                · skip
                  refine qG.blk 2 (pc' := 100) (ls' := [(2, 61), (0, ((x : Nat) : Int)), (0, ((b9 : Nat) : Int)), (0, mst), (0, ((k : Nat) : Int)), (0, cmB w x k), (0, 1)]) (st' := [(0, mst), (0, cmB w x k)]) (w' := w) (n' := 142) rfl ?_
                  refine qG.br (P := cmB w x k = mst) (pc1 := 103) (pc2 := 114) (st1 := []) rfl (fun heq => ?_) (fun heq => ?_)
                  · skip
                    refine qG.blk 1 (pc' := 105) (ls' := [(2, 61), (0, ((x : Nat) : Int)), (0, ((b9 : Nat) : Int)), (0, mst), (0, ((k : Nat) : Int)), (0, cmB w x k), (0, 1)]) (st' := [(0, 1)]) (w' := w) (n' := 142) rfl ?_
                    refine qG.br (P := (1 : Int) = 0) (pc1 := 114) (pc2 := 108) (st1 := []) rfl (fun h6 => ?_) (fun h6 => ?_)
                    · exact absurd h6 (by decide)
                    · skip
                      refine qG.blk 5 (pc' := 117) (ls' := [(2, 61), (0, ((x : Nat) : Int)), (0, ((k : Nat) : Int)), (0, cmB w x k), (0, wrp (((k : Nat) : Int) + 1)), (0, cmB w x k), (0, 1)]) (st' := []) (w' := w) (n' := 142) rfl ?_
                      rw [show wrp (((k : Nat) : Int) + 1) = ((k + 1 : Nat) : Int) from wrp_id (by omega) (by omega)]
                      refine qG.blk 1 (pc' := 17) (ls' := [(2, 61), (0, ((x : Nat) : Int)), (0, ((k : Nat) : Int)), (0, cmB w x k), (0, ((k + 1 : Nat) : Int)), (0, cmB w x k), (0, 1)]) (st' := []) (w' := w) (n' := 142) rfl ?_
                      have hcn : cqI w x (k + 1) ((k : Nat) : Int) (cmB w x k) := cq_upd hI17.2 hA (by first | exact .inl hgt | exact .inr ⟨heq, .inl h1⟩ | exact .inr ⟨heq, .inr ⟨b9, rfl, hl⟩⟩)
                      exact ih17 _ (by omega) (k + 1) ((k : Nat) : Int) (cmB w x k) (0, cmB w x k) (0, 1) rfl ⟨by omega, hcn⟩
                  · skip
                    refine qG.blk 1 (pc' := 117) (ls' := [(2, 61), (0, ((x : Nat) : Int)), (0, ((b9 : Nat) : Int)), (0, mst), (0, wrp (((k : Nat) : Int) + 1)), (0, cmB w x k), (0, 1)]) (st' := []) (w' := w) (n' := 142) rfl ?_
                    rw [show wrp (((k : Nat) : Int) + 1) = ((k + 1 : Nat) : Int) from wrp_id (by omega) (by omega)]
                    refine qG.blk 1 (pc' := 17) (ls' := [(2, 61), (0, ((x : Nat) : Int)), (0, ((b9 : Nat) : Int)), (0, mst), (0, ((k + 1 : Nat) : Int)), (0, cmB w x k), (0, 1)]) (st' := []) (w' := w) (n' := 142) rfl ?_
                    have hcn : cqI w x (k + 1) (((b9 : Nat) : Int)) (mst) := cq_keep hI17.2 (fun z => by
                      obtain ⟨za, zb⟩ := z
                      first
                      | exact hA za
                      | (rcases zb with zb | ⟨zc, zd | ⟨q, ze, zf⟩⟩
                         · first | exact hgt zb | omega
                         · first | exact h1 zd | exact heq zc | omega
                         · first | exact heq zc | (obtain rfl : b9 = q := (by omega); exact hl zf) | omega))
                    exact ih17 _ (by omega) (k + 1) (((b9 : Nat) : Int)) (mst) (0, cmB w x k) (0, 1) rfl ⟨by omega, hcn⟩
        · skip
          refine qG.blk 1 (pc' := 121) (ls' := [(2, 61), (0, ((x : Nat) : Int)), (0, bst), (0, mst), (0, ((k : Nat) : Int)), q5, q6]) (st' := [(0, bst)]) (w' := w) (n' := 142) rfl ?_
          refine qG.ret rfl rfl ?_
          subst hQ9
          exact ⟨congrArg (Prod.mk (0 : Nat)) (by unfold cpF; rw [hm, Int.toNat_natCast, hI17.2.1, show k = n by omega]), rfl, rfl⟩
      · skip
        refine qG.blk 1 (pc' := 121) (ls' := [(2, 61), (0, ((x : Nat) : Int)), (0, bst), (0, mst), (0, ((k : Nat) : Int)), q5, q6]) (st' := [(0, bst)]) (w' := w) (n' := 142) rfl ?_
        refine qG.ret rfl rfl ?_
        subst hQ9
        exact ⟨congrArg (Prod.mk (0 : Nat)) (by unfold cpF; rw [hm, Int.toNat_natCast, hI17.2.1, show k = n by omega]), rfl, rfl⟩
    exact L17 _ (0) ((-1)) (1) ((9, 0)) ((9, 0)) rfl (⟨by omega, cq_0 w x⟩)
theorem K_walkLine_1 {d : Nat} (hd : 3 ≤ d) (x : Nat) (n : Nat) (hn9 : n ≤ 20) (w : qW) (hI : yInv zgf zga zra zSp w) (hJ : JW w) (hn : w 61 2 = (n : Int)) (hm : w 95 76 = (n : Int)) (hxn : x < n) : qG none d 162 0 [(2, 61), (0, ((x : Nat) : Int)), (0, 1), (9, 0), (9, 0), (9, 0), (9, 0)] [] w 142 (fun (r : qV) (w1 : qW) (n1 : Nat) => r = (0, ((lnF w 3000 x 1).1 : Int)) ∧ w1 = w ∧ n1 = 142) := by
  generalize hQ9 : (fun (r : qV) (w1 : qW) (n1 : Nat) => r = (0, ((lnF w 3000 x 1).1 : Int)) ∧ w1 = w ∧ n1 = 142) = Q9
  obtain ⟨d, rfl⟩ : ∃ d9, d = d9 + 1 := ⟨d - 1, by omega⟩
  refine qG.blk 6 (pc' := 8) (ls' := [(2, 61), (0, ((x : Nat) : Int)), (0, 1), (0, ((x : Nat) : Int)), (0, 1), (0, 0), (9, 0)]) (st' := []) (w' := w) (n' := 142) rfl ?_
  have L8 : ∀ (m9 : Nat) (i y : Nat) (q6 : qV), 20 - i = m9 → (i + rkF w y 20 ≤ 19 ∧ y < n ∧ lnF w 3000 x 1 = lnF w (3000 - i) y (((i + 1 : Nat) : Int))) → qG none (d + 1) 162 8 [(2, 61), (0, ((x : Nat) : Int)), (0, 1), (0, ((y : Nat) : Int)), (0, ((i + 1 : Nat) : Int)), (0, ((i : Nat) : Int)), q6] [] w 142 Q9 := by
    intro m9
    induction m9 using Nat.strongRecOn with
    | ind m9 ih8 =>
    intro i y q6 hm8 hI8
    refine qG.blk 2 (pc' := 12) (ls' := [(2, 61), (0, ((x : Nat) : Int)), (0, 1), (0, ((y : Nat) : Int)), (0, ((i + 1 : Nat) : Int)), (0, ((i : Nat) : Int)), q6]) (st' := [(0, 20), (0, ((i : Nat) : Int))]) (w' := w) (n' := 142) rfl ?_
    refine qG.br (P := ((i : Nat) : Int) < 20) (pc1 := 15) (pc2 := 43) (st1 := []) rfl (fun hi20 => ?_) (fun hi20 => ?_)
    · skip
      refine qG.blk 2 (pc' := 17) (ls' := [(2, 61), (0, ((x : Nat) : Int)), (0, 1), (0, ((y : Nat) : Int)), (0, ((i + 1 : Nat) : Int)), (0, ((i : Nat) : Int)), q6]) (st' := [(0, ((y : Nat) : Int)), (2, 61)]) (w' := w) (n' := 142) rfl ?_
      refine qG.call (t := 161) (na := 2) (sk := 1) (md := 1) (ls1 := [(2, 61), (0, ((y : Nat) : Int)), (9, 0), (9, 0), (9, 0), (9, 0), (9, 0)]) (r1 := []) rfl rfl rfl rfl rfl (K_copiedFrom (by omega) y n hn9 w hI hJ hn hm (by omega)) ?_
      rintro _ w7 _ ⟨rfl, hw7, rfl⟩
      rw [hw7]
      show qG none (d + 1) 162 20 [(2, 61), (0, ((x : Nat) : Int)), (0, 1), (0, ((y : Nat) : Int)), (0, ((i + 1 : Nat) : Int)), (0, ((i : Nat) : Int)), q6] [(0, cpF w y)] w 142 Q9
      refine qG.blk 3 (pc' := 25) (ls' := [(2, 61), (0, ((x : Nat) : Int)), (0, 1), (0, ((y : Nat) : Int)), (0, ((i + 1 : Nat) : Int)), (0, ((i : Nat) : Int)), (0, cpF w y)]) (st' := [(0, (-1)), (0, cpF w y)]) (w' := w) (n' := 142) rfl ?_
      refine qG.br (P := cpF w y = (-1)) (pc1 := 28) (pc2 := 31) (st1 := []) rfl (fun hc => ?_) (fun hc => ?_)
      · skip
        refine qG.blk 2 (pc' := 44) (ls' := [(2, 61), (0, ((x : Nat) : Int)), (0, 1), (0, ((y : Nat) : Int)), (0, ((i + 1 : Nat) : Int)), (0, ((i : Nat) : Int)), (0, cpF w y)]) (st' := [(0, 1)]) (w' := w) (n' := 142) rfl ?_
        refine qG.br (P := (1 : Int) = 0) (pc1 := 51) (pc2 := 47) (st1 := []) rfl (fun h1 => ?_) (fun h1 => ?_)
        · exact absurd h1 (by decide)
        · skip
          refine qG.blk 2 (pc' := 53) (ls' := [(2, 61), (0, ((x : Nat) : Int)), (0, 1), (0, ((y : Nat) : Int)), (0, ((i + 1 : Nat) : Int)), (0, ((i : Nat) : Int)), (0, cpF w y)]) (st' := [(0, ((y : Nat) : Int))]) (w' := w) (n' := 142) rfl ?_
          refine qG.ret rfl rfl ?_
          subst hQ9
          exact ⟨congrArg (Prod.mk (0 : Nat)) (by have q9 := hI8.2.2.trans (ln_e (by omega) hc); first | (rw [q9]; done) | (rw [q9]; rfl)), rfl, rfl⟩
      · skip
        have hcp := cpF_in hI hc
        have hrk := rk_lt hcp.2.2.2 20 hcp.2.2.1
        obtain ⟨c9, hc9⟩ : ∃ q : Nat, cpF w y = (q : Int) := ⟨(cpF w y).toNat, by omega⟩
        have hcz : (cpF w y).toNat = c9 := by omega
        rw [hcz] at hrk
        have hcl : (c9 : Int) < w 95 76 := by rw [← hc9]; exact hcp.2.1
        rw [hc9]
        refine qG.blk 3 (pc' := 37) (ls' := [(2, 61), (0, ((x : Nat) : Int)), (0, 1), (0, ((c9 : Nat) : Int)), (0, wrp (((i + 1 : Nat) : Int) + 1)), (0, ((i : Nat) : Int)), (0, ((c9 : Nat) : Int))]) (st' := []) (w' := w) (n' := 142) rfl ?_
        rw [show wrp (((i + 1 : Nat) : Int) + 1) = ((i + 1 + 1 : Nat) : Int) from wrp_id (by omega) (by omega)]
        refine qG.blk 1 (pc' := 40) (ls' := [(2, 61), (0, ((x : Nat) : Int)), (0, 1), (0, ((c9 : Nat) : Int)), (0, ((i + 1 + 1 : Nat) : Int)), (0, wrp (((i : Nat) : Int) + 1)), (0, ((c9 : Nat) : Int))]) (st' := []) (w' := w) (n' := 142) rfl ?_
        rw [show wrp (((i : Nat) : Int) + 1) = ((i + 1 : Nat) : Int) from wrp_id (by omega) (by omega)]
        refine qG.blk 1 (pc' := 8) (ls' := [(2, 61), (0, ((x : Nat) : Int)), (0, 1), (0, ((c9 : Nat) : Int)), (0, ((i + 1 + 1 : Nat) : Int)), (0, ((i + 1 : Nat) : Int)), (0, ((c9 : Nat) : Int))]) (st' := []) (w' := w) (n' := 142) rfl ?_
        exact ih8 _ (by omega) (i + 1) c9 (0, ((c9 : Nat) : Int)) rfl ⟨by omega, by omega, by rw [hI8.2.2, ln_s (by omega) hc, hcz, show (((i + 1 : Nat) : Int) + 1) = ((i + 1 + 1 : Nat) : Int) from by omega]⟩
    · exfalso; omega
  exact L8 _ (0) (x) ((9, 0)) rfl (⟨by have := rk_y (w := w) (y := x) 20 (by omega); omega, by omega, by rw [show ((0 + 1 : Nat) : Int) = 1 from rfl, Nat.sub_zero]⟩)
theorem K_walkLine_0 {d : Nat} (hd : 3 ≤ d) (x : Nat) (n : Nat) (hn9 : n ≤ 20) (w : qW) (hI : yInv zgf zga zra zSp w) (hJ : JW w) (hn : w 61 2 = (n : Int)) (hm : w 95 76 = (n : Int)) (hxn : x < n) : qG none d 162 0 [(2, 61), (0, ((x : Nat) : Int)), (0, 0), (9, 0), (9, 0), (9, 0), (9, 0)] [] w 142 (fun (r : qV) (w1 : qW) (n1 : Nat) => r = (0, (lnF w 3000 x 1).2) ∧ w1 = w ∧ n1 = 142) := by
  generalize hQ9 : (fun (r : qV) (w1 : qW) (n1 : Nat) => r = (0, (lnF w 3000 x 1).2) ∧ w1 = w ∧ n1 = 142) = Q9
  obtain ⟨d, rfl⟩ : ∃ d9, d = d9 + 1 := ⟨d - 1, by omega⟩
  refine qG.blk 6 (pc' := 8) (ls' := [(2, 61), (0, ((x : Nat) : Int)), (0, 0), (0, ((x : Nat) : Int)), (0, 1), (0, 0), (9, 0)]) (st' := []) (w' := w) (n' := 142) rfl ?_
  have L8 : ∀ (m9 : Nat) (i y : Nat) (q6 : qV), 20 - i = m9 → (i + rkF w y 20 ≤ 19 ∧ y < n ∧ lnF w 3000 x 1 = lnF w (3000 - i) y (((i + 1 : Nat) : Int))) → qG none (d + 1) 162 8 [(2, 61), (0, ((x : Nat) : Int)), (0, 0), (0, ((y : Nat) : Int)), (0, ((i + 1 : Nat) : Int)), (0, ((i : Nat) : Int)), q6] [] w 142 Q9 := by
    intro m9
    induction m9 using Nat.strongRecOn with
    | ind m9 ih8 =>
    intro i y q6 hm8 hI8
    refine qG.blk 2 (pc' := 12) (ls' := [(2, 61), (0, ((x : Nat) : Int)), (0, 0), (0, ((y : Nat) : Int)), (0, ((i + 1 : Nat) : Int)), (0, ((i : Nat) : Int)), q6]) (st' := [(0, 20), (0, ((i : Nat) : Int))]) (w' := w) (n' := 142) rfl ?_
    refine qG.br (P := ((i : Nat) : Int) < 20) (pc1 := 15) (pc2 := 43) (st1 := []) rfl (fun hi20 => ?_) (fun hi20 => ?_)
    · skip
      refine qG.blk 2 (pc' := 17) (ls' := [(2, 61), (0, ((x : Nat) : Int)), (0, 0), (0, ((y : Nat) : Int)), (0, ((i + 1 : Nat) : Int)), (0, ((i : Nat) : Int)), q6]) (st' := [(0, ((y : Nat) : Int)), (2, 61)]) (w' := w) (n' := 142) rfl ?_
      refine qG.call (t := 161) (na := 2) (sk := 1) (md := 1) (ls1 := [(2, 61), (0, ((y : Nat) : Int)), (9, 0), (9, 0), (9, 0), (9, 0), (9, 0)]) (r1 := []) rfl rfl rfl rfl rfl (K_copiedFrom (by omega) y n hn9 w hI hJ hn hm (by omega)) ?_
      rintro _ w7 _ ⟨rfl, hw7, rfl⟩
      rw [hw7]
      show qG none (d + 1) 162 20 [(2, 61), (0, ((x : Nat) : Int)), (0, 0), (0, ((y : Nat) : Int)), (0, ((i + 1 : Nat) : Int)), (0, ((i : Nat) : Int)), q6] [(0, cpF w y)] w 142 Q9
      refine qG.blk 3 (pc' := 25) (ls' := [(2, 61), (0, ((x : Nat) : Int)), (0, 0), (0, ((y : Nat) : Int)), (0, ((i + 1 : Nat) : Int)), (0, ((i : Nat) : Int)), (0, cpF w y)]) (st' := [(0, (-1)), (0, cpF w y)]) (w' := w) (n' := 142) rfl ?_
      refine qG.br (P := cpF w y = (-1)) (pc1 := 28) (pc2 := 31) (st1 := []) rfl (fun hc => ?_) (fun hc => ?_)
      · skip
        refine qG.blk 2 (pc' := 44) (ls' := [(2, 61), (0, ((x : Nat) : Int)), (0, 0), (0, ((y : Nat) : Int)), (0, ((i + 1 : Nat) : Int)), (0, ((i : Nat) : Int)), (0, cpF w y)]) (st' := [(0, 0)]) (w' := w) (n' := 142) rfl ?_
        refine qG.br (P := (0 : Int) = 0) (pc1 := 51) (pc2 := 47) (st1 := []) rfl (fun h1 => ?_) (fun h1 => ?_)
        · skip
          refine qG.blk 1 (pc' := 53) (ls' := [(2, 61), (0, ((x : Nat) : Int)), (0, 0), (0, ((y : Nat) : Int)), (0, ((i + 1 : Nat) : Int)), (0, ((i : Nat) : Int)), (0, cpF w y)]) (st' := [(0, ((i + 1 : Nat) : Int))]) (w' := w) (n' := 142) rfl ?_
          refine qG.ret rfl rfl ?_
          subst hQ9
          exact ⟨congrArg (Prod.mk (0 : Nat)) (by have q9 := hI8.2.2.trans (ln_e (by omega) hc); first | (rw [q9]; done) | (rw [q9]; rfl)), rfl, rfl⟩
        · exact absurd h1 (by decide)
      · skip
        have hcp := cpF_in hI hc
        have hrk := rk_lt hcp.2.2.2 20 hcp.2.2.1
        obtain ⟨c9, hc9⟩ : ∃ q : Nat, cpF w y = (q : Int) := ⟨(cpF w y).toNat, by omega⟩
        have hcz : (cpF w y).toNat = c9 := by omega
        rw [hcz] at hrk
        have hcl : (c9 : Int) < w 95 76 := by rw [← hc9]; exact hcp.2.1
        rw [hc9]
        refine qG.blk 3 (pc' := 37) (ls' := [(2, 61), (0, ((x : Nat) : Int)), (0, 0), (0, ((c9 : Nat) : Int)), (0, wrp (((i + 1 : Nat) : Int) + 1)), (0, ((i : Nat) : Int)), (0, ((c9 : Nat) : Int))]) (st' := []) (w' := w) (n' := 142) rfl ?_
        rw [show wrp (((i + 1 : Nat) : Int) + 1) = ((i + 1 + 1 : Nat) : Int) from wrp_id (by omega) (by omega)]
        refine qG.blk 1 (pc' := 40) (ls' := [(2, 61), (0, ((x : Nat) : Int)), (0, 0), (0, ((c9 : Nat) : Int)), (0, ((i + 1 + 1 : Nat) : Int)), (0, wrp (((i : Nat) : Int) + 1)), (0, ((c9 : Nat) : Int))]) (st' := []) (w' := w) (n' := 142) rfl ?_
        rw [show wrp (((i : Nat) : Int) + 1) = ((i + 1 : Nat) : Int) from wrp_id (by omega) (by omega)]
        refine qG.blk 1 (pc' := 8) (ls' := [(2, 61), (0, ((x : Nat) : Int)), (0, 0), (0, ((c9 : Nat) : Int)), (0, ((i + 1 + 1 : Nat) : Int)), (0, ((i + 1 : Nat) : Int)), (0, ((c9 : Nat) : Int))]) (st' := []) (w' := w) (n' := 142) rfl ?_
        exact ih8 _ (by omega) (i + 1) c9 (0, ((c9 : Nat) : Int)) rfl ⟨by omega, by omega, by rw [hI8.2.2, ln_s (by omega) hc, hcz, show (((i + 1 : Nat) : Int) + 1) = ((i + 1 + 1 : Nat) : Int) from by omega]⟩
    · exfalso; omega
  exact L8 _ (0) (x) ((9, 0)) rfl (⟨by have := rk_y (w := w) (y := x) 20 (by omega); omega, by omega, by rw [show ((0 + 1 : Nat) : Int) = 1 from rfl, Nat.sub_zero]⟩)
theorem K_X10_factOf_0 {d : Nat} (hd : 4 ≤ d) (x : Nat) (n : Nat) (hn9 : n ≤ 20) (w : qW) (hI : yInv zgf zga zra zSp w) (hJ : JW w) (hn : w 61 2 = (n : Int)) (hm : w 95 76 = (n : Int)) (hxn : x < n) : qG none d 158 0 [(2, 61), (0, ((x : Nat) : Int)), (0, 0)] [] w 142 (fun (r : qV) (w1 : qW) (n1 : Nat) => r = (0, stF w x 0) ∧ w1 = w ∧ n1 = 142) := by
  generalize hQ9 : (fun (r : qV) (w1 : qW) (n1 : Nat) => r = (0, stF w x 0) ∧ w1 = w ∧ n1 = 142) = Q9
  obtain ⟨d, rfl⟩ : ∃ d9, d = d9 + 1 := ⟨d - 1, by omega⟩
  refine qG.blk 2 (pc' := 2) (ls' := [(2, 61), (0, ((x : Nat) : Int)), (0, 0)]) (st' := [(0, ((x : Nat) : Int)), (2, 61)]) (w' := w) (n' := 142) rfl ?_
  refine qG.call (t := 159) (na := 2) (sk := 1) (md := 1) (ls1 := [(2, 61), (0, ((x : Nat) : Int))]) (r1 := []) rfl rfl rfl rfl rfl (K_isWriter (by omega) x n hn9 w hI hn (by omega)) ?_
  rintro _ w7 _ ⟨rfl, hw7, rfl⟩
  rw [hw7]
  show qG none (d + 1) 158 5 [(2, 61), (0, ((x : Nat) : Int)), (0, 0)] [(0, 1)] w 142 Q9
  refine qG.br (P := (1 : Int) = 0) (pc1 := 8) (pc2 := 10) (st1 := []) rfl (fun h1 => ?_) (fun h1 => ?_)
  · exact absurd h1 (by decide)
  · skip
    refine qG.blk 4 (pc' := 48) (ls' := [(2, 61), (0, ((x : Nat) : Int)), (0, 0)]) (st' := [(2, w 61 1)]) (w' := w) (n' := 142) rfl ?_
    rw [show w 61 1 = 63 from zref hI rfl rfl]
    refine qG.blk 1 (pc' := 49) (ls' := [(2, 61), (0, ((x : Nat) : Int)), (0, 0)]) (st' := [(0, ((x : Nat) : Int)), (2, 63)]) (w' := w) (n' := 142) rfl ?_
    refine qG.ar (P := 0 ≤ ((x : Nat) : Int) ∧ ((x : Nat) : Int) < ((20 : Nat) : Int)) (P2 := 0 < (63 : Int) ∧ (63 : Int) ≤ ((142 : Nat) : Int)) (pc' := 50) (ls' := [(2, 61), (0, ((x : Nat) : Int)), (0, 0)]) (st' := [(0, w 63 x)]) (w' := w) (n' := 142) rfl (by omega) (by decide) ?_
    rw [show w 63 x = w 142 x from hJ.2.2.2 _]
    refine qG.blk 2 (pc' := 54) (ls' := [(2, 61), (0, ((x : Nat) : Int)), (0, 0)]) (st' := [(0, w 61 3), (0, w 142 x)]) (w' := w) (n' := 142) rfl ?_
    rw [show w 61 3 = w 95 77 from hJ.2.1]
    refine qG.blk 1 (pc' := 55) (ls' := [(2, 61), (0, ((x : Nat) : Int)), (0, 0)]) (st' := [(0, qand (w 142 x) (w 95 77))]) (w' := w) (n' := 142) rfl ?_
    refine qG.call (t := 302) (na := 1) (sk := 0) (md := 0) (ls1 := [(0, qand (w 142 x) (w 95 77))]) (r1 := []) rfl rfl rfl rfl rfl (K_bcJ (by omega) (qand (w 142 x) (w 95 77)) (cl_in1 hI x (w 95 77)).1 (cl_in1 hI x (w 95 77)).2 w) ?_
    rintro _ w7 _ ⟨rfl, hw7, rfl⟩
    rw [hw7]
    show qG none (d + 1) 158 58 [(2, 61), (0, ((x : Nat) : Int)), (0, 0)] [(0, bitsF (qand (w 142 x) (w 95 77)) 30)] w 142 Q9
    refine qG.ret rfl rfl ?_
    subst hQ9
    exact ⟨rfl, rfl, rfl⟩
theorem K_X11_story_0 {d : Nat} (hd : 5 ≤ d) (x : Nat) (n : Nat) (hn9 : n ≤ 20) (w : qW) (hI : yInv zgf zga zra zSp w) (hJ : JW w) (hn : w 61 2 = (n : Int)) (hm : w 95 76 = (n : Int)) (hxn : x < n) : qG none d 197 0 [(2, 1), (0, ((x : Nat) : Int)), (0, 0)] [] w 142 (fun (r : qV) (_ : qW) (_ : Nat) => r = (0, stF w x 0)) := by
  generalize hQ9 : (fun (r : qV) (_ : qW) (_ : Nat) => r = (0, stF w x 0)) = Q9
  obtain ⟨d, rfl⟩ : ∃ d9, d = d9 + 1 := ⟨d - 1, by omega⟩
  refine qG.blk 2 (pc' := 4) (ls' := [(2, 1), (0, ((x : Nat) : Int)), (0, 0)]) (st' := [(2, w 1 9)]) (w' := w) (n' := 142) rfl ?_
  rw [show w 1 9 = 61 from zref hI rfl rfl]
  refine qG.blk 2 (pc' := 6) (ls' := [(2, 1), (0, ((x : Nat) : Int)), (0, 0)]) (st' := [(0, 0), (0, ((x : Nat) : Int)), (2, 61)]) (w' := w) (n' := 142) rfl ?_
  refine qG.call (t := 158) (na := 3) (sk := 1) (md := 1) (ls1 := [(2, 61), (0, ((x : Nat) : Int)), (0, 0)]) (r1 := []) rfl rfl rfl rfl rfl (K_X10_factOf_0 (by omega) x n hn9 w hI hJ hn hm (by omega)) ?_
  rintro _ w7 _ ⟨rfl, hw7, rfl⟩
  rw [hw7]
  show qG none (d + 1) 197 9 [(2, 1), (0, ((x : Nat) : Int)), (0, 0)] [(0, stF w x 0)] w 142 Q9
  refine qG.ret rfl rfl ?_
  subst hQ9
  exact rfl
theorem K_X10_factOf_1 {d : Nat} (hd : 4 ≤ d) (x : Nat) (n : Nat) (hn9 : n ≤ 20) (w : qW) (hI : yInv zgf zga zra zSp w) (hJ : JW w) (hn : w 61 2 = (n : Int)) (hm : w 95 76 = (n : Int)) (hxn : x < n) : qG none d 158 0 [(2, 61), (0, ((x : Nat) : Int)), (0, 1)] [] w 142 (fun (r : qV) (w1 : qW) (n1 : Nat) => r = (0, stF w x 1) ∧ w1 = w ∧ n1 = 142) := by
  generalize hQ9 : (fun (r : qV) (w1 : qW) (n1 : Nat) => r = (0, stF w x 1) ∧ w1 = w ∧ n1 = 142) = Q9
  obtain ⟨d, rfl⟩ : ∃ d9, d = d9 + 1 := ⟨d - 1, by omega⟩
  refine qG.blk 2 (pc' := 2) (ls' := [(2, 61), (0, ((x : Nat) : Int)), (0, 1)]) (st' := [(0, ((x : Nat) : Int)), (2, 61)]) (w' := w) (n' := 142) rfl ?_
  refine qG.call (t := 159) (na := 2) (sk := 1) (md := 1) (ls1 := [(2, 61), (0, ((x : Nat) : Int))]) (r1 := []) rfl rfl rfl rfl rfl (K_isWriter (by omega) x n hn9 w hI hn (by omega)) ?_
  rintro _ w7 _ ⟨rfl, hw7, rfl⟩
  rw [hw7]
  show qG none (d + 1) 158 5 [(2, 61), (0, ((x : Nat) : Int)), (0, 1)] [(0, 1)] w 142 Q9
  refine qG.br (P := (1 : Int) = 0) (pc1 := 8) (pc2 := 10) (st1 := []) rfl (fun h1 => ?_) (fun h1 => ?_)
  · exact absurd h1 (by decide)
  · skip
    refine qG.blk 4 (pc' := 63) (ls' := [(2, 61), (0, ((x : Nat) : Int)), (0, 1)]) (st' := [(2, w 61 1)]) (w' := w) (n' := 142) rfl ?_
    rw [show w 61 1 = 63 from zref hI rfl rfl]
    refine qG.blk 1 (pc' := 64) (ls' := [(2, 61), (0, ((x : Nat) : Int)), (0, 1)]) (st' := [(0, ((x : Nat) : Int)), (2, 63)]) (w' := w) (n' := 142) rfl ?_
    refine qG.ar (P := 0 ≤ ((x : Nat) : Int) ∧ ((x : Nat) : Int) < ((20 : Nat) : Int)) (P2 := 0 < (63 : Int) ∧ (63 : Int) ≤ ((142 : Nat) : Int)) (pc' := 65) (ls' := [(2, 61), (0, ((x : Nat) : Int)), (0, 1)]) (st' := [(0, w 63 x)]) (w' := w) (n' := 142) rfl (by omega) (by decide) ?_
    rw [show w 63 x = w 142 x from hJ.2.2.2 _]
    refine qG.blk 2 (pc' := 69) (ls' := [(2, 61), (0, ((x : Nat) : Int)), (0, 1)]) (st' := [(0, w 61 3), (0, w 142 x)]) (w' := w) (n' := 142) rfl ?_
    rw [show w 61 3 = w 95 77 from hJ.2.1]
    refine qG.blk 3 (pc' := 72) (ls' := [(2, 61), (0, ((x : Nat) : Int)), (0, 1)]) (st' := [(0, qand (w 142 x) (qxor (w 95 77) (-1)))]) (w' := w) (n' := 142) rfl ?_
    refine qG.call (t := 302) (na := 1) (sk := 0) (md := 0) (ls1 := [(0, qand (w 142 x) (qxor (w 95 77) (-1)))]) (r1 := []) rfl rfl rfl rfl rfl (K_bcJ (by omega) (qand (w 142 x) (qxor (w 95 77) (-1))) (cl_in1 hI x (qxor (w 95 77) (-1))).1 (cl_in1 hI x (qxor (w 95 77) (-1))).2 w) ?_
    rintro _ w7 _ ⟨rfl, hw7, rfl⟩
    rw [hw7]
    show qG none (d + 1) 158 75 [(2, 61), (0, ((x : Nat) : Int)), (0, 1)] [(0, bitsF (qand (w 142 x) (qxor (w 95 77) (-1))) 30)] w 142 Q9
    refine qG.ret rfl rfl ?_
    subst hQ9
    exact ⟨rfl, rfl, rfl⟩
theorem K_X11_story_1 {d : Nat} (hd : 5 ≤ d) (x : Nat) (n : Nat) (hn9 : n ≤ 20) (w : qW) (hI : yInv zgf zga zra zSp w) (hJ : JW w) (hn : w 61 2 = (n : Int)) (hm : w 95 76 = (n : Int)) (hxn : x < n) : qG none d 197 0 [(2, 1), (0, ((x : Nat) : Int)), (0, 1)] [] w 142 (fun (r : qV) (_ : qW) (_ : Nat) => r = (0, stF w x 1)) := by
  generalize hQ9 : (fun (r : qV) (_ : qW) (_ : Nat) => r = (0, stF w x 1)) = Q9
  obtain ⟨d, rfl⟩ : ∃ d9, d = d9 + 1 := ⟨d - 1, by omega⟩
  refine qG.blk 2 (pc' := 4) (ls' := [(2, 1), (0, ((x : Nat) : Int)), (0, 1)]) (st' := [(2, w 1 9)]) (w' := w) (n' := 142) rfl ?_
  rw [show w 1 9 = 61 from zref hI rfl rfl]
  refine qG.blk 2 (pc' := 6) (ls' := [(2, 1), (0, ((x : Nat) : Int)), (0, 1)]) (st' := [(0, 1), (0, ((x : Nat) : Int)), (2, 61)]) (w' := w) (n' := 142) rfl ?_
  refine qG.call (t := 158) (na := 3) (sk := 1) (md := 1) (ls1 := [(2, 61), (0, ((x : Nat) : Int)), (0, 1)]) (r1 := []) rfl rfl rfl rfl rfl (K_X10_factOf_1 (by omega) x n hn9 w hI hJ hn hm (by omega)) ?_
  rintro _ w7 _ ⟨rfl, hw7, rfl⟩
  rw [hw7]
  show qG none (d + 1) 197 9 [(2, 1), (0, ((x : Nat) : Int)), (0, 1)] [(0, stF w x 1)] w 142 Q9
  refine qG.ret rfl rfl ?_
  subst hQ9
  exact rfl
theorem K_X10_factOf_2 {d : Nat} (hd : 4 ≤ d) (x : Nat) (n : Nat) (hn9 : n ≤ 20) (w : qW) (hI : yInv zgf zga zra zSp w) (hJ : JW w) (hn : w 61 2 = (n : Int)) (hm : w 95 76 = (n : Int)) (hxn : x < n) : qG none d 158 0 [(2, 61), (0, ((x : Nat) : Int)), (0, 2)] [] w 142 (fun (r : qV) (w1 : qW) (n1 : Nat) => r = (0, stF w x 2) ∧ w1 = w ∧ n1 = 142) := by
  generalize hQ9 : (fun (r : qV) (w1 : qW) (n1 : Nat) => r = (0, stF w x 2) ∧ w1 = w ∧ n1 = 142) = Q9
  obtain ⟨d, rfl⟩ : ∃ d9, d = d9 + 1 := ⟨d - 1, by omega⟩
  refine qG.blk 2 (pc' := 2) (ls' := [(2, 61), (0, ((x : Nat) : Int)), (0, 2)]) (st' := [(0, ((x : Nat) : Int)), (2, 61)]) (w' := w) (n' := 142) rfl ?_
  refine qG.call (t := 159) (na := 2) (sk := 1) (md := 1) (ls1 := [(2, 61), (0, ((x : Nat) : Int))]) (r1 := []) rfl rfl rfl rfl rfl (K_isWriter (by omega) x n hn9 w hI hn (by omega)) ?_
  rintro _ w7 _ ⟨rfl, hw7, rfl⟩
  rw [hw7]
  show qG none (d + 1) 158 5 [(2, 61), (0, ((x : Nat) : Int)), (0, 2)] [(0, 1)] w 142 Q9
  refine qG.br (P := (1 : Int) = 0) (pc1 := 8) (pc2 := 10) (st1 := []) rfl (fun h1 => ?_) (fun h1 => ?_)
  · exact absurd h1 (by decide)
  · skip
    refine qG.blk 4 (pc' := 78) (ls' := [(2, 61), (0, ((x : Nat) : Int)), (0, 2)]) (st' := [(0, ((x : Nat) : Int)), (2, 61)]) (w' := w) (n' := 142) rfl ?_
    refine qG.call (t := 161) (na := 2) (sk := 1) (md := 1) (ls1 := [(2, 61), (0, ((x : Nat) : Int)), (9, 0), (9, 0), (9, 0), (9, 0), (9, 0)]) (r1 := []) rfl rfl rfl rfl rfl (K_copiedFrom (by omega) x n hn9 w hI hJ hn hm (by omega)) ?_
    rintro _ w7 _ ⟨rfl, hw7, rfl⟩
    rw [hw7]
    show qG none (d + 1) 158 81 [(2, 61), (0, ((x : Nat) : Int)), (0, 2)] [(0, cpF w x)] w 142 Q9
    refine qG.ret rfl rfl ?_
    subst hQ9
    exact ⟨rfl, rfl, rfl⟩
theorem K_X11_story_2 {d : Nat} (hd : 5 ≤ d) (x : Nat) (n : Nat) (hn9 : n ≤ 20) (w : qW) (hI : yInv zgf zga zra zSp w) (hJ : JW w) (hn : w 61 2 = (n : Int)) (hm : w 95 76 = (n : Int)) (hxn : x < n) : qG none d 197 0 [(2, 1), (0, ((x : Nat) : Int)), (0, 2)] [] w 142 (fun (r : qV) (_ : qW) (_ : Nat) => r = (0, stF w x 2)) := by
  generalize hQ9 : (fun (r : qV) (_ : qW) (_ : Nat) => r = (0, stF w x 2)) = Q9
  obtain ⟨d, rfl⟩ : ∃ d9, d = d9 + 1 := ⟨d - 1, by omega⟩
  refine qG.blk 2 (pc' := 4) (ls' := [(2, 1), (0, ((x : Nat) : Int)), (0, 2)]) (st' := [(2, w 1 9)]) (w' := w) (n' := 142) rfl ?_
  rw [show w 1 9 = 61 from zref hI rfl rfl]
  refine qG.blk 2 (pc' := 6) (ls' := [(2, 1), (0, ((x : Nat) : Int)), (0, 2)]) (st' := [(0, 2), (0, ((x : Nat) : Int)), (2, 61)]) (w' := w) (n' := 142) rfl ?_
  refine qG.call (t := 158) (na := 3) (sk := 1) (md := 1) (ls1 := [(2, 61), (0, ((x : Nat) : Int)), (0, 2)]) (r1 := []) rfl rfl rfl rfl rfl (K_X10_factOf_2 (by omega) x n hn9 w hI hJ hn hm (by omega)) ?_
  rintro _ w7 _ ⟨rfl, hw7, rfl⟩
  rw [hw7]
  show qG none (d + 1) 197 9 [(2, 1), (0, ((x : Nat) : Int)), (0, 2)] [(0, stF w x 2)] w 142 Q9
  refine qG.ret rfl rfl ?_
  subst hQ9
  exact rfl
theorem K_X10_factOf_3 {d : Nat} (hd : 4 ≤ d) (x : Nat) (n : Nat) (hn9 : n ≤ 20) (w : qW) (hI : yInv zgf zga zra zSp w) (hJ : JW w) (hn : w 61 2 = (n : Int)) (hm : w 95 76 = (n : Int)) (hxn : x < n) : qG none d 158 0 [(2, 61), (0, ((x : Nat) : Int)), (0, 3)] [] w 142 (fun (r : qV) (w1 : qW) (n1 : Nat) => r = (0, stF w x 3) ∧ w1 = w ∧ n1 = 142) := by
  generalize hQ9 : (fun (r : qV) (w1 : qW) (n1 : Nat) => r = (0, stF w x 3) ∧ w1 = w ∧ n1 = 142) = Q9
  obtain ⟨d, rfl⟩ : ∃ d9, d = d9 + 1 := ⟨d - 1, by omega⟩
  refine qG.blk 2 (pc' := 2) (ls' := [(2, 61), (0, ((x : Nat) : Int)), (0, 3)]) (st' := [(0, ((x : Nat) : Int)), (2, 61)]) (w' := w) (n' := 142) rfl ?_
  refine qG.call (t := 159) (na := 2) (sk := 1) (md := 1) (ls1 := [(2, 61), (0, ((x : Nat) : Int))]) (r1 := []) rfl rfl rfl rfl rfl (K_isWriter (by omega) x n hn9 w hI hn (by omega)) ?_
  rintro _ w7 _ ⟨rfl, hw7, rfl⟩
  rw [hw7]
  show qG none (d + 1) 158 5 [(2, 61), (0, ((x : Nat) : Int)), (0, 3)] [(0, 1)] w 142 Q9
  refine qG.br (P := (1 : Int) = 0) (pc1 := 8) (pc2 := 10) (st1 := []) rfl (fun h1 => ?_) (fun h1 => ?_)
  · exact absurd h1 (by decide)
  · skip
    refine qG.blk 5 (pc' := 85) (ls' := [(2, 61), (0, ((x : Nat) : Int)), (0, 3)]) (st' := [(0, 1), (0, ((x : Nat) : Int)), (2, 61)]) (w' := w) (n' := 142) rfl ?_
    refine qG.call (t := 162) (na := 3) (sk := 1) (md := 1) (ls1 := [(2, 61), (0, ((x : Nat) : Int)), (0, 1), (9, 0), (9, 0), (9, 0), (9, 0)]) (r1 := []) rfl rfl rfl rfl rfl (K_walkLine_1 (by omega) x n hn9 w hI hJ hn hm (by omega)) ?_
    rintro _ w7 _ ⟨rfl, hw7, rfl⟩
    rw [hw7]
    show qG none (d + 1) 158 88 [(2, 61), (0, ((x : Nat) : Int)), (0, 3)] [(0, ((lnF w 3000 x 1).1 : Int))] w 142 Q9
    refine qG.ret rfl rfl ?_
    subst hQ9
    exact ⟨rfl, rfl, rfl⟩
theorem K_X11_story_3 {d : Nat} (hd : 5 ≤ d) (x : Nat) (n : Nat) (hn9 : n ≤ 20) (w : qW) (hI : yInv zgf zga zra zSp w) (hJ : JW w) (hn : w 61 2 = (n : Int)) (hm : w 95 76 = (n : Int)) (hxn : x < n) : qG none d 197 0 [(2, 1), (0, ((x : Nat) : Int)), (0, 3)] [] w 142 (fun (r : qV) (_ : qW) (_ : Nat) => r = (0, stF w x 3)) := by
  generalize hQ9 : (fun (r : qV) (_ : qW) (_ : Nat) => r = (0, stF w x 3)) = Q9
  obtain ⟨d, rfl⟩ : ∃ d9, d = d9 + 1 := ⟨d - 1, by omega⟩
  refine qG.blk 2 (pc' := 4) (ls' := [(2, 1), (0, ((x : Nat) : Int)), (0, 3)]) (st' := [(2, w 1 9)]) (w' := w) (n' := 142) rfl ?_
  rw [show w 1 9 = 61 from zref hI rfl rfl]
  refine qG.blk 2 (pc' := 6) (ls' := [(2, 1), (0, ((x : Nat) : Int)), (0, 3)]) (st' := [(0, 3), (0, ((x : Nat) : Int)), (2, 61)]) (w' := w) (n' := 142) rfl ?_
  refine qG.call (t := 158) (na := 3) (sk := 1) (md := 1) (ls1 := [(2, 61), (0, ((x : Nat) : Int)), (0, 3)]) (r1 := []) rfl rfl rfl rfl rfl (K_X10_factOf_3 (by omega) x n hn9 w hI hJ hn hm (by omega)) ?_
  rintro _ w7 _ ⟨rfl, hw7, rfl⟩
  rw [hw7]
  show qG none (d + 1) 197 9 [(2, 1), (0, ((x : Nat) : Int)), (0, 3)] [(0, stF w x 3)] w 142 Q9
  refine qG.ret rfl rfl ?_
  subst hQ9
  exact rfl
theorem K_X10_factOf_4 {d : Nat} (hd : 4 ≤ d) (x : Nat) (n : Nat) (hn9 : n ≤ 20) (w : qW) (hI : yInv zgf zga zra zSp w) (hJ : JW w) (hn : w 61 2 = (n : Int)) (hm : w 95 76 = (n : Int)) (hxn : x < n) : qG none d 158 0 [(2, 61), (0, ((x : Nat) : Int)), (0, 4)] [] w 142 (fun (r : qV) (w1 : qW) (n1 : Nat) => r = (0, stF w x 4) ∧ w1 = w ∧ n1 = 142) := by
  generalize hQ9 : (fun (r : qV) (w1 : qW) (n1 : Nat) => r = (0, stF w x 4) ∧ w1 = w ∧ n1 = 142) = Q9
  obtain ⟨d, rfl⟩ : ∃ d9, d = d9 + 1 := ⟨d - 1, by omega⟩
  refine qG.blk 2 (pc' := 2) (ls' := [(2, 61), (0, ((x : Nat) : Int)), (0, 4)]) (st' := [(0, ((x : Nat) : Int)), (2, 61)]) (w' := w) (n' := 142) rfl ?_
  refine qG.call (t := 159) (na := 2) (sk := 1) (md := 1) (ls1 := [(2, 61), (0, ((x : Nat) : Int))]) (r1 := []) rfl rfl rfl rfl rfl (K_isWriter (by omega) x n hn9 w hI hn (by omega)) ?_
  rintro _ w7 _ ⟨rfl, hw7, rfl⟩
  rw [hw7]
  show qG none (d + 1) 158 5 [(2, 61), (0, ((x : Nat) : Int)), (0, 4)] [(0, 1)] w 142 Q9
  refine qG.br (P := (1 : Int) = 0) (pc1 := 8) (pc2 := 10) (st1 := []) rfl (fun h1 => ?_) (fun h1 => ?_)
  · exact absurd h1 (by decide)
  · skip
    refine qG.blk 5 (pc' := 92) (ls' := [(2, 61), (0, ((x : Nat) : Int)), (0, 4)]) (st' := [(0, 0), (0, ((x : Nat) : Int)), (2, 61)]) (w' := w) (n' := 142) rfl ?_
    refine qG.call (t := 162) (na := 3) (sk := 1) (md := 1) (ls1 := [(2, 61), (0, ((x : Nat) : Int)), (0, 0), (9, 0), (9, 0), (9, 0), (9, 0)]) (r1 := []) rfl rfl rfl rfl rfl (K_walkLine_0 (by omega) x n hn9 w hI hJ hn hm (by omega)) ?_
    rintro _ w7 _ ⟨rfl, hw7, rfl⟩
    rw [hw7]
    show qG none (d + 1) 158 95 [(2, 61), (0, ((x : Nat) : Int)), (0, 4)] [(0, (lnF w 3000 x 1).2)] w 142 Q9
    refine qG.ret rfl rfl ?_
    subst hQ9
    exact ⟨rfl, rfl, rfl⟩
theorem K_X11_story_4 {d : Nat} (hd : 5 ≤ d) (x : Nat) (n : Nat) (hn9 : n ≤ 20) (w : qW) (hI : yInv zgf zga zra zSp w) (hJ : JW w) (hn : w 61 2 = (n : Int)) (hm : w 95 76 = (n : Int)) (hxn : x < n) : qG none d 197 0 [(2, 1), (0, ((x : Nat) : Int)), (0, 4)] [] w 142 (fun (r : qV) (_ : qW) (_ : Nat) => r = (0, stF w x 4)) := by
  generalize hQ9 : (fun (r : qV) (_ : qW) (_ : Nat) => r = (0, stF w x 4)) = Q9
  obtain ⟨d, rfl⟩ : ∃ d9, d = d9 + 1 := ⟨d - 1, by omega⟩
  refine qG.blk 2 (pc' := 4) (ls' := [(2, 1), (0, ((x : Nat) : Int)), (0, 4)]) (st' := [(2, w 1 9)]) (w' := w) (n' := 142) rfl ?_
  rw [show w 1 9 = 61 from zref hI rfl rfl]
  refine qG.blk 2 (pc' := 6) (ls' := [(2, 1), (0, ((x : Nat) : Int)), (0, 4)]) (st' := [(0, 4), (0, ((x : Nat) : Int)), (2, 61)]) (w' := w) (n' := 142) rfl ?_
  refine qG.call (t := 158) (na := 3) (sk := 1) (md := 1) (ls1 := [(2, 61), (0, ((x : Nat) : Int)), (0, 4)]) (r1 := []) rfl rfl rfl rfl rfl (K_X10_factOf_4 (by omega) x n hn9 w hI hJ hn hm (by omega)) ?_
  rintro _ w7 _ ⟨rfl, hw7, rfl⟩
  rw [hw7]
  show qG none (d + 1) 197 9 [(2, 1), (0, ((x : Nat) : Int)), (0, 4)] [(0, stF w x 4)] w 142 Q9
  refine qG.ret rfl rfl ?_
  subst hQ9
  exact rfl
theorem K_isWriterN {d : Nat} (hd : 0 ≤ d) (a : Int) (n : Nat) (hn9 : n ≤ 20) (w : qW) (hI : yInv zgf zga zra zSp w) (hn : w 61 2 = (n : Int)) (ha : ¬ (0 ≤ a ∧ a < (n : Int))) : qG none d 159 0 [(2, 61), (0, a)] [] w 142 (fun (r : qV) (w1 : qW) (n1 : Nat) => r = (0, 0) ∧ w1 = w ∧ n1 = 142) := by
  generalize hQ9 : (fun (r : qV) (w1 : qW) (n1 : Nat) => r = (0, 0) ∧ w1 = w ∧ n1 = 142) = Q9
  refine qG.blk 1 (pc' := 1) (ls' := [(2, 61), (0, a)]) (st' := [(0, a)]) (w' := w) (n' := 142) rfl ?_
  refine qG.br (P := a < 0) (pc1 := 22) (pc2 := 4) (st1 := []) rfl (fun h1 => ?_) (fun h1 => ?_)
  · skip
    refine qG.blk 1 (pc' := 23) (ls' := [(2, 61), (0, a)]) (st' := [(0, 0)]) (w' := w) (n' := 142) rfl ?_
    refine qG.ret rfl (by first | rfl | exact decide_eq_true (by omega)) ?_
    subst hQ9
    first | exact ⟨rfl, rfl, rfl⟩ | (exfalso; omega)
  · skip
    refine qG.blk 3 (pc' := 9) (ls' := [(2, 61), (0, a)]) (st' := [(0, w 61 2), (0, a)]) (w' := w) (n' := 142) rfl ?_
    rw [show w 61 2 = ((n : Nat) : Int) from hn]
    refine qG.br (P := a < ((n : Nat) : Int)) (pc1 := 12) (pc2 := 22) (st1 := []) rfl (fun h2 => ?_) (fun h2 => ?_)
    · skip
      refine qG.blk 2 (pc' := 15) (ls' := [(2, 61), (0, a)]) (st' := [(0, 20), (0, a)]) (w' := w) (n' := 142) rfl ?_
      refine qG.br (P := a < 20) (pc1 := 18) (pc2 := 22) (st1 := []) rfl (fun h3 => ?_) (fun h3 => ?_)
      · skip
        refine qG.blk 2 (pc' := 23) (ls' := [(2, 61), (0, a)]) (st' := [(0, 1)]) (w' := w) (n' := 142) rfl ?_
        refine qG.ret rfl (by first | rfl | exact decide_eq_true (by omega)) ?_
        subst hQ9
        first | exact ⟨rfl, rfl, rfl⟩ | (exfalso; omega)
      · skip
        refine qG.blk 1 (pc' := 23) (ls' := [(2, 61), (0, a)]) (st' := [(0, 0)]) (w' := w) (n' := 142) rfl ?_
        refine qG.ret rfl (by first | rfl | exact decide_eq_true (by omega)) ?_
        subst hQ9
        first | exact ⟨rfl, rfl, rfl⟩ | (exfalso; omega)
    · skip
      refine qG.blk 1 (pc' := 23) (ls' := [(2, 61), (0, a)]) (st' := [(0, 0)]) (w' := w) (n' := 142) rfl ?_
      refine qG.ret rfl (by first | rfl | exact decide_eq_true (by omega)) ?_
      subst hQ9
      first | exact ⟨rfl, rfl, rfl⟩ | (exfalso; omega)
theorem K_X10_factOf_n {d : Nat} (hd : 1 ≤ d) (a v : Int) (n : Nat) (hn9 : n ≤ 20) (w : qW) (hI : yInv zgf zga zra zSp w) (hn : w 61 2 = (n : Int)) (ha : ¬ (0 ≤ a ∧ a < (n : Int))) : qG none d 158 0 [(2, 61), (0, a), (0, v)] [] w 142 (fun (r : qV) (w1 : qW) (n1 : Nat) => r = (0, -1) ∧ w1 = w ∧ n1 = 142) := by
  generalize hQ9 : (fun (r : qV) (w1 : qW) (n1 : Nat) => r = (0, -1) ∧ w1 = w ∧ n1 = 142) = Q9
  obtain ⟨d, rfl⟩ : ∃ d9, d = d9 + 1 := ⟨d - 1, by omega⟩
  refine qG.blk 2 (pc' := 2) (ls' := [(2, 61), (0, a), (0, v)]) (st' := [(0, a), (2, 61)]) (w' := w) (n' := 142) rfl ?_
  refine qG.call (t := 159) (na := 2) (sk := 1) (md := 1) (ls1 := [(2, 61), (0, a)]) (r1 := []) rfl rfl rfl rfl rfl (K_isWriterN (by omega) a n hn9 w hI hn ha) ?_
  rintro _ w7 _ ⟨rfl, hw7, rfl⟩
  rw [hw7]
  show qG none (d + 1) 158 5 [(2, 61), (0, a), (0, v)] [(0, 0)] w 142 Q9
  refine qG.br (P := (0 : Int) = 0) (pc1 := 8) (pc2 := 10) (st1 := []) rfl (fun h1 => ?_) (fun h1 => ?_)
  · skip
    refine qG.blk 1 (pc' := 9) (ls' := [(2, 61), (0, a), (0, v)]) (st' := [(0, (-1))]) (w' := w) (n' := 142) rfl ?_
    refine qG.ret rfl rfl ?_
    subst hQ9
    exact ⟨rfl, rfl, rfl⟩
  · exact absurd h1 (by decide)
theorem K_X11_story_n {d : Nat} (hd : 2 ≤ d) (a v : Int) (n : Nat) (hn9 : n ≤ 20) (w : qW) (hI : yInv zgf zga zra zSp w) (hn : w 61 2 = (n : Int)) (ha : ¬ (0 ≤ a ∧ a < (n : Int))) : qG none d 197 0 [(2, 1), (0, a), (0, v)] [] w 142 (fun (r : qV) (_ : qW) (_ : Nat) => r = (0, -1)) := by
  generalize hQ9 : (fun (r : qV) (_ : qW) (_ : Nat) => r = (0, -1)) = Q9
  obtain ⟨d, rfl⟩ : ∃ d9, d = d9 + 1 := ⟨d - 1, by omega⟩
  refine qG.blk 2 (pc' := 4) (ls' := [(2, 1), (0, a), (0, v)]) (st' := [(2, w 1 9)]) (w' := w) (n' := 142) rfl ?_
  rw [show w 1 9 = 61 from zref hI rfl rfl]
  refine qG.blk 2 (pc' := 6) (ls' := [(2, 1), (0, a), (0, v)]) (st' := [(0, v), (0, a), (2, 61)]) (w' := w) (n' := 142) rfl ?_
  refine qG.call (t := 158) (na := 3) (sk := 1) (md := 1) (ls1 := [(2, 61), (0, a), (0, v)]) (r1 := []) rfl rfl rfl rfl rfl (K_X10_factOf_n (by omega) a v n hn9 w hI hn ha) ?_
  rintro _ w7 _ ⟨rfl, hw7, rfl⟩
  rw [hw7]
  show qG none (d + 1) 197 9 [(2, 1), (0, a), (0, v)] [(0, (-1))] w 142 Q9
  refine qG.ret rfl rfl ?_
  subst hQ9
  exact rfl
def C_st_X11_l : Nat × yC := (197, (2, [(2, 1, 1), (0, (-2147483648), 2147483647), (0, (-2147483648), (-1))], (0, (-1), (-1)), [], [], [], [], 0, []))
theorem T_st_X11_l {w0 : qW} : yCOK w0 zgf zga zra zSp zgh C_st_X11_l.1 C_st_X11_l.2 := yctr (bv := fun _ _ => none) (bb := fun _ => none) (ct := yctl []) (an := fun k pc => none) (fk := fun k pc => none) (f := 100000) zgh0 (fun _ _ _ h => by cases h) (fun _ _ h => by cases h) zSp_ok (fun w hw => yctl_ok (P := fun t c => yCOK w zgf zga zra zSp zgh t c) ylnil) (by decide +kernel)
def C_st_X11_h : Nat × yC := (197, (2, [(2, 1, 1), (0, (-2147483648), 2147483647), (0, 5, 2147483647)], (0, (-1), (-1)), [], [], [], [], 0, []))
theorem T_st_X11_h {w0 : qW} : yCOK w0 zgf zga zra zSp zgh C_st_X11_h.1 C_st_X11_h.2 := yctr (bv := fun _ _ => none) (bb := fun _ => none) (ct := yctl []) (an := fun k pc => none) (fk := fun k pc => none) (f := 100000) zgh0 (fun _ _ _ h => by cases h) (fun _ _ h => by cases h) zSp_ok (fun w hw => yctl_ok (P := fun t c => yCOK w zgf zga zra zSp zgh t c) ylnil) (by decide +kernel)
theorem stF_o {w : qW} {x : Nat} {v : Int} (h : v < 0 ∨ 4 < v) : stF w x v = -1 := by
  unfold stF
  rcases h with h | h
  · rw [if_pos (by omega), if_neg (by omega), if_neg (by omega), if_neg (by omega)]
  · rw [if_neg (by omega), if_neg (by omega), if_neg (by omega)]
theorem K_X11_storyJ {d : Nat} (hd : 30 ≤ d) (x v : Int) (hx : -2147483648 ≤ x ∧ x ≤ 2147483647) (hv : -2147483648 ≤ v ∧ v ≤ 2147483647) (w : qW) (h : SP w) (hJ : JW w) : qG none d 197 0 (qini 197 [(2, 1), (0, x), (0, v)]) [] w 142 (fun (r : qV) (_ : qW) (_ : Nat) => r = (0, stV w x v)) := by
  have h76 := zfld h.1 (j := 76) (b := (0, 20)) rfl
  have a76 : (0 : Int) ≤ w 95 76 := h76.1
  have b76 : w 95 76 ≤ (20 : Int) := h76.2
  obtain ⟨n, hm⟩ : ∃ n : Nat, w 95 76 = (n : Int) := ⟨(w 95 76).toNat, by omega⟩
  have hn9 : n ≤ 20 := by omega
  have hn : w 61 2 = (n : Int) := hJ.1.trans hm
  by_cases hr : 0 ≤ x ∧ x < (n : Int)
  · obtain ⟨y, rfl⟩ : ∃ y : Nat, x = (y : Int) := ⟨x.toNat, by omega⟩
    have e : stV w (y : Int) v = stF w y v := by
      unfold stV
      rw [if_pos (by omega), Int.toNat_natCast]
    rw [e]
    rcases (show v < 0 ∨ v = 0 ∨ v = 1 ∨ v = 2 ∨ v = 3 ∨ v = 4 ∨ 4 < v by omega) with q | q | q | q | q | q | q
    · refine qG.mono (SP.useA (c := C_st_X11_l.2) T_st_X11_l h (Nat.le_trans (by decide) hd) ⟨⟨rfl, by decide, by decide⟩, ⟨rfl, hx.1, hx.2⟩, ⟨rfl, hv.1, by show v ≤ (-1 : Int); omega⟩, trivial⟩ rfl rfl (by decide +kernel)) ?_
      rintro _ w1 _ ⟨x9, rfl, x1, x2, -, -, -, -⟩
      rw [stF_o (.inl q), show x9 = -1 from Int.le_antisymm x2 x1]; rfl
    · subst q; exact K_X11_story_0 (by omega) y n hn9 w h.1 hJ hn hm (by omega)
    · subst q; exact K_X11_story_1 (by omega) y n hn9 w h.1 hJ hn hm (by omega)
    · subst q; exact K_X11_story_2 (by omega) y n hn9 w h.1 hJ hn hm (by omega)
    · subst q; exact K_X11_story_3 (by omega) y n hn9 w h.1 hJ hn hm (by omega)
    · subst q; exact K_X11_story_4 (by omega) y n hn9 w h.1 hJ hn hm (by omega)
    · refine qG.mono (SP.useA (c := C_st_X11_h.2) T_st_X11_h h (Nat.le_trans (by decide) hd) ⟨⟨rfl, by decide, by decide⟩, ⟨rfl, hx.1, hx.2⟩, ⟨rfl, by show (5 : Int) ≤ v; omega, hv.2⟩, trivial⟩ rfl rfl (by decide +kernel)) ?_
      rintro _ w1 _ ⟨x9, rfl, x1, x2, -, -, -, -⟩
      rw [stF_o (.inr q), show x9 = -1 from Int.le_antisymm x2 x1]; rfl
  · have e : stV w x v = -1 := if_neg (by omega)
    rw [e]
    exact K_X11_story_n (by omega) x v n hn9 w h.1 hn hr
