/-! the reference's text as a whole: what is kept -/
noncomputable def XN : List Nat := [113, 25095, 27095, 28095, 29095, 30095, 31095, 32095, 34095, 107, 108, 109, 24095, 26095, 33095, 35095, 36095]
noncomputable def XM : List Nat := [113, 25095, 27095, 28095, 29095, 30095, 31095, 32095, 34095, 107, 108, 109, 24095, 26095, 33095, 35095, 36095, 23095, 104, 105, 106, 110, 111, 112]
/-- the pamphlet that is told is well made -/
noncomputable def Sp2 (w : qW) : Prop := ∀ i : Nat, (i : Int) < w 95 22 → 0 ≤ w 111 i ∧ w 111 i ≤ w 111 (i + 1) ∧ w 111 (i + 1) ≤ 610 ∧ ∀ h, runS (w 112) (w 111 i).toNat (w 111 (i + 1) - w 111 i).toNat h = some (h + 1)
theorem XN_a {w w1 : qW} (h : AW XN w w1) {p : Nat} (hp : p < 1000) (hf : XN.all (fun e => !Nat.beq (e % 1000) p) = true) (j : Nat) : w1 p j = w p j := h.2 p j (fun _ => ymo_far hp hf j)
theorem Sp1.cong {w w1 : qW} (h : Sp1 w) (a : ∀ j, w1 104 j = w 104 j) (b : ∀ j, w1 105 j = w 105 j) : Sp1 w1 := fun j hj hk => by rw [b]; rw [a] at hk; exact h j hj hk
theorem Sp2.cong {w w1 : qW} (h : Sp2 w) (a : w1 95 22 = w 95 22) (b : ∀ j, w1 111 j = w 111 j) (c : ∀ j, w1 112 j = w 112 j) : Sp2 w1 := fun i hi => by
  rw [a] at hi
  have := h i hi
  rw [b, b, show w1 112 = w 112 from funext c]
  exact this
theorem Sp1.xn {w w1 : qW} (h : Sp1 w) (a : AW XN w w1) : Sp1 w1 := h.cong (XN_a a (by decide) (by decide +kernel)) (XN_a a (by decide) (by decide +kernel))
theorem Sp2.xn {w w1 : qW} (h : Sp2 w) (a : AW XN w w1) : Sp2 w1 := h.cong (a.2 95 22 (fun _ => rfl)) (XN_a a (by decide) (by decide +kernel)) (XN_a a (by decide) (by decide +kernel))
/-- the first n places of one row into another -/
noncomputable def cpW (w : qW) (s t : Nat) : Nat → qW
  | 0 => w
  | i + 1 => qup (cpW w s t i) t i (w s i)
theorem cpW_o {w : qW} {s t p : Nat} (h : p ≠ t) : ∀ n j, cpW w s t n p j = w p j
  | 0, _ => rfl
  | n + 1, j => by show qup _ t n _ p j = _; rw [qup_ne h]; exact cpW_o h n j
theorem cpW_t {w : qW} {s t : Nat} : ∀ n j, cpW w s t n t j = if j < n then w s j else w t j
  | 0, j => by rw [if_neg (by omega)]; rfl
  | n + 1, j => by
    show qup _ t n _ t j = _
    by_cases e : j = n
    · subst e; rw [qup_k, if_pos (by omega)]
    · rw [qup_j e, cpW_t n j]
      by_cases c : j < n
      · rw [if_pos c, if_pos (by omega)]
      · rw [if_neg c, if_neg (by omega)]
theorem cpW_I {w : qW} {s t : Nat} {b : yI} (hI : yInv zgf zga zra zSp w) (ht : zga t = some b) (hy : yarr t = true) : ∀ n, (∀ j, j < n → yin b (w s j)) → yInv zgf zga zra zSp (cpW w s t n)
  | 0, _ => hI
  | n + 1, h => zup_a (cpW_I hI ht hy n (fun j hj => h j (by omega))) (b := b) ht hy (h n (by omega))
/-- show k out of the fresh steps -/
noncomputable def ksW (w : qW) (k : Nat) : Nat → qW
  | 0 => qup w 106 k (w 95 23)
  | i + 1 => qup (qup (ksW w k i) 104 (40 * k + i) (w 107 i)) 105 (40 * k + i) (w 108 i)
theorem ksW_o {w : qW} {k p : Nat} (h : p ≠ 104 ∧ p ≠ 105 ∧ p ≠ 106) : ∀ n j, ksW w k n p j = w p j
  | 0, j => by show qup _ 106 k _ p j = _; rw [qup_ne h.2.2]
  | n + 1, j => by show qup (qup _ 104 _ _) 105 _ _ p j = _; rw [qup_ne h.2.1, qup_ne h.1]; exact ksW_o h n j
theorem ksW_4 {w : qW} {k : Nat} : ∀ n j, ksW w k n 104 j = if 40 * k ≤ j ∧ j < 40 * k + n then w 107 (j - 40 * k) else w 104 j
  | 0, j => by rw [if_neg (by omega)]; show qup _ 106 k _ 104 j = _; rw [qup_ne (by decide)]
  | n + 1, j => by
    show qup (qup _ 104 _ _) 105 _ _ 104 j = _
    rw [qup_ne (by decide)]
    by_cases e : j = 40 * k + n
    · subst e; rw [qup_k, if_pos (by omega), show 40 * k + n - 40 * k = n by omega]
    · rw [qup_j e, ksW_4 n j]
      by_cases c : 40 * k ≤ j ∧ j < 40 * k + n
      · rw [if_pos c, if_pos (by omega)]
      · rw [if_neg c, if_neg (by omega)]
theorem ksW_5 {w : qW} {k : Nat} : ∀ n j, ksW w k n 105 j = if 40 * k ≤ j ∧ j < 40 * k + n then w 108 (j - 40 * k) else w 105 j
  | 0, j => by rw [if_neg (by omega)]; show qup _ 106 k _ 105 j = _; rw [qup_ne (by decide)]
  | n + 1, j => by
    show qup (qup _ 104 _ _) 105 _ _ 105 j = _
    by_cases e : j = 40 * k + n
    · subst e; rw [qup_k, if_pos (by omega), show 40 * k + n - 40 * k = n by omega]
    · rw [qup_j e, qup_ne (by decide), ksW_5 n j]
      by_cases c : 40 * k ≤ j ∧ j < 40 * k + n
      · rw [if_pos c, if_pos (by omega)]
      · rw [if_neg c, if_neg (by omega)]
theorem ksW_I {w : qW} {k : Nat} (hI : yInv zgf zga zra zSp w) : ∀ n, yInv zgf zga zra zSp (ksW w k n)
  | 0 => zup_a hI (b := (0, 40)) rfl rfl (zfld hI (j := 23) (b := (0, 40)) rfl)
  | n + 1 => zup_a (zup_a (ksW_I hI n) (b := (0, 5)) rfl rfl (hI.2.1 107 n (0, 5) rfl rfl)) (b := (0, 9999)) rfl rfl (hI.2.1 108 n (0, 9999) rfl rfl)
theorem ksW_Sp1 {w : qW} {k L : Nat} (h : Sp1 w) (hL : SL w L) : Sp1 (ksW w k L) := fun j hj hk => by
  rw [ksW_4] at hk
  rw [ksW_5]
  by_cases c : 40 * k ≤ j ∧ j < 40 * k + L
  · rw [if_pos c] at hk ⊢; exact hL.2 _ (by omega) hk
  · rw [if_neg c] at hk ⊢; exact h j hj hk
noncomputable def krW (w : qW) (L : Nat) : qW := cpW (cpW (cpW (qup w 95 22 (w 95 23)) 108 110 L) 109 111 (L + 1)) 113 112 (2 * (w 95 24).toNat)
theorem krW_o {w : qW} {L p j : Nat} (h : p ≠ 110 ∧ p ≠ 111 ∧ p ≠ 112 ∧ ¬ (p = 95 ∧ j = 22)) : krW w L p j = w p j := by
  unfold krW
  rw [cpW_o h.2.2.1, cpW_o h.2.1, cpW_o h.1, qup95 h.2.2.2]
theorem krW_I {w : qW} {L : Nat} (hI : yInv zgf zga zra zSp w) (h : RsL w L) (hL : L ≤ 20) : yInv zgf zga zra zSp (krW w L) := by
  have h1 : yInv zgf zga zra zSp (qup w 95 22 (w 95 23)) := zup_f hI (b := (0, 20)) rfl rfl rfl ⟨by show (0 : Int) ≤ _; rw [h.1]; omega, by show _ ≤ (20 : Int); rw [h.1]; omega⟩
  have h2 := cpW_I h1 (t := 110) (s := 108) (b := (0, 1)) rfl rfl L (fun j hj => by
    rw [qup_ne (by decide)]
    rcases (h.2.2.2 j hj).1 with e | e <;> rw [e] <;> exact ⟨by decide, by decide⟩)
  have h3 := cpW_I h2 (t := 111) (s := 109) (b := (0, 610)) rfl rfl (L + 1) (fun j _ => h2.2.1 109 j (0, 610) rfl rfl)
  exact cpW_I h3 (t := 112) (s := 113) (b := (-2147483648, 2147483647)) rfl rfl _ (fun j _ => h3.2.1 113 j (-2147483648, 2147483647) rfl rfl)
theorem krW_Sp2 {w : qW} {L : Nat} (hI : yInv zgf zga zra zSp w) (h : RsL w L) : Sp2 (krW w L) := fun i hi => by
  have e22 : krW w L 95 22 = (L : Int) := by
    unfold krW
    rw [cpW_o (by decide), cpW_o (by decide), cpW_o (by decide), qup_k, h.1]
  rw [e22] at hi
  have e111 : ∀ j, j ≤ L → krW w L 111 j = w 109 j := fun j hj => by
    unfold krW
    rw [cpW_o (by decide), cpW_t, if_pos (by omega), cpW_o (by decide), qup_ne (by decide)]
  have e112 : ∀ j : Nat, (j : Int) < 2 * w 95 24 → krW w L 112 j = w 113 j := fun j hj => by
    unfold krW
    rw [cpW_t, if_pos (by omega), cpW_o (by decide), cpW_o (by decide), qup_ne (by decide)]
  have f1 := h.2.2.1 i (by omega)
  have f2 := h.2.2.1 (i + 1) (by omega)
  have f3 := h.2.2.2 i (by omega)
  have f4 := zfld hI (j := 24) (b := (0, 610)) rfl
  have f5 : w 95 24 ≤ (610 : Int) := f4.2
  rw [e111 i (by omega), e111 (i + 1) (by omega)]
  refine ⟨f1.1, f3.2.1, by omega, fun q => ?_⟩
  rw [← f3.2.2 q]
  exact runS_cong _ (fun j h1 h2 => e112 j (by omega))
theorem K_keepsShow {d : Nat} (hd : 0 ≤ d) (k : Nat) (hk : k < 4) (w : qW) (hI : yInv zgf zga zra zSp w) : qG none d 246 0 [(2, 95), (0, ((k : Nat) : Int)), (9, 0)] [] w 142 (fun (r : qV) (w1 : qW) (n1 : Nat) => r = (9, 0) ∧ w1 = ksW w k (w 95 23).toNat ∧ n1 = 142) := by
  generalize hQ9 : (fun (r : qV) (w1 : qW) (n1 : Nat) => r = (9, 0) ∧ w1 = ksW w k (w 95 23).toNat ∧ n1 = 142) = Q9
  have h23 := zfld hI (j := 23) (b := (0, 40)) rfl
  have a23 : (0 : Int) ≤ w 95 23 := h23.1
  have b23 : w 95 23 ≤ (40 : Int) := h23.2
  refine qG.blk 2 (pc' := 4) (ls' := [(2, 95), (0, ((k : Nat) : Int)), (9, 0)]) (st' := [(2, w 95 12)]) (w' := w) (n' := 142) rfl ?_
  rw [show w 95 12 = 106 from zref hI rfl rfl]
  refine qG.blk 3 (pc' := 9) (ls' := [(2, 95), (0, ((k : Nat) : Int)), (9, 0)]) (st' := [(0, w 95 23), (0, ((k : Nat) : Int)), (2, 106)]) (w' := w) (n' := 142) rfl ?_
  refine qG.ar (P := 0 ≤ ((k : Nat) : Int) ∧ ((k : Nat) : Int) < ((4 : Nat) : Int)) (P2 := 0 < (106 : Int) ∧ (106 : Int) ≤ ((142 : Nat) : Int)) (pc' := 10) (ls' := [(2, 95), (0, ((k : Nat) : Int)), (9, 0)]) (st' := []) (w' := (qup w 106 k (w 95 23))) (n' := 142) rfl (by omega) (by decide) ?_
  refine qG.blk 2 (pc' := 12) (ls' := [(2, 95), (0, ((k : Nat) : Int)), (0, 0)]) (st' := []) (w' := (qup w 106 k (w 95 23))) (n' := 142) rfl ?_
  have L12 : ∀ (m9 : Nat) (i : Nat) (wS : qW), (w 95 23).toNat - i = m9 → ((i : Int) ≤ w 95 23 ∧ wS = ksW w k i) → qG none d 246 12 [(2, 95), (0, ((k : Nat) : Int)), (0, ((i : Nat) : Int))] [] wS 142 Q9 := by
    intro m9
    induction m9 using Nat.strongRecOn with
    | ind m9 ih12 =>
    intro i wS hm12 hI12
    obtain ⟨hi9, hwS⟩ := hI12
    have hIS : yInv zgf zga zra zSp wS := hwS ▸ ksW_I hI i
    refine qG.blk 3 (pc' := 17) (ls' := [(2, 95), (0, ((k : Nat) : Int)), (0, ((i : Nat) : Int))]) (st' := [(0, wS 95 23), (0, ((i : Nat) : Int))]) (w' := wS) (n' := 142) rfl ?_
    rw [show wS 95 23 = w 95 23 from (congrFun (congrFun hwS 95) 23).trans (ksW_o (by decide) i 23)]
    refine qG.br (P := ((i : Nat) : Int) < w 95 23) (pc1 := 20) (pc2 := 60) (st1 := []) rfl (fun hlt => ?_) (fun hlt => ?_)
    · skip
      refine qG.blk 2 (pc' := 24) (ls' := [(2, 95), (0, ((k : Nat) : Int)), (0, ((i : Nat) : Int))]) (st' := [(2, wS 95 10)]) (w' := wS) (n' := 142) rfl ?_
      rw [show wS 95 10 = 104 from zref hIS rfl rfl]
      refine qG.blk 3 (pc' := 28) (ls' := [(2, 95), (0, ((k : Nat) : Int)), (0, ((i : Nat) : Int))]) (st' := [(0, wrp (40 * ((k : Nat) : Int))), (2, 104)]) (w' := wS) (n' := 142) rfl ?_
      rw [show wrp (40 * ((k : Nat) : Int)) = ((40 * k : Nat) : Int) from by rw [wrp_id (by omega) (by omega)]; omega]
      refine qG.blk 2 (pc' := 30) (ls' := [(2, 95), (0, ((k : Nat) : Int)), (0, ((i : Nat) : Int))]) (st' := [(0, wrp (((40 * k : Nat) : Int) + ((i : Nat) : Int))), (2, 104)]) (w' := wS) (n' := 142) rfl ?_
      rw [show wrp (((40 * k : Nat) : Int) + ((i : Nat) : Int)) = ((40 * k + i : Nat) : Int) from by rw [wrp_id (by omega) (by omega)]; omega]
      refine qG.blk 2 (pc' := 34) (ls' := [(2, 95), (0, ((k : Nat) : Int)), (0, ((i : Nat) : Int))]) (st' := [(2, wS 95 13), (0, ((40 * k + i : Nat) : Int)), (2, 104)]) (w' := wS) (n' := 142) rfl ?_
      rw [show wS 95 13 = 107 from zref hIS rfl rfl]
      refine qG.blk 1 (pc' := 35) (ls' := [(2, 95), (0, ((k : Nat) : Int)), (0, ((i : Nat) : Int))]) (st' := [(0, ((i : Nat) : Int)), (2, 107), (0, ((40 * k + i : Nat) : Int)), (2, 104)]) (w' := wS) (n' := 142) rfl ?_
      refine qG.ar (P := 0 ≤ ((i : Nat) : Int) ∧ ((i : Nat) : Int) < ((40 : Nat) : Int)) (P2 := 0 < (107 : Int) ∧ (107 : Int) ≤ ((142 : Nat) : Int)) (pc' := 36) (ls' := [(2, 95), (0, ((k : Nat) : Int)), (0, ((i : Nat) : Int))]) (st' := [(0, wS 107 i), (0, ((40 * k + i : Nat) : Int)), (2, 104)]) (w' := wS) (n' := 142) rfl (by omega) (by decide) ?_
      rw [show wS 107 i = w 107 i from (congrFun (congrFun hwS 107) i).trans (ksW_o (by decide) i i)]
      refine qG.ist (m := 160) rfl rfl (by omega) (by decide) ?_
      show qG none d 246 37 [(2, 95), (0, ((k : Nat) : Int)), (0, ((i : Nat) : Int))] [] (qup wS 104 (40 * k + i) (w 107 i)) 142 Q9
      refine qG.blk 2 (pc' := 41) (ls' := [(2, 95), (0, ((k : Nat) : Int)), (0, ((i : Nat) : Int))]) (st' := [(2, wS 95 11)]) (w' := (qup wS 104 (40 * k + i) (w 107 i))) (n' := 142) rfl ?_
      rw [show wS 95 11 = 105 from zref hIS rfl rfl]
      refine qG.blk 3 (pc' := 45) (ls' := [(2, 95), (0, ((k : Nat) : Int)), (0, ((i : Nat) : Int))]) (st' := [(0, wrp (40 * ((k : Nat) : Int))), (2, 105)]) (w' := (qup wS 104 (40 * k + i) (w 107 i))) (n' := 142) rfl ?_
      rw [show wrp (40 * ((k : Nat) : Int)) = ((40 * k : Nat) : Int) from by rw [wrp_id (by omega) (by omega)]; omega]
      refine qG.blk 2 (pc' := 47) (ls' := [(2, 95), (0, ((k : Nat) : Int)), (0, ((i : Nat) : Int))]) (st' := [(0, wrp (((40 * k : Nat) : Int) + ((i : Nat) : Int))), (2, 105)]) (w' := (qup wS 104 (40 * k + i) (w 107 i))) (n' := 142) rfl ?_
      rw [show wrp (((40 * k : Nat) : Int) + ((i : Nat) : Int)) = ((40 * k + i : Nat) : Int) from by rw [wrp_id (by omega) (by omega)]; omega]
      refine qG.blk 2 (pc' := 51) (ls' := [(2, 95), (0, ((k : Nat) : Int)), (0, ((i : Nat) : Int))]) (st' := [(2, wS 95 14), (0, ((40 * k + i : Nat) : Int)), (2, 105)]) (w' := (qup wS 104 (40 * k + i) (w 107 i))) (n' := 142) rfl ?_
      rw [show wS 95 14 = 108 from zref hIS rfl rfl]
      refine qG.blk 1 (pc' := 52) (ls' := [(2, 95), (0, ((k : Nat) : Int)), (0, ((i : Nat) : Int))]) (st' := [(0, ((i : Nat) : Int)), (2, 108), (0, ((40 * k + i : Nat) : Int)), (2, 105)]) (w' := (qup wS 104 (40 * k + i) (w 107 i))) (n' := 142) rfl ?_
      refine qG.ar (P := 0 ≤ ((i : Nat) : Int) ∧ ((i : Nat) : Int) < ((40 : Nat) : Int)) (P2 := 0 < (108 : Int) ∧ (108 : Int) ≤ ((142 : Nat) : Int)) (pc' := 53) (ls' := [(2, 95), (0, ((k : Nat) : Int)), (0, ((i : Nat) : Int))]) (st' := [(0, wS 108 i), (0, ((40 * k + i : Nat) : Int)), (2, 105)]) (w' := (qup wS 104 (40 * k + i) (w 107 i))) (n' := 142) rfl (by omega) (by decide) ?_
      rw [show wS 108 i = w 108 i from (congrFun (congrFun hwS 108) i).trans (ksW_o (by decide) i i)]
      refine qG.ist (m := 160) rfl rfl (by omega) (by decide) ?_
      show qG none d 246 54 [(2, 95), (0, ((k : Nat) : Int)), (0, ((i : Nat) : Int))] [] (qup (qup wS 104 (40 * k + i) (w 107 i)) 105 (40 * k + i) (w 108 i)) 142 Q9
      refine qG.blk 1 (pc' := 57) (ls' := [(2, 95), (0, ((k : Nat) : Int)), (0, wrp (((i : Nat) : Int) + 1))]) (st' := []) (w' := (qup (qup wS 104 (40 * k + i) (w 107 i)) 105 (40 * k + i) (w 108 i))) (n' := 142) rfl ?_
      rw [show wrp (((i : Nat) : Int) + 1) = ((i + 1 : Nat) : Int) from wrp_id (by omega) (by omega)]
      refine qG.blk 1 (pc' := 12) (ls' := [(2, 95), (0, ((k : Nat) : Int)), (0, ((i + 1 : Nat) : Int))]) (st' := []) (w' := (qup (qup wS 104 (40 * k + i) (w 107 i)) 105 (40 * k + i) (w 108 i))) (n' := 142) rfl ?_
      exact ih12 _ (by omega) (i + 1) ((qup (qup wS 104 (40 * k + i) (w 107 i)) 105 (40 * k + i) (w 108 i))) rfl (⟨by omega, by rw [hwS]; rfl⟩)
    · skip
      refine qG.retv rfl rfl ?_
      subst hQ9
      exact ⟨rfl, by rw [hwS, show (w 95 23).toNat = i by omega], rfl⟩
  exact L12 _ (0) ((qup w 106 k (w 95 23))) rfl (⟨by omega, rfl⟩)
theorem K_keepsReasons {d : Nat} (hd : 0 ≤ d) (L : Nat) (w : qW) (hI : yInv zgf zga zra zSp w) (hR : RsL w L) (hL : L ≤ 20) : qG none d 247 0 [(2, 95), (9, 0)] [] w 142 (fun (r : qV) (w1 : qW) (n1 : Nat) => r = (9, 0) ∧ w1 = krW w L ∧ n1 = 142) := by
  generalize hQ9 : (fun (r : qV) (w1 : qW) (n1 : Nat) => r = (9, 0) ∧ w1 = krW w L ∧ n1 = 142) = Q9
  have e23 := hR.1
  have h24 := zfld hI (j := 24) (b := (0, 610)) rfl
  have a24 : (0 : Int) ≤ w 95 24 := h24.1
  have b24 : w 95 24 ≤ (610 : Int) := h24.2
  have hI1 : yInv zgf zga zra zSp (qup w 95 22 (w 95 23)) := zup_f hI (b := (0, 20)) rfl rfl rfl ⟨by show (0 : Int) ≤ _; omega, by show _ ≤ (20 : Int); omega⟩
  have hs8 : ∀ j, j < L → yin (0, 1) ((qup w 95 22 (w 95 23)) 108 j) := fun j hj => by
    rw [qup_ne (by decide)]
    rcases (hR.2.2.2 j hj).1 with e | e <;> rw [e] <;> exact ⟨by decide, by decide⟩
  have hI2 : yInv zgf zga zra zSp (cpW (qup w 95 22 (w 95 23)) 108 110 L) := cpW_I hI1 (t := 110) (s := 108) (b := (0, 1)) rfl rfl L hs8
  have hI3 : yInv zgf zga zra zSp (cpW (cpW (qup w 95 22 (w 95 23)) 108 110 L) 109 111 (L + 1)) := cpW_I hI2 (t := 111) (s := 109) (b := (0, 610)) rfl rfl (L + 1) (fun j _ => hI2.2.1 109 j (0, 610) rfl rfl)
  refine qG.blk 6 (pc' := 10) (ls' := [(2, 95), (0, 0)]) (st' := []) (w' := (qup w 95 22 (w 95 23))) (n' := 142) rfl ?_
  have L10 : ∀ (m9 : Nat) (i : Nat) (wA : qW), L - i = m9 → (i ≤ L ∧ wA = cpW (qup w 95 22 (w 95 23)) 108 110 i) → qG none d 247 10 [(2, 95), (0, ((i : Nat) : Int))] [] wA 142 Q9 := by
    intro m9
    induction m9 using Nat.strongRecOn with
    | ind m9 ih10 =>
    intro i wA hm10 hI10
    obtain ⟨hi10, hwwA⟩ := hI10
    have hIwA : yInv zgf zga zra zSp wA := hwwA ▸ cpW_I hI1 (t := 110) (s := 108) (b := (0, 1)) rfl rfl i (fun j hj => hs8 j (by omega))
    refine qG.blk 3 (pc' := 15) (ls' := [(2, 95), (0, ((i : Nat) : Int))]) (st' := [(0, wA 95 23), (0, ((i : Nat) : Int))]) (w' := wA) (n' := 142) rfl ?_
    rw [show wA 95 23 = w 95 23 from (congrFun (congrFun hwwA 95) 23).trans (by rw [cpW_o (by decide), qup_j (by decide)])]
    refine qG.br (P := ((i : Nat) : Int) < w 95 23) (pc1 := 18) (pc2 := 36) (st1 := []) rfl (fun h1 => ?_) (fun h1 => ?_)
    · skip
      refine qG.blk 2 (pc' := 22) (ls' := [(2, 95), (0, ((i : Nat) : Int))]) (st' := [(2, wA 95 16)]) (w' := wA) (n' := 142) rfl ?_
      rw [show wA 95 16 = 110 from zref hIwA rfl rfl]
      refine qG.blk 3 (pc' := 27) (ls' := [(2, 95), (0, ((i : Nat) : Int))]) (st' := [(2, wA 95 14), (0, ((i : Nat) : Int)), (2, 110)]) (w' := wA) (n' := 142) rfl ?_
      rw [show wA 95 14 = 108 from zref hIwA rfl rfl]
      refine qG.blk 1 (pc' := 28) (ls' := [(2, 95), (0, ((i : Nat) : Int))]) (st' := [(0, ((i : Nat) : Int)), (2, 108), (0, ((i : Nat) : Int)), (2, 110)]) (w' := wA) (n' := 142) rfl ?_
      refine qG.ar (P := 0 ≤ ((i : Nat) : Int) ∧ ((i : Nat) : Int) < ((40 : Nat) : Int)) (P2 := 0 < (108 : Int) ∧ (108 : Int) ≤ ((142 : Nat) : Int)) (pc' := 29) (ls' := [(2, 95), (0, ((i : Nat) : Int))]) (st' := [(0, wA 108 i), (0, ((i : Nat) : Int)), (2, 110)]) (w' := wA) (n' := 142) rfl (by omega) (by decide) ?_
      rw [show wA 108 i = w 108 i from (congrFun (congrFun hwwA 108) i).trans (by rw [cpW_o (by decide), qup_ne (by decide)])]
      refine qG.ar (P := 0 ≤ ((i : Nat) : Int) ∧ ((i : Nat) : Int) < ((20 : Nat) : Int)) (P2 := 0 < (110 : Int) ∧ (110 : Int) ≤ ((142 : Nat) : Int)) (pc' := 30) (ls' := [(2, 95), (0, ((i : Nat) : Int))]) (st' := []) (w' := (qup wA 110 i (w 108 i))) (n' := 142) rfl (by omega) (by decide) ?_
      refine qG.blk 1 (pc' := 33) (ls' := [(2, 95), (0, wrp (((i : Nat) : Int) + 1))]) (st' := []) (w' := (qup wA 110 i (w 108 i))) (n' := 142) rfl ?_
      rw [show wrp (((i : Nat) : Int) + 1) = ((i + 1 : Nat) : Int) from wrp_id (by omega) (by omega)]
      refine qG.blk 1 (pc' := 10) (ls' := [(2, 95), (0, ((i + 1 : Nat) : Int))]) (st' := []) (w' := (qup wA 110 i (w 108 i))) (n' := 142) rfl ?_
      exact ih10 _ (by omega) (i + 1) ((qup wA 110 i (w 108 i))) rfl (⟨by omega, by rw [hwwA]; show _ = qup (cpW (qup w 95 22 (w 95 23)) 108 110 i) 110 i ((qup w 95 22 (w 95 23)) 108 i); rw [qup_ne (show (108 : Nat) ≠ 95 by decide)]⟩)
    · skip
      refine qG.blk 2 (pc' := 38) (ls' := [(2, 95), (0, 0)]) (st' := []) (w' := wA) (n' := 142) rfl ?_
      have L38 : ∀ (m9 : Nat) (i : Nat) (wB : qW), (L + 1) - i = m9 → (i ≤ (L + 1) ∧ wB = cpW (cpW (qup w 95 22 (w 95 23)) 108 110 L) 109 111 i) → qG none d 247 38 [(2, 95), (0, ((i : Nat) : Int))] [] wB 142 Q9 := by
        intro m9
        induction m9 using Nat.strongRecOn with
        | ind m9 ih38 =>
        intro i wB hm38 hI38
        obtain ⟨hi38, hwwB⟩ := hI38
        have hIwB : yInv zgf zga zra zSp wB := hwwB ▸ cpW_I hI2 (t := 111) (s := 109) (b := (0, 610)) rfl rfl i (fun j _ => hI2.2.1 109 j (0, 610) rfl rfl)
        refine qG.blk 3 (pc' := 43) (ls' := [(2, 95), (0, ((i : Nat) : Int))]) (st' := [(0, wB 95 23), (0, ((i : Nat) : Int))]) (w' := wB) (n' := 142) rfl ?_
        rw [show wB 95 23 = w 95 23 from (congrFun (congrFun hwwB 95) 23).trans (by rw [cpW_o (by decide), cpW_o (by decide), qup_j (by decide)])]
        refine qG.br (P := w 95 23 < ((i : Nat) : Int)) (pc1 := 64) (pc2 := 46) (st1 := []) rfl (fun h2 => ?_) (fun h2 => ?_)
        · skip
          refine qG.blk 2 (pc' := 66) (ls' := [(2, 95), (0, 0)]) (st' := []) (w' := wB) (n' := 142) rfl ?_
          have L66 : ∀ (m9 : Nat) (i : Nat) (wC : qW), (2 * (w 95 24).toNat) - i = m9 → (i ≤ (2 * (w 95 24).toNat) ∧ wC = cpW (cpW (cpW (qup w 95 22 (w 95 23)) 108 110 L) 109 111 (L + 1)) 113 112 i) → qG none d 247 66 [(2, 95), (0, ((i : Nat) : Int))] [] wC 142 Q9 := by
            intro m9
            induction m9 using Nat.strongRecOn with
            | ind m9 ih66 =>
            intro i wC hm66 hI66
            obtain ⟨hi66, hwwC⟩ := hI66
            have hIwC : yInv zgf zga zra zSp wC := hwwC ▸ cpW_I hI3 (t := 112) (s := 113) (b := (-2147483648, 2147483647)) rfl rfl i (fun j _ => hI3.2.1 113 j (-2147483648, 2147483647) rfl rfl)
            refine qG.blk 4 (pc' := 72) (ls' := [(2, 95), (0, ((i : Nat) : Int))]) (st' := [(0, wC 95 24), (0, 2), (0, ((i : Nat) : Int))]) (w' := wC) (n' := 142) rfl ?_
            rw [show wC 95 24 = w 95 24 from (congrFun (congrFun hwwC 95) 24).trans (by rw [cpW_o (by decide), cpW_o (by decide), cpW_o (by decide), qup_j (by decide)])]
            refine qG.blk 1 (pc' := 73) (ls' := [(2, 95), (0, ((i : Nat) : Int))]) (st' := [(0, wrp (2 * (w 95 24))), (0, ((i : Nat) : Int))]) (w' := wC) (n' := 142) rfl ?_
            rw [show wrp (2 * (w 95 24)) = ((2 * (w 95 24).toNat : Nat) : Int) from by rw [wrp_id (by omega) (by omega)]; omega]
            refine qG.br (P := ((i : Nat) : Int) < ((2 * (w 95 24).toNat : Nat) : Int)) (pc1 := 76) (pc2 := 94) (st1 := []) rfl (fun h3 => ?_) (fun h3 => ?_)
            · skip
              refine qG.blk 2 (pc' := 80) (ls' := [(2, 95), (0, ((i : Nat) : Int))]) (st' := [(2, wC 95 18)]) (w' := wC) (n' := 142) rfl ?_
              rw [show wC 95 18 = 112 from zref hIwC rfl rfl]
              refine qG.blk 3 (pc' := 85) (ls' := [(2, 95), (0, ((i : Nat) : Int))]) (st' := [(2, wC 95 19), (0, ((i : Nat) : Int)), (2, 112)]) (w' := wC) (n' := 142) rfl ?_
              rw [show wC 95 19 = 113 from zref hIwC rfl rfl]
              refine qG.blk 1 (pc' := 86) (ls' := [(2, 95), (0, ((i : Nat) : Int))]) (st' := [(0, ((i : Nat) : Int)), (2, 113), (0, ((i : Nat) : Int)), (2, 112)]) (w' := wC) (n' := 142) rfl ?_
              refine qG.ild (m := 1220) rfl rfl (by omega) (by decide) ?_
              show qG none d 247 87 [(2, 95), (0, ((i : Nat) : Int))] [(0, wC 113 i), (0, ((i : Nat) : Int)), (2, 112)] wC 142 Q9
              rw [show wC 113 i = w 113 i from (congrFun (congrFun hwwC 113) i).trans (by rw [cpW_o (by decide), cpW_o (by decide), cpW_o (by decide), qup_ne (by decide)])]
              refine qG.ist (m := 1220) rfl rfl (by omega) (by decide) ?_
              show qG none d 247 88 [(2, 95), (0, ((i : Nat) : Int))] [] (qup wC 112 i (w 113 i)) 142 Q9
              refine qG.blk 1 (pc' := 91) (ls' := [(2, 95), (0, wrp (((i : Nat) : Int) + 1))]) (st' := []) (w' := (qup wC 112 i (w 113 i))) (n' := 142) rfl ?_
              rw [show wrp (((i : Nat) : Int) + 1) = ((i + 1 : Nat) : Int) from wrp_id (by omega) (by omega)]
              refine qG.blk 1 (pc' := 66) (ls' := [(2, 95), (0, ((i + 1 : Nat) : Int))]) (st' := []) (w' := (qup wC 112 i (w 113 i))) (n' := 142) rfl ?_
              exact ih66 _ (by omega) (i + 1) ((qup wC 112 i (w 113 i))) rfl (⟨by omega, by rw [hwwC]; show _ = qup (cpW (cpW (cpW (qup w 95 22 (w 95 23)) 108 110 L) 109 111 (L + 1)) 113 112 i) 112 i ((cpW (cpW (qup w 95 22 (w 95 23)) 108 110 L) 109 111 (L + 1)) 113 i); rw [cpW_o (by decide), cpW_o (by decide), qup_ne (show (113 : Nat) ≠ 95 by decide)]⟩)
            · skip
              refine qG.retv rfl rfl ?_
              subst hQ9
              exact ⟨rfl, by rw [hwwC, show i = 2 * (w 95 24).toNat by omega]; rfl, rfl⟩
          exact L66 _ (0) (wB) rfl (⟨by omega, by rw [hwwB, show i = L + 1 by omega]; rfl⟩)
        · skip
          refine qG.blk 2 (pc' := 50) (ls' := [(2, 95), (0, ((i : Nat) : Int))]) (st' := [(2, wB 95 17)]) (w' := wB) (n' := 142) rfl ?_
          rw [show wB 95 17 = 111 from zref hIwB rfl rfl]
          refine qG.blk 3 (pc' := 55) (ls' := [(2, 95), (0, ((i : Nat) : Int))]) (st' := [(2, wB 95 15), (0, ((i : Nat) : Int)), (2, 111)]) (w' := wB) (n' := 142) rfl ?_
          rw [show wB 95 15 = 109 from zref hIwB rfl rfl]
          refine qG.blk 1 (pc' := 56) (ls' := [(2, 95), (0, ((i : Nat) : Int))]) (st' := [(0, ((i : Nat) : Int)), (2, 109), (0, ((i : Nat) : Int)), (2, 111)]) (w' := wB) (n' := 142) rfl ?_
          refine qG.ar (P := 0 ≤ ((i : Nat) : Int) ∧ ((i : Nat) : Int) < ((21 : Nat) : Int)) (P2 := 0 < (109 : Int) ∧ (109 : Int) ≤ ((142 : Nat) : Int)) (pc' := 57) (ls' := [(2, 95), (0, ((i : Nat) : Int))]) (st' := [(0, wB 109 i), (0, ((i : Nat) : Int)), (2, 111)]) (w' := wB) (n' := 142) rfl (by omega) (by decide) ?_
          rw [show wB 109 i = w 109 i from (congrFun (congrFun hwwB 109) i).trans (by rw [cpW_o (by decide), cpW_o (by decide), qup_ne (by decide)])]
          refine qG.ar (P := 0 ≤ ((i : Nat) : Int) ∧ ((i : Nat) : Int) < ((21 : Nat) : Int)) (P2 := 0 < (111 : Int) ∧ (111 : Int) ≤ ((142 : Nat) : Int)) (pc' := 58) (ls' := [(2, 95), (0, ((i : Nat) : Int))]) (st' := []) (w' := (qup wB 111 i (w 109 i))) (n' := 142) rfl (by omega) (by decide) ?_
          refine qG.blk 1 (pc' := 61) (ls' := [(2, 95), (0, wrp (((i : Nat) : Int) + 1))]) (st' := []) (w' := (qup wB 111 i (w 109 i))) (n' := 142) rfl ?_
          rw [show wrp (((i : Nat) : Int) + 1) = ((i + 1 : Nat) : Int) from wrp_id (by omega) (by omega)]
          refine qG.blk 1 (pc' := 38) (ls' := [(2, 95), (0, ((i + 1 : Nat) : Int))]) (st' := []) (w' := (qup wB 111 i (w 109 i))) (n' := 142) rfl ?_
          exact ih38 _ (by omega) (i + 1) ((qup wB 111 i (w 109 i))) rfl (⟨by omega, by rw [hwwB]; show _ = qup (cpW (cpW (qup w 95 22 (w 95 23)) 108 110 L) 109 111 i) 111 i ((cpW (qup w 95 22 (w 95 23)) 108 110 L) 109 i); rw [cpW_o (by decide), qup_ne (show (109 : Nat) ≠ 95 by decide)]⟩)
      exact L38 _ (0) (wA) rfl (⟨by omega, by rw [hwwA, show i = L by omega]; rfl⟩)
  exact L10 _ (0) ((qup w 95 22 (w 95 23))) rfl (⟨by omega, rfl⟩)
noncomputable def txW (w : qW) (b : Int) : qW := qup (qup (qup (qup (qup (qup w 95 30 0) 95 35 b) 95 26 0) 95 23 0) 95 24 0) 109 0 0
noncomputable def tlW (w : qW) (v : Int) : qW := qup (qup (qup w 95 25 0) 95 32 (w 95 30)) 95 34 v
theorem txW_A {w : qW} (hI : yInv zgf zga zra zSp w) {b : Int} (h0 : 0 ≤ b) (h1 : b ≤ 1) : AW XN w (txW w b) := by
  have a1 := (AW.rf (m := XN) hI).fld (j := 30) (v := 0) (zup_f hI (b := (0, 3)) rfl rfl rfl ⟨by decide, by decide⟩) (by decide +kernel)
  have a2 := a1.fld (j := 35) (v := b) (zup_f a1.1 (b := (0, 1)) rfl rfl rfl ⟨h0, h1⟩) (by decide +kernel)
  have a3 := a2.fld (j := 26) (v := 0) (zup_f a2.1 (b := (0, 600)) rfl rfl rfl ⟨by decide, by decide⟩) (by decide +kernel)
  have a4 := a3.fld (j := 23) (v := 0) (zup_f a3.1 (b := (0, 40)) rfl rfl rfl ⟨by decide, by decide⟩) (by decide +kernel)
  have a5 := a4.fld (j := 24) (v := 0) (zup_f a4.1 (b := (0, 610)) rfl rfl rfl ⟨by decide, by decide⟩) (by decide +kernel)
  exact a5.arr (p := 109) (j := 0) (v := 0) (zup_a a5.1 (b := (0, 610)) rfl rfl ⟨by decide, by decide⟩) (by decide +kernel) (by decide)
theorem tlW_A {w w1 : qW} (h : AW XN w w1) {v : Int} (h0 : -1 ≤ v) (h1 : v ≤ 600) : AW XN w (tlW w1 v) := by
  have a1 := h.fld (j := 25) (v := 0) (zup_f h.1 (b := (0, 600)) rfl rfl rfl ⟨by decide, by decide⟩) (by decide +kernel)
  have a2 := a1.fld (j := 32) (v := w1 95 30) (zup_f a1.1 (b := (0, 3)) rfl rfl rfl (zfld h.1 (j := 30) (b := (0, 3)) rfl)) (by decide +kernel)
  exact a2.fld (j := 34) (v := v) (zup_f a2.1 (b := (-1, 600)) rfl rfl rfl ⟨h0, h1⟩) (by decide +kernel)
theorem tlW_o {w : qW} {v : Int} {p j : Nat} (h : ¬ (p = 95 ∧ (j = 25 ∨ j = 32 ∨ j = 34))) : tlW w v p j = w p j := by
  unfold tlW
  rw [qup95 (by omega), qup95 (by omega), qup95 (by omega)]
theorem SL.tl {w : qW} {v : Int} {L : Nat} (h : SL w L) : SL (tlW w v) L := ⟨by rw [tlW_o (by decide)]; exact h.1, fun i hi => by rw [tlW_o (by omega), tlW_o (by omega)]; exact h.2 i hi⟩
theorem RsL.tl {w : qW} {v : Int} {L : Nat} (h : RsL w L) : RsL (tlW w v) L := by
  have e : ∀ p j, ¬ (p = 95 ∧ (j = 25 ∨ j = 32 ∨ j = 34)) → tlW w v p j = w p j := fun p j hp => tlW_o hp
  obtain ⟨a, b, c, d⟩ := h
  have e113 : tlW w v 113 = w 113 := funext fun j => e 113 j (by omega)
  refine ⟨by rw [e 95 23 (by decide)]; exact a, by rw [e 109 L (by omega), e 95 24 (by decide)]; exact b, fun i hi => by rw [e 109 i (by omega), e 95 24 (by decide)]; exact c i hi, fun i hi => ?_⟩
  rw [e 108 i (by omega), e 109 i (by omega), e 109 (i + 1) (by omega), e113]
  exact d i hi
theorem ksW_A {w w1 : qW} {k n : Nat} (h : AW XN w w1) : AW XM w (ksW w1 k n) := ⟨ksW_I h.1 n, fun p j hp => by
  have e : p ≠ 104 ∧ p ≠ 105 ∧ p ≠ 106 := ⟨fun c => (by subst c; exact absurd (hp (by decide)) (by rw [show ymo 104 j XM = true from rfl]; decide)), fun c => (by subst c; exact absurd (hp (by decide)) (by rw [show ymo 105 j XM = true from rfl]; decide)), fun c => (by subst c; exact absurd (hp (by decide)) (by rw [show ymo 106 j XM = true from rfl]; decide))⟩
  rw [ksW_o e]
  exact h.2 p j (fun k => ysubm_ok (b := XM) (by decide +kernel) k (hp k))⟩
theorem krW_A {w w1 : qW} {L : Nat} (h : AW XN w w1) (hR : RsL w1 L) (hL : L ≤ 20) : AW XM w (krW w1 L) := ⟨krW_I h.1 hR hL, fun p j hp => by
  have e : p ≠ 110 ∧ p ≠ 111 ∧ p ≠ 112 ∧ ¬ (p = 95 ∧ j = 22) := ⟨fun c => (by subst c; exact absurd (hp (by decide)) (by rw [show ymo 110 j XM = true from rfl]; decide)), fun c => (by subst c; exact absurd (hp (by decide)) (by rw [show ymo 111 j XM = true from rfl]; decide)), fun c => (by subst c; exact absurd (hp (by decide)) (by rw [show ymo 112 j XM = true from rfl]; decide)), fun c => (by obtain ⟨rfl, rfl⟩ := c; exact absurd (hp (by decide)) (by decide))⟩
  rw [krW_o e]
  exact h.2 p j (fun k => ysubm_ok (b := XM) (by decide +kernel) k (hp k))⟩
theorem XNM {w w1 : qW} (h : AW XN w w1) : AW XM w w1 := ⟨h.1, fun p j hp => h.2 p j (fun k => ysubm_ok (b := XM) (by decide +kernel) k (hp k))⟩
/-- what text does to what is told -/
noncomputable def TXQ (w : qW) (r : qV) (w1 : qW) (n1 : Nat) : Prop := n1 = 142 ∧ (∃ x, r = (0, x)) ∧ AW XM w w1 ∧ (Sp1 w → Sp1 w1) ∧ (Sp2 w → Sp2 w1)
theorem TXQ.xn {w w1 : qW} {x : Int} (h : AW XN w w1) : TXQ w (0, x) w1 142 := ⟨rfl, ⟨x, rfl⟩, XNM h, fun s => s.xn h, fun s => s.xn h⟩
theorem TXQ.ks {w w1 : qW} {x : Int} {k L : Nat} (h : AW XN w w1) (hL : SL w1 L) : TXQ w (0, x) (ksW w1 k (w1 95 23).toNat) 142 := by
  rw [show (w1 95 23).toNat = L by have := hL.1; omega]
  exact ⟨rfl, ⟨x, rfl⟩, ksW_A h, fun s => ksW_Sp1 (s.xn h) hL, fun s => (s.xn h).cong (ksW_o (by decide) L 22) (fun j => ksW_o (by decide) L j) (fun j => ksW_o (by decide) L j)⟩
theorem TXQ.kr {w w1 : qW} {x : Int} {L : Nat} (h : AW XN w w1) (hR : RsL w1 L) (hL : L ≤ 20) : TXQ w (0, x) (krW w1 L) 142 :=
  ⟨rfl, ⟨x, rfl⟩, krW_A h hR hL, fun s => (s.xn h).cong (fun j => krW_o (by omega)) (fun j => krW_o (by omega)), fun _ => krW_Sp2 h.1 hR⟩
theorem K_textBS {d : Nat} (hd : 42 ≤ d) (k : Nat) (hk : k < 4) (w : qW) (hI : yInv zgf zga zra zSp w) : qG none d 245 67 [(2, 95), (0, ((k : Nat) : Int)), (9, 0)] [] (txW w 1) 142 (TXQ w) := by
  generalize hQ9 : (TXQ w) = Q9
  obtain ⟨d, rfl⟩ : ∃ d9, d = d9 + 1 := ⟨d - 1, by omega⟩
  have hAT : AW XN w (txW w 1) := txW_A hI (by decide) (by decide)
  refine qG.blk 1 (pc' := 68) (ls' := [(2, 95), (0, ((k : Nat) : Int)), (9, 0)]) (st' := [(2, 95)]) (w' := (txW w 1)) (n' := 142) rfl ?_
  refine qG.call (t := 231) (na := 1) (sk := 1) (md := 1) (ls1 := [(2, 95), (9, 0)]) (r1 := []) rfl rfl rfl rfl rfl (K_next0 (by omega) (txW w 1) hAT.1) ?_
  rintro _ w1 _ ⟨rfl, rfl, hX1⟩
  obtain ⟨hN1, hg1, hg2, hg3⟩ := hX1.look hAT.1
  have hA1 : AW XN w w1 := hAT.tr hN1 (by decide +kernel)
  have hP1 : PI w1 := ⟨hN1.1, hg2, hg3⟩
  have e23 : w1 95 23 = 0 := (hN1.2 95 23 (fun _ => rfl)).trans (by unfold txW; simp (disch := decide) only [qup_ne, qup_j, qup_k])
  have e24 : w1 95 24 = 0 := (hN1.2 95 24 (fun _ => rfl)).trans (by unfold txW; simp (disch := decide) only [qup_ne, qup_j, qup_k])
  have e35 : w1 95 35 = 1 := (hN1.2 95 35 (fun _ => rfl)).trans (by unfold txW; simp (disch := decide) only [qup_ne, qup_j, qup_k])
  have e109 : w1 109 0 = 0 := (hN1.2 109 0 (fun _ => rfl)).trans (by unfold txW; simp (disch := decide) only [qup_ne, qup_j, qup_k])
  have hb1 := hP1.b
  show qG none (d + 1) 245 71 [(2, 95), (0, ((k : Nat) : Int)), (9, 0)] [] w1 142 Q9
  refine qG.blk 2 (pc' := 73) (ls' := [(2, 95), (0, ((k : Nat) : Int)), (0, 1)]) (st' := []) (w' := w1) (n' := 142) rfl ?_
  have L73 : ∀ (m9 : Nat) (good : Int) (L : Nat) (wL : qW), (good * (601 - wL 95 28)).toNat = m9 → (AW XN w wL ∧ wL 95 35 = 1 ∧ (good = 0 ∨ (good = 1 ∧ L ≤ 40 ∧ PI wL ∧ SL wL L))) → qG none (d + 1) 245 73 [(2, 95), (0, ((k : Nat) : Int)), (0, good)] [] wL 142 Q9 := by
    intro m9
    induction m9 using Nat.strongRecOn with
    | ind m9 ih73 =>
    intro good L wL hm73 hI73
    obtain ⟨hAL, heL, hOr⟩ := hI73
    refine qG.blk 1 (pc' := 74) (ls' := [(2, 95), (0, ((k : Nat) : Int)), (0, good)]) (st' := [(0, good)]) (w' := wL) (n' := 142) rfl ?_
    refine qG.br (P := good = 0) (pc1 := 106) (pc2 := 77) (st1 := []) rfl (fun hg => ?_) (fun hg => ?_)
    · skip
      subst hg
      refine qG.blk 9 (pc' := 121) (ls' := [(2, 95), (0, ((k : Nat) : Int)), (0, 0)]) (st' := [(0, 0), (2, 95)]) (w' := (qup (qup wL 95 25 0) 95 32 (wL 95 30))) (n' := 142) rfl ?_
      refine qG.br (P := (0 : Int) = 0) (pc1 := 128) (pc2 := 124) (st1 := [(2, 95)]) rfl (fun h1 => ?_) (fun h1 => ?_)
      · skip
        refine qG.blk 4 (pc' := 136) (ls' := [(2, 95), (0, ((k : Nat) : Int)), (0, 0)]) (st' := [(0, 0)]) (w' := (qup (qup (qup wL 95 25 0) 95 32 (wL 95 30)) 95 34 (wL 95 31))) (n' := 142) rfl ?_
        refine qG.br (P := (0 : Int) = 0) (pc1 := 139) (pc2 := 141) (st1 := []) rfl (fun h2 => ?_) (fun h2 => ?_)
        · skip
          refine qG.blk 1 (pc' := 140) (ls' := [(2, 95), (0, ((k : Nat) : Int)), (0, 0)]) (st' := [(0, (-1))]) (w' := (qup (qup (qup wL 95 25 0) 95 32 (wL 95 30)) 95 34 (wL 95 31))) (n' := 142) rfl ?_
          refine qG.ret rfl rfl ?_
          subst hQ9
          exact TXQ.xn (tlW_A hAL (v := wL 95 31) (Int.le_trans (by decide) (zfld hAL.1 (j := 31) (b := (0, 600)) rfl).1) (zfld hAL.1 (j := 31) (b := (0, 600)) rfl).2)
        · exact absurd h2 (by decide)
      · exact absurd h1 (by decide)
    · skip
      obtain ⟨hg1, hL40, hPL, hSL⟩ := hOr.resolve_left hg
      subst hg1
      have hbL := hPL.b
      refine qG.blk 2 (pc' := 81) (ls' := [(2, 95), (0, ((k : Nat) : Int)), (0, 1)]) (st' := [(0, wL 95 27)]) (w' := wL) (n' := 142) rfl ?_
      refine qG.br (P := wL 95 27 = 0) (pc1 := 106) (pc2 := 84) (st1 := []) rfl (fun htok => ?_) (fun htok => ?_)
      · skip
        refine qG.blk 9 (pc' := 121) (ls' := [(2, 95), (0, ((k : Nat) : Int)), (0, 1)]) (st' := [(0, 1), (2, 95)]) (w' := (qup (qup wL 95 25 0) 95 32 (wL 95 30))) (n' := 142) rfl ?_
        refine qG.br (P := (1 : Int) = 0) (pc1 := 128) (pc2 := 124) (st1 := [(2, 95)]) rfl (fun h3 => ?_) (fun h3 => ?_)
        · exact absurd h3 (by decide)
        · skip
          refine qG.blk 4 (pc' := 136) (ls' := [(2, 95), (0, ((k : Nat) : Int)), (0, 1)]) (st' := [(0, 1)]) (w' := (qup (qup (qup wL 95 25 0) 95 32 (wL 95 30)) 95 34 (-1))) (n' := 142) rfl ?_
          refine qG.br (P := (1 : Int) = 0) (pc1 := 139) (pc2 := 141) (st1 := []) rfl (fun h4 => ?_) (fun h4 => ?_)
          · exact absurd h4 (by decide)
          · skip
            refine qG.blk 2 (pc' := 145) (ls' := [(2, 95), (0, ((k : Nat) : Int)), (0, 1)]) (st' := [(0, wL 95 35)]) (w' := (qup (qup (qup wL 95 25 0) 95 32 (wL 95 30)) 95 34 (-1))) (n' := 142) rfl ?_
            rw [show wL 95 35 = 1 from heL]
            refine qG.br (P := (1 : Int) = 0) (pc1 := 156) (pc2 := 148) (st1 := []) rfl (fun h5 => ?_) (fun h5 => ?_)
            · exact absurd h5 (by decide)
            · skip
              refine qG.blk 2 (pc' := 150) (ls' := [(2, 95), (0, ((k : Nat) : Int)), (0, 1)]) (st' := [(0, ((k : Nat) : Int)), (2, 95)]) (w' := (qup (qup (qup wL 95 25 0) 95 32 (wL 95 30)) 95 34 (-1))) (n' := 142) rfl ?_
              have hA3 := tlW_A hAL (v := -1) (by decide) (by decide)
              show qG none (d + 1) 245 150 [(2, 95), (0, ((k : Nat) : Int)), (0, 1)] [(0, ((k : Nat) : Int)), (2, 95)] (tlW wL (-1)) 142 Q9
              refine qG.call (t := 246) (na := 2) (sk := 1) (md := 1) (ls1 := [(2, 95), (0, ((k : Nat) : Int)), (9, 0)]) (r1 := []) rfl rfl rfl rfl rfl (K_keepsShow (by omega) k hk (tlW wL (-1)) hA3.1) ?_
              rintro _ _ _ ⟨rfl, rfl, rfl⟩
              show qG none (d + 1) 245 153 [(2, 95), (0, ((k : Nat) : Int)), (0, 1)] [] (ksW (tlW wL (-1)) k ((tlW wL (-1)) 95 23).toNat) 142 Q9
              refine qG.blk 3 (pc' := 164) (ls' := [(2, 95), (0, ((k : Nat) : Int)), (0, 1)]) (st' := [(0, (ksW (tlW wL (-1)) k ((tlW wL (-1)) 95 23).toNat) 95 23)]) (w' := (ksW (tlW wL (-1)) k ((tlW wL (-1)) 95 23).toNat)) (n' := 142) rfl ?_
              refine qG.ret rfl rfl ?_
              subst hQ9
              exact TXQ.ks hA3 hSL.tl
      · skip
        refine qG.blk 2 (pc' := 88) (ls' := [(2, 95), (0, ((k : Nat) : Int)), (0, 1)]) (st' := [(0, wL 95 35)]) (w' := wL) (n' := 142) rfl ?_
        rw [show wL 95 35 = 1 from heL]
        refine qG.br (P := (1 : Int) = 0) (pc1 := 98) (pc2 := 91) (st1 := []) rfl (fun h6 => ?_) (fun h6 => ?_)
        · exact absurd h6 (by decide)
        · skip
          refine qG.blk 1 (pc' := 92) (ls' := [(2, 95), (0, ((k : Nat) : Int)), (0, 1)]) (st' := [(2, 95)]) (w' := wL) (n' := 142) rfl ?_
          refine qG.call (t := 243) (na := 1) (sk := 1) (md := 1) (ls1 := [(2, 95), (9, 0)]) (r1 := []) rfl rfl rfl rfl rfl (K_aStep (by omega) L wL hPL hSL hL40) ?_
          rintro _ w7 _ ⟨rfl, ⟨rfl, hS7⟩ | ⟨rfl, hS7, hPn, hSn, hL41, hmn⟩⟩
          · skip
            show qG none (d + 1) 245 95 [(2, 95), (0, ((k : Nat) : Int)), (0, 1)] [(0, 0)] w7 142 Q9
            have hAn := hAL.tr hS7 (by decide +kernel)
            have hen := (hS7.2 95 35 (fun _ => rfl)).trans heL
            have hbn := hbL
            refine qG.blk 3 (pc' := 73) (ls' := [(2, 95), (0, ((k : Nat) : Int)), (0, 0)]) (st' := []) (w' := w7) (n' := 142) rfl ?_
            exact ih73 _ (by omega) (0) (L) (w7) rfl (⟨hAn, hen, .inl rfl⟩)
          · skip
            show qG none (d + 1) 245 95 [(2, 95), (0, ((k : Nat) : Int)), (0, 1)] [(0, 1)] w7 142 Q9
            have hAn := hAL.tr hS7 (by decide +kernel)
            have hen := (hS7.2 95 35 (fun _ => rfl)).trans heL
            have hbn := hbL
            have hbn2 := hPn.b
            refine qG.blk 3 (pc' := 73) (ls' := [(2, 95), (0, ((k : Nat) : Int)), (0, 1)]) (st' := []) (w' := w7) (n' := 142) rfl ?_
            exact ih73 _ (by omega) (1) (L + 1) (w7) rfl (⟨hAn, hen, .inr ⟨rfl, hL41, hPn, hSn⟩⟩)
  exact L73 _ (1) (0) (w1) rfl (⟨hA1, e35, .inr ⟨rfl, by omega, hP1, e23, fun i hi => by omega⟩⟩)
theorem K_textS {d : Nat} (hd : 42 ≤ d) (k : Nat) (hk : k < 4) (w : qW) (hI : yInv zgf zga zra zSp w) : qG none d 245 0 [(2, 95), (0, ((k : Nat) : Int)), (9, 0)] [] w 142 (TXQ w) := by
  generalize hQ9 : (TXQ w) = Q9
  obtain ⟨d, rfl⟩ : ∃ d9, d = d9 + 1 := ⟨d - 1, by omega⟩
  refine qG.blk 6 (pc' := 8) (ls' := [(2, 95), (0, ((k : Nat) : Int)), (9, 0)]) (st' := [(0, 4), (0, 0), (0, ((k : Nat) : Int))]) (w' := (qup w 95 30 0)) (n' := 142) rfl ?_
  refine qG.call (t := 206) (na := 3) (sk := 0) (md := 0) (ls1 := [(0, ((k : Nat) : Int)), (0, 0), (0, 4)]) (r1 := []) rfl rfl rfl rfl rfl (K_isIn (by omega) _ _ _ _) ?_
  rintro _ w7 _ ⟨rfl, hw7, rfl⟩
  rw [hw7]
  show qG none (d + 1) 245 11 [(2, 95), (0, ((k : Nat) : Int)), (9, 0)] [(0, isInV ((k : Nat) : Int) 0 4)] (qup w 95 30 0) 142 Q9
  refine qG.br (P := isInV ((k : Nat) : Int) 0 4 = 0) (pc1 := 14) (pc2 := 31) (st1 := []) rfl (fun hin => ?_) (fun hin => ?_)
  · exfalso; unfold isInV at hin; (repeat' split at hin) <;> omega
  · skip
    refine qG.blk 3 (pc' := 34) (ls' := [(2, 95), (0, ((k : Nat) : Int)), (9, 0)]) (st' := [(0, 4), (0, ((k : Nat) : Int)), (2, 95)]) (w' := (qup w 95 30 0)) (n' := 142) rfl ?_
    refine qG.br (P := ((k : Nat) : Int) < 4) (pc1 := 37) (pc2 := 41) (st1 := [(2, 95)]) rfl (fun hk4 => ?_) (fun hk4 => ?_)
    · skip
      refine qG.blk 2 (pc' := 42) (ls' := [(2, 95), (0, ((k : Nat) : Int)), (9, 0)]) (st' := [(0, 1), (2, 95)]) (w' := (qup w 95 30 0)) (n' := 142) rfl ?_
      refine qG.gd (P := (0 < (95 : Int) ∧ (95 : Int) ≤ ((142 : Nat) : Int)) ∧ 0 ≤ 1 ∧ 1 ≤ 1) (pc' := 45) (ls' := [(2, 95), (0, ((k : Nat) : Int)), (9, 0)]) (st' := []) (w' := (qup (qup w 95 30 0) 95 35 1)) (n' := 142) rfl (by omega) ?_
      refine qG.blk 11 (pc' := 64) (ls' := [(2, 95), (0, ((k : Nat) : Int)), (9, 0)]) (st' := [(2, w 95 15)]) (w' := (qup (qup (qup (qup (qup w 95 30 0) 95 35 1) 95 26 0) 95 23 0) 95 24 0)) (n' := 142) rfl ?_
      rw [show w 95 15 = 109 from zref hI rfl rfl]
      refine qG.blk 2 (pc' := 66) (ls' := [(2, 95), (0, ((k : Nat) : Int)), (9, 0)]) (st' := [(0, 0), (0, 0), (2, 109)]) (w' := (qup (qup (qup (qup (qup w 95 30 0) 95 35 1) 95 26 0) 95 23 0) 95 24 0)) (n' := 142) rfl ?_
      refine qG.ar (P := 0 ≤ 0 ∧ 0 < ((21 : Nat) : Int)) (P2 := 0 < (109 : Int) ∧ (109 : Int) ≤ ((142 : Nat) : Int)) (pc' := 67) (ls' := [(2, 95), (0, ((k : Nat) : Int)), (9, 0)]) (st' := []) (w' := (qup (qup (qup (qup (qup (qup w 95 30 0) 95 35 1) 95 26 0) 95 23 0) 95 24 0) 109 0 0)) (n' := 142) rfl (by omega) (by decide) ?_
      subst hQ9
      exact K_textBS (by omega) k hk w hI
    · exfalso; omega
theorem K_textBP {d : Nat} (hd : 42 ≤ d) (w : qW) (hI : yInv zgf zga zra zSp w) : qG none d 245 67 [(2, 95), (0, 4), (9, 0)] [] (txW w 0) 142 (TXQ w) := by
  generalize hQ9 : (TXQ w) = Q9
  obtain ⟨d, rfl⟩ : ∃ d9, d = d9 + 1 := ⟨d - 1, by omega⟩
  have hAT : AW XN w (txW w 0) := txW_A hI (by decide) (by decide)
  refine qG.blk 1 (pc' := 68) (ls' := [(2, 95), (0, 4), (9, 0)]) (st' := [(2, 95)]) (w' := (txW w 0)) (n' := 142) rfl ?_
  refine qG.call (t := 231) (na := 1) (sk := 1) (md := 1) (ls1 := [(2, 95), (9, 0)]) (r1 := []) rfl rfl rfl rfl rfl (K_next0 (by omega) (txW w 0) hAT.1) ?_
  rintro _ w1 _ ⟨rfl, rfl, hX1⟩
  obtain ⟨hN1, hg1, hg2, hg3⟩ := hX1.look hAT.1
  have hA1 : AW XN w w1 := hAT.tr hN1 (by decide +kernel)
  have hP1 : PI w1 := ⟨hN1.1, hg2, hg3⟩
  have e23 : w1 95 23 = 0 := (hN1.2 95 23 (fun _ => rfl)).trans (by unfold txW; simp (disch := decide) only [qup_ne, qup_j, qup_k])
  have e24 : w1 95 24 = 0 := (hN1.2 95 24 (fun _ => rfl)).trans (by unfold txW; simp (disch := decide) only [qup_ne, qup_j, qup_k])
  have e35 : w1 95 35 = 0 := (hN1.2 95 35 (fun _ => rfl)).trans (by unfold txW; simp (disch := decide) only [qup_ne, qup_j, qup_k])
  have e109 : w1 109 0 = 0 := (hN1.2 109 0 (fun _ => rfl)).trans (by unfold txW; simp (disch := decide) only [qup_ne, qup_j, qup_k])
  have hb1 := hP1.b
  show qG none (d + 1) 245 71 [(2, 95), (0, 4), (9, 0)] [] w1 142 Q9
  refine qG.blk 2 (pc' := 73) (ls' := [(2, 95), (0, 4), (0, 1)]) (st' := []) (w' := w1) (n' := 142) rfl ?_
  have L73 : ∀ (m9 : Nat) (good : Int) (L : Nat) (wL : qW), (good * (601 - wL 95 28)).toNat = m9 → (AW XN w wL ∧ wL 95 35 = 0 ∧ (good = 0 ∨ (good = 1 ∧ L ≤ 20 ∧ PI wL ∧ wL 95 24 ≤ wL 95 28 ∧ RsL wL L))) → qG none (d + 1) 245 73 [(2, 95), (0, 4), (0, good)] [] wL 142 Q9 := by
    intro m9
    induction m9 using Nat.strongRecOn with
    | ind m9 ih73 =>
    intro good L wL hm73 hI73
    obtain ⟨hAL, heL, hOr⟩ := hI73
    refine qG.blk 1 (pc' := 74) (ls' := [(2, 95), (0, 4), (0, good)]) (st' := [(0, good)]) (w' := wL) (n' := 142) rfl ?_
    refine qG.br (P := good = 0) (pc1 := 106) (pc2 := 77) (st1 := []) rfl (fun hg => ?_) (fun hg => ?_)
    · skip
      subst hg
      refine qG.blk 9 (pc' := 121) (ls' := [(2, 95), (0, 4), (0, 0)]) (st' := [(0, 0), (2, 95)]) (w' := (qup (qup wL 95 25 0) 95 32 (wL 95 30))) (n' := 142) rfl ?_
      refine qG.br (P := (0 : Int) = 0) (pc1 := 128) (pc2 := 124) (st1 := [(2, 95)]) rfl (fun h1 => ?_) (fun h1 => ?_)
      · skip
        refine qG.blk 4 (pc' := 136) (ls' := [(2, 95), (0, 4), (0, 0)]) (st' := [(0, 0)]) (w' := (qup (qup (qup wL 95 25 0) 95 32 (wL 95 30)) 95 34 (wL 95 31))) (n' := 142) rfl ?_
        refine qG.br (P := (0 : Int) = 0) (pc1 := 139) (pc2 := 141) (st1 := []) rfl (fun h2 => ?_) (fun h2 => ?_)
        · skip
          refine qG.blk 1 (pc' := 140) (ls' := [(2, 95), (0, 4), (0, 0)]) (st' := [(0, (-1))]) (w' := (qup (qup (qup wL 95 25 0) 95 32 (wL 95 30)) 95 34 (wL 95 31))) (n' := 142) rfl ?_
          refine qG.ret rfl rfl ?_
          subst hQ9
          exact TXQ.xn (tlW_A hAL (v := wL 95 31) (Int.le_trans (by decide) (zfld hAL.1 (j := 31) (b := (0, 600)) rfl).1) (zfld hAL.1 (j := 31) (b := (0, 600)) rfl).2)
        · exact absurd h2 (by decide)
      · exact absurd h1 (by decide)
    · skip
      obtain ⟨hg1, hL40, hPL, hDL, hSL⟩ := hOr.resolve_left hg
      subst hg1
      have hbL := hPL.b
      refine qG.blk 2 (pc' := 81) (ls' := [(2, 95), (0, 4), (0, 1)]) (st' := [(0, wL 95 27)]) (w' := wL) (n' := 142) rfl ?_
      refine qG.br (P := wL 95 27 = 0) (pc1 := 106) (pc2 := 84) (st1 := []) rfl (fun htok => ?_) (fun htok => ?_)
      · skip
        refine qG.blk 9 (pc' := 121) (ls' := [(2, 95), (0, 4), (0, 1)]) (st' := [(0, 1), (2, 95)]) (w' := (qup (qup wL 95 25 0) 95 32 (wL 95 30))) (n' := 142) rfl ?_
        refine qG.br (P := (1 : Int) = 0) (pc1 := 128) (pc2 := 124) (st1 := [(2, 95)]) rfl (fun h3 => ?_) (fun h3 => ?_)
        · exact absurd h3 (by decide)
        · skip
          refine qG.blk 4 (pc' := 136) (ls' := [(2, 95), (0, 4), (0, 1)]) (st' := [(0, 1)]) (w' := (qup (qup (qup wL 95 25 0) 95 32 (wL 95 30)) 95 34 (-1))) (n' := 142) rfl ?_
          refine qG.br (P := (1 : Int) = 0) (pc1 := 139) (pc2 := 141) (st1 := []) rfl (fun h4 => ?_) (fun h4 => ?_)
          · exact absurd h4 (by decide)
          · skip
            refine qG.blk 2 (pc' := 145) (ls' := [(2, 95), (0, 4), (0, 1)]) (st' := [(0, wL 95 35)]) (w' := (qup (qup (qup wL 95 25 0) 95 32 (wL 95 30)) 95 34 (-1))) (n' := 142) rfl ?_
            rw [show wL 95 35 = 0 from heL]
            refine qG.br (P := (0 : Int) = 0) (pc1 := 156) (pc2 := 148) (st1 := []) rfl (fun h5 => ?_) (fun h5 => ?_)
            · skip
              refine qG.blk 1 (pc' := 157) (ls' := [(2, 95), (0, 4), (0, 1)]) (st' := [(2, 95)]) (w' := (qup (qup (qup wL 95 25 0) 95 32 (wL 95 30)) 95 34 (-1))) (n' := 142) rfl ?_
              have hA3 := tlW_A hAL (v := -1) (by decide) (by decide)
              show qG none (d + 1) 245 157 [(2, 95), (0, 4), (0, 1)] [(2, 95)] (tlW wL (-1)) 142 Q9
              refine qG.call (t := 247) (na := 1) (sk := 1) (md := 1) (ls1 := [(2, 95), (9, 0)]) (r1 := []) rfl rfl rfl rfl rfl (K_keepsReasons (by omega) L (tlW wL (-1)) hA3.1 hSL.tl hL40) ?_
              rintro _ _ _ ⟨rfl, rfl, rfl⟩
              show qG none (d + 1) 245 160 [(2, 95), (0, 4), (0, 1)] [] (krW (tlW wL (-1)) L) 142 Q9
              refine qG.blk 2 (pc' := 164) (ls' := [(2, 95), (0, 4), (0, 1)]) (st' := [(0, (krW (tlW wL (-1)) L) 95 23)]) (w' := (krW (tlW wL (-1)) L)) (n' := 142) rfl ?_
              refine qG.ret rfl rfl ?_
              subst hQ9
              exact TXQ.kr hA3 hSL.tl hL40
            · exact absurd h5 (by decide)
      · skip
        refine qG.blk 2 (pc' := 88) (ls' := [(2, 95), (0, 4), (0, 1)]) (st' := [(0, wL 95 35)]) (w' := wL) (n' := 142) rfl ?_
        rw [show wL 95 35 = 0 from heL]
        refine qG.br (P := (0 : Int) = 0) (pc1 := 98) (pc2 := 91) (st1 := []) rfl (fun h6 => ?_) (fun h6 => ?_)
        · skip
          refine qG.blk 1 (pc' := 99) (ls' := [(2, 95), (0, 4), (0, 1)]) (st' := [(2, 95)]) (w' := wL) (n' := 142) rfl ?_
          refine qG.call (t := 244) (na := 1) (sk := 1) (md := 1) (ls1 := [(2, 95)]) (r1 := []) rfl rfl rfl rfl rfl (K_aReason (by omega) L wL hPL hDL hSL hL40) ?_
          rintro _ w7 _ ⟨rfl, ⟨rfl, hS7⟩ | ⟨rfl, hS7, hPn, hSn, hDn, hmn, hL41⟩⟩
          · skip
            show qG none (d + 1) 245 102 [(2, 95), (0, 4), (0, 1)] [(0, 0)] w7 142 Q9
            have hAn := hAL.tr hS7 (by decide +kernel)
            have hen := (hS7.2 95 35 (fun _ => rfl)).trans heL
            have hbn := hbL
            refine qG.blk 2 (pc' := 73) (ls' := [(2, 95), (0, 4), (0, 0)]) (st' := []) (w' := w7) (n' := 142) rfl ?_
            exact ih73 _ (by omega) (0) (L) (w7) rfl (⟨hAn, hen, .inl rfl⟩)
          · skip
            show qG none (d + 1) 245 102 [(2, 95), (0, 4), (0, 1)] [(0, 1)] w7 142 Q9
            have hAn := hAL.tr hS7 (by decide +kernel)
            have hen := (hS7.2 95 35 (fun _ => rfl)).trans heL
            have hbn := hbL
            have hbn2 := hPn.b
            refine qG.blk 2 (pc' := 73) (ls' := [(2, 95), (0, 4), (0, 1)]) (st' := []) (w' := w7) (n' := 142) rfl ?_
            exact ih73 _ (by omega) (1) (L + 1) (w7) rfl (⟨hAn, hen, .inr ⟨rfl, hL41, hPn, hDn, hSn⟩⟩)
        · exact absurd h6 (by decide)
  exact L73 _ (1) (0) (w1) rfl (⟨hA1, e35, .inr ⟨rfl, by omega, hP1, by omega, e23, by rw [e109, e24], fun i hi => by rw [show i = 0 by omega, e109, e24]; omega, fun i hi => by omega⟩⟩)
theorem K_textP {d : Nat} (hd : 42 ≤ d) (w : qW) (hI : yInv zgf zga zra zSp w) : qG none d 245 0 [(2, 95), (0, 4), (9, 0)] [] w 142 (TXQ w) := by
  generalize hQ9 : (TXQ w) = Q9
  obtain ⟨d, rfl⟩ : ∃ d9, d = d9 + 1 := ⟨d - 1, by omega⟩
  refine qG.blk 6 (pc' := 8) (ls' := [(2, 95), (0, 4), (9, 0)]) (st' := [(0, 4), (0, 0), (0, 4)]) (w' := (qup w 95 30 0)) (n' := 142) rfl ?_
  refine qG.call (t := 206) (na := 3) (sk := 0) (md := 0) (ls1 := [(0, 4), (0, 0), (0, 4)]) (r1 := []) rfl rfl rfl rfl rfl (K_isIn (by omega) _ _ _ _) ?_
  rintro _ w7 _ ⟨rfl, hw7, rfl⟩
  rw [hw7]
  show qG none (d + 1) 245 11 [(2, 95), (0, 4), (9, 0)] [(0, isInV 4 0 4)] (qup w 95 30 0) 142 Q9
  refine qG.br (P := isInV 4 0 4 = 0) (pc1 := 14) (pc2 := 31) (st1 := []) rfl (fun hin => ?_) (fun hin => ?_)
  · exfalso; unfold isInV at hin; (repeat' split at hin) <;> omega
  · skip
    refine qG.blk 3 (pc' := 34) (ls' := [(2, 95), (0, 4), (9, 0)]) (st' := [(0, 4), (0, 4), (2, 95)]) (w' := (qup w 95 30 0)) (n' := 142) rfl ?_
    refine qG.br (P := (4 : Int) < 4) (pc1 := 37) (pc2 := 41) (st1 := [(2, 95)]) rfl (fun h1 => ?_) (fun h1 => ?_)
    · exact absurd h1 (by decide)
    · skip
      refine qG.blk 1 (pc' := 42) (ls' := [(2, 95), (0, 4), (9, 0)]) (st' := [(0, 0), (2, 95)]) (w' := (qup w 95 30 0)) (n' := 142) rfl ?_
      refine qG.gd (P := (0 < (95 : Int) ∧ (95 : Int) ≤ ((142 : Nat) : Int)) ∧ 0 ≤ 0 ∧ 0 ≤ 1) (pc' := 45) (ls' := [(2, 95), (0, 4), (9, 0)]) (st' := []) (w' := (qup (qup w 95 30 0) 95 35 0)) (n' := 142) rfl (by omega) ?_
      refine qG.blk 11 (pc' := 64) (ls' := [(2, 95), (0, 4), (9, 0)]) (st' := [(2, w 95 15)]) (w' := (qup (qup (qup (qup (qup w 95 30 0) 95 35 0) 95 26 0) 95 23 0) 95 24 0)) (n' := 142) rfl ?_
      rw [show w 95 15 = 109 from zref hI rfl rfl]
      refine qG.blk 2 (pc' := 66) (ls' := [(2, 95), (0, 4), (9, 0)]) (st' := [(0, 0), (0, 0), (2, 109)]) (w' := (qup (qup (qup (qup (qup w 95 30 0) 95 35 0) 95 26 0) 95 23 0) 95 24 0)) (n' := 142) rfl ?_
      refine qG.ar (P := 0 ≤ 0 ∧ 0 < ((21 : Nat) : Int)) (P2 := 0 < (109 : Int) ∧ (109 : Int) ≤ ((142 : Nat) : Int)) (pc' := 67) (ls' := [(2, 95), (0, 4), (9, 0)]) (st' := []) (w' := (qup (qup (qup (qup (qup (qup w 95 30 0) 95 35 0) 95 26 0) 95 23 0) 95 24 0) 109 0 0)) (n' := 142) rfl (by omega) (by decide) ?_
      subst hQ9
      exact K_textBP (by omega) w hI
theorem K_textX {d : Nat} (hd : 42 ≤ d) (k : Int) (hk : k < 0 ∨ 4 < k) (w : qW) (hI : yInv zgf zga zra zSp w) : qG none d 245 0 [(2, 95), (0, k), (9, 0)] [] w 142 (TXQ w) := by
  generalize hQ9 : (TXQ w) = Q9
  obtain ⟨d, rfl⟩ : ∃ d9, d = d9 + 1 := ⟨d - 1, by omega⟩
  refine qG.blk 6 (pc' := 8) (ls' := [(2, 95), (0, k), (9, 0)]) (st' := [(0, 4), (0, 0), (0, k)]) (w' := (qup w 95 30 0)) (n' := 142) rfl ?_
  refine qG.call (t := 206) (na := 3) (sk := 0) (md := 0) (ls1 := [(0, k), (0, 0), (0, 4)]) (r1 := []) rfl rfl rfl rfl rfl (K_isIn (by omega) _ _ _ _) ?_
  rintro _ w7 _ ⟨rfl, hw7, rfl⟩
  rw [hw7]
  show qG none (d + 1) 245 11 [(2, 95), (0, k), (9, 0)] [(0, isInV k 0 4)] (qup w 95 30 0) 142 Q9
  refine qG.br (P := isInV k 0 4 = 0) (pc1 := 14) (pc2 := 31) (st1 := []) rfl (fun hin => ?_) (fun hin => ?_)
  · skip
    refine qG.blk 10 (pc' := 30) (ls' := [(2, 95), (0, k), (9, 0)]) (st' := [(0, (-1))]) (w' := (qup (qup (qup (qup w 95 30 0) 95 25 0) 95 32 0) 95 34 (-1))) (n' := 142) rfl ?_
    refine qG.ret rfl rfl ?_
    subst hQ9
    have a1 := (AW.rf (m := XN) hI).fld (j := 30) (v := 0) (zup_f hI (b := (0, 3)) rfl rfl rfl ⟨by decide, by decide⟩) (by decide +kernel)
    have a2 := a1.fld (j := 25) (v := 0) (zup_f a1.1 (b := (0, 600)) rfl rfl rfl ⟨by decide, by decide⟩) (by decide +kernel)
    have a3 := a2.fld (j := 32) (v := 0) (zup_f a2.1 (b := (0, 3)) rfl rfl rfl ⟨by decide, by decide⟩) (by decide +kernel)
    exact TXQ.xn (a3.fld (j := 34) (v := -1) (zup_f a3.1 (b := (-1, 600)) rfl rfl rfl ⟨by decide, by decide⟩) (by decide +kernel))
  · exfalso; unfold isInV at hin; (repeat' split at hin) <;> omega
theorem K_text {d : Nat} (hd : 42 ≤ d) (k : Int) (w : qW) (hI : yInv zgf zga zra zSp w) : qG none d 245 0 [(2, 95), (0, k), (9, 0)] [] w 142 (TXQ w) := by
  by_cases h : k < 0 ∨ 4 < k
  · exact K_textX hd k h w hI
  · by_cases h4 : k = 4
    · subst h4; exact K_textP hd w hI
    · have := K_textS hd k.toNat (by omega) w hI
      rwa [show ((k.toNat : Nat) : Int) = k by omega] at this
