/-! the reference's text as a whole: what is kept -/
def XN : List Nat := [113, 25095, 27095, 28095, 29095, 30095, 31095, 32095, 34095, 107, 108, 109, 24095, 26095, 33095, 35095, 36095]
def XM : List Nat := [113, 25095, 27095, 28095, 29095, 30095, 31095, 32095, 34095, 107, 108, 109, 24095, 26095, 33095, 35095, 36095, 23095, 104, 105, 106, 110, 111, 112]
/-- the pamphlet that is told is well made -/
def Sp2 (w : qW) : Prop := ∀ i : Nat, (i : Int) < w 95 22 → 0 ≤ w 111 i ∧ w 111 i ≤ w 111 (i + 1) ∧ w 111 (i + 1) ≤ 610 ∧ ∀ h, runS (w 112) (w 111 i).toNat (w 111 (i + 1) - w 111 i).toNat h = some (h + 1)
theorem XN_a {w w1 : qW} (h : AW XN w w1) {p : Nat} (hp : p < 1000) (hf : XN.all (fun e => !Nat.beq (e % 1000) p) = true) (j : Nat) : w1 p j = w p j := h.2 p j (fun _ => ymo_far hp hf j)
theorem Sp1.cong {w w1 : qW} (h : Sp1 w) (a : ∀ j, w1 104 j = w 104 j) (b : ∀ j, w1 105 j = w 105 j) : Sp1 w1 := fun j hj hk => by rw [b]; rw [a] at hk; exact h j hj hk
theorem Sp2.cong {w w1 : qW} (h : Sp2 w) (a : w1 95 22 = w 95 22) (b : ∀ j, w1 111 j = w 111 j) (c : ∀ j, w1 112 j = w 112 j) : Sp2 w1 := fun i hi => by
  rw [a] at hi
  have := h i hi
  rw [b, b, show w1 112 = w 112 from funext c]
  exact this
theorem Sp1.xn {w w1 : qW} (h : Sp1 w) (a : AW XN w w1) : Sp1 w1 := h.cong (XN_a a (by decide) (by decide +kernel)) (XN_a a (by decide) (by decide +kernel))
theorem Sp2.xn {w w1 : qW} (h : Sp2 w) (a : AW XN w w1) : Sp2 w1 := h.cong (a.2 95 22 (fun _ => rfl)) (XN_a a (by decide) (by decide +kernel)) (XN_a a (by decide) (by decide +kernel))
/-- the first n places of one row into another -/
def cpW (w : qW) (s t : Nat) : Nat → qW
  | 0 => w
  | i + 1 => qup (cpW w s t i) t i (w s i)
theorem cpW_o {w : qW} {s t p : Nat} (h : p ≠ t) : ∀ n j, cpW w s t n p j = w p j
  | 0, _ => rfl
  | n + 1, j => by show qup _ t n _ p j = _; rw [qup_ne h]; exact cpW_o h n j
theorem cpW_t {w : qW} {s t : Nat} : ∀ n j, cpW w s t n t j = if j < n then w s j else w t j
  | 0, j => by rw [if_neg (by omega)]; rfl
  | n + 1, j => by
    show qup _ t n _ t j = _
    by_cases e : j = n
    · subst e; rw [qup_k, if_pos (by omega)]
    · rw [qup_j e, cpW_t n j]
      by_cases c : j < n
      · rw [if_pos c, if_pos (by omega)]
      · rw [if_neg c, if_neg (by omega)]
theorem cpW_I {w : qW} {s t : Nat} {b : yI} (hI : yInv zgf zga zra zSp w) (ht : zga t = some b) (hy : yarr t = true) : ∀ n, (∀ j, j < n → yin b (w s j)) → yInv zgf zga zra zSp (cpW w s t n)
  | 0, _ => hI
  | n + 1, h => zup_a (cpW_I hI ht hy n (fun j hj => h j (by omega))) (b := b) ht hy (h n (by omega))
/-- show k out of the fresh steps -/
def ksW (w : qW) (k : Nat) : Nat → qW
  | 0 => qup w 106 k (w 95 23)
  | i + 1 => qup (qup (ksW w k i) 104 (40 * k + i) (w 107 i)) 105 (40 * k + i) (w 108 i)
theorem ksW_o {w : qW} {k p : Nat} (h : p ≠ 104 ∧ p ≠ 105 ∧ p ≠ 106) : ∀ n j, ksW w k n p j = w p j
  | 0, j => by show qup _ 106 k _ p j = _; rw [qup_ne h.2.2]
  | n + 1, j => by show qup (qup _ 104 _ _) 105 _ _ p j = _; rw [qup_ne h.2.1, qup_ne h.1]; exact ksW_o h n j
theorem ksW_4 {w : qW} {k : Nat} : ∀ n j, ksW w k n 104 j = if 40 * k ≤ j ∧ j < 40 * k + n then w 107 (j - 40 * k) else w 104 j
  | 0, j => by rw [if_neg (by omega)]; show qup _ 106 k _ 104 j = _; rw [qup_ne (by decide)]
  | n + 1, j => by
    show qup (qup _ 104 _ _) 105 _ _ 104 j = _
    rw [qup_ne (by decide)]
    by_cases e : j = 40 * k + n
    · subst e; rw [qup_k, if_pos (by omega), show 40 * k + n - 40 * k = n by omega]
    · rw [qup_j e, ksW_4 n j]
      by_cases c : 40 * k ≤ j ∧ j < 40 * k + n
      · rw [if_pos c, if_pos (by omega)]
      · rw [if_neg c, if_neg (by omega)]
theorem ksW_5 {w : qW} {k : Nat} : ∀ n j, ksW w k n 105 j = if 40 * k ≤ j ∧ j < 40 * k + n then w 108 (j - 40 * k) else w 105 j
  | 0, j => by rw [if_neg (by omega)]; show qup _ 106 k _ 105 j = _; rw [qup_ne (by decide)]
  | n + 1, j => by
    show qup (qup _ 104 _ _) 105 _ _ 105 j = _
    by_cases e : j = 40 * k + n
    · subst e; rw [qup_k, if_pos (by omega), show 40 * k + n - 40 * k = n by omega]
    · rw [qup_j e, qup_ne (by decide), ksW_5 n j]
      by_cases c : 40 * k ≤ j ∧ j < 40 * k + n
      · rw [if_pos c, if_pos (by omega)]
      · rw [if_neg c, if_neg (by omega)]
theorem ksW_I {w : qW} {k : Nat} (hI : yInv zgf zga zra zSp w) : ∀ n, yInv zgf zga zra zSp (ksW w k n)
  | 0 => zup_a hI (b := (0, 40)) rfl rfl (zfld hI (j := 23) (b := (0, 40)) rfl)
  | n + 1 => zup_a (zup_a (ksW_I hI n) (b := (0, 5)) rfl rfl (hI.2.1 107 n (0, 5) rfl rfl)) (b := (0, 9999)) rfl rfl (hI.2.1 108 n (0, 9999) rfl rfl)
theorem ksW_Sp1 {w : qW} {k L : Nat} (h : Sp1 w) (hL : SL w L) : Sp1 (ksW w k L) := fun j hj hk => by
  rw [ksW_4] at hk
  rw [ksW_5]
  by_cases c : 40 * k ≤ j ∧ j < 40 * k + L
  · rw [if_pos c] at hk ⊢; exact hL.2 _ (by omega) hk
  · rw [if_neg c] at hk ⊢; exact h j hj hk
def krW (w : qW) (L : Nat) : qW := cpW (cpW (cpW (qup w 95 22 (w 95 23)) 108 110 L) 109 111 (L + 1)) 113 112 (2 * (w 95 24).toNat)
theorem krW_o {w : qW} {L p j : Nat} (h : p ≠ 110 ∧ p ≠ 111 ∧ p ≠ 112 ∧ ¬ (p = 95 ∧ j = 22)) : krW w L p j = w p j := by
  unfold krW
  rw [cpW_o h.2.2.1, cpW_o h.2.1, cpW_o h.1, qup95 h.2.2.2]
theorem krW_I {w : qW} {L : Nat} (hI : yInv zgf zga zra zSp w) (h : RsL w L) (hL : L ≤ 20) : yInv zgf zga zra zSp (krW w L) := by
  have h1 : yInv zgf zga zra zSp (qup w 95 22 (w 95 23)) := zup_f hI (b := (0, 20)) rfl rfl rfl ⟨by show (0 : Int) ≤ _; rw [h.1]; omega, by show _ ≤ (20 : Int); rw [h.1]; omega⟩
  have h2 := cpW_I h1 (t := 110) (s := 108) (b := (0, 1)) rfl rfl L (fun j hj => by
    rw [qup_ne (by decide)]
    rcases (h.2.2.2 j hj).1 with e | e <;> rw [e] <;> exact ⟨by decide, by decide⟩)
  have h3 := cpW_I h2 (t := 111) (s := 109) (b := (0, 610)) rfl rfl (L + 1) (fun j _ => h2.2.1 109 j (0, 610) rfl rfl)
  exact cpW_I h3 (t := 112) (s := 113) (b := (-2147483648, 2147483647)) rfl rfl _ (fun j _ => h3.2.1 113 j (-2147483648, 2147483647) rfl rfl)
theorem krW_Sp2 {w : qW} {L : Nat} (hI : yInv zgf zga zra zSp w) (h : RsL w L) : Sp2 (krW w L) := fun i hi => by
  have e22 : krW w L 95 22 = (L : Int) := by
    unfold krW
    rw [cpW_o (by decide), cpW_o (by decide), cpW_o (by decide), qup_k, h.1]
  rw [e22] at hi
  have e111 : ∀ j, j ≤ L → krW w L 111 j = w 109 j := fun j hj => by
    unfold krW
    rw [cpW_o (by decide), cpW_t, if_pos (by omega), cpW_o (by decide), qup_ne (by decide)]
  have e112 : ∀ j : Nat, (j : Int) < 2 * w 95 24 → krW w L 112 j = w 113 j := fun j hj => by
    unfold krW
    rw [cpW_t, if_pos (by omega), cpW_o (by decide), cpW_o (by decide), qup_ne (by decide)]
  have f1 := h.2.2.1 i (by omega)
  have f2 := h.2.2.1 (i + 1) (by omega)
  have f3 := h.2.2.2 i (by omega)
  have f4 := zfld hI (j := 24) (b := (0, 610)) rfl
  have f5 : w 95 24 ≤ (610 : Int) := f4.2
  rw [e111 i (by omega), e111 (i + 1) (by omega)]
  refine ⟨f1.1, f3.2.1, by omega, fun q => ?_⟩
  rw [← f3.2.2 q]
  exact runS_cong _ (fun j h1 h2 => e112 j (by omega))
theorem K_keepsShow {d : Nat} (hd : 0 ≤ d) (k : Nat) (hk : k < 4) (w : qW) (hI : yInv zgf zga zra zSp w) : qG none d 246 0 [(2, 95), (0, ((k : Nat) : Int)), (9, 0)] [] w 142 (fun (r : qV) (w1 : qW) (n1 : Nat) => r = (9, 0) ∧ w1 = ksW w k (w 95 23).toNat ∧ n1 = 142) := by
  generalize hQ9 : (fun (r : qV) (w1 : qW) (n1 : Nat) => r = (9, 0) ∧ w1 = ksW w k (w 95 23).toNat ∧ n1 = 142) = Q9
  have h23 := zfld hI (j := 23) (b := (0, 40)) rfl
  have a23 : (0 : Int) ≤ w 95 23 := h23.1
  have b23 : w 95 23 ≤ (40 : Int) := h23.2
  refine qG.blk 2 (pc' := 4) (ls' := [(2, 95), (0, ((k : Nat) : Int)), (9, 0)]) (st' := [(2, w 95 12)]) (w' := w) (n' := 142) rfl ?_
  rw [show w 95 12 = 106 from zref hI rfl rfl]
  refine qG.blk 3 (pc' := 9) (ls' := [(2, 95), (0, ((k : Nat) : Int)), (9, 0)]) (st' := [(0, w 95 23), (0, ((k : Nat) : Int)), (2, 106)]) (w' := w) (n' := 142) rfl ?_
  refine qG.ar (P := 0 ≤ ((k : Nat) : Int) ∧ ((k : Nat) : Int) < ((4 : Nat) : Int)) (P2 := 0 < (106 : Int) ∧ (106 : Int) ≤ ((142 : Nat) : Int)) (pc' := 10) (ls' := [(2, 95), (0, ((k : Nat) : Int)), (9, 0)]) (st' := []) (w' := (qup w 106 k (w 95 23))) (n' := 142) rfl (by omega) (by decide) ?_
  refine qG.blk 2 (pc' := 12) (ls' := [(2, 95), (0, ((k : Nat) : Int)), (0, 0)]) (st' := []) (w' := (qup w 106 k (w 95 23))) (n' := 142) rfl ?_
  have L12 : ∀ (m9 : Nat) (i : Nat) (wS : qW), (w 95 23).toNat - i = m9 → ((i : Int) ≤ w 95 23 ∧ wS = ksW w k i) → qG none d 246 12 [(2, 95), (0, ((k : Nat) : Int)), (0, ((i : Nat) : Int))] [] wS 142 Q9 := by
    intro m9
    induction m9 using Nat.strongRecOn with
    | ind m9 ih12 =>
    intro i wS hm12 hI12
    obtain ⟨hi9, hwS⟩ := hI12
    have hIS : yInv zgf zga zra zSp wS := hwS ▸ ksW_I hI i
    refine qG.blk 3 (pc' := 17) (ls' := [(2, 95), (0, ((k : Nat) : Int)), (0, ((i : Nat) : Int))]) (st' := [(0, wS 95 23), (0, ((i : Nat) : Int))]) (w' := wS) (n' := 142) rfl ?_
    rw [show wS 95 23 = w 95 23 from (congrFun (congrFun hwS 95) 23).trans (ksW_o (by decide) i 23)]
    refine qG.br (P := ((i : Nat) : Int) < w 95 23) (pc1 := 20) (pc2 := 60) (st1 := []) rfl (fun hlt => ?_) (fun hlt => ?_)
    · skip
      refine qG.blk 2 (pc' := 24) (ls' := [(2, 95), (0, ((k : Nat) : Int)), (0, ((i : Nat) : Int))]) (st' := [(2, wS 95 10)]) (w' := wS) (n' := 142) rfl ?_
      rw [show wS 95 10 = 104 from zref hIS rfl rfl]
      refine qG.blk 3 (pc' := 28) (ls' := [(2, 95), (0, ((k : Nat) : Int)), (0, ((i : Nat) : Int))]) (st' := [(0, wrp (40 * ((k : Nat) : Int))), (2, 104)]) (w' := wS) (n' := 142) rfl ?_
      rw [show wrp (40 * ((k : Nat) : Int)) = ((40 * k : Nat) : Int) from by rw [wrp_id (by omega) (by omega)]; omega]
      refine qG.blk 2 (pc' := 30) (ls' := [(2, 95), (0, ((k : Nat) : Int)), (0, ((i : Nat) : Int))]) (st' := [(0, wrp (((40 * k : Nat) : Int) + ((i : Nat) : Int))), (2, 104)]) (w' := wS) (n' := 142) rfl ?_
      rw [show wrp (((40 * k : Nat) : Int) + ((i : Nat) : Int)) = ((40 * k + i : Nat) : Int) from by rw [wrp_id (by omega) (by omega)]; omega]
      refine qG.blk 2 (pc' := 34) (ls' := [(2, 95), (0, ((k : Nat) : Int)), (0, ((i : Nat) : Int))]) (st' := [(2, wS 95 13), (0, ((40 * k + i : Nat) : Int)), (2, 104)]) (w' := wS) (n' := 142) rfl ?_
      rw [show wS 95 13 = 107 from zref hIS rfl rfl]
      refine qG.blk 1 (pc' := 35) (ls' := [(2, 95), (0, ((k : Nat) : Int)), (0, ((i : Nat) : Int))]) (st' := [(0, ((i : Nat) : Int)), (2, 107), (0, ((40 * k + i : Nat) : Int)), (2, 104)]) (w' := wS) (n' := 142) rfl ?_
      refine qG.ar (P := 0 ≤ ((i : Nat) : Int) ∧ ((i : Nat) : Int) < ((40 : Nat) : Int)) (P2 := 0 < (107 : Int) ∧ (107 : Int) ≤ ((142 : Nat) : Int)) (pc' := 36) (ls' := [(2, 95), (0, ((k : Nat) : Int)), (0, ((i : Nat) : Int))]) (st' := [(0, wS 107 i), (0, ((40 * k + i : Nat) : Int)), (2, 104)]) (w' := wS) (n' := 142) rfl (by omega) (by decide) ?_
      rw [show wS 107 i = w 107 i from (congrFun (congrFun hwS 107) i).trans (ksW_o (by decide) i i)]
      refine qG.ist (m := 160) rfl rfl (by omega) (by decide) ?_
      show qG none d 246 37 [(2, 95), (0, ((k : Nat) : Int)), (0, ((i : Nat) : Int))] [] (qup wS 104 (40 * k + i) (w 107 i)) 142 Q9
      refine qG.blk 2 (pc' := 41) (ls' := [(2, 95), (0, ((k : Nat) : Int)), (0, ((i : Nat) : Int))]) (st' := [(2, wS 95 11)]) (w' := (qup wS 104 (40 * k + i) (w 107 i))) (n' := 142) rfl ?_
      rw [show wS 95 11 = 105 from zref hIS rfl rfl]
      refine qG.blk 3 (pc' := 45) (ls' := [(2, 95), (0, ((k : Nat) : Int)), (0, ((i : Nat) : Int))]) (st' := [(0, wrp (40 * ((k : Nat) : Int))), (2, 105)]) (w' := (qup wS 104 (40 * k + i) (w 107 i))) (n' := 142) rfl ?_
      rw [show wrp (40 * ((k : Nat) : Int)) = ((40 * k : Nat) : Int) from by rw [wrp_id (by omega) (by omega)]; omega]
      refine qG.blk 2 (pc' := 47) (ls' := [(2, 95), (0, ((k : Nat) : Int)), (0, ((i : Nat) : Int))]) (st' := [(0, wrp (((40 * k : Nat) : Int) + ((i : Nat) : Int))), (2, 105)]) (w' := (qup wS 104 (40 * k + i) (w 107 i))) (n' := 142) rfl ?_
      rw [show wrp (((40 * k : Nat) : Int) + ((i : Nat) : Int)) = ((40 * k + i : Nat) : Int) from by rw [wrp_id (by omega) (by omega)]; omega]
      refine qG.blk 2 (pc' := 51) (ls' := [(2, 95), (0, ((k : Nat) : Int)), (0, ((i : Nat) : Int))]) (st' := [(2, wS 95 14), (0, ((40 * k + i : Nat) : Int)), (2, 105)]) (w' := (qup wS 104 (40 * k + i) (w 107 i))) (n' := 142) rfl ?_
      rw [show wS 95 14 = 108 from zref hIS rfl rfl]
      refine qG.blk 1 (pc' := 52) (ls' := [(2, 95), (0, ((k : Nat) : Int)), (0, ((i : Nat) : Int))]) (st' := [(0, ((i : Nat) : Int)), (2, 108), (0, ((40 * k + i : Nat) : Int)), (2, 105)]) (w' := (qup wS 104 (40 * k + i) (w 107 i))) (n' := 142) rfl ?_
      refine qG.ar (P := 0 ≤ ((i : Nat) : Int) ∧ ((i : Nat) : Int) < ((40 : Nat) : Int)) (P2 := 0 < (108 : Int) ∧ (108 : Int) ≤ ((142 : Nat) : Int)) (pc' := 53) (ls' := [(2, 95), (0, ((k : Nat) : Int)), (0, ((i : Nat) : Int))]) (st' := [(0, wS 108 i), (0, ((40 * k + i : Nat) : Int)), (2, 105)]) (w' := (qup wS 104 (40 * k + i) (w 107 i))) (n' := 142) rfl (by omega) (by decide) ?_
      rw [show wS 108 i = w 108 i from (congrFun (congrFun hwS 108) i).trans (ksW_o (by decide) i i)]
      refine qG.ist (m := 160) rfl rfl (by omega) (by decide) ?_
      show qG none d 246 54 [(2, 95), (0, ((k : Nat) : Int)), (0, ((i : Nat) : Int))] [] (qup (qup wS 104 (40 * k + i) (w 107 i)) 105 (40 * k + i) (w 108 i)) 142 Q9
      refine qG.blk 1 (pc' := 57) (ls' := [(2, 95), (0, ((k : Nat) : Int)), (0, wrp (((i : Nat) : Int) + 1))]) (st' := []) (w' := (qup (qup wS 104 (40 * k + i) (w 107 i)) 105 (40 * k + i) (w 108 i))) (n' := 142) rfl ?_
      rw [show wrp (((i : Nat) : Int) + 1) = ((i + 1 : Nat) : Int) from wrp_id (by omega) (by omega)]
      refine qG.blk 1 (pc' := 12) (ls' := [(2, 95), (0, ((k : Nat) : Int)), (0, ((i + 1 : Nat) : Int))]) (st' := []) (w' := (qup (qup wS 104 (40 * k + i) (w 107 i)) 105 (40 * k + i) (w 108 i))) (n' := 142) rfl ?_
      exact ih12 _ (by omega) (i + 1) ((qup (qup wS 104 (40 * k + i) (w 107 i)) 105 (40 * k + i) (w 108 i))) rfl (⟨by omega, by rw [hwS]; rfl⟩)
    · skip
      refine qG.retv rfl rfl ?_
      subst hQ9
      exact ⟨rfl, by rw [hwS, show (w 95 23).toNat = i by omega], rfl⟩
  exact L12 _ (0) ((qup w 106 k (w 95 23))) rfl (⟨by omega, rfl⟩)
theorem K_keepsReasons {d : Nat} (hd : 0 ≤ d) (L : Nat) (w : qW) (hI : yInv zgf zga zra zSp w) (hR : RsL w L) (hL : L ≤ 20) : qG none d 247 0 [(2, 95), (9, 0)] [] w 142 (fun (r : qV) (w1 : qW) (n1 : Nat) => r = (9, 0) ∧ w1 = krW w L ∧ n1 = 142) := by
  generalize hQ9 : (fun (r : qV) (w1 : qW) (n1 : Nat) => r = (9, 0) ∧ w1 = krW w L ∧ n1 = 142) = Q9
  have e23 := hR.1
  have h24 := zfld hI (j := 24) (b := (0, 610)) rfl
  have a24 : (0 : Int) ≤ w 95 24 := h24.1
  have b24 : w 95 24 ≤ (610 : Int) := h24.2
  have hI1 : yInv zgf zga zra zSp (qup w 95 22 (w 95 23)) := zup_f hI (b := (0, 20)) rfl rfl rfl ⟨by show (0 : Int) ≤ _; omega, by show _ ≤ (20 : Int); omega⟩
  have hs8 : ∀ j, j < L → yin (0, 1) ((qup w 95 22 (w 95 23)) 108 j) := fun j hj => by
    rw [qup_ne (by decide)]
    rcases (hR.2.2.2 j hj).1 with e | e <;> rw [e] <;> exact ⟨by decide, by decide⟩
  have hI2 : yInv zgf zga zra zSp (cpW (qup w 95 22 (w 95 23)) 108 110 L) := cpW_I hI1 (t := 110) (s := 108) (b := (0, 1)) rfl rfl L hs8
  have hI3 : yInv zgf zga zra zSp (cpW (cpW (qup w 95 22 (w 95 23)) 108 110 L) 109 111 (L + 1)) := cpW_I hI2 (t := 111) (s := 109) (b := (0, 610)) rfl rfl (L + 1) (fun j _ => hI2.2.1 109 j (0, 610) rfl rfl)
  refine qG.blk 6 (pc' := 10) (ls' := [(2, 95), (0, 0)]) (st' := []) (w' := (qup w 95 22 (w 95 23))) (n' := 142) rfl ?_
  have L10 : ∀ (m9 : Nat) (i : Nat) (wA : qW), L - i = m9 → (i ≤ L ∧ wA = cpW (qup w 95 22 (w 95 23)) 108 110 i) → qG none d 247 10 [(2, 95), (0, ((i : Nat) : Int))] [] wA 142 Q9 := by
    intro m9
    induction m9 using Nat.strongRecOn with
    | ind m9 ih10 =>
    intro i wA hm10 hI10
    obtain ⟨hi10, hwwA⟩ := hI10
    have hIwA : yInv zgf zga zra zSp wA := hwwA ▸ cpW_I hI1 (t := 110) (s := 108) (b := (0, 1)) rfl rfl i (fun j hj => hs8 j (by omega))
    refine qG.blk 3 (pc' := 15) (ls' := [(2, 95), (0, ((i : Nat) : Int))]) (st' := [(0, wA 95 23), (0, ((i : Nat) : Int))]) (w' := wA) (n' := 142) rfl ?_
    rw [show wA 95 23 = w 95 23 from (congrFun (congrFun hwwA 95) 23).trans (by rw [cpW_o (by decide), qup_j (by decide)])]
    refine qG.br (P := ((i : Nat) : Int) < w 95 23) (pc1 := 18) (pc2 := 36) (st1 := []) rfl (fun h1 => ?_) (fun h1 => ?_)
    · skip
      refine qG.blk 2 (pc' := 22) (ls' := [(2, 95), (0, ((i : Nat) : Int))]) (st' := [(2, wA 95 16)]) (w' := wA) (n' := 142) rfl ?_
      rw [show wA 95 16 = 110 from zref hIwA rfl rfl]
      refine qG.blk 3 (pc' := 27) (ls' := [(2, 95), (0, ((i : Nat) : Int))]) (st' := [(2, wA 95 14), (0, ((i : Nat) : Int)), (2, 110)]) (w' := wA) (n' := 142) rfl ?_
      rw [show wA 95 14 = 108 from zref hIwA rfl rfl]
      refine qG.blk 1 (pc' := 28) (ls' := [(2, 95), (0, ((i : Nat) : Int))]) (st' := [(0, ((i : Nat) : Int)), (2, 108), (0, ((i : Nat) : Int)), (2, 110)]) (w' := wA) (n' := 142) rfl ?_
      refine qG.ar (P := 0 ≤ ((i : Nat) : Int) ∧ ((i : Nat) : Int) < ((40 : Nat) : Int)) (P2 := 0 < (108 : Int) ∧ (108 : Int) ≤ ((142 : Nat) : Int)) (pc' := 29) (ls' := [(2, 95), (0, ((i : Nat) : Int))]) (st' := [(0, wA 108 i), (0, ((i : Nat) : Int)), (2, 110)]) (w' := wA) (n' := 142) rfl (by omega) (by decide) ?_
      rw [show wA 108 i = w 108 i from (congrFun (congrFun hwwA 108) i).trans (by rw [cpW_o (by decide), qup_ne (by decide)])]
      refine qG.ar (P := 0 ≤ ((i : Nat) : Int) ∧ ((i : Nat) : Int) < ((20 : Nat) : Int)) (P2 := 0 < (110 : Int) ∧ (110 : Int) ≤ ((142 : Nat) : Int)) (pc' := 30) (ls' := [(2, 95), (0, ((i : Nat) : Int))]) (st' := []) (w' := (qup wA 110 i (w 108 i))) (n' := 142) rfl (by omega) (by decide) ?_
      refine qG.blk 1 (pc' := 33) (ls' := [(2, 95), (0, wrp (((i : Nat) : Int) + 1))]) (st' := []) (w' := (qup wA 110 i (w 108 i))) (n' := 142) rfl ?_
      rw [show wrp (((i : Nat) : Int) + 1) = ((i + 1 : Nat) : Int) from wrp_id (by omega) (by omega)]
      refine qG.blk 1 (pc' := 10) (ls' := [(2, 95), (0, ((i + 1 : Nat) : Int))]) (st' := []) (w' := (qup wA 110 i (w 108 i))) (n' := 142) rfl ?_
      exact ih10 _ (by omega) (i + 1) ((qup wA 110 i (w 108 i))) rfl (⟨by omega, by rw [hwwA]; show _ = qup (cpW (qup w 95 22 (w 95 23)) 108 110 i) 110 i ((qup w 95 22 (w 95 23)) 108 i); rw [qup_ne (show (108 : Nat) ≠ 95 by decide)]⟩)
    · skip
      refine qG.blk 2 (pc' := 38) (ls' := [(2, 95), (0, 0)]) (st' := []) (w' := wA) (n' := 142) rfl ?_
      have L38 : ∀ (m9 : Nat) (i : Nat) (wB : qW), (L + 1) - i = m9 → (i ≤ (L + 1) ∧ wB = cpW (cpW (qup w 95 22 (w 95 23)) 108 110 L) 109 111 i) → qG none d 247 38 [(2, 95), (0, ((i : Nat) : Int))] [] wB 142 Q9 := by
        intro m9
        induction m9 using Nat.strongRecOn with
        | ind m9 ih38 =>
        intro i wB hm38 hI38
        obtain ⟨hi38, hwwB⟩ := hI38
        have hIwB : yInv zgf zga zra zSp wB := hwwB ▸ cpW_I hI2 (t := 111) (s := 109) (b := (0, 610)) rfl rfl i (fun j _ => hI2.2.1 109 j (0, 610) rfl rfl)
        refine qG.blk 3 (pc' := 43) (ls' := [(2, 95), (0, ((i : Nat) : Int))]) (st' := [(0, wB 95 23), (0, ((i : Nat) : Int))]) (w' := wB) (n' := 142) rfl ?_
        rw [show wB 95 23 = w 95 23 from (congrFun (congrFun hwwB 95) 23).trans (by rw [cpW_o (by decide), cpW_o (by decide), qup_j (by decide)])]
        refine qG.br (P := w 95 23 < ((i : Nat) : Int)) (pc1 := 64) (pc2 := 46) (st1 := []) rfl (fun h2 => ?_) (fun h2 => ?_)
        · skip
          refine qG.blk 2 (pc' := 66) (ls' := [(2, 95), (0, 0)]) (st' := []) (w' := wB) (n' := 142) rfl ?_
          have L66 : ∀ (m9 : Nat) (i : Nat) (wC : qW), (2 * (w 95 24).toNat) - i = m9 → (i ≤ (2 * (w 95 24).toNat) ∧ wC = cpW (cpW (cpW (qup w 95 22 (w 95 23)) 108 110 L) 109 111 (L + 1)) 113 112 i) → qG none d 247 66 [(2, 95), (0, ((i : Nat) : Int))] [] wC 142 Q9 := by
            intro m9
            induction m9 using Nat.strongRecOn with
            | ind m9 ih66 =>
            intro i wC hm66 hI66
            obtain ⟨hi66, hwwC⟩ := hI66
            have hIwC : yInv zgf zga zra zSp wC := hwwC ▸ cpW_I hI3 (t := 112) (s := 113) (b := (-2147483648, 2147483647)) rfl rfl i (fun j _ => hI3.2.1 113 j (-2147483648, 2147483647) rfl rfl)
            refine qG.blk 4 (pc' := 72) (ls' := [(2, 95), (0, ((i : Nat) : Int))]) (st' := [(0, wC 95 24), (0, 2), (0, ((i : Nat) : Int))]) (w' := wC) (n' := 142) rfl ?_
            rw [show wC 95 24 = w 95 24 from (congrFun (congrFun hwwC 95) 24).trans (by rw [cpW_o (by decide), cpW_o (by decide), cpW_o (by decide), qup_j (by decide)])]
            refine qG.blk 1 (pc' := 73) (ls' := [(2, 95), (0, ((i : Nat) : Int))]) (st' := [(0, wrp (2 * (w 95 24))), (0, ((i : Nat) : Int))]) (w' := wC) (n' := 142) rfl ?_
            rw [show wrp (2 * (w 95 24)) = ((2 * (w 95 24).toNat : Nat) : Int) from by rw [wrp_id (by omega) (by omega)]; omega]
            refine qG.br (P := ((i : Nat) : Int) < ((2 * (w 95 24).toNat : Nat) : Int)) (pc1 := 76) (pc2 := 94) (st1 := []) rfl (fun h3 => ?_) (fun h3 => ?_)
            · skip
              refine qG.blk 2 (pc' := 80) (ls' := [(2, 95), (0, ((i : Nat) : Int))]) (st' := [(2, wC 95 18)]) (w' := wC) (n' := 142) rfl ?_
              rw [show wC 95 18 = 112 from zref hIwC rfl rfl]
              refine qG.blk 3 (pc' := 85) (ls' := [(2, 95), (0, ((i : Nat) : Int))]) (st' := [(2, wC 95 19), (0, ((i : Nat) : Int)), (2, 112)]) (w' := wC) (n' := 142) rfl ?_
              rw [show wC 95 19 = 113 from zref hIwC rfl rfl]
              refine qG.blk 1 (pc' := 86) (ls' := [(2, 95), (0, ((i : Nat) : Int))]) (st' := [(0, ((i : Nat) : Int)), (2, 113), (0, ((i : Nat) : Int)), (2, 112)]) (w' := wC) (n' := 142) rfl ?_
              refine qG.ild (m := 1220) rfl rfl (by omega) (by decide) ?_
              show qG none d 247 87 [(2, 95), (0, ((i : Nat) : Int))] [(0, wC 113 i), (0, ((i : Nat) : Int)), (2, 112)] wC 142 Q9
              rw [show wC 113 i = w 113 i from (congrFun (congrFun hwwC 113) i).trans (by rw [cpW_o (by decide), cpW_o (by decide), cpW_o (by decide), qup_ne (by decide)])]
              refine qG.ist (m := 1220) rfl rfl (by omega) (by decide) ?_
              show qG none d 247 88 [(2, 95), (0, ((i : Nat) : Int))] [] (qup wC 112 i (w 113 i)) 142 Q9
              refine qG.blk 1 (pc' := 91) (ls' := [(2, 95), (0, wrp (((i : Nat) : Int) + 1))]) (st' := []) (w' := (qup wC 112 i (w 113 i))) (n' := 142) rfl ?_
              rw [show wrp (((i : Nat) : Int) + 1) = ((i + 1 : Nat) : Int) from wrp_id (by omega) (by omega)]
              refine qG.blk 1 (pc' := 66) (ls' := [(2, 95), (0, ((i + 1 : Nat) : Int))]) (st' := []) (w' := (qup wC 112 i (w 113 i))) (n' := 142) rfl ?_
              exact ih66 _ (by omega) (i + 1) ((qup wC 112 i (w 113 i))) rfl (⟨by omega, by rw [hwwC]; show _ = qup (cpW (cpW (cpW (qup w 95 22 (w 95 23)) 108 110 L) 109 111 (L + 1)) 113 112 i) 112 i ((cpW (cpW (qup w 95 22 (w 95 23)) 108 110 L) 109 111 (L + 1)) 113 i); rw [cpW_o (by decide), cpW_o (by decide), qup_ne (show (113 : Nat) ≠ 95 by decide)]⟩)
            · skip
              refine qG.retv rfl rfl ?_
              subst hQ9
              exact ⟨rfl, by rw [hwwC, show i = 2 * (w 95 24).toNat by omega]; rfl, rfl⟩
          exact L66 _ (0) (wB) rfl (⟨by omega, by rw [hwwB, show i = L + 1 by omega]; rfl⟩)
        · skip
          refine qG.blk 2 (pc' := 50) (ls' := [(2, 95), (0, ((i : Nat) : Int))]) (st' := [(2, wB 95 17)]) (w' := wB) (n' := 142) rfl ?_
          rw [show wB 95 17 = 111 from zref hIwB rfl rfl]
          refine qG.blk 3 (pc' := 55) (ls' := [(2, 95), (0, ((i : Nat) : Int))]) (st' := [(2, wB 95 15), (0, ((i : Nat) : Int)), (2, 111)]) (w' := wB) (n' := 142) rfl ?_
          rw [show wB 95 15 = 109 from zref hIwB rfl rfl]
          refine qG.blk 1 (pc' := 56) (ls' := [(2, 95), (0, ((i : Nat) : Int))]) (st' := [(0, ((i : Nat) : Int)), (2, 109), (0, ((i : Nat) : Int)), (2, 111)]) (w' := wB) (n' := 142) rfl ?_
          refine qG.ar (P := 0 ≤ ((i : Nat) : Int) ∧ ((i : Nat) : Int) < ((21 : Nat) : Int)) (P2 := 0 < (109 : Int) ∧ (109 : Int) ≤ ((142 : Nat) : Int)) (pc' := 57) (ls' := [(2, 95), (0, ((i : Nat) : Int))]) (st' := [(0, wB 109 i), (0, ((i : Nat) : Int)), (2, 111)]) (w' := wB) (n' := 142) rfl (by omega) (by decide) ?_
          rw [show wB 109 i = w 109 i from (congrFun (congrFun hwwB 109) i).trans (by rw [cpW_o (by decide), cpW_o (by decide), qup_ne (by decide)])]
          refine qG.ar (P := 0 ≤ ((i : Nat) : Int) ∧ ((i : Nat) : Int) < ((21 : Nat) : Int)) (P2 := 0 < (111 : Int) ∧ (111 : Int) ≤ ((142 : Nat) : Int)) (pc' := 58) (ls' := [(2, 95), (0, ((i : Nat) : Int))]) (st' := []) (w' := (qup wB 111 i (w 109 i))) (n' := 142) rfl (by omega) (by decide) ?_
          refine qG.blk 1 (pc' := 61) (ls' := [(2, 95), (0, wrp (((i : Nat) : Int) + 1))]) (st' := []) (w' := (qup wB 111 i (w 109 i))) (n' := 142) rfl ?_
          rw [show wrp (((i : Nat) : Int) + 1) = ((i + 1 : Nat) : Int) from wrp_id (by omega) (by omega)]
          refine qG.blk 1 (pc' := 38) (ls' := [(2, 95), (0, ((i + 1 : Nat) : Int))]) (st' := []) (w' := (qup wB 111 i (w 109 i))) (n' := 142) rfl ?_
          exact ih38 _ (by omega) (i + 1) ((qup wB 111 i (w 109 i))) rfl (⟨by omega, by rw [hwwB]; show _ = qup (cpW (cpW (qup w 95 22 (w 95 23)) 108 110 L) 109 111 i) 111 i ((cpW (qup w 95 22 (w 95 23)) 108 110 L) 109 i); rw [cpW_o (by decide), qup_ne (show (109 : Nat) ≠ 95 by decide)]⟩)
      exact L38 _ (0) (wA) rfl (⟨by omega, by rw [hwwA, show i = L by omega]; rfl⟩)
  exact L10 _ (0) ((qup w 95 22 (w 95 23))) rfl (⟨by omega, rfl⟩)
