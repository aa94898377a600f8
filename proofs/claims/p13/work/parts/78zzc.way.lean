/-! way on both sides -/
theorem K_leastI {d : Nat} (hd : 2 ≤ d) (f : Nat → Bool) (w : qW) (hI : yInv zgf zga zra zSp w) (hH : HOLD w 27 f) (he : ∃ j, j < 192 ∧ f j = true) : qG none d 53 0 [(2, 27), (9, 0)] [] w 142 (fun (r : qV) (w1 : qW) (n1 : Nat) => w1 = w ∧ n1 = 142 ∧ ∃ j : Nat, j < 192 ∧ r = (0, (j : Int)) ∧ f j = true ∧ ∀ i, i < j → f i = false) := by
  refine qG.mono (K_least hd w hI) ?_
  rintro r w1 n1 ⟨h1, h2, ⟨-, h3⟩ | ⟨j, h4, h5, h6, h7⟩⟩
  · obtain ⟨j, a, b⟩ := he
    rw [← hH j a, h3 j a] at b
    cases b
  · exact ⟨h1, h2, j, h4, h5, (hH j h4).symm.trans h6, fun i hi => (hH i (by omega)).symm.trans (h7 i hi)⟩
theorem lst_ex {f : Nat → Bool} : ∀ m, f m = true → ∃ j, j ≤ m ∧ f j = true ∧ ∀ i, i < j → f i = false := by
  intro m
  induction m using Nat.strongRecOn with
  | ind m ih =>
  intro h
  by_cases q : ∃ i, i < m ∧ f i = true
  · obtain ⟨i, a, b⟩ := q
    obtain ⟨j, c, e, g⟩ := ih i a b
    exact ⟨j, by omega, e, g⟩
  · refine ⟨m, Nat.le_refl _, h, fun i hi => ?_⟩
    cases hf : f i with
    | false => rfl
    | true => exact absurd ⟨i, hi, hf⟩ q
theorem gzE {N : Nat} {P : Nat → Int} {M : Nat → Nat → Bool} {V : Nat → Int} {S : Nat} : hzE (gz N P M V S S) ↔ hzE (hz N P M V S) := by
  constructor
  · intro z
    by_cases q : hzE (hz N P M V S)
    · exact q
    · obtain ⟨i, -, hi⟩ := gz_hz.mpr q
      rw [z i] at hi; cases hi
  · intro z i
    cases hb : gz N P M V S S i with
    | false => rfl
    | true =>
      by_cases hi : i < N
      · exact absurd z (gz_hz.mp ⟨i, hi, hb⟩)
      · rw [gz_N hi] at hb; cases hb
theorem HSP.z {N : Nat} {P : Nat → Int} {M : Nat → Nat → Bool} {V : Nat → Int} {S : Nat} {fl cn : Int} (h : HSP N P M V S fl cn) : cn = 0 ↔ hzE (gz N P M V S S) := by
  rw [gzE]
  rcases h with ⟨a, -, b⟩ | ⟨a, ⟨-, b, c⟩ | ⟨f, a1, -, a3, -, a5⟩⟩
  · exact ⟨fun _ j => hz_N (by omega), fun _ => b⟩
  · have q := hz_c0 (N := N) (P := P) (M := M) (V := V) (t := S) (Nat.le_refl N)
    constructor
    · intro z; exact q.mp (by omega)
    · intro z; exact absurd z c
  · refine ⟨fun _ => ?_, fun _ => a3⟩
    have := hzE_u a5 (S - (f + 1))
    rw [show f + 1 + (S - (f + 1)) = S by omega] at this
    exact this
theorem K_wyB4 {d : Nat} (hd : 5 ≤ d) (N : Nat) (P : Nat → Int) (M : Nat → Nat → Bool) (V : Nat → Int) (hsy : ∀ i j, i < N → j < N → M i j = M j i) (L : Nat) (hL : L ≤ 40) (w : qW) (hI : yInv zgf zga zra zSp w) (hs : w 4 2 = (L : Int)) (hKW : KNw (w 5) (w 6) L) (hT : CTB N P M w) (hVV : ∀ g, g < L → ∀ u, u < dN (w 5 g) (w 6 g) → V (scF (w 5) (w 6) g + u) = w 7 g) (n9 : Nat) (hn9 : n9 ≤ (scF (w 5) (w 6) L)) (l1 l3 : qV) : qG none d 38 25 [(2, 23), l1, (2, 4), l3, (0, ((n9 : Nat) : Int)), (9, 0), (9, 0)] [] w 142 (fun (r : qV) (_ : qW) (n1 : Nat) => n1 = 142 ∧ ∃ x, r = (0, x) ∧ WSP N P M V (scF (w 5) (w 6) L) n9 x) := by
  generalize hQ9 : (fun (r : qV) (_ : qW) (n1 : Nat) => n1 = 142 ∧ ∃ x, r = (0, x) ∧ WSP N P M V (scF (w 5) (w 6) L) n9 x) = Q9
  obtain ⟨N8, hN8⟩ : ∃ N : Int, N = 800 := ⟨_, rfl⟩
  obtain ⟨d, rfl⟩ : ∃ d9, d = d9 + 1 := ⟨d - 1, by omega⟩
  have hN18 := hT.1
  have hS8 := sc_le hKW L (Nat.le_refl _)
  refine qG.blk 2 (pc' := 27) (ls' := [(2, 23), l1, (2, 4), l3, (0, ((n9 : Nat) : Int)), (9, 0), (9, 0)]) (st' := [(2, 4), (2, 23)]) (w' := w) (n' := 142) rfl ?_
  refine qG.call (t := 39) (na := 2) (sk := 1) (md := 1) (ls1 := [(2, 23), (2, 4), (9, 0), (9, 0), (9, 0)]) (r1 := []) rfl rfl rfl rfl rfl (K_fGood4 (by omega) N P M V hsy L hL w hI hs hKW hT hVV) ?_
  rintro _ wG _ ⟨rfl, rfl, hIG, hGf, hG27, hGg⟩
  have hTG := hT.cg (w1 := wG) (fun q j h => hGf q j (by omega))
  show qG none (d + 1) 38 30 [(2, 23), l1, (2, 4), l3, (0, ((n9 : Nat) : Int)), (9, 0), (9, 0)] [] wG 142 Q9
  refine qG.blk 2 (pc' := 34) (ls' := [(2, 23), l1, (2, 4), l3, (0, ((n9 : Nat) : Int)), (9, 0), (9, 0)]) (st' := [(2, wG 23 1)]) (w' := wG) (n' := 142) rfl ?_
  rw [show wG 23 1 = 27 from (hGf 23 1 (by decide)).trans (zref hI rfl rfl)]
  refine qG.call (t := 53) (na := 1) (sk := 0) (md := 0) (ls1 := [(2, 27), (9, 0)]) (r1 := []) rfl rfl rfl rfl rfl (K_least (by omega) wG hIG) ?_
  rintro _ w7 _ ⟨hw7, rfl, ⟨rfl, hno⟩ | ⟨i0, hi0, rfl, hyes, hlow⟩⟩ <;> rw [hw7]
  · skip
    show qG none (d + 1) 38 37 [(2, 23), l1, (2, 4), l3, (0, ((n9 : Nat) : Int)), (9, 0), (9, 0)] [(0, (-1))] wG 142 Q9
    refine qG.blk 3 (pc' := 42) (ls' := [(2, 23), l1, (2, 4), l3, (0, ((n9 : Nat) : Int)), (0, (-1)), (0, 0)]) (st' := []) (w' := wG) (n' := 142) rfl ?_
    refine qG.blk 2 (pc' := 46) (ls' := [(2, 23), l1, (2, 4), l3, (0, ((n9 : Nat) : Int)), (0, (-1)), (0, 0)]) (st' := [(0, ((n9 : Nat) : Int)), (0, 0)]) (w' := wG) (n' := 142) rfl ?_
    refine qG.br (P := 0 < ((n9 : Nat) : Int)) (pc1 := 49) (pc2 := 116) (st1 := []) rfl (fun h1 => ?_) (fun h1 => ?_)
    · skip
      refine qG.blk 2 (pc' := 54) (ls' := [(2, 23), l1, (2, 4), l3, (0, ((n9 : Nat) : Int)), (0, (-1)), (0, 0)]) (st' := [(0, 800), (0, 0)]) (w' := wG) (n' := 142) rfl ?_
      rw [show (800 : Int) = N8 from hN8.symm]
      refine qG.br (P := 0 < N8) (pc1 := 57) (pc2 := 116) (st1 := []) rfl (fun h2 => ?_) (fun h2 => ?_)
      · skip
        refine qG.blk 2 (pc' := 60) (ls' := [(2, 23), l1, (2, 4), l3, (0, ((n9 : Nat) : Int)), (0, (-1)), (0, 0)]) (st' := [(0, (-1)), (0, (-1))]) (w' := wG) (n' := 142) rfl ?_
        refine qG.br (P := ((-1) : Int) = (-1)) (pc1 := 116) (pc2 := 63) (st1 := []) rfl (fun h3 => ?_) (fun h3 => ?_)
        · skip
          refine qG.blk 2 (pc' := 120) (ls' := [(2, 23), l1, (2, 4), l3, (0, ((n9 : Nat) : Int)), (0, (-1)), (0, 0)]) (st' := [(2, wG 23 0)]) (w' := wG) (n' := 142) rfl ?_
          rw [show wG 23 0 = 24 from (hGf 23 0 (by decide)).trans (zref hI rfl rfl)]
          refine qG.blk 1 (pc' := 122) (ls' := [(2, 23), l1, (2, 4), l3, (0, ((n9 : Nat) : Int)), (0, (-1)), (0, 0)]) (st' := [(0, (-1)), (2, 24)]) (w' := wG) (n' := 142) rfl ?_
          refine qG.call (t := 100) (na := 2) (sk := 1) (md := 1) (ls1 := [(2, 24), (0, (-1))]) (r1 := []) rfl rfl rfl rfl rfl (K_setN (Nat.zero_le _) wG hIG) ?_
          rintro _ w7 _ ⟨rfl, hw7, rfl⟩
          rw [hw7]
          show qG none (d + 1) 38 125 [(2, 23), l1, (2, 4), l3, (0, ((n9 : Nat) : Int)), (0, (-1)), (0, 0)] [(0, (-1))] wG 142 Q9
          refine qG.ret rfl rfl ?_
          subst hQ9
          exact ⟨rfl, _, rfl, .inl ⟨fun j => if q : j < 192 then (hG27 j q).symm.trans (hno j q) else gz_N (by omega), rfl⟩⟩
        · exact absurd h3 (by decide)
      · exfalso; omega
    · skip
      refine qG.blk 2 (pc' := 120) (ls' := [(2, 23), l1, (2, 4), l3, (0, ((n9 : Nat) : Int)), (0, (-1)), (0, 0)]) (st' := [(2, wG 23 0)]) (w' := wG) (n' := 142) rfl ?_
      rw [show wG 23 0 = 24 from (hGf 23 0 (by decide)).trans (zref hI rfl rfl)]
      refine qG.blk 1 (pc' := 122) (ls' := [(2, 23), l1, (2, 4), l3, (0, ((n9 : Nat) : Int)), (0, (-1)), (0, 0)]) (st' := [(0, (-1)), (2, 24)]) (w' := wG) (n' := 142) rfl ?_
      refine qG.call (t := 100) (na := 2) (sk := 1) (md := 1) (ls1 := [(2, 24), (0, (-1))]) (r1 := []) rfl rfl rfl rfl rfl (K_setN (Nat.zero_le _) wG hIG) ?_
      rintro _ w7 _ ⟨rfl, hw7, rfl⟩
      rw [hw7]
      show qG none (d + 1) 38 125 [(2, 23), l1, (2, 4), l3, (0, ((n9 : Nat) : Int)), (0, (-1)), (0, 0)] [(0, (-1))] wG 142 Q9
      refine qG.ret rfl rfl ?_
      subst hQ9
      exact ⟨rfl, _, rfl, .inl ⟨fun j => if q : j < 192 then (hG27 j q).symm.trans (hno j q) else gz_N (by omega), rfl⟩⟩
  · skip
    show qG none (d + 1) 38 37 [(2, 23), l1, (2, 4), l3, (0, ((n9 : Nat) : Int)), (9, 0), (9, 0)] [(0, ((i0 : Nat) : Int))] wG 142 Q9
    refine qG.blk 3 (pc' := 42) (ls' := [(2, 23), l1, (2, 4), l3, (0, ((n9 : Nat) : Int)), (0, ((i0 : Nat) : Int)), (0, 0)]) (st' := []) (w' := wG) (n' := 142) rfl ?_
    have L42 : ∀ (m9 : Nat) (t i : Nat) (wQ : qW), n9 - t = m9 → (t ≤ n9 ∧ wyF N P M V (scF (w 5) (w 6) L) t i ∧ (∀ q j, ¬ (27 ≤ q ∧ q ≤ 30) → wQ q j = w q j) ∧ yInv zgf zga zra zSp wQ ∧ ∀ t, t < (scF (w 5) (w 6) L) → ∀ j, j < 192 → gb wQ t j = gd N P M V (scF (w 5) (w 6) L) t j) → qG none (d + 1) 38 42 [(2, 23), l1, (2, 4), l3, (0, ((n9 : Nat) : Int)), (0, ((i : Nat) : Int)), (0, ((t : Nat) : Int))] [] wQ 142 Q9 := by
      intro m9
      induction m9 using Nat.strongRecOn with
      | ind m9 ih42 =>
      intro t i wQ hm42 hI42
      obtain ⟨htn, hwy, hQf, hIQ, hQg⟩ := hI42
      have hTQ := hT.cg (w1 := wQ) (fun q j h => hQf q j (by omega))
      have hiN := (wyF_g t i (by omega) hwy).1
      refine qG.blk 2 (pc' := 46) (ls' := [(2, 23), l1, (2, 4), l3, (0, ((n9 : Nat) : Int)), (0, ((i : Nat) : Int)), (0, ((t : Nat) : Int))]) (st' := [(0, ((n9 : Nat) : Int)), (0, ((t : Nat) : Int))]) (w' := wQ) (n' := 142) rfl ?_
      refine qG.br (P := ((t : Nat) : Int) < ((n9 : Nat) : Int)) (pc1 := 49) (pc2 := 116) (st1 := []) rfl (fun h4 => ?_) (fun h4 => ?_)
      · skip
        refine qG.blk 2 (pc' := 54) (ls' := [(2, 23), l1, (2, 4), l3, (0, ((n9 : Nat) : Int)), (0, ((i : Nat) : Int)), (0, ((t : Nat) : Int))]) (st' := [(0, 800), (0, ((t : Nat) : Int))]) (w' := wQ) (n' := 142) rfl ?_
        rw [show (800 : Int) = N8 from hN8.symm]
        refine qG.br (P := ((t : Nat) : Int) < N8) (pc1 := 57) (pc2 := 116) (st1 := []) rfl (fun h5 => ?_) (fun h5 => ?_)
        · skip
          refine qG.blk 2 (pc' := 60) (ls' := [(2, 23), l1, (2, 4), l3, (0, ((n9 : Nat) : Int)), (0, ((i : Nat) : Int)), (0, ((t : Nat) : Int))]) (st' := [(0, (-1)), (0, ((i : Nat) : Int))]) (w' := wQ) (n' := 142) rfl ?_
          refine qG.br (P := ((i : Nat) : Int) = (-1)) (pc1 := 116) (pc2 := 63) (st1 := []) rfl (fun h6 => ?_) (fun h6 => ?_)
          · exfalso; omega
          · skip
            refine qG.blk 2 (pc' := 67) (ls' := [(2, 23), l1, (2, 4), l3, (0, ((n9 : Nat) : Int)), (0, ((i : Nat) : Int)), (0, ((t : Nat) : Int))]) (st' := [(2, wQ 23 0)]) (w' := wQ) (n' := 142) rfl ?_
            rw [show wQ 23 0 = 24 from (hQf 23 0 (by decide)).trans (zref hI rfl rfl)]
            refine qG.blk 3 (pc' := 73) (ls' := [(2, 23), l1, (2, 4), l3, (0, ((n9 : Nat) : Int)), (0, ((i : Nat) : Int)), (0, ((t : Nat) : Int))]) (st' := [(2, wQ 23 2), (0, ((i : Nat) : Int)), (2, 24)]) (w' := wQ) (n' := 142) rfl ?_
            rw [show wQ 23 2 = 28 from (hQf 23 2 (by decide)).trans (zref hI rfl rfl)]
            refine qG.call (t := 102) (na := 3) (sk := 1) (md := 1) (ls1 := [(2, 24), (0, ((i : Nat) : Int)), (2, 28), (9, 0)]) (r1 := []) rfl rfl rfl rfl rfl (K_spread1 (by omega) i (by omega) wQ hIQ) ?_
            rintro _ wA _ ⟨rfl, rfl, hRA⟩
            have hIA := hRA.2.2
            have hAf : (∀ q j, ¬ (27 ≤ q ∧ q ≤ 30) → wA q j = w q j) := fun q j a => (hRA.2.1 q j (by omega)).trans (hQf q j a)
            show qG none (d + 1) 38 76 [(2, 23), l1, (2, 4), l3, (0, ((n9 : Nat) : Int)), (0, ((i : Nat) : Int)), (0, ((t : Nat) : Int))] [] wA 142 Q9
            refine qG.blk 4 (pc' := 83) (ls' := [(2, 23), l1, (2, 4), l3, (0, ((n9 : Nat) : Int)), (0, ((i : Nat) : Int)), (0, ((t : Nat) : Int))]) (st' := [(2, wA 23 3), (0, ((t : Nat) : Int)), (2, 23)]) (w' := wA) (n' := 142) rfl ?_
            rw [show wA 23 3 = 29 from (hAf 23 3 (by decide)).trans (zref hI rfl rfl)]
            refine qG.call (t := 41) (na := 3) (sk := 1) (md := 1) (ls1 := [(2, 23), (0, ((t : Nat) : Int)), (2, 29), (9, 0), (9, 0)]) (r1 := []) rfl rfl rfl rfl rfl (K_rdGood (by omega) t (by omega) wA hIA) ?_
            rintro _ wB _ ⟨rfl, rfl, hRB⟩
            have hIB := hRB.2.2
            have hBf : (∀ q j, ¬ (27 ≤ q ∧ q ≤ 30) → wB q j = w q j) := fun q j a => (hRB.2.1 q j (by omega)).trans (hAf q j a)
            show qG none (d + 1) 38 86 [(2, 23), l1, (2, 4), l3, (0, ((n9 : Nat) : Int)), (0, ((i : Nat) : Int)), (0, ((t : Nat) : Int))] [] wB 142 Q9
            refine qG.blk 2 (pc' := 90) (ls' := [(2, 23), l1, (2, 4), l3, (0, ((n9 : Nat) : Int)), (0, ((i : Nat) : Int)), (0, ((t : Nat) : Int))]) (st' := [(2, wB 23 2)]) (w' := wB) (n' := 142) rfl ?_
            rw [show wB 23 2 = 28 from (hBf 23 2 (by decide)).trans (zref hI rfl rfl)]
            refine qG.blk 2 (pc' := 94) (ls' := [(2, 23), l1, (2, 4), l3, (0, ((n9 : Nat) : Int)), (0, ((i : Nat) : Int)), (0, ((t : Nat) : Int))]) (st' := [(2, wB 23 3), (2, 28)]) (w' := wB) (n' := 142) rfl ?_
            rw [show wB 23 3 = 29 from (hBf 23 3 (by decide)).trans (zref hI rfl rfl)]
            refine qG.blk 2 (pc' := 98) (ls' := [(2, 23), l1, (2, 4), l3, (0, ((n9 : Nat) : Int)), (0, ((i : Nat) : Int)), (0, ((t : Nat) : Int))]) (st' := [(2, wB 23 1), (2, 29), (2, 28)]) (w' := wB) (n' := 142) rfl ?_
            rw [show wB 23 1 = 27 from (hBf 23 1 (by decide)).trans (zref hI rfl rfl)]
            refine qG.call (t := 49) (na := 3) (sk := 0) (md := 0) (ls1 := [(2, 28), (2, 29), (2, 27), (9, 0)]) (r1 := []) rfl rfl rfl rfl rfl (K_keep28_29_27 (by omega) wB hIB) ?_
            rintro _ wC _ ⟨rfl, rfl, hRC⟩
            have hIC := hRC.2.2
            have hCf : (∀ q j, ¬ (27 ≤ q ∧ q ≤ 30) → wC q j = w q j) := fun q j a => (hRC.2.1 q j (by omega)).trans (hBf q j a)
            have hC27 : HOLD wC 27 (wyC N P M V (scF (w 5) (w 6) L) t i) := fun j hj => by
              rw [hRC.1 j hj]
              show (sb wB 28 j && sb wB 29 j) = _
              rw [show sb wB 29 j = gb wA t j from hRB.1 j hj, hRB.o (by decide), show sb wA 28 j = mb wQ i j from hRA.1 j hj, hTQ.2.2.2 i j (by omega) hj, decide_eq_true hiN, Bool.true_and, show gb wA t j = gb wQ t j from by unfold gb; rw [hRA.2.1 30 _ (by decide)], hQg t (by omega) j hj, Bool.and_assoc]; rfl
            have hCg : ∀ t, t < (scF (w 5) (w 6) L) → ∀ j, j < 192 → gb wC t j = gd N P M V (scF (w 5) (w 6) L) t j := fun t a j hj => by rw [show gb wC t j = gb wQ t j from by unfold gb; rw [hRC.2.1 30 _ (by decide), hRB.2.1 30 _ (by decide), hRA.2.1 30 _ (by decide)]]; exact hQg t a j hj
            have hex : ∃ j, j < 192 ∧ wyC N P M V (scF (w 5) (w 6) L) t i j = true := by obtain ⟨j, a, b⟩ := wyC_ex (show t < (scF (w 5) (w 6) L) by omega) (wyF_g t i (by omega) hwy).2; exact ⟨j, by omega, b⟩
            show qG none (d + 1) 38 101 [(2, 23), l1, (2, 4), l3, (0, ((n9 : Nat) : Int)), (0, ((i : Nat) : Int)), (0, ((t : Nat) : Int))] [] wC 142 Q9
            refine qG.blk 2 (pc' := 105) (ls' := [(2, 23), l1, (2, 4), l3, (0, ((n9 : Nat) : Int)), (0, ((i : Nat) : Int)), (0, ((t : Nat) : Int))]) (st' := [(2, wC 23 1)]) (w' := wC) (n' := 142) rfl ?_
            rw [show wC 23 1 = 27 from (hCf 23 1 (by decide)).trans (zref hI rfl rfl)]
            refine qG.call (t := 53) (na := 1) (sk := 0) (md := 0) (ls1 := [(2, 27), (9, 0)]) (r1 := []) rfl rfl rfl rfl rfl (K_leastI (by omega) _ wC hIC hC27 hex) ?_
            rintro _ w7 _ ⟨hw7, rfl, j1, hj1, rfl, hyes1, hlow1⟩
            rw [hw7]
            show qG none (d + 1) 38 108 [(2, 23), l1, (2, 4), l3, (0, ((n9 : Nat) : Int)), (0, ((i : Nat) : Int)), (0, ((t : Nat) : Int))] [(0, ((j1 : Nat) : Int))] wC 142 Q9
            refine qG.blk 2 (pc' := 113) (ls' := [(2, 23), l1, (2, 4), l3, (0, ((n9 : Nat) : Int)), (0, ((j1 : Nat) : Int)), (0, wrp (((t : Nat) : Int) + 1))]) (st' := []) (w' := wC) (n' := 142) rfl ?_
            rw [show wrp (((t : Nat) : Int) + 1) = ((t + 1 : Nat) : Int) from wrp_id (by omega) (by omega)]
            refine qG.blk 1 (pc' := 42) (ls' := [(2, 23), l1, (2, 4), l3, (0, ((n9 : Nat) : Int)), (0, ((j1 : Nat) : Int)), (0, ((t + 1 : Nat) : Int))]) (st' := []) (w' := wC) (n' := 142) rfl ?_
            exact ih42 _ (by omega) (t + 1) (j1) (wC) rfl (⟨by omega, ⟨i, hwy, hyes1, hlow1⟩, hCf, hIC, hCg⟩)
        · exfalso; omega
      · skip
        refine qG.blk 2 (pc' := 120) (ls' := [(2, 23), l1, (2, 4), l3, (0, ((n9 : Nat) : Int)), (0, ((i : Nat) : Int)), (0, ((t : Nat) : Int))]) (st' := [(2, wQ 23 0)]) (w' := wQ) (n' := 142) rfl ?_
        rw [show wQ 23 0 = 24 from (hQf 23 0 (by decide)).trans (zref hI rfl rfl)]
        refine qG.blk 1 (pc' := 122) (ls' := [(2, 23), l1, (2, 4), l3, (0, ((n9 : Nat) : Int)), (0, ((i : Nat) : Int)), (0, ((t : Nat) : Int))]) (st' := [(0, ((i : Nat) : Int)), (2, 24)]) (w' := wQ) (n' := 142) rfl ?_
        refine qG.call (t := 100) (na := 2) (sk := 1) (md := 1) (ls1 := [(2, 24), (0, ((i : Nat) : Int))]) (r1 := []) rfl rfl rfl rfl rfl (K_setI (Nat.zero_le _) i N hiN hT.1 wQ hIQ hTQ.2.1) ?_
        rintro _ w7 _ ⟨rfl, hw7, rfl⟩
        rw [hw7]
        show qG none (d + 1) 38 125 [(2, 23), l1, (2, 4), l3, (0, ((n9 : Nat) : Int)), (0, ((i : Nat) : Int)), (0, ((t : Nat) : Int))] [(0, wQ 25 i)] wQ 142 Q9
        refine qG.ret rfl rfl ?_
        subst hQ9
        obtain rfl : t = n9 := by omega
        exact ⟨rfl, _, rfl, .inr ⟨i, hwy, hTQ.2.2.1 i hiN⟩⟩
    exact L42 _ (0) (i0) (wG) rfl (⟨Nat.zero_le _, ⟨(hG27 i0 hi0).symm.trans hyes, fun j hj => (hG27 j (by omega)).symm.trans (hlow j hj)⟩, hGf, hIG, hGg⟩)
theorem K_wyB79 {d : Nat} (hd : 5 ≤ d) (N : Nat) (P : Nat → Int) (M : Nat → Nat → Bool) (V : Nat → Int) (hsy : ∀ i j, i < N → j < N → M i j = M j i) (L : Nat) (hL : L ≤ 40) (w : qW) (hI : yInv zgf zga zra zSp w) (hs : w 79 2 = (L : Int)) (hKW : KNw (w 80) (w 81) L) (hT : CTB N P M w) (hVV : ∀ g, g < L → ∀ u, u < dN (w 80 g) (w 81 g) → V (scF (w 80) (w 81) g + u) = w 82 g) (n9 : Nat) (hn9 : n9 ≤ (scF (w 80) (w 81) L)) (l1 l3 : qV) : qG none d 38 25 [(2, 23), l1, (2, 79), l3, (0, ((n9 : Nat) : Int)), (9, 0), (9, 0)] [] w 142 (fun (r : qV) (_ : qW) (n1 : Nat) => n1 = 142 ∧ ∃ x, r = (0, x) ∧ WSP N P M V (scF (w 80) (w 81) L) n9 x) := by
  generalize hQ9 : (fun (r : qV) (_ : qW) (n1 : Nat) => n1 = 142 ∧ ∃ x, r = (0, x) ∧ WSP N P M V (scF (w 80) (w 81) L) n9 x) = Q9
  obtain ⟨N8, hN8⟩ : ∃ N : Int, N = 800 := ⟨_, rfl⟩
  obtain ⟨d, rfl⟩ : ∃ d9, d = d9 + 1 := ⟨d - 1, by omega⟩
  have hN18 := hT.1
  have hS8 := sc_le hKW L (Nat.le_refl _)
  refine qG.blk 2 (pc' := 27) (ls' := [(2, 23), l1, (2, 79), l3, (0, ((n9 : Nat) : Int)), (9, 0), (9, 0)]) (st' := [(2, 79), (2, 23)]) (w' := w) (n' := 142) rfl ?_
  refine qG.call (t := 39) (na := 2) (sk := 1) (md := 1) (ls1 := [(2, 23), (2, 79), (9, 0), (9, 0), (9, 0)]) (r1 := []) rfl rfl rfl rfl rfl (K_fGood79 (by omega) N P M V hsy L hL w hI hs hKW hT hVV) ?_
  rintro _ wG _ ⟨rfl, rfl, hIG, hGf, hG27, hGg⟩
  have hTG := hT.cg (w1 := wG) (fun q j h => hGf q j (by omega))
  show qG none (d + 1) 38 30 [(2, 23), l1, (2, 79), l3, (0, ((n9 : Nat) : Int)), (9, 0), (9, 0)] [] wG 142 Q9
  refine qG.blk 2 (pc' := 34) (ls' := [(2, 23), l1, (2, 79), l3, (0, ((n9 : Nat) : Int)), (9, 0), (9, 0)]) (st' := [(2, wG 23 1)]) (w' := wG) (n' := 142) rfl ?_
  rw [show wG 23 1 = 27 from (hGf 23 1 (by decide)).trans (zref hI rfl rfl)]
  refine qG.call (t := 53) (na := 1) (sk := 0) (md := 0) (ls1 := [(2, 27), (9, 0)]) (r1 := []) rfl rfl rfl rfl rfl (K_least (by omega) wG hIG) ?_
  rintro _ w7 _ ⟨hw7, rfl, ⟨rfl, hno⟩ | ⟨i0, hi0, rfl, hyes, hlow⟩⟩ <;> rw [hw7]
  · skip
    show qG none (d + 1) 38 37 [(2, 23), l1, (2, 79), l3, (0, ((n9 : Nat) : Int)), (9, 0), (9, 0)] [(0, (-1))] wG 142 Q9
    refine qG.blk 3 (pc' := 42) (ls' := [(2, 23), l1, (2, 79), l3, (0, ((n9 : Nat) : Int)), (0, (-1)), (0, 0)]) (st' := []) (w' := wG) (n' := 142) rfl ?_
    refine qG.blk 2 (pc' := 46) (ls' := [(2, 23), l1, (2, 79), l3, (0, ((n9 : Nat) : Int)), (0, (-1)), (0, 0)]) (st' := [(0, ((n9 : Nat) : Int)), (0, 0)]) (w' := wG) (n' := 142) rfl ?_
    refine qG.br (P := 0 < ((n9 : Nat) : Int)) (pc1 := 49) (pc2 := 116) (st1 := []) rfl (fun h1 => ?_) (fun h1 => ?_)
    · skip
      refine qG.blk 2 (pc' := 54) (ls' := [(2, 23), l1, (2, 79), l3, (0, ((n9 : Nat) : Int)), (0, (-1)), (0, 0)]) (st' := [(0, 800), (0, 0)]) (w' := wG) (n' := 142) rfl ?_
      rw [show (800 : Int) = N8 from hN8.symm]
      refine qG.br (P := 0 < N8) (pc1 := 57) (pc2 := 116) (st1 := []) rfl (fun h2 => ?_) (fun h2 => ?_)
      · skip
        refine qG.blk 2 (pc' := 60) (ls' := [(2, 23), l1, (2, 79), l3, (0, ((n9 : Nat) : Int)), (0, (-1)), (0, 0)]) (st' := [(0, (-1)), (0, (-1))]) (w' := wG) (n' := 142) rfl ?_
        refine qG.br (P := ((-1) : Int) = (-1)) (pc1 := 116) (pc2 := 63) (st1 := []) rfl (fun h3 => ?_) (fun h3 => ?_)
        · skip
          refine qG.blk 2 (pc' := 120) (ls' := [(2, 23), l1, (2, 79), l3, (0, ((n9 : Nat) : Int)), (0, (-1)), (0, 0)]) (st' := [(2, wG 23 0)]) (w' := wG) (n' := 142) rfl ?_
          rw [show wG 23 0 = 24 from (hGf 23 0 (by decide)).trans (zref hI rfl rfl)]
          refine qG.blk 1 (pc' := 122) (ls' := [(2, 23), l1, (2, 79), l3, (0, ((n9 : Nat) : Int)), (0, (-1)), (0, 0)]) (st' := [(0, (-1)), (2, 24)]) (w' := wG) (n' := 142) rfl ?_
          refine qG.call (t := 100) (na := 2) (sk := 1) (md := 1) (ls1 := [(2, 24), (0, (-1))]) (r1 := []) rfl rfl rfl rfl rfl (K_setN (Nat.zero_le _) wG hIG) ?_
          rintro _ w7 _ ⟨rfl, hw7, rfl⟩
          rw [hw7]
          show qG none (d + 1) 38 125 [(2, 23), l1, (2, 79), l3, (0, ((n9 : Nat) : Int)), (0, (-1)), (0, 0)] [(0, (-1))] wG 142 Q9
          refine qG.ret rfl rfl ?_
          subst hQ9
          exact ⟨rfl, _, rfl, .inl ⟨fun j => if q : j < 192 then (hG27 j q).symm.trans (hno j q) else gz_N (by omega), rfl⟩⟩
        · exact absurd h3 (by decide)
      · exfalso; omega
    · skip
      refine qG.blk 2 (pc' := 120) (ls' := [(2, 23), l1, (2, 79), l3, (0, ((n9 : Nat) : Int)), (0, (-1)), (0, 0)]) (st' := [(2, wG 23 0)]) (w' := wG) (n' := 142) rfl ?_
      rw [show wG 23 0 = 24 from (hGf 23 0 (by decide)).trans (zref hI rfl rfl)]
      refine qG.blk 1 (pc' := 122) (ls' := [(2, 23), l1, (2, 79), l3, (0, ((n9 : Nat) : Int)), (0, (-1)), (0, 0)]) (st' := [(0, (-1)), (2, 24)]) (w' := wG) (n' := 142) rfl ?_
      refine qG.call (t := 100) (na := 2) (sk := 1) (md := 1) (ls1 := [(2, 24), (0, (-1))]) (r1 := []) rfl rfl rfl rfl rfl (K_setN (Nat.zero_le _) wG hIG) ?_
      rintro _ w7 _ ⟨rfl, hw7, rfl⟩
      rw [hw7]
      show qG none (d + 1) 38 125 [(2, 23), l1, (2, 79), l3, (0, ((n9 : Nat) : Int)), (0, (-1)), (0, 0)] [(0, (-1))] wG 142 Q9
      refine qG.ret rfl rfl ?_
      subst hQ9
      exact ⟨rfl, _, rfl, .inl ⟨fun j => if q : j < 192 then (hG27 j q).symm.trans (hno j q) else gz_N (by omega), rfl⟩⟩
  · skip
    show qG none (d + 1) 38 37 [(2, 23), l1, (2, 79), l3, (0, ((n9 : Nat) : Int)), (9, 0), (9, 0)] [(0, ((i0 : Nat) : Int))] wG 142 Q9
    refine qG.blk 3 (pc' := 42) (ls' := [(2, 23), l1, (2, 79), l3, (0, ((n9 : Nat) : Int)), (0, ((i0 : Nat) : Int)), (0, 0)]) (st' := []) (w' := wG) (n' := 142) rfl ?_
    have L42 : ∀ (m9 : Nat) (t i : Nat) (wQ : qW), n9 - t = m9 → (t ≤ n9 ∧ wyF N P M V (scF (w 80) (w 81) L) t i ∧ (∀ q j, ¬ (27 ≤ q ∧ q ≤ 30) → wQ q j = w q j) ∧ yInv zgf zga zra zSp wQ ∧ ∀ t, t < (scF (w 80) (w 81) L) → ∀ j, j < 192 → gb wQ t j = gd N P M V (scF (w 80) (w 81) L) t j) → qG none (d + 1) 38 42 [(2, 23), l1, (2, 79), l3, (0, ((n9 : Nat) : Int)), (0, ((i : Nat) : Int)), (0, ((t : Nat) : Int))] [] wQ 142 Q9 := by
      intro m9
      induction m9 using Nat.strongRecOn with
      | ind m9 ih42 =>
      intro t i wQ hm42 hI42
      obtain ⟨htn, hwy, hQf, hIQ, hQg⟩ := hI42
      have hTQ := hT.cg (w1 := wQ) (fun q j h => hQf q j (by omega))
      have hiN := (wyF_g t i (by omega) hwy).1
      refine qG.blk 2 (pc' := 46) (ls' := [(2, 23), l1, (2, 79), l3, (0, ((n9 : Nat) : Int)), (0, ((i : Nat) : Int)), (0, ((t : Nat) : Int))]) (st' := [(0, ((n9 : Nat) : Int)), (0, ((t : Nat) : Int))]) (w' := wQ) (n' := 142) rfl ?_
      refine qG.br (P := ((t : Nat) : Int) < ((n9 : Nat) : Int)) (pc1 := 49) (pc2 := 116) (st1 := []) rfl (fun h4 => ?_) (fun h4 => ?_)
      · skip
        refine qG.blk 2 (pc' := 54) (ls' := [(2, 23), l1, (2, 79), l3, (0, ((n9 : Nat) : Int)), (0, ((i : Nat) : Int)), (0, ((t : Nat) : Int))]) (st' := [(0, 800), (0, ((t : Nat) : Int))]) (w' := wQ) (n' := 142) rfl ?_
        rw [show (800 : Int) = N8 from hN8.symm]
        refine qG.br (P := ((t : Nat) : Int) < N8) (pc1 := 57) (pc2 := 116) (st1 := []) rfl (fun h5 => ?_) (fun h5 => ?_)
        · skip
          refine qG.blk 2 (pc' := 60) (ls' := [(2, 23), l1, (2, 79), l3, (0, ((n9 : Nat) : Int)), (0, ((i : Nat) : Int)), (0, ((t : Nat) : Int))]) (st' := [(0, (-1)), (0, ((i : Nat) : Int))]) (w' := wQ) (n' := 142) rfl ?_
          refine qG.br (P := ((i : Nat) : Int) = (-1)) (pc1 := 116) (pc2 := 63) (st1 := []) rfl (fun h6 => ?_) (fun h6 => ?_)
          · exfalso; omega
          · skip
            refine qG.blk 2 (pc' := 67) (ls' := [(2, 23), l1, (2, 79), l3, (0, ((n9 : Nat) : Int)), (0, ((i : Nat) : Int)), (0, ((t : Nat) : Int))]) (st' := [(2, wQ 23 0)]) (w' := wQ) (n' := 142) rfl ?_
            rw [show wQ 23 0 = 24 from (hQf 23 0 (by decide)).trans (zref hI rfl rfl)]
            refine qG.blk 3 (pc' := 73) (ls' := [(2, 23), l1, (2, 79), l3, (0, ((n9 : Nat) : Int)), (0, ((i : Nat) : Int)), (0, ((t : Nat) : Int))]) (st' := [(2, wQ 23 2), (0, ((i : Nat) : Int)), (2, 24)]) (w' := wQ) (n' := 142) rfl ?_
            rw [show wQ 23 2 = 28 from (hQf 23 2 (by decide)).trans (zref hI rfl rfl)]
            refine qG.call (t := 102) (na := 3) (sk := 1) (md := 1) (ls1 := [(2, 24), (0, ((i : Nat) : Int)), (2, 28), (9, 0)]) (r1 := []) rfl rfl rfl rfl rfl (K_spread1 (by omega) i (by omega) wQ hIQ) ?_
            rintro _ wA _ ⟨rfl, rfl, hRA⟩
            have hIA := hRA.2.2
            have hAf : (∀ q j, ¬ (27 ≤ q ∧ q ≤ 30) → wA q j = w q j) := fun q j a => (hRA.2.1 q j (by omega)).trans (hQf q j a)
            show qG none (d + 1) 38 76 [(2, 23), l1, (2, 79), l3, (0, ((n9 : Nat) : Int)), (0, ((i : Nat) : Int)), (0, ((t : Nat) : Int))] [] wA 142 Q9
            refine qG.blk 4 (pc' := 83) (ls' := [(2, 23), l1, (2, 79), l3, (0, ((n9 : Nat) : Int)), (0, ((i : Nat) : Int)), (0, ((t : Nat) : Int))]) (st' := [(2, wA 23 3), (0, ((t : Nat) : Int)), (2, 23)]) (w' := wA) (n' := 142) rfl ?_
            rw [show wA 23 3 = 29 from (hAf 23 3 (by decide)).trans (zref hI rfl rfl)]
            refine qG.call (t := 41) (na := 3) (sk := 1) (md := 1) (ls1 := [(2, 23), (0, ((t : Nat) : Int)), (2, 29), (9, 0), (9, 0)]) (r1 := []) rfl rfl rfl rfl rfl (K_rdGood (by omega) t (by omega) wA hIA) ?_
            rintro _ wB _ ⟨rfl, rfl, hRB⟩
            have hIB := hRB.2.2
            have hBf : (∀ q j, ¬ (27 ≤ q ∧ q ≤ 30) → wB q j = w q j) := fun q j a => (hRB.2.1 q j (by omega)).trans (hAf q j a)
            show qG none (d + 1) 38 86 [(2, 23), l1, (2, 79), l3, (0, ((n9 : Nat) : Int)), (0, ((i : Nat) : Int)), (0, ((t : Nat) : Int))] [] wB 142 Q9
            refine qG.blk 2 (pc' := 90) (ls' := [(2, 23), l1, (2, 79), l3, (0, ((n9 : Nat) : Int)), (0, ((i : Nat) : Int)), (0, ((t : Nat) : Int))]) (st' := [(2, wB 23 2)]) (w' := wB) (n' := 142) rfl ?_
            rw [show wB 23 2 = 28 from (hBf 23 2 (by decide)).trans (zref hI rfl rfl)]
            refine qG.blk 2 (pc' := 94) (ls' := [(2, 23), l1, (2, 79), l3, (0, ((n9 : Nat) : Int)), (0, ((i : Nat) : Int)), (0, ((t : Nat) : Int))]) (st' := [(2, wB 23 3), (2, 28)]) (w' := wB) (n' := 142) rfl ?_
            rw [show wB 23 3 = 29 from (hBf 23 3 (by decide)).trans (zref hI rfl rfl)]
            refine qG.blk 2 (pc' := 98) (ls' := [(2, 23), l1, (2, 79), l3, (0, ((n9 : Nat) : Int)), (0, ((i : Nat) : Int)), (0, ((t : Nat) : Int))]) (st' := [(2, wB 23 1), (2, 29), (2, 28)]) (w' := wB) (n' := 142) rfl ?_
            rw [show wB 23 1 = 27 from (hBf 23 1 (by decide)).trans (zref hI rfl rfl)]
            refine qG.call (t := 49) (na := 3) (sk := 0) (md := 0) (ls1 := [(2, 28), (2, 29), (2, 27), (9, 0)]) (r1 := []) rfl rfl rfl rfl rfl (K_keep28_29_27 (by omega) wB hIB) ?_
            rintro _ wC _ ⟨rfl, rfl, hRC⟩
            have hIC := hRC.2.2
            have hCf : (∀ q j, ¬ (27 ≤ q ∧ q ≤ 30) → wC q j = w q j) := fun q j a => (hRC.2.1 q j (by omega)).trans (hBf q j a)
            have hC27 : HOLD wC 27 (wyC N P M V (scF (w 80) (w 81) L) t i) := fun j hj => by
              rw [hRC.1 j hj]
              show (sb wB 28 j && sb wB 29 j) = _
              rw [show sb wB 29 j = gb wA t j from hRB.1 j hj, hRB.o (by decide), show sb wA 28 j = mb wQ i j from hRA.1 j hj, hTQ.2.2.2 i j (by omega) hj, decide_eq_true hiN, Bool.true_and, show gb wA t j = gb wQ t j from by unfold gb; rw [hRA.2.1 30 _ (by decide)], hQg t (by omega) j hj, Bool.and_assoc]; rfl
            have hCg : ∀ t, t < (scF (w 80) (w 81) L) → ∀ j, j < 192 → gb wC t j = gd N P M V (scF (w 80) (w 81) L) t j := fun t a j hj => by rw [show gb wC t j = gb wQ t j from by unfold gb; rw [hRC.2.1 30 _ (by decide), hRB.2.1 30 _ (by decide), hRA.2.1 30 _ (by decide)]]; exact hQg t a j hj
            have hex : ∃ j, j < 192 ∧ wyC N P M V (scF (w 80) (w 81) L) t i j = true := by obtain ⟨j, a, b⟩ := wyC_ex (show t < (scF (w 80) (w 81) L) by omega) (wyF_g t i (by omega) hwy).2; exact ⟨j, by omega, b⟩
            show qG none (d + 1) 38 101 [(2, 23), l1, (2, 79), l3, (0, ((n9 : Nat) : Int)), (0, ((i : Nat) : Int)), (0, ((t : Nat) : Int))] [] wC 142 Q9
            refine qG.blk 2 (pc' := 105) (ls' := [(2, 23), l1, (2, 79), l3, (0, ((n9 : Nat) : Int)), (0, ((i : Nat) : Int)), (0, ((t : Nat) : Int))]) (st' := [(2, wC 23 1)]) (w' := wC) (n' := 142) rfl ?_
            rw [show wC 23 1 = 27 from (hCf 23 1 (by decide)).trans (zref hI rfl rfl)]
            refine qG.call (t := 53) (na := 1) (sk := 0) (md := 0) (ls1 := [(2, 27), (9, 0)]) (r1 := []) rfl rfl rfl rfl rfl (K_leastI (by omega) _ wC hIC hC27 hex) ?_
            rintro _ w7 _ ⟨hw7, rfl, j1, hj1, rfl, hyes1, hlow1⟩
            rw [hw7]
            show qG none (d + 1) 38 108 [(2, 23), l1, (2, 79), l3, (0, ((n9 : Nat) : Int)), (0, ((i : Nat) : Int)), (0, ((t : Nat) : Int))] [(0, ((j1 : Nat) : Int))] wC 142 Q9
            refine qG.blk 2 (pc' := 113) (ls' := [(2, 23), l1, (2, 79), l3, (0, ((n9 : Nat) : Int)), (0, ((j1 : Nat) : Int)), (0, wrp (((t : Nat) : Int) + 1))]) (st' := []) (w' := wC) (n' := 142) rfl ?_
            rw [show wrp (((t : Nat) : Int) + 1) = ((t + 1 : Nat) : Int) from wrp_id (by omega) (by omega)]
            refine qG.blk 1 (pc' := 42) (ls' := [(2, 23), l1, (2, 79), l3, (0, ((n9 : Nat) : Int)), (0, ((j1 : Nat) : Int)), (0, ((t + 1 : Nat) : Int))]) (st' := []) (w' := wC) (n' := 142) rfl ?_
            exact ih42 _ (by omega) (t + 1) (j1) (wC) rfl (⟨by omega, ⟨i, hwy, hyes1, hlow1⟩, hCf, hIC, hCg⟩)
        · exfalso; omega
      · skip
        refine qG.blk 2 (pc' := 120) (ls' := [(2, 23), l1, (2, 79), l3, (0, ((n9 : Nat) : Int)), (0, ((i : Nat) : Int)), (0, ((t : Nat) : Int))]) (st' := [(2, wQ 23 0)]) (w' := wQ) (n' := 142) rfl ?_
        rw [show wQ 23 0 = 24 from (hQf 23 0 (by decide)).trans (zref hI rfl rfl)]
        refine qG.blk 1 (pc' := 122) (ls' := [(2, 23), l1, (2, 79), l3, (0, ((n9 : Nat) : Int)), (0, ((i : Nat) : Int)), (0, ((t : Nat) : Int))]) (st' := [(0, ((i : Nat) : Int)), (2, 24)]) (w' := wQ) (n' := 142) rfl ?_
        refine qG.call (t := 100) (na := 2) (sk := 1) (md := 1) (ls1 := [(2, 24), (0, ((i : Nat) : Int))]) (r1 := []) rfl rfl rfl rfl rfl (K_setI (Nat.zero_le _) i N hiN hT.1 wQ hIQ hTQ.2.1) ?_
        rintro _ w7 _ ⟨rfl, hw7, rfl⟩
        rw [hw7]
        show qG none (d + 1) 38 125 [(2, 23), l1, (2, 79), l3, (0, ((n9 : Nat) : Int)), (0, ((i : Nat) : Int)), (0, ((t : Nat) : Int))] [(0, wQ 25 i)] wQ 142 Q9
        refine qG.ret rfl rfl ?_
        subst hQ9
        obtain rfl : t = n9 := by omega
        exact ⟨rfl, _, rfl, .inr ⟨i, hwy, hTQ.2.2.1 i hiN⟩⟩
    exact L42 _ (0) (i0) (wG) rfl (⟨Nat.zero_le _, ⟨(hG27 i0 hi0).symm.trans hyes, fun j hj => (hG27 j (by omega)).symm.trans (hlow j hj)⟩, hGf, hIG, hGg⟩)
theorem K_wyB83 {d : Nat} (hd : 5 ≤ d) (N : Nat) (P : Nat → Int) (M : Nat → Nat → Bool) (V : Nat → Int) (hsy : ∀ i j, i < N → j < N → M i j = M j i) (L : Nat) (hL : L ≤ 40) (w : qW) (hI : yInv zgf zga zra zSp w) (hs : w 83 2 = (L : Int)) (hKW : KNw (w 84) (w 85) L) (hT : CTB N P M w) (hVV : ∀ g, g < L → ∀ u, u < dN (w 84 g) (w 85 g) → V (scF (w 84) (w 85) g + u) = w 86 g) (n9 : Nat) (hn9 : n9 ≤ (scF (w 84) (w 85) L)) (l1 l3 : qV) : qG none d 38 25 [(2, 23), l1, (2, 83), l3, (0, ((n9 : Nat) : Int)), (9, 0), (9, 0)] [] w 142 (fun (r : qV) (_ : qW) (n1 : Nat) => n1 = 142 ∧ ∃ x, r = (0, x) ∧ WSP N P M V (scF (w 84) (w 85) L) n9 x) := by
  generalize hQ9 : (fun (r : qV) (_ : qW) (n1 : Nat) => n1 = 142 ∧ ∃ x, r = (0, x) ∧ WSP N P M V (scF (w 84) (w 85) L) n9 x) = Q9
  obtain ⟨N8, hN8⟩ : ∃ N : Int, N = 800 := ⟨_, rfl⟩
  obtain ⟨d, rfl⟩ : ∃ d9, d = d9 + 1 := ⟨d - 1, by omega⟩
  have hN18 := hT.1
  have hS8 := sc_le hKW L (Nat.le_refl _)
  refine qG.blk 2 (pc' := 27) (ls' := [(2, 23), l1, (2, 83), l3, (0, ((n9 : Nat) : Int)), (9, 0), (9, 0)]) (st' := [(2, 83), (2, 23)]) (w' := w) (n' := 142) rfl ?_
  refine qG.call (t := 39) (na := 2) (sk := 1) (md := 1) (ls1 := [(2, 23), (2, 83), (9, 0), (9, 0), (9, 0)]) (r1 := []) rfl rfl rfl rfl rfl (K_fGood83 (by omega) N P M V hsy L hL w hI hs hKW hT hVV) ?_
  rintro _ wG _ ⟨rfl, rfl, hIG, hGf, hG27, hGg⟩
  have hTG := hT.cg (w1 := wG) (fun q j h => hGf q j (by omega))
  show qG none (d + 1) 38 30 [(2, 23), l1, (2, 83), l3, (0, ((n9 : Nat) : Int)), (9, 0), (9, 0)] [] wG 142 Q9
  refine qG.blk 2 (pc' := 34) (ls' := [(2, 23), l1, (2, 83), l3, (0, ((n9 : Nat) : Int)), (9, 0), (9, 0)]) (st' := [(2, wG 23 1)]) (w' := wG) (n' := 142) rfl ?_
  rw [show wG 23 1 = 27 from (hGf 23 1 (by decide)).trans (zref hI rfl rfl)]
  refine qG.call (t := 53) (na := 1) (sk := 0) (md := 0) (ls1 := [(2, 27), (9, 0)]) (r1 := []) rfl rfl rfl rfl rfl (K_least (by omega) wG hIG) ?_
  rintro _ w7 _ ⟨hw7, rfl, ⟨rfl, hno⟩ | ⟨i0, hi0, rfl, hyes, hlow⟩⟩ <;> rw [hw7]
  · skip
    show qG none (d + 1) 38 37 [(2, 23), l1, (2, 83), l3, (0, ((n9 : Nat) : Int)), (9, 0), (9, 0)] [(0, (-1))] wG 142 Q9
    refine qG.blk 3 (pc' := 42) (ls' := [(2, 23), l1, (2, 83), l3, (0, ((n9 : Nat) : Int)), (0, (-1)), (0, 0)]) (st' := []) (w' := wG) (n' := 142) rfl ?_
    refine qG.blk 2 (pc' := 46) (ls' := [(2, 23), l1, (2, 83), l3, (0, ((n9 : Nat) : Int)), (0, (-1)), (0, 0)]) (st' := [(0, ((n9 : Nat) : Int)), (0, 0)]) (w' := wG) (n' := 142) rfl ?_
    refine qG.br (P := 0 < ((n9 : Nat) : Int)) (pc1 := 49) (pc2 := 116) (st1 := []) rfl (fun h1 => ?_) (fun h1 => ?_)
    · skip
      refine qG.blk 2 (pc' := 54) (ls' := [(2, 23), l1, (2, 83), l3, (0, ((n9 : Nat) : Int)), (0, (-1)), (0, 0)]) (st' := [(0, 800), (0, 0)]) (w' := wG) (n' := 142) rfl ?_
      rw [show (800 : Int) = N8 from hN8.symm]
      refine qG.br (P := 0 < N8) (pc1 := 57) (pc2 := 116) (st1 := []) rfl (fun h2 => ?_) (fun h2 => ?_)
      · skip
        refine qG.blk 2 (pc' := 60) (ls' := [(2, 23), l1, (2, 83), l3, (0, ((n9 : Nat) : Int)), (0, (-1)), (0, 0)]) (st' := [(0, (-1)), (0, (-1))]) (w' := wG) (n' := 142) rfl ?_
        refine qG.br (P := ((-1) : Int) = (-1)) (pc1 := 116) (pc2 := 63) (st1 := []) rfl (fun h3 => ?_) (fun h3 => ?_)
        · skip
          refine qG.blk 2 (pc' := 120) (ls' := [(2, 23), l1, (2, 83), l3, (0, ((n9 : Nat) : Int)), (0, (-1)), (0, 0)]) (st' := [(2, wG 23 0)]) (w' := wG) (n' := 142) rfl ?_
          rw [show wG 23 0 = 24 from (hGf 23 0 (by decide)).trans (zref hI rfl rfl)]
          refine qG.blk 1 (pc' := 122) (ls' := [(2, 23), l1, (2, 83), l3, (0, ((n9 : Nat) : Int)), (0, (-1)), (0, 0)]) (st' := [(0, (-1)), (2, 24)]) (w' := wG) (n' := 142) rfl ?_
          refine qG.call (t := 100) (na := 2) (sk := 1) (md := 1) (ls1 := [(2, 24), (0, (-1))]) (r1 := []) rfl rfl rfl rfl rfl (K_setN (Nat.zero_le _) wG hIG) ?_
          rintro _ w7 _ ⟨rfl, hw7, rfl⟩
          rw [hw7]
          show qG none (d + 1) 38 125 [(2, 23), l1, (2, 83), l3, (0, ((n9 : Nat) : Int)), (0, (-1)), (0, 0)] [(0, (-1))] wG 142 Q9
          refine qG.ret rfl rfl ?_
          subst hQ9
          exact ⟨rfl, _, rfl, .inl ⟨fun j => if q : j < 192 then (hG27 j q).symm.trans (hno j q) else gz_N (by omega), rfl⟩⟩
        · exact absurd h3 (by decide)
      · exfalso; omega
    · skip
      refine qG.blk 2 (pc' := 120) (ls' := [(2, 23), l1, (2, 83), l3, (0, ((n9 : Nat) : Int)), (0, (-1)), (0, 0)]) (st' := [(2, wG 23 0)]) (w' := wG) (n' := 142) rfl ?_
      rw [show wG 23 0 = 24 from (hGf 23 0 (by decide)).trans (zref hI rfl rfl)]
      refine qG.blk 1 (pc' := 122) (ls' := [(2, 23), l1, (2, 83), l3, (0, ((n9 : Nat) : Int)), (0, (-1)), (0, 0)]) (st' := [(0, (-1)), (2, 24)]) (w' := wG) (n' := 142) rfl ?_
      refine qG.call (t := 100) (na := 2) (sk := 1) (md := 1) (ls1 := [(2, 24), (0, (-1))]) (r1 := []) rfl rfl rfl rfl rfl (K_setN (Nat.zero_le _) wG hIG) ?_
      rintro _ w7 _ ⟨rfl, hw7, rfl⟩
      rw [hw7]
      show qG none (d + 1) 38 125 [(2, 23), l1, (2, 83), l3, (0, ((n9 : Nat) : Int)), (0, (-1)), (0, 0)] [(0, (-1))] wG 142 Q9
      refine qG.ret rfl rfl ?_
      subst hQ9
      exact ⟨rfl, _, rfl, .inl ⟨fun j => if q : j < 192 then (hG27 j q).symm.trans (hno j q) else gz_N (by omega), rfl⟩⟩
  · skip
    show qG none (d + 1) 38 37 [(2, 23), l1, (2, 83), l3, (0, ((n9 : Nat) : Int)), (9, 0), (9, 0)] [(0, ((i0 : Nat) : Int))] wG 142 Q9
    refine qG.blk 3 (pc' := 42) (ls' := [(2, 23), l1, (2, 83), l3, (0, ((n9 : Nat) : Int)), (0, ((i0 : Nat) : Int)), (0, 0)]) (st' := []) (w' := wG) (n' := 142) rfl ?_
    have L42 : ∀ (m9 : Nat) (t i : Nat) (wQ : qW), n9 - t = m9 → (t ≤ n9 ∧ wyF N P M V (scF (w 84) (w 85) L) t i ∧ (∀ q j, ¬ (27 ≤ q ∧ q ≤ 30) → wQ q j = w q j) ∧ yInv zgf zga zra zSp wQ ∧ ∀ t, t < (scF (w 84) (w 85) L) → ∀ j, j < 192 → gb wQ t j = gd N P M V (scF (w 84) (w 85) L) t j) → qG none (d + 1) 38 42 [(2, 23), l1, (2, 83), l3, (0, ((n9 : Nat) : Int)), (0, ((i : Nat) : Int)), (0, ((t : Nat) : Int))] [] wQ 142 Q9 := by
      intro m9
      induction m9 using Nat.strongRecOn with
      | ind m9 ih42 =>
      intro t i wQ hm42 hI42
      obtain ⟨htn, hwy, hQf, hIQ, hQg⟩ := hI42
      have hTQ := hT.cg (w1 := wQ) (fun q j h => hQf q j (by omega))
      have hiN := (wyF_g t i (by omega) hwy).1
      refine qG.blk 2 (pc' := 46) (ls' := [(2, 23), l1, (2, 83), l3, (0, ((n9 : Nat) : Int)), (0, ((i : Nat) : Int)), (0, ((t : Nat) : Int))]) (st' := [(0, ((n9 : Nat) : Int)), (0, ((t : Nat) : Int))]) (w' := wQ) (n' := 142) rfl ?_
      refine qG.br (P := ((t : Nat) : Int) < ((n9 : Nat) : Int)) (pc1 := 49) (pc2 := 116) (st1 := []) rfl (fun h4 => ?_) (fun h4 => ?_)
      · skip
        refine qG.blk 2 (pc' := 54) (ls' := [(2, 23), l1, (2, 83), l3, (0, ((n9 : Nat) : Int)), (0, ((i : Nat) : Int)), (0, ((t : Nat) : Int))]) (st' := [(0, 800), (0, ((t : Nat) : Int))]) (w' := wQ) (n' := 142) rfl ?_
        rw [show (800 : Int) = N8 from hN8.symm]
        refine qG.br (P := ((t : Nat) : Int) < N8) (pc1 := 57) (pc2 := 116) (st1 := []) rfl (fun h5 => ?_) (fun h5 => ?_)
        · skip
          refine qG.blk 2 (pc' := 60) (ls' := [(2, 23), l1, (2, 83), l3, (0, ((n9 : Nat) : Int)), (0, ((i : Nat) : Int)), (0, ((t : Nat) : Int))]) (st' := [(0, (-1)), (0, ((i : Nat) : Int))]) (w' := wQ) (n' := 142) rfl ?_
          refine qG.br (P := ((i : Nat) : Int) = (-1)) (pc1 := 116) (pc2 := 63) (st1 := []) rfl (fun h6 => ?_) (fun h6 => ?_)
          · exfalso; omega
          · skip
            refine qG.blk 2 (pc' := 67) (ls' := [(2, 23), l1, (2, 83), l3, (0, ((n9 : Nat) : Int)), (0, ((i : Nat) : Int)), (0, ((t : Nat) : Int))]) (st' := [(2, wQ 23 0)]) (w' := wQ) (n' := 142) rfl ?_
            rw [show wQ 23 0 = 24 from (hQf 23 0 (by decide)).trans (zref hI rfl rfl)]
            refine qG.blk 3 (pc' := 73) (ls' := [(2, 23), l1, (2, 83), l3, (0, ((n9 : Nat) : Int)), (0, ((i : Nat) : Int)), (0, ((t : Nat) : Int))]) (st' := [(2, wQ 23 2), (0, ((i : Nat) : Int)), (2, 24)]) (w' := wQ) (n' := 142) rfl ?_
            rw [show wQ 23 2 = 28 from (hQf 23 2 (by decide)).trans (zref hI rfl rfl)]
            refine qG.call (t := 102) (na := 3) (sk := 1) (md := 1) (ls1 := [(2, 24), (0, ((i : Nat) : Int)), (2, 28), (9, 0)]) (r1 := []) rfl rfl rfl rfl rfl (K_spread1 (by omega) i (by omega) wQ hIQ) ?_
            rintro _ wA _ ⟨rfl, rfl, hRA⟩
            have hIA := hRA.2.2
            have hAf : (∀ q j, ¬ (27 ≤ q ∧ q ≤ 30) → wA q j = w q j) := fun q j a => (hRA.2.1 q j (by omega)).trans (hQf q j a)
            show qG none (d + 1) 38 76 [(2, 23), l1, (2, 83), l3, (0, ((n9 : Nat) : Int)), (0, ((i : Nat) : Int)), (0, ((t : Nat) : Int))] [] wA 142 Q9
            refine qG.blk 4 (pc' := 83) (ls' := [(2, 23), l1, (2, 83), l3, (0, ((n9 : Nat) : Int)), (0, ((i : Nat) : Int)), (0, ((t : Nat) : Int))]) (st' := [(2, wA 23 3), (0, ((t : Nat) : Int)), (2, 23)]) (w' := wA) (n' := 142) rfl ?_
            rw [show wA 23 3 = 29 from (hAf 23 3 (by decide)).trans (zref hI rfl rfl)]
            refine qG.call (t := 41) (na := 3) (sk := 1) (md := 1) (ls1 := [(2, 23), (0, ((t : Nat) : Int)), (2, 29), (9, 0), (9, 0)]) (r1 := []) rfl rfl rfl rfl rfl (K_rdGood (by omega) t (by omega) wA hIA) ?_
            rintro _ wB _ ⟨rfl, rfl, hRB⟩
            have hIB := hRB.2.2
            have hBf : (∀ q j, ¬ (27 ≤ q ∧ q ≤ 30) → wB q j = w q j) := fun q j a => (hRB.2.1 q j (by omega)).trans (hAf q j a)
            show qG none (d + 1) 38 86 [(2, 23), l1, (2, 83), l3, (0, ((n9 : Nat) : Int)), (0, ((i : Nat) : Int)), (0, ((t : Nat) : Int))] [] wB 142 Q9
            refine qG.blk 2 (pc' := 90) (ls' := [(2, 23), l1, (2, 83), l3, (0, ((n9 : Nat) : Int)), (0, ((i : Nat) : Int)), (0, ((t : Nat) : Int))]) (st' := [(2, wB 23 2)]) (w' := wB) (n' := 142) rfl ?_
            rw [show wB 23 2 = 28 from (hBf 23 2 (by decide)).trans (zref hI rfl rfl)]
            refine qG.blk 2 (pc' := 94) (ls' := [(2, 23), l1, (2, 83), l3, (0, ((n9 : Nat) : Int)), (0, ((i : Nat) : Int)), (0, ((t : Nat) : Int))]) (st' := [(2, wB 23 3), (2, 28)]) (w' := wB) (n' := 142) rfl ?_
            rw [show wB 23 3 = 29 from (hBf 23 3 (by decide)).trans (zref hI rfl rfl)]
            refine qG.blk 2 (pc' := 98) (ls' := [(2, 23), l1, (2, 83), l3, (0, ((n9 : Nat) : Int)), (0, ((i : Nat) : Int)), (0, ((t : Nat) : Int))]) (st' := [(2, wB 23 1), (2, 29), (2, 28)]) (w' := wB) (n' := 142) rfl ?_
            rw [show wB 23 1 = 27 from (hBf 23 1 (by decide)).trans (zref hI rfl rfl)]
            refine qG.call (t := 49) (na := 3) (sk := 0) (md := 0) (ls1 := [(2, 28), (2, 29), (2, 27), (9, 0)]) (r1 := []) rfl rfl rfl rfl rfl (K_keep28_29_27 (by omega) wB hIB) ?_
            rintro _ wC _ ⟨rfl, rfl, hRC⟩
            have hIC := hRC.2.2
            have hCf : (∀ q j, ¬ (27 ≤ q ∧ q ≤ 30) → wC q j = w q j) := fun q j a => (hRC.2.1 q j (by omega)).trans (hBf q j a)
            have hC27 : HOLD wC 27 (wyC N P M V (scF (w 84) (w 85) L) t i) := fun j hj => by
              rw [hRC.1 j hj]
              show (sb wB 28 j && sb wB 29 j) = _
              rw [show sb wB 29 j = gb wA t j from hRB.1 j hj, hRB.o (by decide), show sb wA 28 j = mb wQ i j from hRA.1 j hj, hTQ.2.2.2 i j (by omega) hj, decide_eq_true hiN, Bool.true_and, show gb wA t j = gb wQ t j from by unfold gb; rw [hRA.2.1 30 _ (by decide)], hQg t (by omega) j hj, Bool.and_assoc]; rfl
            have hCg : ∀ t, t < (scF (w 84) (w 85) L) → ∀ j, j < 192 → gb wC t j = gd N P M V (scF (w 84) (w 85) L) t j := fun t a j hj => by rw [show gb wC t j = gb wQ t j from by unfold gb; rw [hRC.2.1 30 _ (by decide), hRB.2.1 30 _ (by decide), hRA.2.1 30 _ (by decide)]]; exact hQg t a j hj
            have hex : ∃ j, j < 192 ∧ wyC N P M V (scF (w 84) (w 85) L) t i j = true := by obtain ⟨j, a, b⟩ := wyC_ex (show t < (scF (w 84) (w 85) L) by omega) (wyF_g t i (by omega) hwy).2; exact ⟨j, by omega, b⟩
            show qG none (d + 1) 38 101 [(2, 23), l1, (2, 83), l3, (0, ((n9 : Nat) : Int)), (0, ((i : Nat) : Int)), (0, ((t : Nat) : Int))] [] wC 142 Q9
            refine qG.blk 2 (pc' := 105) (ls' := [(2, 23), l1, (2, 83), l3, (0, ((n9 : Nat) : Int)), (0, ((i : Nat) : Int)), (0, ((t : Nat) : Int))]) (st' := [(2, wC 23 1)]) (w' := wC) (n' := 142) rfl ?_
            rw [show wC 23 1 = 27 from (hCf 23 1 (by decide)).trans (zref hI rfl rfl)]
            refine qG.call (t := 53) (na := 1) (sk := 0) (md := 0) (ls1 := [(2, 27), (9, 0)]) (r1 := []) rfl rfl rfl rfl rfl (K_leastI (by omega) _ wC hIC hC27 hex) ?_
            rintro _ w7 _ ⟨hw7, rfl, j1, hj1, rfl, hyes1, hlow1⟩
            rw [hw7]
            show qG none (d + 1) 38 108 [(2, 23), l1, (2, 83), l3, (0, ((n9 : Nat) : Int)), (0, ((i : Nat) : Int)), (0, ((t : Nat) : Int))] [(0, ((j1 : Nat) : Int))] wC 142 Q9
            refine qG.blk 2 (pc' := 113) (ls' := [(2, 23), l1, (2, 83), l3, (0, ((n9 : Nat) : Int)), (0, ((j1 : Nat) : Int)), (0, wrp (((t : Nat) : Int) + 1))]) (st' := []) (w' := wC) (n' := 142) rfl ?_
            rw [show wrp (((t : Nat) : Int) + 1) = ((t + 1 : Nat) : Int) from wrp_id (by omega) (by omega)]
            refine qG.blk 1 (pc' := 42) (ls' := [(2, 23), l1, (2, 83), l3, (0, ((n9 : Nat) : Int)), (0, ((j1 : Nat) : Int)), (0, ((t + 1 : Nat) : Int))]) (st' := []) (w' := wC) (n' := 142) rfl ?_
            exact ih42 _ (by omega) (t + 1) (j1) (wC) rfl (⟨by omega, ⟨i, hwy, hyes1, hlow1⟩, hCf, hIC, hCg⟩)
        · exfalso; omega
      · skip
        refine qG.blk 2 (pc' := 120) (ls' := [(2, 23), l1, (2, 83), l3, (0, ((n9 : Nat) : Int)), (0, ((i : Nat) : Int)), (0, ((t : Nat) : Int))]) (st' := [(2, wQ 23 0)]) (w' := wQ) (n' := 142) rfl ?_
        rw [show wQ 23 0 = 24 from (hQf 23 0 (by decide)).trans (zref hI rfl rfl)]
        refine qG.blk 1 (pc' := 122) (ls' := [(2, 23), l1, (2, 83), l3, (0, ((n9 : Nat) : Int)), (0, ((i : Nat) : Int)), (0, ((t : Nat) : Int))]) (st' := [(0, ((i : Nat) : Int)), (2, 24)]) (w' := wQ) (n' := 142) rfl ?_
        refine qG.call (t := 100) (na := 2) (sk := 1) (md := 1) (ls1 := [(2, 24), (0, ((i : Nat) : Int))]) (r1 := []) rfl rfl rfl rfl rfl (K_setI (Nat.zero_le _) i N hiN hT.1 wQ hIQ hTQ.2.1) ?_
        rintro _ w7 _ ⟨rfl, hw7, rfl⟩
        rw [hw7]
        show qG none (d + 1) 38 125 [(2, 23), l1, (2, 83), l3, (0, ((n9 : Nat) : Int)), (0, ((i : Nat) : Int)), (0, ((t : Nat) : Int))] [(0, wQ 25 i)] wQ 142 Q9
        refine qG.ret rfl rfl ?_
        subst hQ9
        obtain rfl : t = n9 := by omega
        exact ⟨rfl, _, rfl, .inr ⟨i, hwy, hTQ.2.2.1 i hiN⟩⟩
    exact L42 _ (0) (i0) (wG) rfl (⟨Nat.zero_le _, ⟨(hG27 i0 hi0).symm.trans hyes, fun j hj => (hG27 j (by omega)).symm.trans (hlow j hj)⟩, hGf, hIG, hGg⟩)
theorem K_wyB87 {d : Nat} (hd : 5 ≤ d) (N : Nat) (P : Nat → Int) (M : Nat → Nat → Bool) (V : Nat → Int) (hsy : ∀ i j, i < N → j < N → M i j = M j i) (L : Nat) (hL : L ≤ 40) (w : qW) (hI : yInv zgf zga zra zSp w) (hs : w 87 2 = (L : Int)) (hKW : KNw (w 88) (w 89) L) (hT : CTB N P M w) (hVV : ∀ g, g < L → ∀ u, u < dN (w 88 g) (w 89 g) → V (scF (w 88) (w 89) g + u) = w 90 g) (n9 : Nat) (hn9 : n9 ≤ (scF (w 88) (w 89) L)) (l1 l3 : qV) : qG none d 38 25 [(2, 23), l1, (2, 87), l3, (0, ((n9 : Nat) : Int)), (9, 0), (9, 0)] [] w 142 (fun (r : qV) (_ : qW) (n1 : Nat) => n1 = 142 ∧ ∃ x, r = (0, x) ∧ WSP N P M V (scF (w 88) (w 89) L) n9 x) := by
  generalize hQ9 : (fun (r : qV) (_ : qW) (n1 : Nat) => n1 = 142 ∧ ∃ x, r = (0, x) ∧ WSP N P M V (scF (w 88) (w 89) L) n9 x) = Q9
  obtain ⟨N8, hN8⟩ : ∃ N : Int, N = 800 := ⟨_, rfl⟩
  obtain ⟨d, rfl⟩ : ∃ d9, d = d9 + 1 := ⟨d - 1, by omega⟩
  have hN18 := hT.1
  have hS8 := sc_le hKW L (Nat.le_refl _)
  refine qG.blk 2 (pc' := 27) (ls' := [(2, 23), l1, (2, 87), l3, (0, ((n9 : Nat) : Int)), (9, 0), (9, 0)]) (st' := [(2, 87), (2, 23)]) (w' := w) (n' := 142) rfl ?_
  refine qG.call (t := 39) (na := 2) (sk := 1) (md := 1) (ls1 := [(2, 23), (2, 87), (9, 0), (9, 0), (9, 0)]) (r1 := []) rfl rfl rfl rfl rfl (K_fGood87 (by omega) N P M V hsy L hL w hI hs hKW hT hVV) ?_
  rintro _ wG _ ⟨rfl, rfl, hIG, hGf, hG27, hGg⟩
  have hTG := hT.cg (w1 := wG) (fun q j h => hGf q j (by omega))
  show qG none (d + 1) 38 30 [(2, 23), l1, (2, 87), l3, (0, ((n9 : Nat) : Int)), (9, 0), (9, 0)] [] wG 142 Q9
  refine qG.blk 2 (pc' := 34) (ls' := [(2, 23), l1, (2, 87), l3, (0, ((n9 : Nat) : Int)), (9, 0), (9, 0)]) (st' := [(2, wG 23 1)]) (w' := wG) (n' := 142) rfl ?_
  rw [show wG 23 1 = 27 from (hGf 23 1 (by decide)).trans (zref hI rfl rfl)]
  refine qG.call (t := 53) (na := 1) (sk := 0) (md := 0) (ls1 := [(2, 27), (9, 0)]) (r1 := []) rfl rfl rfl rfl rfl (K_least (by omega) wG hIG) ?_
  rintro _ w7 _ ⟨hw7, rfl, ⟨rfl, hno⟩ | ⟨i0, hi0, rfl, hyes, hlow⟩⟩ <;> rw [hw7]
  · skip
    show qG none (d + 1) 38 37 [(2, 23), l1, (2, 87), l3, (0, ((n9 : Nat) : Int)), (9, 0), (9, 0)] [(0, (-1))] wG 142 Q9
    refine qG.blk 3 (pc' := 42) (ls' := [(2, 23), l1, (2, 87), l3, (0, ((n9 : Nat) : Int)), (0, (-1)), (0, 0)]) (st' := []) (w' := wG) (n' := 142) rfl ?_
    refine qG.blk 2 (pc' := 46) (ls' := [(2, 23), l1, (2, 87), l3, (0, ((n9 : Nat) : Int)), (0, (-1)), (0, 0)]) (st' := [(0, ((n9 : Nat) : Int)), (0, 0)]) (w' := wG) (n' := 142) rfl ?_
    refine qG.br (P := 0 < ((n9 : Nat) : Int)) (pc1 := 49) (pc2 := 116) (st1 := []) rfl (fun h1 => ?_) (fun h1 => ?_)
    · skip
      refine qG.blk 2 (pc' := 54) (ls' := [(2, 23), l1, (2, 87), l3, (0, ((n9 : Nat) : Int)), (0, (-1)), (0, 0)]) (st' := [(0, 800), (0, 0)]) (w' := wG) (n' := 142) rfl ?_
      rw [show (800 : Int) = N8 from hN8.symm]
      refine qG.br (P := 0 < N8) (pc1 := 57) (pc2 := 116) (st1 := []) rfl (fun h2 => ?_) (fun h2 => ?_)
      · skip
        refine qG.blk 2 (pc' := 60) (ls' := [(2, 23), l1, (2, 87), l3, (0, ((n9 : Nat) : Int)), (0, (-1)), (0, 0)]) (st' := [(0, (-1)), (0, (-1))]) (w' := wG) (n' := 142) rfl ?_
        refine qG.br (P := ((-1) : Int) = (-1)) (pc1 := 116) (pc2 := 63) (st1 := []) rfl (fun h3 => ?_) (fun h3 => ?_)
        · skip
          refine qG.blk 2 (pc' := 120) (ls' := [(2, 23), l1, (2, 87), l3, (0, ((n9 : Nat) : Int)), (0, (-1)), (0, 0)]) (st' := [(2, wG 23 0)]) (w' := wG) (n' := 142) rfl ?_
          rw [show wG 23 0 = 24 from (hGf 23 0 (by decide)).trans (zref hI rfl rfl)]
          refine qG.blk 1 (pc' := 122) (ls' := [(2, 23), l1, (2, 87), l3, (0, ((n9 : Nat) : Int)), (0, (-1)), (0, 0)]) (st' := [(0, (-1)), (2, 24)]) (w' := wG) (n' := 142) rfl ?_
          refine qG.call (t := 100) (na := 2) (sk := 1) (md := 1) (ls1 := [(2, 24), (0, (-1))]) (r1 := []) rfl rfl rfl rfl rfl (K_setN (Nat.zero_le _) wG hIG) ?_
          rintro _ w7 _ ⟨rfl, hw7, rfl⟩
          rw [hw7]
          show qG none (d + 1) 38 125 [(2, 23), l1, (2, 87), l3, (0, ((n9 : Nat) : Int)), (0, (-1)), (0, 0)] [(0, (-1))] wG 142 Q9
          refine qG.ret rfl rfl ?_
          subst hQ9
          exact ⟨rfl, _, rfl, .inl ⟨fun j => if q : j < 192 then (hG27 j q).symm.trans (hno j q) else gz_N (by omega), rfl⟩⟩
        · exact absurd h3 (by decide)
      · exfalso; omega
    · skip
      refine qG.blk 2 (pc' := 120) (ls' := [(2, 23), l1, (2, 87), l3, (0, ((n9 : Nat) : Int)), (0, (-1)), (0, 0)]) (st' := [(2, wG 23 0)]) (w' := wG) (n' := 142) rfl ?_
      rw [show wG 23 0 = 24 from (hGf 23 0 (by decide)).trans (zref hI rfl rfl)]
      refine qG.blk 1 (pc' := 122) (ls' := [(2, 23), l1, (2, 87), l3, (0, ((n9 : Nat) : Int)), (0, (-1)), (0, 0)]) (st' := [(0, (-1)), (2, 24)]) (w' := wG) (n' := 142) rfl ?_
      refine qG.call (t := 100) (na := 2) (sk := 1) (md := 1) (ls1 := [(2, 24), (0, (-1))]) (r1 := []) rfl rfl rfl rfl rfl (K_setN (Nat.zero_le _) wG hIG) ?_
      rintro _ w7 _ ⟨rfl, hw7, rfl⟩
      rw [hw7]
      show qG none (d + 1) 38 125 [(2, 23), l1, (2, 87), l3, (0, ((n9 : Nat) : Int)), (0, (-1)), (0, 0)] [(0, (-1))] wG 142 Q9
      refine qG.ret rfl rfl ?_
      subst hQ9
      exact ⟨rfl, _, rfl, .inl ⟨fun j => if q : j < 192 then (hG27 j q).symm.trans (hno j q) else gz_N (by omega), rfl⟩⟩
  · skip
    show qG none (d + 1) 38 37 [(2, 23), l1, (2, 87), l3, (0, ((n9 : Nat) : Int)), (9, 0), (9, 0)] [(0, ((i0 : Nat) : Int))] wG 142 Q9
    refine qG.blk 3 (pc' := 42) (ls' := [(2, 23), l1, (2, 87), l3, (0, ((n9 : Nat) : Int)), (0, ((i0 : Nat) : Int)), (0, 0)]) (st' := []) (w' := wG) (n' := 142) rfl ?_
    have L42 : ∀ (m9 : Nat) (t i : Nat) (wQ : qW), n9 - t = m9 → (t ≤ n9 ∧ wyF N P M V (scF (w 88) (w 89) L) t i ∧ (∀ q j, ¬ (27 ≤ q ∧ q ≤ 30) → wQ q j = w q j) ∧ yInv zgf zga zra zSp wQ ∧ ∀ t, t < (scF (w 88) (w 89) L) → ∀ j, j < 192 → gb wQ t j = gd N P M V (scF (w 88) (w 89) L) t j) → qG none (d + 1) 38 42 [(2, 23), l1, (2, 87), l3, (0, ((n9 : Nat) : Int)), (0, ((i : Nat) : Int)), (0, ((t : Nat) : Int))] [] wQ 142 Q9 := by
      intro m9
      induction m9 using Nat.strongRecOn with
      | ind m9 ih42 =>
      intro t i wQ hm42 hI42
      obtain ⟨htn, hwy, hQf, hIQ, hQg⟩ := hI42
      have hTQ := hT.cg (w1 := wQ) (fun q j h => hQf q j (by omega))
      have hiN := (wyF_g t i (by omega) hwy).1
      refine qG.blk 2 (pc' := 46) (ls' := [(2, 23), l1, (2, 87), l3, (0, ((n9 : Nat) : Int)), (0, ((i : Nat) : Int)), (0, ((t : Nat) : Int))]) (st' := [(0, ((n9 : Nat) : Int)), (0, ((t : Nat) : Int))]) (w' := wQ) (n' := 142) rfl ?_
      refine qG.br (P := ((t : Nat) : Int) < ((n9 : Nat) : Int)) (pc1 := 49) (pc2 := 116) (st1 := []) rfl (fun h4 => ?_) (fun h4 => ?_)
      · skip
        refine qG.blk 2 (pc' := 54) (ls' := [(2, 23), l1, (2, 87), l3, (0, ((n9 : Nat) : Int)), (0, ((i : Nat) : Int)), (0, ((t : Nat) : Int))]) (st' := [(0, 800), (0, ((t : Nat) : Int))]) (w' := wQ) (n' := 142) rfl ?_
        rw [show (800 : Int) = N8 from hN8.symm]
        refine qG.br (P := ((t : Nat) : Int) < N8) (pc1 := 57) (pc2 := 116) (st1 := []) rfl (fun h5 => ?_) (fun h5 => ?_)
        · skip
          refine qG.blk 2 (pc' := 60) (ls' := [(2, 23), l1, (2, 87), l3, (0, ((n9 : Nat) : Int)), (0, ((i : Nat) : Int)), (0, ((t : Nat) : Int))]) (st' := [(0, (-1)), (0, ((i : Nat) : Int))]) (w' := wQ) (n' := 142) rfl ?_
          refine qG.br (P := ((i : Nat) : Int) = (-1)) (pc1 := 116) (pc2 := 63) (st1 := []) rfl (fun h6 => ?_) (fun h6 => ?_)
          · exfalso; omega
          · skip
            refine qG.blk 2 (pc' := 67) (ls' := [(2, 23), l1, (2, 87), l3, (0, ((n9 : Nat) : Int)), (0, ((i : Nat) : Int)), (0, ((t : Nat) : Int))]) (st' := [(2, wQ 23 0)]) (w' := wQ) (n' := 142) rfl ?_
            rw [show wQ 23 0 = 24 from (hQf 23 0 (by decide)).trans (zref hI rfl rfl)]
            refine qG.blk 3 (pc' := 73) (ls' := [(2, 23), l1, (2, 87), l3, (0, ((n9 : Nat) : Int)), (0, ((i : Nat) : Int)), (0, ((t : Nat) : Int))]) (st' := [(2, wQ 23 2), (0, ((i : Nat) : Int)), (2, 24)]) (w' := wQ) (n' := 142) rfl ?_
            rw [show wQ 23 2 = 28 from (hQf 23 2 (by decide)).trans (zref hI rfl rfl)]
            refine qG.call (t := 102) (na := 3) (sk := 1) (md := 1) (ls1 := [(2, 24), (0, ((i : Nat) : Int)), (2, 28), (9, 0)]) (r1 := []) rfl rfl rfl rfl rfl (K_spread1 (by omega) i (by omega) wQ hIQ) ?_
            rintro _ wA _ ⟨rfl, rfl, hRA⟩
            have hIA := hRA.2.2
            have hAf : (∀ q j, ¬ (27 ≤ q ∧ q ≤ 30) → wA q j = w q j) := fun q j a => (hRA.2.1 q j (by omega)).trans (hQf q j a)
            show qG none (d + 1) 38 76 [(2, 23), l1, (2, 87), l3, (0, ((n9 : Nat) : Int)), (0, ((i : Nat) : Int)), (0, ((t : Nat) : Int))] [] wA 142 Q9
            refine qG.blk 4 (pc' := 83) (ls' := [(2, 23), l1, (2, 87), l3, (0, ((n9 : Nat) : Int)), (0, ((i : Nat) : Int)), (0, ((t : Nat) : Int))]) (st' := [(2, wA 23 3), (0, ((t : Nat) : Int)), (2, 23)]) (w' := wA) (n' := 142) rfl ?_
            rw [show wA 23 3 = 29 from (hAf 23 3 (by decide)).trans (zref hI rfl rfl)]
            refine qG.call (t := 41) (na := 3) (sk := 1) (md := 1) (ls1 := [(2, 23), (0, ((t : Nat) : Int)), (2, 29), (9, 0), (9, 0)]) (r1 := []) rfl rfl rfl rfl rfl (K_rdGood (by omega) t (by omega) wA hIA) ?_
            rintro _ wB _ ⟨rfl, rfl, hRB⟩
            have hIB := hRB.2.2
            have hBf : (∀ q j, ¬ (27 ≤ q ∧ q ≤ 30) → wB q j = w q j) := fun q j a => (hRB.2.1 q j (by omega)).trans (hAf q j a)
            show qG none (d + 1) 38 86 [(2, 23), l1, (2, 87), l3, (0, ((n9 : Nat) : Int)), (0, ((i : Nat) : Int)), (0, ((t : Nat) : Int))] [] wB 142 Q9
            refine qG.blk 2 (pc' := 90) (ls' := [(2, 23), l1, (2, 87), l3, (0, ((n9 : Nat) : Int)), (0, ((i : Nat) : Int)), (0, ((t : Nat) : Int))]) (st' := [(2, wB 23 2)]) (w' := wB) (n' := 142) rfl ?_
            rw [show wB 23 2 = 28 from (hBf 23 2 (by decide)).trans (zref hI rfl rfl)]
            refine qG.blk 2 (pc' := 94) (ls' := [(2, 23), l1, (2, 87), l3, (0, ((n9 : Nat) : Int)), (0, ((i : Nat) : Int)), (0, ((t : Nat) : Int))]) (st' := [(2, wB 23 3), (2, 28)]) (w' := wB) (n' := 142) rfl ?_
            rw [show wB 23 3 = 29 from (hBf 23 3 (by decide)).trans (zref hI rfl rfl)]
            refine qG.blk 2 (pc' := 98) (ls' := [(2, 23), l1, (2, 87), l3, (0, ((n9 : Nat) : Int)), (0, ((i : Nat) : Int)), (0, ((t : Nat) : Int))]) (st' := [(2, wB 23 1), (2, 29), (2, 28)]) (w' := wB) (n' := 142) rfl ?_
            rw [show wB 23 1 = 27 from (hBf 23 1 (by decide)).trans (zref hI rfl rfl)]
            refine qG.call (t := 49) (na := 3) (sk := 0) (md := 0) (ls1 := [(2, 28), (2, 29), (2, 27), (9, 0)]) (r1 := []) rfl rfl rfl rfl rfl (K_keep28_29_27 (by omega) wB hIB) ?_
            rintro _ wC _ ⟨rfl, rfl, hRC⟩
            have hIC := hRC.2.2
            have hCf : (∀ q j, ¬ (27 ≤ q ∧ q ≤ 30) → wC q j = w q j) := fun q j a => (hRC.2.1 q j (by omega)).trans (hBf q j a)
            have hC27 : HOLD wC 27 (wyC N P M V (scF (w 88) (w 89) L) t i) := fun j hj => by
              rw [hRC.1 j hj]
              show (sb wB 28 j && sb wB 29 j) = _
              rw [show sb wB 29 j = gb wA t j from hRB.1 j hj, hRB.o (by decide), show sb wA 28 j = mb wQ i j from hRA.1 j hj, hTQ.2.2.2 i j (by omega) hj, decide_eq_true hiN, Bool.true_and, show gb wA t j = gb wQ t j from by unfold gb; rw [hRA.2.1 30 _ (by decide)], hQg t (by omega) j hj, Bool.and_assoc]; rfl
            have hCg : ∀ t, t < (scF (w 88) (w 89) L) → ∀ j, j < 192 → gb wC t j = gd N P M V (scF (w 88) (w 89) L) t j := fun t a j hj => by rw [show gb wC t j = gb wQ t j from by unfold gb; rw [hRC.2.1 30 _ (by decide), hRB.2.1 30 _ (by decide), hRA.2.1 30 _ (by decide)]]; exact hQg t a j hj
            have hex : ∃ j, j < 192 ∧ wyC N P M V (scF (w 88) (w 89) L) t i j = true := by obtain ⟨j, a, b⟩ := wyC_ex (show t < (scF (w 88) (w 89) L) by omega) (wyF_g t i (by omega) hwy).2; exact ⟨j, by omega, b⟩
            show qG none (d + 1) 38 101 [(2, 23), l1, (2, 87), l3, (0, ((n9 : Nat) : Int)), (0, ((i : Nat) : Int)), (0, ((t : Nat) : Int))] [] wC 142 Q9
            refine qG.blk 2 (pc' := 105) (ls' := [(2, 23), l1, (2, 87), l3, (0, ((n9 : Nat) : Int)), (0, ((i : Nat) : Int)), (0, ((t : Nat) : Int))]) (st' := [(2, wC 23 1)]) (w' := wC) (n' := 142) rfl ?_
            rw [show wC 23 1 = 27 from (hCf 23 1 (by decide)).trans (zref hI rfl rfl)]
            refine qG.call (t := 53) (na := 1) (sk := 0) (md := 0) (ls1 := [(2, 27), (9, 0)]) (r1 := []) rfl rfl rfl rfl rfl (K_leastI (by omega) _ wC hIC hC27 hex) ?_
            rintro _ w7 _ ⟨hw7, rfl, j1, hj1, rfl, hyes1, hlow1⟩
            rw [hw7]
            show qG none (d + 1) 38 108 [(2, 23), l1, (2, 87), l3, (0, ((n9 : Nat) : Int)), (0, ((i : Nat) : Int)), (0, ((t : Nat) : Int))] [(0, ((j1 : Nat) : Int))] wC 142 Q9
            refine qG.blk 2 (pc' := 113) (ls' := [(2, 23), l1, (2, 87), l3, (0, ((n9 : Nat) : Int)), (0, ((j1 : Nat) : Int)), (0, wrp (((t : Nat) : Int) + 1))]) (st' := []) (w' := wC) (n' := 142) rfl ?_
            rw [show wrp (((t : Nat) : Int) + 1) = ((t + 1 : Nat) : Int) from wrp_id (by omega) (by omega)]
            refine qG.blk 1 (pc' := 42) (ls' := [(2, 23), l1, (2, 87), l3, (0, ((n9 : Nat) : Int)), (0, ((j1 : Nat) : Int)), (0, ((t + 1 : Nat) : Int))]) (st' := []) (w' := wC) (n' := 142) rfl ?_
            exact ih42 _ (by omega) (t + 1) (j1) (wC) rfl (⟨by omega, ⟨i, hwy, hyes1, hlow1⟩, hCf, hIC, hCg⟩)
        · exfalso; omega
      · skip
        refine qG.blk 2 (pc' := 120) (ls' := [(2, 23), l1, (2, 87), l3, (0, ((n9 : Nat) : Int)), (0, ((i : Nat) : Int)), (0, ((t : Nat) : Int))]) (st' := [(2, wQ 23 0)]) (w' := wQ) (n' := 142) rfl ?_
        rw [show wQ 23 0 = 24 from (hQf 23 0 (by decide)).trans (zref hI rfl rfl)]
        refine qG.blk 1 (pc' := 122) (ls' := [(2, 23), l1, (2, 87), l3, (0, ((n9 : Nat) : Int)), (0, ((i : Nat) : Int)), (0, ((t : Nat) : Int))]) (st' := [(0, ((i : Nat) : Int)), (2, 24)]) (w' := wQ) (n' := 142) rfl ?_
        refine qG.call (t := 100) (na := 2) (sk := 1) (md := 1) (ls1 := [(2, 24), (0, ((i : Nat) : Int))]) (r1 := []) rfl rfl rfl rfl rfl (K_setI (Nat.zero_le _) i N hiN hT.1 wQ hIQ hTQ.2.1) ?_
        rintro _ w7 _ ⟨rfl, hw7, rfl⟩
        rw [hw7]
        show qG none (d + 1) 38 125 [(2, 23), l1, (2, 87), l3, (0, ((n9 : Nat) : Int)), (0, ((i : Nat) : Int)), (0, ((t : Nat) : Int))] [(0, wQ 25 i)] wQ 142 Q9
        refine qG.ret rfl rfl ?_
        subst hQ9
        obtain rfl : t = n9 := by omega
        exact ⟨rfl, _, rfl, .inr ⟨i, hwy, hTQ.2.2.1 i hiN⟩⟩
    exact L42 _ (0) (i0) (wG) rfl (⟨Nat.zero_le _, ⟨(hG27 i0 hi0).symm.trans hyes, fun j hj => (hG27 j (by omega)).symm.trans (hlow j hj)⟩, hGf, hIG, hGg⟩)
theorem K_wyB91 {d : Nat} (hd : 5 ≤ d) (N : Nat) (P : Nat → Int) (M : Nat → Nat → Bool) (V : Nat → Int) (hsy : ∀ i j, i < N → j < N → M i j = M j i) (L : Nat) (hL : L ≤ 40) (w : qW) (hI : yInv zgf zga zra zSp w) (hs : w 91 2 = (L : Int)) (hKW : KNw (w 92) (w 93) L) (hT : CTB N P M w) (hVV : ∀ g, g < L → ∀ u, u < dN (w 92 g) (w 93 g) → V (scF (w 92) (w 93) g + u) = w 94 g) (n9 : Nat) (hn9 : n9 ≤ (scF (w 92) (w 93) L)) (l1 l3 : qV) : qG none d 38 25 [(2, 23), l1, (2, 91), l3, (0, ((n9 : Nat) : Int)), (9, 0), (9, 0)] [] w 142 (fun (r : qV) (_ : qW) (n1 : Nat) => n1 = 142 ∧ ∃ x, r = (0, x) ∧ WSP N P M V (scF (w 92) (w 93) L) n9 x) := by
  generalize hQ9 : (fun (r : qV) (_ : qW) (n1 : Nat) => n1 = 142 ∧ ∃ x, r = (0, x) ∧ WSP N P M V (scF (w 92) (w 93) L) n9 x) = Q9
  obtain ⟨N8, hN8⟩ : ∃ N : Int, N = 800 := ⟨_, rfl⟩
  obtain ⟨d, rfl⟩ : ∃ d9, d = d9 + 1 := ⟨d - 1, by omega⟩
  have hN18 := hT.1
  have hS8 := sc_le hKW L (Nat.le_refl _)
  refine qG.blk 2 (pc' := 27) (ls' := [(2, 23), l1, (2, 91), l3, (0, ((n9 : Nat) : Int)), (9, 0), (9, 0)]) (st' := [(2, 91), (2, 23)]) (w' := w) (n' := 142) rfl ?_
  refine qG.call (t := 39) (na := 2) (sk := 1) (md := 1) (ls1 := [(2, 23), (2, 91), (9, 0), (9, 0), (9, 0)]) (r1 := []) rfl rfl rfl rfl rfl (K_fGood91 (by omega) N P M V hsy L hL w hI hs hKW hT hVV) ?_
  rintro _ wG _ ⟨rfl, rfl, hIG, hGf, hG27, hGg⟩
  have hTG := hT.cg (w1 := wG) (fun q j h => hGf q j (by omega))
  show qG none (d + 1) 38 30 [(2, 23), l1, (2, 91), l3, (0, ((n9 : Nat) : Int)), (9, 0), (9, 0)] [] wG 142 Q9
  refine qG.blk 2 (pc' := 34) (ls' := [(2, 23), l1, (2, 91), l3, (0, ((n9 : Nat) : Int)), (9, 0), (9, 0)]) (st' := [(2, wG 23 1)]) (w' := wG) (n' := 142) rfl ?_
  rw [show wG 23 1 = 27 from (hGf 23 1 (by decide)).trans (zref hI rfl rfl)]
  refine qG.call (t := 53) (na := 1) (sk := 0) (md := 0) (ls1 := [(2, 27), (9, 0)]) (r1 := []) rfl rfl rfl rfl rfl (K_least (by omega) wG hIG) ?_
  rintro _ w7 _ ⟨hw7, rfl, ⟨rfl, hno⟩ | ⟨i0, hi0, rfl, hyes, hlow⟩⟩ <;> rw [hw7]
  · skip
    show qG none (d + 1) 38 37 [(2, 23), l1, (2, 91), l3, (0, ((n9 : Nat) : Int)), (9, 0), (9, 0)] [(0, (-1))] wG 142 Q9
    refine qG.blk 3 (pc' := 42) (ls' := [(2, 23), l1, (2, 91), l3, (0, ((n9 : Nat) : Int)), (0, (-1)), (0, 0)]) (st' := []) (w' := wG) (n' := 142) rfl ?_
    refine qG.blk 2 (pc' := 46) (ls' := [(2, 23), l1, (2, 91), l3, (0, ((n9 : Nat) : Int)), (0, (-1)), (0, 0)]) (st' := [(0, ((n9 : Nat) : Int)), (0, 0)]) (w' := wG) (n' := 142) rfl ?_
    refine qG.br (P := 0 < ((n9 : Nat) : Int)) (pc1 := 49) (pc2 := 116) (st1 := []) rfl (fun h1 => ?_) (fun h1 => ?_)
    · skip
      refine qG.blk 2 (pc' := 54) (ls' := [(2, 23), l1, (2, 91), l3, (0, ((n9 : Nat) : Int)), (0, (-1)), (0, 0)]) (st' := [(0, 800), (0, 0)]) (w' := wG) (n' := 142) rfl ?_
      rw [show (800 : Int) = N8 from hN8.symm]
      refine qG.br (P := 0 < N8) (pc1 := 57) (pc2 := 116) (st1 := []) rfl (fun h2 => ?_) (fun h2 => ?_)
      · skip
        refine qG.blk 2 (pc' := 60) (ls' := [(2, 23), l1, (2, 91), l3, (0, ((n9 : Nat) : Int)), (0, (-1)), (0, 0)]) (st' := [(0, (-1)), (0, (-1))]) (w' := wG) (n' := 142) rfl ?_
        refine qG.br (P := ((-1) : Int) = (-1)) (pc1 := 116) (pc2 := 63) (st1 := []) rfl (fun h3 => ?_) (fun h3 => ?_)
        · skip
          refine qG.blk 2 (pc' := 120) (ls' := [(2, 23), l1, (2, 91), l3, (0, ((n9 : Nat) : Int)), (0, (-1)), (0, 0)]) (st' := [(2, wG 23 0)]) (w' := wG) (n' := 142) rfl ?_
          rw [show wG 23 0 = 24 from (hGf 23 0 (by decide)).trans (zref hI rfl rfl)]
          refine qG.blk 1 (pc' := 122) (ls' := [(2, 23), l1, (2, 91), l3, (0, ((n9 : Nat) : Int)), (0, (-1)), (0, 0)]) (st' := [(0, (-1)), (2, 24)]) (w' := wG) (n' := 142) rfl ?_
          refine qG.call (t := 100) (na := 2) (sk := 1) (md := 1) (ls1 := [(2, 24), (0, (-1))]) (r1 := []) rfl rfl rfl rfl rfl (K_setN (Nat.zero_le _) wG hIG) ?_
          rintro _ w7 _ ⟨rfl, hw7, rfl⟩
          rw [hw7]
          show qG none (d + 1) 38 125 [(2, 23), l1, (2, 91), l3, (0, ((n9 : Nat) : Int)), (0, (-1)), (0, 0)] [(0, (-1))] wG 142 Q9
          refine qG.ret rfl rfl ?_
          subst hQ9
          exact ⟨rfl, _, rfl, .inl ⟨fun j => if q : j < 192 then (hG27 j q).symm.trans (hno j q) else gz_N (by omega), rfl⟩⟩
        · exact absurd h3 (by decide)
      · exfalso; omega
    · skip
      refine qG.blk 2 (pc' := 120) (ls' := [(2, 23), l1, (2, 91), l3, (0, ((n9 : Nat) : Int)), (0, (-1)), (0, 0)]) (st' := [(2, wG 23 0)]) (w' := wG) (n' := 142) rfl ?_
      rw [show wG 23 0 = 24 from (hGf 23 0 (by decide)).trans (zref hI rfl rfl)]
      refine qG.blk 1 (pc' := 122) (ls' := [(2, 23), l1, (2, 91), l3, (0, ((n9 : Nat) : Int)), (0, (-1)), (0, 0)]) (st' := [(0, (-1)), (2, 24)]) (w' := wG) (n' := 142) rfl ?_
      refine qG.call (t := 100) (na := 2) (sk := 1) (md := 1) (ls1 := [(2, 24), (0, (-1))]) (r1 := []) rfl rfl rfl rfl rfl (K_setN (Nat.zero_le _) wG hIG) ?_
      rintro _ w7 _ ⟨rfl, hw7, rfl⟩
      rw [hw7]
      show qG none (d + 1) 38 125 [(2, 23), l1, (2, 91), l3, (0, ((n9 : Nat) : Int)), (0, (-1)), (0, 0)] [(0, (-1))] wG 142 Q9
      refine qG.ret rfl rfl ?_
      subst hQ9
      exact ⟨rfl, _, rfl, .inl ⟨fun j => if q : j < 192 then (hG27 j q).symm.trans (hno j q) else gz_N (by omega), rfl⟩⟩
  · skip
    show qG none (d + 1) 38 37 [(2, 23), l1, (2, 91), l3, (0, ((n9 : Nat) : Int)), (9, 0), (9, 0)] [(0, ((i0 : Nat) : Int))] wG 142 Q9
    refine qG.blk 3 (pc' := 42) (ls' := [(2, 23), l1, (2, 91), l3, (0, ((n9 : Nat) : Int)), (0, ((i0 : Nat) : Int)), (0, 0)]) (st' := []) (w' := wG) (n' := 142) rfl ?_
    have L42 : ∀ (m9 : Nat) (t i : Nat) (wQ : qW), n9 - t = m9 → (t ≤ n9 ∧ wyF N P M V (scF (w 92) (w 93) L) t i ∧ (∀ q j, ¬ (27 ≤ q ∧ q ≤ 30) → wQ q j = w q j) ∧ yInv zgf zga zra zSp wQ ∧ ∀ t, t < (scF (w 92) (w 93) L) → ∀ j, j < 192 → gb wQ t j = gd N P M V (scF (w 92) (w 93) L) t j) → qG none (d + 1) 38 42 [(2, 23), l1, (2, 91), l3, (0, ((n9 : Nat) : Int)), (0, ((i : Nat) : Int)), (0, ((t : Nat) : Int))] [] wQ 142 Q9 := by
      intro m9
      induction m9 using Nat.strongRecOn with
      | ind m9 ih42 =>
      intro t i wQ hm42 hI42
      obtain ⟨htn, hwy, hQf, hIQ, hQg⟩ := hI42
      have hTQ := hT.cg (w1 := wQ) (fun q j h => hQf q j (by omega))
      have hiN := (wyF_g t i (by omega) hwy).1
      refine qG.blk 2 (pc' := 46) (ls' := [(2, 23), l1, (2, 91), l3, (0, ((n9 : Nat) : Int)), (0, ((i : Nat) : Int)), (0, ((t : Nat) : Int))]) (st' := [(0, ((n9 : Nat) : Int)), (0, ((t : Nat) : Int))]) (w' := wQ) (n' := 142) rfl ?_
      refine qG.br (P := ((t : Nat) : Int) < ((n9 : Nat) : Int)) (pc1 := 49) (pc2 := 116) (st1 := []) rfl (fun h4 => ?_) (fun h4 => ?_)
      · skip
        refine qG.blk 2 (pc' := 54) (ls' := [(2, 23), l1, (2, 91), l3, (0, ((n9 : Nat) : Int)), (0, ((i : Nat) : Int)), (0, ((t : Nat) : Int))]) (st' := [(0, 800), (0, ((t : Nat) : Int))]) (w' := wQ) (n' := 142) rfl ?_
        rw [show (800 : Int) = N8 from hN8.symm]
        refine qG.br (P := ((t : Nat) : Int) < N8) (pc1 := 57) (pc2 := 116) (st1 := []) rfl (fun h5 => ?_) (fun h5 => ?_)
        · skip
          refine qG.blk 2 (pc' := 60) (ls' := [(2, 23), l1, (2, 91), l3, (0, ((n9 : Nat) : Int)), (0, ((i : Nat) : Int)), (0, ((t : Nat) : Int))]) (st' := [(0, (-1)), (0, ((i : Nat) : Int))]) (w' := wQ) (n' := 142) rfl ?_
          refine qG.br (P := ((i : Nat) : Int) = (-1)) (pc1 := 116) (pc2 := 63) (st1 := []) rfl (fun h6 => ?_) (fun h6 => ?_)
          · exfalso; omega
          · skip
            refine qG.blk 2 (pc' := 67) (ls' := [(2, 23), l1, (2, 91), l3, (0, ((n9 : Nat) : Int)), (0, ((i : Nat) : Int)), (0, ((t : Nat) : Int))]) (st' := [(2, wQ 23 0)]) (w' := wQ) (n' := 142) rfl ?_
            rw [show wQ 23 0 = 24 from (hQf 23 0 (by decide)).trans (zref hI rfl rfl)]
            refine qG.blk 3 (pc' := 73) (ls' := [(2, 23), l1, (2, 91), l3, (0, ((n9 : Nat) : Int)), (0, ((i : Nat) : Int)), (0, ((t : Nat) : Int))]) (st' := [(2, wQ 23 2), (0, ((i : Nat) : Int)), (2, 24)]) (w' := wQ) (n' := 142) rfl ?_
            rw [show wQ 23 2 = 28 from (hQf 23 2 (by decide)).trans (zref hI rfl rfl)]
            refine qG.call (t := 102) (na := 3) (sk := 1) (md := 1) (ls1 := [(2, 24), (0, ((i : Nat) : Int)), (2, 28), (9, 0)]) (r1 := []) rfl rfl rfl rfl rfl (K_spread1 (by omega) i (by omega) wQ hIQ) ?_
            rintro _ wA _ ⟨rfl, rfl, hRA⟩
            have hIA := hRA.2.2
            have hAf : (∀ q j, ¬ (27 ≤ q ∧ q ≤ 30) → wA q j = w q j) := fun q j a => (hRA.2.1 q j (by omega)).trans (hQf q j a)
            show qG none (d + 1) 38 76 [(2, 23), l1, (2, 91), l3, (0, ((n9 : Nat) : Int)), (0, ((i : Nat) : Int)), (0, ((t : Nat) : Int))] [] wA 142 Q9
            refine qG.blk 4 (pc' := 83) (ls' := [(2, 23), l1, (2, 91), l3, (0, ((n9 : Nat) : Int)), (0, ((i : Nat) : Int)), (0, ((t : Nat) : Int))]) (st' := [(2, wA 23 3), (0, ((t : Nat) : Int)), (2, 23)]) (w' := wA) (n' := 142) rfl ?_
            rw [show wA 23 3 = 29 from (hAf 23 3 (by decide)).trans (zref hI rfl rfl)]
            refine qG.call (t := 41) (na := 3) (sk := 1) (md := 1) (ls1 := [(2, 23), (0, ((t : Nat) : Int)), (2, 29), (9, 0), (9, 0)]) (r1 := []) rfl rfl rfl rfl rfl (K_rdGood (by omega) t (by omega) wA hIA) ?_
            rintro _ wB _ ⟨rfl, rfl, hRB⟩
            have hIB := hRB.2.2
            have hBf : (∀ q j, ¬ (27 ≤ q ∧ q ≤ 30) → wB q j = w q j) := fun q j a => (hRB.2.1 q j (by omega)).trans (hAf q j a)
            show qG none (d + 1) 38 86 [(2, 23), l1, (2, 91), l3, (0, ((n9 : Nat) : Int)), (0, ((i : Nat) : Int)), (0, ((t : Nat) : Int))] [] wB 142 Q9
            refine qG.blk 2 (pc' := 90) (ls' := [(2, 23), l1, (2, 91), l3, (0, ((n9 : Nat) : Int)), (0, ((i : Nat) : Int)), (0, ((t : Nat) : Int))]) (st' := [(2, wB 23 2)]) (w' := wB) (n' := 142) rfl ?_
            rw [show wB 23 2 = 28 from (hBf 23 2 (by decide)).trans (zref hI rfl rfl)]
            refine qG.blk 2 (pc' := 94) (ls' := [(2, 23), l1, (2, 91), l3, (0, ((n9 : Nat) : Int)), (0, ((i : Nat) : Int)), (0, ((t : Nat) : Int))]) (st' := [(2, wB 23 3), (2, 28)]) (w' := wB) (n' := 142) rfl ?_
            rw [show wB 23 3 = 29 from (hBf 23 3 (by decide)).trans (zref hI rfl rfl)]
            refine qG.blk 2 (pc' := 98) (ls' := [(2, 23), l1, (2, 91), l3, (0, ((n9 : Nat) : Int)), (0, ((i : Nat) : Int)), (0, ((t : Nat) : Int))]) (st' := [(2, wB 23 1), (2, 29), (2, 28)]) (w' := wB) (n' := 142) rfl ?_
            rw [show wB 23 1 = 27 from (hBf 23 1 (by decide)).trans (zref hI rfl rfl)]
            refine qG.call (t := 49) (na := 3) (sk := 0) (md := 0) (ls1 := [(2, 28), (2, 29), (2, 27), (9, 0)]) (r1 := []) rfl rfl rfl rfl rfl (K_keep28_29_27 (by omega) wB hIB) ?_
            rintro _ wC _ ⟨rfl, rfl, hRC⟩
            have hIC := hRC.2.2
            have hCf : (∀ q j, ¬ (27 ≤ q ∧ q ≤ 30) → wC q j = w q j) := fun q j a => (hRC.2.1 q j (by omega)).trans (hBf q j a)
            have hC27 : HOLD wC 27 (wyC N P M V (scF (w 92) (w 93) L) t i) := fun j hj => by
              rw [hRC.1 j hj]
              show (sb wB 28 j && sb wB 29 j) = _
              rw [show sb wB 29 j = gb wA t j from hRB.1 j hj, hRB.o (by decide), show sb wA 28 j = mb wQ i j from hRA.1 j hj, hTQ.2.2.2 i j (by omega) hj, decide_eq_true hiN, Bool.true_and, show gb wA t j = gb wQ t j from by unfold gb; rw [hRA.2.1 30 _ (by decide)], hQg t (by omega) j hj, Bool.and_assoc]; rfl
            have hCg : ∀ t, t < (scF (w 92) (w 93) L) → ∀ j, j < 192 → gb wC t j = gd N P M V (scF (w 92) (w 93) L) t j := fun t a j hj => by rw [show gb wC t j = gb wQ t j from by unfold gb; rw [hRC.2.1 30 _ (by decide), hRB.2.1 30 _ (by decide), hRA.2.1 30 _ (by decide)]]; exact hQg t a j hj
            have hex : ∃ j, j < 192 ∧ wyC N P M V (scF (w 92) (w 93) L) t i j = true := by obtain ⟨j, a, b⟩ := wyC_ex (show t < (scF (w 92) (w 93) L) by omega) (wyF_g t i (by omega) hwy).2; exact ⟨j, by omega, b⟩
            show qG none (d + 1) 38 101 [(2, 23), l1, (2, 91), l3, (0, ((n9 : Nat) : Int)), (0, ((i : Nat) : Int)), (0, ((t : Nat) : Int))] [] wC 142 Q9
            refine qG.blk 2 (pc' := 105) (ls' := [(2, 23), l1, (2, 91), l3, (0, ((n9 : Nat) : Int)), (0, ((i : Nat) : Int)), (0, ((t : Nat) : Int))]) (st' := [(2, wC 23 1)]) (w' := wC) (n' := 142) rfl ?_
            rw [show wC 23 1 = 27 from (hCf 23 1 (by decide)).trans (zref hI rfl rfl)]
            refine qG.call (t := 53) (na := 1) (sk := 0) (md := 0) (ls1 := [(2, 27), (9, 0)]) (r1 := []) rfl rfl rfl rfl rfl (K_leastI (by omega) _ wC hIC hC27 hex) ?_
            rintro _ w7 _ ⟨hw7, rfl, j1, hj1, rfl, hyes1, hlow1⟩
            rw [hw7]
            show qG none (d + 1) 38 108 [(2, 23), l1, (2, 91), l3, (0, ((n9 : Nat) : Int)), (0, ((i : Nat) : Int)), (0, ((t : Nat) : Int))] [(0, ((j1 : Nat) : Int))] wC 142 Q9
            refine qG.blk 2 (pc' := 113) (ls' := [(2, 23), l1, (2, 91), l3, (0, ((n9 : Nat) : Int)), (0, ((j1 : Nat) : Int)), (0, wrp (((t : Nat) : Int) + 1))]) (st' := []) (w' := wC) (n' := 142) rfl ?_
            rw [show wrp (((t : Nat) : Int) + 1) = ((t + 1 : Nat) : Int) from wrp_id (by omega) (by omega)]
            refine qG.blk 1 (pc' := 42) (ls' := [(2, 23), l1, (2, 91), l3, (0, ((n9 : Nat) : Int)), (0, ((j1 : Nat) : Int)), (0, ((t + 1 : Nat) : Int))]) (st' := []) (w' := wC) (n' := 142) rfl ?_
            exact ih42 _ (by omega) (t + 1) (j1) (wC) rfl (⟨by omega, ⟨i, hwy, hyes1, hlow1⟩, hCf, hIC, hCg⟩)
        · exfalso; omega
      · skip
        refine qG.blk 2 (pc' := 120) (ls' := [(2, 23), l1, (2, 91), l3, (0, ((n9 : Nat) : Int)), (0, ((i : Nat) : Int)), (0, ((t : Nat) : Int))]) (st' := [(2, wQ 23 0)]) (w' := wQ) (n' := 142) rfl ?_
        rw [show wQ 23 0 = 24 from (hQf 23 0 (by decide)).trans (zref hI rfl rfl)]
        refine qG.blk 1 (pc' := 122) (ls' := [(2, 23), l1, (2, 91), l3, (0, ((n9 : Nat) : Int)), (0, ((i : Nat) : Int)), (0, ((t : Nat) : Int))]) (st' := [(0, ((i : Nat) : Int)), (2, 24)]) (w' := wQ) (n' := 142) rfl ?_
        refine qG.call (t := 100) (na := 2) (sk := 1) (md := 1) (ls1 := [(2, 24), (0, ((i : Nat) : Int))]) (r1 := []) rfl rfl rfl rfl rfl (K_setI (Nat.zero_le _) i N hiN hT.1 wQ hIQ hTQ.2.1) ?_
        rintro _ w7 _ ⟨rfl, hw7, rfl⟩
        rw [hw7]
        show qG none (d + 1) 38 125 [(2, 23), l1, (2, 91), l3, (0, ((n9 : Nat) : Int)), (0, ((i : Nat) : Int)), (0, ((t : Nat) : Int))] [(0, wQ 25 i)] wQ 142 Q9
        refine qG.ret rfl rfl ?_
        subst hQ9
        obtain rfl : t = n9 := by omega
        exact ⟨rfl, _, rfl, .inr ⟨i, hwy, hTQ.2.2.1 i hiN⟩⟩
    exact L42 _ (0) (i0) (wG) rfl (⟨Nat.zero_le _, ⟨(hG27 i0 hi0).symm.trans hyes, fun j hj => (hG27 j (by omega)).symm.trans (hlow j hj)⟩, hGf, hIG, hGg⟩)
theorem K_wy64_4 {d : Nat} (hd : 8 ≤ d) (k : Nat) (hk1 : 1 ≤ k) (hk2 : k ≤ 4) (x : Int) (V : Nat → Int) (L : Nat) (hL : L ≤ 40) (n : Nat) (w : qW) (hI : yInv zgf zga zra zSp w) (hJ : J9 n w) (hs : w 4 2 = (L : Int)) (hKW : KNw (w 5) (w 6) L) (hVV : ∀ g, g < L → ∀ u, u < dN (w 5 g) (w 6 g) → V (scF (w 5) (w 6) g + u) = w 7 g) : qG none d 38 0 [(2, 23), (2, 64), (2, 4), (0, ((k : Nat) : Int)), (0, x), (9, 0), (9, 0)] [] w 142 (fun (r : qV) (_ : qW) (n1 : Nat) => n1 = 142 ∧ ∃ y, r = (0, y) ∧ (((x < 0 ∨ ((scF (w 5) (w 6) L : Nat) : Int) < x) ∧ y = -1) ∨ ((0 ≤ x ∧ x ≤ ((scF (w 5) (w 6) L : Nat) : Int)) ∧ WSP (pzN w 0 k) (pzP w 0 k) (pzM w 0 k) V (scF (w 5) (w 6) L) x.toNat y))) := by
  generalize hQ9 : (fun (r : qV) (_ : qW) (n1 : Nat) => n1 = 142 ∧ ∃ y, r = (0, y) ∧ (((x < 0 ∨ ((scF (w 5) (w 6) L : Nat) : Int) < x) ∧ y = -1) ∨ ((0 ≤ x ∧ x ≤ ((scF (w 5) (w 6) L : Nat) : Int)) ∧ WSP (pzN w 0 k) (pzP w 0 k) (pzM w 0 k) V (scF (w 5) (w 6) L) x.toNat y))) = Q9
  obtain ⟨d, rfl⟩ : ∃ d9, d = d9 + 1 := ⟨d - 1, by omega⟩
  refine qG.blk 1 (pc' := 2) (ls' := [(2, 23), (2, 64), (2, 4), (0, ((k : Nat) : Int)), (0, x), (9, 0), (9, 0)]) (st' := [(0, x)]) (w' := w) (n' := 142) rfl ?_
  refine qG.br (P := x < 0) (pc1 := 14) (pc2 := 5) (st1 := []) rfl (fun hx0 => ?_) (fun hx0 => ?_)
  · skip
    refine qG.blk 1 (pc' := 15) (ls' := [(2, 23), (2, 64), (2, 4), (0, ((k : Nat) : Int)), (0, x), (9, 0), (9, 0)]) (st' := [(0, (-1))]) (w' := w) (n' := 142) rfl ?_
    refine qG.ret rfl rfl ?_
    subst hQ9
    exact ⟨rfl, _, rfl, .inl ⟨by omega, rfl⟩⟩
  · skip
    obtain ⟨n9, rfl⟩ : ∃ n9 : Nat, x = (n9 : Int) := ⟨x.toNat, by omega⟩
    refine qG.blk 2 (pc' := 8) (ls' := [(2, 23), (2, 64), (2, 4), (0, ((k : Nat) : Int)), (0, ((n9 : Nat) : Int)), (9, 0), (9, 0)]) (st' := [(2, 4), (0, ((n9 : Nat) : Int))]) (w' := w) (n' := 142) rfl ?_
    refine qG.call (t := 116) (na := 1) (sk := 1) (md := 1) (ls1 := [(2, 4), (9, 0), (9, 0)]) (r1 := [(0, ((n9 : Nat) : Int))]) rfl rfl rfl rfl rfl (K_allSec4 (by omega) L hL w hI hs hKW) ?_
    rintro _ w7 _ ⟨rfl, hw7, rfl⟩
    rw [hw7]
    show qG none (d + 1) 38 11 [(2, 23), (2, 64), (2, 4), (0, ((k : Nat) : Int)), (0, ((n9 : Nat) : Int)), (9, 0), (9, 0)] [(0, ((scF (w 5) (w 6) L : Nat) : Int)), (0, ((n9 : Nat) : Int))] w 142 Q9
    refine qG.br (P := ((scF (w 5) (w 6) L : Nat) : Int) < ((n9 : Nat) : Int)) (pc1 := 14) (pc2 := 16) (st1 := []) rfl (fun hxs => ?_) (fun hxs => ?_)
    · skip
      refine qG.blk 1 (pc' := 15) (ls' := [(2, 23), (2, 64), (2, 4), (0, ((k : Nat) : Int)), (0, ((n9 : Nat) : Int)), (9, 0), (9, 0)]) (st' := [(0, (-1))]) (w' := w) (n' := 142) rfl ?_
      refine qG.ret rfl rfl ?_
      subst hQ9
      exact ⟨rfl, _, rfl, .inl ⟨by omega, rfl⟩⟩
    · skip
      refine qG.blk 2 (pc' := 20) (ls' := [(2, 23), (2, 64), (2, 4), (0, ((k : Nat) : Int)), (0, ((n9 : Nat) : Int)), (9, 0), (9, 0)]) (st' := [(2, w 23 0)]) (w' := w) (n' := 142) rfl ?_
      rw [show w 23 0 = 24 from zref hI rfl rfl]
      refine qG.blk 2 (pc' := 22) (ls' := [(2, 23), (2, 64), (2, 4), (0, ((k : Nat) : Int)), (0, ((n9 : Nat) : Int)), (9, 0), (9, 0)]) (st' := [(0, ((k : Nat) : Int)), (2, 64), (2, 24)]) (w' := w) (n' := 142) rfl ?_
      refine qG.call (t := 94) (na := 3) (sk := 1) (md := 1) (ls1 := [(2, 24), (2, 64), (0, ((k : Nat) : Int))]) (r1 := []) rfl rfl rfl rfl rfl (qG.and (T_findFor_64 (w0 := w) d [(2, 24), (2, 64), (0, ((k : Nat) : Int))] w (show C_findFor_64.2.1 ≤ d by exact Nat.le_trans (show C_findFor_64.2.1 ≤ 7 by decide) (by omega)) ⟨⟨rfl, by decide, by decide⟩, ⟨rfl, by decide, by decide⟩, ⟨rfl, by show (1 : Int) ≤ _; omega, by show _ ≤ (4 : Int); omega⟩, trivial⟩ hI (fun p hp => by cases hp) (fun e he => by cases he)) (K_findForC64 (by omega) k hk1 hk2 n w hI hJ)) ?_
      rintro _ wF _ ⟨⟨-, hIF, -, -, -⟩, rfl, rfl, hF⟩
      show qG none (d + 1) 38 25 [(2, 23), (2, 64), (2, 4), (0, ((k : Nat) : Int)), (0, ((n9 : Nat) : Int)), (9, 0), (9, 0)] [] wF 142 Q9
      subst hQ9
      obtain ⟨f0, f1, f2, hTX, hfr⟩ := hF
      have eF : ∀ q j, q ≠ 24 → q ≠ 25 → q ≠ 26 → wF q j = w q j := fun q j a b e => hfr q j (fun z => a z.1) b e
      have e1 : wF 5 = w 5 := funext fun j => eF _ j (by decide) (by decide) (by decide)
      have e2 : wF 6 = w 6 := funext fun j => eF _ j (by decide) (by decide) (by decide)
      have e3 : wF 7 = w 7 := funext fun j => eF _ j (by decide) (by decide) (by decide)
      obtain ⟨z1, z2, z3⟩ := pz_cg (w := w) (w1 := wF) (fun i => eF 96 i (by decide) (by decide) (by decide)) (fun i => eF 99 i (by decide) (by decide) (by decide)) 0 k
      refine qG.mono (K_wyB4 (by omega) (pzN w 0 k) (pzP w 0 k) (pzM w 0 k) V (fun i j hi hj => pzM_sym hi hj) L hL wF hIF ((eF 4 2 (by decide) (by decide) (by decide)).trans hs) (by rw [e1, e2]; exact hKW) (by have z := hTX.ctb hk1 hk2; rw [z1, z2, z3] at z; exact z) (by rw [e1, e2, e3]; exact hVV) n9 (by rw [e1, e2]; omega) _ _) ?_
      rintro r w1 n1 ⟨h0, y, h1, h2⟩
      rw [e1, e2] at h2
      exact ⟨h0, y, h1, .inr ⟨⟨by omega, by omega⟩, h2⟩⟩
theorem K_wayB4_64 {d : Nat} (hd : 9 ≤ d) (k9 : Nat) (hk9 : k9 < 4) (k : Nat) (hk1 : 1 ≤ k) (hk2 : k ≤ 4) (x : Int) (L : Nat) (hL : L ≤ 40) (n : Nat) (w : qW) (hI : yInv zgf zga zra zSp w) (hJ : J9 n w) (h3 : w 3 k9 = 4) (hs : w 4 2 = (L : Int)) (hKN : KNr (w 5) (w 6) L) (hKW : KNw (w 5) (w 6) L) (hK : w 64 0 = w 96 0) (hE : JE w) : qG none d 175 23 [(2, 1), (0, 0), (0, ((k9 : Nat) : Int)), (0, ((k : Nat) : Int)), (0, x)] [] w 142 (fun (r : qV) (_ : qW) (_ : Nat) => ∃ y, r = (0, y) ∧ (((x < 0 ∨ ((scF (w 5) (w 6) L : Nat) : Int) < x) ∧ y = -1) ∨ ((0 ≤ x ∧ x ≤ ((scF (w 5) (w 6) L : Nat) : Int)) ∧ WSP (pzN w 0 k) (pzP w 0 k) (pzM w 0 k) (fun t => siF w 0 (w 5) (w 6) L t) (scF (w 5) (w 6) L) x.toNat y))) := by
  generalize hQ9 : (fun (r : qV) (_ : qW) (_ : Nat) => ∃ y, r = (0, y) ∧ (((x < 0 ∨ ((scF (w 5) (w 6) L : Nat) : Int) < x) ∧ y = -1) ∨ ((0 ≤ x ∧ x ≤ ((scF (w 5) (w 6) L : Nat) : Int)) ∧ WSP (pzN w 0 k) (pzP w 0 k) (pzM w 0 k) (fun t => siF w 0 (w 5) (w 6) L t) (scF (w 5) (w 6) L) x.toNat y))) = Q9
  obtain ⟨d, rfl⟩ : ∃ d9, d = d9 + 1 := ⟨d - 1, by omega⟩
  refine qG.blk 2 (pc' := 27) (ls' := [(2, 1), (0, 0), (0, ((k9 : Nat) : Int)), (0, ((k : Nat) : Int)), (0, x)]) (st' := [(2, w 1 1)]) (w' := w) (n' := 142) rfl ?_
  rw [show w 1 1 = 3 from zref hI rfl rfl]
  refine qG.blk 1 (pc' := 28) (ls' := [(2, 1), (0, 0), (0, ((k9 : Nat) : Int)), (0, ((k : Nat) : Int)), (0, x)]) (st' := [(0, ((k9 : Nat) : Int)), (2, 3)]) (w' := w) (n' := 142) rfl ?_
  refine qG.ar (P := 0 ≤ ((k9 : Nat) : Int) ∧ ((k9 : Nat) : Int) < ((4 : Nat) : Int)) (P2 := 0 < (3 : Int) ∧ (3 : Int) ≤ ((142 : Nat) : Int)) (pc' := 29) (ls' := [(2, 1), (0, 0), (0, ((k9 : Nat) : Int)), (0, ((k : Nat) : Int)), (0, x)]) (st' := [(2, w 3 k9)]) (w' := w) (n' := 142) rfl (by omega) (by decide) ?_
  rw [show w 3 k9 = 4 from h3]
  refine qG.blk 2 (pc' := 33) (ls' := [(2, 1), (0, 0), (0, ((k9 : Nat) : Int)), (0, ((k : Nat) : Int)), (0, x)]) (st' := [(2, w 1 0), (2, 4)]) (w' := w) (n' := 142) rfl ?_
  rw [show w 1 0 = 2 from zref hI rfl rfl]
  refine qG.blk 1 (pc' := 34) (ls' := [(2, 1), (0, 0), (0, ((k9 : Nat) : Int)), (0, ((k : Nat) : Int)), (0, x)]) (st' := [(0, 0), (2, 2), (2, 4)]) (w' := w) (n' := 142) rfl ?_
  refine qG.ar (P := 0 ≤ 0 ∧ 0 < ((3 : Nat) : Int)) (P2 := 0 < (2 : Int) ∧ (2 : Int) ≤ ((142 : Nat) : Int)) (pc' := 35) (ls' := [(2, 1), (0, 0), (0, ((k9 : Nat) : Int)), (0, ((k : Nat) : Int)), (0, x)]) (st' := [(2, w 2 0), (2, 4)]) (w' := w) (n' := 142) rfl (by omega) (by decide) ?_
  rw [show w 2 0 = 64 from zref hI rfl rfl]
  refine qG.call (t := 111) (na := 2) (sk := 1) (md := 1) (ls1 := [(2, 4), (2, 64), (9, 0)]) (r1 := []) rfl rfl rfl rfl rfl (K_perf4_64 (by omega) L hL w hI hs hKN hK hE) ?_
  rintro _ w1 _ ⟨rfl, rfl, hI1, hC⟩
  have hJ1 := J9.chp (show SHOWP 4 by unfold SHOWP; omega) hJ hC
  obtain ⟨e1, e2, e3, hfr⟩ := hC.row (by unfold SHOWP; omega)
  have hCe := hC.2.2.2.2.2.2.2
  have cv := hC.2.2.2.2.2.2.1
  show qG none (d + 1) 175 38 [(2, 1), (0, 0), (0, ((k9 : Nat) : Int)), (0, ((k : Nat) : Int)), (0, x)] [] w1 142 Q9
  refine qG.blk 2 (pc' := 42) (ls' := [(2, 1), (0, 0), (0, ((k9 : Nat) : Int)), (0, ((k : Nat) : Int)), (0, x)]) (st' := [(2, w1 1 5)]) (w' := w1) (n' := 142) rfl ?_
  rw [show w1 1 5 = 23 from (hfr 1 5 (by omega)).trans (zref hI rfl rfl)]
  refine qG.blk 2 (pc' := 46) (ls' := [(2, 1), (0, 0), (0, ((k9 : Nat) : Int)), (0, ((k : Nat) : Int)), (0, x)]) (st' := [(2, w1 1 0), (2, 23)]) (w' := w1) (n' := 142) rfl ?_
  rw [show w1 1 0 = 2 from (hfr 1 0 (by omega)).trans (zref hI rfl rfl)]
  refine qG.blk 1 (pc' := 47) (ls' := [(2, 1), (0, 0), (0, ((k9 : Nat) : Int)), (0, ((k : Nat) : Int)), (0, x)]) (st' := [(0, 0), (2, 2), (2, 23)]) (w' := w1) (n' := 142) rfl ?_
  refine qG.ar (P := 0 ≤ 0 ∧ 0 < ((3 : Nat) : Int)) (P2 := 0 < (2 : Int) ∧ (2 : Int) ≤ ((142 : Nat) : Int)) (pc' := 48) (ls' := [(2, 1), (0, 0), (0, ((k9 : Nat) : Int)), (0, ((k : Nat) : Int)), (0, x)]) (st' := [(2, w1 2 0), (2, 23)]) (w' := w1) (n' := 142) rfl (by omega) (by decide) ?_
  rw [show w1 2 0 = 64 from (hfr 2 0 (by omega)).trans (zref hI rfl rfl)]
  refine qG.blk 2 (pc' := 52) (ls' := [(2, 1), (0, 0), (0, ((k9 : Nat) : Int)), (0, ((k : Nat) : Int)), (0, x)]) (st' := [(2, w1 1 1), (2, 64), (2, 23)]) (w' := w1) (n' := 142) rfl ?_
  rw [show w1 1 1 = 3 from (hfr 1 1 (by omega)).trans (zref hI rfl rfl)]
  refine qG.blk 1 (pc' := 53) (ls' := [(2, 1), (0, 0), (0, ((k9 : Nat) : Int)), (0, ((k : Nat) : Int)), (0, x)]) (st' := [(0, ((k9 : Nat) : Int)), (2, 3), (2, 64), (2, 23)]) (w' := w1) (n' := 142) rfl ?_
  refine qG.ar (P := 0 ≤ ((k9 : Nat) : Int) ∧ ((k9 : Nat) : Int) < ((4 : Nat) : Int)) (P2 := 0 < (3 : Int) ∧ (3 : Int) ≤ ((142 : Nat) : Int)) (pc' := 54) (ls' := [(2, 1), (0, 0), (0, ((k9 : Nat) : Int)), (0, ((k : Nat) : Int)), (0, x)]) (st' := [(2, w1 3 k9), (2, 64), (2, 23)]) (w' := w1) (n' := 142) rfl (by omega) (by decide) ?_
  rw [show w1 3 k9 = 4 from (hfr 3 k9 (by omega)).trans h3]
  refine qG.blk 2 (pc' := 57) (ls' := [(2, 1), (0, 0), (0, ((k9 : Nat) : Int)), (0, ((k : Nat) : Int)), (0, x)]) (st' := [(0, x), (0, ((k : Nat) : Int)), (2, 4), (2, 64), (2, 23)]) (w' := w1) (n' := 142) rfl ?_
  refine qG.call (t := 38) (na := 5) (sk := 1) (md := 1) (ls1 := [(2, 23), (2, 64), (2, 4), (0, ((k : Nat) : Int)), (0, x), (9, 0), (9, 0)]) (r1 := []) rfl rfl rfl rfl rfl (K_wy64_4 (by omega) k hk1 hk2 x (fun t => siF w 0 (w 5) (w 6) L t) L hL n w1 hI1 hJ1 (e3.trans hs) (by rw [e1, e2]; exact hKW) (by rw [e1, e2]; exact fun g hg u hu => (siF_vw hg hu).trans (cv g hg).symm)) ?_
  rintro _ w2 _ ⟨rfl, y, rfl, h2s⟩
  rw [e1, e2] at h2s
  obtain ⟨z1, z2, z3⟩ := pz_cg (w := w) (w1 := w1) (fun i => hCe 96 i (by decide) (by omega)) (fun i => hCe 99 i (by decide) (by omega)) 0 k
  rw [z1, z2, z3] at h2s
  show qG none (d + 1) 175 60 [(2, 1), (0, 0), (0, ((k9 : Nat) : Int)), (0, ((k : Nat) : Int)), (0, x)] [(0, y)] w2 142 Q9
  refine qG.ret rfl rfl ?_
  subst hQ9
  exact ⟨_, rfl, h2s⟩
theorem K_wy69_4 {d : Nat} (hd : 8 ≤ d) (k : Nat) (hk1 : 1 ≤ k) (hk2 : k ≤ 4) (x : Int) (V : Nat → Int) (L : Nat) (hL : L ≤ 40) (n : Nat) (w : qW) (hI : yInv zgf zga zra zSp w) (hJ : J9 n w) (hs : w 4 2 = (L : Int)) (hKW : KNw (w 5) (w 6) L) (hVV : ∀ g, g < L → ∀ u, u < dN (w 5 g) (w 6 g) → V (scF (w 5) (w 6) g + u) = w 7 g) : qG none d 38 0 [(2, 23), (2, 69), (2, 4), (0, ((k : Nat) : Int)), (0, x), (9, 0), (9, 0)] [] w 142 (fun (r : qV) (_ : qW) (n1 : Nat) => n1 = 142 ∧ ∃ y, r = (0, y) ∧ (((x < 0 ∨ ((scF (w 5) (w 6) L : Nat) : Int) < x) ∧ y = -1) ∨ ((0 ≤ x ∧ x ≤ ((scF (w 5) (w 6) L : Nat) : Int)) ∧ WSP (pzN w 1 k) (pzP w 1 k) (pzM w 1 k) V (scF (w 5) (w 6) L) x.toNat y))) := by
  generalize hQ9 : (fun (r : qV) (_ : qW) (n1 : Nat) => n1 = 142 ∧ ∃ y, r = (0, y) ∧ (((x < 0 ∨ ((scF (w 5) (w 6) L : Nat) : Int) < x) ∧ y = -1) ∨ ((0 ≤ x ∧ x ≤ ((scF (w 5) (w 6) L : Nat) : Int)) ∧ WSP (pzN w 1 k) (pzP w 1 k) (pzM w 1 k) V (scF (w 5) (w 6) L) x.toNat y))) = Q9
  obtain ⟨d, rfl⟩ : ∃ d9, d = d9 + 1 := ⟨d - 1, by omega⟩
  refine qG.blk 1 (pc' := 2) (ls' := [(2, 23), (2, 69), (2, 4), (0, ((k : Nat) : Int)), (0, x), (9, 0), (9, 0)]) (st' := [(0, x)]) (w' := w) (n' := 142) rfl ?_
  refine qG.br (P := x < 0) (pc1 := 14) (pc2 := 5) (st1 := []) rfl (fun hx0 => ?_) (fun hx0 => ?_)
  · skip
    refine qG.blk 1 (pc' := 15) (ls' := [(2, 23), (2, 69), (2, 4), (0, ((k : Nat) : Int)), (0, x), (9, 0), (9, 0)]) (st' := [(0, (-1))]) (w' := w) (n' := 142) rfl ?_
    refine qG.ret rfl rfl ?_
    subst hQ9
    exact ⟨rfl, _, rfl, .inl ⟨by omega, rfl⟩⟩
  · skip
    obtain ⟨n9, rfl⟩ : ∃ n9 : Nat, x = (n9 : Int) := ⟨x.toNat, by omega⟩
    refine qG.blk 2 (pc' := 8) (ls' := [(2, 23), (2, 69), (2, 4), (0, ((k : Nat) : Int)), (0, ((n9 : Nat) : Int)), (9, 0), (9, 0)]) (st' := [(2, 4), (0, ((n9 : Nat) : Int))]) (w' := w) (n' := 142) rfl ?_
    refine qG.call (t := 116) (na := 1) (sk := 1) (md := 1) (ls1 := [(2, 4), (9, 0), (9, 0)]) (r1 := [(0, ((n9 : Nat) : Int))]) rfl rfl rfl rfl rfl (K_allSec4 (by omega) L hL w hI hs hKW) ?_
    rintro _ w7 _ ⟨rfl, hw7, rfl⟩
    rw [hw7]
    show qG none (d + 1) 38 11 [(2, 23), (2, 69), (2, 4), (0, ((k : Nat) : Int)), (0, ((n9 : Nat) : Int)), (9, 0), (9, 0)] [(0, ((scF (w 5) (w 6) L : Nat) : Int)), (0, ((n9 : Nat) : Int))] w 142 Q9
    refine qG.br (P := ((scF (w 5) (w 6) L : Nat) : Int) < ((n9 : Nat) : Int)) (pc1 := 14) (pc2 := 16) (st1 := []) rfl (fun hxs => ?_) (fun hxs => ?_)
    · skip
      refine qG.blk 1 (pc' := 15) (ls' := [(2, 23), (2, 69), (2, 4), (0, ((k : Nat) : Int)), (0, ((n9 : Nat) : Int)), (9, 0), (9, 0)]) (st' := [(0, (-1))]) (w' := w) (n' := 142) rfl ?_
      refine qG.ret rfl rfl ?_
      subst hQ9
      exact ⟨rfl, _, rfl, .inl ⟨by omega, rfl⟩⟩
    · skip
      refine qG.blk 2 (pc' := 20) (ls' := [(2, 23), (2, 69), (2, 4), (0, ((k : Nat) : Int)), (0, ((n9 : Nat) : Int)), (9, 0), (9, 0)]) (st' := [(2, w 23 0)]) (w' := w) (n' := 142) rfl ?_
      rw [show w 23 0 = 24 from zref hI rfl rfl]
      refine qG.blk 2 (pc' := 22) (ls' := [(2, 23), (2, 69), (2, 4), (0, ((k : Nat) : Int)), (0, ((n9 : Nat) : Int)), (9, 0), (9, 0)]) (st' := [(0, ((k : Nat) : Int)), (2, 69), (2, 24)]) (w' := w) (n' := 142) rfl ?_
      refine qG.call (t := 94) (na := 3) (sk := 1) (md := 1) (ls1 := [(2, 24), (2, 69), (0, ((k : Nat) : Int))]) (r1 := []) rfl rfl rfl rfl rfl (qG.and (T_findFor_69 (w0 := w) d [(2, 24), (2, 69), (0, ((k : Nat) : Int))] w (show C_findFor_69.2.1 ≤ d by exact Nat.le_trans (show C_findFor_69.2.1 ≤ 7 by decide) (by omega)) ⟨⟨rfl, by decide, by decide⟩, ⟨rfl, by decide, by decide⟩, ⟨rfl, by show (1 : Int) ≤ _; omega, by show _ ≤ (4 : Int); omega⟩, trivial⟩ hI (fun p hp => by cases hp) (fun e he => by cases he)) (K_findForC69 (by omega) k hk1 hk2 n w hI hJ)) ?_
      rintro _ wF _ ⟨⟨-, hIF, -, -, -⟩, rfl, rfl, hF⟩
      show qG none (d + 1) 38 25 [(2, 23), (2, 69), (2, 4), (0, ((k : Nat) : Int)), (0, ((n9 : Nat) : Int)), (9, 0), (9, 0)] [] wF 142 Q9
      subst hQ9
      obtain ⟨f0, f1, f2, hTX, hfr⟩ := hF
      have eF : ∀ q j, q ≠ 24 → q ≠ 25 → q ≠ 26 → wF q j = w q j := fun q j a b e => hfr q j (fun z => a z.1) b e
      have e1 : wF 5 = w 5 := funext fun j => eF _ j (by decide) (by decide) (by decide)
      have e2 : wF 6 = w 6 := funext fun j => eF _ j (by decide) (by decide) (by decide)
      have e3 : wF 7 = w 7 := funext fun j => eF _ j (by decide) (by decide) (by decide)
      obtain ⟨z1, z2, z3⟩ := pz_cg (w := w) (w1 := wF) (fun i => eF 96 i (by decide) (by decide) (by decide)) (fun i => eF 99 i (by decide) (by decide) (by decide)) 1 k
      refine qG.mono (K_wyB4 (by omega) (pzN w 1 k) (pzP w 1 k) (pzM w 1 k) V (fun i j hi hj => pzM_sym hi hj) L hL wF hIF ((eF 4 2 (by decide) (by decide) (by decide)).trans hs) (by rw [e1, e2]; exact hKW) (by have z := hTX.ctb hk1 hk2; rw [z1, z2, z3] at z; exact z) (by rw [e1, e2, e3]; exact hVV) n9 (by rw [e1, e2]; omega) _ _) ?_
      rintro r w1 n1 ⟨h0, y, h1, h2⟩
      rw [e1, e2] at h2
      exact ⟨h0, y, h1, .inr ⟨⟨by omega, by omega⟩, h2⟩⟩
theorem K_wayB4_69 {d : Nat} (hd : 9 ≤ d) (k9 : Nat) (hk9 : k9 < 4) (k : Nat) (hk1 : 1 ≤ k) (hk2 : k ≤ 4) (x : Int) (L : Nat) (hL : L ≤ 40) (n : Nat) (w : qW) (hI : yInv zgf zga zra zSp w) (hJ : J9 n w) (h3 : w 3 k9 = 4) (hs : w 4 2 = (L : Int)) (hKN : KNr (w 5) (w 6) L) (hKW : KNw (w 5) (w 6) L) (hK : w 69 0 = w 96 1) (hE : JE w) : qG none d 175 23 [(2, 1), (0, 1), (0, ((k9 : Nat) : Int)), (0, ((k : Nat) : Int)), (0, x)] [] w 142 (fun (r : qV) (_ : qW) (_ : Nat) => ∃ y, r = (0, y) ∧ (((x < 0 ∨ ((scF (w 5) (w 6) L : Nat) : Int) < x) ∧ y = -1) ∨ ((0 ≤ x ∧ x ≤ ((scF (w 5) (w 6) L : Nat) : Int)) ∧ WSP (pzN w 1 k) (pzP w 1 k) (pzM w 1 k) (fun t => siF w 1 (w 5) (w 6) L t) (scF (w 5) (w 6) L) x.toNat y))) := by
  generalize hQ9 : (fun (r : qV) (_ : qW) (_ : Nat) => ∃ y, r = (0, y) ∧ (((x < 0 ∨ ((scF (w 5) (w 6) L : Nat) : Int) < x) ∧ y = -1) ∨ ((0 ≤ x ∧ x ≤ ((scF (w 5) (w 6) L : Nat) : Int)) ∧ WSP (pzN w 1 k) (pzP w 1 k) (pzM w 1 k) (fun t => siF w 1 (w 5) (w 6) L t) (scF (w 5) (w 6) L) x.toNat y))) = Q9
  obtain ⟨d, rfl⟩ : ∃ d9, d = d9 + 1 := ⟨d - 1, by omega⟩
  refine qG.blk 2 (pc' := 27) (ls' := [(2, 1), (0, 1), (0, ((k9 : Nat) : Int)), (0, ((k : Nat) : Int)), (0, x)]) (st' := [(2, w 1 1)]) (w' := w) (n' := 142) rfl ?_
  rw [show w 1 1 = 3 from zref hI rfl rfl]
  refine qG.blk 1 (pc' := 28) (ls' := [(2, 1), (0, 1), (0, ((k9 : Nat) : Int)), (0, ((k : Nat) : Int)), (0, x)]) (st' := [(0, ((k9 : Nat) : Int)), (2, 3)]) (w' := w) (n' := 142) rfl ?_
  refine qG.ar (P := 0 ≤ ((k9 : Nat) : Int) ∧ ((k9 : Nat) : Int) < ((4 : Nat) : Int)) (P2 := 0 < (3 : Int) ∧ (3 : Int) ≤ ((142 : Nat) : Int)) (pc' := 29) (ls' := [(2, 1), (0, 1), (0, ((k9 : Nat) : Int)), (0, ((k : Nat) : Int)), (0, x)]) (st' := [(2, w 3 k9)]) (w' := w) (n' := 142) rfl (by omega) (by decide) ?_
  rw [show w 3 k9 = 4 from h3]
  refine qG.blk 2 (pc' := 33) (ls' := [(2, 1), (0, 1), (0, ((k9 : Nat) : Int)), (0, ((k : Nat) : Int)), (0, x)]) (st' := [(2, w 1 0), (2, 4)]) (w' := w) (n' := 142) rfl ?_
  rw [show w 1 0 = 2 from zref hI rfl rfl]
  refine qG.blk 1 (pc' := 34) (ls' := [(2, 1), (0, 1), (0, ((k9 : Nat) : Int)), (0, ((k : Nat) : Int)), (0, x)]) (st' := [(0, 1), (2, 2), (2, 4)]) (w' := w) (n' := 142) rfl ?_
  refine qG.ar (P := 0 ≤ 1 ∧ 1 < ((3 : Nat) : Int)) (P2 := 0 < (2 : Int) ∧ (2 : Int) ≤ ((142 : Nat) : Int)) (pc' := 35) (ls' := [(2, 1), (0, 1), (0, ((k9 : Nat) : Int)), (0, ((k : Nat) : Int)), (0, x)]) (st' := [(2, w 2 1), (2, 4)]) (w' := w) (n' := 142) rfl (by omega) (by decide) ?_
  rw [show w 2 1 = 69 from zref hI rfl rfl]
  refine qG.call (t := 111) (na := 2) (sk := 1) (md := 1) (ls1 := [(2, 4), (2, 69), (9, 0)]) (r1 := []) rfl rfl rfl rfl rfl (K_perf4_69 (by omega) L hL w hI hs hKN hK hE) ?_
  rintro _ w1 _ ⟨rfl, rfl, hI1, hC⟩
  have hJ1 := J9.chp (show SHOWP 4 by unfold SHOWP; omega) hJ hC
  obtain ⟨e1, e2, e3, hfr⟩ := hC.row (by unfold SHOWP; omega)
  have hCe := hC.2.2.2.2.2.2.2
  have cv := hC.2.2.2.2.2.2.1
  show qG none (d + 1) 175 38 [(2, 1), (0, 1), (0, ((k9 : Nat) : Int)), (0, ((k : Nat) : Int)), (0, x)] [] w1 142 Q9
  refine qG.blk 2 (pc' := 42) (ls' := [(2, 1), (0, 1), (0, ((k9 : Nat) : Int)), (0, ((k : Nat) : Int)), (0, x)]) (st' := [(2, w1 1 5)]) (w' := w1) (n' := 142) rfl ?_
  rw [show w1 1 5 = 23 from (hfr 1 5 (by omega)).trans (zref hI rfl rfl)]
  refine qG.blk 2 (pc' := 46) (ls' := [(2, 1), (0, 1), (0, ((k9 : Nat) : Int)), (0, ((k : Nat) : Int)), (0, x)]) (st' := [(2, w1 1 0), (2, 23)]) (w' := w1) (n' := 142) rfl ?_
  rw [show w1 1 0 = 2 from (hfr 1 0 (by omega)).trans (zref hI rfl rfl)]
  refine qG.blk 1 (pc' := 47) (ls' := [(2, 1), (0, 1), (0, ((k9 : Nat) : Int)), (0, ((k : Nat) : Int)), (0, x)]) (st' := [(0, 1), (2, 2), (2, 23)]) (w' := w1) (n' := 142) rfl ?_
  refine qG.ar (P := 0 ≤ 1 ∧ 1 < ((3 : Nat) : Int)) (P2 := 0 < (2 : Int) ∧ (2 : Int) ≤ ((142 : Nat) : Int)) (pc' := 48) (ls' := [(2, 1), (0, 1), (0, ((k9 : Nat) : Int)), (0, ((k : Nat) : Int)), (0, x)]) (st' := [(2, w1 2 1), (2, 23)]) (w' := w1) (n' := 142) rfl (by omega) (by decide) ?_
  rw [show w1 2 1 = 69 from (hfr 2 1 (by omega)).trans (zref hI rfl rfl)]
  refine qG.blk 2 (pc' := 52) (ls' := [(2, 1), (0, 1), (0, ((k9 : Nat) : Int)), (0, ((k : Nat) : Int)), (0, x)]) (st' := [(2, w1 1 1), (2, 69), (2, 23)]) (w' := w1) (n' := 142) rfl ?_
  rw [show w1 1 1 = 3 from (hfr 1 1 (by omega)).trans (zref hI rfl rfl)]
  refine qG.blk 1 (pc' := 53) (ls' := [(2, 1), (0, 1), (0, ((k9 : Nat) : Int)), (0, ((k : Nat) : Int)), (0, x)]) (st' := [(0, ((k9 : Nat) : Int)), (2, 3), (2, 69), (2, 23)]) (w' := w1) (n' := 142) rfl ?_
  refine qG.ar (P := 0 ≤ ((k9 : Nat) : Int) ∧ ((k9 : Nat) : Int) < ((4 : Nat) : Int)) (P2 := 0 < (3 : Int) ∧ (3 : Int) ≤ ((142 : Nat) : Int)) (pc' := 54) (ls' := [(2, 1), (0, 1), (0, ((k9 : Nat) : Int)), (0, ((k : Nat) : Int)), (0, x)]) (st' := [(2, w1 3 k9), (2, 69), (2, 23)]) (w' := w1) (n' := 142) rfl (by omega) (by decide) ?_
  rw [show w1 3 k9 = 4 from (hfr 3 k9 (by omega)).trans h3]
  refine qG.blk 2 (pc' := 57) (ls' := [(2, 1), (0, 1), (0, ((k9 : Nat) : Int)), (0, ((k : Nat) : Int)), (0, x)]) (st' := [(0, x), (0, ((k : Nat) : Int)), (2, 4), (2, 69), (2, 23)]) (w' := w1) (n' := 142) rfl ?_
  refine qG.call (t := 38) (na := 5) (sk := 1) (md := 1) (ls1 := [(2, 23), (2, 69), (2, 4), (0, ((k : Nat) : Int)), (0, x), (9, 0), (9, 0)]) (r1 := []) rfl rfl rfl rfl rfl (K_wy69_4 (by omega) k hk1 hk2 x (fun t => siF w 1 (w 5) (w 6) L t) L hL n w1 hI1 hJ1 (e3.trans hs) (by rw [e1, e2]; exact hKW) (by rw [e1, e2]; exact fun g hg u hu => (siF_vw hg hu).trans (cv g hg).symm)) ?_
  rintro _ w2 _ ⟨rfl, y, rfl, h2s⟩
  rw [e1, e2] at h2s
  obtain ⟨z1, z2, z3⟩ := pz_cg (w := w) (w1 := w1) (fun i => hCe 96 i (by decide) (by omega)) (fun i => hCe 99 i (by decide) (by omega)) 1 k
  rw [z1, z2, z3] at h2s
  show qG none (d + 1) 175 60 [(2, 1), (0, 1), (0, ((k9 : Nat) : Int)), (0, ((k : Nat) : Int)), (0, x)] [(0, y)] w2 142 Q9
  refine qG.ret rfl rfl ?_
  subst hQ9
  exact ⟨_, rfl, h2s⟩
theorem K_wy74_4 {d : Nat} (hd : 8 ≤ d) (k : Nat) (hk1 : 1 ≤ k) (hk2 : k ≤ 4) (x : Int) (V : Nat → Int) (L : Nat) (hL : L ≤ 40) (n : Nat) (w : qW) (hI : yInv zgf zga zra zSp w) (hJ : J9 n w) (hs : w 4 2 = (L : Int)) (hKW : KNw (w 5) (w 6) L) (hVV : ∀ g, g < L → ∀ u, u < dN (w 5 g) (w 6 g) → V (scF (w 5) (w 6) g + u) = w 7 g) : qG none d 38 0 [(2, 23), (2, 74), (2, 4), (0, ((k : Nat) : Int)), (0, x), (9, 0), (9, 0)] [] w 142 (fun (r : qV) (_ : qW) (n1 : Nat) => n1 = 142 ∧ ∃ y, r = (0, y) ∧ (((x < 0 ∨ ((scF (w 5) (w 6) L : Nat) : Int) < x) ∧ y = -1) ∨ ((0 ≤ x ∧ x ≤ ((scF (w 5) (w 6) L : Nat) : Int)) ∧ WSP (pzN w 2 k) (pzP w 2 k) (pzM w 2 k) V (scF (w 5) (w 6) L) x.toNat y))) := by
  generalize hQ9 : (fun (r : qV) (_ : qW) (n1 : Nat) => n1 = 142 ∧ ∃ y, r = (0, y) ∧ (((x < 0 ∨ ((scF (w 5) (w 6) L : Nat) : Int) < x) ∧ y = -1) ∨ ((0 ≤ x ∧ x ≤ ((scF (w 5) (w 6) L : Nat) : Int)) ∧ WSP (pzN w 2 k) (pzP w 2 k) (pzM w 2 k) V (scF (w 5) (w 6) L) x.toNat y))) = Q9
  obtain ⟨d, rfl⟩ : ∃ d9, d = d9 + 1 := ⟨d - 1, by omega⟩
  refine qG.blk 1 (pc' := 2) (ls' := [(2, 23), (2, 74), (2, 4), (0, ((k : Nat) : Int)), (0, x), (9, 0), (9, 0)]) (st' := [(0, x)]) (w' := w) (n' := 142) rfl ?_
  refine qG.br (P := x < 0) (pc1 := 14) (pc2 := 5) (st1 := []) rfl (fun hx0 => ?_) (fun hx0 => ?_)
  · skip
    refine qG.blk 1 (pc' := 15) (ls' := [(2, 23), (2, 74), (2, 4), (0, ((k : Nat) : Int)), (0, x), (9, 0), (9, 0)]) (st' := [(0, (-1))]) (w' := w) (n' := 142) rfl ?_
    refine qG.ret rfl rfl ?_
    subst hQ9
    exact ⟨rfl, _, rfl, .inl ⟨by omega, rfl⟩⟩
  · skip
    obtain ⟨n9, rfl⟩ : ∃ n9 : Nat, x = (n9 : Int) := ⟨x.toNat, by omega⟩
    refine qG.blk 2 (pc' := 8) (ls' := [(2, 23), (2, 74), (2, 4), (0, ((k : Nat) : Int)), (0, ((n9 : Nat) : Int)), (9, 0), (9, 0)]) (st' := [(2, 4), (0, ((n9 : Nat) : Int))]) (w' := w) (n' := 142) rfl ?_
    refine qG.call (t := 116) (na := 1) (sk := 1) (md := 1) (ls1 := [(2, 4), (9, 0), (9, 0)]) (r1 := [(0, ((n9 : Nat) : Int))]) rfl rfl rfl rfl rfl (K_allSec4 (by omega) L hL w hI hs hKW) ?_
    rintro _ w7 _ ⟨rfl, hw7, rfl⟩
    rw [hw7]
    show qG none (d + 1) 38 11 [(2, 23), (2, 74), (2, 4), (0, ((k : Nat) : Int)), (0, ((n9 : Nat) : Int)), (9, 0), (9, 0)] [(0, ((scF (w 5) (w 6) L : Nat) : Int)), (0, ((n9 : Nat) : Int))] w 142 Q9
    refine qG.br (P := ((scF (w 5) (w 6) L : Nat) : Int) < ((n9 : Nat) : Int)) (pc1 := 14) (pc2 := 16) (st1 := []) rfl (fun hxs => ?_) (fun hxs => ?_)
    · skip
      refine qG.blk 1 (pc' := 15) (ls' := [(2, 23), (2, 74), (2, 4), (0, ((k : Nat) : Int)), (0, ((n9 : Nat) : Int)), (9, 0), (9, 0)]) (st' := [(0, (-1))]) (w' := w) (n' := 142) rfl ?_
      refine qG.ret rfl rfl ?_
      subst hQ9
      exact ⟨rfl, _, rfl, .inl ⟨by omega, rfl⟩⟩
    · skip
      refine qG.blk 2 (pc' := 20) (ls' := [(2, 23), (2, 74), (2, 4), (0, ((k : Nat) : Int)), (0, ((n9 : Nat) : Int)), (9, 0), (9, 0)]) (st' := [(2, w 23 0)]) (w' := w) (n' := 142) rfl ?_
      rw [show w 23 0 = 24 from zref hI rfl rfl]
      refine qG.blk 2 (pc' := 22) (ls' := [(2, 23), (2, 74), (2, 4), (0, ((k : Nat) : Int)), (0, ((n9 : Nat) : Int)), (9, 0), (9, 0)]) (st' := [(0, ((k : Nat) : Int)), (2, 74), (2, 24)]) (w' := w) (n' := 142) rfl ?_
      refine qG.call (t := 94) (na := 3) (sk := 1) (md := 1) (ls1 := [(2, 24), (2, 74), (0, ((k : Nat) : Int))]) (r1 := []) rfl rfl rfl rfl rfl (qG.and (T_findFor_74 (w0 := w) d [(2, 24), (2, 74), (0, ((k : Nat) : Int))] w (show C_findFor_74.2.1 ≤ d by exact Nat.le_trans (show C_findFor_74.2.1 ≤ 7 by decide) (by omega)) ⟨⟨rfl, by decide, by decide⟩, ⟨rfl, by decide, by decide⟩, ⟨rfl, by show (1 : Int) ≤ _; omega, by show _ ≤ (4 : Int); omega⟩, trivial⟩ hI (fun p hp => by cases hp) (fun e he => by cases he)) (K_findForC74 (by omega) k hk1 hk2 n w hI hJ)) ?_
      rintro _ wF _ ⟨⟨-, hIF, -, -, -⟩, rfl, rfl, hF⟩
      show qG none (d + 1) 38 25 [(2, 23), (2, 74), (2, 4), (0, ((k : Nat) : Int)), (0, ((n9 : Nat) : Int)), (9, 0), (9, 0)] [] wF 142 Q9
      subst hQ9
      obtain ⟨f0, f1, f2, hTX, hfr⟩ := hF
      have eF : ∀ q j, q ≠ 24 → q ≠ 25 → q ≠ 26 → wF q j = w q j := fun q j a b e => hfr q j (fun z => a z.1) b e
      have e1 : wF 5 = w 5 := funext fun j => eF _ j (by decide) (by decide) (by decide)
      have e2 : wF 6 = w 6 := funext fun j => eF _ j (by decide) (by decide) (by decide)
      have e3 : wF 7 = w 7 := funext fun j => eF _ j (by decide) (by decide) (by decide)
      obtain ⟨z1, z2, z3⟩ := pz_cg (w := w) (w1 := wF) (fun i => eF 96 i (by decide) (by decide) (by decide)) (fun i => eF 99 i (by decide) (by decide) (by decide)) 2 k
      refine qG.mono (K_wyB4 (by omega) (pzN w 2 k) (pzP w 2 k) (pzM w 2 k) V (fun i j hi hj => pzM_sym hi hj) L hL wF hIF ((eF 4 2 (by decide) (by decide) (by decide)).trans hs) (by rw [e1, e2]; exact hKW) (by have z := hTX.ctb hk1 hk2; rw [z1, z2, z3] at z; exact z) (by rw [e1, e2, e3]; exact hVV) n9 (by rw [e1, e2]; omega) _ _) ?_
      rintro r w1 n1 ⟨h0, y, h1, h2⟩
      rw [e1, e2] at h2
      exact ⟨h0, y, h1, .inr ⟨⟨by omega, by omega⟩, h2⟩⟩
theorem K_wayB4_74 {d : Nat} (hd : 9 ≤ d) (k9 : Nat) (hk9 : k9 < 4) (k : Nat) (hk1 : 1 ≤ k) (hk2 : k ≤ 4) (x : Int) (L : Nat) (hL : L ≤ 40) (n : Nat) (w : qW) (hI : yInv zgf zga zra zSp w) (hJ : J9 n w) (h3 : w 3 k9 = 4) (hs : w 4 2 = (L : Int)) (hKN : KNr (w 5) (w 6) L) (hKW : KNw (w 5) (w 6) L) (hK : w 74 0 = w 96 2) (hE : JE w) : qG none d 175 23 [(2, 1), (0, 2), (0, ((k9 : Nat) : Int)), (0, ((k : Nat) : Int)), (0, x)] [] w 142 (fun (r : qV) (_ : qW) (_ : Nat) => ∃ y, r = (0, y) ∧ (((x < 0 ∨ ((scF (w 5) (w 6) L : Nat) : Int) < x) ∧ y = -1) ∨ ((0 ≤ x ∧ x ≤ ((scF (w 5) (w 6) L : Nat) : Int)) ∧ WSP (pzN w 2 k) (pzP w 2 k) (pzM w 2 k) (fun t => siF w 2 (w 5) (w 6) L t) (scF (w 5) (w 6) L) x.toNat y))) := by
  generalize hQ9 : (fun (r : qV) (_ : qW) (_ : Nat) => ∃ y, r = (0, y) ∧ (((x < 0 ∨ ((scF (w 5) (w 6) L : Nat) : Int) < x) ∧ y = -1) ∨ ((0 ≤ x ∧ x ≤ ((scF (w 5) (w 6) L : Nat) : Int)) ∧ WSP (pzN w 2 k) (pzP w 2 k) (pzM w 2 k) (fun t => siF w 2 (w 5) (w 6) L t) (scF (w 5) (w 6) L) x.toNat y))) = Q9
  obtain ⟨d, rfl⟩ : ∃ d9, d = d9 + 1 := ⟨d - 1, by omega⟩
  refine qG.blk 2 (pc' := 27) (ls' := [(2, 1), (0, 2), (0, ((k9 : Nat) : Int)), (0, ((k : Nat) : Int)), (0, x)]) (st' := [(2, w 1 1)]) (w' := w) (n' := 142) rfl ?_
  rw [show w 1 1 = 3 from zref hI rfl rfl]
  refine qG.blk 1 (pc' := 28) (ls' := [(2, 1), (0, 2), (0, ((k9 : Nat) : Int)), (0, ((k : Nat) : Int)), (0, x)]) (st' := [(0, ((k9 : Nat) : Int)), (2, 3)]) (w' := w) (n' := 142) rfl ?_
  refine qG.ar (P := 0 ≤ ((k9 : Nat) : Int) ∧ ((k9 : Nat) : Int) < ((4 : Nat) : Int)) (P2 := 0 < (3 : Int) ∧ (3 : Int) ≤ ((142 : Nat) : Int)) (pc' := 29) (ls' := [(2, 1), (0, 2), (0, ((k9 : Nat) : Int)), (0, ((k : Nat) : Int)), (0, x)]) (st' := [(2, w 3 k9)]) (w' := w) (n' := 142) rfl (by omega) (by decide) ?_
  rw [show w 3 k9 = 4 from h3]
  refine qG.blk 2 (pc' := 33) (ls' := [(2, 1), (0, 2), (0, ((k9 : Nat) : Int)), (0, ((k : Nat) : Int)), (0, x)]) (st' := [(2, w 1 0), (2, 4)]) (w' := w) (n' := 142) rfl ?_
  rw [show w 1 0 = 2 from zref hI rfl rfl]
  refine qG.blk 1 (pc' := 34) (ls' := [(2, 1), (0, 2), (0, ((k9 : Nat) : Int)), (0, ((k : Nat) : Int)), (0, x)]) (st' := [(0, 2), (2, 2), (2, 4)]) (w' := w) (n' := 142) rfl ?_
  refine qG.ar (P := 0 ≤ 2 ∧ 2 < ((3 : Nat) : Int)) (P2 := 0 < (2 : Int) ∧ (2 : Int) ≤ ((142 : Nat) : Int)) (pc' := 35) (ls' := [(2, 1), (0, 2), (0, ((k9 : Nat) : Int)), (0, ((k : Nat) : Int)), (0, x)]) (st' := [(2, w 2 2), (2, 4)]) (w' := w) (n' := 142) rfl (by omega) (by decide) ?_
  rw [show w 2 2 = 74 from zref hI rfl rfl]
  refine qG.call (t := 111) (na := 2) (sk := 1) (md := 1) (ls1 := [(2, 4), (2, 74), (9, 0)]) (r1 := []) rfl rfl rfl rfl rfl (K_perf4_74 (by omega) L hL w hI hs hKN hK hE) ?_
  rintro _ w1 _ ⟨rfl, rfl, hI1, hC⟩
  have hJ1 := J9.chp (show SHOWP 4 by unfold SHOWP; omega) hJ hC
  obtain ⟨e1, e2, e3, hfr⟩ := hC.row (by unfold SHOWP; omega)
  have hCe := hC.2.2.2.2.2.2.2
  have cv := hC.2.2.2.2.2.2.1
  show qG none (d + 1) 175 38 [(2, 1), (0, 2), (0, ((k9 : Nat) : Int)), (0, ((k : Nat) : Int)), (0, x)] [] w1 142 Q9
  refine qG.blk 2 (pc' := 42) (ls' := [(2, 1), (0, 2), (0, ((k9 : Nat) : Int)), (0, ((k : Nat) : Int)), (0, x)]) (st' := [(2, w1 1 5)]) (w' := w1) (n' := 142) rfl ?_
  rw [show w1 1 5 = 23 from (hfr 1 5 (by omega)).trans (zref hI rfl rfl)]
  refine qG.blk 2 (pc' := 46) (ls' := [(2, 1), (0, 2), (0, ((k9 : Nat) : Int)), (0, ((k : Nat) : Int)), (0, x)]) (st' := [(2, w1 1 0), (2, 23)]) (w' := w1) (n' := 142) rfl ?_
  rw [show w1 1 0 = 2 from (hfr 1 0 (by omega)).trans (zref hI rfl rfl)]
  refine qG.blk 1 (pc' := 47) (ls' := [(2, 1), (0, 2), (0, ((k9 : Nat) : Int)), (0, ((k : Nat) : Int)), (0, x)]) (st' := [(0, 2), (2, 2), (2, 23)]) (w' := w1) (n' := 142) rfl ?_
  refine qG.ar (P := 0 ≤ 2 ∧ 2 < ((3 : Nat) : Int)) (P2 := 0 < (2 : Int) ∧ (2 : Int) ≤ ((142 : Nat) : Int)) (pc' := 48) (ls' := [(2, 1), (0, 2), (0, ((k9 : Nat) : Int)), (0, ((k : Nat) : Int)), (0, x)]) (st' := [(2, w1 2 2), (2, 23)]) (w' := w1) (n' := 142) rfl (by omega) (by decide) ?_
  rw [show w1 2 2 = 74 from (hfr 2 2 (by omega)).trans (zref hI rfl rfl)]
  refine qG.blk 2 (pc' := 52) (ls' := [(2, 1), (0, 2), (0, ((k9 : Nat) : Int)), (0, ((k : Nat) : Int)), (0, x)]) (st' := [(2, w1 1 1), (2, 74), (2, 23)]) (w' := w1) (n' := 142) rfl ?_
  rw [show w1 1 1 = 3 from (hfr 1 1 (by omega)).trans (zref hI rfl rfl)]
  refine qG.blk 1 (pc' := 53) (ls' := [(2, 1), (0, 2), (0, ((k9 : Nat) : Int)), (0, ((k : Nat) : Int)), (0, x)]) (st' := [(0, ((k9 : Nat) : Int)), (2, 3), (2, 74), (2, 23)]) (w' := w1) (n' := 142) rfl ?_
  refine qG.ar (P := 0 ≤ ((k9 : Nat) : Int) ∧ ((k9 : Nat) : Int) < ((4 : Nat) : Int)) (P2 := 0 < (3 : Int) ∧ (3 : Int) ≤ ((142 : Nat) : Int)) (pc' := 54) (ls' := [(2, 1), (0, 2), (0, ((k9 : Nat) : Int)), (0, ((k : Nat) : Int)), (0, x)]) (st' := [(2, w1 3 k9), (2, 74), (2, 23)]) (w' := w1) (n' := 142) rfl (by omega) (by decide) ?_
  rw [show w1 3 k9 = 4 from (hfr 3 k9 (by omega)).trans h3]
  refine qG.blk 2 (pc' := 57) (ls' := [(2, 1), (0, 2), (0, ((k9 : Nat) : Int)), (0, ((k : Nat) : Int)), (0, x)]) (st' := [(0, x), (0, ((k : Nat) : Int)), (2, 4), (2, 74), (2, 23)]) (w' := w1) (n' := 142) rfl ?_
  refine qG.call (t := 38) (na := 5) (sk := 1) (md := 1) (ls1 := [(2, 23), (2, 74), (2, 4), (0, ((k : Nat) : Int)), (0, x), (9, 0), (9, 0)]) (r1 := []) rfl rfl rfl rfl rfl (K_wy74_4 (by omega) k hk1 hk2 x (fun t => siF w 2 (w 5) (w 6) L t) L hL n w1 hI1 hJ1 (e3.trans hs) (by rw [e1, e2]; exact hKW) (by rw [e1, e2]; exact fun g hg u hu => (siF_vw hg hu).trans (cv g hg).symm)) ?_
  rintro _ w2 _ ⟨rfl, y, rfl, h2s⟩
  rw [e1, e2] at h2s
  obtain ⟨z1, z2, z3⟩ := pz_cg (w := w) (w1 := w1) (fun i => hCe 96 i (by decide) (by omega)) (fun i => hCe 99 i (by decide) (by omega)) 2 k
  rw [z1, z2, z3] at h2s
  show qG none (d + 1) 175 60 [(2, 1), (0, 2), (0, ((k9 : Nat) : Int)), (0, ((k : Nat) : Int)), (0, x)] [(0, y)] w2 142 Q9
  refine qG.ret rfl rfl ?_
  subst hQ9
  exact ⟨_, rfl, h2s⟩
theorem K_wy64_79 {d : Nat} (hd : 8 ≤ d) (k : Nat) (hk1 : 1 ≤ k) (hk2 : k ≤ 4) (x : Int) (V : Nat → Int) (L : Nat) (hL : L ≤ 40) (n : Nat) (w : qW) (hI : yInv zgf zga zra zSp w) (hJ : J9 n w) (hs : w 79 2 = (L : Int)) (hKW : KNw (w 80) (w 81) L) (hVV : ∀ g, g < L → ∀ u, u < dN (w 80 g) (w 81 g) → V (scF (w 80) (w 81) g + u) = w 82 g) : qG none d 38 0 [(2, 23), (2, 64), (2, 79), (0, ((k : Nat) : Int)), (0, x), (9, 0), (9, 0)] [] w 142 (fun (r : qV) (_ : qW) (n1 : Nat) => n1 = 142 ∧ ∃ y, r = (0, y) ∧ (((x < 0 ∨ ((scF (w 80) (w 81) L : Nat) : Int) < x) ∧ y = -1) ∨ ((0 ≤ x ∧ x ≤ ((scF (w 80) (w 81) L : Nat) : Int)) ∧ WSP (pzN w 0 k) (pzP w 0 k) (pzM w 0 k) V (scF (w 80) (w 81) L) x.toNat y))) := by
  generalize hQ9 : (fun (r : qV) (_ : qW) (n1 : Nat) => n1 = 142 ∧ ∃ y, r = (0, y) ∧ (((x < 0 ∨ ((scF (w 80) (w 81) L : Nat) : Int) < x) ∧ y = -1) ∨ ((0 ≤ x ∧ x ≤ ((scF (w 80) (w 81) L : Nat) : Int)) ∧ WSP (pzN w 0 k) (pzP w 0 k) (pzM w 0 k) V (scF (w 80) (w 81) L) x.toNat y))) = Q9
  obtain ⟨d, rfl⟩ : ∃ d9, d = d9 + 1 := ⟨d - 1, by omega⟩
  refine qG.blk 1 (pc' := 2) (ls' := [(2, 23), (2, 64), (2, 79), (0, ((k : Nat) : Int)), (0, x), (9, 0), (9, 0)]) (st' := [(0, x)]) (w' := w) (n' := 142) rfl ?_
  refine qG.br (P := x < 0) (pc1 := 14) (pc2 := 5) (st1 := []) rfl (fun hx0 => ?_) (fun hx0 => ?_)
  · skip
    refine qG.blk 1 (pc' := 15) (ls' := [(2, 23), (2, 64), (2, 79), (0, ((k : Nat) : Int)), (0, x), (9, 0), (9, 0)]) (st' := [(0, (-1))]) (w' := w) (n' := 142) rfl ?_
    refine qG.ret rfl rfl ?_
    subst hQ9
    exact ⟨rfl, _, rfl, .inl ⟨by omega, rfl⟩⟩
  · skip
    obtain ⟨n9, rfl⟩ : ∃ n9 : Nat, x = (n9 : Int) := ⟨x.toNat, by omega⟩
    refine qG.blk 2 (pc' := 8) (ls' := [(2, 23), (2, 64), (2, 79), (0, ((k : Nat) : Int)), (0, ((n9 : Nat) : Int)), (9, 0), (9, 0)]) (st' := [(2, 79), (0, ((n9 : Nat) : Int))]) (w' := w) (n' := 142) rfl ?_
    refine qG.call (t := 116) (na := 1) (sk := 1) (md := 1) (ls1 := [(2, 79), (9, 0), (9, 0)]) (r1 := [(0, ((n9 : Nat) : Int))]) rfl rfl rfl rfl rfl (K_allSec79 (by omega) L hL w hI hs hKW) ?_
    rintro _ w7 _ ⟨rfl, hw7, rfl⟩
    rw [hw7]
    show qG none (d + 1) 38 11 [(2, 23), (2, 64), (2, 79), (0, ((k : Nat) : Int)), (0, ((n9 : Nat) : Int)), (9, 0), (9, 0)] [(0, ((scF (w 80) (w 81) L : Nat) : Int)), (0, ((n9 : Nat) : Int))] w 142 Q9
    refine qG.br (P := ((scF (w 80) (w 81) L : Nat) : Int) < ((n9 : Nat) : Int)) (pc1 := 14) (pc2 := 16) (st1 := []) rfl (fun hxs => ?_) (fun hxs => ?_)
    · skip
      refine qG.blk 1 (pc' := 15) (ls' := [(2, 23), (2, 64), (2, 79), (0, ((k : Nat) : Int)), (0, ((n9 : Nat) : Int)), (9, 0), (9, 0)]) (st' := [(0, (-1))]) (w' := w) (n' := 142) rfl ?_
      refine qG.ret rfl rfl ?_
      subst hQ9
      exact ⟨rfl, _, rfl, .inl ⟨by omega, rfl⟩⟩
    · skip
      refine qG.blk 2 (pc' := 20) (ls' := [(2, 23), (2, 64), (2, 79), (0, ((k : Nat) : Int)), (0, ((n9 : Nat) : Int)), (9, 0), (9, 0)]) (st' := [(2, w 23 0)]) (w' := w) (n' := 142) rfl ?_
      rw [show w 23 0 = 24 from zref hI rfl rfl]
      refine qG.blk 2 (pc' := 22) (ls' := [(2, 23), (2, 64), (2, 79), (0, ((k : Nat) : Int)), (0, ((n9 : Nat) : Int)), (9, 0), (9, 0)]) (st' := [(0, ((k : Nat) : Int)), (2, 64), (2, 24)]) (w' := w) (n' := 142) rfl ?_
      refine qG.call (t := 94) (na := 3) (sk := 1) (md := 1) (ls1 := [(2, 24), (2, 64), (0, ((k : Nat) : Int))]) (r1 := []) rfl rfl rfl rfl rfl (qG.and (T_findFor_64 (w0 := w) d [(2, 24), (2, 64), (0, ((k : Nat) : Int))] w (show C_findFor_64.2.1 ≤ d by exact Nat.le_trans (show C_findFor_64.2.1 ≤ 7 by decide) (by omega)) ⟨⟨rfl, by decide, by decide⟩, ⟨rfl, by decide, by decide⟩, ⟨rfl, by show (1 : Int) ≤ _; omega, by show _ ≤ (4 : Int); omega⟩, trivial⟩ hI (fun p hp => by cases hp) (fun e he => by cases he)) (K_findForC64 (by omega) k hk1 hk2 n w hI hJ)) ?_
      rintro _ wF _ ⟨⟨-, hIF, -, -, -⟩, rfl, rfl, hF⟩
      show qG none (d + 1) 38 25 [(2, 23), (2, 64), (2, 79), (0, ((k : Nat) : Int)), (0, ((n9 : Nat) : Int)), (9, 0), (9, 0)] [] wF 142 Q9
      subst hQ9
      obtain ⟨f0, f1, f2, hTX, hfr⟩ := hF
      have eF : ∀ q j, q ≠ 24 → q ≠ 25 → q ≠ 26 → wF q j = w q j := fun q j a b e => hfr q j (fun z => a z.1) b e
      have e1 : wF 80 = w 80 := funext fun j => eF _ j (by decide) (by decide) (by decide)
      have e2 : wF 81 = w 81 := funext fun j => eF _ j (by decide) (by decide) (by decide)
      have e3 : wF 82 = w 82 := funext fun j => eF _ j (by decide) (by decide) (by decide)
      obtain ⟨z1, z2, z3⟩ := pz_cg (w := w) (w1 := wF) (fun i => eF 96 i (by decide) (by decide) (by decide)) (fun i => eF 99 i (by decide) (by decide) (by decide)) 0 k
      refine qG.mono (K_wyB79 (by omega) (pzN w 0 k) (pzP w 0 k) (pzM w 0 k) V (fun i j hi hj => pzM_sym hi hj) L hL wF hIF ((eF 79 2 (by decide) (by decide) (by decide)).trans hs) (by rw [e1, e2]; exact hKW) (by have z := hTX.ctb hk1 hk2; rw [z1, z2, z3] at z; exact z) (by rw [e1, e2, e3]; exact hVV) n9 (by rw [e1, e2]; omega) _ _) ?_
      rintro r w1 n1 ⟨h0, y, h1, h2⟩
      rw [e1, e2] at h2
      exact ⟨h0, y, h1, .inr ⟨⟨by omega, by omega⟩, h2⟩⟩
theorem K_wayB79_64 {d : Nat} (hd : 9 ≤ d) (k9 : Nat) (hk9 : k9 < 4) (k : Nat) (hk1 : 1 ≤ k) (hk2 : k ≤ 4) (x : Int) (L : Nat) (hL : L ≤ 40) (n : Nat) (w : qW) (hI : yInv zgf zga zra zSp w) (hJ : J9 n w) (h3 : w 3 k9 = 79) (hs : w 79 2 = (L : Int)) (hKN : KNr (w 80) (w 81) L) (hKW : KNw (w 80) (w 81) L) (hK : w 64 0 = w 96 0) (hE : JE w) : qG none d 175 23 [(2, 1), (0, 0), (0, ((k9 : Nat) : Int)), (0, ((k : Nat) : Int)), (0, x)] [] w 142 (fun (r : qV) (_ : qW) (_ : Nat) => ∃ y, r = (0, y) ∧ (((x < 0 ∨ ((scF (w 80) (w 81) L : Nat) : Int) < x) ∧ y = -1) ∨ ((0 ≤ x ∧ x ≤ ((scF (w 80) (w 81) L : Nat) : Int)) ∧ WSP (pzN w 0 k) (pzP w 0 k) (pzM w 0 k) (fun t => siF w 0 (w 80) (w 81) L t) (scF (w 80) (w 81) L) x.toNat y))) := by
  generalize hQ9 : (fun (r : qV) (_ : qW) (_ : Nat) => ∃ y, r = (0, y) ∧ (((x < 0 ∨ ((scF (w 80) (w 81) L : Nat) : Int) < x) ∧ y = -1) ∨ ((0 ≤ x ∧ x ≤ ((scF (w 80) (w 81) L : Nat) : Int)) ∧ WSP (pzN w 0 k) (pzP w 0 k) (pzM w 0 k) (fun t => siF w 0 (w 80) (w 81) L t) (scF (w 80) (w 81) L) x.toNat y))) = Q9
  obtain ⟨d, rfl⟩ : ∃ d9, d = d9 + 1 := ⟨d - 1, by omega⟩
  refine qG.blk 2 (pc' := 27) (ls' := [(2, 1), (0, 0), (0, ((k9 : Nat) : Int)), (0, ((k : Nat) : Int)), (0, x)]) (st' := [(2, w 1 1)]) (w' := w) (n' := 142) rfl ?_
  rw [show w 1 1 = 3 from zref hI rfl rfl]
  refine qG.blk 1 (pc' := 28) (ls' := [(2, 1), (0, 0), (0, ((k9 : Nat) : Int)), (0, ((k : Nat) : Int)), (0, x)]) (st' := [(0, ((k9 : Nat) : Int)), (2, 3)]) (w' := w) (n' := 142) rfl ?_
  refine qG.ar (P := 0 ≤ ((k9 : Nat) : Int) ∧ ((k9 : Nat) : Int) < ((4 : Nat) : Int)) (P2 := 0 < (3 : Int) ∧ (3 : Int) ≤ ((142 : Nat) : Int)) (pc' := 29) (ls' := [(2, 1), (0, 0), (0, ((k9 : Nat) : Int)), (0, ((k : Nat) : Int)), (0, x)]) (st' := [(2, w 3 k9)]) (w' := w) (n' := 142) rfl (by omega) (by decide) ?_
  rw [show w 3 k9 = 79 from h3]
  refine qG.blk 2 (pc' := 33) (ls' := [(2, 1), (0, 0), (0, ((k9 : Nat) : Int)), (0, ((k : Nat) : Int)), (0, x)]) (st' := [(2, w 1 0), (2, 79)]) (w' := w) (n' := 142) rfl ?_
  rw [show w 1 0 = 2 from zref hI rfl rfl]
  refine qG.blk 1 (pc' := 34) (ls' := [(2, 1), (0, 0), (0, ((k9 : Nat) : Int)), (0, ((k : Nat) : Int)), (0, x)]) (st' := [(0, 0), (2, 2), (2, 79)]) (w' := w) (n' := 142) rfl ?_
  refine qG.ar (P := 0 ≤ 0 ∧ 0 < ((3 : Nat) : Int)) (P2 := 0 < (2 : Int) ∧ (2 : Int) ≤ ((142 : Nat) : Int)) (pc' := 35) (ls' := [(2, 1), (0, 0), (0, ((k9 : Nat) : Int)), (0, ((k : Nat) : Int)), (0, x)]) (st' := [(2, w 2 0), (2, 79)]) (w' := w) (n' := 142) rfl (by omega) (by decide) ?_
  rw [show w 2 0 = 64 from zref hI rfl rfl]
  refine qG.call (t := 111) (na := 2) (sk := 1) (md := 1) (ls1 := [(2, 79), (2, 64), (9, 0)]) (r1 := []) rfl rfl rfl rfl rfl (K_perf79_64 (by omega) L hL w hI hs hKN hK hE) ?_
  rintro _ w1 _ ⟨rfl, rfl, hI1, hC⟩
  have hJ1 := J9.chp (show SHOWP 79 by unfold SHOWP; omega) hJ hC
  obtain ⟨e1, e2, e3, hfr⟩ := hC.row (by unfold SHOWP; omega)
  have hCe := hC.2.2.2.2.2.2.2
  have cv := hC.2.2.2.2.2.2.1
  show qG none (d + 1) 175 38 [(2, 1), (0, 0), (0, ((k9 : Nat) : Int)), (0, ((k : Nat) : Int)), (0, x)] [] w1 142 Q9
  refine qG.blk 2 (pc' := 42) (ls' := [(2, 1), (0, 0), (0, ((k9 : Nat) : Int)), (0, ((k : Nat) : Int)), (0, x)]) (st' := [(2, w1 1 5)]) (w' := w1) (n' := 142) rfl ?_
  rw [show w1 1 5 = 23 from (hfr 1 5 (by omega)).trans (zref hI rfl rfl)]
  refine qG.blk 2 (pc' := 46) (ls' := [(2, 1), (0, 0), (0, ((k9 : Nat) : Int)), (0, ((k : Nat) : Int)), (0, x)]) (st' := [(2, w1 1 0), (2, 23)]) (w' := w1) (n' := 142) rfl ?_
  rw [show w1 1 0 = 2 from (hfr 1 0 (by omega)).trans (zref hI rfl rfl)]
  refine qG.blk 1 (pc' := 47) (ls' := [(2, 1), (0, 0), (0, ((k9 : Nat) : Int)), (0, ((k : Nat) : Int)), (0, x)]) (st' := [(0, 0), (2, 2), (2, 23)]) (w' := w1) (n' := 142) rfl ?_
  refine qG.ar (P := 0 ≤ 0 ∧ 0 < ((3 : Nat) : Int)) (P2 := 0 < (2 : Int) ∧ (2 : Int) ≤ ((142 : Nat) : Int)) (pc' := 48) (ls' := [(2, 1), (0, 0), (0, ((k9 : Nat) : Int)), (0, ((k : Nat) : Int)), (0, x)]) (st' := [(2, w1 2 0), (2, 23)]) (w' := w1) (n' := 142) rfl (by omega) (by decide) ?_
  rw [show w1 2 0 = 64 from (hfr 2 0 (by omega)).trans (zref hI rfl rfl)]
  refine qG.blk 2 (pc' := 52) (ls' := [(2, 1), (0, 0), (0, ((k9 : Nat) : Int)), (0, ((k : Nat) : Int)), (0, x)]) (st' := [(2, w1 1 1), (2, 64), (2, 23)]) (w' := w1) (n' := 142) rfl ?_
  rw [show w1 1 1 = 3 from (hfr 1 1 (by omega)).trans (zref hI rfl rfl)]
  refine qG.blk 1 (pc' := 53) (ls' := [(2, 1), (0, 0), (0, ((k9 : Nat) : Int)), (0, ((k : Nat) : Int)), (0, x)]) (st' := [(0, ((k9 : Nat) : Int)), (2, 3), (2, 64), (2, 23)]) (w' := w1) (n' := 142) rfl ?_
  refine qG.ar (P := 0 ≤ ((k9 : Nat) : Int) ∧ ((k9 : Nat) : Int) < ((4 : Nat) : Int)) (P2 := 0 < (3 : Int) ∧ (3 : Int) ≤ ((142 : Nat) : Int)) (pc' := 54) (ls' := [(2, 1), (0, 0), (0, ((k9 : Nat) : Int)), (0, ((k : Nat) : Int)), (0, x)]) (st' := [(2, w1 3 k9), (2, 64), (2, 23)]) (w' := w1) (n' := 142) rfl (by omega) (by decide) ?_
  rw [show w1 3 k9 = 79 from (hfr 3 k9 (by omega)).trans h3]
  refine qG.blk 2 (pc' := 57) (ls' := [(2, 1), (0, 0), (0, ((k9 : Nat) : Int)), (0, ((k : Nat) : Int)), (0, x)]) (st' := [(0, x), (0, ((k : Nat) : Int)), (2, 79), (2, 64), (2, 23)]) (w' := w1) (n' := 142) rfl ?_
  refine qG.call (t := 38) (na := 5) (sk := 1) (md := 1) (ls1 := [(2, 23), (2, 64), (2, 79), (0, ((k : Nat) : Int)), (0, x), (9, 0), (9, 0)]) (r1 := []) rfl rfl rfl rfl rfl (K_wy64_79 (by omega) k hk1 hk2 x (fun t => siF w 0 (w 80) (w 81) L t) L hL n w1 hI1 hJ1 (e3.trans hs) (by rw [e1, e2]; exact hKW) (by rw [e1, e2]; exact fun g hg u hu => (siF_vw hg hu).trans (cv g hg).symm)) ?_
  rintro _ w2 _ ⟨rfl, y, rfl, h2s⟩
  rw [e1, e2] at h2s
  obtain ⟨z1, z2, z3⟩ := pz_cg (w := w) (w1 := w1) (fun i => hCe 96 i (by decide) (by omega)) (fun i => hCe 99 i (by decide) (by omega)) 0 k
  rw [z1, z2, z3] at h2s
  show qG none (d + 1) 175 60 [(2, 1), (0, 0), (0, ((k9 : Nat) : Int)), (0, ((k : Nat) : Int)), (0, x)] [(0, y)] w2 142 Q9
  refine qG.ret rfl rfl ?_
  subst hQ9
  exact ⟨_, rfl, h2s⟩
theorem K_wy69_79 {d : Nat} (hd : 8 ≤ d) (k : Nat) (hk1 : 1 ≤ k) (hk2 : k ≤ 4) (x : Int) (V : Nat → Int) (L : Nat) (hL : L ≤ 40) (n : Nat) (w : qW) (hI : yInv zgf zga zra zSp w) (hJ : J9 n w) (hs : w 79 2 = (L : Int)) (hKW : KNw (w 80) (w 81) L) (hVV : ∀ g, g < L → ∀ u, u < dN (w 80 g) (w 81 g) → V (scF (w 80) (w 81) g + u) = w 82 g) : qG none d 38 0 [(2, 23), (2, 69), (2, 79), (0, ((k : Nat) : Int)), (0, x), (9, 0), (9, 0)] [] w 142 (fun (r : qV) (_ : qW) (n1 : Nat) => n1 = 142 ∧ ∃ y, r = (0, y) ∧ (((x < 0 ∨ ((scF (w 80) (w 81) L : Nat) : Int) < x) ∧ y = -1) ∨ ((0 ≤ x ∧ x ≤ ((scF (w 80) (w 81) L : Nat) : Int)) ∧ WSP (pzN w 1 k) (pzP w 1 k) (pzM w 1 k) V (scF (w 80) (w 81) L) x.toNat y))) := by
  generalize hQ9 : (fun (r : qV) (_ : qW) (n1 : Nat) => n1 = 142 ∧ ∃ y, r = (0, y) ∧ (((x < 0 ∨ ((scF (w 80) (w 81) L : Nat) : Int) < x) ∧ y = -1) ∨ ((0 ≤ x ∧ x ≤ ((scF (w 80) (w 81) L : Nat) : Int)) ∧ WSP (pzN w 1 k) (pzP w 1 k) (pzM w 1 k) V (scF (w 80) (w 81) L) x.toNat y))) = Q9
  obtain ⟨d, rfl⟩ : ∃ d9, d = d9 + 1 := ⟨d - 1, by omega⟩
  refine qG.blk 1 (pc' := 2) (ls' := [(2, 23), (2, 69), (2, 79), (0, ((k : Nat) : Int)), (0, x), (9, 0), (9, 0)]) (st' := [(0, x)]) (w' := w) (n' := 142) rfl ?_
  refine qG.br (P := x < 0) (pc1 := 14) (pc2 := 5) (st1 := []) rfl (fun hx0 => ?_) (fun hx0 => ?_)
  · skip
    refine qG.blk 1 (pc' := 15) (ls' := [(2, 23), (2, 69), (2, 79), (0, ((k : Nat) : Int)), (0, x), (9, 0), (9, 0)]) (st' := [(0, (-1))]) (w' := w) (n' := 142) rfl ?_
    refine qG.ret rfl rfl ?_
    subst hQ9
    exact ⟨rfl, _, rfl, .inl ⟨by omega, rfl⟩⟩
  · skip
    obtain ⟨n9, rfl⟩ : ∃ n9 : Nat, x = (n9 : Int) := ⟨x.toNat, by omega⟩
    refine qG.blk 2 (pc' := 8) (ls' := [(2, 23), (2, 69), (2, 79), (0, ((k : Nat) : Int)), (0, ((n9 : Nat) : Int)), (9, 0), (9, 0)]) (st' := [(2, 79), (0, ((n9 : Nat) : Int))]) (w' := w) (n' := 142) rfl ?_
    refine qG.call (t := 116) (na := 1) (sk := 1) (md := 1) (ls1 := [(2, 79), (9, 0), (9, 0)]) (r1 := [(0, ((n9 : Nat) : Int))]) rfl rfl rfl rfl rfl (K_allSec79 (by omega) L hL w hI hs hKW) ?_
    rintro _ w7 _ ⟨rfl, hw7, rfl⟩
    rw [hw7]
    show qG none (d + 1) 38 11 [(2, 23), (2, 69), (2, 79), (0, ((k : Nat) : Int)), (0, ((n9 : Nat) : Int)), (9, 0), (9, 0)] [(0, ((scF (w 80) (w 81) L : Nat) : Int)), (0, ((n9 : Nat) : Int))] w 142 Q9
    refine qG.br (P := ((scF (w 80) (w 81) L : Nat) : Int) < ((n9 : Nat) : Int)) (pc1 := 14) (pc2 := 16) (st1 := []) rfl (fun hxs => ?_) (fun hxs => ?_)
    · skip
      refine qG.blk 1 (pc' := 15) (ls' := [(2, 23), (2, 69), (2, 79), (0, ((k : Nat) : Int)), (0, ((n9 : Nat) : Int)), (9, 0), (9, 0)]) (st' := [(0, (-1))]) (w' := w) (n' := 142) rfl ?_
      refine qG.ret rfl rfl ?_
      subst hQ9
      exact ⟨rfl, _, rfl, .inl ⟨by omega, rfl⟩⟩
    · skip
      refine qG.blk 2 (pc' := 20) (ls' := [(2, 23), (2, 69), (2, 79), (0, ((k : Nat) : Int)), (0, ((n9 : Nat) : Int)), (9, 0), (9, 0)]) (st' := [(2, w 23 0)]) (w' := w) (n' := 142) rfl ?_
      rw [show w 23 0 = 24 from zref hI rfl rfl]
      refine qG.blk 2 (pc' := 22) (ls' := [(2, 23), (2, 69), (2, 79), (0, ((k : Nat) : Int)), (0, ((n9 : Nat) : Int)), (9, 0), (9, 0)]) (st' := [(0, ((k : Nat) : Int)), (2, 69), (2, 24)]) (w' := w) (n' := 142) rfl ?_
      refine qG.call (t := 94) (na := 3) (sk := 1) (md := 1) (ls1 := [(2, 24), (2, 69), (0, ((k : Nat) : Int))]) (r1 := []) rfl rfl rfl rfl rfl (qG.and (T_findFor_69 (w0 := w) d [(2, 24), (2, 69), (0, ((k : Nat) : Int))] w (show C_findFor_69.2.1 ≤ d by exact Nat.le_trans (show C_findFor_69.2.1 ≤ 7 by decide) (by omega)) ⟨⟨rfl, by decide, by decide⟩, ⟨rfl, by decide, by decide⟩, ⟨rfl, by show (1 : Int) ≤ _; omega, by show _ ≤ (4 : Int); omega⟩, trivial⟩ hI (fun p hp => by cases hp) (fun e he => by cases he)) (K_findForC69 (by omega) k hk1 hk2 n w hI hJ)) ?_
      rintro _ wF _ ⟨⟨-, hIF, -, -, -⟩, rfl, rfl, hF⟩
      show qG none (d + 1) 38 25 [(2, 23), (2, 69), (2, 79), (0, ((k : Nat) : Int)), (0, ((n9 : Nat) : Int)), (9, 0), (9, 0)] [] wF 142 Q9
      subst hQ9
      obtain ⟨f0, f1, f2, hTX, hfr⟩ := hF
      have eF : ∀ q j, q ≠ 24 → q ≠ 25 → q ≠ 26 → wF q j = w q j := fun q j a b e => hfr q j (fun z => a z.1) b e
      have e1 : wF 80 = w 80 := funext fun j => eF _ j (by decide) (by decide) (by decide)
      have e2 : wF 81 = w 81 := funext fun j => eF _ j (by decide) (by decide) (by decide)
      have e3 : wF 82 = w 82 := funext fun j => eF _ j (by decide) (by decide) (by decide)
      obtain ⟨z1, z2, z3⟩ := pz_cg (w := w) (w1 := wF) (fun i => eF 96 i (by decide) (by decide) (by decide)) (fun i => eF 99 i (by decide) (by decide) (by decide)) 1 k
      refine qG.mono (K_wyB79 (by omega) (pzN w 1 k) (pzP w 1 k) (pzM w 1 k) V (fun i j hi hj => pzM_sym hi hj) L hL wF hIF ((eF 79 2 (by decide) (by decide) (by decide)).trans hs) (by rw [e1, e2]; exact hKW) (by have z := hTX.ctb hk1 hk2; rw [z1, z2, z3] at z; exact z) (by rw [e1, e2, e3]; exact hVV) n9 (by rw [e1, e2]; omega) _ _) ?_
      rintro r w1 n1 ⟨h0, y, h1, h2⟩
      rw [e1, e2] at h2
      exact ⟨h0, y, h1, .inr ⟨⟨by omega, by omega⟩, h2⟩⟩
theorem K_wayB79_69 {d : Nat} (hd : 9 ≤ d) (k9 : Nat) (hk9 : k9 < 4) (k : Nat) (hk1 : 1 ≤ k) (hk2 : k ≤ 4) (x : Int) (L : Nat) (hL : L ≤ 40) (n : Nat) (w : qW) (hI : yInv zgf zga zra zSp w) (hJ : J9 n w) (h3 : w 3 k9 = 79) (hs : w 79 2 = (L : Int)) (hKN : KNr (w 80) (w 81) L) (hKW : KNw (w 80) (w 81) L) (hK : w 69 0 = w 96 1) (hE : JE w) : qG none d 175 23 [(2, 1), (0, 1), (0, ((k9 : Nat) : Int)), (0, ((k : Nat) : Int)), (0, x)] [] w 142 (fun (r : qV) (_ : qW) (_ : Nat) => ∃ y, r = (0, y) ∧ (((x < 0 ∨ ((scF (w 80) (w 81) L : Nat) : Int) < x) ∧ y = -1) ∨ ((0 ≤ x ∧ x ≤ ((scF (w 80) (w 81) L : Nat) : Int)) ∧ WSP (pzN w 1 k) (pzP w 1 k) (pzM w 1 k) (fun t => siF w 1 (w 80) (w 81) L t) (scF (w 80) (w 81) L) x.toNat y))) := by
  generalize hQ9 : (fun (r : qV) (_ : qW) (_ : Nat) => ∃ y, r = (0, y) ∧ (((x < 0 ∨ ((scF (w 80) (w 81) L : Nat) : Int) < x) ∧ y = -1) ∨ ((0 ≤ x ∧ x ≤ ((scF (w 80) (w 81) L : Nat) : Int)) ∧ WSP (pzN w 1 k) (pzP w 1 k) (pzM w 1 k) (fun t => siF w 1 (w 80) (w 81) L t) (scF (w 80) (w 81) L) x.toNat y))) = Q9
  obtain ⟨d, rfl⟩ : ∃ d9, d = d9 + 1 := ⟨d - 1, by omega⟩
  refine qG.blk 2 (pc' := 27) (ls' := [(2, 1), (0, 1), (0, ((k9 : Nat) : Int)), (0, ((k : Nat) : Int)), (0, x)]) (st' := [(2, w 1 1)]) (w' := w) (n' := 142) rfl ?_
  rw [show w 1 1 = 3 from zref hI rfl rfl]
  refine qG.blk 1 (pc' := 28) (ls' := [(2, 1), (0, 1), (0, ((k9 : Nat) : Int)), (0, ((k : Nat) : Int)), (0, x)]) (st' := [(0, ((k9 : Nat) : Int)), (2, 3)]) (w' := w) (n' := 142) rfl ?_
  refine qG.ar (P := 0 ≤ ((k9 : Nat) : Int) ∧ ((k9 : Nat) : Int) < ((4 : Nat) : Int)) (P2 := 0 < (3 : Int) ∧ (3 : Int) ≤ ((142 : Nat) : Int)) (pc' := 29) (ls' := [(2, 1), (0, 1), (0, ((k9 : Nat) : Int)), (0, ((k : Nat) : Int)), (0, x)]) (st' := [(2, w 3 k9)]) (w' := w) (n' := 142) rfl (by omega) (by decide) ?_
  rw [show w 3 k9 = 79 from h3]
  refine qG.blk 2 (pc' := 33) (ls' := [(2, 1), (0, 1), (0, ((k9 : Nat) : Int)), (0, ((k : Nat) : Int)), (0, x)]) (st' := [(2, w 1 0), (2, 79)]) (w' := w) (n' := 142) rfl ?_
  rw [show w 1 0 = 2 from zref hI rfl rfl]
  refine qG.blk 1 (pc' := 34) (ls' := [(2, 1), (0, 1), (0, ((k9 : Nat) : Int)), (0, ((k : Nat) : Int)), (0, x)]) (st' := [(0, 1), (2, 2), (2, 79)]) (w' := w) (n' := 142) rfl ?_
  refine qG.ar (P := 0 ≤ 1 ∧ 1 < ((3 : Nat) : Int)) (P2 := 0 < (2 : Int) ∧ (2 : Int) ≤ ((142 : Nat) : Int)) (pc' := 35) (ls' := [(2, 1), (0, 1), (0, ((k9 : Nat) : Int)), (0, ((k : Nat) : Int)), (0, x)]) (st' := [(2, w 2 1), (2, 79)]) (w' := w) (n' := 142) rfl (by omega) (by decide) ?_
  rw [show w 2 1 = 69 from zref hI rfl rfl]
  refine qG.call (t := 111) (na := 2) (sk := 1) (md := 1) (ls1 := [(2, 79), (2, 69), (9, 0)]) (r1 := []) rfl rfl rfl rfl rfl (K_perf79_69 (by omega) L hL w hI hs hKN hK hE) ?_
  rintro _ w1 _ ⟨rfl, rfl, hI1, hC⟩
  have hJ1 := J9.chp (show SHOWP 79 by unfold SHOWP; omega) hJ hC
  obtain ⟨e1, e2, e3, hfr⟩ := hC.row (by unfold SHOWP; omega)
  have hCe := hC.2.2.2.2.2.2.2
  have cv := hC.2.2.2.2.2.2.1
  show qG none (d + 1) 175 38 [(2, 1), (0, 1), (0, ((k9 : Nat) : Int)), (0, ((k : Nat) : Int)), (0, x)] [] w1 142 Q9
  refine qG.blk 2 (pc' := 42) (ls' := [(2, 1), (0, 1), (0, ((k9 : Nat) : Int)), (0, ((k : Nat) : Int)), (0, x)]) (st' := [(2, w1 1 5)]) (w' := w1) (n' := 142) rfl ?_
  rw [show w1 1 5 = 23 from (hfr 1 5 (by omega)).trans (zref hI rfl rfl)]
  refine qG.blk 2 (pc' := 46) (ls' := [(2, 1), (0, 1), (0, ((k9 : Nat) : Int)), (0, ((k : Nat) : Int)), (0, x)]) (st' := [(2, w1 1 0), (2, 23)]) (w' := w1) (n' := 142) rfl ?_
  rw [show w1 1 0 = 2 from (hfr 1 0 (by omega)).trans (zref hI rfl rfl)]
  refine qG.blk 1 (pc' := 47) (ls' := [(2, 1), (0, 1), (0, ((k9 : Nat) : Int)), (0, ((k : Nat) : Int)), (0, x)]) (st' := [(0, 1), (2, 2), (2, 23)]) (w' := w1) (n' := 142) rfl ?_
  refine qG.ar (P := 0 ≤ 1 ∧ 1 < ((3 : Nat) : Int)) (P2 := 0 < (2 : Int) ∧ (2 : Int) ≤ ((142 : Nat) : Int)) (pc' := 48) (ls' := [(2, 1), (0, 1), (0, ((k9 : Nat) : Int)), (0, ((k : Nat) : Int)), (0, x)]) (st' := [(2, w1 2 1), (2, 23)]) (w' := w1) (n' := 142) rfl (by omega) (by decide) ?_
  rw [show w1 2 1 = 69 from (hfr 2 1 (by omega)).trans (zref hI rfl rfl)]
  refine qG.blk 2 (pc' := 52) (ls' := [(2, 1), (0, 1), (0, ((k9 : Nat) : Int)), (0, ((k : Nat) : Int)), (0, x)]) (st' := [(2, w1 1 1), (2, 69), (2, 23)]) (w' := w1) (n' := 142) rfl ?_
  rw [show w1 1 1 = 3 from (hfr 1 1 (by omega)).trans (zref hI rfl rfl)]
  refine qG.blk 1 (pc' := 53) (ls' := [(2, 1), (0, 1), (0, ((k9 : Nat) : Int)), (0, ((k : Nat) : Int)), (0, x)]) (st' := [(0, ((k9 : Nat) : Int)), (2, 3), (2, 69), (2, 23)]) (w' := w1) (n' := 142) rfl ?_
  refine qG.ar (P := 0 ≤ ((k9 : Nat) : Int) ∧ ((k9 : Nat) : Int) < ((4 : Nat) : Int)) (P2 := 0 < (3 : Int) ∧ (3 : Int) ≤ ((142 : Nat) : Int)) (pc' := 54) (ls' := [(2, 1), (0, 1), (0, ((k9 : Nat) : Int)), (0, ((k : Nat) : Int)), (0, x)]) (st' := [(2, w1 3 k9), (2, 69), (2, 23)]) (w' := w1) (n' := 142) rfl (by omega) (by decide) ?_
  rw [show w1 3 k9 = 79 from (hfr 3 k9 (by omega)).trans h3]
  refine qG.blk 2 (pc' := 57) (ls' := [(2, 1), (0, 1), (0, ((k9 : Nat) : Int)), (0, ((k : Nat) : Int)), (0, x)]) (st' := [(0, x), (0, ((k : Nat) : Int)), (2, 79), (2, 69), (2, 23)]) (w' := w1) (n' := 142) rfl ?_
  refine qG.call (t := 38) (na := 5) (sk := 1) (md := 1) (ls1 := [(2, 23), (2, 69), (2, 79), (0, ((k : Nat) : Int)), (0, x), (9, 0), (9, 0)]) (r1 := []) rfl rfl rfl rfl rfl (K_wy69_79 (by omega) k hk1 hk2 x (fun t => siF w 1 (w 80) (w 81) L t) L hL n w1 hI1 hJ1 (e3.trans hs) (by rw [e1, e2]; exact hKW) (by rw [e1, e2]; exact fun g hg u hu => (siF_vw hg hu).trans (cv g hg).symm)) ?_
  rintro _ w2 _ ⟨rfl, y, rfl, h2s⟩
  rw [e1, e2] at h2s
  obtain ⟨z1, z2, z3⟩ := pz_cg (w := w) (w1 := w1) (fun i => hCe 96 i (by decide) (by omega)) (fun i => hCe 99 i (by decide) (by omega)) 1 k
  rw [z1, z2, z3] at h2s
  show qG none (d + 1) 175 60 [(2, 1), (0, 1), (0, ((k9 : Nat) : Int)), (0, ((k : Nat) : Int)), (0, x)] [(0, y)] w2 142 Q9
  refine qG.ret rfl rfl ?_
  subst hQ9
  exact ⟨_, rfl, h2s⟩
theorem K_wy74_79 {d : Nat} (hd : 8 ≤ d) (k : Nat) (hk1 : 1 ≤ k) (hk2 : k ≤ 4) (x : Int) (V : Nat → Int) (L : Nat) (hL : L ≤ 40) (n : Nat) (w : qW) (hI : yInv zgf zga zra zSp w) (hJ : J9 n w) (hs : w 79 2 = (L : Int)) (hKW : KNw (w 80) (w 81) L) (hVV : ∀ g, g < L → ∀ u, u < dN (w 80 g) (w 81 g) → V (scF (w 80) (w 81) g + u) = w 82 g) : qG none d 38 0 [(2, 23), (2, 74), (2, 79), (0, ((k : Nat) : Int)), (0, x), (9, 0), (9, 0)] [] w 142 (fun (r : qV) (_ : qW) (n1 : Nat) => n1 = 142 ∧ ∃ y, r = (0, y) ∧ (((x < 0 ∨ ((scF (w 80) (w 81) L : Nat) : Int) < x) ∧ y = -1) ∨ ((0 ≤ x ∧ x ≤ ((scF (w 80) (w 81) L : Nat) : Int)) ∧ WSP (pzN w 2 k) (pzP w 2 k) (pzM w 2 k) V (scF (w 80) (w 81) L) x.toNat y))) := by
  generalize hQ9 : (fun (r : qV) (_ : qW) (n1 : Nat) => n1 = 142 ∧ ∃ y, r = (0, y) ∧ (((x < 0 ∨ ((scF (w 80) (w 81) L : Nat) : Int) < x) ∧ y = -1) ∨ ((0 ≤ x ∧ x ≤ ((scF (w 80) (w 81) L : Nat) : Int)) ∧ WSP (pzN w 2 k) (pzP w 2 k) (pzM w 2 k) V (scF (w 80) (w 81) L) x.toNat y))) = Q9
  obtain ⟨d, rfl⟩ : ∃ d9, d = d9 + 1 := ⟨d - 1, by omega⟩
  refine qG.blk 1 (pc' := 2) (ls' := [(2, 23), (2, 74), (2, 79), (0, ((k : Nat) : Int)), (0, x), (9, 0), (9, 0)]) (st' := [(0, x)]) (w' := w) (n' := 142) rfl ?_
  refine qG.br (P := x < 0) (pc1 := 14) (pc2 := 5) (st1 := []) rfl (fun hx0 => ?_) (fun hx0 => ?_)
  · skip
    refine qG.blk 1 (pc' := 15) (ls' := [(2, 23), (2, 74), (2, 79), (0, ((k : Nat) : Int)), (0, x), (9, 0), (9, 0)]) (st' := [(0, (-1))]) (w' := w) (n' := 142) rfl ?_
    refine qG.ret rfl rfl ?_
    subst hQ9
    exact ⟨rfl, _, rfl, .inl ⟨by omega, rfl⟩⟩
  · skip
    obtain ⟨n9, rfl⟩ : ∃ n9 : Nat, x = (n9 : Int) := ⟨x.toNat, by omega⟩
    refine qG.blk 2 (pc' := 8) (ls' := [(2, 23), (2, 74), (2, 79), (0, ((k : Nat) : Int)), (0, ((n9 : Nat) : Int)), (9, 0), (9, 0)]) (st' := [(2, 79), (0, ((n9 : Nat) : Int))]) (w' := w) (n' := 142) rfl ?_
    refine qG.call (t := 116) (na := 1) (sk := 1) (md := 1) (ls1 := [(2, 79), (9, 0), (9, 0)]) (r1 := [(0, ((n9 : Nat) : Int))]) rfl rfl rfl rfl rfl (K_allSec79 (by omega) L hL w hI hs hKW) ?_
    rintro _ w7 _ ⟨rfl, hw7, rfl⟩
    rw [hw7]
    show qG none (d + 1) 38 11 [(2, 23), (2, 74), (2, 79), (0, ((k : Nat) : Int)), (0, ((n9 : Nat) : Int)), (9, 0), (9, 0)] [(0, ((scF (w 80) (w 81) L : Nat) : Int)), (0, ((n9 : Nat) : Int))] w 142 Q9
    refine qG.br (P := ((scF (w 80) (w 81) L : Nat) : Int) < ((n9 : Nat) : Int)) (pc1 := 14) (pc2 := 16) (st1 := []) rfl (fun hxs => ?_) (fun hxs => ?_)
    · skip
      refine qG.blk 1 (pc' := 15) (ls' := [(2, 23), (2, 74), (2, 79), (0, ((k : Nat) : Int)), (0, ((n9 : Nat) : Int)), (9, 0), (9, 0)]) (st' := [(0, (-1))]) (w' := w) (n' := 142) rfl ?_
      refine qG.ret rfl rfl ?_
      subst hQ9
      exact ⟨rfl, _, rfl, .inl ⟨by omega, rfl⟩⟩
    · skip
      refine qG.blk 2 (pc' := 20) (ls' := [(2, 23), (2, 74), (2, 79), (0, ((k : Nat) : Int)), (0, ((n9 : Nat) : Int)), (9, 0), (9, 0)]) (st' := [(2, w 23 0)]) (w' := w) (n' := 142) rfl ?_
      rw [show w 23 0 = 24 from zref hI rfl rfl]
      refine qG.blk 2 (pc' := 22) (ls' := [(2, 23), (2, 74), (2, 79), (0, ((k : Nat) : Int)), (0, ((n9 : Nat) : Int)), (9, 0), (9, 0)]) (st' := [(0, ((k : Nat) : Int)), (2, 74), (2, 24)]) (w' := w) (n' := 142) rfl ?_
      refine qG.call (t := 94) (na := 3) (sk := 1) (md := 1) (ls1 := [(2, 24), (2, 74), (0, ((k : Nat) : Int))]) (r1 := []) rfl rfl rfl rfl rfl (qG.and (T_findFor_74 (w0 := w) d [(2, 24), (2, 74), (0, ((k : Nat) : Int))] w (show C_findFor_74.2.1 ≤ d by exact Nat.le_trans (show C_findFor_74.2.1 ≤ 7 by decide) (by omega)) ⟨⟨rfl, by decide, by decide⟩, ⟨rfl, by decide, by decide⟩, ⟨rfl, by show (1 : Int) ≤ _; omega, by show _ ≤ (4 : Int); omega⟩, trivial⟩ hI (fun p hp => by cases hp) (fun e he => by cases he)) (K_findForC74 (by omega) k hk1 hk2 n w hI hJ)) ?_
      rintro _ wF _ ⟨⟨-, hIF, -, -, -⟩, rfl, rfl, hF⟩
      show qG none (d + 1) 38 25 [(2, 23), (2, 74), (2, 79), (0, ((k : Nat) : Int)), (0, ((n9 : Nat) : Int)), (9, 0), (9, 0)] [] wF 142 Q9
      subst hQ9
      obtain ⟨f0, f1, f2, hTX, hfr⟩ := hF
      have eF : ∀ q j, q ≠ 24 → q ≠ 25 → q ≠ 26 → wF q j = w q j := fun q j a b e => hfr q j (fun z => a z.1) b e
      have e1 : wF 80 = w 80 := funext fun j => eF _ j (by decide) (by decide) (by decide)
      have e2 : wF 81 = w 81 := funext fun j => eF _ j (by decide) (by decide) (by decide)
      have e3 : wF 82 = w 82 := funext fun j => eF _ j (by decide) (by decide) (by decide)
      obtain ⟨z1, z2, z3⟩ := pz_cg (w := w) (w1 := wF) (fun i => eF 96 i (by decide) (by decide) (by decide)) (fun i => eF 99 i (by decide) (by decide) (by decide)) 2 k
      refine qG.mono (K_wyB79 (by omega) (pzN w 2 k) (pzP w 2 k) (pzM w 2 k) V (fun i j hi hj => pzM_sym hi hj) L hL wF hIF ((eF 79 2 (by decide) (by decide) (by decide)).trans hs) (by rw [e1, e2]; exact hKW) (by have z := hTX.ctb hk1 hk2; rw [z1, z2, z3] at z; exact z) (by rw [e1, e2, e3]; exact hVV) n9 (by rw [e1, e2]; omega) _ _) ?_
      rintro r w1 n1 ⟨h0, y, h1, h2⟩
      rw [e1, e2] at h2
      exact ⟨h0, y, h1, .inr ⟨⟨by omega, by omega⟩, h2⟩⟩
theorem K_wayB79_74 {d : Nat} (hd : 9 ≤ d) (k9 : Nat) (hk9 : k9 < 4) (k : Nat) (hk1 : 1 ≤ k) (hk2 : k ≤ 4) (x : Int) (L : Nat) (hL : L ≤ 40) (n : Nat) (w : qW) (hI : yInv zgf zga zra zSp w) (hJ : J9 n w) (h3 : w 3 k9 = 79) (hs : w 79 2 = (L : Int)) (hKN : KNr (w 80) (w 81) L) (hKW : KNw (w 80) (w 81) L) (hK : w 74 0 = w 96 2) (hE : JE w) : qG none d 175 23 [(2, 1), (0, 2), (0, ((k9 : Nat) : Int)), (0, ((k : Nat) : Int)), (0, x)] [] w 142 (fun (r : qV) (_ : qW) (_ : Nat) => ∃ y, r = (0, y) ∧ (((x < 0 ∨ ((scF (w 80) (w 81) L : Nat) : Int) < x) ∧ y = -1) ∨ ((0 ≤ x ∧ x ≤ ((scF (w 80) (w 81) L : Nat) : Int)) ∧ WSP (pzN w 2 k) (pzP w 2 k) (pzM w 2 k) (fun t => siF w 2 (w 80) (w 81) L t) (scF (w 80) (w 81) L) x.toNat y))) := by
  generalize hQ9 : (fun (r : qV) (_ : qW) (_ : Nat) => ∃ y, r = (0, y) ∧ (((x < 0 ∨ ((scF (w 80) (w 81) L : Nat) : Int) < x) ∧ y = -1) ∨ ((0 ≤ x ∧ x ≤ ((scF (w 80) (w 81) L : Nat) : Int)) ∧ WSP (pzN w 2 k) (pzP w 2 k) (pzM w 2 k) (fun t => siF w 2 (w 80) (w 81) L t) (scF (w 80) (w 81) L) x.toNat y))) = Q9
  obtain ⟨d, rfl⟩ : ∃ d9, d = d9 + 1 := ⟨d - 1, by omega⟩
  refine qG.blk 2 (pc' := 27) (ls' := [(2, 1), (0, 2), (0, ((k9 : Nat) : Int)), (0, ((k : Nat) : Int)), (0, x)]) (st' := [(2, w 1 1)]) (w' := w) (n' := 142) rfl ?_
  rw [show w 1 1 = 3 from zref hI rfl rfl]
  refine qG.blk 1 (pc' := 28) (ls' := [(2, 1), (0, 2), (0, ((k9 : Nat) : Int)), (0, ((k : Nat) : Int)), (0, x)]) (st' := [(0, ((k9 : Nat) : Int)), (2, 3)]) (w' := w) (n' := 142) rfl ?_
  refine qG.ar (P := 0 ≤ ((k9 : Nat) : Int) ∧ ((k9 : Nat) : Int) < ((4 : Nat) : Int)) (P2 := 0 < (3 : Int) ∧ (3 : Int) ≤ ((142 : Nat) : Int)) (pc' := 29) (ls' := [(2, 1), (0, 2), (0, ((k9 : Nat) : Int)), (0, ((k : Nat) : Int)), (0, x)]) (st' := [(2, w 3 k9)]) (w' := w) (n' := 142) rfl (by omega) (by decide) ?_
  rw [show w 3 k9 = 79 from h3]
  refine qG.blk 2 (pc' := 33) (ls' := [(2, 1), (0, 2), (0, ((k9 : Nat) : Int)), (0, ((k : Nat) : Int)), (0, x)]) (st' := [(2, w 1 0), (2, 79)]) (w' := w) (n' := 142) rfl ?_
  rw [show w 1 0 = 2 from zref hI rfl rfl]
  refine qG.blk 1 (pc' := 34) (ls' := [(2, 1), (0, 2), (0, ((k9 : Nat) : Int)), (0, ((k : Nat) : Int)), (0, x)]) (st' := [(0, 2), (2, 2), (2, 79)]) (w' := w) (n' := 142) rfl ?_
  refine qG.ar (P := 0 ≤ 2 ∧ 2 < ((3 : Nat) : Int)) (P2 := 0 < (2 : Int) ∧ (2 : Int) ≤ ((142 : Nat) : Int)) (pc' := 35) (ls' := [(2, 1), (0, 2), (0, ((k9 : Nat) : Int)), (0, ((k : Nat) : Int)), (0, x)]) (st' := [(2, w 2 2), (2, 79)]) (w' := w) (n' := 142) rfl (by omega) (by decide) ?_
  rw [show w 2 2 = 74 from zref hI rfl rfl]
  refine qG.call (t := 111) (na := 2) (sk := 1) (md := 1) (ls1 := [(2, 79), (2, 74), (9, 0)]) (r1 := []) rfl rfl rfl rfl rfl (K_perf79_74 (by omega) L hL w hI hs hKN hK hE) ?_
  rintro _ w1 _ ⟨rfl, rfl, hI1, hC⟩
  have hJ1 := J9.chp (show SHOWP 79 by unfold SHOWP; omega) hJ hC
  obtain ⟨e1, e2, e3, hfr⟩ := hC.row (by unfold SHOWP; omega)
  have hCe := hC.2.2.2.2.2.2.2
  have cv := hC.2.2.2.2.2.2.1
  show qG none (d + 1) 175 38 [(2, 1), (0, 2), (0, ((k9 : Nat) : Int)), (0, ((k : Nat) : Int)), (0, x)] [] w1 142 Q9
  refine qG.blk 2 (pc' := 42) (ls' := [(2, 1), (0, 2), (0, ((k9 : Nat) : Int)), (0, ((k : Nat) : Int)), (0, x)]) (st' := [(2, w1 1 5)]) (w' := w1) (n' := 142) rfl ?_
  rw [show w1 1 5 = 23 from (hfr 1 5 (by omega)).trans (zref hI rfl rfl)]
  refine qG.blk 2 (pc' := 46) (ls' := [(2, 1), (0, 2), (0, ((k9 : Nat) : Int)), (0, ((k : Nat) : Int)), (0, x)]) (st' := [(2, w1 1 0), (2, 23)]) (w' := w1) (n' := 142) rfl ?_
  rw [show w1 1 0 = 2 from (hfr 1 0 (by omega)).trans (zref hI rfl rfl)]
  refine qG.blk 1 (pc' := 47) (ls' := [(2, 1), (0, 2), (0, ((k9 : Nat) : Int)), (0, ((k : Nat) : Int)), (0, x)]) (st' := [(0, 2), (2, 2), (2, 23)]) (w' := w1) (n' := 142) rfl ?_
  refine qG.ar (P := 0 ≤ 2 ∧ 2 < ((3 : Nat) : Int)) (P2 := 0 < (2 : Int) ∧ (2 : Int) ≤ ((142 : Nat) : Int)) (pc' := 48) (ls' := [(2, 1), (0, 2), (0, ((k9 : Nat) : Int)), (0, ((k : Nat) : Int)), (0, x)]) (st' := [(2, w1 2 2), (2, 23)]) (w' := w1) (n' := 142) rfl (by omega) (by decide) ?_
  rw [show w1 2 2 = 74 from (hfr 2 2 (by omega)).trans (zref hI rfl rfl)]
  refine qG.blk 2 (pc' := 52) (ls' := [(2, 1), (0, 2), (0, ((k9 : Nat) : Int)), (0, ((k : Nat) : Int)), (0, x)]) (st' := [(2, w1 1 1), (2, 74), (2, 23)]) (w' := w1) (n' := 142) rfl ?_
  rw [show w1 1 1 = 3 from (hfr 1 1 (by omega)).trans (zref hI rfl rfl)]
  refine qG.blk 1 (pc' := 53) (ls' := [(2, 1), (0, 2), (0, ((k9 : Nat) : Int)), (0, ((k : Nat) : Int)), (0, x)]) (st' := [(0, ((k9 : Nat) : Int)), (2, 3), (2, 74), (2, 23)]) (w' := w1) (n' := 142) rfl ?_
  refine qG.ar (P := 0 ≤ ((k9 : Nat) : Int) ∧ ((k9 : Nat) : Int) < ((4 : Nat) : Int)) (P2 := 0 < (3 : Int) ∧ (3 : Int) ≤ ((142 : Nat) : Int)) (pc' := 54) (ls' := [(2, 1), (0, 2), (0, ((k9 : Nat) : Int)), (0, ((k : Nat) : Int)), (0, x)]) (st' := [(2, w1 3 k9), (2, 74), (2, 23)]) (w' := w1) (n' := 142) rfl (by omega) (by decide) ?_
  rw [show w1 3 k9 = 79 from (hfr 3 k9 (by omega)).trans h3]
  refine qG.blk 2 (pc' := 57) (ls' := [(2, 1), (0, 2), (0, ((k9 : Nat) : Int)), (0, ((k : Nat) : Int)), (0, x)]) (st' := [(0, x), (0, ((k : Nat) : Int)), (2, 79), (2, 74), (2, 23)]) (w' := w1) (n' := 142) rfl ?_
  refine qG.call (t := 38) (na := 5) (sk := 1) (md := 1) (ls1 := [(2, 23), (2, 74), (2, 79), (0, ((k : Nat) : Int)), (0, x), (9, 0), (9, 0)]) (r1 := []) rfl rfl rfl rfl rfl (K_wy74_79 (by omega) k hk1 hk2 x (fun t => siF w 2 (w 80) (w 81) L t) L hL n w1 hI1 hJ1 (e3.trans hs) (by rw [e1, e2]; exact hKW) (by rw [e1, e2]; exact fun g hg u hu => (siF_vw hg hu).trans (cv g hg).symm)) ?_
  rintro _ w2 _ ⟨rfl, y, rfl, h2s⟩
  rw [e1, e2] at h2s
  obtain ⟨z1, z2, z3⟩ := pz_cg (w := w) (w1 := w1) (fun i => hCe 96 i (by decide) (by omega)) (fun i => hCe 99 i (by decide) (by omega)) 2 k
  rw [z1, z2, z3] at h2s
  show qG none (d + 1) 175 60 [(2, 1), (0, 2), (0, ((k9 : Nat) : Int)), (0, ((k : Nat) : Int)), (0, x)] [(0, y)] w2 142 Q9
  refine qG.ret rfl rfl ?_
  subst hQ9
  exact ⟨_, rfl, h2s⟩
theorem K_wy64_83 {d : Nat} (hd : 8 ≤ d) (k : Nat) (hk1 : 1 ≤ k) (hk2 : k ≤ 4) (x : Int) (V : Nat → Int) (L : Nat) (hL : L ≤ 40) (n : Nat) (w : qW) (hI : yInv zgf zga zra zSp w) (hJ : J9 n w) (hs : w 83 2 = (L : Int)) (hKW : KNw (w 84) (w 85) L) (hVV : ∀ g, g < L → ∀ u, u < dN (w 84 g) (w 85 g) → V (scF (w 84) (w 85) g + u) = w 86 g) : qG none d 38 0 [(2, 23), (2, 64), (2, 83), (0, ((k : Nat) : Int)), (0, x), (9, 0), (9, 0)] [] w 142 (fun (r : qV) (_ : qW) (n1 : Nat) => n1 = 142 ∧ ∃ y, r = (0, y) ∧ (((x < 0 ∨ ((scF (w 84) (w 85) L : Nat) : Int) < x) ∧ y = -1) ∨ ((0 ≤ x ∧ x ≤ ((scF (w 84) (w 85) L : Nat) : Int)) ∧ WSP (pzN w 0 k) (pzP w 0 k) (pzM w 0 k) V (scF (w 84) (w 85) L) x.toNat y))) := by
  generalize hQ9 : (fun (r : qV) (_ : qW) (n1 : Nat) => n1 = 142 ∧ ∃ y, r = (0, y) ∧ (((x < 0 ∨ ((scF (w 84) (w 85) L : Nat) : Int) < x) ∧ y = -1) ∨ ((0 ≤ x ∧ x ≤ ((scF (w 84) (w 85) L : Nat) : Int)) ∧ WSP (pzN w 0 k) (pzP w 0 k) (pzM w 0 k) V (scF (w 84) (w 85) L) x.toNat y))) = Q9
  obtain ⟨d, rfl⟩ : ∃ d9, d = d9 + 1 := ⟨d - 1, by omega⟩
  refine qG.blk 1 (pc' := 2) (ls' := [(2, 23), (2, 64), (2, 83), (0, ((k : Nat) : Int)), (0, x), (9, 0), (9, 0)]) (st' := [(0, x)]) (w' := w) (n' := 142) rfl ?_
  refine qG.br (P := x < 0) (pc1 := 14) (pc2 := 5) (st1 := []) rfl (fun hx0 => ?_) (fun hx0 => ?_)
  · skip
    refine qG.blk 1 (pc' := 15) (ls' := [(2, 23), (2, 64), (2, 83), (0, ((k : Nat) : Int)), (0, x), (9, 0), (9, 0)]) (st' := [(0, (-1))]) (w' := w) (n' := 142) rfl ?_
    refine qG.ret rfl rfl ?_
    subst hQ9
    exact ⟨rfl, _, rfl, .inl ⟨by omega, rfl⟩⟩
  · skip
    obtain ⟨n9, rfl⟩ : ∃ n9 : Nat, x = (n9 : Int) := ⟨x.toNat, by omega⟩
    refine qG.blk 2 (pc' := 8) (ls' := [(2, 23), (2, 64), (2, 83), (0, ((k : Nat) : Int)), (0, ((n9 : Nat) : Int)), (9, 0), (9, 0)]) (st' := [(2, 83), (0, ((n9 : Nat) : Int))]) (w' := w) (n' := 142) rfl ?_
    refine qG.call (t := 116) (na := 1) (sk := 1) (md := 1) (ls1 := [(2, 83), (9, 0), (9, 0)]) (r1 := [(0, ((n9 : Nat) : Int))]) rfl rfl rfl rfl rfl (K_allSec83 (by omega) L hL w hI hs hKW) ?_
    rintro _ w7 _ ⟨rfl, hw7, rfl⟩
    rw [hw7]
    show qG none (d + 1) 38 11 [(2, 23), (2, 64), (2, 83), (0, ((k : Nat) : Int)), (0, ((n9 : Nat) : Int)), (9, 0), (9, 0)] [(0, ((scF (w 84) (w 85) L : Nat) : Int)), (0, ((n9 : Nat) : Int))] w 142 Q9
    refine qG.br (P := ((scF (w 84) (w 85) L : Nat) : Int) < ((n9 : Nat) : Int)) (pc1 := 14) (pc2 := 16) (st1 := []) rfl (fun hxs => ?_) (fun hxs => ?_)
    · skip
      refine qG.blk 1 (pc' := 15) (ls' := [(2, 23), (2, 64), (2, 83), (0, ((k : Nat) : Int)), (0, ((n9 : Nat) : Int)), (9, 0), (9, 0)]) (st' := [(0, (-1))]) (w' := w) (n' := 142) rfl ?_
      refine qG.ret rfl rfl ?_
      subst hQ9
      exact ⟨rfl, _, rfl, .inl ⟨by omega, rfl⟩⟩
    · skip
      refine qG.blk 2 (pc' := 20) (ls' := [(2, 23), (2, 64), (2, 83), (0, ((k : Nat) : Int)), (0, ((n9 : Nat) : Int)), (9, 0), (9, 0)]) (st' := [(2, w 23 0)]) (w' := w) (n' := 142) rfl ?_
      rw [show w 23 0 = 24 from zref hI rfl rfl]
      refine qG.blk 2 (pc' := 22) (ls' := [(2, 23), (2, 64), (2, 83), (0, ((k : Nat) : Int)), (0, ((n9 : Nat) : Int)), (9, 0), (9, 0)]) (st' := [(0, ((k : Nat) : Int)), (2, 64), (2, 24)]) (w' := w) (n' := 142) rfl ?_
      refine qG.call (t := 94) (na := 3) (sk := 1) (md := 1) (ls1 := [(2, 24), (2, 64), (0, ((k : Nat) : Int))]) (r1 := []) rfl rfl rfl rfl rfl (qG.and (T_findFor_64 (w0 := w) d [(2, 24), (2, 64), (0, ((k : Nat) : Int))] w (show C_findFor_64.2.1 ≤ d by exact Nat.le_trans (show C_findFor_64.2.1 ≤ 7 by decide) (by omega)) ⟨⟨rfl, by decide, by decide⟩, ⟨rfl, by decide, by decide⟩, ⟨rfl, by show (1 : Int) ≤ _; omega, by show _ ≤ (4 : Int); omega⟩, trivial⟩ hI (fun p hp => by cases hp) (fun e he => by cases he)) (K_findForC64 (by omega) k hk1 hk2 n w hI hJ)) ?_
      rintro _ wF _ ⟨⟨-, hIF, -, -, -⟩, rfl, rfl, hF⟩
      show qG none (d + 1) 38 25 [(2, 23), (2, 64), (2, 83), (0, ((k : Nat) : Int)), (0, ((n9 : Nat) : Int)), (9, 0), (9, 0)] [] wF 142 Q9
      subst hQ9
      obtain ⟨f0, f1, f2, hTX, hfr⟩ := hF
      have eF : ∀ q j, q ≠ 24 → q ≠ 25 → q ≠ 26 → wF q j = w q j := fun q j a b e => hfr q j (fun z => a z.1) b e
      have e1 : wF 84 = w 84 := funext fun j => eF _ j (by decide) (by decide) (by decide)
      have e2 : wF 85 = w 85 := funext fun j => eF _ j (by decide) (by decide) (by decide)
      have e3 : wF 86 = w 86 := funext fun j => eF _ j (by decide) (by decide) (by decide)
      obtain ⟨z1, z2, z3⟩ := pz_cg (w := w) (w1 := wF) (fun i => eF 96 i (by decide) (by decide) (by decide)) (fun i => eF 99 i (by decide) (by decide) (by decide)) 0 k
      refine qG.mono (K_wyB83 (by omega) (pzN w 0 k) (pzP w 0 k) (pzM w 0 k) V (fun i j hi hj => pzM_sym hi hj) L hL wF hIF ((eF 83 2 (by decide) (by decide) (by decide)).trans hs) (by rw [e1, e2]; exact hKW) (by have z := hTX.ctb hk1 hk2; rw [z1, z2, z3] at z; exact z) (by rw [e1, e2, e3]; exact hVV) n9 (by rw [e1, e2]; omega) _ _) ?_
      rintro r w1 n1 ⟨h0, y, h1, h2⟩
      rw [e1, e2] at h2
      exact ⟨h0, y, h1, .inr ⟨⟨by omega, by omega⟩, h2⟩⟩
theorem K_wayB83_64 {d : Nat} (hd : 9 ≤ d) (k9 : Nat) (hk9 : k9 < 4) (k : Nat) (hk1 : 1 ≤ k) (hk2 : k ≤ 4) (x : Int) (L : Nat) (hL : L ≤ 40) (n : Nat) (w : qW) (hI : yInv zgf zga zra zSp w) (hJ : J9 n w) (h3 : w 3 k9 = 83) (hs : w 83 2 = (L : Int)) (hKN : KNr (w 84) (w 85) L) (hKW : KNw (w 84) (w 85) L) (hK : w 64 0 = w 96 0) (hE : JE w) : qG none d 175 23 [(2, 1), (0, 0), (0, ((k9 : Nat) : Int)), (0, ((k : Nat) : Int)), (0, x)] [] w 142 (fun (r : qV) (_ : qW) (_ : Nat) => ∃ y, r = (0, y) ∧ (((x < 0 ∨ ((scF (w 84) (w 85) L : Nat) : Int) < x) ∧ y = -1) ∨ ((0 ≤ x ∧ x ≤ ((scF (w 84) (w 85) L : Nat) : Int)) ∧ WSP (pzN w 0 k) (pzP w 0 k) (pzM w 0 k) (fun t => siF w 0 (w 84) (w 85) L t) (scF (w 84) (w 85) L) x.toNat y))) := by
  generalize hQ9 : (fun (r : qV) (_ : qW) (_ : Nat) => ∃ y, r = (0, y) ∧ (((x < 0 ∨ ((scF (w 84) (w 85) L : Nat) : Int) < x) ∧ y = -1) ∨ ((0 ≤ x ∧ x ≤ ((scF (w 84) (w 85) L : Nat) : Int)) ∧ WSP (pzN w 0 k) (pzP w 0 k) (pzM w 0 k) (fun t => siF w 0 (w 84) (w 85) L t) (scF (w 84) (w 85) L) x.toNat y))) = Q9
  obtain ⟨d, rfl⟩ : ∃ d9, d = d9 + 1 := ⟨d - 1, by omega⟩
  refine qG.blk 2 (pc' := 27) (ls' := [(2, 1), (0, 0), (0, ((k9 : Nat) : Int)), (0, ((k : Nat) : Int)), (0, x)]) (st' := [(2, w 1 1)]) (w' := w) (n' := 142) rfl ?_
  rw [show w 1 1 = 3 from zref hI rfl rfl]
  refine qG.blk 1 (pc' := 28) (ls' := [(2, 1), (0, 0), (0, ((k9 : Nat) : Int)), (0, ((k : Nat) : Int)), (0, x)]) (st' := [(0, ((k9 : Nat) : Int)), (2, 3)]) (w' := w) (n' := 142) rfl ?_
  refine qG.ar (P := 0 ≤ ((k9 : Nat) : Int) ∧ ((k9 : Nat) : Int) < ((4 : Nat) : Int)) (P2 := 0 < (3 : Int) ∧ (3 : Int) ≤ ((142 : Nat) : Int)) (pc' := 29) (ls' := [(2, 1), (0, 0), (0, ((k9 : Nat) : Int)), (0, ((k : Nat) : Int)), (0, x)]) (st' := [(2, w 3 k9)]) (w' := w) (n' := 142) rfl (by omega) (by decide) ?_
  rw [show w 3 k9 = 83 from h3]
  refine qG.blk 2 (pc' := 33) (ls' := [(2, 1), (0, 0), (0, ((k9 : Nat) : Int)), (0, ((k : Nat) : Int)), (0, x)]) (st' := [(2, w 1 0), (2, 83)]) (w' := w) (n' := 142) rfl ?_
  rw [show w 1 0 = 2 from zref hI rfl rfl]
  refine qG.blk 1 (pc' := 34) (ls' := [(2, 1), (0, 0), (0, ((k9 : Nat) : Int)), (0, ((k : Nat) : Int)), (0, x)]) (st' := [(0, 0), (2, 2), (2, 83)]) (w' := w) (n' := 142) rfl ?_
  refine qG.ar (P := 0 ≤ 0 ∧ 0 < ((3 : Nat) : Int)) (P2 := 0 < (2 : Int) ∧ (2 : Int) ≤ ((142 : Nat) : Int)) (pc' := 35) (ls' := [(2, 1), (0, 0), (0, ((k9 : Nat) : Int)), (0, ((k : Nat) : Int)), (0, x)]) (st' := [(2, w 2 0), (2, 83)]) (w' := w) (n' := 142) rfl (by omega) (by decide) ?_
  rw [show w 2 0 = 64 from zref hI rfl rfl]
  refine qG.call (t := 111) (na := 2) (sk := 1) (md := 1) (ls1 := [(2, 83), (2, 64), (9, 0)]) (r1 := []) rfl rfl rfl rfl rfl (K_perf83_64 (by omega) L hL w hI hs hKN hK hE) ?_
  rintro _ w1 _ ⟨rfl, rfl, hI1, hC⟩
  have hJ1 := J9.chp (show SHOWP 83 by unfold SHOWP; omega) hJ hC
  obtain ⟨e1, e2, e3, hfr⟩ := hC.row (by unfold SHOWP; omega)
  have hCe := hC.2.2.2.2.2.2.2
  have cv := hC.2.2.2.2.2.2.1
  show qG none (d + 1) 175 38 [(2, 1), (0, 0), (0, ((k9 : Nat) : Int)), (0, ((k : Nat) : Int)), (0, x)] [] w1 142 Q9
  refine qG.blk 2 (pc' := 42) (ls' := [(2, 1), (0, 0), (0, ((k9 : Nat) : Int)), (0, ((k : Nat) : Int)), (0, x)]) (st' := [(2, w1 1 5)]) (w' := w1) (n' := 142) rfl ?_
  rw [show w1 1 5 = 23 from (hfr 1 5 (by omega)).trans (zref hI rfl rfl)]
  refine qG.blk 2 (pc' := 46) (ls' := [(2, 1), (0, 0), (0, ((k9 : Nat) : Int)), (0, ((k : Nat) : Int)), (0, x)]) (st' := [(2, w1 1 0), (2, 23)]) (w' := w1) (n' := 142) rfl ?_
  rw [show w1 1 0 = 2 from (hfr 1 0 (by omega)).trans (zref hI rfl rfl)]
  refine qG.blk 1 (pc' := 47) (ls' := [(2, 1), (0, 0), (0, ((k9 : Nat) : Int)), (0, ((k : Nat) : Int)), (0, x)]) (st' := [(0, 0), (2, 2), (2, 23)]) (w' := w1) (n' := 142) rfl ?_
  refine qG.ar (P := 0 ≤ 0 ∧ 0 < ((3 : Nat) : Int)) (P2 := 0 < (2 : Int) ∧ (2 : Int) ≤ ((142 : Nat) : Int)) (pc' := 48) (ls' := [(2, 1), (0, 0), (0, ((k9 : Nat) : Int)), (0, ((k : Nat) : Int)), (0, x)]) (st' := [(2, w1 2 0), (2, 23)]) (w' := w1) (n' := 142) rfl (by omega) (by decide) ?_
  rw [show w1 2 0 = 64 from (hfr 2 0 (by omega)).trans (zref hI rfl rfl)]
  refine qG.blk 2 (pc' := 52) (ls' := [(2, 1), (0, 0), (0, ((k9 : Nat) : Int)), (0, ((k : Nat) : Int)), (0, x)]) (st' := [(2, w1 1 1), (2, 64), (2, 23)]) (w' := w1) (n' := 142) rfl ?_
  rw [show w1 1 1 = 3 from (hfr 1 1 (by omega)).trans (zref hI rfl rfl)]
  refine qG.blk 1 (pc' := 53) (ls' := [(2, 1), (0, 0), (0, ((k9 : Nat) : Int)), (0, ((k : Nat) : Int)), (0, x)]) (st' := [(0, ((k9 : Nat) : Int)), (2, 3), (2, 64), (2, 23)]) (w' := w1) (n' := 142) rfl ?_
  refine qG.ar (P := 0 ≤ ((k9 : Nat) : Int) ∧ ((k9 : Nat) : Int) < ((4 : Nat) : Int)) (P2 := 0 < (3 : Int) ∧ (3 : Int) ≤ ((142 : Nat) : Int)) (pc' := 54) (ls' := [(2, 1), (0, 0), (0, ((k9 : Nat) : Int)), (0, ((k : Nat) : Int)), (0, x)]) (st' := [(2, w1 3 k9), (2, 64), (2, 23)]) (w' := w1) (n' := 142) rfl (by omega) (by decide) ?_
  rw [show w1 3 k9 = 83 from (hfr 3 k9 (by omega)).trans h3]
  refine qG.blk 2 (pc' := 57) (ls' := [(2, 1), (0, 0), (0, ((k9 : Nat) : Int)), (0, ((k : Nat) : Int)), (0, x)]) (st' := [(0, x), (0, ((k : Nat) : Int)), (2, 83), (2, 64), (2, 23)]) (w' := w1) (n' := 142) rfl ?_
  refine qG.call (t := 38) (na := 5) (sk := 1) (md := 1) (ls1 := [(2, 23), (2, 64), (2, 83), (0, ((k : Nat) : Int)), (0, x), (9, 0), (9, 0)]) (r1 := []) rfl rfl rfl rfl rfl (K_wy64_83 (by omega) k hk1 hk2 x (fun t => siF w 0 (w 84) (w 85) L t) L hL n w1 hI1 hJ1 (e3.trans hs) (by rw [e1, e2]; exact hKW) (by rw [e1, e2]; exact fun g hg u hu => (siF_vw hg hu).trans (cv g hg).symm)) ?_
  rintro _ w2 _ ⟨rfl, y, rfl, h2s⟩
  rw [e1, e2] at h2s
  obtain ⟨z1, z2, z3⟩ := pz_cg (w := w) (w1 := w1) (fun i => hCe 96 i (by decide) (by omega)) (fun i => hCe 99 i (by decide) (by omega)) 0 k
  rw [z1, z2, z3] at h2s
  show qG none (d + 1) 175 60 [(2, 1), (0, 0), (0, ((k9 : Nat) : Int)), (0, ((k : Nat) : Int)), (0, x)] [(0, y)] w2 142 Q9
  refine qG.ret rfl rfl ?_
  subst hQ9
  exact ⟨_, rfl, h2s⟩
theorem K_wy69_83 {d : Nat} (hd : 8 ≤ d) (k : Nat) (hk1 : 1 ≤ k) (hk2 : k ≤ 4) (x : Int) (V : Nat → Int) (L : Nat) (hL : L ≤ 40) (n : Nat) (w : qW) (hI : yInv zgf zga zra zSp w) (hJ : J9 n w) (hs : w 83 2 = (L : Int)) (hKW : KNw (w 84) (w 85) L) (hVV : ∀ g, g < L → ∀ u, u < dN (w 84 g) (w 85 g) → V (scF (w 84) (w 85) g + u) = w 86 g) : qG none d 38 0 [(2, 23), (2, 69), (2, 83), (0, ((k : Nat) : Int)), (0, x), (9, 0), (9, 0)] [] w 142 (fun (r : qV) (_ : qW) (n1 : Nat) => n1 = 142 ∧ ∃ y, r = (0, y) ∧ (((x < 0 ∨ ((scF (w 84) (w 85) L : Nat) : Int) < x) ∧ y = -1) ∨ ((0 ≤ x ∧ x ≤ ((scF (w 84) (w 85) L : Nat) : Int)) ∧ WSP (pzN w 1 k) (pzP w 1 k) (pzM w 1 k) V (scF (w 84) (w 85) L) x.toNat y))) := by
  generalize hQ9 : (fun (r : qV) (_ : qW) (n1 : Nat) => n1 = 142 ∧ ∃ y, r = (0, y) ∧ (((x < 0 ∨ ((scF (w 84) (w 85) L : Nat) : Int) < x) ∧ y = -1) ∨ ((0 ≤ x ∧ x ≤ ((scF (w 84) (w 85) L : Nat) : Int)) ∧ WSP (pzN w 1 k) (pzP w 1 k) (pzM w 1 k) V (scF (w 84) (w 85) L) x.toNat y))) = Q9
  obtain ⟨d, rfl⟩ : ∃ d9, d = d9 + 1 := ⟨d - 1, by omega⟩
  refine qG.blk 1 (pc' := 2) (ls' := [(2, 23), (2, 69), (2, 83), (0, ((k : Nat) : Int)), (0, x), (9, 0), (9, 0)]) (st' := [(0, x)]) (w' := w) (n' := 142) rfl ?_
  refine qG.br (P := x < 0) (pc1 := 14) (pc2 := 5) (st1 := []) rfl (fun hx0 => ?_) (fun hx0 => ?_)
  · skip
    refine qG.blk 1 (pc' := 15) (ls' := [(2, 23), (2, 69), (2, 83), (0, ((k : Nat) : Int)), (0, x), (9, 0), (9, 0)]) (st' := [(0, (-1))]) (w' := w) (n' := 142) rfl ?_
    refine qG.ret rfl rfl ?_
    subst hQ9
    exact ⟨rfl, _, rfl, .inl ⟨by omega, rfl⟩⟩
  · skip
    obtain ⟨n9, rfl⟩ : ∃ n9 : Nat, x = (n9 : Int) := ⟨x.toNat, by omega⟩
    refine qG.blk 2 (pc' := 8) (ls' := [(2, 23), (2, 69), (2, 83), (0, ((k : Nat) : Int)), (0, ((n9 : Nat) : Int)), (9, 0), (9, 0)]) (st' := [(2, 83), (0, ((n9 : Nat) : Int))]) (w' := w) (n' := 142) rfl ?_
    refine qG.call (t := 116) (na := 1) (sk := 1) (md := 1) (ls1 := [(2, 83), (9, 0), (9, 0)]) (r1 := [(0, ((n9 : Nat) : Int))]) rfl rfl rfl rfl rfl (K_allSec83 (by omega) L hL w hI hs hKW) ?_
    rintro _ w7 _ ⟨rfl, hw7, rfl⟩
    rw [hw7]
    show qG none (d + 1) 38 11 [(2, 23), (2, 69), (2, 83), (0, ((k : Nat) : Int)), (0, ((n9 : Nat) : Int)), (9, 0), (9, 0)] [(0, ((scF (w 84) (w 85) L : Nat) : Int)), (0, ((n9 : Nat) : Int))] w 142 Q9
    refine qG.br (P := ((scF (w 84) (w 85) L : Nat) : Int) < ((n9 : Nat) : Int)) (pc1 := 14) (pc2 := 16) (st1 := []) rfl (fun hxs => ?_) (fun hxs => ?_)
    · skip
      refine qG.blk 1 (pc' := 15) (ls' := [(2, 23), (2, 69), (2, 83), (0, ((k : Nat) : Int)), (0, ((n9 : Nat) : Int)), (9, 0), (9, 0)]) (st' := [(0, (-1))]) (w' := w) (n' := 142) rfl ?_
      refine qG.ret rfl rfl ?_
      subst hQ9
      exact ⟨rfl, _, rfl, .inl ⟨by omega, rfl⟩⟩
    · skip
      refine qG.blk 2 (pc' := 20) (ls' := [(2, 23), (2, 69), (2, 83), (0, ((k : Nat) : Int)), (0, ((n9 : Nat) : Int)), (9, 0), (9, 0)]) (st' := [(2, w 23 0)]) (w' := w) (n' := 142) rfl ?_
      rw [show w 23 0 = 24 from zref hI rfl rfl]
      refine qG.blk 2 (pc' := 22) (ls' := [(2, 23), (2, 69), (2, 83), (0, ((k : Nat) : Int)), (0, ((n9 : Nat) : Int)), (9, 0), (9, 0)]) (st' := [(0, ((k : Nat) : Int)), (2, 69), (2, 24)]) (w' := w) (n' := 142) rfl ?_
      refine qG.call (t := 94) (na := 3) (sk := 1) (md := 1) (ls1 := [(2, 24), (2, 69), (0, ((k : Nat) : Int))]) (r1 := []) rfl rfl rfl rfl rfl (qG.and (T_findFor_69 (w0 := w) d [(2, 24), (2, 69), (0, ((k : Nat) : Int))] w (show C_findFor_69.2.1 ≤ d by exact Nat.le_trans (show C_findFor_69.2.1 ≤ 7 by decide) (by omega)) ⟨⟨rfl, by decide, by decide⟩, ⟨rfl, by decide, by decide⟩, ⟨rfl, by show (1 : Int) ≤ _; omega, by show _ ≤ (4 : Int); omega⟩, trivial⟩ hI (fun p hp => by cases hp) (fun e he => by cases he)) (K_findForC69 (by omega) k hk1 hk2 n w hI hJ)) ?_
      rintro _ wF _ ⟨⟨-, hIF, -, -, -⟩, rfl, rfl, hF⟩
      show qG none (d + 1) 38 25 [(2, 23), (2, 69), (2, 83), (0, ((k : Nat) : Int)), (0, ((n9 : Nat) : Int)), (9, 0), (9, 0)] [] wF 142 Q9
      subst hQ9
      obtain ⟨f0, f1, f2, hTX, hfr⟩ := hF
      have eF : ∀ q j, q ≠ 24 → q ≠ 25 → q ≠ 26 → wF q j = w q j := fun q j a b e => hfr q j (fun z => a z.1) b e
      have e1 : wF 84 = w 84 := funext fun j => eF _ j (by decide) (by decide) (by decide)
      have e2 : wF 85 = w 85 := funext fun j => eF _ j (by decide) (by decide) (by decide)
      have e3 : wF 86 = w 86 := funext fun j => eF _ j (by decide) (by decide) (by decide)
      obtain ⟨z1, z2, z3⟩ := pz_cg (w := w) (w1 := wF) (fun i => eF 96 i (by decide) (by decide) (by decide)) (fun i => eF 99 i (by decide) (by decide) (by decide)) 1 k
      refine qG.mono (K_wyB83 (by omega) (pzN w 1 k) (pzP w 1 k) (pzM w 1 k) V (fun i j hi hj => pzM_sym hi hj) L hL wF hIF ((eF 83 2 (by decide) (by decide) (by decide)).trans hs) (by rw [e1, e2]; exact hKW) (by have z := hTX.ctb hk1 hk2; rw [z1, z2, z3] at z; exact z) (by rw [e1, e2, e3]; exact hVV) n9 (by rw [e1, e2]; omega) _ _) ?_
      rintro r w1 n1 ⟨h0, y, h1, h2⟩
      rw [e1, e2] at h2
      exact ⟨h0, y, h1, .inr ⟨⟨by omega, by omega⟩, h2⟩⟩
theorem K_wayB83_69 {d : Nat} (hd : 9 ≤ d) (k9 : Nat) (hk9 : k9 < 4) (k : Nat) (hk1 : 1 ≤ k) (hk2 : k ≤ 4) (x : Int) (L : Nat) (hL : L ≤ 40) (n : Nat) (w : qW) (hI : yInv zgf zga zra zSp w) (hJ : J9 n w) (h3 : w 3 k9 = 83) (hs : w 83 2 = (L : Int)) (hKN : KNr (w 84) (w 85) L) (hKW : KNw (w 84) (w 85) L) (hK : w 69 0 = w 96 1) (hE : JE w) : qG none d 175 23 [(2, 1), (0, 1), (0, ((k9 : Nat) : Int)), (0, ((k : Nat) : Int)), (0, x)] [] w 142 (fun (r : qV) (_ : qW) (_ : Nat) => ∃ y, r = (0, y) ∧ (((x < 0 ∨ ((scF (w 84) (w 85) L : Nat) : Int) < x) ∧ y = -1) ∨ ((0 ≤ x ∧ x ≤ ((scF (w 84) (w 85) L : Nat) : Int)) ∧ WSP (pzN w 1 k) (pzP w 1 k) (pzM w 1 k) (fun t => siF w 1 (w 84) (w 85) L t) (scF (w 84) (w 85) L) x.toNat y))) := by
  generalize hQ9 : (fun (r : qV) (_ : qW) (_ : Nat) => ∃ y, r = (0, y) ∧ (((x < 0 ∨ ((scF (w 84) (w 85) L : Nat) : Int) < x) ∧ y = -1) ∨ ((0 ≤ x ∧ x ≤ ((scF (w 84) (w 85) L : Nat) : Int)) ∧ WSP (pzN w 1 k) (pzP w 1 k) (pzM w 1 k) (fun t => siF w 1 (w 84) (w 85) L t) (scF (w 84) (w 85) L) x.toNat y))) = Q9
  obtain ⟨d, rfl⟩ : ∃ d9, d = d9 + 1 := ⟨d - 1, by omega⟩
  refine qG.blk 2 (pc' := 27) (ls' := [(2, 1), (0, 1), (0, ((k9 : Nat) : Int)), (0, ((k : Nat) : Int)), (0, x)]) (st' := [(2, w 1 1)]) (w' := w) (n' := 142) rfl ?_
  rw [show w 1 1 = 3 from zref hI rfl rfl]
  refine qG.blk 1 (pc' := 28) (ls' := [(2, 1), (0, 1), (0, ((k9 : Nat) : Int)), (0, ((k : Nat) : Int)), (0, x)]) (st' := [(0, ((k9 : Nat) : Int)), (2, 3)]) (w' := w) (n' := 142) rfl ?_
  refine qG.ar (P := 0 ≤ ((k9 : Nat) : Int) ∧ ((k9 : Nat) : Int) < ((4 : Nat) : Int)) (P2 := 0 < (3 : Int) ∧ (3 : Int) ≤ ((142 : Nat) : Int)) (pc' := 29) (ls' := [(2, 1), (0, 1), (0, ((k9 : Nat) : Int)), (0, ((k : Nat) : Int)), (0, x)]) (st' := [(2, w 3 k9)]) (w' := w) (n' := 142) rfl (by omega) (by decide) ?_
  rw [show w 3 k9 = 83 from h3]
  refine qG.blk 2 (pc' := 33) (ls' := [(2, 1), (0, 1), (0, ((k9 : Nat) : Int)), (0, ((k : Nat) : Int)), (0, x)]) (st' := [(2, w 1 0), (2, 83)]) (w' := w) (n' := 142) rfl ?_
  rw [show w 1 0 = 2 from zref hI rfl rfl]
  refine qG.blk 1 (pc' := 34) (ls' := [(2, 1), (0, 1), (0, ((k9 : Nat) : Int)), (0, ((k : Nat) : Int)), (0, x)]) (st' := [(0, 1), (2, 2), (2, 83)]) (w' := w) (n' := 142) rfl ?_
  refine qG.ar (P := 0 ≤ 1 ∧ 1 < ((3 : Nat) : Int)) (P2 := 0 < (2 : Int) ∧ (2 : Int) ≤ ((142 : Nat) : Int)) (pc' := 35) (ls' := [(2, 1), (0, 1), (0, ((k9 : Nat) : Int)), (0, ((k : Nat) : Int)), (0, x)]) (st' := [(2, w 2 1), (2, 83)]) (w' := w) (n' := 142) rfl (by omega) (by decide) ?_
  rw [show w 2 1 = 69 from zref hI rfl rfl]
  refine qG.call (t := 111) (na := 2) (sk := 1) (md := 1) (ls1 := [(2, 83), (2, 69), (9, 0)]) (r1 := []) rfl rfl rfl rfl rfl (K_perf83_69 (by omega) L hL w hI hs hKN hK hE) ?_
  rintro _ w1 _ ⟨rfl, rfl, hI1, hC⟩
  have hJ1 := J9.chp (show SHOWP 83 by unfold SHOWP; omega) hJ hC
  obtain ⟨e1, e2, e3, hfr⟩ := hC.row (by unfold SHOWP; omega)
  have hCe := hC.2.2.2.2.2.2.2
  have cv := hC.2.2.2.2.2.2.1
  show qG none (d + 1) 175 38 [(2, 1), (0, 1), (0, ((k9 : Nat) : Int)), (0, ((k : Nat) : Int)), (0, x)] [] w1 142 Q9
  refine qG.blk 2 (pc' := 42) (ls' := [(2, 1), (0, 1), (0, ((k9 : Nat) : Int)), (0, ((k : Nat) : Int)), (0, x)]) (st' := [(2, w1 1 5)]) (w' := w1) (n' := 142) rfl ?_
  rw [show w1 1 5 = 23 from (hfr 1 5 (by omega)).trans (zref hI rfl rfl)]
  refine qG.blk 2 (pc' := 46) (ls' := [(2, 1), (0, 1), (0, ((k9 : Nat) : Int)), (0, ((k : Nat) : Int)), (0, x)]) (st' := [(2, w1 1 0), (2, 23)]) (w' := w1) (n' := 142) rfl ?_
  rw [show w1 1 0 = 2 from (hfr 1 0 (by omega)).trans (zref hI rfl rfl)]
  refine qG.blk 1 (pc' := 47) (ls' := [(2, 1), (0, 1), (0, ((k9 : Nat) : Int)), (0, ((k : Nat) : Int)), (0, x)]) (st' := [(0, 1), (2, 2), (2, 23)]) (w' := w1) (n' := 142) rfl ?_
  refine qG.ar (P := 0 ≤ 1 ∧ 1 < ((3 : Nat) : Int)) (P2 := 0 < (2 : Int) ∧ (2 : Int) ≤ ((142 : Nat) : Int)) (pc' := 48) (ls' := [(2, 1), (0, 1), (0, ((k9 : Nat) : Int)), (0, ((k : Nat) : Int)), (0, x)]) (st' := [(2, w1 2 1), (2, 23)]) (w' := w1) (n' := 142) rfl (by omega) (by decide) ?_
  rw [show w1 2 1 = 69 from (hfr 2 1 (by omega)).trans (zref hI rfl rfl)]
  refine qG.blk 2 (pc' := 52) (ls' := [(2, 1), (0, 1), (0, ((k9 : Nat) : Int)), (0, ((k : Nat) : Int)), (0, x)]) (st' := [(2, w1 1 1), (2, 69), (2, 23)]) (w' := w1) (n' := 142) rfl ?_
  rw [show w1 1 1 = 3 from (hfr 1 1 (by omega)).trans (zref hI rfl rfl)]
  refine qG.blk 1 (pc' := 53) (ls' := [(2, 1), (0, 1), (0, ((k9 : Nat) : Int)), (0, ((k : Nat) : Int)), (0, x)]) (st' := [(0, ((k9 : Nat) : Int)), (2, 3), (2, 69), (2, 23)]) (w' := w1) (n' := 142) rfl ?_
  refine qG.ar (P := 0 ≤ ((k9 : Nat) : Int) ∧ ((k9 : Nat) : Int) < ((4 : Nat) : Int)) (P2 := 0 < (3 : Int) ∧ (3 : Int) ≤ ((142 : Nat) : Int)) (pc' := 54) (ls' := [(2, 1), (0, 1), (0, ((k9 : Nat) : Int)), (0, ((k : Nat) : Int)), (0, x)]) (st' := [(2, w1 3 k9), (2, 69), (2, 23)]) (w' := w1) (n' := 142) rfl (by omega) (by decide) ?_
  rw [show w1 3 k9 = 83 from (hfr 3 k9 (by omega)).trans h3]
  refine qG.blk 2 (pc' := 57) (ls' := [(2, 1), (0, 1), (0, ((k9 : Nat) : Int)), (0, ((k : Nat) : Int)), (0, x)]) (st' := [(0, x), (0, ((k : Nat) : Int)), (2, 83), (2, 69), (2, 23)]) (w' := w1) (n' := 142) rfl ?_
  refine qG.call (t := 38) (na := 5) (sk := 1) (md := 1) (ls1 := [(2, 23), (2, 69), (2, 83), (0, ((k : Nat) : Int)), (0, x), (9, 0), (9, 0)]) (r1 := []) rfl rfl rfl rfl rfl (K_wy69_83 (by omega) k hk1 hk2 x (fun t => siF w 1 (w 84) (w 85) L t) L hL n w1 hI1 hJ1 (e3.trans hs) (by rw [e1, e2]; exact hKW) (by rw [e1, e2]; exact fun g hg u hu => (siF_vw hg hu).trans (cv g hg).symm)) ?_
  rintro _ w2 _ ⟨rfl, y, rfl, h2s⟩
  rw [e1, e2] at h2s
  obtain ⟨z1, z2, z3⟩ := pz_cg (w := w) (w1 := w1) (fun i => hCe 96 i (by decide) (by omega)) (fun i => hCe 99 i (by decide) (by omega)) 1 k
  rw [z1, z2, z3] at h2s
  show qG none (d + 1) 175 60 [(2, 1), (0, 1), (0, ((k9 : Nat) : Int)), (0, ((k : Nat) : Int)), (0, x)] [(0, y)] w2 142 Q9
  refine qG.ret rfl rfl ?_
  subst hQ9
  exact ⟨_, rfl, h2s⟩
theorem K_wy74_83 {d : Nat} (hd : 8 ≤ d) (k : Nat) (hk1 : 1 ≤ k) (hk2 : k ≤ 4) (x : Int) (V : Nat → Int) (L : Nat) (hL : L ≤ 40) (n : Nat) (w : qW) (hI : yInv zgf zga zra zSp w) (hJ : J9 n w) (hs : w 83 2 = (L : Int)) (hKW : KNw (w 84) (w 85) L) (hVV : ∀ g, g < L → ∀ u, u < dN (w 84 g) (w 85 g) → V (scF (w 84) (w 85) g + u) = w 86 g) : qG none d 38 0 [(2, 23), (2, 74), (2, 83), (0, ((k : Nat) : Int)), (0, x), (9, 0), (9, 0)] [] w 142 (fun (r : qV) (_ : qW) (n1 : Nat) => n1 = 142 ∧ ∃ y, r = (0, y) ∧ (((x < 0 ∨ ((scF (w 84) (w 85) L : Nat) : Int) < x) ∧ y = -1) ∨ ((0 ≤ x ∧ x ≤ ((scF (w 84) (w 85) L : Nat) : Int)) ∧ WSP (pzN w 2 k) (pzP w 2 k) (pzM w 2 k) V (scF (w 84) (w 85) L) x.toNat y))) := by
  generalize hQ9 : (fun (r : qV) (_ : qW) (n1 : Nat) => n1 = 142 ∧ ∃ y, r = (0, y) ∧ (((x < 0 ∨ ((scF (w 84) (w 85) L : Nat) : Int) < x) ∧ y = -1) ∨ ((0 ≤ x ∧ x ≤ ((scF (w 84) (w 85) L : Nat) : Int)) ∧ WSP (pzN w 2 k) (pzP w 2 k) (pzM w 2 k) V (scF (w 84) (w 85) L) x.toNat y))) = Q9
  obtain ⟨d, rfl⟩ : ∃ d9, d = d9 + 1 := ⟨d - 1, by omega⟩
  refine qG.blk 1 (pc' := 2) (ls' := [(2, 23), (2, 74), (2, 83), (0, ((k : Nat) : Int)), (0, x), (9, 0), (9, 0)]) (st' := [(0, x)]) (w' := w) (n' := 142) rfl ?_
  refine qG.br (P := x < 0) (pc1 := 14) (pc2 := 5) (st1 := []) rfl (fun hx0 => ?_) (fun hx0 => ?_)
  · skip
    refine qG.blk 1 (pc' := 15) (ls' := [(2, 23), (2, 74), (2, 83), (0, ((k : Nat) : Int)), (0, x), (9, 0), (9, 0)]) (st' := [(0, (-1))]) (w' := w) (n' := 142) rfl ?_
    refine qG.ret rfl rfl ?_
    subst hQ9
    exact ⟨rfl, _, rfl, .inl ⟨by omega, rfl⟩⟩
  · skip
    obtain ⟨n9, rfl⟩ : ∃ n9 : Nat, x = (n9 : Int) := ⟨x.toNat, by omega⟩
    refine qG.blk 2 (pc' := 8) (ls' := [(2, 23), (2, 74), (2, 83), (0, ((k : Nat) : Int)), (0, ((n9 : Nat) : Int)), (9, 0), (9, 0)]) (st' := [(2, 83), (0, ((n9 : Nat) : Int))]) (w' := w) (n' := 142) rfl ?_
    refine qG.call (t := 116) (na := 1) (sk := 1) (md := 1) (ls1 := [(2, 83), (9, 0), (9, 0)]) (r1 := [(0, ((n9 : Nat) : Int))]) rfl rfl rfl rfl rfl (K_allSec83 (by omega) L hL w hI hs hKW) ?_
    rintro _ w7 _ ⟨rfl, hw7, rfl⟩
    rw [hw7]
    show qG none (d + 1) 38 11 [(2, 23), (2, 74), (2, 83), (0, ((k : Nat) : Int)), (0, ((n9 : Nat) : Int)), (9, 0), (9, 0)] [(0, ((scF (w 84) (w 85) L : Nat) : Int)), (0, ((n9 : Nat) : Int))] w 142 Q9
    refine qG.br (P := ((scF (w 84) (w 85) L : Nat) : Int) < ((n9 : Nat) : Int)) (pc1 := 14) (pc2 := 16) (st1 := []) rfl (fun hxs => ?_) (fun hxs => ?_)
    · skip
      refine qG.blk 1 (pc' := 15) (ls' := [(2, 23), (2, 74), (2, 83), (0, ((k : Nat) : Int)), (0, ((n9 : Nat) : Int)), (9, 0), (9, 0)]) (st' := [(0, (-1))]) (w' := w) (n' := 142) rfl ?_
      refine qG.ret rfl rfl ?_
      subst hQ9
      exact ⟨rfl, _, rfl, .inl ⟨by omega, rfl⟩⟩
    · skip
      refine qG.blk 2 (pc' := 20) (ls' := [(2, 23), (2, 74), (2, 83), (0, ((k : Nat) : Int)), (0, ((n9 : Nat) : Int)), (9, 0), (9, 0)]) (st' := [(2, w 23 0)]) (w' := w) (n' := 142) rfl ?_
      rw [show w 23 0 = 24 from zref hI rfl rfl]
      refine qG.blk 2 (pc' := 22) (ls' := [(2, 23), (2, 74), (2, 83), (0, ((k : Nat) : Int)), (0, ((n9 : Nat) : Int)), (9, 0), (9, 0)]) (st' := [(0, ((k : Nat) : Int)), (2, 74), (2, 24)]) (w' := w) (n' := 142) rfl ?_
      refine qG.call (t := 94) (na := 3) (sk := 1) (md := 1) (ls1 := [(2, 24), (2, 74), (0, ((k : Nat) : Int))]) (r1 := []) rfl rfl rfl rfl rfl (qG.and (T_findFor_74 (w0 := w) d [(2, 24), (2, 74), (0, ((k : Nat) : Int))] w (show C_findFor_74.2.1 ≤ d by exact Nat.le_trans (show C_findFor_74.2.1 ≤ 7 by decide) (by omega)) ⟨⟨rfl, by decide, by decide⟩, ⟨rfl, by decide, by decide⟩, ⟨rfl, by show (1 : Int) ≤ _; omega, by show _ ≤ (4 : Int); omega⟩, trivial⟩ hI (fun p hp => by cases hp) (fun e he => by cases he)) (K_findForC74 (by omega) k hk1 hk2 n w hI hJ)) ?_
      rintro _ wF _ ⟨⟨-, hIF, -, -, -⟩, rfl, rfl, hF⟩
      show qG none (d + 1) 38 25 [(2, 23), (2, 74), (2, 83), (0, ((k : Nat) : Int)), (0, ((n9 : Nat) : Int)), (9, 0), (9, 0)] [] wF 142 Q9
      subst hQ9
      obtain ⟨f0, f1, f2, hTX, hfr⟩ := hF
      have eF : ∀ q j, q ≠ 24 → q ≠ 25 → q ≠ 26 → wF q j = w q j := fun q j a b e => hfr q j (fun z => a z.1) b e
      have e1 : wF 84 = w 84 := funext fun j => eF _ j (by decide) (by decide) (by decide)
      have e2 : wF 85 = w 85 := funext fun j => eF _ j (by decide) (by decide) (by decide)
      have e3 : wF 86 = w 86 := funext fun j => eF _ j (by decide) (by decide) (by decide)
      obtain ⟨z1, z2, z3⟩ := pz_cg (w := w) (w1 := wF) (fun i => eF 96 i (by decide) (by decide) (by decide)) (fun i => eF 99 i (by decide) (by decide) (by decide)) 2 k
      refine qG.mono (K_wyB83 (by omega) (pzN w 2 k) (pzP w 2 k) (pzM w 2 k) V (fun i j hi hj => pzM_sym hi hj) L hL wF hIF ((eF 83 2 (by decide) (by decide) (by decide)).trans hs) (by rw [e1, e2]; exact hKW) (by have z := hTX.ctb hk1 hk2; rw [z1, z2, z3] at z; exact z) (by rw [e1, e2, e3]; exact hVV) n9 (by rw [e1, e2]; omega) _ _) ?_
      rintro r w1 n1 ⟨h0, y, h1, h2⟩
      rw [e1, e2] at h2
      exact ⟨h0, y, h1, .inr ⟨⟨by omega, by omega⟩, h2⟩⟩
theorem K_wayB83_74 {d : Nat} (hd : 9 ≤ d) (k9 : Nat) (hk9 : k9 < 4) (k : Nat) (hk1 : 1 ≤ k) (hk2 : k ≤ 4) (x : Int) (L : Nat) (hL : L ≤ 40) (n : Nat) (w : qW) (hI : yInv zgf zga zra zSp w) (hJ : J9 n w) (h3 : w 3 k9 = 83) (hs : w 83 2 = (L : Int)) (hKN : KNr (w 84) (w 85) L) (hKW : KNw (w 84) (w 85) L) (hK : w 74 0 = w 96 2) (hE : JE w) : qG none d 175 23 [(2, 1), (0, 2), (0, ((k9 : Nat) : Int)), (0, ((k : Nat) : Int)), (0, x)] [] w 142 (fun (r : qV) (_ : qW) (_ : Nat) => ∃ y, r = (0, y) ∧ (((x < 0 ∨ ((scF (w 84) (w 85) L : Nat) : Int) < x) ∧ y = -1) ∨ ((0 ≤ x ∧ x ≤ ((scF (w 84) (w 85) L : Nat) : Int)) ∧ WSP (pzN w 2 k) (pzP w 2 k) (pzM w 2 k) (fun t => siF w 2 (w 84) (w 85) L t) (scF (w 84) (w 85) L) x.toNat y))) := by
  generalize hQ9 : (fun (r : qV) (_ : qW) (_ : Nat) => ∃ y, r = (0, y) ∧ (((x < 0 ∨ ((scF (w 84) (w 85) L : Nat) : Int) < x) ∧ y = -1) ∨ ((0 ≤ x ∧ x ≤ ((scF (w 84) (w 85) L : Nat) : Int)) ∧ WSP (pzN w 2 k) (pzP w 2 k) (pzM w 2 k) (fun t => siF w 2 (w 84) (w 85) L t) (scF (w 84) (w 85) L) x.toNat y))) = Q9
  obtain ⟨d, rfl⟩ : ∃ d9, d = d9 + 1 := ⟨d - 1, by omega⟩
  refine qG.blk 2 (pc' := 27) (ls' := [(2, 1), (0, 2), (0, ((k9 : Nat) : Int)), (0, ((k : Nat) : Int)), (0, x)]) (st' := [(2, w 1 1)]) (w' := w) (n' := 142) rfl ?_
  rw [show w 1 1 = 3 from zref hI rfl rfl]
  refine qG.blk 1 (pc' := 28) (ls' := [(2, 1), (0, 2), (0, ((k9 : Nat) : Int)), (0, ((k : Nat) : Int)), (0, x)]) (st' := [(0, ((k9 : Nat) : Int)), (2, 3)]) (w' := w) (n' := 142) rfl ?_
  refine qG.ar (P := 0 ≤ ((k9 : Nat) : Int) ∧ ((k9 : Nat) : Int) < ((4 : Nat) : Int)) (P2 := 0 < (3 : Int) ∧ (3 : Int) ≤ ((142 : Nat) : Int)) (pc' := 29) (ls' := [(2, 1), (0, 2), (0, ((k9 : Nat) : Int)), (0, ((k : Nat) : Int)), (0, x)]) (st' := [(2, w 3 k9)]) (w' := w) (n' := 142) rfl (by omega) (by decide) ?_
  rw [show w 3 k9 = 83 from h3]
  refine qG.blk 2 (pc' := 33) (ls' := [(2, 1), (0, 2), (0, ((k9 : Nat) : Int)), (0, ((k : Nat) : Int)), (0, x)]) (st' := [(2, w 1 0), (2, 83)]) (w' := w) (n' := 142) rfl ?_
  rw [show w 1 0 = 2 from zref hI rfl rfl]
  refine qG.blk 1 (pc' := 34) (ls' := [(2, 1), (0, 2), (0, ((k9 : Nat) : Int)), (0, ((k : Nat) : Int)), (0, x)]) (st' := [(0, 2), (2, 2), (2, 83)]) (w' := w) (n' := 142) rfl ?_
  refine qG.ar (P := 0 ≤ 2 ∧ 2 < ((3 : Nat) : Int)) (P2 := 0 < (2 : Int) ∧ (2 : Int) ≤ ((142 : Nat) : Int)) (pc' := 35) (ls' := [(2, 1), (0, 2), (0, ((k9 : Nat) : Int)), (0, ((k : Nat) : Int)), (0, x)]) (st' := [(2, w 2 2), (2, 83)]) (w' := w) (n' := 142) rfl (by omega) (by decide) ?_
  rw [show w 2 2 = 74 from zref hI rfl rfl]
  refine qG.call (t := 111) (na := 2) (sk := 1) (md := 1) (ls1 := [(2, 83), (2, 74), (9, 0)]) (r1 := []) rfl rfl rfl rfl rfl (K_perf83_74 (by omega) L hL w hI hs hKN hK hE) ?_
  rintro _ w1 _ ⟨rfl, rfl, hI1, hC⟩
  have hJ1 := J9.chp (show SHOWP 83 by unfold SHOWP; omega) hJ hC
  obtain ⟨e1, e2, e3, hfr⟩ := hC.row (by unfold SHOWP; omega)
  have hCe := hC.2.2.2.2.2.2.2
  have cv := hC.2.2.2.2.2.2.1
  show qG none (d + 1) 175 38 [(2, 1), (0, 2), (0, ((k9 : Nat) : Int)), (0, ((k : Nat) : Int)), (0, x)] [] w1 142 Q9
  refine qG.blk 2 (pc' := 42) (ls' := [(2, 1), (0, 2), (0, ((k9 : Nat) : Int)), (0, ((k : Nat) : Int)), (0, x)]) (st' := [(2, w1 1 5)]) (w' := w1) (n' := 142) rfl ?_
  rw [show w1 1 5 = 23 from (hfr 1 5 (by omega)).trans (zref hI rfl rfl)]
  refine qG.blk 2 (pc' := 46) (ls' := [(2, 1), (0, 2), (0, ((k9 : Nat) : Int)), (0, ((k : Nat) : Int)), (0, x)]) (st' := [(2, w1 1 0), (2, 23)]) (w' := w1) (n' := 142) rfl ?_
  rw [show w1 1 0 = 2 from (hfr 1 0 (by omega)).trans (zref hI rfl rfl)]
  refine qG.blk 1 (pc' := 47) (ls' := [(2, 1), (0, 2), (0, ((k9 : Nat) : Int)), (0, ((k : Nat) : Int)), (0, x)]) (st' := [(0, 2), (2, 2), (2, 23)]) (w' := w1) (n' := 142) rfl ?_
  refine qG.ar (P := 0 ≤ 2 ∧ 2 < ((3 : Nat) : Int)) (P2 := 0 < (2 : Int) ∧ (2 : Int) ≤ ((142 : Nat) : Int)) (pc' := 48) (ls' := [(2, 1), (0, 2), (0, ((k9 : Nat) : Int)), (0, ((k : Nat) : Int)), (0, x)]) (st' := [(2, w1 2 2), (2, 23)]) (w' := w1) (n' := 142) rfl (by omega) (by decide) ?_
  rw [show w1 2 2 = 74 from (hfr 2 2 (by omega)).trans (zref hI rfl rfl)]
  refine qG.blk 2 (pc' := 52) (ls' := [(2, 1), (0, 2), (0, ((k9 : Nat) : Int)), (0, ((k : Nat) : Int)), (0, x)]) (st' := [(2, w1 1 1), (2, 74), (2, 23)]) (w' := w1) (n' := 142) rfl ?_
  rw [show w1 1 1 = 3 from (hfr 1 1 (by omega)).trans (zref hI rfl rfl)]
  refine qG.blk 1 (pc' := 53) (ls' := [(2, 1), (0, 2), (0, ((k9 : Nat) : Int)), (0, ((k : Nat) : Int)), (0, x)]) (st' := [(0, ((k9 : Nat) : Int)), (2, 3), (2, 74), (2, 23)]) (w' := w1) (n' := 142) rfl ?_
  refine qG.ar (P := 0 ≤ ((k9 : Nat) : Int) ∧ ((k9 : Nat) : Int) < ((4 : Nat) : Int)) (P2 := 0 < (3 : Int) ∧ (3 : Int) ≤ ((142 : Nat) : Int)) (pc' := 54) (ls' := [(2, 1), (0, 2), (0, ((k9 : Nat) : Int)), (0, ((k : Nat) : Int)), (0, x)]) (st' := [(2, w1 3 k9), (2, 74), (2, 23)]) (w' := w1) (n' := 142) rfl (by omega) (by decide) ?_
  rw [show w1 3 k9 = 83 from (hfr 3 k9 (by omega)).trans h3]
  refine qG.blk 2 (pc' := 57) (ls' := [(2, 1), (0, 2), (0, ((k9 : Nat) : Int)), (0, ((k : Nat) : Int)), (0, x)]) (st' := [(0, x), (0, ((k : Nat) : Int)), (2, 83), (2, 74), (2, 23)]) (w' := w1) (n' := 142) rfl ?_
  refine qG.call (t := 38) (na := 5) (sk := 1) (md := 1) (ls1 := [(2, 23), (2, 74), (2, 83), (0, ((k : Nat) : Int)), (0, x), (9, 0), (9, 0)]) (r1 := []) rfl rfl rfl rfl rfl (K_wy74_83 (by omega) k hk1 hk2 x (fun t => siF w 2 (w 84) (w 85) L t) L hL n w1 hI1 hJ1 (e3.trans hs) (by rw [e1, e2]; exact hKW) (by rw [e1, e2]; exact fun g hg u hu => (siF_vw hg hu).trans (cv g hg).symm)) ?_
  rintro _ w2 _ ⟨rfl, y, rfl, h2s⟩
  rw [e1, e2] at h2s
  obtain ⟨z1, z2, z3⟩ := pz_cg (w := w) (w1 := w1) (fun i => hCe 96 i (by decide) (by omega)) (fun i => hCe 99 i (by decide) (by omega)) 2 k
  rw [z1, z2, z3] at h2s
  show qG none (d + 1) 175 60 [(2, 1), (0, 2), (0, ((k9 : Nat) : Int)), (0, ((k : Nat) : Int)), (0, x)] [(0, y)] w2 142 Q9
  refine qG.ret rfl rfl ?_
  subst hQ9
  exact ⟨_, rfl, h2s⟩
theorem K_wy64_87 {d : Nat} (hd : 8 ≤ d) (k : Nat) (hk1 : 1 ≤ k) (hk2 : k ≤ 4) (x : Int) (V : Nat → Int) (L : Nat) (hL : L ≤ 40) (n : Nat) (w : qW) (hI : yInv zgf zga zra zSp w) (hJ : J9 n w) (hs : w 87 2 = (L : Int)) (hKW : KNw (w 88) (w 89) L) (hVV : ∀ g, g < L → ∀ u, u < dN (w 88 g) (w 89 g) → V (scF (w 88) (w 89) g + u) = w 90 g) : qG none d 38 0 [(2, 23), (2, 64), (2, 87), (0, ((k : Nat) : Int)), (0, x), (9, 0), (9, 0)] [] w 142 (fun (r : qV) (_ : qW) (n1 : Nat) => n1 = 142 ∧ ∃ y, r = (0, y) ∧ (((x < 0 ∨ ((scF (w 88) (w 89) L : Nat) : Int) < x) ∧ y = -1) ∨ ((0 ≤ x ∧ x ≤ ((scF (w 88) (w 89) L : Nat) : Int)) ∧ WSP (pzN w 0 k) (pzP w 0 k) (pzM w 0 k) V (scF (w 88) (w 89) L) x.toNat y))) := by
  generalize hQ9 : (fun (r : qV) (_ : qW) (n1 : Nat) => n1 = 142 ∧ ∃ y, r = (0, y) ∧ (((x < 0 ∨ ((scF (w 88) (w 89) L : Nat) : Int) < x) ∧ y = -1) ∨ ((0 ≤ x ∧ x ≤ ((scF (w 88) (w 89) L : Nat) : Int)) ∧ WSP (pzN w 0 k) (pzP w 0 k) (pzM w 0 k) V (scF (w 88) (w 89) L) x.toNat y))) = Q9
  obtain ⟨d, rfl⟩ : ∃ d9, d = d9 + 1 := ⟨d - 1, by omega⟩
  refine qG.blk 1 (pc' := 2) (ls' := [(2, 23), (2, 64), (2, 87), (0, ((k : Nat) : Int)), (0, x), (9, 0), (9, 0)]) (st' := [(0, x)]) (w' := w) (n' := 142) rfl ?_
  refine qG.br (P := x < 0) (pc1 := 14) (pc2 := 5) (st1 := []) rfl (fun hx0 => ?_) (fun hx0 => ?_)
  · skip
    refine qG.blk 1 (pc' := 15) (ls' := [(2, 23), (2, 64), (2, 87), (0, ((k : Nat) : Int)), (0, x), (9, 0), (9, 0)]) (st' := [(0, (-1))]) (w' := w) (n' := 142) rfl ?_
    refine qG.ret rfl rfl ?_
    subst hQ9
    exact ⟨rfl, _, rfl, .inl ⟨by omega, rfl⟩⟩
  · skip
    obtain ⟨n9, rfl⟩ : ∃ n9 : Nat, x = (n9 : Int) := ⟨x.toNat, by omega⟩
    refine qG.blk 2 (pc' := 8) (ls' := [(2, 23), (2, 64), (2, 87), (0, ((k : Nat) : Int)), (0, ((n9 : Nat) : Int)), (9, 0), (9, 0)]) (st' := [(2, 87), (0, ((n9 : Nat) : Int))]) (w' := w) (n' := 142) rfl ?_
    refine qG.call (t := 116) (na := 1) (sk := 1) (md := 1) (ls1 := [(2, 87), (9, 0), (9, 0)]) (r1 := [(0, ((n9 : Nat) : Int))]) rfl rfl rfl rfl rfl (K_allSec87 (by omega) L hL w hI hs hKW) ?_
    rintro _ w7 _ ⟨rfl, hw7, rfl⟩
    rw [hw7]
    show qG none (d + 1) 38 11 [(2, 23), (2, 64), (2, 87), (0, ((k : Nat) : Int)), (0, ((n9 : Nat) : Int)), (9, 0), (9, 0)] [(0, ((scF (w 88) (w 89) L : Nat) : Int)), (0, ((n9 : Nat) : Int))] w 142 Q9
    refine qG.br (P := ((scF (w 88) (w 89) L : Nat) : Int) < ((n9 : Nat) : Int)) (pc1 := 14) (pc2 := 16) (st1 := []) rfl (fun hxs => ?_) (fun hxs => ?_)
    · skip
      refine qG.blk 1 (pc' := 15) (ls' := [(2, 23), (2, 64), (2, 87), (0, ((k : Nat) : Int)), (0, ((n9 : Nat) : Int)), (9, 0), (9, 0)]) (st' := [(0, (-1))]) (w' := w) (n' := 142) rfl ?_
      refine qG.ret rfl rfl ?_
      subst hQ9
      exact ⟨rfl, _, rfl, .inl ⟨by omega, rfl⟩⟩
    · skip
      refine qG.blk 2 (pc' := 20) (ls' := [(2, 23), (2, 64), (2, 87), (0, ((k : Nat) : Int)), (0, ((n9 : Nat) : Int)), (9, 0), (9, 0)]) (st' := [(2, w 23 0)]) (w' := w) (n' := 142) rfl ?_
      rw [show w 23 0 = 24 from zref hI rfl rfl]
      refine qG.blk 2 (pc' := 22) (ls' := [(2, 23), (2, 64), (2, 87), (0, ((k : Nat) : Int)), (0, ((n9 : Nat) : Int)), (9, 0), (9, 0)]) (st' := [(0, ((k : Nat) : Int)), (2, 64), (2, 24)]) (w' := w) (n' := 142) rfl ?_
      refine qG.call (t := 94) (na := 3) (sk := 1) (md := 1) (ls1 := [(2, 24), (2, 64), (0, ((k : Nat) : Int))]) (r1 := []) rfl rfl rfl rfl rfl (qG.and (T_findFor_64 (w0 := w) d [(2, 24), (2, 64), (0, ((k : Nat) : Int))] w (show C_findFor_64.2.1 ≤ d by exact Nat.le_trans (show C_findFor_64.2.1 ≤ 7 by decide) (by omega)) ⟨⟨rfl, by decide, by decide⟩, ⟨rfl, by decide, by decide⟩, ⟨rfl, by show (1 : Int) ≤ _; omega, by show _ ≤ (4 : Int); omega⟩, trivial⟩ hI (fun p hp => by cases hp) (fun e he => by cases he)) (K_findForC64 (by omega) k hk1 hk2 n w hI hJ)) ?_
      rintro _ wF _ ⟨⟨-, hIF, -, -, -⟩, rfl, rfl, hF⟩
      show qG none (d + 1) 38 25 [(2, 23), (2, 64), (2, 87), (0, ((k : Nat) : Int)), (0, ((n9 : Nat) : Int)), (9, 0), (9, 0)] [] wF 142 Q9
      subst hQ9
      obtain ⟨f0, f1, f2, hTX, hfr⟩ := hF
      have eF : ∀ q j, q ≠ 24 → q ≠ 25 → q ≠ 26 → wF q j = w q j := fun q j a b e => hfr q j (fun z => a z.1) b e
      have e1 : wF 88 = w 88 := funext fun j => eF _ j (by decide) (by decide) (by decide)
      have e2 : wF 89 = w 89 := funext fun j => eF _ j (by decide) (by decide) (by decide)
      have e3 : wF 90 = w 90 := funext fun j => eF _ j (by decide) (by decide) (by decide)
      obtain ⟨z1, z2, z3⟩ := pz_cg (w := w) (w1 := wF) (fun i => eF 96 i (by decide) (by decide) (by decide)) (fun i => eF 99 i (by decide) (by decide) (by decide)) 0 k
      refine qG.mono (K_wyB87 (by omega) (pzN w 0 k) (pzP w 0 k) (pzM w 0 k) V (fun i j hi hj => pzM_sym hi hj) L hL wF hIF ((eF 87 2 (by decide) (by decide) (by decide)).trans hs) (by rw [e1, e2]; exact hKW) (by have z := hTX.ctb hk1 hk2; rw [z1, z2, z3] at z; exact z) (by rw [e1, e2, e3]; exact hVV) n9 (by rw [e1, e2]; omega) _ _) ?_
      rintro r w1 n1 ⟨h0, y, h1, h2⟩
      rw [e1, e2] at h2
      exact ⟨h0, y, h1, .inr ⟨⟨by omega, by omega⟩, h2⟩⟩
theorem K_wayB87_64 {d : Nat} (hd : 9 ≤ d) (k9 : Nat) (hk9 : k9 < 4) (k : Nat) (hk1 : 1 ≤ k) (hk2 : k ≤ 4) (x : Int) (L : Nat) (hL : L ≤ 40) (n : Nat) (w : qW) (hI : yInv zgf zga zra zSp w) (hJ : J9 n w) (h3 : w 3 k9 = 87) (hs : w 87 2 = (L : Int)) (hKN : KNr (w 88) (w 89) L) (hKW : KNw (w 88) (w 89) L) (hK : w 64 0 = w 96 0) (hE : JE w) : qG none d 175 23 [(2, 1), (0, 0), (0, ((k9 : Nat) : Int)), (0, ((k : Nat) : Int)), (0, x)] [] w 142 (fun (r : qV) (_ : qW) (_ : Nat) => ∃ y, r = (0, y) ∧ (((x < 0 ∨ ((scF (w 88) (w 89) L : Nat) : Int) < x) ∧ y = -1) ∨ ((0 ≤ x ∧ x ≤ ((scF (w 88) (w 89) L : Nat) : Int)) ∧ WSP (pzN w 0 k) (pzP w 0 k) (pzM w 0 k) (fun t => siF w 0 (w 88) (w 89) L t) (scF (w 88) (w 89) L) x.toNat y))) := by
  generalize hQ9 : (fun (r : qV) (_ : qW) (_ : Nat) => ∃ y, r = (0, y) ∧ (((x < 0 ∨ ((scF (w 88) (w 89) L : Nat) : Int) < x) ∧ y = -1) ∨ ((0 ≤ x ∧ x ≤ ((scF (w 88) (w 89) L : Nat) : Int)) ∧ WSP (pzN w 0 k) (pzP w 0 k) (pzM w 0 k) (fun t => siF w 0 (w 88) (w 89) L t) (scF (w 88) (w 89) L) x.toNat y))) = Q9
  obtain ⟨d, rfl⟩ : ∃ d9, d = d9 + 1 := ⟨d - 1, by omega⟩
  refine qG.blk 2 (pc' := 27) (ls' := [(2, 1), (0, 0), (0, ((k9 : Nat) : Int)), (0, ((k : Nat) : Int)), (0, x)]) (st' := [(2, w 1 1)]) (w' := w) (n' := 142) rfl ?_
  rw [show w 1 1 = 3 from zref hI rfl rfl]
  refine qG.blk 1 (pc' := 28) (ls' := [(2, 1), (0, 0), (0, ((k9 : Nat) : Int)), (0, ((k : Nat) : Int)), (0, x)]) (st' := [(0, ((k9 : Nat) : Int)), (2, 3)]) (w' := w) (n' := 142) rfl ?_
  refine qG.ar (P := 0 ≤ ((k9 : Nat) : Int) ∧ ((k9 : Nat) : Int) < ((4 : Nat) : Int)) (P2 := 0 < (3 : Int) ∧ (3 : Int) ≤ ((142 : Nat) : Int)) (pc' := 29) (ls' := [(2, 1), (0, 0), (0, ((k9 : Nat) : Int)), (0, ((k : Nat) : Int)), (0, x)]) (st' := [(2, w 3 k9)]) (w' := w) (n' := 142) rfl (by omega) (by decide) ?_
  rw [show w 3 k9 = 87 from h3]
  refine qG.blk 2 (pc' := 33) (ls' := [(2, 1), (0, 0), (0, ((k9 : Nat) : Int)), (0, ((k : Nat) : Int)), (0, x)]) (st' := [(2, w 1 0), (2, 87)]) (w' := w) (n' := 142) rfl ?_
  rw [show w 1 0 = 2 from zref hI rfl rfl]
  refine qG.blk 1 (pc' := 34) (ls' := [(2, 1), (0, 0), (0, ((k9 : Nat) : Int)), (0, ((k : Nat) : Int)), (0, x)]) (st' := [(0, 0), (2, 2), (2, 87)]) (w' := w) (n' := 142) rfl ?_
  refine qG.ar (P := 0 ≤ 0 ∧ 0 < ((3 : Nat) : Int)) (P2 := 0 < (2 : Int) ∧ (2 : Int) ≤ ((142 : Nat) : Int)) (pc' := 35) (ls' := [(2, 1), (0, 0), (0, ((k9 : Nat) : Int)), (0, ((k : Nat) : Int)), (0, x)]) (st' := [(2, w 2 0), (2, 87)]) (w' := w) (n' := 142) rfl (by omega) (by decide) ?_
  rw [show w 2 0 = 64 from zref hI rfl rfl]
  refine qG.call (t := 111) (na := 2) (sk := 1) (md := 1) (ls1 := [(2, 87), (2, 64), (9, 0)]) (r1 := []) rfl rfl rfl rfl rfl (K_perf87_64 (by omega) L hL w hI hs hKN hK hE) ?_
  rintro _ w1 _ ⟨rfl, rfl, hI1, hC⟩
  have hJ1 := J9.chp (show SHOWP 87 by unfold SHOWP; omega) hJ hC
  obtain ⟨e1, e2, e3, hfr⟩ := hC.row (by unfold SHOWP; omega)
  have hCe := hC.2.2.2.2.2.2.2
  have cv := hC.2.2.2.2.2.2.1
  show qG none (d + 1) 175 38 [(2, 1), (0, 0), (0, ((k9 : Nat) : Int)), (0, ((k : Nat) : Int)), (0, x)] [] w1 142 Q9
  refine qG.blk 2 (pc' := 42) (ls' := [(2, 1), (0, 0), (0, ((k9 : Nat) : Int)), (0, ((k : Nat) : Int)), (0, x)]) (st' := [(2, w1 1 5)]) (w' := w1) (n' := 142) rfl ?_
  rw [show w1 1 5 = 23 from (hfr 1 5 (by omega)).trans (zref hI rfl rfl)]
  refine qG.blk 2 (pc' := 46) (ls' := [(2, 1), (0, 0), (0, ((k9 : Nat) : Int)), (0, ((k : Nat) : Int)), (0, x)]) (st' := [(2, w1 1 0), (2, 23)]) (w' := w1) (n' := 142) rfl ?_
  rw [show w1 1 0 = 2 from (hfr 1 0 (by omega)).trans (zref hI rfl rfl)]
  refine qG.blk 1 (pc' := 47) (ls' := [(2, 1), (0, 0), (0, ((k9 : Nat) : Int)), (0, ((k : Nat) : Int)), (0, x)]) (st' := [(0, 0), (2, 2), (2, 23)]) (w' := w1) (n' := 142) rfl ?_
  refine qG.ar (P := 0 ≤ 0 ∧ 0 < ((3 : Nat) : Int)) (P2 := 0 < (2 : Int) ∧ (2 : Int) ≤ ((142 : Nat) : Int)) (pc' := 48) (ls' := [(2, 1), (0, 0), (0, ((k9 : Nat) : Int)), (0, ((k : Nat) : Int)), (0, x)]) (st' := [(2, w1 2 0), (2, 23)]) (w' := w1) (n' := 142) rfl (by omega) (by decide) ?_
  rw [show w1 2 0 = 64 from (hfr 2 0 (by omega)).trans (zref hI rfl rfl)]
  refine qG.blk 2 (pc' := 52) (ls' := [(2, 1), (0, 0), (0, ((k9 : Nat) : Int)), (0, ((k : Nat) : Int)), (0, x)]) (st' := [(2, w1 1 1), (2, 64), (2, 23)]) (w' := w1) (n' := 142) rfl ?_
  rw [show w1 1 1 = 3 from (hfr 1 1 (by omega)).trans (zref hI rfl rfl)]
  refine qG.blk 1 (pc' := 53) (ls' := [(2, 1), (0, 0), (0, ((k9 : Nat) : Int)), (0, ((k : Nat) : Int)), (0, x)]) (st' := [(0, ((k9 : Nat) : Int)), (2, 3), (2, 64), (2, 23)]) (w' := w1) (n' := 142) rfl ?_
  refine qG.ar (P := 0 ≤ ((k9 : Nat) : Int) ∧ ((k9 : Nat) : Int) < ((4 : Nat) : Int)) (P2 := 0 < (3 : Int) ∧ (3 : Int) ≤ ((142 : Nat) : Int)) (pc' := 54) (ls' := [(2, 1), (0, 0), (0, ((k9 : Nat) : Int)), (0, ((k : Nat) : Int)), (0, x)]) (st' := [(2, w1 3 k9), (2, 64), (2, 23)]) (w' := w1) (n' := 142) rfl (by omega) (by decide) ?_
  rw [show w1 3 k9 = 87 from (hfr 3 k9 (by omega)).trans h3]
  refine qG.blk 2 (pc' := 57) (ls' := [(2, 1), (0, 0), (0, ((k9 : Nat) : Int)), (0, ((k : Nat) : Int)), (0, x)]) (st' := [(0, x), (0, ((k : Nat) : Int)), (2, 87), (2, 64), (2, 23)]) (w' := w1) (n' := 142) rfl ?_
  refine qG.call (t := 38) (na := 5) (sk := 1) (md := 1) (ls1 := [(2, 23), (2, 64), (2, 87), (0, ((k : Nat) : Int)), (0, x), (9, 0), (9, 0)]) (r1 := []) rfl rfl rfl rfl rfl (K_wy64_87 (by omega) k hk1 hk2 x (fun t => siF w 0 (w 88) (w 89) L t) L hL n w1 hI1 hJ1 (e3.trans hs) (by rw [e1, e2]; exact hKW) (by rw [e1, e2]; exact fun g hg u hu => (siF_vw hg hu).trans (cv g hg).symm)) ?_
  rintro _ w2 _ ⟨rfl, y, rfl, h2s⟩
  rw [e1, e2] at h2s
  obtain ⟨z1, z2, z3⟩ := pz_cg (w := w) (w1 := w1) (fun i => hCe 96 i (by decide) (by omega)) (fun i => hCe 99 i (by decide) (by omega)) 0 k
  rw [z1, z2, z3] at h2s
  show qG none (d + 1) 175 60 [(2, 1), (0, 0), (0, ((k9 : Nat) : Int)), (0, ((k : Nat) : Int)), (0, x)] [(0, y)] w2 142 Q9
  refine qG.ret rfl rfl ?_
  subst hQ9
  exact ⟨_, rfl, h2s⟩
theorem K_wy69_87 {d : Nat} (hd : 8 ≤ d) (k : Nat) (hk1 : 1 ≤ k) (hk2 : k ≤ 4) (x : Int) (V : Nat → Int) (L : Nat) (hL : L ≤ 40) (n : Nat) (w : qW) (hI : yInv zgf zga zra zSp w) (hJ : J9 n w) (hs : w 87 2 = (L : Int)) (hKW : KNw (w 88) (w 89) L) (hVV : ∀ g, g < L → ∀ u, u < dN (w 88 g) (w 89 g) → V (scF (w 88) (w 89) g + u) = w 90 g) : qG none d 38 0 [(2, 23), (2, 69), (2, 87), (0, ((k : Nat) : Int)), (0, x), (9, 0), (9, 0)] [] w 142 (fun (r : qV) (_ : qW) (n1 : Nat) => n1 = 142 ∧ ∃ y, r = (0, y) ∧ (((x < 0 ∨ ((scF (w 88) (w 89) L : Nat) : Int) < x) ∧ y = -1) ∨ ((0 ≤ x ∧ x ≤ ((scF (w 88) (w 89) L : Nat) : Int)) ∧ WSP (pzN w 1 k) (pzP w 1 k) (pzM w 1 k) V (scF (w 88) (w 89) L) x.toNat y))) := by
  generalize hQ9 : (fun (r : qV) (_ : qW) (n1 : Nat) => n1 = 142 ∧ ∃ y, r = (0, y) ∧ (((x < 0 ∨ ((scF (w 88) (w 89) L : Nat) : Int) < x) ∧ y = -1) ∨ ((0 ≤ x ∧ x ≤ ((scF (w 88) (w 89) L : Nat) : Int)) ∧ WSP (pzN w 1 k) (pzP w 1 k) (pzM w 1 k) V (scF (w 88) (w 89) L) x.toNat y))) = Q9
  obtain ⟨d, rfl⟩ : ∃ d9, d = d9 + 1 := ⟨d - 1, by omega⟩
  refine qG.blk 1 (pc' := 2) (ls' := [(2, 23), (2, 69), (2, 87), (0, ((k : Nat) : Int)), (0, x), (9, 0), (9, 0)]) (st' := [(0, x)]) (w' := w) (n' := 142) rfl ?_
  refine qG.br (P := x < 0) (pc1 := 14) (pc2 := 5) (st1 := []) rfl (fun hx0 => ?_) (fun hx0 => ?_)
  · skip
    refine qG.blk 1 (pc' := 15) (ls' := [(2, 23), (2, 69), (2, 87), (0, ((k : Nat) : Int)), (0, x), (9, 0), (9, 0)]) (st' := [(0, (-1))]) (w' := w) (n' := 142) rfl ?_
    refine qG.ret rfl rfl ?_
    subst hQ9
    exact ⟨rfl, _, rfl, .inl ⟨by omega, rfl⟩⟩
  · skip
    obtain ⟨n9, rfl⟩ : ∃ n9 : Nat, x = (n9 : Int) := ⟨x.toNat, by omega⟩
    refine qG.blk 2 (pc' := 8) (ls' := [(2, 23), (2, 69), (2, 87), (0, ((k : Nat) : Int)), (0, ((n9 : Nat) : Int)), (9, 0), (9, 0)]) (st' := [(2, 87), (0, ((n9 : Nat) : Int))]) (w' := w) (n' := 142) rfl ?_
    refine qG.call (t := 116) (na := 1) (sk := 1) (md := 1) (ls1 := [(2, 87), (9, 0), (9, 0)]) (r1 := [(0, ((n9 : Nat) : Int))]) rfl rfl rfl rfl rfl (K_allSec87 (by omega) L hL w hI hs hKW) ?_
    rintro _ w7 _ ⟨rfl, hw7, rfl⟩
    rw [hw7]
    show qG none (d + 1) 38 11 [(2, 23), (2, 69), (2, 87), (0, ((k : Nat) : Int)), (0, ((n9 : Nat) : Int)), (9, 0), (9, 0)] [(0, ((scF (w 88) (w 89) L : Nat) : Int)), (0, ((n9 : Nat) : Int))] w 142 Q9
    refine qG.br (P := ((scF (w 88) (w 89) L : Nat) : Int) < ((n9 : Nat) : Int)) (pc1 := 14) (pc2 := 16) (st1 := []) rfl (fun hxs => ?_) (fun hxs => ?_)
    · skip
      refine qG.blk 1 (pc' := 15) (ls' := [(2, 23), (2, 69), (2, 87), (0, ((k : Nat) : Int)), (0, ((n9 : Nat) : Int)), (9, 0), (9, 0)]) (st' := [(0, (-1))]) (w' := w) (n' := 142) rfl ?_
      refine qG.ret rfl rfl ?_
      subst hQ9
      exact ⟨rfl, _, rfl, .inl ⟨by omega, rfl⟩⟩
    · skip
      refine qG.blk 2 (pc' := 20) (ls' := [(2, 23), (2, 69), (2, 87), (0, ((k : Nat) : Int)), (0, ((n9 : Nat) : Int)), (9, 0), (9, 0)]) (st' := [(2, w 23 0)]) (w' := w) (n' := 142) rfl ?_
      rw [show w 23 0 = 24 from zref hI rfl rfl]
      refine qG.blk 2 (pc' := 22) (ls' := [(2, 23), (2, 69), (2, 87), (0, ((k : Nat) : Int)), (0, ((n9 : Nat) : Int)), (9, 0), (9, 0)]) (st' := [(0, ((k : Nat) : Int)), (2, 69), (2, 24)]) (w' := w) (n' := 142) rfl ?_
      refine qG.call (t := 94) (na := 3) (sk := 1) (md := 1) (ls1 := [(2, 24), (2, 69), (0, ((k : Nat) : Int))]) (r1 := []) rfl rfl rfl rfl rfl (qG.and (T_findFor_69 (w0 := w) d [(2, 24), (2, 69), (0, ((k : Nat) : Int))] w (show C_findFor_69.2.1 ≤ d by exact Nat.le_trans (show C_findFor_69.2.1 ≤ 7 by decide) (by omega)) ⟨⟨rfl, by decide, by decide⟩, ⟨rfl, by decide, by decide⟩, ⟨rfl, by show (1 : Int) ≤ _; omega, by show _ ≤ (4 : Int); omega⟩, trivial⟩ hI (fun p hp => by cases hp) (fun e he => by cases he)) (K_findForC69 (by omega) k hk1 hk2 n w hI hJ)) ?_
      rintro _ wF _ ⟨⟨-, hIF, -, -, -⟩, rfl, rfl, hF⟩
      show qG none (d + 1) 38 25 [(2, 23), (2, 69), (2, 87), (0, ((k : Nat) : Int)), (0, ((n9 : Nat) : Int)), (9, 0), (9, 0)] [] wF 142 Q9
      subst hQ9
      obtain ⟨f0, f1, f2, hTX, hfr⟩ := hF
      have eF : ∀ q j, q ≠ 24 → q ≠ 25 → q ≠ 26 → wF q j = w q j := fun q j a b e => hfr q j (fun z => a z.1) b e
      have e1 : wF 88 = w 88 := funext fun j => eF _ j (by decide) (by decide) (by decide)
      have e2 : wF 89 = w 89 := funext fun j => eF _ j (by decide) (by decide) (by decide)
      have e3 : wF 90 = w 90 := funext fun j => eF _ j (by decide) (by decide) (by decide)
      obtain ⟨z1, z2, z3⟩ := pz_cg (w := w) (w1 := wF) (fun i => eF 96 i (by decide) (by decide) (by decide)) (fun i => eF 99 i (by decide) (by decide) (by decide)) 1 k
      refine qG.mono (K_wyB87 (by omega) (pzN w 1 k) (pzP w 1 k) (pzM w 1 k) V (fun i j hi hj => pzM_sym hi hj) L hL wF hIF ((eF 87 2 (by decide) (by decide) (by decide)).trans hs) (by rw [e1, e2]; exact hKW) (by have z := hTX.ctb hk1 hk2; rw [z1, z2, z3] at z; exact z) (by rw [e1, e2, e3]; exact hVV) n9 (by rw [e1, e2]; omega) _ _) ?_
      rintro r w1 n1 ⟨h0, y, h1, h2⟩
      rw [e1, e2] at h2
      exact ⟨h0, y, h1, .inr ⟨⟨by omega, by omega⟩, h2⟩⟩
theorem K_wayB87_69 {d : Nat} (hd : 9 ≤ d) (k9 : Nat) (hk9 : k9 < 4) (k : Nat) (hk1 : 1 ≤ k) (hk2 : k ≤ 4) (x : Int) (L : Nat) (hL : L ≤ 40) (n : Nat) (w : qW) (hI : yInv zgf zga zra zSp w) (hJ : J9 n w) (h3 : w 3 k9 = 87) (hs : w 87 2 = (L : Int)) (hKN : KNr (w 88) (w 89) L) (hKW : KNw (w 88) (w 89) L) (hK : w 69 0 = w 96 1) (hE : JE w) : qG none d 175 23 [(2, 1), (0, 1), (0, ((k9 : Nat) : Int)), (0, ((k : Nat) : Int)), (0, x)] [] w 142 (fun (r : qV) (_ : qW) (_ : Nat) => ∃ y, r = (0, y) ∧ (((x < 0 ∨ ((scF (w 88) (w 89) L : Nat) : Int) < x) ∧ y = -1) ∨ ((0 ≤ x ∧ x ≤ ((scF (w 88) (w 89) L : Nat) : Int)) ∧ WSP (pzN w 1 k) (pzP w 1 k) (pzM w 1 k) (fun t => siF w 1 (w 88) (w 89) L t) (scF (w 88) (w 89) L) x.toNat y))) := by
  generalize hQ9 : (fun (r : qV) (_ : qW) (_ : Nat) => ∃ y, r = (0, y) ∧ (((x < 0 ∨ ((scF (w 88) (w 89) L : Nat) : Int) < x) ∧ y = -1) ∨ ((0 ≤ x ∧ x ≤ ((scF (w 88) (w 89) L : Nat) : Int)) ∧ WSP (pzN w 1 k) (pzP w 1 k) (pzM w 1 k) (fun t => siF w 1 (w 88) (w 89) L t) (scF (w 88) (w 89) L) x.toNat y))) = Q9
  obtain ⟨d, rfl⟩ : ∃ d9, d = d9 + 1 := ⟨d - 1, by omega⟩
  refine qG.blk 2 (pc' := 27) (ls' := [(2, 1), (0, 1), (0, ((k9 : Nat) : Int)), (0, ((k : Nat) : Int)), (0, x)]) (st' := [(2, w 1 1)]) (w' := w) (n' := 142) rfl ?_
  rw [show w 1 1 = 3 from zref hI rfl rfl]
  refine qG.blk 1 (pc' := 28) (ls' := [(2, 1), (0, 1), (0, ((k9 : Nat) : Int)), (0, ((k : Nat) : Int)), (0, x)]) (st' := [(0, ((k9 : Nat) : Int)), (2, 3)]) (w' := w) (n' := 142) rfl ?_
  refine qG.ar (P := 0 ≤ ((k9 : Nat) : Int) ∧ ((k9 : Nat) : Int) < ((4 : Nat) : Int)) (P2 := 0 < (3 : Int) ∧ (3 : Int) ≤ ((142 : Nat) : Int)) (pc' := 29) (ls' := [(2, 1), (0, 1), (0, ((k9 : Nat) : Int)), (0, ((k : Nat) : Int)), (0, x)]) (st' := [(2, w 3 k9)]) (w' := w) (n' := 142) rfl (by omega) (by decide) ?_
  rw [show w 3 k9 = 87 from h3]
  refine qG.blk 2 (pc' := 33) (ls' := [(2, 1), (0, 1), (0, ((k9 : Nat) : Int)), (0, ((k : Nat) : Int)), (0, x)]) (st' := [(2, w 1 0), (2, 87)]) (w' := w) (n' := 142) rfl ?_
  rw [show w 1 0 = 2 from zref hI rfl rfl]
  refine qG.blk 1 (pc' := 34) (ls' := [(2, 1), (0, 1), (0, ((k9 : Nat) : Int)), (0, ((k : Nat) : Int)), (0, x)]) (st' := [(0, 1), (2, 2), (2, 87)]) (w' := w) (n' := 142) rfl ?_
  refine qG.ar (P := 0 ≤ 1 ∧ 1 < ((3 : Nat) : Int)) (P2 := 0 < (2 : Int) ∧ (2 : Int) ≤ ((142 : Nat) : Int)) (pc' := 35) (ls' := [(2, 1), (0, 1), (0, ((k9 : Nat) : Int)), (0, ((k : Nat) : Int)), (0, x)]) (st' := [(2, w 2 1), (2, 87)]) (w' := w) (n' := 142) rfl (by omega) (by decide) ?_
  rw [show w 2 1 = 69 from zref hI rfl rfl]
  refine qG.call (t := 111) (na := 2) (sk := 1) (md := 1) (ls1 := [(2, 87), (2, 69), (9, 0)]) (r1 := []) rfl rfl rfl rfl rfl (K_perf87_69 (by omega) L hL w hI hs hKN hK hE) ?_
  rintro _ w1 _ ⟨rfl, rfl, hI1, hC⟩
  have hJ1 := J9.chp (show SHOWP 87 by unfold SHOWP; omega) hJ hC
  obtain ⟨e1, e2, e3, hfr⟩ := hC.row (by unfold SHOWP; omega)
  have hCe := hC.2.2.2.2.2.2.2
  have cv := hC.2.2.2.2.2.2.1
  show qG none (d + 1) 175 38 [(2, 1), (0, 1), (0, ((k9 : Nat) : Int)), (0, ((k : Nat) : Int)), (0, x)] [] w1 142 Q9
  refine qG.blk 2 (pc' := 42) (ls' := [(2, 1), (0, 1), (0, ((k9 : Nat) : Int)), (0, ((k : Nat) : Int)), (0, x)]) (st' := [(2, w1 1 5)]) (w' := w1) (n' := 142) rfl ?_
  rw [show w1 1 5 = 23 from (hfr 1 5 (by omega)).trans (zref hI rfl rfl)]
  refine qG.blk 2 (pc' := 46) (ls' := [(2, 1), (0, 1), (0, ((k9 : Nat) : Int)), (0, ((k : Nat) : Int)), (0, x)]) (st' := [(2, w1 1 0), (2, 23)]) (w' := w1) (n' := 142) rfl ?_
  rw [show w1 1 0 = 2 from (hfr 1 0 (by omega)).trans (zref hI rfl rfl)]
  refine qG.blk 1 (pc' := 47) (ls' := [(2, 1), (0, 1), (0, ((k9 : Nat) : Int)), (0, ((k : Nat) : Int)), (0, x)]) (st' := [(0, 1), (2, 2), (2, 23)]) (w' := w1) (n' := 142) rfl ?_
  refine qG.ar (P := 0 ≤ 1 ∧ 1 < ((3 : Nat) : Int)) (P2 := 0 < (2 : Int) ∧ (2 : Int) ≤ ((142 : Nat) : Int)) (pc' := 48) (ls' := [(2, 1), (0, 1), (0, ((k9 : Nat) : Int)), (0, ((k : Nat) : Int)), (0, x)]) (st' := [(2, w1 2 1), (2, 23)]) (w' := w1) (n' := 142) rfl (by omega) (by decide) ?_
  rw [show w1 2 1 = 69 from (hfr 2 1 (by omega)).trans (zref hI rfl rfl)]
  refine qG.blk 2 (pc' := 52) (ls' := [(2, 1), (0, 1), (0, ((k9 : Nat) : Int)), (0, ((k : Nat) : Int)), (0, x)]) (st' := [(2, w1 1 1), (2, 69), (2, 23)]) (w' := w1) (n' := 142) rfl ?_
  rw [show w1 1 1 = 3 from (hfr 1 1 (by omega)).trans (zref hI rfl rfl)]
  refine qG.blk 1 (pc' := 53) (ls' := [(2, 1), (0, 1), (0, ((k9 : Nat) : Int)), (0, ((k : Nat) : Int)), (0, x)]) (st' := [(0, ((k9 : Nat) : Int)), (2, 3), (2, 69), (2, 23)]) (w' := w1) (n' := 142) rfl ?_
  refine qG.ar (P := 0 ≤ ((k9 : Nat) : Int) ∧ ((k9 : Nat) : Int) < ((4 : Nat) : Int)) (P2 := 0 < (3 : Int) ∧ (3 : Int) ≤ ((142 : Nat) : Int)) (pc' := 54) (ls' := [(2, 1), (0, 1), (0, ((k9 : Nat) : Int)), (0, ((k : Nat) : Int)), (0, x)]) (st' := [(2, w1 3 k9), (2, 69), (2, 23)]) (w' := w1) (n' := 142) rfl (by omega) (by decide) ?_
  rw [show w1 3 k9 = 87 from (hfr 3 k9 (by omega)).trans h3]
  refine qG.blk 2 (pc' := 57) (ls' := [(2, 1), (0, 1), (0, ((k9 : Nat) : Int)), (0, ((k : Nat) : Int)), (0, x)]) (st' := [(0, x), (0, ((k : Nat) : Int)), (2, 87), (2, 69), (2, 23)]) (w' := w1) (n' := 142) rfl ?_
  refine qG.call (t := 38) (na := 5) (sk := 1) (md := 1) (ls1 := [(2, 23), (2, 69), (2, 87), (0, ((k : Nat) : Int)), (0, x), (9, 0), (9, 0)]) (r1 := []) rfl rfl rfl rfl rfl (K_wy69_87 (by omega) k hk1 hk2 x (fun t => siF w 1 (w 88) (w 89) L t) L hL n w1 hI1 hJ1 (e3.trans hs) (by rw [e1, e2]; exact hKW) (by rw [e1, e2]; exact fun g hg u hu => (siF_vw hg hu).trans (cv g hg).symm)) ?_
  rintro _ w2 _ ⟨rfl, y, rfl, h2s⟩
  rw [e1, e2] at h2s
  obtain ⟨z1, z2, z3⟩ := pz_cg (w := w) (w1 := w1) (fun i => hCe 96 i (by decide) (by omega)) (fun i => hCe 99 i (by decide) (by omega)) 1 k
  rw [z1, z2, z3] at h2s
  show qG none (d + 1) 175 60 [(2, 1), (0, 1), (0, ((k9 : Nat) : Int)), (0, ((k : Nat) : Int)), (0, x)] [(0, y)] w2 142 Q9
  refine qG.ret rfl rfl ?_
  subst hQ9
  exact ⟨_, rfl, h2s⟩
theorem K_wy74_87 {d : Nat} (hd : 8 ≤ d) (k : Nat) (hk1 : 1 ≤ k) (hk2 : k ≤ 4) (x : Int) (V : Nat → Int) (L : Nat) (hL : L ≤ 40) (n : Nat) (w : qW) (hI : yInv zgf zga zra zSp w) (hJ : J9 n w) (hs : w 87 2 = (L : Int)) (hKW : KNw (w 88) (w 89) L) (hVV : ∀ g, g < L → ∀ u, u < dN (w 88 g) (w 89 g) → V (scF (w 88) (w 89) g + u) = w 90 g) : qG none d 38 0 [(2, 23), (2, 74), (2, 87), (0, ((k : Nat) : Int)), (0, x), (9, 0), (9, 0)] [] w 142 (fun (r : qV) (_ : qW) (n1 : Nat) => n1 = 142 ∧ ∃ y, r = (0, y) ∧ (((x < 0 ∨ ((scF (w 88) (w 89) L : Nat) : Int) < x) ∧ y = -1) ∨ ((0 ≤ x ∧ x ≤ ((scF (w 88) (w 89) L : Nat) : Int)) ∧ WSP (pzN w 2 k) (pzP w 2 k) (pzM w 2 k) V (scF (w 88) (w 89) L) x.toNat y))) := by
  generalize hQ9 : (fun (r : qV) (_ : qW) (n1 : Nat) => n1 = 142 ∧ ∃ y, r = (0, y) ∧ (((x < 0 ∨ ((scF (w 88) (w 89) L : Nat) : Int) < x) ∧ y = -1) ∨ ((0 ≤ x ∧ x ≤ ((scF (w 88) (w 89) L : Nat) : Int)) ∧ WSP (pzN w 2 k) (pzP w 2 k) (pzM w 2 k) V (scF (w 88) (w 89) L) x.toNat y))) = Q9
  obtain ⟨d, rfl⟩ : ∃ d9, d = d9 + 1 := ⟨d - 1, by omega⟩
  refine qG.blk 1 (pc' := 2) (ls' := [(2, 23), (2, 74), (2, 87), (0, ((k : Nat) : Int)), (0, x), (9, 0), (9, 0)]) (st' := [(0, x)]) (w' := w) (n' := 142) rfl ?_
  refine qG.br (P := x < 0) (pc1 := 14) (pc2 := 5) (st1 := []) rfl (fun hx0 => ?_) (fun hx0 => ?_)
  · skip
    refine qG.blk 1 (pc' := 15) (ls' := [(2, 23), (2, 74), (2, 87), (0, ((k : Nat) : Int)), (0, x), (9, 0), (9, 0)]) (st' := [(0, (-1))]) (w' := w) (n' := 142) rfl ?_
    refine qG.ret rfl rfl ?_
    subst hQ9
    exact ⟨rfl, _, rfl, .inl ⟨by omega, rfl⟩⟩
  · skip
    obtain ⟨n9, rfl⟩ : ∃ n9 : Nat, x = (n9 : Int) := ⟨x.toNat, by omega⟩
    refine qG.blk 2 (pc' := 8) (ls' := [(2, 23), (2, 74), (2, 87), (0, ((k : Nat) : Int)), (0, ((n9 : Nat) : Int)), (9, 0), (9, 0)]) (st' := [(2, 87), (0, ((n9 : Nat) : Int))]) (w' := w) (n' := 142) rfl ?_
    refine qG.call (t := 116) (na := 1) (sk := 1) (md := 1) (ls1 := [(2, 87), (9, 0), (9, 0)]) (r1 := [(0, ((n9 : Nat) : Int))]) rfl rfl rfl rfl rfl (K_allSec87 (by omega) L hL w hI hs hKW) ?_
    rintro _ w7 _ ⟨rfl, hw7, rfl⟩
    rw [hw7]
    show qG none (d + 1) 38 11 [(2, 23), (2, 74), (2, 87), (0, ((k : Nat) : Int)), (0, ((n9 : Nat) : Int)), (9, 0), (9, 0)] [(0, ((scF (w 88) (w 89) L : Nat) : Int)), (0, ((n9 : Nat) : Int))] w 142 Q9
    refine qG.br (P := ((scF (w 88) (w 89) L : Nat) : Int) < ((n9 : Nat) : Int)) (pc1 := 14) (pc2 := 16) (st1 := []) rfl (fun hxs => ?_) (fun hxs => ?_)
    · skip
      refine qG.blk 1 (pc' := 15) (ls' := [(2, 23), (2, 74), (2, 87), (0, ((k : Nat) : Int)), (0, ((n9 : Nat) : Int)), (9, 0), (9, 0)]) (st' := [(0, (-1))]) (w' := w) (n' := 142) rfl ?_
      refine qG.ret rfl rfl ?_
      subst hQ9
      exact ⟨rfl, _, rfl, .inl ⟨by omega, rfl⟩⟩
    · skip
      refine qG.blk 2 (pc' := 20) (ls' := [(2, 23), (2, 74), (2, 87), (0, ((k : Nat) : Int)), (0, ((n9 : Nat) : Int)), (9, 0), (9, 0)]) (st' := [(2, w 23 0)]) (w' := w) (n' := 142) rfl ?_
      rw [show w 23 0 = 24 from zref hI rfl rfl]
      refine qG.blk 2 (pc' := 22) (ls' := [(2, 23), (2, 74), (2, 87), (0, ((k : Nat) : Int)), (0, ((n9 : Nat) : Int)), (9, 0), (9, 0)]) (st' := [(0, ((k : Nat) : Int)), (2, 74), (2, 24)]) (w' := w) (n' := 142) rfl ?_
      refine qG.call (t := 94) (na := 3) (sk := 1) (md := 1) (ls1 := [(2, 24), (2, 74), (0, ((k : Nat) : Int))]) (r1 := []) rfl rfl rfl rfl rfl (qG.and (T_findFor_74 (w0 := w) d [(2, 24), (2, 74), (0, ((k : Nat) : Int))] w (show C_findFor_74.2.1 ≤ d by exact Nat.le_trans (show C_findFor_74.2.1 ≤ 7 by decide) (by omega)) ⟨⟨rfl, by decide, by decide⟩, ⟨rfl, by decide, by decide⟩, ⟨rfl, by show (1 : Int) ≤ _; omega, by show _ ≤ (4 : Int); omega⟩, trivial⟩ hI (fun p hp => by cases hp) (fun e he => by cases he)) (K_findForC74 (by omega) k hk1 hk2 n w hI hJ)) ?_
      rintro _ wF _ ⟨⟨-, hIF, -, -, -⟩, rfl, rfl, hF⟩
      show qG none (d + 1) 38 25 [(2, 23), (2, 74), (2, 87), (0, ((k : Nat) : Int)), (0, ((n9 : Nat) : Int)), (9, 0), (9, 0)] [] wF 142 Q9
      subst hQ9
      obtain ⟨f0, f1, f2, hTX, hfr⟩ := hF
      have eF : ∀ q j, q ≠ 24 → q ≠ 25 → q ≠ 26 → wF q j = w q j := fun q j a b e => hfr q j (fun z => a z.1) b e
      have e1 : wF 88 = w 88 := funext fun j => eF _ j (by decide) (by decide) (by decide)
      have e2 : wF 89 = w 89 := funext fun j => eF _ j (by decide) (by decide) (by decide)
      have e3 : wF 90 = w 90 := funext fun j => eF _ j (by decide) (by decide) (by decide)
      obtain ⟨z1, z2, z3⟩ := pz_cg (w := w) (w1 := wF) (fun i => eF 96 i (by decide) (by decide) (by decide)) (fun i => eF 99 i (by decide) (by decide) (by decide)) 2 k
      refine qG.mono (K_wyB87 (by omega) (pzN w 2 k) (pzP w 2 k) (pzM w 2 k) V (fun i j hi hj => pzM_sym hi hj) L hL wF hIF ((eF 87 2 (by decide) (by decide) (by decide)).trans hs) (by rw [e1, e2]; exact hKW) (by have z := hTX.ctb hk1 hk2; rw [z1, z2, z3] at z; exact z) (by rw [e1, e2, e3]; exact hVV) n9 (by rw [e1, e2]; omega) _ _) ?_
      rintro r w1 n1 ⟨h0, y, h1, h2⟩
      rw [e1, e2] at h2
      exact ⟨h0, y, h1, .inr ⟨⟨by omega, by omega⟩, h2⟩⟩
theorem K_wayB87_74 {d : Nat} (hd : 9 ≤ d) (k9 : Nat) (hk9 : k9 < 4) (k : Nat) (hk1 : 1 ≤ k) (hk2 : k ≤ 4) (x : Int) (L : Nat) (hL : L ≤ 40) (n : Nat) (w : qW) (hI : yInv zgf zga zra zSp w) (hJ : J9 n w) (h3 : w 3 k9 = 87) (hs : w 87 2 = (L : Int)) (hKN : KNr (w 88) (w 89) L) (hKW : KNw (w 88) (w 89) L) (hK : w 74 0 = w 96 2) (hE : JE w) : qG none d 175 23 [(2, 1), (0, 2), (0, ((k9 : Nat) : Int)), (0, ((k : Nat) : Int)), (0, x)] [] w 142 (fun (r : qV) (_ : qW) (_ : Nat) => ∃ y, r = (0, y) ∧ (((x < 0 ∨ ((scF (w 88) (w 89) L : Nat) : Int) < x) ∧ y = -1) ∨ ((0 ≤ x ∧ x ≤ ((scF (w 88) (w 89) L : Nat) : Int)) ∧ WSP (pzN w 2 k) (pzP w 2 k) (pzM w 2 k) (fun t => siF w 2 (w 88) (w 89) L t) (scF (w 88) (w 89) L) x.toNat y))) := by
  generalize hQ9 : (fun (r : qV) (_ : qW) (_ : Nat) => ∃ y, r = (0, y) ∧ (((x < 0 ∨ ((scF (w 88) (w 89) L : Nat) : Int) < x) ∧ y = -1) ∨ ((0 ≤ x ∧ x ≤ ((scF (w 88) (w 89) L : Nat) : Int)) ∧ WSP (pzN w 2 k) (pzP w 2 k) (pzM w 2 k) (fun t => siF w 2 (w 88) (w 89) L t) (scF (w 88) (w 89) L) x.toNat y))) = Q9
  obtain ⟨d, rfl⟩ : ∃ d9, d = d9 + 1 := ⟨d - 1, by omega⟩
  refine qG.blk 2 (pc' := 27) (ls' := [(2, 1), (0, 2), (0, ((k9 : Nat) : Int)), (0, ((k : Nat) : Int)), (0, x)]) (st' := [(2, w 1 1)]) (w' := w) (n' := 142) rfl ?_
  rw [show w 1 1 = 3 from zref hI rfl rfl]
  refine qG.blk 1 (pc' := 28) (ls' := [(2, 1), (0, 2), (0, ((k9 : Nat) : Int)), (0, ((k : Nat) : Int)), (0, x)]) (st' := [(0, ((k9 : Nat) : Int)), (2, 3)]) (w' := w) (n' := 142) rfl ?_
  refine qG.ar (P := 0 ≤ ((k9 : Nat) : Int) ∧ ((k9 : Nat) : Int) < ((4 : Nat) : Int)) (P2 := 0 < (3 : Int) ∧ (3 : Int) ≤ ((142 : Nat) : Int)) (pc' := 29) (ls' := [(2, 1), (0, 2), (0, ((k9 : Nat) : Int)), (0, ((k : Nat) : Int)), (0, x)]) (st' := [(2, w 3 k9)]) (w' := w) (n' := 142) rfl (by omega) (by decide) ?_
  rw [show w 3 k9 = 87 from h3]
  refine qG.blk 2 (pc' := 33) (ls' := [(2, 1), (0, 2), (0, ((k9 : Nat) : Int)), (0, ((k : Nat) : Int)), (0, x)]) (st' := [(2, w 1 0), (2, 87)]) (w' := w) (n' := 142) rfl ?_
  rw [show w 1 0 = 2 from zref hI rfl rfl]
  refine qG.blk 1 (pc' := 34) (ls' := [(2, 1), (0, 2), (0, ((k9 : Nat) : Int)), (0, ((k : Nat) : Int)), (0, x)]) (st' := [(0, 2), (2, 2), (2, 87)]) (w' := w) (n' := 142) rfl ?_
  refine qG.ar (P := 0 ≤ 2 ∧ 2 < ((3 : Nat) : Int)) (P2 := 0 < (2 : Int) ∧ (2 : Int) ≤ ((142 : Nat) : Int)) (pc' := 35) (ls' := [(2, 1), (0, 2), (0, ((k9 : Nat) : Int)), (0, ((k : Nat) : Int)), (0, x)]) (st' := [(2, w 2 2), (2, 87)]) (w' := w) (n' := 142) rfl (by omega) (by decide) ?_
  rw [show w 2 2 = 74 from zref hI rfl rfl]
  refine qG.call (t := 111) (na := 2) (sk := 1) (md := 1) (ls1 := [(2, 87), (2, 74), (9, 0)]) (r1 := []) rfl rfl rfl rfl rfl (K_perf87_74 (by omega) L hL w hI hs hKN hK hE) ?_
  rintro _ w1 _ ⟨rfl, rfl, hI1, hC⟩
  have hJ1 := J9.chp (show SHOWP 87 by unfold SHOWP; omega) hJ hC
  obtain ⟨e1, e2, e3, hfr⟩ := hC.row (by unfold SHOWP; omega)
  have hCe := hC.2.2.2.2.2.2.2
  have cv := hC.2.2.2.2.2.2.1
  show qG none (d + 1) 175 38 [(2, 1), (0, 2), (0, ((k9 : Nat) : Int)), (0, ((k : Nat) : Int)), (0, x)] [] w1 142 Q9
  refine qG.blk 2 (pc' := 42) (ls' := [(2, 1), (0, 2), (0, ((k9 : Nat) : Int)), (0, ((k : Nat) : Int)), (0, x)]) (st' := [(2, w1 1 5)]) (w' := w1) (n' := 142) rfl ?_
  rw [show w1 1 5 = 23 from (hfr 1 5 (by omega)).trans (zref hI rfl rfl)]
  refine qG.blk 2 (pc' := 46) (ls' := [(2, 1), (0, 2), (0, ((k9 : Nat) : Int)), (0, ((k : Nat) : Int)), (0, x)]) (st' := [(2, w1 1 0), (2, 23)]) (w' := w1) (n' := 142) rfl ?_
  rw [show w1 1 0 = 2 from (hfr 1 0 (by omega)).trans (zref hI rfl rfl)]
  refine qG.blk 1 (pc' := 47) (ls' := [(2, 1), (0, 2), (0, ((k9 : Nat) : Int)), (0, ((k : Nat) : Int)), (0, x)]) (st' := [(0, 2), (2, 2), (2, 23)]) (w' := w1) (n' := 142) rfl ?_
  refine qG.ar (P := 0 ≤ 2 ∧ 2 < ((3 : Nat) : Int)) (P2 := 0 < (2 : Int) ∧ (2 : Int) ≤ ((142 : Nat) : Int)) (pc' := 48) (ls' := [(2, 1), (0, 2), (0, ((k9 : Nat) : Int)), (0, ((k : Nat) : Int)), (0, x)]) (st' := [(2, w1 2 2), (2, 23)]) (w' := w1) (n' := 142) rfl (by omega) (by decide) ?_
  rw [show w1 2 2 = 74 from (hfr 2 2 (by omega)).trans (zref hI rfl rfl)]
  refine qG.blk 2 (pc' := 52) (ls' := [(2, 1), (0, 2), (0, ((k9 : Nat) : Int)), (0, ((k : Nat) : Int)), (0, x)]) (st' := [(2, w1 1 1), (2, 74), (2, 23)]) (w' := w1) (n' := 142) rfl ?_
  rw [show w1 1 1 = 3 from (hfr 1 1 (by omega)).trans (zref hI rfl rfl)]
  refine qG.blk 1 (pc' := 53) (ls' := [(2, 1), (0, 2), (0, ((k9 : Nat) : Int)), (0, ((k : Nat) : Int)), (0, x)]) (st' := [(0, ((k9 : Nat) : Int)), (2, 3), (2, 74), (2, 23)]) (w' := w1) (n' := 142) rfl ?_
  refine qG.ar (P := 0 ≤ ((k9 : Nat) : Int) ∧ ((k9 : Nat) : Int) < ((4 : Nat) : Int)) (P2 := 0 < (3 : Int) ∧ (3 : Int) ≤ ((142 : Nat) : Int)) (pc' := 54) (ls' := [(2, 1), (0, 2), (0, ((k9 : Nat) : Int)), (0, ((k : Nat) : Int)), (0, x)]) (st' := [(2, w1 3 k9), (2, 74), (2, 23)]) (w' := w1) (n' := 142) rfl (by omega) (by decide) ?_
  rw [show w1 3 k9 = 87 from (hfr 3 k9 (by omega)).trans h3]
  refine qG.blk 2 (pc' := 57) (ls' := [(2, 1), (0, 2), (0, ((k9 : Nat) : Int)), (0, ((k : Nat) : Int)), (0, x)]) (st' := [(0, x), (0, ((k : Nat) : Int)), (2, 87), (2, 74), (2, 23)]) (w' := w1) (n' := 142) rfl ?_
  refine qG.call (t := 38) (na := 5) (sk := 1) (md := 1) (ls1 := [(2, 23), (2, 74), (2, 87), (0, ((k : Nat) : Int)), (0, x), (9, 0), (9, 0)]) (r1 := []) rfl rfl rfl rfl rfl (K_wy74_87 (by omega) k hk1 hk2 x (fun t => siF w 2 (w 88) (w 89) L t) L hL n w1 hI1 hJ1 (e3.trans hs) (by rw [e1, e2]; exact hKW) (by rw [e1, e2]; exact fun g hg u hu => (siF_vw hg hu).trans (cv g hg).symm)) ?_
  rintro _ w2 _ ⟨rfl, y, rfl, h2s⟩
  rw [e1, e2] at h2s
  obtain ⟨z1, z2, z3⟩ := pz_cg (w := w) (w1 := w1) (fun i => hCe 96 i (by decide) (by omega)) (fun i => hCe 99 i (by decide) (by omega)) 2 k
  rw [z1, z2, z3] at h2s
  show qG none (d + 1) 175 60 [(2, 1), (0, 2), (0, ((k9 : Nat) : Int)), (0, ((k : Nat) : Int)), (0, x)] [(0, y)] w2 142 Q9
  refine qG.ret rfl rfl ?_
  subst hQ9
  exact ⟨_, rfl, h2s⟩
theorem K_wy64_91 {d : Nat} (hd : 8 ≤ d) (k : Nat) (hk1 : 1 ≤ k) (hk2 : k ≤ 4) (x : Int) (V : Nat → Int) (L : Nat) (hL : L ≤ 40) (n : Nat) (w : qW) (hI : yInv zgf zga zra zSp w) (hJ : J9 n w) (hs : w 91 2 = (L : Int)) (hKW : KNw (w 92) (w 93) L) (hVV : ∀ g, g < L → ∀ u, u < dN (w 92 g) (w 93 g) → V (scF (w 92) (w 93) g + u) = w 94 g) : qG none d 38 0 [(2, 23), (2, 64), (2, 91), (0, ((k : Nat) : Int)), (0, x), (9, 0), (9, 0)] [] w 142 (fun (r : qV) (_ : qW) (n1 : Nat) => n1 = 142 ∧ ∃ y, r = (0, y) ∧ (((x < 0 ∨ ((scF (w 92) (w 93) L : Nat) : Int) < x) ∧ y = -1) ∨ ((0 ≤ x ∧ x ≤ ((scF (w 92) (w 93) L : Nat) : Int)) ∧ WSP (pzN w 0 k) (pzP w 0 k) (pzM w 0 k) V (scF (w 92) (w 93) L) x.toNat y))) := by
  generalize hQ9 : (fun (r : qV) (_ : qW) (n1 : Nat) => n1 = 142 ∧ ∃ y, r = (0, y) ∧ (((x < 0 ∨ ((scF (w 92) (w 93) L : Nat) : Int) < x) ∧ y = -1) ∨ ((0 ≤ x ∧ x ≤ ((scF (w 92) (w 93) L : Nat) : Int)) ∧ WSP (pzN w 0 k) (pzP w 0 k) (pzM w 0 k) V (scF (w 92) (w 93) L) x.toNat y))) = Q9
  obtain ⟨d, rfl⟩ : ∃ d9, d = d9 + 1 := ⟨d - 1, by omega⟩
  refine qG.blk 1 (pc' := 2) (ls' := [(2, 23), (2, 64), (2, 91), (0, ((k : Nat) : Int)), (0, x), (9, 0), (9, 0)]) (st' := [(0, x)]) (w' := w) (n' := 142) rfl ?_
  refine qG.br (P := x < 0) (pc1 := 14) (pc2 := 5) (st1 := []) rfl (fun hx0 => ?_) (fun hx0 => ?_)
  · skip
    refine qG.blk 1 (pc' := 15) (ls' := [(2, 23), (2, 64), (2, 91), (0, ((k : Nat) : Int)), (0, x), (9, 0), (9, 0)]) (st' := [(0, (-1))]) (w' := w) (n' := 142) rfl ?_
    refine qG.ret rfl rfl ?_
    subst hQ9
    exact ⟨rfl, _, rfl, .inl ⟨by omega, rfl⟩⟩
  · skip
    obtain ⟨n9, rfl⟩ : ∃ n9 : Nat, x = (n9 : Int) := ⟨x.toNat, by omega⟩
    refine qG.blk 2 (pc' := 8) (ls' := [(2, 23), (2, 64), (2, 91), (0, ((k : Nat) : Int)), (0, ((n9 : Nat) : Int)), (9, 0), (9, 0)]) (st' := [(2, 91), (0, ((n9 : Nat) : Int))]) (w' := w) (n' := 142) rfl ?_
    refine qG.call (t := 116) (na := 1) (sk := 1) (md := 1) (ls1 := [(2, 91), (9, 0), (9, 0)]) (r1 := [(0, ((n9 : Nat) : Int))]) rfl rfl rfl rfl rfl (K_allSec91 (by omega) L hL w hI hs hKW) ?_
    rintro _ w7 _ ⟨rfl, hw7, rfl⟩
    rw [hw7]
    show qG none (d + 1) 38 11 [(2, 23), (2, 64), (2, 91), (0, ((k : Nat) : Int)), (0, ((n9 : Nat) : Int)), (9, 0), (9, 0)] [(0, ((scF (w 92) (w 93) L : Nat) : Int)), (0, ((n9 : Nat) : Int))] w 142 Q9
    refine qG.br (P := ((scF (w 92) (w 93) L : Nat) : Int) < ((n9 : Nat) : Int)) (pc1 := 14) (pc2 := 16) (st1 := []) rfl (fun hxs => ?_) (fun hxs => ?_)
    · skip
      refine qG.blk 1 (pc' := 15) (ls' := [(2, 23), (2, 64), (2, 91), (0, ((k : Nat) : Int)), (0, ((n9 : Nat) : Int)), (9, 0), (9, 0)]) (st' := [(0, (-1))]) (w' := w) (n' := 142) rfl ?_
      refine qG.ret rfl rfl ?_
      subst hQ9
      exact ⟨rfl, _, rfl, .inl ⟨by omega, rfl⟩⟩
    · skip
      refine qG.blk 2 (pc' := 20) (ls' := [(2, 23), (2, 64), (2, 91), (0, ((k : Nat) : Int)), (0, ((n9 : Nat) : Int)), (9, 0), (9, 0)]) (st' := [(2, w 23 0)]) (w' := w) (n' := 142) rfl ?_
      rw [show w 23 0 = 24 from zref hI rfl rfl]
      refine qG.blk 2 (pc' := 22) (ls' := [(2, 23), (2, 64), (2, 91), (0, ((k : Nat) : Int)), (0, ((n9 : Nat) : Int)), (9, 0), (9, 0)]) (st' := [(0, ((k : Nat) : Int)), (2, 64), (2, 24)]) (w' := w) (n' := 142) rfl ?_
      refine qG.call (t := 94) (na := 3) (sk := 1) (md := 1) (ls1 := [(2, 24), (2, 64), (0, ((k : Nat) : Int))]) (r1 := []) rfl rfl rfl rfl rfl (qG.and (T_findFor_64 (w0 := w) d [(2, 24), (2, 64), (0, ((k : Nat) : Int))] w (show C_findFor_64.2.1 ≤ d by exact Nat.le_trans (show C_findFor_64.2.1 ≤ 7 by decide) (by omega)) ⟨⟨rfl, by decide, by decide⟩, ⟨rfl, by decide, by decide⟩, ⟨rfl, by show (1 : Int) ≤ _; omega, by show _ ≤ (4 : Int); omega⟩, trivial⟩ hI (fun p hp => by cases hp) (fun e he => by cases he)) (K_findForC64 (by omega) k hk1 hk2 n w hI hJ)) ?_
      rintro _ wF _ ⟨⟨-, hIF, -, -, -⟩, rfl, rfl, hF⟩
      show qG none (d + 1) 38 25 [(2, 23), (2, 64), (2, 91), (0, ((k : Nat) : Int)), (0, ((n9 : Nat) : Int)), (9, 0), (9, 0)] [] wF 142 Q9
      subst hQ9
      obtain ⟨f0, f1, f2, hTX, hfr⟩ := hF
      have eF : ∀ q j, q ≠ 24 → q ≠ 25 → q ≠ 26 → wF q j = w q j := fun q j a b e => hfr q j (fun z => a z.1) b e
      have e1 : wF 92 = w 92 := funext fun j => eF _ j (by decide) (by decide) (by decide)
      have e2 : wF 93 = w 93 := funext fun j => eF _ j (by decide) (by decide) (by decide)
      have e3 : wF 94 = w 94 := funext fun j => eF _ j (by decide) (by decide) (by decide)
      obtain ⟨z1, z2, z3⟩ := pz_cg (w := w) (w1 := wF) (fun i => eF 96 i (by decide) (by decide) (by decide)) (fun i => eF 99 i (by decide) (by decide) (by decide)) 0 k
      refine qG.mono (K_wyB91 (by omega) (pzN w 0 k) (pzP w 0 k) (pzM w 0 k) V (fun i j hi hj => pzM_sym hi hj) L hL wF hIF ((eF 91 2 (by decide) (by decide) (by decide)).trans hs) (by rw [e1, e2]; exact hKW) (by have z := hTX.ctb hk1 hk2; rw [z1, z2, z3] at z; exact z) (by rw [e1, e2, e3]; exact hVV) n9 (by rw [e1, e2]; omega) _ _) ?_
      rintro r w1 n1 ⟨h0, y, h1, h2⟩
      rw [e1, e2] at h2
      exact ⟨h0, y, h1, .inr ⟨⟨by omega, by omega⟩, h2⟩⟩
theorem K_wayB91_64 {d : Nat} (hd : 9 ≤ d) (k9 : Nat) (hk9 : k9 < 4) (k : Nat) (hk1 : 1 ≤ k) (hk2 : k ≤ 4) (x : Int) (L : Nat) (hL : L ≤ 40) (n : Nat) (w : qW) (hI : yInv zgf zga zra zSp w) (hJ : J9 n w) (h3 : w 3 k9 = 91) (hs : w 91 2 = (L : Int)) (hKN : KNr (w 92) (w 93) L) (hKW : KNw (w 92) (w 93) L) (hK : w 64 0 = w 96 0) (hE : JE w) : qG none d 175 23 [(2, 1), (0, 0), (0, ((k9 : Nat) : Int)), (0, ((k : Nat) : Int)), (0, x)] [] w 142 (fun (r : qV) (_ : qW) (_ : Nat) => ∃ y, r = (0, y) ∧ (((x < 0 ∨ ((scF (w 92) (w 93) L : Nat) : Int) < x) ∧ y = -1) ∨ ((0 ≤ x ∧ x ≤ ((scF (w 92) (w 93) L : Nat) : Int)) ∧ WSP (pzN w 0 k) (pzP w 0 k) (pzM w 0 k) (fun t => siF w 0 (w 92) (w 93) L t) (scF (w 92) (w 93) L) x.toNat y))) := by
  generalize hQ9 : (fun (r : qV) (_ : qW) (_ : Nat) => ∃ y, r = (0, y) ∧ (((x < 0 ∨ ((scF (w 92) (w 93) L : Nat) : Int) < x) ∧ y = -1) ∨ ((0 ≤ x ∧ x ≤ ((scF (w 92) (w 93) L : Nat) : Int)) ∧ WSP (pzN w 0 k) (pzP w 0 k) (pzM w 0 k) (fun t => siF w 0 (w 92) (w 93) L t) (scF (w 92) (w 93) L) x.toNat y))) = Q9
  obtain ⟨d, rfl⟩ : ∃ d9, d = d9 + 1 := ⟨d - 1, by omega⟩
  refine qG.blk 2 (pc' := 27) (ls' := [(2, 1), (0, 0), (0, ((k9 : Nat) : Int)), (0, ((k : Nat) : Int)), (0, x)]) (st' := [(2, w 1 1)]) (w' := w) (n' := 142) rfl ?_
  rw [show w 1 1 = 3 from zref hI rfl rfl]
  refine qG.blk 1 (pc' := 28) (ls' := [(2, 1), (0, 0), (0, ((k9 : Nat) : Int)), (0, ((k : Nat) : Int)), (0, x)]) (st' := [(0, ((k9 : Nat) : Int)), (2, 3)]) (w' := w) (n' := 142) rfl ?_
  refine qG.ar (P := 0 ≤ ((k9 : Nat) : Int) ∧ ((k9 : Nat) : Int) < ((4 : Nat) : Int)) (P2 := 0 < (3 : Int) ∧ (3 : Int) ≤ ((142 : Nat) : Int)) (pc' := 29) (ls' := [(2, 1), (0, 0), (0, ((k9 : Nat) : Int)), (0, ((k : Nat) : Int)), (0, x)]) (st' := [(2, w 3 k9)]) (w' := w) (n' := 142) rfl (by omega) (by decide) ?_
  rw [show w 3 k9 = 91 from h3]
  refine qG.blk 2 (pc' := 33) (ls' := [(2, 1), (0, 0), (0, ((k9 : Nat) : Int)), (0, ((k : Nat) : Int)), (0, x)]) (st' := [(2, w 1 0), (2, 91)]) (w' := w) (n' := 142) rfl ?_
  rw [show w 1 0 = 2 from zref hI rfl rfl]
  refine qG.blk 1 (pc' := 34) (ls' := [(2, 1), (0, 0), (0, ((k9 : Nat) : Int)), (0, ((k : Nat) : Int)), (0, x)]) (st' := [(0, 0), (2, 2), (2, 91)]) (w' := w) (n' := 142) rfl ?_
  refine qG.ar (P := 0 ≤ 0 ∧ 0 < ((3 : Nat) : Int)) (P2 := 0 < (2 : Int) ∧ (2 : Int) ≤ ((142 : Nat) : Int)) (pc' := 35) (ls' := [(2, 1), (0, 0), (0, ((k9 : Nat) : Int)), (0, ((k : Nat) : Int)), (0, x)]) (st' := [(2, w 2 0), (2, 91)]) (w' := w) (n' := 142) rfl (by omega) (by decide) ?_
  rw [show w 2 0 = 64 from zref hI rfl rfl]
  refine qG.call (t := 111) (na := 2) (sk := 1) (md := 1) (ls1 := [(2, 91), (2, 64), (9, 0)]) (r1 := []) rfl rfl rfl rfl rfl (K_perf91_64 (by omega) L hL w hI hs hKN hK hE) ?_
  rintro _ w1 _ ⟨rfl, rfl, hI1, hC⟩
  have hJ1 := J9.chp (show SHOWP 91 by unfold SHOWP; omega) hJ hC
  obtain ⟨e1, e2, e3, hfr⟩ := hC.row (by unfold SHOWP; omega)
  have hCe := hC.2.2.2.2.2.2.2
  have cv := hC.2.2.2.2.2.2.1
  show qG none (d + 1) 175 38 [(2, 1), (0, 0), (0, ((k9 : Nat) : Int)), (0, ((k : Nat) : Int)), (0, x)] [] w1 142 Q9
  refine qG.blk 2 (pc' := 42) (ls' := [(2, 1), (0, 0), (0, ((k9 : Nat) : Int)), (0, ((k : Nat) : Int)), (0, x)]) (st' := [(2, w1 1 5)]) (w' := w1) (n' := 142) rfl ?_
  rw [show w1 1 5 = 23 from (hfr 1 5 (by omega)).trans (zref hI rfl rfl)]
  refine qG.blk 2 (pc' := 46) (ls' := [(2, 1), (0, 0), (0, ((k9 : Nat) : Int)), (0, ((k : Nat) : Int)), (0, x)]) (st' := [(2, w1 1 0), (2, 23)]) (w' := w1) (n' := 142) rfl ?_
  rw [show w1 1 0 = 2 from (hfr 1 0 (by omega)).trans (zref hI rfl rfl)]
  refine qG.blk 1 (pc' := 47) (ls' := [(2, 1), (0, 0), (0, ((k9 : Nat) : Int)), (0, ((k : Nat) : Int)), (0, x)]) (st' := [(0, 0), (2, 2), (2, 23)]) (w' := w1) (n' := 142) rfl ?_
  refine qG.ar (P := 0 ≤ 0 ∧ 0 < ((3 : Nat) : Int)) (P2 := 0 < (2 : Int) ∧ (2 : Int) ≤ ((142 : Nat) : Int)) (pc' := 48) (ls' := [(2, 1), (0, 0), (0, ((k9 : Nat) : Int)), (0, ((k : Nat) : Int)), (0, x)]) (st' := [(2, w1 2 0), (2, 23)]) (w' := w1) (n' := 142) rfl (by omega) (by decide) ?_
  rw [show w1 2 0 = 64 from (hfr 2 0 (by omega)).trans (zref hI rfl rfl)]
  refine qG.blk 2 (pc' := 52) (ls' := [(2, 1), (0, 0), (0, ((k9 : Nat) : Int)), (0, ((k : Nat) : Int)), (0, x)]) (st' := [(2, w1 1 1), (2, 64), (2, 23)]) (w' := w1) (n' := 142) rfl ?_
  rw [show w1 1 1 = 3 from (hfr 1 1 (by omega)).trans (zref hI rfl rfl)]
  refine qG.blk 1 (pc' := 53) (ls' := [(2, 1), (0, 0), (0, ((k9 : Nat) : Int)), (0, ((k : Nat) : Int)), (0, x)]) (st' := [(0, ((k9 : Nat) : Int)), (2, 3), (2, 64), (2, 23)]) (w' := w1) (n' := 142) rfl ?_
  refine qG.ar (P := 0 ≤ ((k9 : Nat) : Int) ∧ ((k9 : Nat) : Int) < ((4 : Nat) : Int)) (P2 := 0 < (3 : Int) ∧ (3 : Int) ≤ ((142 : Nat) : Int)) (pc' := 54) (ls' := [(2, 1), (0, 0), (0, ((k9 : Nat) : Int)), (0, ((k : Nat) : Int)), (0, x)]) (st' := [(2, w1 3 k9), (2, 64), (2, 23)]) (w' := w1) (n' := 142) rfl (by omega) (by decide) ?_
  rw [show w1 3 k9 = 91 from (hfr 3 k9 (by omega)).trans h3]
  refine qG.blk 2 (pc' := 57) (ls' := [(2, 1), (0, 0), (0, ((k9 : Nat) : Int)), (0, ((k : Nat) : Int)), (0, x)]) (st' := [(0, x), (0, ((k : Nat) : Int)), (2, 91), (2, 64), (2, 23)]) (w' := w1) (n' := 142) rfl ?_
  refine qG.call (t := 38) (na := 5) (sk := 1) (md := 1) (ls1 := [(2, 23), (2, 64), (2, 91), (0, ((k : Nat) : Int)), (0, x), (9, 0), (9, 0)]) (r1 := []) rfl rfl rfl rfl rfl (K_wy64_91 (by omega) k hk1 hk2 x (fun t => siF w 0 (w 92) (w 93) L t) L hL n w1 hI1 hJ1 (e3.trans hs) (by rw [e1, e2]; exact hKW) (by rw [e1, e2]; exact fun g hg u hu => (siF_vw hg hu).trans (cv g hg).symm)) ?_
  rintro _ w2 _ ⟨rfl, y, rfl, h2s⟩
  rw [e1, e2] at h2s
  obtain ⟨z1, z2, z3⟩ := pz_cg (w := w) (w1 := w1) (fun i => hCe 96 i (by decide) (by omega)) (fun i => hCe 99 i (by decide) (by omega)) 0 k
  rw [z1, z2, z3] at h2s
  show qG none (d + 1) 175 60 [(2, 1), (0, 0), (0, ((k9 : Nat) : Int)), (0, ((k : Nat) : Int)), (0, x)] [(0, y)] w2 142 Q9
  refine qG.ret rfl rfl ?_
  subst hQ9
  exact ⟨_, rfl, h2s⟩
theorem K_wy69_91 {d : Nat} (hd : 8 ≤ d) (k : Nat) (hk1 : 1 ≤ k) (hk2 : k ≤ 4) (x : Int) (V : Nat → Int) (L : Nat) (hL : L ≤ 40) (n : Nat) (w : qW) (hI : yInv zgf zga zra zSp w) (hJ : J9 n w) (hs : w 91 2 = (L : Int)) (hKW : KNw (w 92) (w 93) L) (hVV : ∀ g, g < L → ∀ u, u < dN (w 92 g) (w 93 g) → V (scF (w 92) (w 93) g + u) = w 94 g) : qG none d 38 0 [(2, 23), (2, 69), (2, 91), (0, ((k : Nat) : Int)), (0, x), (9, 0), (9, 0)] [] w 142 (fun (r : qV) (_ : qW) (n1 : Nat) => n1 = 142 ∧ ∃ y, r = (0, y) ∧ (((x < 0 ∨ ((scF (w 92) (w 93) L : Nat) : Int) < x) ∧ y = -1) ∨ ((0 ≤ x ∧ x ≤ ((scF (w 92) (w 93) L : Nat) : Int)) ∧ WSP (pzN w 1 k) (pzP w 1 k) (pzM w 1 k) V (scF (w 92) (w 93) L) x.toNat y))) := by
  generalize hQ9 : (fun (r : qV) (_ : qW) (n1 : Nat) => n1 = 142 ∧ ∃ y, r = (0, y) ∧ (((x < 0 ∨ ((scF (w 92) (w 93) L : Nat) : Int) < x) ∧ y = -1) ∨ ((0 ≤ x ∧ x ≤ ((scF (w 92) (w 93) L : Nat) : Int)) ∧ WSP (pzN w 1 k) (pzP w 1 k) (pzM w 1 k) V (scF (w 92) (w 93) L) x.toNat y))) = Q9
  obtain ⟨d, rfl⟩ : ∃ d9, d = d9 + 1 := ⟨d - 1, by omega⟩
  refine qG.blk 1 (pc' := 2) (ls' := [(2, 23), (2, 69), (2, 91), (0, ((k : Nat) : Int)), (0, x), (9, 0), (9, 0)]) (st' := [(0, x)]) (w' := w) (n' := 142) rfl ?_
  refine qG.br (P := x < 0) (pc1 := 14) (pc2 := 5) (st1 := []) rfl (fun hx0 => ?_) (fun hx0 => ?_)
  · skip
    refine qG.blk 1 (pc' := 15) (ls' := [(2, 23), (2, 69), (2, 91), (0, ((k : Nat) : Int)), (0, x), (9, 0), (9, 0)]) (st' := [(0, (-1))]) (w' := w) (n' := 142) rfl ?_
    refine qG.ret rfl rfl ?_
    subst hQ9
    exact ⟨rfl, _, rfl, .inl ⟨by omega, rfl⟩⟩
  · skip
    obtain ⟨n9, rfl⟩ : ∃ n9 : Nat, x = (n9 : Int) := ⟨x.toNat, by omega⟩
    refine qG.blk 2 (pc' := 8) (ls' := [(2, 23), (2, 69), (2, 91), (0, ((k : Nat) : Int)), (0, ((n9 : Nat) : Int)), (9, 0), (9, 0)]) (st' := [(2, 91), (0, ((n9 : Nat) : Int))]) (w' := w) (n' := 142) rfl ?_
    refine qG.call (t := 116) (na := 1) (sk := 1) (md := 1) (ls1 := [(2, 91), (9, 0), (9, 0)]) (r1 := [(0, ((n9 : Nat) : Int))]) rfl rfl rfl rfl rfl (K_allSec91 (by omega) L hL w hI hs hKW) ?_
    rintro _ w7 _ ⟨rfl, hw7, rfl⟩
    rw [hw7]
    show qG none (d + 1) 38 11 [(2, 23), (2, 69), (2, 91), (0, ((k : Nat) : Int)), (0, ((n9 : Nat) : Int)), (9, 0), (9, 0)] [(0, ((scF (w 92) (w 93) L : Nat) : Int)), (0, ((n9 : Nat) : Int))] w 142 Q9
    refine qG.br (P := ((scF (w 92) (w 93) L : Nat) : Int) < ((n9 : Nat) : Int)) (pc1 := 14) (pc2 := 16) (st1 := []) rfl (fun hxs => ?_) (fun hxs => ?_)
    · skip
      refine qG.blk 1 (pc' := 15) (ls' := [(2, 23), (2, 69), (2, 91), (0, ((k : Nat) : Int)), (0, ((n9 : Nat) : Int)), (9, 0), (9, 0)]) (st' := [(0, (-1))]) (w' := w) (n' := 142) rfl ?_
      refine qG.ret rfl rfl ?_
      subst hQ9
      exact ⟨rfl, _, rfl, .inl ⟨by omega, rfl⟩⟩
    · skip
      refine qG.blk 2 (pc' := 20) (ls' := [(2, 23), (2, 69), (2, 91), (0, ((k : Nat) : Int)), (0, ((n9 : Nat) : Int)), (9, 0), (9, 0)]) (st' := [(2, w 23 0)]) (w' := w) (n' := 142) rfl ?_
      rw [show w 23 0 = 24 from zref hI rfl rfl]
      refine qG.blk 2 (pc' := 22) (ls' := [(2, 23), (2, 69), (2, 91), (0, ((k : Nat) : Int)), (0, ((n9 : Nat) : Int)), (9, 0), (9, 0)]) (st' := [(0, ((k : Nat) : Int)), (2, 69), (2, 24)]) (w' := w) (n' := 142) rfl ?_
      refine qG.call (t := 94) (na := 3) (sk := 1) (md := 1) (ls1 := [(2, 24), (2, 69), (0, ((k : Nat) : Int))]) (r1 := []) rfl rfl rfl rfl rfl (qG.and (T_findFor_69 (w0 := w) d [(2, 24), (2, 69), (0, ((k : Nat) : Int))] w (show C_findFor_69.2.1 ≤ d by exact Nat.le_trans (show C_findFor_69.2.1 ≤ 7 by decide) (by omega)) ⟨⟨rfl, by decide, by decide⟩, ⟨rfl, by decide, by decide⟩, ⟨rfl, by show (1 : Int) ≤ _; omega, by show _ ≤ (4 : Int); omega⟩, trivial⟩ hI (fun p hp => by cases hp) (fun e he => by cases he)) (K_findForC69 (by omega) k hk1 hk2 n w hI hJ)) ?_
      rintro _ wF _ ⟨⟨-, hIF, -, -, -⟩, rfl, rfl, hF⟩
      show qG none (d + 1) 38 25 [(2, 23), (2, 69), (2, 91), (0, ((k : Nat) : Int)), (0, ((n9 : Nat) : Int)), (9, 0), (9, 0)] [] wF 142 Q9
      subst hQ9
      obtain ⟨f0, f1, f2, hTX, hfr⟩ := hF
      have eF : ∀ q j, q ≠ 24 → q ≠ 25 → q ≠ 26 → wF q j = w q j := fun q j a b e => hfr q j (fun z => a z.1) b e
      have e1 : wF 92 = w 92 := funext fun j => eF _ j (by decide) (by decide) (by decide)
      have e2 : wF 93 = w 93 := funext fun j => eF _ j (by decide) (by decide) (by decide)
      have e3 : wF 94 = w 94 := funext fun j => eF _ j (by decide) (by decide) (by decide)
      obtain ⟨z1, z2, z3⟩ := pz_cg (w := w) (w1 := wF) (fun i => eF 96 i (by decide) (by decide) (by decide)) (fun i => eF 99 i (by decide) (by decide) (by decide)) 1 k
      refine qG.mono (K_wyB91 (by omega) (pzN w 1 k) (pzP w 1 k) (pzM w 1 k) V (fun i j hi hj => pzM_sym hi hj) L hL wF hIF ((eF 91 2 (by decide) (by decide) (by decide)).trans hs) (by rw [e1, e2]; exact hKW) (by have z := hTX.ctb hk1 hk2; rw [z1, z2, z3] at z; exact z) (by rw [e1, e2, e3]; exact hVV) n9 (by rw [e1, e2]; omega) _ _) ?_
      rintro r w1 n1 ⟨h0, y, h1, h2⟩
      rw [e1, e2] at h2
      exact ⟨h0, y, h1, .inr ⟨⟨by omega, by omega⟩, h2⟩⟩
theorem K_wayB91_69 {d : Nat} (hd : 9 ≤ d) (k9 : Nat) (hk9 : k9 < 4) (k : Nat) (hk1 : 1 ≤ k) (hk2 : k ≤ 4) (x : Int) (L : Nat) (hL : L ≤ 40) (n : Nat) (w : qW) (hI : yInv zgf zga zra zSp w) (hJ : J9 n w) (h3 : w 3 k9 = 91) (hs : w 91 2 = (L : Int)) (hKN : KNr (w 92) (w 93) L) (hKW : KNw (w 92) (w 93) L) (hK : w 69 0 = w 96 1) (hE : JE w) : qG none d 175 23 [(2, 1), (0, 1), (0, ((k9 : Nat) : Int)), (0, ((k : Nat) : Int)), (0, x)] [] w 142 (fun (r : qV) (_ : qW) (_ : Nat) => ∃ y, r = (0, y) ∧ (((x < 0 ∨ ((scF (w 92) (w 93) L : Nat) : Int) < x) ∧ y = -1) ∨ ((0 ≤ x ∧ x ≤ ((scF (w 92) (w 93) L : Nat) : Int)) ∧ WSP (pzN w 1 k) (pzP w 1 k) (pzM w 1 k) (fun t => siF w 1 (w 92) (w 93) L t) (scF (w 92) (w 93) L) x.toNat y))) := by
  generalize hQ9 : (fun (r : qV) (_ : qW) (_ : Nat) => ∃ y, r = (0, y) ∧ (((x < 0 ∨ ((scF (w 92) (w 93) L : Nat) : Int) < x) ∧ y = -1) ∨ ((0 ≤ x ∧ x ≤ ((scF (w 92) (w 93) L : Nat) : Int)) ∧ WSP (pzN w 1 k) (pzP w 1 k) (pzM w 1 k) (fun t => siF w 1 (w 92) (w 93) L t) (scF (w 92) (w 93) L) x.toNat y))) = Q9
  obtain ⟨d, rfl⟩ : ∃ d9, d = d9 + 1 := ⟨d - 1, by omega⟩
  refine qG.blk 2 (pc' := 27) (ls' := [(2, 1), (0, 1), (0, ((k9 : Nat) : Int)), (0, ((k : Nat) : Int)), (0, x)]) (st' := [(2, w 1 1)]) (w' := w) (n' := 142) rfl ?_
  rw [show w 1 1 = 3 from zref hI rfl rfl]
  refine qG.blk 1 (pc' := 28) (ls' := [(2, 1), (0, 1), (0, ((k9 : Nat) : Int)), (0, ((k : Nat) : Int)), (0, x)]) (st' := [(0, ((k9 : Nat) : Int)), (2, 3)]) (w' := w) (n' := 142) rfl ?_
  refine qG.ar (P := 0 ≤ ((k9 : Nat) : Int) ∧ ((k9 : Nat) : Int) < ((4 : Nat) : Int)) (P2 := 0 < (3 : Int) ∧ (3 : Int) ≤ ((142 : Nat) : Int)) (pc' := 29) (ls' := [(2, 1), (0, 1), (0, ((k9 : Nat) : Int)), (0, ((k : Nat) : Int)), (0, x)]) (st' := [(2, w 3 k9)]) (w' := w) (n' := 142) rfl (by omega) (by decide) ?_
  rw [show w 3 k9 = 91 from h3]
  refine qG.blk 2 (pc' := 33) (ls' := [(2, 1), (0, 1), (0, ((k9 : Nat) : Int)), (0, ((k : Nat) : Int)), (0, x)]) (st' := [(2, w 1 0), (2, 91)]) (w' := w) (n' := 142) rfl ?_
  rw [show w 1 0 = 2 from zref hI rfl rfl]
  refine qG.blk 1 (pc' := 34) (ls' := [(2, 1), (0, 1), (0, ((k9 : Nat) : Int)), (0, ((k : Nat) : Int)), (0, x)]) (st' := [(0, 1), (2, 2), (2, 91)]) (w' := w) (n' := 142) rfl ?_
  refine qG.ar (P := 0 ≤ 1 ∧ 1 < ((3 : Nat) : Int)) (P2 := 0 < (2 : Int) ∧ (2 : Int) ≤ ((142 : Nat) : Int)) (pc' := 35) (ls' := [(2, 1), (0, 1), (0, ((k9 : Nat) : Int)), (0, ((k : Nat) : Int)), (0, x)]) (st' := [(2, w 2 1), (2, 91)]) (w' := w) (n' := 142) rfl (by omega) (by decide) ?_
  rw [show w 2 1 = 69 from zref hI rfl rfl]
  refine qG.call (t := 111) (na := 2) (sk := 1) (md := 1) (ls1 := [(2, 91), (2, 69), (9, 0)]) (r1 := []) rfl rfl rfl rfl rfl (K_perf91_69 (by omega) L hL w hI hs hKN hK hE) ?_
  rintro _ w1 _ ⟨rfl, rfl, hI1, hC⟩
  have hJ1 := J9.chp (show SHOWP 91 by unfold SHOWP; omega) hJ hC
  obtain ⟨e1, e2, e3, hfr⟩ := hC.row (by unfold SHOWP; omega)
  have hCe := hC.2.2.2.2.2.2.2
  have cv := hC.2.2.2.2.2.2.1
  show qG none (d + 1) 175 38 [(2, 1), (0, 1), (0, ((k9 : Nat) : Int)), (0, ((k : Nat) : Int)), (0, x)] [] w1 142 Q9
  refine qG.blk 2 (pc' := 42) (ls' := [(2, 1), (0, 1), (0, ((k9 : Nat) : Int)), (0, ((k : Nat) : Int)), (0, x)]) (st' := [(2, w1 1 5)]) (w' := w1) (n' := 142) rfl ?_
  rw [show w1 1 5 = 23 from (hfr 1 5 (by omega)).trans (zref hI rfl rfl)]
  refine qG.blk 2 (pc' := 46) (ls' := [(2, 1), (0, 1), (0, ((k9 : Nat) : Int)), (0, ((k : Nat) : Int)), (0, x)]) (st' := [(2, w1 1 0), (2, 23)]) (w' := w1) (n' := 142) rfl ?_
  rw [show w1 1 0 = 2 from (hfr 1 0 (by omega)).trans (zref hI rfl rfl)]
  refine qG.blk 1 (pc' := 47) (ls' := [(2, 1), (0, 1), (0, ((k9 : Nat) : Int)), (0, ((k : Nat) : Int)), (0, x)]) (st' := [(0, 1), (2, 2), (2, 23)]) (w' := w1) (n' := 142) rfl ?_
  refine qG.ar (P := 0 ≤ 1 ∧ 1 < ((3 : Nat) : Int)) (P2 := 0 < (2 : Int) ∧ (2 : Int) ≤ ((142 : Nat) : Int)) (pc' := 48) (ls' := [(2, 1), (0, 1), (0, ((k9 : Nat) : Int)), (0, ((k : Nat) : Int)), (0, x)]) (st' := [(2, w1 2 1), (2, 23)]) (w' := w1) (n' := 142) rfl (by omega) (by decide) ?_
  rw [show w1 2 1 = 69 from (hfr 2 1 (by omega)).trans (zref hI rfl rfl)]
  refine qG.blk 2 (pc' := 52) (ls' := [(2, 1), (0, 1), (0, ((k9 : Nat) : Int)), (0, ((k : Nat) : Int)), (0, x)]) (st' := [(2, w1 1 1), (2, 69), (2, 23)]) (w' := w1) (n' := 142) rfl ?_
  rw [show w1 1 1 = 3 from (hfr 1 1 (by omega)).trans (zref hI rfl rfl)]
  refine qG.blk 1 (pc' := 53) (ls' := [(2, 1), (0, 1), (0, ((k9 : Nat) : Int)), (0, ((k : Nat) : Int)), (0, x)]) (st' := [(0, ((k9 : Nat) : Int)), (2, 3), (2, 69), (2, 23)]) (w' := w1) (n' := 142) rfl ?_
  refine qG.ar (P := 0 ≤ ((k9 : Nat) : Int) ∧ ((k9 : Nat) : Int) < ((4 : Nat) : Int)) (P2 := 0 < (3 : Int) ∧ (3 : Int) ≤ ((142 : Nat) : Int)) (pc' := 54) (ls' := [(2, 1), (0, 1), (0, ((k9 : Nat) : Int)), (0, ((k : Nat) : Int)), (0, x)]) (st' := [(2, w1 3 k9), (2, 69), (2, 23)]) (w' := w1) (n' := 142) rfl (by omega) (by decide) ?_
  rw [show w1 3 k9 = 91 from (hfr 3 k9 (by omega)).trans h3]
  refine qG.blk 2 (pc' := 57) (ls' := [(2, 1), (0, 1), (0, ((k9 : Nat) : Int)), (0, ((k : Nat) : Int)), (0, x)]) (st' := [(0, x), (0, ((k : Nat) : Int)), (2, 91), (2, 69), (2, 23)]) (w' := w1) (n' := 142) rfl ?_
  refine qG.call (t := 38) (na := 5) (sk := 1) (md := 1) (ls1 := [(2, 23), (2, 69), (2, 91), (0, ((k : Nat) : Int)), (0, x), (9, 0), (9, 0)]) (r1 := []) rfl rfl rfl rfl rfl (K_wy69_91 (by omega) k hk1 hk2 x (fun t => siF w 1 (w 92) (w 93) L t) L hL n w1 hI1 hJ1 (e3.trans hs) (by rw [e1, e2]; exact hKW) (by rw [e1, e2]; exact fun g hg u hu => (siF_vw hg hu).trans (cv g hg).symm)) ?_
  rintro _ w2 _ ⟨rfl, y, rfl, h2s⟩
  rw [e1, e2] at h2s
  obtain ⟨z1, z2, z3⟩ := pz_cg (w := w) (w1 := w1) (fun i => hCe 96 i (by decide) (by omega)) (fun i => hCe 99 i (by decide) (by omega)) 1 k
  rw [z1, z2, z3] at h2s
  show qG none (d + 1) 175 60 [(2, 1), (0, 1), (0, ((k9 : Nat) : Int)), (0, ((k : Nat) : Int)), (0, x)] [(0, y)] w2 142 Q9
  refine qG.ret rfl rfl ?_
  subst hQ9
  exact ⟨_, rfl, h2s⟩
theorem K_wy74_91 {d : Nat} (hd : 8 ≤ d) (k : Nat) (hk1 : 1 ≤ k) (hk2 : k ≤ 4) (x : Int) (V : Nat → Int) (L : Nat) (hL : L ≤ 40) (n : Nat) (w : qW) (hI : yInv zgf zga zra zSp w) (hJ : J9 n w) (hs : w 91 2 = (L : Int)) (hKW : KNw (w 92) (w 93) L) (hVV : ∀ g, g < L → ∀ u, u < dN (w 92 g) (w 93 g) → V (scF (w 92) (w 93) g + u) = w 94 g) : qG none d 38 0 [(2, 23), (2, 74), (2, 91), (0, ((k : Nat) : Int)), (0, x), (9, 0), (9, 0)] [] w 142 (fun (r : qV) (_ : qW) (n1 : Nat) => n1 = 142 ∧ ∃ y, r = (0, y) ∧ (((x < 0 ∨ ((scF (w 92) (w 93) L : Nat) : Int) < x) ∧ y = -1) ∨ ((0 ≤ x ∧ x ≤ ((scF (w 92) (w 93) L : Nat) : Int)) ∧ WSP (pzN w 2 k) (pzP w 2 k) (pzM w 2 k) V (scF (w 92) (w 93) L) x.toNat y))) := by
  generalize hQ9 : (fun (r : qV) (_ : qW) (n1 : Nat) => n1 = 142 ∧ ∃ y, r = (0, y) ∧ (((x < 0 ∨ ((scF (w 92) (w 93) L : Nat) : Int) < x) ∧ y = -1) ∨ ((0 ≤ x ∧ x ≤ ((scF (w 92) (w 93) L : Nat) : Int)) ∧ WSP (pzN w 2 k) (pzP w 2 k) (pzM w 2 k) V (scF (w 92) (w 93) L) x.toNat y))) = Q9
  obtain ⟨d, rfl⟩ : ∃ d9, d = d9 + 1 := ⟨d - 1, by omega⟩
  refine qG.blk 1 (pc' := 2) (ls' := [(2, 23), (2, 74), (2, 91), (0, ((k : Nat) : Int)), (0, x), (9, 0), (9, 0)]) (st' := [(0, x)]) (w' := w) (n' := 142) rfl ?_
  refine qG.br (P := x < 0) (pc1 := 14) (pc2 := 5) (st1 := []) rfl (fun hx0 => ?_) (fun hx0 => ?_)
  · skip
    refine qG.blk 1 (pc' := 15) (ls' := [(2, 23), (2, 74), (2, 91), (0, ((k : Nat) : Int)), (0, x), (9, 0), (9, 0)]) (st' := [(0, (-1))]) (w' := w) (n' := 142) rfl ?_
    refine qG.ret rfl rfl ?_
    subst hQ9
    exact ⟨rfl, _, rfl, .inl ⟨by omega, rfl⟩⟩
  · skip
    obtain ⟨n9, rfl⟩ : ∃ n9 : Nat, x = (n9 : Int) := ⟨x.toNat, by omega⟩
    refine qG.blk 2 (pc' := 8) (ls' := [(2, 23), (2, 74), (2, 91), (0, ((k : Nat) : Int)), (0, ((n9 : Nat) : Int)), (9, 0), (9, 0)]) (st' := [(2, 91), (0, ((n9 : Nat) : Int))]) (w' := w) (n' := 142) rfl ?_
    refine qG.call (t := 116) (na := 1) (sk := 1) (md := 1) (ls1 := [(2, 91), (9, 0), (9, 0)]) (r1 := [(0, ((n9 : Nat) : Int))]) rfl rfl rfl rfl rfl (K_allSec91 (by omega) L hL w hI hs hKW) ?_
    rintro _ w7 _ ⟨rfl, hw7, rfl⟩
    rw [hw7]
    show qG none (d + 1) 38 11 [(2, 23), (2, 74), (2, 91), (0, ((k : Nat) : Int)), (0, ((n9 : Nat) : Int)), (9, 0), (9, 0)] [(0, ((scF (w 92) (w 93) L : Nat) : Int)), (0, ((n9 : Nat) : Int))] w 142 Q9
    refine qG.br (P := ((scF (w 92) (w 93) L : Nat) : Int) < ((n9 : Nat) : Int)) (pc1 := 14) (pc2 := 16) (st1 := []) rfl (fun hxs => ?_) (fun hxs => ?_)
    · skip
      refine qG.blk 1 (pc' := 15) (ls' := [(2, 23), (2, 74), (2, 91), (0, ((k : Nat) : Int)), (0, ((n9 : Nat) : Int)), (9, 0), (9, 0)]) (st' := [(0, (-1))]) (w' := w) (n' := 142) rfl ?_
      refine qG.ret rfl rfl ?_
      subst hQ9
      exact ⟨rfl, _, rfl, .inl ⟨by omega, rfl⟩⟩
    · skip
      refine qG.blk 2 (pc' := 20) (ls' := [(2, 23), (2, 74), (2, 91), (0, ((k : Nat) : Int)), (0, ((n9 : Nat) : Int)), (9, 0), (9, 0)]) (st' := [(2, w 23 0)]) (w' := w) (n' := 142) rfl ?_
      rw [show w 23 0 = 24 from zref hI rfl rfl]
      refine qG.blk 2 (pc' := 22) (ls' := [(2, 23), (2, 74), (2, 91), (0, ((k : Nat) : Int)), (0, ((n9 : Nat) : Int)), (9, 0), (9, 0)]) (st' := [(0, ((k : Nat) : Int)), (2, 74), (2, 24)]) (w' := w) (n' := 142) rfl ?_
      refine qG.call (t := 94) (na := 3) (sk := 1) (md := 1) (ls1 := [(2, 24), (2, 74), (0, ((k : Nat) : Int))]) (r1 := []) rfl rfl rfl rfl rfl (qG.and (T_findFor_74 (w0 := w) d [(2, 24), (2, 74), (0, ((k : Nat) : Int))] w (show C_findFor_74.2.1 ≤ d by exact Nat.le_trans (show C_findFor_74.2.1 ≤ 7 by decide) (by omega)) ⟨⟨rfl, by decide, by decide⟩, ⟨rfl, by decide, by decide⟩, ⟨rfl, by show (1 : Int) ≤ _; omega, by show _ ≤ (4 : Int); omega⟩, trivial⟩ hI (fun p hp => by cases hp) (fun e he => by cases he)) (K_findForC74 (by omega) k hk1 hk2 n w hI hJ)) ?_
      rintro _ wF _ ⟨⟨-, hIF, -, -, -⟩, rfl, rfl, hF⟩
      show qG none (d + 1) 38 25 [(2, 23), (2, 74), (2, 91), (0, ((k : Nat) : Int)), (0, ((n9 : Nat) : Int)), (9, 0), (9, 0)] [] wF 142 Q9
      subst hQ9
      obtain ⟨f0, f1, f2, hTX, hfr⟩ := hF
      have eF : ∀ q j, q ≠ 24 → q ≠ 25 → q ≠ 26 → wF q j = w q j := fun q j a b e => hfr q j (fun z => a z.1) b e
      have e1 : wF 92 = w 92 := funext fun j => eF _ j (by decide) (by decide) (by decide)
      have e2 : wF 93 = w 93 := funext fun j => eF _ j (by decide) (by decide) (by decide)
      have e3 : wF 94 = w 94 := funext fun j => eF _ j (by decide) (by decide) (by decide)
      obtain ⟨z1, z2, z3⟩ := pz_cg (w := w) (w1 := wF) (fun i => eF 96 i (by decide) (by decide) (by decide)) (fun i => eF 99 i (by decide) (by decide) (by decide)) 2 k
      refine qG.mono (K_wyB91 (by omega) (pzN w 2 k) (pzP w 2 k) (pzM w 2 k) V (fun i j hi hj => pzM_sym hi hj) L hL wF hIF ((eF 91 2 (by decide) (by decide) (by decide)).trans hs) (by rw [e1, e2]; exact hKW) (by have z := hTX.ctb hk1 hk2; rw [z1, z2, z3] at z; exact z) (by rw [e1, e2, e3]; exact hVV) n9 (by rw [e1, e2]; omega) _ _) ?_
      rintro r w1 n1 ⟨h0, y, h1, h2⟩
      rw [e1, e2] at h2
      exact ⟨h0, y, h1, .inr ⟨⟨by omega, by omega⟩, h2⟩⟩
theorem K_wayB91_74 {d : Nat} (hd : 9 ≤ d) (k9 : Nat) (hk9 : k9 < 4) (k : Nat) (hk1 : 1 ≤ k) (hk2 : k ≤ 4) (x : Int) (L : Nat) (hL : L ≤ 40) (n : Nat) (w : qW) (hI : yInv zgf zga zra zSp w) (hJ : J9 n w) (h3 : w 3 k9 = 91) (hs : w 91 2 = (L : Int)) (hKN : KNr (w 92) (w 93) L) (hKW : KNw (w 92) (w 93) L) (hK : w 74 0 = w 96 2) (hE : JE w) : qG none d 175 23 [(2, 1), (0, 2), (0, ((k9 : Nat) : Int)), (0, ((k : Nat) : Int)), (0, x)] [] w 142 (fun (r : qV) (_ : qW) (_ : Nat) => ∃ y, r = (0, y) ∧ (((x < 0 ∨ ((scF (w 92) (w 93) L : Nat) : Int) < x) ∧ y = -1) ∨ ((0 ≤ x ∧ x ≤ ((scF (w 92) (w 93) L : Nat) : Int)) ∧ WSP (pzN w 2 k) (pzP w 2 k) (pzM w 2 k) (fun t => siF w 2 (w 92) (w 93) L t) (scF (w 92) (w 93) L) x.toNat y))) := by
  generalize hQ9 : (fun (r : qV) (_ : qW) (_ : Nat) => ∃ y, r = (0, y) ∧ (((x < 0 ∨ ((scF (w 92) (w 93) L : Nat) : Int) < x) ∧ y = -1) ∨ ((0 ≤ x ∧ x ≤ ((scF (w 92) (w 93) L : Nat) : Int)) ∧ WSP (pzN w 2 k) (pzP w 2 k) (pzM w 2 k) (fun t => siF w 2 (w 92) (w 93) L t) (scF (w 92) (w 93) L) x.toNat y))) = Q9
  obtain ⟨d, rfl⟩ : ∃ d9, d = d9 + 1 := ⟨d - 1, by omega⟩
  refine qG.blk 2 (pc' := 27) (ls' := [(2, 1), (0, 2), (0, ((k9 : Nat) : Int)), (0, ((k : Nat) : Int)), (0, x)]) (st' := [(2, w 1 1)]) (w' := w) (n' := 142) rfl ?_
  rw [show w 1 1 = 3 from zref hI rfl rfl]
  refine qG.blk 1 (pc' := 28) (ls' := [(2, 1), (0, 2), (0, ((k9 : Nat) : Int)), (0, ((k : Nat) : Int)), (0, x)]) (st' := [(0, ((k9 : Nat) : Int)), (2, 3)]) (w' := w) (n' := 142) rfl ?_
  refine qG.ar (P := 0 ≤ ((k9 : Nat) : Int) ∧ ((k9 : Nat) : Int) < ((4 : Nat) : Int)) (P2 := 0 < (3 : Int) ∧ (3 : Int) ≤ ((142 : Nat) : Int)) (pc' := 29) (ls' := [(2, 1), (0, 2), (0, ((k9 : Nat) : Int)), (0, ((k : Nat) : Int)), (0, x)]) (st' := [(2, w 3 k9)]) (w' := w) (n' := 142) rfl (by omega) (by decide) ?_
  rw [show w 3 k9 = 91 from h3]
  refine qG.blk 2 (pc' := 33) (ls' := [(2, 1), (0, 2), (0, ((k9 : Nat) : Int)), (0, ((k : Nat) : Int)), (0, x)]) (st' := [(2, w 1 0), (2, 91)]) (w' := w) (n' := 142) rfl ?_
  rw [show w 1 0 = 2 from zref hI rfl rfl]
  refine qG.blk 1 (pc' := 34) (ls' := [(2, 1), (0, 2), (0, ((k9 : Nat) : Int)), (0, ((k : Nat) : Int)), (0, x)]) (st' := [(0, 2), (2, 2), (2, 91)]) (w' := w) (n' := 142) rfl ?_
  refine qG.ar (P := 0 ≤ 2 ∧ 2 < ((3 : Nat) : Int)) (P2 := 0 < (2 : Int) ∧ (2 : Int) ≤ ((142 : Nat) : Int)) (pc' := 35) (ls' := [(2, 1), (0, 2), (0, ((k9 : Nat) : Int)), (0, ((k : Nat) : Int)), (0, x)]) (st' := [(2, w 2 2), (2, 91)]) (w' := w) (n' := 142) rfl (by omega) (by decide) ?_
  rw [show w 2 2 = 74 from zref hI rfl rfl]
  refine qG.call (t := 111) (na := 2) (sk := 1) (md := 1) (ls1 := [(2, 91), (2, 74), (9, 0)]) (r1 := []) rfl rfl rfl rfl rfl (K_perf91_74 (by omega) L hL w hI hs hKN hK hE) ?_
  rintro _ w1 _ ⟨rfl, rfl, hI1, hC⟩
  have hJ1 := J9.chp (show SHOWP 91 by unfold SHOWP; omega) hJ hC
  obtain ⟨e1, e2, e3, hfr⟩ := hC.row (by unfold SHOWP; omega)
  have hCe := hC.2.2.2.2.2.2.2
  have cv := hC.2.2.2.2.2.2.1
  show qG none (d + 1) 175 38 [(2, 1), (0, 2), (0, ((k9 : Nat) : Int)), (0, ((k : Nat) : Int)), (0, x)] [] w1 142 Q9
  refine qG.blk 2 (pc' := 42) (ls' := [(2, 1), (0, 2), (0, ((k9 : Nat) : Int)), (0, ((k : Nat) : Int)), (0, x)]) (st' := [(2, w1 1 5)]) (w' := w1) (n' := 142) rfl ?_
  rw [show w1 1 5 = 23 from (hfr 1 5 (by omega)).trans (zref hI rfl rfl)]
  refine qG.blk 2 (pc' := 46) (ls' := [(2, 1), (0, 2), (0, ((k9 : Nat) : Int)), (0, ((k : Nat) : Int)), (0, x)]) (st' := [(2, w1 1 0), (2, 23)]) (w' := w1) (n' := 142) rfl ?_
  rw [show w1 1 0 = 2 from (hfr 1 0 (by omega)).trans (zref hI rfl rfl)]
  refine qG.blk 1 (pc' := 47) (ls' := [(2, 1), (0, 2), (0, ((k9 : Nat) : Int)), (0, ((k : Nat) : Int)), (0, x)]) (st' := [(0, 2), (2, 2), (2, 23)]) (w' := w1) (n' := 142) rfl ?_
  refine qG.ar (P := 0 ≤ 2 ∧ 2 < ((3 : Nat) : Int)) (P2 := 0 < (2 : Int) ∧ (2 : Int) ≤ ((142 : Nat) : Int)) (pc' := 48) (ls' := [(2, 1), (0, 2), (0, ((k9 : Nat) : Int)), (0, ((k : Nat) : Int)), (0, x)]) (st' := [(2, w1 2 2), (2, 23)]) (w' := w1) (n' := 142) rfl (by omega) (by decide) ?_
  rw [show w1 2 2 = 74 from (hfr 2 2 (by omega)).trans (zref hI rfl rfl)]
  refine qG.blk 2 (pc' := 52) (ls' := [(2, 1), (0, 2), (0, ((k9 : Nat) : Int)), (0, ((k : Nat) : Int)), (0, x)]) (st' := [(2, w1 1 1), (2, 74), (2, 23)]) (w' := w1) (n' := 142) rfl ?_
  rw [show w1 1 1 = 3 from (hfr 1 1 (by omega)).trans (zref hI rfl rfl)]
  refine qG.blk 1 (pc' := 53) (ls' := [(2, 1), (0, 2), (0, ((k9 : Nat) : Int)), (0, ((k : Nat) : Int)), (0, x)]) (st' := [(0, ((k9 : Nat) : Int)), (2, 3), (2, 74), (2, 23)]) (w' := w1) (n' := 142) rfl ?_
  refine qG.ar (P := 0 ≤ ((k9 : Nat) : Int) ∧ ((k9 : Nat) : Int) < ((4 : Nat) : Int)) (P2 := 0 < (3 : Int) ∧ (3 : Int) ≤ ((142 : Nat) : Int)) (pc' := 54) (ls' := [(2, 1), (0, 2), (0, ((k9 : Nat) : Int)), (0, ((k : Nat) : Int)), (0, x)]) (st' := [(2, w1 3 k9), (2, 74), (2, 23)]) (w' := w1) (n' := 142) rfl (by omega) (by decide) ?_
  rw [show w1 3 k9 = 91 from (hfr 3 k9 (by omega)).trans h3]
  refine qG.blk 2 (pc' := 57) (ls' := [(2, 1), (0, 2), (0, ((k9 : Nat) : Int)), (0, ((k : Nat) : Int)), (0, x)]) (st' := [(0, x), (0, ((k : Nat) : Int)), (2, 91), (2, 74), (2, 23)]) (w' := w1) (n' := 142) rfl ?_
  refine qG.call (t := 38) (na := 5) (sk := 1) (md := 1) (ls1 := [(2, 23), (2, 74), (2, 91), (0, ((k : Nat) : Int)), (0, x), (9, 0), (9, 0)]) (r1 := []) rfl rfl rfl rfl rfl (K_wy74_91 (by omega) k hk1 hk2 x (fun t => siF w 2 (w 92) (w 93) L t) L hL n w1 hI1 hJ1 (e3.trans hs) (by rw [e1, e2]; exact hKW) (by rw [e1, e2]; exact fun g hg u hu => (siF_vw hg hu).trans (cv g hg).symm)) ?_
  rintro _ w2 _ ⟨rfl, y, rfl, h2s⟩
  rw [e1, e2] at h2s
  obtain ⟨z1, z2, z3⟩ := pz_cg (w := w) (w1 := w1) (fun i => hCe 96 i (by decide) (by omega)) (fun i => hCe 99 i (by decide) (by omega)) 2 k
  rw [z1, z2, z3] at h2s
  show qG none (d + 1) 175 60 [(2, 1), (0, 2), (0, ((k9 : Nat) : Int)), (0, ((k : Nat) : Int)), (0, x)] [(0, y)] w2 142 Q9
  refine qG.ret rfl rfl ?_
  subst hQ9
  exact ⟨_, rfl, h2s⟩
theorem K_wayC {d : Nat} (hd : 9 ≤ d) (c k9 k : Nat) (hc : c < 3) (hk9 : k9 < 4) (hk1 : 1 ≤ k) (hk2 : k ≤ 4) (x : Int) (n : Nat) (w : qW) (hI : yInv zgf zga zra zSp w) (hJ : J9 n w) (hE : JE w) (hR : JR w) : qG none d 175 23 [(2, 1), (0, ((c : Nat) : Int)), (0, ((k9 : Nat) : Int)), (0, ((k : Nat) : Int)), (0, x)] [] w 142 (fun (r : qV) (_ : qW) (_ : Nat) => ∃ y, r = (0, y) ∧ WYR w c k9 k x y) := by
  obtain ⟨f, a1, a2, a3, a4, a5⟩ := hR
  obtain ⟨L, hL, hs, hs6, hkn, hKN, hKW⟩ := a5 k9 hk9
  have h3 := a3 k9 hk9
  have hp := a1 k9 (by omega)
  have hk0 := hJ.1 c hc
  unfold SHOWP at hp
  generalize f k9 = p at *
  have fin : ∀ (K N : Nat → Int) (r : qV), KN K N (fun i => w 104 (40 * k9 + i)) (fun i => w 105 (40 * k9 + i)) L → (∃ y, r = (0, y) ∧ (((x < 0 ∨ ((scF K N L : Nat) : Int) < x) ∧ y = -1) ∨ ((0 ≤ x ∧ x ≤ ((scF K N L : Nat) : Int)) ∧ WSP (pzN w c k) (pzP w c k) (pzM w c k) (fun t => siF w c K N L t) (scF K N L) x.toNat y))) → ∃ y, r = (0, y) ∧ WYR w c k9 k x y := fun K N r hkn ⟨y, e, hh⟩ => ⟨y, e, by
    have e9 : scF (rK w k9) (rN w k9) L = scF K N L := ((hkn.st L (Nat.le_refl _)).2.2.2.2.1).symm
    unfold WYR
    rw [hs6, Int.toNat_natCast, e9]
    rcases hh with hh | ⟨h1, h2⟩
    · exact .inl hh
    · refine .inr ⟨h1, ?_⟩
      have z := WSP.kn hkn (by omega) h2
      have e9 : scF (fun i => w 104 (40 * k9 + i)) (fun i => w 105 (40 * k9 + i)) L = scF K N L := e9
      rw [e9] at z
      exact z⟩
  rcases hp with rfl | rfl | rfl | rfl | rfl <;> rcases (show c = 0 ∨ c = 1 ∨ c = 2 by omega) with rfl | rfl | rfl
  · exact qG.mono (K_wayB4_64 hd k9 hk9 k hk1 hk2 x L hL n w hI hJ h3 hs hKN hKW hk0 hE) (fun r _ _ h => fin _ _ r hkn h)
  · exact qG.mono (K_wayB4_69 hd k9 hk9 k hk1 hk2 x L hL n w hI hJ h3 hs hKN hKW hk0 hE) (fun r _ _ h => fin _ _ r hkn h)
  · exact qG.mono (K_wayB4_74 hd k9 hk9 k hk1 hk2 x L hL n w hI hJ h3 hs hKN hKW hk0 hE) (fun r _ _ h => fin _ _ r hkn h)
  · exact qG.mono (K_wayB79_64 hd k9 hk9 k hk1 hk2 x L hL n w hI hJ h3 hs hKN hKW hk0 hE) (fun r _ _ h => fin _ _ r hkn h)
  · exact qG.mono (K_wayB79_69 hd k9 hk9 k hk1 hk2 x L hL n w hI hJ h3 hs hKN hKW hk0 hE) (fun r _ _ h => fin _ _ r hkn h)
  · exact qG.mono (K_wayB79_74 hd k9 hk9 k hk1 hk2 x L hL n w hI hJ h3 hs hKN hKW hk0 hE) (fun r _ _ h => fin _ _ r hkn h)
  · exact qG.mono (K_wayB83_64 hd k9 hk9 k hk1 hk2 x L hL n w hI hJ h3 hs hKN hKW hk0 hE) (fun r _ _ h => fin _ _ r hkn h)
  · exact qG.mono (K_wayB83_69 hd k9 hk9 k hk1 hk2 x L hL n w hI hJ h3 hs hKN hKW hk0 hE) (fun r _ _ h => fin _ _ r hkn h)
  · exact qG.mono (K_wayB83_74 hd k9 hk9 k hk1 hk2 x L hL n w hI hJ h3 hs hKN hKW hk0 hE) (fun r _ _ h => fin _ _ r hkn h)
  · exact qG.mono (K_wayB87_64 hd k9 hk9 k hk1 hk2 x L hL n w hI hJ h3 hs hKN hKW hk0 hE) (fun r _ _ h => fin _ _ r hkn h)
  · exact qG.mono (K_wayB87_69 hd k9 hk9 k hk1 hk2 x L hL n w hI hJ h3 hs hKN hKW hk0 hE) (fun r _ _ h => fin _ _ r hkn h)
  · exact qG.mono (K_wayB87_74 hd k9 hk9 k hk1 hk2 x L hL n w hI hJ h3 hs hKN hKW hk0 hE) (fun r _ _ h => fin _ _ r hkn h)
  · exact qG.mono (K_wayB91_64 hd k9 hk9 k hk1 hk2 x L hL n w hI hJ h3 hs hKN hKW hk0 hE) (fun r _ _ h => fin _ _ r hkn h)
  · exact qG.mono (K_wayB91_69 hd k9 hk9 k hk1 hk2 x L hL n w hI hJ h3 hs hKN hKW hk0 hE) (fun r _ _ h => fin _ _ r hkn h)
  · exact qG.mono (K_wayB91_74 hd k9 hk9 k hk1 hk2 x L hL n w hI hJ h3 hs hKN hKW hk0 hE) (fun r _ _ h => fin _ _ r hkn h)
theorem K_X11_wayA {d : Nat} (hd : 10 ≤ d) (c k s v : Int) (n : Nat) (w : qW) (hI : yInv zgf zga zra zSp w) (hJ : J9 n w) (hE : JE w) (hR : JR w) : qG none d 175 0 [(2, 1), (0, c), (0, k), (0, s), (0, v)] [] w 142 (fun (r : qV) (_ : qW) (_ : Nat) => ∃ x, r = (0, x) ∧ WYT w c k s v x) := by
  generalize hQ9 : (fun (r : qV) (_ : qW) (_ : Nat) => ∃ x, r = (0, x) ∧ WYT w c k s v x) = Q9
  obtain ⟨d, rfl⟩ : ∃ d9, d = d9 + 1 := ⟨d - 1, by omega⟩
  refine qG.blk 1 (pc' := 1) (ls' := [(2, 1), (0, c), (0, k), (0, s), (0, v)]) (st' := [(0, c)]) (w' := w) (n' := 142) rfl ?_
  refine qG.call (t := 198) (na := 1) (sk := 0) (md := 0) (ls1 := [(0, c)]) (r1 := []) rfl rfl rfl rfl rfl (K_X11_isChest (Nat.zero_le _) _ _) ?_
  rintro _ w7 _ ⟨rfl, hw7, rfl⟩
  rw [hw7]
  show qG none (d + 1) 175 4 [(2, 1), (0, c), (0, k), (0, s), (0, v)] [(0, isInV c 0 2)] w 142 Q9
  refine qG.br (P := isInV c 0 2 = 0) (pc1 := 21) (pc2 := 7) (st1 := []) rfl (fun hc0 => ?_) (fun hc0 => ?_)
  · skip
    refine qG.blk 1 (pc' := 22) (ls' := [(2, 1), (0, c), (0, k), (0, s), (0, v)]) (st' := [(0, (-1))]) (w' := w) (n' := 142) rfl ?_
    refine qG.ret rfl rfl ?_
    subst hQ9
    exact ⟨_, rfl, .inl ⟨by first | exact .inl hc0 | exact .inr (.inl hk0) | exact .inr (.inr hs0), rfl⟩⟩
  · skip
    obtain ⟨c9, rfl, hlc9, huc9⟩ := isIn_n (by decide) hc0
    refine qG.blk 1 (pc' := 8) (ls' := [(2, 1), (0, ((c9 : Nat) : Int)), (0, k), (0, s), (0, v)]) (st' := [(0, k)]) (w' := w) (n' := 142) rfl ?_
    refine qG.call (t := 199) (na := 1) (sk := 0) (md := 0) (ls1 := [(0, k)]) (r1 := []) rfl rfl rfl rfl rfl (K_X11_isShow (Nat.zero_le _) _ _) ?_
    rintro _ w7 _ ⟨rfl, hw7, rfl⟩
    rw [hw7]
    show qG none (d + 1) 175 11 [(2, 1), (0, ((c9 : Nat) : Int)), (0, k), (0, s), (0, v)] [(0, isInV k 0 3)] w 142 Q9
    refine qG.br (P := isInV k 0 3 = 0) (pc1 := 21) (pc2 := 14) (st1 := []) rfl (fun hk0 => ?_) (fun hk0 => ?_)
    · skip
      refine qG.blk 1 (pc' := 22) (ls' := [(2, 1), (0, ((c9 : Nat) : Int)), (0, k), (0, s), (0, v)]) (st' := [(0, (-1))]) (w' := w) (n' := 142) rfl ?_
      refine qG.ret rfl rfl ?_
      subst hQ9
      exact ⟨_, rfl, .inl ⟨by first | exact .inl hc0 | exact .inr (.inl hk0) | exact .inr (.inr hs0), rfl⟩⟩
    · skip
      obtain ⟨k9, rfl, hlk9, huk9⟩ := isIn_n (by decide) hk0
      refine qG.blk 1 (pc' := 15) (ls' := [(2, 1), (0, ((c9 : Nat) : Int)), (0, ((k9 : Nat) : Int)), (0, s), (0, v)]) (st' := [(0, s)]) (w' := w) (n' := 142) rfl ?_
      refine qG.call (t := 200) (na := 1) (sk := 0) (md := 0) (ls1 := [(0, s)]) (r1 := []) rfl rfl rfl rfl rfl (K_X11_isSize2 (Nat.zero_le _) _ _) ?_
      rintro _ w7 _ ⟨rfl, hw7, rfl⟩
      rw [hw7]
      show qG none (d + 1) 175 18 [(2, 1), (0, ((c9 : Nat) : Int)), (0, ((k9 : Nat) : Int)), (0, s), (0, v)] [(0, isInV s 1 4)] w 142 Q9
      refine qG.br (P := isInV s 1 4 = 0) (pc1 := 21) (pc2 := 23) (st1 := []) rfl (fun hs0 => ?_) (fun hs0 => ?_)
      · skip
        refine qG.blk 1 (pc' := 22) (ls' := [(2, 1), (0, ((c9 : Nat) : Int)), (0, ((k9 : Nat) : Int)), (0, s), (0, v)]) (st' := [(0, (-1))]) (w' := w) (n' := 142) rfl ?_
        refine qG.ret rfl rfl ?_
        subst hQ9
        exact ⟨_, rfl, .inl ⟨by first | exact .inl hc0 | exact .inr (.inl hk0) | exact .inr (.inr hs0), rfl⟩⟩
      · skip
        obtain ⟨s9, rfl, hls9, hus9⟩ := isIn_n (by decide) hs0
        subst hQ9
        refine qG.mono (K_wayC (by omega) c9 k9 s9 (by omega) (by omega) (by omega) (by omega) v n w hI hJ hE hR) ?_
        rintro _ w9 _ ⟨x, rfl, hx⟩
        exact ⟨x, rfl, .inr ⟨fun z => z.elim hc0 (fun z => z.elim hk0 hs0), by rw [Int.toNat_natCast, Int.toNat_natCast, Int.toNat_natCast]; exact hx⟩⟩
/-! the reference's way -/
theorem clF_p {w : qW} {c k t i : Nat} (hT : TB 65536 w c k) (hi : i < pzN w c k) : clF w t i = decide (qand (pzP w c k i) (w 116 t) = 0) := by
  obtain ⟨-, h1, -⟩ := hT
  rw [pzN_e] at hi
  unfold clF
  rw [h1 i hi]; rfl
theorem nx_p {w : qW} {c k i q : Nat} (hT : TB 65536 w c k) (hi : i < pzN w c k) (hq : (q : Int) < w 102 i) : ∃ j, j < pzN w c k ∧ nxF w i q = j ∧ pzM w c k i j = true ∧ cM w c k (fpL w c k 65536) ((fpL w c k 65536).getD i 0) j = q := by
  obtain ⟨-, -, hN⟩ := hT
  rw [pzN_e] at hi
  obtain ⟨n1, n2⟩ := hN i hi
  rw [n1] at hq
  obtain ⟨j, hj, hcj, hm⟩ := cM_ex (w := w) (c := c) (k := k) (a := (fpL w c k 65536).getD i 0) (l := fpL w c k 65536) (Nat.le_refl _) q (by omega)
  have hw := n2 j hj hm
  rw [hcj] at hw
  exact ⟨j, hj, by unfold nxF; rw [hw]; omega, hm, hcj⟩
theorem nx_m {w : qW} {c k i j : Nat} (hT : TB 65536 w c k) (hi : i < pzN w c k) (hj : j < pzN w c k) (hm : pzM w c k i j = true) : ((cM w c k (fpL w c k 65536) ((fpL w c k 65536).getD i 0) j : Nat) : Int) < w 102 i ∧ nxF w i (cM w c k (fpL w c k 65536) ((fpL w c k 65536).getD i 0) j) = j := by
  obtain ⟨-, -, hN⟩ := hT
  rw [pzN_e] at hi hj
  obtain ⟨n1, n2⟩ := hN i hi
  have hm2 : mvB w c k (((fpL w c k 65536).getD i 0 : Nat) : Int) (((fpL w c k 65536).getD j 0 : Nat) : Int) = true := hm
  have hw := n2 j hj hm2
  refine ⟨?_, by unfold nxF; rw [hw]; omega⟩
  rw [n1]
  have := cM_lt hj (Nat.le_refl _) hm2
  omega
theorem way_n {w : qW} {c k i j : Nat} {f : Nat → Bool} (hT : TB 65536 w c k) (hi : i < pzN w c k) (hj : j < pzN w c k) (hm : pzM w c k i j = true) (hlow : ∀ j2, j2 < j → pzM w c k i j2 = true → f j2 = false) : ∃ kb : Nat, (kb : Int) < w 102 i ∧ nxF w i kb = j ∧ ∀ q, q < kb → nxF w i q < pzN w c k ∧ f (nxF w i q) = false := by
  obtain ⟨m1, m2⟩ := nx_m hT hi hj hm
  refine ⟨_, m1, m2, fun q hq => ?_⟩
  obtain ⟨j2, h1, h2, h3, h4⟩ := nx_p hT hi (q := q) (by omega)
  rw [h2]
  refine ⟨h1, hlow j2 ?_ h3⟩
  by_cases y : j2 < j
  · exact y
  · have z := cM_le (w := w) (c := c) (k := k) (a := (fpL w c k 65536).getD i 0) (l := fpL w c k 65536) (j := j) (r := j2) (by omega) (by rw [pzN_e] at h1; omega)
    omega
theorem gF_gz {w : qW} {c k S : Nat} (hT : TB 65536 w c k) : ∀ u i, i < pzN w c k → gF w S u i = gz (pzN w c k) (pzP w c k) (pzM w c k) (w 116) S u i
  | 0, i, hi => (decide_eq_true hi).symm
  | u + 1, i, hi => by
    show anyF (fun j => gF w S u j && clF w (S - (u + 1)) j) (nxF w i) (w 102 i).toNat = _
    rw [gz_s, decide_eq_true hi, Bool.true_and, Bool.eq_iff_iff, exN_iff]
    constructor
    · intro h
      obtain ⟨q, hq, hc⟩ := anyF_in h
      obtain ⟨j, hj, e, hm, -⟩ := nx_p hT hi (q := q) (by omega)
      rw [e] at hc
      refine ⟨j, hj, ?_⟩
      have hc : (gF w S u j && clF w (S - (u + 1)) j) = true := hc
      rw [gF_gz hT u j hj, clF_p hT hj, Bool.and_eq_true] at hc
      show (gz _ _ _ _ S u j && (_ && pzM w c k i j)) = true
      rw [hc.1, hc.2, hm]; rfl
    · rintro ⟨j, hj, h⟩
      have h : (gz (pzN w c k) (pzP w c k) (pzM w c k) (w 116) S u j && (decide (qand (pzP w c k j) (w 116 (S - (u + 1))) = 0) && pzM w c k i j)) = true := h
      rw [Bool.and_eq_true, Bool.and_eq_true] at h
      obtain ⟨m1, m2⟩ := nx_m hT hi hj h.2.2
      refine anyF_mk (k := cM w c k (fpL w c k 65536) ((fpL w c k 65536).getD i 0) j) (by omega) ?_
      rw [m2]
      show (gF w S u j && clF w (S - (u + 1)) j) = true
      rw [gF_gz hT u j hj, clF_p hT hj, h.1, h.2.1]; rfl
/-- all that the reference's way wants to know of its table -/
theorem way_told {w wh : qW} {c k s N S : Nat} {fl cn : Int} (hck : ¬ (isInV (c : Int) 0 2 = 0 ∨ isInV (k : Int) 0 3 = 0 ∨ isInV (s : Int) 1 4 = 0)) (hsp : HSP (pzN w c s) (pzP w c s) (pzM w c s) (fun t => siF w c (rK w k) (rN w k) (w 106 k).toNat t) S fl cn) (eS : S = scF (rK w k) (rN w k) (w 106 k).toNat) (hT : TB 65536 wh c s) (hN : wh 95 8 = (N : Int)) (h96 : ∀ i, wh 96 i = w 96 i) (h99 : ∀ i, wh 99 i = w 99 i) (hV : ∀ t, t < S → wh 116 t = siF w c (rK w k) (rN w k) (w 106 k).toNat t) : ∃ (P : Nat → Int) (M : Nat → Nat → Bool) (V : Nat → Int), (cn = 0 ↔ hzE (gz N P M V S S)) ∧ (∀ u i, u ≤ S → i < N → gF wh S u i = gz N P M V S u i) ∧ (∀ t i, t < S → i < N → clF wh t i = decide (qand (P i) (V t) = 0)) ∧ (∀ i, i < N → wh 101 i = P i) ∧ (∀ (i j : Nat) (f : Nat → Bool), i < N → j < N → M i j = true → (∀ j2, j2 < j → M i j2 = true → f j2 = false) → ∃ kb : Nat, (kb : Int) < wh 102 i ∧ nxF wh i kb = j ∧ ∀ q, q < kb → nxF wh i q < N ∧ f (nxF wh i q) = false) ∧ (∀ (n : Nat) (x : Int), n ≤ S → WSP N P M V S n x → WYT w (c : Int) (k : Int) (s : Int) (n : Int) x) ∧ ∀ (n x : Int), (n < 0 ∨ (S : Int) < n) → x = -1 → WYT w (c : Int) (k : Int) (s : Int) n x := by
  have eN : N = pzN wh c s := by have := hT.1; rw [pzN_e]; omega
  obtain ⟨z1, z2, z3⟩ := pz_cg (w := w) (w1 := wh) h96 h99 c s
  refine ⟨pzP wh c s, pzM wh c s, wh 116, ?_, ?_, ?_, ?_, ?_, ?_, ?_⟩
  · rw [hsp.z, eN, z1, z2, z3, gz_cg (V := fun t => siF w c (rK w k) (rN w k) (w 106 k).toNat t) (V2 := wh 116) hV S (Nat.le_refl _)]
  · intro u i hu hi
    rw [eN] at hi ⊢
    exact gF_gz hT u i hi
  · intro t i ht hi
    rw [eN] at hi
    exact clF_p hT hi
  · intro i hi
    rw [eN, pzN_e] at hi
    exact hT.2.1 i hi
  · intro i j f hi hj hm hl
    rw [eN] at hi hj ⊢
    exact way_n hT hi hj hm hl
  · intro n x hn h
    rw [eN, z1, z2, z3] at h
    have h := WSP.cg (V := fun t => siF w c (rK w k) (rN w k) (w 106 k).toNat t) hn hV h
    refine .inr ⟨hck, ?_⟩
    rw [Int.toNat_natCast, Int.toNat_natCast, Int.toNat_natCast]
    unfold WYR
    rw [← eS, Int.toNat_natCast]
    exact .inr ⟨⟨by omega, by omega⟩, h⟩
  · intro n x hn hx
    refine .inr ⟨hck, ?_⟩
    rw [Int.toNat_natCast, Int.toNat_natCast, Int.toNat_natCast]
    unfold WYR
    rw [← eS]
    exact .inl ⟨hn, hx⟩
theorem K_X12_wayA {d : Nat} (hd : 8 ≤ d) (c k s v : Int) (w : qW) (hI : yInv zgf zga zra zSp w) (hS1 : Sp1 w) (hS : S3 w) : qG none d 261 0 [(2, 95), (0, c), (0, k), (0, s), (0, v), (9, 0), (9, 0), (9, 0)] [] w 142 (fun (r : qV) (_ : qW) (_ : Nat) => ∃ x, r = (0, x) ∧ WYT w c k s v x) := by
  generalize hQ9 : (fun (r : qV) (_ : qW) (_ : Nat) => ∃ x, r = (0, x) ∧ WYT w c k s v x) = Q9
  obtain ⟨d, rfl⟩ : ∃ d9, d = d9 + 1 := ⟨d - 1, by omega⟩
  refine qG.blk 1 (pc' := 1) (ls' := [(2, 95), (0, c), (0, k), (0, s), (0, v), (9, 0), (9, 0), (9, 0)]) (st' := [(0, c)]) (w' := w) (n' := 142) rfl ?_
  refine qG.call (t := 207) (na := 1) (sk := 0) (md := 0) (ls1 := [(0, c)]) (r1 := []) rfl rfl rfl rfl rfl (K_isChest (by omega) _ _) ?_
  rintro _ w7 _ ⟨rfl, hw7, rfl⟩
  rw [hw7]
  show qG none (d + 1) 261 4 [(2, 95), (0, c), (0, k), (0, s), (0, v), (9, 0), (9, 0), (9, 0)] [(0, isInV c 0 2)] w 142 Q9
  refine qG.br (P := isInV c 0 2 = 0) (pc1 := 21) (pc2 := 7) (st1 := []) rfl (fun hc0 => ?_) (fun hc0 => ?_)
  · skip
    refine qG.blk 1 (pc' := 22) (ls' := [(2, 95), (0, c), (0, k), (0, s), (0, v), (9, 0), (9, 0), (9, 0)]) (st' := [(0, (-1))]) (w' := w) (n' := 142) rfl ?_
    refine qG.ret rfl rfl ?_
    subst hQ9
    exact ⟨_, rfl, .inl ⟨by first | exact .inl hc0 | exact .inr (.inl hk0) | exact .inr (.inr hs0), rfl⟩⟩
  · skip
    obtain ⟨c9, rfl, hlc9, huc9⟩ := isIn_n (by decide) hc0
    refine qG.blk 1 (pc' := 8) (ls' := [(2, 95), (0, ((c9 : Nat) : Int)), (0, k), (0, s), (0, v), (9, 0), (9, 0), (9, 0)]) (st' := [(0, k)]) (w' := w) (n' := 142) rfl ?_
    refine qG.call (t := 209) (na := 1) (sk := 0) (md := 0) (ls1 := [(0, k)]) (r1 := []) rfl rfl rfl rfl rfl (K_isShow (by omega) _ _) ?_
    rintro _ w7 _ ⟨rfl, hw7, rfl⟩
    rw [hw7]
    show qG none (d + 1) 261 11 [(2, 95), (0, ((c9 : Nat) : Int)), (0, k), (0, s), (0, v), (9, 0), (9, 0), (9, 0)] [(0, isInV k 0 3)] w 142 Q9
    refine qG.br (P := isInV k 0 3 = 0) (pc1 := 21) (pc2 := 14) (st1 := []) rfl (fun hk0 => ?_) (fun hk0 => ?_)
    · skip
      refine qG.blk 1 (pc' := 22) (ls' := [(2, 95), (0, ((c9 : Nat) : Int)), (0, k), (0, s), (0, v), (9, 0), (9, 0), (9, 0)]) (st' := [(0, (-1))]) (w' := w) (n' := 142) rfl ?_
      refine qG.ret rfl rfl ?_
      subst hQ9
      exact ⟨_, rfl, .inl ⟨by first | exact .inl hc0 | exact .inr (.inl hk0) | exact .inr (.inr hs0), rfl⟩⟩
    · skip
      obtain ⟨k9, rfl, hlk9, huk9⟩ := isIn_n (by decide) hk0
      refine qG.blk 1 (pc' := 15) (ls' := [(2, 95), (0, ((c9 : Nat) : Int)), (0, ((k9 : Nat) : Int)), (0, s), (0, v), (9, 0), (9, 0), (9, 0)]) (st' := [(0, s)]) (w' := w) (n' := 142) rfl ?_
      refine qG.call (t := 210) (na := 1) (sk := 0) (md := 0) (ls1 := [(0, s)]) (r1 := []) rfl rfl rfl rfl rfl (K_isSize (by omega) _ _) ?_
      rintro _ w7 _ ⟨rfl, hw7, rfl⟩
      rw [hw7]
      show qG none (d + 1) 261 18 [(2, 95), (0, ((c9 : Nat) : Int)), (0, ((k9 : Nat) : Int)), (0, s), (0, v), (9, 0), (9, 0), (9, 0)] [(0, isInV s 1 4)] w 142 Q9
      refine qG.br (P := isInV s 1 4 = 0) (pc1 := 21) (pc2 := 23) (st1 := []) rfl (fun hs0 => ?_) (fun hs0 => ?_)
      · skip
        refine qG.blk 1 (pc' := 22) (ls' := [(2, 95), (0, ((c9 : Nat) : Int)), (0, ((k9 : Nat) : Int)), (0, s), (0, v), (9, 0), (9, 0), (9, 0)]) (st' := [(0, (-1))]) (w' := w) (n' := 142) rfl ?_
        refine qG.ret rfl rfl ?_
        subst hQ9
        exact ⟨_, rfl, .inl ⟨by first | exact .inl hc0 | exact .inr (.inl hk0) | exact .inr (.inr hs0), rfl⟩⟩
      · skip
        obtain ⟨s9, rfl, hls9, hus9⟩ := isIn_n (by decide) hs0
        refine qG.blk 3 (pc' := 26) (ls' := [(2, 95), (0, ((c9 : Nat) : Int)), (0, ((k9 : Nat) : Int)), (0, ((s9 : Nat) : Int)), (0, v), (9, 0), (9, 0), (9, 0)]) (st' := [(0, ((k9 : Nat) : Int)), (0, ((c9 : Nat) : Int)), (2, 95)]) (w' := w) (n' := 142) rfl ?_
        refine qG.call (t := 253) (na := 3) (sk := 1) (md := 1) (ls1 := [(2, 95), (0, ((c9 : Nat) : Int)), (0, ((k9 : Nat) : Int)), (9, 0)]) (r1 := []) rfl rfl rfl rfl rfl (K_shows (by omega) c9 k9 (by omega) (by omega) w hI hS1) ?_
        rintro _ ws _ ⟨rfl, rfl, rfl⟩
        have hAs := (sh_aw (c := c9) (k := k9) (by omega) hI hS1).1
        have hSs := sh_s3 (c := c9) (k := k9) (by omega) hI hS1 hS
        obtain ⟨-, -, -, -, -, -, s37, s116⟩ := shW_P (w := w) (c := c9) (k := k9) (w 106 k9).toNat
        generalize shW w c9 k9 (w 106 k9).toNat = ws at *
        have s37 : ws 95 37 = ((scF (rK w k9) (rN w k9) (w 106 k9).toNat : Nat) : Int) := s37
        have s116 : ∀ t, t < scF (rK w k9) (rN w k9) (w 106 k9).toNat → ws 116 t = siF w c9 (rK w k9) (rN w k9) (w 106 k9).toNat t := s116
        have hS8 := zfld hAs.1 (j := 37) (b := (0, 800)) rfl
        have b37 : ws 95 37 ≤ (800 : Int) := hS8.2
        have hck : ¬ (isInV (c9 : Int) 0 2 = 0 ∨ isInV (k9 : Int) 0 3 = 0 ∨ isInV (s9 : Int) 1 4 = 0) := fun z => z.elim hc0 (fun z => z.elim hk0 hs0)
        show qG none (d + 1) 261 29 [(2, 95), (0, ((c9 : Nat) : Int)), (0, ((k9 : Nat) : Int)), (0, ((s9 : Nat) : Int)), (0, v), (9, 0), (9, 0), (9, 0)] [] ws 142 Q9
        refine qG.blk 4 (pc' := 36) (ls' := [(2, 95), (0, ((c9 : Nat) : Int)), (0, ((k9 : Nat) : Int)), (0, ((s9 : Nat) : Int)), (0, v), (9, 0), (9, 0), (9, 0)]) (st' := [(0, ws 95 37), (0, 0), (0, v)]) (w' := ws) (n' := 142) rfl ?_
        rw [show ws 95 37 = ((scF (rK w k9) (rN w k9) (w 106 k9).toNat : Nat) : Int) from s37]
        refine qG.call (t := 206) (na := 3) (sk := 0) (md := 0) (ls1 := [(0, v), (0, 0), (0, ((scF (rK w k9) (rN w k9) (w 106 k9).toNat : Nat) : Int))]) (r1 := []) rfl rfl rfl rfl rfl (K_isIn (Nat.zero_le _) _ _ _ _) ?_
        rintro _ w7 _ ⟨rfl, hw7, rfl⟩
        rw [hw7]
        show qG none (d + 1) 261 39 [(2, 95), (0, ((c9 : Nat) : Int)), (0, ((k9 : Nat) : Int)), (0, ((s9 : Nat) : Int)), (0, v), (9, 0), (9, 0), (9, 0)] [(0, isInV (v) (0) (((scF (rK w k9) (rN w k9) (w 106 k9).toNat : Nat) : Int)))] ws 142 Q9
        refine qG.br (P := isInV (v) (0) (((scF (rK w k9) (rN w k9) (w 106 k9).toNat : Nat) : Int)) = 0) (pc1 := 51) (pc2 := 42) (st1 := []) rfl (fun hv0 => ?_) (fun hv0 => ?_)
        · skip
          refine qG.blk 1 (pc' := 52) (ls' := [(2, 95), (0, ((c9 : Nat) : Int)), (0, ((k9 : Nat) : Int)), (0, ((s9 : Nat) : Int)), (0, v), (9, 0), (9, 0), (9, 0)]) (st' := [(0, (-1))]) (w' := ws) (n' := 142) rfl ?_
          refine qG.ret rfl rfl ?_
          subst hQ9
          refine ⟨_, rfl, .inr ⟨hck, ?_⟩⟩
          rw [Int.toNat_natCast, Int.toNat_natCast, Int.toNat_natCast]
          unfold isInV at hv0
          exact .inl ⟨by by_cases y : v < 0 ∨ ((scF (rK w k9) (rN w k9) (w 106 k9).toNat : Nat) : Int) < v; exact y; rw [if_neg (by omega), if_neg (by omega)] at hv0; exact absurd hv0 (by decide), rfl⟩
        · skip
          obtain ⟨n9, rfl, hln9, hun9⟩ := isIn_n (by decide) hv0
          refine qG.blk 3 (pc' := 45) (ls' := [(2, 95), (0, ((c9 : Nat) : Int)), (0, ((k9 : Nat) : Int)), (0, ((s9 : Nat) : Int)), (0, ((n9 : Nat) : Int)), (9, 0), (9, 0), (9, 0)]) (st' := [(0, ((s9 : Nat) : Int)), (0, ((c9 : Nat) : Int)), (2, 95)]) (w' := ws) (n' := 142) rfl ?_
          refine qG.call (t := 257) (na := 3) (sk := 1) (md := 1) (ls1 := [(2, 95), (0, ((c9 : Nat) : Int)), (0, ((s9 : Nat) : Int)), (9, 0), (9, 0), (9, 0), (9, 0)]) (r1 := []) rfl rfl rfl rfl rfl (K_hidesF (by omega) c9 s9 (by omega) (by omega) (by omega) ws hAs.1 hSs) ?_
          rintro _ wh _ ⟨rfl, w0, hfp, hA0, hS0, hdw, N, S, t, hN, hSS, htS, rfl, hts, h46, hmin⟩
          have hTB := hS0.2 c9 s9 (by omega) (by omega) (by omega) hfp.at9
          have hsp := hidesF_sp hA0.1 hTB hN htS rfl hts h46 hmin
          have e96 : ∀ i, w0 96 i = w 96 i := fun i => (hA0.2 96 i (fun _ => ymo_far (by decide) (by decide) i)).trans (hAs.2 96 i (fun _ => ymo_far (by decide) (by decide) i))
          have e99 : ∀ i, w0 99 i = w 99 i := fun i => (hA0.2 99 i (fun _ => ymo_far (by decide) (by decide) i)).trans (hAs.2 99 i (fun _ => ymo_far (by decide) (by decide) i))
          obtain ⟨z1, z2, z3⟩ := pz_cg (w := w) (w1 := w0) e96 e99 c9 s9
          rw [z1, z2, z3] at hsp
          have eS : S = scF (rK w k9) (rN w k9) (w 106 k9).toNat := by have z := hA0.2 95 37 (fun _ => rfl); omega
          have hV0 : ∀ t, t < S → w0 116 t = siF w c9 (rK w k9) (rN w k9) (w 106 k9).toNat t := fun t ht => (hA0.2 116 t (fun _ => ymo_far (by decide) (by decide) t)).trans (s116 t (by omega))
          have hsp2 := HSP.cg (V := fun t => siF w c9 (rK w k9) (rN w k9) (w 106 k9).toNat t) hsp (fun _ _ => rfl) (fun _ _ _ _ => rfl) hV0
          have hTh : TB 65536 wh c9 s9 := hTB.cg (hdw.1 95 8 (by decide) (by decide) (fun z => by cases z.2)) (fun i => hdw.1 102 i (by decide) (by decide) (fun z => by cases z.1)) (fun i => hdw.1 103 i (by decide) (by decide) (fun z => by cases z.1)) ⟨hdw.1 95 9 (by decide) (by decide) (fun z => by cases z.2), fun i => hdw.1 101 i (by decide) (by decide) (fun z => by cases z.1), fun i => hdw.1 96 i (by decide) (by decide) (fun z => by cases z.1), fun i => hdw.1 99 i (by decide) (by decide) (fun z => by cases z.1)⟩
          have hN1 : wh 95 8 = (N : Int) := (hdW_e hdw (by decide)).trans hN
          have hSS1 : wh 95 37 = (S : Int) := (hdW_e hdw (by decide)).trans hSS
          obtain ⟨P, M, V, F1, F2, F3, F4, F5, F6, F7⟩ := way_told hck hsp2 eS hTh hN1 (fun i => (hdw.1 96 i (by decide) (by decide) (fun z => by cases z.1)).trans (e96 i)) (fun i => (hdw.1 99 i (by decide) (by decide) (fun z => by cases z.1)).trans (e99 i)) (fun t ht => (hdw.1 116 t (by decide) (by decide) (fun z => by cases z.1)).trans (hV0 t ht))
          have hSn : scF (rK w k9) (rN w k9) (w 106 k9).toNat = S := eS.symm
          have hS3 := hd_s3 hS0 hdw
          have h8 := zfld hdw.2 (j := 8) (b := (0, 1820)) rfl
          have b8 : wh 95 8 ≤ (1820 : Int) := h8.2
          have hm2 : ∀ i, (0 : Int) ≤ wh 102 i ∧ wh 102 i ≤ 50 := fun i => hdw.2.2.1 102 i (0, 50) rfl rfl
          clear hsp hsp2 hTB hTh z1 z2 z3 hfp hV0 s116 e96 e99 hmin h46 hts
          generalize ((cntF (cF w0 t) N : Nat) : Int) = cn at *
          show qG none (d + 1) 261 48 [(2, 95), (0, ((c9 : Nat) : Int)), (0, ((k9 : Nat) : Int)), (0, ((s9 : Nat) : Int)), (0, ((n9 : Nat) : Int)), (9, 0), (9, 0), (9, 0)] [(0, cn)] wh 142 Q9
          refine qG.br (P := cn = 0) (pc1 := 51) (pc2 := 53) (st1 := []) rfl (fun hz => ?_) (fun hz => ?_)
          · skip
            refine qG.blk 1 (pc' := 52) (ls' := [(2, 95), (0, ((c9 : Nat) : Int)), (0, ((k9 : Nat) : Int)), (0, ((s9 : Nat) : Int)), (0, ((n9 : Nat) : Int)), (9, 0), (9, 0), (9, 0)]) (st' := [(0, (-1))]) (w' := wh) (n' := 142) rfl ?_
            refine qG.ret rfl rfl ?_
            subst hQ9
            exact ⟨_, rfl, F6 n9 _ (by omega) (.inl ⟨F1.mp hz, rfl⟩)⟩
          · skip
            refine qG.blk 1 (pc' := 54) (ls' := [(2, 95), (0, ((c9 : Nat) : Int)), (0, ((k9 : Nat) : Int)), (0, ((s9 : Nat) : Int)), (0, ((n9 : Nat) : Int)), (9, 0), (9, 0), (9, 0)]) (st' := [(2, 95)]) (w' := wh) (n' := 142) rfl ?_
            refine qG.call (t := 260) (na := 1) (sk := 1) (md := 1) (ls1 := [(2, 95), (9, 0), (9, 0), (9, 0), (9, 0)]) (r1 := []) rfl rfl rfl rfl rfl (K_leadsBack (by omega) N S wh hdw.2 hS3 hN1 hSS1) ?_
            rintro _ w2 _ ⟨rfl, rfl, hLb, hrow⟩
            show qG none (d + 1) 261 57 [(2, 95), (0, ((c9 : Nat) : Int)), (0, ((k9 : Nat) : Int)), (0, ((s9 : Nat) : Int)), (0, ((n9 : Nat) : Int)), (9, 0), (9, 0), (9, 0)] [] w2 142 Q9
            refine qG.blk 2 (pc' := 60) (ls' := [(2, 95), (0, ((c9 : Nat) : Int)), (0, ((k9 : Nat) : Int)), (0, ((s9 : Nat) : Int)), (0, ((n9 : Nat) : Int)), (0, 0), (9, 0), (9, 0)]) (st' := []) (w' := w2) (n' := 142) rfl ?_
            obtain ⟨e8, he8⟩ : ∃ i, gz N P M V S S i = true := by by_cases q : ∃ i, gz N P M V S S i = true; exact q; exact absurd (F1.mpr (fun i => by cases hb : gz N P M V S S i with | false => rfl | true => exact absurd ⟨i, hb⟩ q)) hz
            obtain ⟨e9, -, he9, hl9⟩ := lst_ex e8 he8
            have heN : e9 < N := by by_cases q : e9 < N; exact q; rw [gz_N q] at he9; cases he9
            have L60 : ∀ (m9 : Nat) (i : Nat), e9 + 1 - i = m9 → (i ≤ e9) → qG none (d + 1) 261 60 [(2, 95), (0, ((c9 : Nat) : Int)), (0, ((k9 : Nat) : Int)), (0, ((s9 : Nat) : Int)), (0, ((n9 : Nat) : Int)), (0, ((i : Nat) : Int)), (9, 0), (9, 0)] [] w2 142 Q9 := by
              intro m9
              induction m9 using Nat.strongRecOn with
              | ind m9 ih60 =>
              intro i hm60 hI60
              refine qG.blk 3 (pc' := 64) (ls' := [(2, 95), (0, ((c9 : Nat) : Int)), (0, ((k9 : Nat) : Int)), (0, ((s9 : Nat) : Int)), (0, ((n9 : Nat) : Int)), (0, ((i : Nat) : Int)), (9, 0), (9, 0)]) (st' := [(0, ((i : Nat) : Int)), (0, 0), (2, 95)]) (w' := w2) (n' := 142) rfl ?_
              refine qG.call (t := 259) (na := 3) (sk := 1) (md := 1) (ls1 := [(2, 95), (0, 0), (0, ((i : Nat) : Int))]) (r1 := []) rfl rfl rfl rfl rfl ((K_isGoing (Nat.zero_le _) 0 i (by omega) (by omega) w2 hLb.2 : qG none _ 259 0 [(2, 95), (0, 0), (0, ((i : Nat) : Int))] [] w2 142 _)) ?_
              rintro _ w6 _ ⟨rfl, hw6, rfl⟩
              rw [hw6, show goB w2 0 i = gz N P M V S S i from (by have q := hrow S i (Nat.le_refl _) (by omega); rw [Nat.sub_self] at q; exact q.trans (F2 S i (Nat.le_refl _) (by omega)))]
              show qG none (d + 1) 261 67 [(2, 95), (0, ((c9 : Nat) : Int)), (0, ((k9 : Nat) : Int)), (0, ((s9 : Nat) : Int)), (0, ((n9 : Nat) : Int)), (0, ((i : Nat) : Int)), (9, 0), (9, 0)] [(0, b01 (gz N P M V S S i))] w2 142 Q9
              refine qG.br (P := b01 (gz N P M V S S i) = 0) (pc1 := 70) (pc2 := 76) (st1 := []) rfl (fun hgo => ?_) (fun hgo => ?_)
              · skip
                refine qG.blk 1 (pc' := 73) (ls' := [(2, 95), (0, ((c9 : Nat) : Int)), (0, ((k9 : Nat) : Int)), (0, ((s9 : Nat) : Int)), (0, ((n9 : Nat) : Int)), (0, wrp (((i : Nat) : Int) + 1)), (9, 0), (9, 0)]) (st' := []) (w' := w2) (n' := 142) rfl ?_
                rw [show wrp (((i : Nat) : Int) + 1) = ((i + 1 : Nat) : Int) from wrp_id (by omega) (by omega)]
                refine qG.blk 1 (pc' := 60) (ls' := [(2, 95), (0, ((c9 : Nat) : Int)), (0, ((k9 : Nat) : Int)), (0, ((s9 : Nat) : Int)), (0, ((n9 : Nat) : Int)), (0, ((i + 1 : Nat) : Int)), (9, 0), (9, 0)]) (st' := []) (w' := w2) (n' := 142) rfl ?_
                exact ih60 _ (by have q : i ≠ e9 := fun z => (by rw [z, he9] at hgo; exact absurd hgo (by decide)); omega) (i + 1) rfl ((by have q : i ≠ e9 := fun z => (by rw [z, he9] at hgo; exact absurd hgo (by decide)); omega))
              · skip
                refine qG.blk 2 (pc' := 79) (ls' := [(2, 95), (0, ((c9 : Nat) : Int)), (0, ((k9 : Nat) : Int)), (0, ((s9 : Nat) : Int)), (0, ((n9 : Nat) : Int)), (0, ((i : Nat) : Int)), (0, 0), (9, 0)]) (st' := []) (w' := w2) (n' := 142) rfl ?_
                have L79 : ∀ (m9 : Nat) (t2 i : Nat) (x7 : qV), n9 - t2 = m9 → (t2 ≤ n9 ∧ wyF N P M V S t2 i) → qG none (d + 1) 261 79 [(2, 95), (0, ((c9 : Nat) : Int)), (0, ((k9 : Nat) : Int)), (0, ((s9 : Nat) : Int)), (0, ((n9 : Nat) : Int)), (0, ((i : Nat) : Int)), (0, ((t2 : Nat) : Int)), x7] [] w2 142 Q9 := by
                  intro m9
                  induction m9 using Nat.strongRecOn with
                  | ind m9 ih79 =>
                  intro t2 i x7 hm79 hI79
                  obtain ⟨ht2, hwy⟩ := hI79
                  have hwg := wyF_g t2 i (by omega) hwy
                  refine qG.blk 2 (pc' := 83) (ls' := [(2, 95), (0, ((c9 : Nat) : Int)), (0, ((k9 : Nat) : Int)), (0, ((s9 : Nat) : Int)), (0, ((n9 : Nat) : Int)), (0, ((i : Nat) : Int)), (0, ((t2 : Nat) : Int)), x7]) (st' := [(0, ((n9 : Nat) : Int)), (0, ((t2 : Nat) : Int))]) (w' := w2) (n' := 142) rfl ?_
                  refine qG.br (P := ((t2 : Nat) : Int) < ((n9 : Nat) : Int)) (pc1 := 86) (pc2 := 169) (st1 := []) rfl (fun htn => ?_) (fun htn => ?_)
                  · skip
                    refine qG.blk 2 (pc' := 89) (ls' := [(2, 95), (0, ((c9 : Nat) : Int)), (0, ((k9 : Nat) : Int)), (0, ((s9 : Nat) : Int)), (0, ((n9 : Nat) : Int)), (0, ((i : Nat) : Int)), (0, ((t2 : Nat) : Int)), (0, 0)]) (st' := []) (w' := w2) (n' := 142) rfl ?_
                    obtain ⟨j9, -, hj9⟩ := wyC_ex (show t2 < S by omega) hwg.2
                    obtain ⟨jb, -, hjb, hjl⟩ := lst_ex j9 hj9
                    have hjb2 := hjb
                    unfold wyC at hjb2
                    rw [Bool.and_eq_true, Bool.and_eq_true, decide_eq_true_eq] at hjb2
                    obtain ⟨kb, hkm, hkj, hkl⟩ := F5 i jb (gd N P M V S t2) hwg.1 hjb2.1 hjb2.2.1 (fun j2 a b => by have q := hjl j2 a; unfold wyC at q; rw [b, decide_eq_true (show j2 < N by omega), Bool.true_and, Bool.true_and] at q; exact q)
                    have hgd := hjb2.2.2
                    unfold gd at hgd
                    rw [Bool.and_eq_true] at hgd
                    have hm2i := hm2 i
                    have L89 : ∀ (m9 : Nat) (q7 : Nat), kb + 1 - q7 = m9 → (q7 ≤ kb) → qG none (d + 1) 261 89 [(2, 95), (0, ((c9 : Nat) : Int)), (0, ((k9 : Nat) : Int)), (0, ((s9 : Nat) : Int)), (0, ((n9 : Nat) : Int)), (0, ((i : Nat) : Int)), (0, ((t2 : Nat) : Int)), (0, ((q7 : Nat) : Int))] [] w2 142 Q9 := by
                      intro m9
                      induction m9 using Nat.strongRecOn with
                      | ind m9 ih89 =>
                      intro q7 hm89 hI89
                      have hnx : nxF wh i q7 < N := nx_lt hdw.2 hS3 hN1 hwg.1 (by omega)
                      refine qG.blk 4 (pc' := 94) (ls' := [(2, 95), (0, ((c9 : Nat) : Int)), (0, ((k9 : Nat) : Int)), (0, ((s9 : Nat) : Int)), (0, ((n9 : Nat) : Int)), (0, ((i : Nat) : Int)), (0, ((t2 : Nat) : Int)), (0, ((q7 : Nat) : Int))]) (st' := [(0, wrp (((t2 : Nat) : Int) + 1)), (2, 95)]) (w' := w2) (n' := 142) rfl ?_
                      rw [show wrp (((t2 : Nat) : Int) + 1) = ((t2 + 1 : Nat) : Int) from by rw [wrp_id (by omega) (by omega)]; omega]
                      refine qG.blk 2 (pc' := 98) (ls' := [(2, 95), (0, ((c9 : Nat) : Int)), (0, ((k9 : Nat) : Int)), (0, ((s9 : Nat) : Int)), (0, ((n9 : Nat) : Int)), (0, ((i : Nat) : Int)), (0, ((t2 : Nat) : Int)), (0, ((q7 : Nat) : Int))]) (st' := [(2, w2 95 7), (0, ((t2 + 1 : Nat) : Int)), (2, 95)]) (w' := w2) (n' := 142) rfl ?_
                      rw [show w2 95 7 = 103 from zref hLb.2 rfl rfl]
                      refine qG.blk 3 (pc' := 103) (ls' := [(2, 95), (0, ((c9 : Nat) : Int)), (0, ((k9 : Nat) : Int)), (0, ((s9 : Nat) : Int)), (0, ((n9 : Nat) : Int)), (0, ((i : Nat) : Int)), (0, ((t2 : Nat) : Int)), (0, ((q7 : Nat) : Int))]) (st' := [(0, wrp (50 * ((i : Nat) : Int))), (2, 103), (0, ((t2 + 1 : Nat) : Int)), (2, 95)]) (w' := w2) (n' := 142) rfl ?_
                      rw [show wrp (50 * ((i : Nat) : Int)) = ((50 * i : Nat) : Int) from by rw [wrp_id (by omega) (by omega)]; omega]
                      refine qG.blk 2 (pc' := 106) (ls' := [(2, 95), (0, ((c9 : Nat) : Int)), (0, ((k9 : Nat) : Int)), (0, ((s9 : Nat) : Int)), (0, ((n9 : Nat) : Int)), (0, ((i : Nat) : Int)), (0, ((t2 : Nat) : Int)), (0, ((q7 : Nat) : Int))]) (st' := [(0, wrp (((50 * i : Nat) : Int) + ((q7 : Nat) : Int))), (2, 103), (0, ((t2 + 1 : Nat) : Int)), (2, 95)]) (w' := w2) (n' := 142) rfl ?_
                      rw [show wrp (((50 * i : Nat) : Int) + ((q7 : Nat) : Int)) = ((50 * i + q7 : Nat) : Int) from by rw [wrp_id (by omega) (by omega)]; omega]
                      refine qG.ild (m := 91000) rfl rfl (by omega) (by decide) ?_
                      show qG none (d + 1) 261 107 [(2, 95), (0, ((c9 : Nat) : Int)), (0, ((k9 : Nat) : Int)), (0, ((s9 : Nat) : Int)), (0, ((n9 : Nat) : Int)), (0, ((i : Nat) : Int)), (0, ((t2 : Nat) : Int)), (0, ((q7 : Nat) : Int))] [(0, w2 103 (50 * i + q7)), (0, ((t2 + 1 : Nat) : Int)), (2, 95)] w2 142 Q9
                      rw [show w2 103 (50 * i + q7) = ((nxF wh i q7 : Nat) : Int) from (hLb.1 103 ((50 * i + q7)) (by decide)).trans (nx_e hdw.2 i q7)]
                      refine qG.call (t := 259) (na := 3) (sk := 1) (md := 1) (ls1 := [(2, 95), (0, ((t2 + 1 : Nat) : Int)), (0, ((nxF wh i q7 : Nat) : Int))]) (r1 := []) rfl rfl rfl rfl rfl (K_isGoing (Nat.zero_le _) (t2 + 1) (nxF wh i q7) (by omega) (by omega) w2 hLb.2) ?_
                      rintro _ w6 _ ⟨rfl, hw6, rfl⟩
                      rw [hw6, show goB w2 (t2 + 1) (nxF wh i q7) = gz N P M V S (S - (t2 + 1)) (nxF wh i q7) from (by have q := hrow (S - (t2 + 1)) (nxF wh i q7) (by omega) hnx; rw [show S - (S - (t2 + 1)) = t2 + 1 by omega] at q; exact q.trans (F2 _ _ (by omega) hnx))]
                      show qG none (d + 1) 261 110 [(2, 95), (0, ((c9 : Nat) : Int)), (0, ((k9 : Nat) : Int)), (0, ((s9 : Nat) : Int)), (0, ((n9 : Nat) : Int)), (0, ((i : Nat) : Int)), (0, ((t2 : Nat) : Int)), (0, ((q7 : Nat) : Int))] [(0, b01 (gz N P M V S (S - (t2 + 1)) (nxF wh i q7)))] w2 142 Q9
                      refine qG.br (P := b01 (gz N P M V S (S - (t2 + 1)) (nxF wh i q7)) = 0) (pc1 := 142) (pc2 := 113) (st1 := []) rfl (fun hgo2 => ?_) (fun hgo2 => ?_)
                      · skip
                        refine qG.blk 1 (pc' := 145) (ls' := [(2, 95), (0, ((c9 : Nat) : Int)), (0, ((k9 : Nat) : Int)), (0, ((s9 : Nat) : Int)), (0, ((n9 : Nat) : Int)), (0, ((i : Nat) : Int)), (0, ((t2 : Nat) : Int)), (0, wrp (((q7 : Nat) : Int) + 1))]) (st' := []) (w' := w2) (n' := 142) rfl ?_
                        rw [show wrp (((q7 : Nat) : Int) + 1) = ((q7 + 1 : Nat) : Int) from wrp_id (by omega) (by omega)]
                        refine qG.blk 1 (pc' := 89) (ls' := [(2, 95), (0, ((c9 : Nat) : Int)), (0, ((k9 : Nat) : Int)), (0, ((s9 : Nat) : Int)), (0, ((n9 : Nat) : Int)), (0, ((i : Nat) : Int)), (0, ((t2 : Nat) : Int)), (0, ((q7 + 1 : Nat) : Int))]) (st' := []) (w' := w2) (n' := 142) rfl ?_
                        exact ih89 _ (by have q : q7 ≠ kb := (by first | exact fun z => (by rw [z, hkj, hgd.1] at hgo2; exact absurd hgo2 (by decide)) | exact fun z => (by rw [z, hkj] at hcl; exact hcl (of_decide_eq_true hgd.2))); omega) (q7 + 1) rfl ((by have q : q7 ≠ kb := (by first | exact fun z => (by rw [z, hkj, hgd.1] at hgo2; exact absurd hgo2 (by decide)) | exact fun z => (by rw [z, hkj] at hcl; exact hcl (of_decide_eq_true hgd.2))); omega))
                      · skip
                        refine qG.blk 2 (pc' := 117) (ls' := [(2, 95), (0, ((c9 : Nat) : Int)), (0, ((k9 : Nat) : Int)), (0, ((s9 : Nat) : Int)), (0, ((n9 : Nat) : Int)), (0, ((i : Nat) : Int)), (0, ((t2 : Nat) : Int)), (0, ((q7 : Nat) : Int))]) (st' := [(2, w2 95 5)]) (w' := w2) (n' := 142) rfl ?_
                        rw [show w2 95 5 = 101 from zref hLb.2 rfl rfl]
                        refine qG.blk 2 (pc' := 121) (ls' := [(2, 95), (0, ((c9 : Nat) : Int)), (0, ((k9 : Nat) : Int)), (0, ((s9 : Nat) : Int)), (0, ((n9 : Nat) : Int)), (0, ((i : Nat) : Int)), (0, ((t2 : Nat) : Int)), (0, ((q7 : Nat) : Int))]) (st' := [(2, w2 95 7), (2, 101)]) (w' := w2) (n' := 142) rfl ?_
                        rw [show w2 95 7 = 103 from zref hLb.2 rfl rfl]
                        refine qG.blk 3 (pc' := 126) (ls' := [(2, 95), (0, ((c9 : Nat) : Int)), (0, ((k9 : Nat) : Int)), (0, ((s9 : Nat) : Int)), (0, ((n9 : Nat) : Int)), (0, ((i : Nat) : Int)), (0, ((t2 : Nat) : Int)), (0, ((q7 : Nat) : Int))]) (st' := [(0, wrp (50 * ((i : Nat) : Int))), (2, 103), (2, 101)]) (w' := w2) (n' := 142) rfl ?_
                        rw [show wrp (50 * ((i : Nat) : Int)) = ((50 * i : Nat) : Int) from by rw [wrp_id (by omega) (by omega)]; omega]
                        refine qG.blk 2 (pc' := 129) (ls' := [(2, 95), (0, ((c9 : Nat) : Int)), (0, ((k9 : Nat) : Int)), (0, ((s9 : Nat) : Int)), (0, ((n9 : Nat) : Int)), (0, ((i : Nat) : Int)), (0, ((t2 : Nat) : Int)), (0, ((q7 : Nat) : Int))]) (st' := [(0, wrp (((50 * i : Nat) : Int) + ((q7 : Nat) : Int))), (2, 103), (2, 101)]) (w' := w2) (n' := 142) rfl ?_
                        rw [show wrp (((50 * i : Nat) : Int) + ((q7 : Nat) : Int)) = ((50 * i + q7 : Nat) : Int) from by rw [wrp_id (by omega) (by omega)]; omega]
                        refine qG.ild (m := 91000) rfl rfl (by omega) (by decide) ?_
                        show qG none (d + 1) 261 130 [(2, 95), (0, ((c9 : Nat) : Int)), (0, ((k9 : Nat) : Int)), (0, ((s9 : Nat) : Int)), (0, ((n9 : Nat) : Int)), (0, ((i : Nat) : Int)), (0, ((t2 : Nat) : Int)), (0, ((q7 : Nat) : Int))] [(0, w2 103 (50 * i + q7)), (2, 101)] w2 142 Q9
                        rw [show w2 103 (50 * i + q7) = ((nxF wh i q7 : Nat) : Int) from (hLb.1 103 ((50 * i + q7)) (by decide)).trans (nx_e hdw.2 i q7)]
                        refine qG.ild (m := 1820) rfl rfl (by omega) (by decide) ?_
                        show qG none (d + 1) 261 131 [(2, 95), (0, ((c9 : Nat) : Int)), (0, ((k9 : Nat) : Int)), (0, ((s9 : Nat) : Int)), (0, ((n9 : Nat) : Int)), (0, ((i : Nat) : Int)), (0, ((t2 : Nat) : Int)), (0, ((q7 : Nat) : Int))] [(0, w2 101 (nxF wh i q7))] w2 142 Q9
                        rw [show w2 101 (nxF wh i q7) = wh 101 (nxF wh i q7) from hLb.1 101 ((nxF wh i q7)) (by decide)]
                        refine qG.blk 2 (pc' := 135) (ls' := [(2, 95), (0, ((c9 : Nat) : Int)), (0, ((k9 : Nat) : Int)), (0, ((s9 : Nat) : Int)), (0, ((n9 : Nat) : Int)), (0, ((i : Nat) : Int)), (0, ((t2 : Nat) : Int)), (0, ((q7 : Nat) : Int))]) (st' := [(2, w2 95 36), (0, wh 101 (nxF wh i q7))]) (w' := w2) (n' := 142) rfl ?_
                        rw [show w2 95 36 = 116 from zref hLb.2 rfl rfl]
                        refine qG.blk 1 (pc' := 137) (ls' := [(2, 95), (0, ((c9 : Nat) : Int)), (0, ((k9 : Nat) : Int)), (0, ((s9 : Nat) : Int)), (0, ((n9 : Nat) : Int)), (0, ((i : Nat) : Int)), (0, ((t2 : Nat) : Int)), (0, ((q7 : Nat) : Int))]) (st' := [(0, ((t2 : Nat) : Int)), (2, 116), (0, wh 101 (nxF wh i q7))]) (w' := w2) (n' := 142) rfl ?_
                        refine qG.ild (m := 900) rfl rfl (by omega) (by decide) ?_
                        show qG none (d + 1) 261 138 [(2, 95), (0, ((c9 : Nat) : Int)), (0, ((k9 : Nat) : Int)), (0, ((s9 : Nat) : Int)), (0, ((n9 : Nat) : Int)), (0, ((i : Nat) : Int)), (0, ((t2 : Nat) : Int)), (0, ((q7 : Nat) : Int))] [(0, w2 116 t2), (0, wh 101 (nxF wh i q7))] w2 142 Q9
                        rw [show w2 116 t2 = wh 116 t2 from hLb.1 116 (t2) (by decide)]
                        refine qG.blk 1 (pc' := 139) (ls' := [(2, 95), (0, ((c9 : Nat) : Int)), (0, ((k9 : Nat) : Int)), (0, ((s9 : Nat) : Int)), (0, ((n9 : Nat) : Int)), (0, ((i : Nat) : Int)), (0, ((t2 : Nat) : Int)), (0, ((q7 : Nat) : Int))]) (st' := [(0, qand (wh 101 (nxF wh i q7)) (wh 116 t2))]) (w' := w2) (n' := 142) rfl ?_
                        have hci : (qand (wh 101 (nxF wh i q7)) (wh 116 t2) = 0) ↔ qand (P (nxF wh i q7)) (V t2) = 0 := by have z := F3 t2 (nxF wh i q7) (by omega) hnx; unfold clF at z; exact decide_eq_decide.mp z
                        refine qG.br (P := qand (wh 101 (nxF wh i q7)) (wh 116 t2) = 0) (pc1 := 148) (pc2 := 142) (st1 := []) rfl (fun hcl => ?_) (fun hcl => ?_)
                        · skip
                          have hcl := hci.mp hcl
                          refine qG.blk 2 (pc' := 152) (ls' := [(2, 95), (0, ((c9 : Nat) : Int)), (0, ((k9 : Nat) : Int)), (0, ((s9 : Nat) : Int)), (0, ((n9 : Nat) : Int)), (0, ((i : Nat) : Int)), (0, ((t2 : Nat) : Int)), (0, ((q7 : Nat) : Int))]) (st' := [(2, w2 95 7)]) (w' := w2) (n' := 142) rfl ?_
                          rw [show w2 95 7 = 103 from zref hLb.2 rfl rfl]
                          refine qG.blk 3 (pc' := 157) (ls' := [(2, 95), (0, ((c9 : Nat) : Int)), (0, ((k9 : Nat) : Int)), (0, ((s9 : Nat) : Int)), (0, ((n9 : Nat) : Int)), (0, ((i : Nat) : Int)), (0, ((t2 : Nat) : Int)), (0, ((q7 : Nat) : Int))]) (st' := [(0, wrp (50 * ((i : Nat) : Int))), (2, 103)]) (w' := w2) (n' := 142) rfl ?_
                          rw [show wrp (50 * ((i : Nat) : Int)) = ((50 * i : Nat) : Int) from by rw [wrp_id (by omega) (by omega)]; omega]
                          refine qG.blk 2 (pc' := 160) (ls' := [(2, 95), (0, ((c9 : Nat) : Int)), (0, ((k9 : Nat) : Int)), (0, ((s9 : Nat) : Int)), (0, ((n9 : Nat) : Int)), (0, ((i : Nat) : Int)), (0, ((t2 : Nat) : Int)), (0, ((q7 : Nat) : Int))]) (st' := [(0, wrp (((50 * i : Nat) : Int) + ((q7 : Nat) : Int))), (2, 103)]) (w' := w2) (n' := 142) rfl ?_
                          rw [show wrp (((50 * i : Nat) : Int) + ((q7 : Nat) : Int)) = ((50 * i + q7 : Nat) : Int) from by rw [wrp_id (by omega) (by omega)]; omega]
                          refine qG.ild (m := 91000) rfl rfl (by omega) (by decide) ?_
                          show qG none (d + 1) 261 161 [(2, 95), (0, ((c9 : Nat) : Int)), (0, ((k9 : Nat) : Int)), (0, ((s9 : Nat) : Int)), (0, ((n9 : Nat) : Int)), (0, ((i : Nat) : Int)), (0, ((t2 : Nat) : Int)), (0, ((q7 : Nat) : Int))] [(0, w2 103 (50 * i + q7))] w2 142 Q9
                          rw [show w2 103 (50 * i + q7) = ((nxF wh i q7 : Nat) : Int) from (hLb.1 103 ((50 * i + q7)) (by decide)).trans (nx_e hdw.2 i q7)]
                          refine qG.blk 2 (pc' := 166) (ls' := [(2, 95), (0, ((c9 : Nat) : Int)), (0, ((k9 : Nat) : Int)), (0, ((s9 : Nat) : Int)), (0, ((n9 : Nat) : Int)), (0, ((nxF wh i q7 : Nat) : Int)), (0, wrp (((t2 : Nat) : Int) + 1)), (0, ((q7 : Nat) : Int))]) (st' := []) (w' := w2) (n' := 142) rfl ?_
                          rw [show wrp (((t2 : Nat) : Int) + 1) = ((t2 + 1 : Nat) : Int) from wrp_id (by omega) (by omega)]
                          refine qG.blk 1 (pc' := 79) (ls' := [(2, 95), (0, ((c9 : Nat) : Int)), (0, ((k9 : Nat) : Int)), (0, ((s9 : Nat) : Int)), (0, ((n9 : Nat) : Int)), (0, ((nxF wh i q7 : Nat) : Int)), (0, ((t2 + 1 : Nat) : Int)), (0, ((q7 : Nat) : Int))]) (st' := []) (w' := w2) (n' := 142) rfl ?_
                          have hkeq : q7 = kb := (by have y : ¬ q7 < kb := (fun z => by have y2 := (hkl q7 z).2; unfold gd at y2; rw [b01_1 hgo2, decide_eq_true hcl] at y2; cases y2); omega)
                          exact ih79 _ (by omega) (t2 + 1) (nxF wh i q7) ((0, ((q7 : Nat) : Int))) rfl (⟨by omega, i, hwy, (by rw [hkeq, hkj]; exact hjb), (by rw [hkeq, hkj]; exact hjl)⟩)
                        · skip
                          have hcl : ¬ qand (P (nxF wh i q7)) (V t2) = 0 := fun z => hcl (hci.mpr z)
                          refine qG.blk 1 (pc' := 145) (ls' := [(2, 95), (0, ((c9 : Nat) : Int)), (0, ((k9 : Nat) : Int)), (0, ((s9 : Nat) : Int)), (0, ((n9 : Nat) : Int)), (0, ((i : Nat) : Int)), (0, ((t2 : Nat) : Int)), (0, wrp (((q7 : Nat) : Int) + 1))]) (st' := []) (w' := w2) (n' := 142) rfl ?_
                          rw [show wrp (((q7 : Nat) : Int) + 1) = ((q7 + 1 : Nat) : Int) from wrp_id (by omega) (by omega)]
                          refine qG.blk 1 (pc' := 89) (ls' := [(2, 95), (0, ((c9 : Nat) : Int)), (0, ((k9 : Nat) : Int)), (0, ((s9 : Nat) : Int)), (0, ((n9 : Nat) : Int)), (0, ((i : Nat) : Int)), (0, ((t2 : Nat) : Int)), (0, ((q7 + 1 : Nat) : Int))]) (st' := []) (w' := w2) (n' := 142) rfl ?_
                          exact ih89 _ (by have q : q7 ≠ kb := (by first | exact fun z => (by rw [z, hkj, hgd.1] at hgo2; exact absurd hgo2 (by decide)) | exact fun z => (by rw [z, hkj] at hcl; exact hcl (of_decide_eq_true hgd.2))); omega) (q7 + 1) rfl ((by have q : q7 ≠ kb := (by first | exact fun z => (by rw [z, hkj, hgd.1] at hgo2; exact absurd hgo2 (by decide)) | exact fun z => (by rw [z, hkj] at hcl; exact hcl (of_decide_eq_true hgd.2))); omega))
                    exact L89 _ (0) rfl (by omega)
                  · skip
                    refine qG.blk 2 (pc' := 173) (ls' := [(2, 95), (0, ((c9 : Nat) : Int)), (0, ((k9 : Nat) : Int)), (0, ((s9 : Nat) : Int)), (0, ((n9 : Nat) : Int)), (0, ((i : Nat) : Int)), (0, ((t2 : Nat) : Int)), x7]) (st' := [(2, w2 95 5)]) (w' := w2) (n' := 142) rfl ?_
                    rw [show w2 95 5 = 101 from zref hLb.2 rfl rfl]
                    refine qG.blk 1 (pc' := 175) (ls' := [(2, 95), (0, ((c9 : Nat) : Int)), (0, ((k9 : Nat) : Int)), (0, ((s9 : Nat) : Int)), (0, ((n9 : Nat) : Int)), (0, ((i : Nat) : Int)), (0, ((t2 : Nat) : Int)), x7]) (st' := [(0, ((i : Nat) : Int)), (2, 101)]) (w' := w2) (n' := 142) rfl ?_
                    refine qG.ild (m := 1820) rfl rfl (by omega) (by decide) ?_
                    show qG none (d + 1) 261 176 [(2, 95), (0, ((c9 : Nat) : Int)), (0, ((k9 : Nat) : Int)), (0, ((s9 : Nat) : Int)), (0, ((n9 : Nat) : Int)), (0, ((i : Nat) : Int)), (0, ((t2 : Nat) : Int)), x7] [(0, w2 101 i)] w2 142 Q9
                    rw [show w2 101 i = wh 101 i from hLb.1 101 (i) (by decide)]
                    refine qG.ret rfl rfl ?_
                    subst hQ9
                    obtain rfl : t2 = n9 := by omega
                    exact ⟨_, rfl, F6 t2 _ (by omega) (.inr ⟨i, hwy, F4 i hwg.1⟩)⟩
                exact L79 _ (0) (i) ((9, 0)) rfl (⟨by omega, b01_1 hgo, fun j hj => hl9 j (by omega)⟩)
            exact L60 _ (0) rfl (by omega)
