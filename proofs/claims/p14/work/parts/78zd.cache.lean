/-! the poses that the class keeps are those of the chest and size asked last (J9); a second set of ranges that carries it along -/
noncomputable def spc (p : Nat) : Bool := Nat.beq p 24 || (Nat.beq p 25 || (Nat.beq p 26 || (Nat.beq p 64 || (Nat.beq p 65 || (Nat.beq p 69 || (Nat.beq p 70 || (Nat.beq p 74 || (Nat.beq p 75 || (Nat.beq p 96 || (Nat.beq p 99))))))))))
noncomputable def zg9 (p j : Nat) : Option yI := bif spc p then none else zgf p j
noncomputable def za9 (p : Nat) : Option yI := bif spc p then none else zga p
noncomputable def zr9 (p j : Nat) : List Int := bif spc p then [] else zra p j
/-- the class's table is that of chest c and size k (sets below s) -/
noncomputable def TMV (s : Nat) (w0 w : qW) (c k : Nat) : Prop := ∀ r j, r < 180 → j < 192 → mb w r j = (decide (r < (fpL w0 c k s).length) && (decide (j < (fpL w0 c k s).length) && mvB w0 c k (((fpL w0 c k s).getD r 0 : Nat) : Int) (((fpL w0 c k s).getD j 0 : Nat) : Int)))
noncomputable def TX (s : Nat) (w : qW) (c k : Nat) : Prop := w 24 3 = (((fpL w c k s).length : Nat) : Int) ∧ (∀ j, j < (fpL w c k s).length → w 25 j = (((fpL w c k s).getD j 0 : Nat) : Int)) ∧ TMV s w w c k
theorem mb_cg {w w1 : qW} (h : ∀ i, w1 26 i = w 26 i) (r j : Nat) : mb w1 r j = mb w r j := by unfold mb; rw [h]
theorem TX.mk {s : Nat} {w w1 : qW} {c k : Nat} (h96 : ∀ i, w1 96 i = w 96 i) (h99 : ∀ i, w1 99 i = w 99 i) (h3 : w1 24 3 = (((fpL w c k s).length : Nat) : Int)) (hj : ∀ j, j < (fpL w c k s).length → w1 25 j = (((fpL w c k s).getD j 0 : Nat) : Int)) (hm : TMV s w w1 c k) : TX s w1 c k := by
  unfold TX
  rw [fpL_cg h96 h99]
  refine ⟨h3, hj, fun r j hr hjj => ?_⟩
  rw [fpL_cg h96 h99, mvB_cg h99]
  exact hm r j hr hjj
noncomputable def XC (n : Nat) (w : qW) : Prop := ∀ c : Nat, c < 3 → (0 ≤ w (64 + 5 * c) 1 ∧ w (64 + 5 * c) 1 ≤ (n : Int)) ∧ (w 24 0 = ((64 + 5 * c : Nat) : Int) → w 24 2 ≤ w (64 + 5 * c) 1 ∧ (w 24 2 = w (64 + 5 * c) 1 → ∀ k : Nat, 1 ≤ k → k ≤ 4 → w 24 1 = (k : Int) → TX 65536 w c k))
/-- works and walls are alike on both sides, the class's table is right (at most n works or walls were told) -/
noncomputable def J9 (n : Nat) (w : qW) : Prop := JK w ∧ JV w ∧ XC n w
theorem spc_c : ∀ c : Nat, c < 3 → spc (64 + 5 * c) = true ∧ spc (65 + 5 * c) = true := by decide
theorem spc_lt {p : Nat} (h : spc p = true) : p < 1000 := by
  refine Decidable.byContradiction (fun hp => ?_)
  have e : ∀ q, q < 1000 → Nat.beq p q = false := fun q hq => by
    cases z : Nat.beq p q
    · rfl
    · have := Nat.eq_of_beq_eq_true z; omega
  unfold spc at h
  rw [e 24 (by decide), e 25 (by decide), e 26 (by decide), e 64 (by decide), e 65 (by decide), e 69 (by decide), e 70 (by decide), e 74 (by decide), e 75 (by decide), e 96 (by decide), e 99 (by decide)] at h
  exact absurd h (by decide)
theorem J9.cg {n : Nat} {w w1 : qW} (h : J9 n w) (e : ∀ p, spc p = true → ∀ j, w1 p j = w p j) : J9 n w1 := by
  obtain ⟨h1, h2, h3⟩ := h
  refine ⟨fun c hc => ?_, h2.cg (fun c k hc => e _ (spc_c c hc).2 k) (e 99 rfl), fun c hc => ?_⟩
  · rw [e _ (spc_c c hc).1, e 96 rfl]; exact h1 c hc
  · obtain ⟨a, b⟩ := h3 c hc
    rw [e _ (spc_c c hc).1, e 24 rfl, e 24 rfl, e 24 rfl]
    refine ⟨a, fun z => ⟨(b z).1, fun z2 k k1 k2 z3 => ?_⟩⟩
    have t := (b z).2 z2 k k1 k2 z3
    exact TX.mk (e 96 rfl) (e 99 rfl) ((e 24 rfl 3).trans t.1) (fun j hj => (e 25 rfl j).trans (t.2.1 j hj)) (fun r j hr hj => (mb_cg (e 26 rfl) r j).trans (t.2.2 r j hr hj))
theorem J9.up {n m : Nat} {w : qW} (h : J9 n w) (hm : n ≤ m) : J9 m w := ⟨h.1, h.2.1, fun c hc => ⟨⟨(h.2.2 c hc).1.1, Int.le_trans (h.2.2 c hc).1.2 (Int.ofNat_le.mpr hm)⟩, (h.2.2 c hc).2⟩⟩
noncomputable def j9m (m : List Nat) : Bool := m.all (fun e => !spc (e % 1000))
theorem j9m_p {m : List Nat} (h : j9m m = true) {p : Nat} (hp : spc p = true) : m.all (fun e => !Nat.beq (e % 1000) p) = true := by
  rw [List.all_eq_true]
  intro e he
  have q := List.all_eq_true.mp h e he
  cases z : Nat.beq (e % 1000) p
  · rfl
  · rw [Nat.eq_of_beq_eq_true z, hp] at q; exact q
theorem J9.aw {n : Nat} {m : List Nat} {w w1 : qW} (h : J9 n w) (a : AW m w w1) (hm : j9m m = true) : J9 n w1 := h.cg (fun p hp j => a.a (spc_lt hp) (j9m_p hm hp) j)
noncomputable def yR9 (w : qW) : Prop := (∀ p j b, spc p = true → zgf p j = some b → yarr p = false → yin b (w p j)) ∧ (∀ p j b, spc p = true → zga p = some b → yarr p = true → yin b (w p j)) ∧ (∀ p j, spc p = true → zra p j ≠ [] → yarr p = false → w p j ∈ zra p j)
noncomputable def zS9 (n : Nat) (w : qW) : Prop := yR9 w ∧ J9 n w
theorem spc_g {p : Nat} (h : spc p = false) (j : Nat) : zg9 p j = zgf p j := by unfold zg9; rw [h]; rfl
theorem spc_a {p : Nat} (h : spc p = false) : za9 p = zga p := by unfold za9; rw [h]; rfl
theorem spc_r {p : Nat} (h : spc p = false) (j : Nat) : zr9 p j = zra p j := by unfold zr9; rw [h]; rfl
theorem spc_gn {p : Nat} (h : spc p = true) (j : Nat) : zg9 p j = none := by unfold zg9; rw [h]; rfl
theorem spc_an {p : Nat} (h : spc p = true) : za9 p = none := by unfold za9; rw [h]; rfl
theorem spc_rn {p : Nat} (h : spc p = true) (j : Nat) : zr9 p j = [] := by unfold zr9; rw [h]; rfl
theorem y9_to {n : Nat} {w : qW} (h : yInv zg9 za9 zr9 (zS9 n) w) : yInv zgf zga zra zSp w ∧ J9 n w := by
  obtain ⟨h1, h2, h3, ⟨r1, r2, r3⟩, hJ⟩ := h
  refine ⟨⟨fun p j b hb hy => ?_, fun p j b hb hy => ?_, fun p j hr hy => ?_, trivial⟩, hJ⟩
  · cases s : spc p
    · exact h1 p j b ((spc_g s j).trans hb) hy
    · exact r1 p j b s hb hy
  · cases s : spc p
    · exact h2 p j b ((spc_a s).trans hb) hy
    · exact r2 p j b s hb hy
  · cases s : spc p
    · have q := h3 p j (by rw [spc_r s j]; exact hr) hy
      rw [spc_r s j] at q; exact q
    · exact r3 p j s hr hy
theorem y9_of {n : Nat} {w : qW} (h : yInv zgf zga zra zSp w) (hJ : J9 n w) : yInv zg9 za9 zr9 (zS9 n) w := by
  obtain ⟨h1, h2, h3, -⟩ := h
  refine ⟨fun p j b hb hy => ?_, fun p j b hb hy => ?_, fun p j hr hy => ?_, ⟨fun p j b _ hb hy => h1 p j b hb hy, fun p j b _ hb hy => h2 p j b hb hy, fun p j _ hr hy => h3 p j hr hy⟩, hJ⟩
  · cases s : spc p
    · exact h1 p j b ((spc_g s j).symm.trans hb) hy
    · rw [spc_gn s j] at hb; cases hb
  · cases s : spc p
    · exact h2 p j b ((spc_a s).symm.trans hb) hy
    · rw [spc_an s] at hb; cases hb
  · cases s : spc p
    · rw [spc_r s j] at hr ⊢
      exact h3 p j hr hy
    · exact absurd (spc_rn s j) hr
theorem zS9_ok {n : Nat} : ∀ (w w' : qW) p, (yarr p = false → (∃ j, zg9 p j ≠ none) ∨ ∃ j, zr9 p j ≠ []) → (yarr p = true → za9 p ≠ none) → (∀ q, q ≠ p → ∀ i, w' q i = w q i) → zS9 n w → zS9 n w' := by
  intro w w' p h1 h2 h3 h
  have hp : spc p = false := by
    cases s : spc p
    · rfl
    · exfalso
      cases y : yarr p
      · rcases h1 y with ⟨j, q⟩ | ⟨j, q⟩
        · exact q (spc_gn s j)
        · exact q (spc_rn s j)
      · exact h2 y (spc_an s)
  have e : ∀ q, spc q = true → ∀ i, w' q i = w q i := fun q hq i => h3 q (fun z => by rw [z, hp] at hq; cases hq) i
  refine ⟨⟨fun q j b s hb hy => ?_, fun q j b s hb hy => ?_, fun q j s hr hy => ?_⟩, h.2.cg e⟩
  · rw [e q s]; exact h.1.1 q j b s hb hy
  · rw [e q s]; exact h.1.2.1 q j b s hb hy
  · rw [e q s]; exact h.1.2.2 q j s hr hy
/-- a contract that leaves these cells alone holds with them too -/
theorem yCOK.t9 {w0 : qW} {t n : Nat} {c : yC} (T : yCOK w0 zgf zga zra zSp zgh t c) (hm : j9m c.2.2.2.1 = true) : yCOK w0 zg9 za9 zr9 (zS9 n) zgh t c := fun d as w hd ha hI hn hp => by
  obtain ⟨h1, hJ⟩ := y9_to hI
  refine qG.mono (T d as w hd ha h1 hn hp) (fun v w' n' hh => ?_)
  obtain ⟨a, b, c9, e, f, g⟩ := hh
  exact ⟨a, y9_of b (hJ.aw ⟨b, e⟩ hm), c9, e, f, g⟩
/-- what findFor leaves -/
noncomputable def FF (c k : Nat) (w w1 : qW) : Prop := w1 24 0 = ((64 + 5 * c : Nat) : Int) ∧ w1 24 1 = (k : Int) ∧ w1 24 2 = w (64 + 5 * c) 1 ∧ TX 65536 w1 c k ∧ ∀ q j, ¬ (q = 24 ∧ j < 4) → q ≠ 25 → q ≠ 26 → w1 q j = w q j
theorem FF.j9 {n c k : Nat} {w w1 : qW} (hc : c < 3) (h : J9 n w) (f : FF c k w w1) : J9 n w1 := by
  obtain ⟨h1, h2, h3⟩ := h
  obtain ⟨f0, f1, f2, ft, fr⟩ := f
  have e : ∀ q j, q ≠ 24 → q ≠ 25 → q ≠ 26 → w1 q j = w q j := fun q j a b d => fr q j (fun z => a z.1) b d
  refine ⟨fun c2 hc2 => ?_, h2.cg (fun c2 j hc2 => e _ j (by omega) (by omega) (by omega)) (fun j => e 99 j (by decide) (by decide) (by decide)), fun c2 hc2 => ?_⟩
  · rw [e _ _ (by omega) (by omega) (by omega), e 96 _ (by decide) (by decide) (by decide)]; exact h1 c2 hc2
  · have e1 : w1 (64 + 5 * c2) 1 = w (64 + 5 * c2) 1 := e _ _ (by omega) (by omega) (by omega)
    rw [e1]
    refine ⟨(h3 c2 hc2).1, fun z => ?_⟩
    rw [f0] at z
    obtain rfl : c2 = c := by omega
    refine ⟨by rw [f2]; exact Int.le_refl _, fun _ k2 _ _ z3 => ?_⟩
    rw [f1] at z3
    obtain rfl : k2 = k := by omega
    exact ft
theorem zup_r {w : qW} (hI : yInv zgf zga zra zSp w) {p j : Nat} {v : Int} {l : List Int} (hg : zgf p j = none) (hr : zra p j = l) (hy : yarr p = false) (hl : l ≠ []) (h : v ∈ l) : yInv zgf zga zra zSp (qup w p j v) := yInv_up zSpt hI (fun _ => ⟨fun b hb => (by rw [hg] at hb; cases hb), fun _ => hr ▸ h, .inr (hr ▸ hl)⟩) (fun z => by rw [hy] at z; cases z)
theorem K_shape64 {d : Nat} (hd : 0 ≤ d) (w : qW) {x : Int} (hx : w 64 1 = x) : qG none d 23 0 [(2, 64)] [] w 142 (fun (r : qV) (w1 : qW) (n1 : Nat) => r = (0, x) ∧ w1 = w ∧ n1 = 142) := by
  generalize hQ9 : (fun (r : qV) (w1 : qW) (n1 : Nat) => r = (0, x) ∧ w1 = w ∧ n1 = 142) = Q9
  refine qG.blk 2 (pc' := 4) (ls' := [(2, 64)]) (st' := [(0, w 64 1)]) (w' := w) (n' := 142) rfl ?_
  rw [show w 64 1 = x from hx]
  refine qG.ret rfl rfl ?_
  subst hQ9
  exact ⟨rfl, rfl, rfl⟩
theorem K_findForE64 {d : Nat} (hd : 7 ≤ d) (k nn mm : Nat) (hk1 : 1 ≤ k) (hk2 : k ≤ 4) (hg : gosC k nn mm = true) (hN : binm 16 k = nn) (hn18 : nn ≤ 1820) (hbud : budH nn mm 180 = true) (hm0 : wrp (qshl 1 ((k : Nat) : Int) - 1) = ((mm : Nat) : Int)) (n : Nat) (w : qW) (hI : yInv zgf zga zra zSp w) (hJ : J9 n w) : qG none d 94 0 [(2, 24), (2, 64), (0, ((k : Nat) : Int))] [] w 142 (fun (r : qV) (w1 : qW) (n1 : Nat) => r = (9, 0) ∧ n1 = 142 ∧ FF 0 k w w1) := by
  generalize hQ9 : (fun (r : qV) (w1 : qW) (n1 : Nat) => r = (9, 0) ∧ n1 = 142 ∧ FF 0 k w w1) = Q9
  obtain ⟨d, rfl⟩ : ∃ d9, d = d9 + 1 := ⟨d - 1, by omega⟩
  have hd9 : 6 + 1 ≤ d + 1 := hd
  refine qG.blk 3 (pc' := 5) (ls' := [(2, 24), (2, 64), (0, ((k : Nat) : Int))]) (st' := [(2, 64), (2, w 24 0)]) (w' := w) (n' := 142) rfl ?_
  refine qG.br (P := w 24 0 = 64) (pc1 := 8) (pc2 := 28) (st1 := []) rfl (fun hc0 => ?_) (fun hc0 => ?_)
  · skip
    refine qG.blk 3 (pc' := 13) (ls' := [(2, 24), (2, 64), (0, ((k : Nat) : Int))]) (st' := [(0, ((k : Nat) : Int)), (0, w 24 1)]) (w' := w) (n' := 142) rfl ?_
    refine qG.br (P := w 24 1 = ((k : Nat) : Int)) (pc1 := 16) (pc2 := 28) (st1 := []) rfl (fun hc1 => ?_) (fun hc1 => ?_)
    · skip
      refine qG.blk 3 (pc' := 21) (ls' := [(2, 24), (2, 64), (0, ((k : Nat) : Int))]) (st' := [(2, 64), (0, w 24 2)]) (w' := w) (n' := 142) rfl ?_
      refine qG.call (t := 23) (na := 1) (sk := 1) (md := 1) (ls1 := [(2, 64)]) (r1 := [(0, w 24 2)]) rfl rfl rfl rfl rfl (K_shape64 (Nat.zero_le _) w (x := w 64 1) (by first | rfl | (simp (disch := decide) only [qup_ne]; done))) ?_
      rintro _ w7 _ ⟨rfl, hw7, rfl⟩
      rw [hw7]
      show qG none (d + 1) 94 24 [(2, 24), (2, 64), (0, ((k : Nat) : Int))] [(0, w 64 1), (0, w 24 2)] w 142 Q9
      refine qG.br (P := w 24 2 = w 64 1) (pc1 := 27) (pc2 := 28) (st1 := []) rfl (fun hc2 => ?_) (fun hc2 => ?_)
      · skip
        refine qG.retv rfl rfl ?_
        subst hQ9
        exact ⟨rfl, rfl, hc0, hc1, hc2, ((hJ.2.2 0 (by decide)).2 hc0).2 hc2 k hk1 hk2 hc1, fun q j _ _ _ => rfl⟩
      · skip
        refine qG.blk 8 (pc' := 40) (ls' := [(2, 24), (2, 64), (0, ((k : Nat) : Int))]) (st' := [(2, 64), (2, 24)]) (w' := (qup (qup w 24 0 64) 24 1 ((k : Nat) : Int))) (n' := 142) rfl ?_
        refine qG.call (t := 23) (na := 1) (sk := 1) (md := 1) (ls1 := [(2, 64)]) (r1 := [(2, 24)]) rfl rfl rfl rfl rfl (K_shape64 (Nat.zero_le _) (qup (qup w 24 0 64) 24 1 ((k : Nat) : Int)) (x := w 64 1) (by first | rfl | (simp (disch := decide) only [qup_ne]; done))) ?_
        rintro _ w7 _ ⟨rfl, hw7, rfl⟩
        rw [hw7]
        show qG none (d + 1) 94 43 [(2, 24), (2, 64), (0, ((k : Nat) : Int))] [(0, w 64 1), (2, 24)] (qup (qup w 24 0 64) 24 1 ((k : Nat) : Int)) 142 Q9
        refine qG.blk 3 (pc' := 48) (ls' := [(2, 24), (2, 64), (0, ((k : Nat) : Int))]) (st' := [(2, 64), (2, 24)]) (w' := (qup (qup (qup w 24 0 64) 24 1 ((k : Nat) : Int)) 24 2 (w 64 1))) (n' := 142) rfl ?_
        have hsh : yin (-2147483648, 2147483647) (w 64 1) := hI.1 64 1 _ rfl rfl
        obtain ⟨wA, hwA⟩ : ∃ q : qW, q = (qup (qup (qup w 24 0 64) 24 1 ((k : Nat) : Int)) 24 2 (w 64 1)) := ⟨_, rfl⟩
        have hIA : yInv zgf zga zra zSp wA := by
          rw [hwA]
          exact zup_f (zup_f (zup_r hI (l := [0, 64, 69, 74]) rfl rfl rfl (by decide) (by decide)) (b := (0, 4)) rfl rfl rfl ⟨by show (0 : Int) ≤ _; omega, by show _ ≤ (4 : Int); omega⟩) (b := (-2147483648, 2147483647)) rfl rfl rfl hsh
        have eA : ∀ q j, q ≠ 24 → wA q j = w q j := fun q j h => by rw [hwA, qup_ne h, qup_ne h, qup_ne h]
        have e0 : wA 24 0 = 64 := by rw [hwA]; simp (disch := decide) only [qup_j, qup_k]
        have e1 : wA 24 1 = ((k : Nat) : Int) := by rw [hwA]; simp (disch := decide) only [qup_j, qup_k]
        have e2 : wA 24 2 = w 64 1 := by rw [hwA, qup_k]
        have e3 : ∀ j, ¬ j < 4 → wA 24 j = w 24 j := fun j h => by rw [hwA, qup_j (by omega), qup_j (by omega), qup_j (by omega)]
        have hRA : ∀ s t, s < 16 → t < 16 → hbit (wA 65 s) t = pasB wA 0 s t := fun s t hs ht => by rw [eA 65 s (by decide), pas_cg (fun i => eA 99 i (by decide))]; exact hJ.2.1.1 0 (by decide) s t hs ht
        rw [← hwA]
        refine qG.call (t := 95) (na := 2) (sk := 1) (md := 1) (ls1 := [(2, 24), (2, 64), (9, 0), (9, 0), (9, 0)]) (r1 := []) rfl rfl rfl rfl rfl (qG.and (T_findSets_64 (w0 := wA) _ [(2, 24), (2, 64)] wA (show C_findSets_64.2.1 ≤ d by exact Nat.le_trans (by decide) (Nat.le_of_add_le_add_right hd9)) ⟨⟨rfl, by decide, by decide⟩, ⟨rfl, by decide, by decide⟩, trivial⟩ hIA (fun p hp => by cases hp) (fun e he => by cases he)) (K_findSets64 (by omega) k nn mm hk2 hg hN hn18 hbud hm0 wA hIA (by rw [eA 64 0 (by decide), eA 96 0 (by decide)]; exact hJ.1 0 (by decide)) e1 hRA)) ?_
        rintro ⟨_, _⟩ w1 _ ⟨⟨-, hI1, -, hM1, -⟩, hr1, rfl, hFS⟩
        obtain ⟨rfl, rfl⟩ := Prod.mk.inj hr1
        show qG none (d + 1) 94 51 [(2, 24), (2, 64), (0, ((k : Nat) : Int))] [] w1 142 Q9
        refine qG.blk 2 (pc' := 53) (ls' := [(2, 24), (2, 64), (0, ((k : Nat) : Int))]) (st' := [(2, 64), (2, 24)]) (w' := w1) (n' := 142) rfl ?_
        refine qG.call (t := 97) (na := 2) (sk := 1) (md := 1) (ls1 := [(2, 24), (2, 64), (9, 0), (9, 0), (9, 0)]) (r1 := []) rfl rfl rfl rfl rfl (qG.and (T_findMoves_64 (w0 := w1) _ [(2, 24), (2, 64)] w1 (show C_findMoves_64.2.1 ≤ d by exact Nat.le_trans (by decide) (Nat.le_of_add_le_add_right hd9)) ⟨⟨rfl, by decide, by decide⟩, ⟨rfl, by decide, by decide⟩, trivial⟩ hI1 (fun p hp => by cases hp) (fun e he => by cases he)) (K_findMv64 (by omega) (fpG wA 0 k mm nn).length (fp_180 hg hN hk2 hbud nn (Nat.le_refl _)) w1 hI1 hFS.1 (fun j => hI1.2.1 25 j _ rfl rfl))) ?_
        rintro ⟨k9, x9⟩ w2 _ ⟨⟨⟨hk9, -⟩, hI2, rfl, hM2, -⟩, -, -, hMV⟩
        obtain rfl : k9 = 9 := hk9
        have hA2 : AW [26] w1 w2 := ⟨hI2, hM2⟩
        show qG none (d + 1) 94 56 [(2, 24), (2, 64), (0, ((k : Nat) : Int))] [] w2 142 Q9
        refine qG.retv rfl rfl ?_
        subst hQ9
        have b26 : ∀ q j, q ≠ 26 → w2 q j = w1 q j := fun q j h => hA2.2 q j (fun _ => by
          show (ymem q [26] || ymem (1000 * (j + 1) + q) [26]) = false
          show ((Nat.beq 26 q || false) || (Nat.beq 26 (1000 * (j + 1) + q) || false)) = false
          have a1 : Nat.beq 26 q = false := by cases z : Nat.beq 26 q; rfl; exact absurd (Nat.eq_of_beq_eq_true z).symm h
          have a2 : Nat.beq 26 (1000 * (j + 1) + q) = false := by cases z : Nat.beq 26 (1000 * (j + 1) + q); rfl; have := Nat.eq_of_beq_eq_true z; omega
          rw [a1, a2]; rfl)
        have eF : ∀ q j, q ≠ 24 → q ≠ 25 → q ≠ 26 → w2 q j = w q j := fun q j a b e => ((b26 q j e).trans (hFS.2.2 q j b (fun z => a z.1))).trans (eA q j a)
        have eG : fpG wA 0 k mm nn = fpL wA 0 k 65536 := (fp_sets (w := wA) (c := 0) hg hN).symm
        refine ⟨rfl, rfl, (b26 24 0 (by decide)).trans ((hFS.2.2 24 0 (by decide) (by decide)).trans e0), (b26 24 1 (by decide)).trans ((hFS.2.2 24 1 (by decide) (by decide)).trans e1), (b26 24 2 (by decide)).trans ((hFS.2.2 24 2 (by decide) (by decide)).trans e2), ?_, fun q j h4 h5 h6 => ?_⟩
        · refine TX.mk (w := wA) (fun i => (eF 96 i (by decide) (by decide) (by decide)).trans (eA 96 i (by decide)).symm) (fun i => (eF 99 i (by decide) (by decide) (by decide)).trans (eA 99 i (by decide)).symm) ?_ (fun j hj => ?_) (fun r j hr hj => ?_)
          · rw [b26 24 3 (by decide), hFS.1, eG]
          · rw [← eG] at hj ⊢; rw [b26 25 j (by decide)]; exact hFS.2.1 j hj
          · rw [hMV.all (Nat.le_refl _) hr hj, ← eG]
            by_cases y1 : r < (fpG wA 0 k mm nn).length
            · by_cases y2 : j < (fpG wA 0 k mm nn).length
              · rw [decide_eq_true y1, decide_eq_true y2, Bool.true_and, Bool.true_and, Bool.true_and, Bool.true_and]
                rw [eG] at y1 y2 ⊢
                exact mvX_eq (fun s t hs ht => by rw [hFS.2.2 65 s (by decide) (fun z => by cases z.1)]; exact hRA s t hs ht) (fun s t hs ht => by rw [pas_cg (fun i => eA 99 i (by decide))]; exact hJ.2.1.2 0 (by decide) s t hs ht) hk1 (fun j hj => by rw [← eG] at hj ⊢; exact hFS.2.1 j hj) y1 y2
              · rw [decide_eq_false y2, Bool.false_and, Bool.false_and]
            · rw [decide_eq_false y1, Bool.false_and, Bool.false_and]
        · by_cases h24 : q = 24
          · subst h24; rw [b26 24 j (by decide), hFS.2.2 24 j (by decide) (fun z => h4 ⟨rfl, by omega⟩), e3 j (fun z => h4 ⟨rfl, z⟩)]
          · exact eF q j h24 h5 h6
    · skip
      refine qG.blk 8 (pc' := 40) (ls' := [(2, 24), (2, 64), (0, ((k : Nat) : Int))]) (st' := [(2, 64), (2, 24)]) (w' := (qup (qup w 24 0 64) 24 1 ((k : Nat) : Int))) (n' := 142) rfl ?_
      refine qG.call (t := 23) (na := 1) (sk := 1) (md := 1) (ls1 := [(2, 64)]) (r1 := [(2, 24)]) rfl rfl rfl rfl rfl (K_shape64 (Nat.zero_le _) (qup (qup w 24 0 64) 24 1 ((k : Nat) : Int)) (x := w 64 1) (by first | rfl | (simp (disch := decide) only [qup_ne]; done))) ?_
      rintro _ w7 _ ⟨rfl, hw7, rfl⟩
      rw [hw7]
      show qG none (d + 1) 94 43 [(2, 24), (2, 64), (0, ((k : Nat) : Int))] [(0, w 64 1), (2, 24)] (qup (qup w 24 0 64) 24 1 ((k : Nat) : Int)) 142 Q9
      refine qG.blk 3 (pc' := 48) (ls' := [(2, 24), (2, 64), (0, ((k : Nat) : Int))]) (st' := [(2, 64), (2, 24)]) (w' := (qup (qup (qup w 24 0 64) 24 1 ((k : Nat) : Int)) 24 2 (w 64 1))) (n' := 142) rfl ?_
      have hsh : yin (-2147483648, 2147483647) (w 64 1) := hI.1 64 1 _ rfl rfl
      obtain ⟨wA, hwA⟩ : ∃ q : qW, q = (qup (qup (qup w 24 0 64) 24 1 ((k : Nat) : Int)) 24 2 (w 64 1)) := ⟨_, rfl⟩
      have hIA : yInv zgf zga zra zSp wA := by
        rw [hwA]
        exact zup_f (zup_f (zup_r hI (l := [0, 64, 69, 74]) rfl rfl rfl (by decide) (by decide)) (b := (0, 4)) rfl rfl rfl ⟨by show (0 : Int) ≤ _; omega, by show _ ≤ (4 : Int); omega⟩) (b := (-2147483648, 2147483647)) rfl rfl rfl hsh
      have eA : ∀ q j, q ≠ 24 → wA q j = w q j := fun q j h => by rw [hwA, qup_ne h, qup_ne h, qup_ne h]
      have e0 : wA 24 0 = 64 := by rw [hwA]; simp (disch := decide) only [qup_j, qup_k]
      have e1 : wA 24 1 = ((k : Nat) : Int) := by rw [hwA]; simp (disch := decide) only [qup_j, qup_k]
      have e2 : wA 24 2 = w 64 1 := by rw [hwA, qup_k]
      have e3 : ∀ j, ¬ j < 4 → wA 24 j = w 24 j := fun j h => by rw [hwA, qup_j (by omega), qup_j (by omega), qup_j (by omega)]
      have hRA : ∀ s t, s < 16 → t < 16 → hbit (wA 65 s) t = pasB wA 0 s t := fun s t hs ht => by rw [eA 65 s (by decide), pas_cg (fun i => eA 99 i (by decide))]; exact hJ.2.1.1 0 (by decide) s t hs ht
      rw [← hwA]
      refine qG.call (t := 95) (na := 2) (sk := 1) (md := 1) (ls1 := [(2, 24), (2, 64), (9, 0), (9, 0), (9, 0)]) (r1 := []) rfl rfl rfl rfl rfl (qG.and (T_findSets_64 (w0 := wA) _ [(2, 24), (2, 64)] wA (show C_findSets_64.2.1 ≤ d by exact Nat.le_trans (by decide) (Nat.le_of_add_le_add_right hd9)) ⟨⟨rfl, by decide, by decide⟩, ⟨rfl, by decide, by decide⟩, trivial⟩ hIA (fun p hp => by cases hp) (fun e he => by cases he)) (K_findSets64 (by omega) k nn mm hk2 hg hN hn18 hbud hm0 wA hIA (by rw [eA 64 0 (by decide), eA 96 0 (by decide)]; exact hJ.1 0 (by decide)) e1 hRA)) ?_
      rintro ⟨_, _⟩ w1 _ ⟨⟨-, hI1, -, hM1, -⟩, hr1, rfl, hFS⟩
      obtain ⟨rfl, rfl⟩ := Prod.mk.inj hr1
      show qG none (d + 1) 94 51 [(2, 24), (2, 64), (0, ((k : Nat) : Int))] [] w1 142 Q9
      refine qG.blk 2 (pc' := 53) (ls' := [(2, 24), (2, 64), (0, ((k : Nat) : Int))]) (st' := [(2, 64), (2, 24)]) (w' := w1) (n' := 142) rfl ?_
      refine qG.call (t := 97) (na := 2) (sk := 1) (md := 1) (ls1 := [(2, 24), (2, 64), (9, 0), (9, 0), (9, 0)]) (r1 := []) rfl rfl rfl rfl rfl (qG.and (T_findMoves_64 (w0 := w1) _ [(2, 24), (2, 64)] w1 (show C_findMoves_64.2.1 ≤ d by exact Nat.le_trans (by decide) (Nat.le_of_add_le_add_right hd9)) ⟨⟨rfl, by decide, by decide⟩, ⟨rfl, by decide, by decide⟩, trivial⟩ hI1 (fun p hp => by cases hp) (fun e he => by cases he)) (K_findMv64 (by omega) (fpG wA 0 k mm nn).length (fp_180 hg hN hk2 hbud nn (Nat.le_refl _)) w1 hI1 hFS.1 (fun j => hI1.2.1 25 j _ rfl rfl))) ?_
      rintro ⟨k9, x9⟩ w2 _ ⟨⟨⟨hk9, -⟩, hI2, rfl, hM2, -⟩, -, -, hMV⟩
      obtain rfl : k9 = 9 := hk9
      have hA2 : AW [26] w1 w2 := ⟨hI2, hM2⟩
      show qG none (d + 1) 94 56 [(2, 24), (2, 64), (0, ((k : Nat) : Int))] [] w2 142 Q9
      refine qG.retv rfl rfl ?_
      subst hQ9
      have b26 : ∀ q j, q ≠ 26 → w2 q j = w1 q j := fun q j h => hA2.2 q j (fun _ => by
        show (ymem q [26] || ymem (1000 * (j + 1) + q) [26]) = false
        show ((Nat.beq 26 q || false) || (Nat.beq 26 (1000 * (j + 1) + q) || false)) = false
        have a1 : Nat.beq 26 q = false := by cases z : Nat.beq 26 q; rfl; exact absurd (Nat.eq_of_beq_eq_true z).symm h
        have a2 : Nat.beq 26 (1000 * (j + 1) + q) = false := by cases z : Nat.beq 26 (1000 * (j + 1) + q); rfl; have := Nat.eq_of_beq_eq_true z; omega
        rw [a1, a2]; rfl)
      have eF : ∀ q j, q ≠ 24 → q ≠ 25 → q ≠ 26 → w2 q j = w q j := fun q j a b e => ((b26 q j e).trans (hFS.2.2 q j b (fun z => a z.1))).trans (eA q j a)
      have eG : fpG wA 0 k mm nn = fpL wA 0 k 65536 := (fp_sets (w := wA) (c := 0) hg hN).symm
      refine ⟨rfl, rfl, (b26 24 0 (by decide)).trans ((hFS.2.2 24 0 (by decide) (by decide)).trans e0), (b26 24 1 (by decide)).trans ((hFS.2.2 24 1 (by decide) (by decide)).trans e1), (b26 24 2 (by decide)).trans ((hFS.2.2 24 2 (by decide) (by decide)).trans e2), ?_, fun q j h4 h5 h6 => ?_⟩
      · refine TX.mk (w := wA) (fun i => (eF 96 i (by decide) (by decide) (by decide)).trans (eA 96 i (by decide)).symm) (fun i => (eF 99 i (by decide) (by decide) (by decide)).trans (eA 99 i (by decide)).symm) ?_ (fun j hj => ?_) (fun r j hr hj => ?_)
        · rw [b26 24 3 (by decide), hFS.1, eG]
        · rw [← eG] at hj ⊢; rw [b26 25 j (by decide)]; exact hFS.2.1 j hj
        · rw [hMV.all (Nat.le_refl _) hr hj, ← eG]
          by_cases y1 : r < (fpG wA 0 k mm nn).length
          · by_cases y2 : j < (fpG wA 0 k mm nn).length
            · rw [decide_eq_true y1, decide_eq_true y2, Bool.true_and, Bool.true_and, Bool.true_and, Bool.true_and]
              rw [eG] at y1 y2 ⊢
              exact mvX_eq (fun s t hs ht => by rw [hFS.2.2 65 s (by decide) (fun z => by cases z.1)]; exact hRA s t hs ht) (fun s t hs ht => by rw [pas_cg (fun i => eA 99 i (by decide))]; exact hJ.2.1.2 0 (by decide) s t hs ht) hk1 (fun j hj => by rw [← eG] at hj ⊢; exact hFS.2.1 j hj) y1 y2
            · rw [decide_eq_false y2, Bool.false_and, Bool.false_and]
          · rw [decide_eq_false y1, Bool.false_and, Bool.false_and]
      · by_cases h24 : q = 24
        · subst h24; rw [b26 24 j (by decide), hFS.2.2 24 j (by decide) (fun z => h4 ⟨rfl, by omega⟩), e3 j (fun z => h4 ⟨rfl, z⟩)]
        · exact eF q j h24 h5 h6
  · skip
    refine qG.blk 8 (pc' := 40) (ls' := [(2, 24), (2, 64), (0, ((k : Nat) : Int))]) (st' := [(2, 64), (2, 24)]) (w' := (qup (qup w 24 0 64) 24 1 ((k : Nat) : Int))) (n' := 142) rfl ?_
    refine qG.call (t := 23) (na := 1) (sk := 1) (md := 1) (ls1 := [(2, 64)]) (r1 := [(2, 24)]) rfl rfl rfl rfl rfl (K_shape64 (Nat.zero_le _) (qup (qup w 24 0 64) 24 1 ((k : Nat) : Int)) (x := w 64 1) (by first | rfl | (simp (disch := decide) only [qup_ne]; done))) ?_
    rintro _ w7 _ ⟨rfl, hw7, rfl⟩
    rw [hw7]
    show qG none (d + 1) 94 43 [(2, 24), (2, 64), (0, ((k : Nat) : Int))] [(0, w 64 1), (2, 24)] (qup (qup w 24 0 64) 24 1 ((k : Nat) : Int)) 142 Q9
    refine qG.blk 3 (pc' := 48) (ls' := [(2, 24), (2, 64), (0, ((k : Nat) : Int))]) (st' := [(2, 64), (2, 24)]) (w' := (qup (qup (qup w 24 0 64) 24 1 ((k : Nat) : Int)) 24 2 (w 64 1))) (n' := 142) rfl ?_
    have hsh : yin (-2147483648, 2147483647) (w 64 1) := hI.1 64 1 _ rfl rfl
    obtain ⟨wA, hwA⟩ : ∃ q : qW, q = (qup (qup (qup w 24 0 64) 24 1 ((k : Nat) : Int)) 24 2 (w 64 1)) := ⟨_, rfl⟩
    have hIA : yInv zgf zga zra zSp wA := by
      rw [hwA]
      exact zup_f (zup_f (zup_r hI (l := [0, 64, 69, 74]) rfl rfl rfl (by decide) (by decide)) (b := (0, 4)) rfl rfl rfl ⟨by show (0 : Int) ≤ _; omega, by show _ ≤ (4 : Int); omega⟩) (b := (-2147483648, 2147483647)) rfl rfl rfl hsh
    have eA : ∀ q j, q ≠ 24 → wA q j = w q j := fun q j h => by rw [hwA, qup_ne h, qup_ne h, qup_ne h]
    have e0 : wA 24 0 = 64 := by rw [hwA]; simp (disch := decide) only [qup_j, qup_k]
    have e1 : wA 24 1 = ((k : Nat) : Int) := by rw [hwA]; simp (disch := decide) only [qup_j, qup_k]
    have e2 : wA 24 2 = w 64 1 := by rw [hwA, qup_k]
    have e3 : ∀ j, ¬ j < 4 → wA 24 j = w 24 j := fun j h => by rw [hwA, qup_j (by omega), qup_j (by omega), qup_j (by omega)]
    have hRA : ∀ s t, s < 16 → t < 16 → hbit (wA 65 s) t = pasB wA 0 s t := fun s t hs ht => by rw [eA 65 s (by decide), pas_cg (fun i => eA 99 i (by decide))]; exact hJ.2.1.1 0 (by decide) s t hs ht
    rw [← hwA]
    refine qG.call (t := 95) (na := 2) (sk := 1) (md := 1) (ls1 := [(2, 24), (2, 64), (9, 0), (9, 0), (9, 0)]) (r1 := []) rfl rfl rfl rfl rfl (qG.and (T_findSets_64 (w0 := wA) _ [(2, 24), (2, 64)] wA (show C_findSets_64.2.1 ≤ d by exact Nat.le_trans (by decide) (Nat.le_of_add_le_add_right hd9)) ⟨⟨rfl, by decide, by decide⟩, ⟨rfl, by decide, by decide⟩, trivial⟩ hIA (fun p hp => by cases hp) (fun e he => by cases he)) (K_findSets64 (by omega) k nn mm hk2 hg hN hn18 hbud hm0 wA hIA (by rw [eA 64 0 (by decide), eA 96 0 (by decide)]; exact hJ.1 0 (by decide)) e1 hRA)) ?_
    rintro ⟨_, _⟩ w1 _ ⟨⟨-, hI1, -, hM1, -⟩, hr1, rfl, hFS⟩
    obtain ⟨rfl, rfl⟩ := Prod.mk.inj hr1
    show qG none (d + 1) 94 51 [(2, 24), (2, 64), (0, ((k : Nat) : Int))] [] w1 142 Q9
    refine qG.blk 2 (pc' := 53) (ls' := [(2, 24), (2, 64), (0, ((k : Nat) : Int))]) (st' := [(2, 64), (2, 24)]) (w' := w1) (n' := 142) rfl ?_
    refine qG.call (t := 97) (na := 2) (sk := 1) (md := 1) (ls1 := [(2, 24), (2, 64), (9, 0), (9, 0), (9, 0)]) (r1 := []) rfl rfl rfl rfl rfl (qG.and (T_findMoves_64 (w0 := w1) _ [(2, 24), (2, 64)] w1 (show C_findMoves_64.2.1 ≤ d by exact Nat.le_trans (by decide) (Nat.le_of_add_le_add_right hd9)) ⟨⟨rfl, by decide, by decide⟩, ⟨rfl, by decide, by decide⟩, trivial⟩ hI1 (fun p hp => by cases hp) (fun e he => by cases he)) (K_findMv64 (by omega) (fpG wA 0 k mm nn).length (fp_180 hg hN hk2 hbud nn (Nat.le_refl _)) w1 hI1 hFS.1 (fun j => hI1.2.1 25 j _ rfl rfl))) ?_
    rintro ⟨k9, x9⟩ w2 _ ⟨⟨⟨hk9, -⟩, hI2, rfl, hM2, -⟩, -, -, hMV⟩
    obtain rfl : k9 = 9 := hk9
    have hA2 : AW [26] w1 w2 := ⟨hI2, hM2⟩
    show qG none (d + 1) 94 56 [(2, 24), (2, 64), (0, ((k : Nat) : Int))] [] w2 142 Q9
    refine qG.retv rfl rfl ?_
    subst hQ9
    have b26 : ∀ q j, q ≠ 26 → w2 q j = w1 q j := fun q j h => hA2.2 q j (fun _ => by
      show (ymem q [26] || ymem (1000 * (j + 1) + q) [26]) = false
      show ((Nat.beq 26 q || false) || (Nat.beq 26 (1000 * (j + 1) + q) || false)) = false
      have a1 : Nat.beq 26 q = false := by cases z : Nat.beq 26 q; rfl; exact absurd (Nat.eq_of_beq_eq_true z).symm h
      have a2 : Nat.beq 26 (1000 * (j + 1) + q) = false := by cases z : Nat.beq 26 (1000 * (j + 1) + q); rfl; have := Nat.eq_of_beq_eq_true z; omega
      rw [a1, a2]; rfl)
    have eF : ∀ q j, q ≠ 24 → q ≠ 25 → q ≠ 26 → w2 q j = w q j := fun q j a b e => ((b26 q j e).trans (hFS.2.2 q j b (fun z => a z.1))).trans (eA q j a)
    have eG : fpG wA 0 k mm nn = fpL wA 0 k 65536 := (fp_sets (w := wA) (c := 0) hg hN).symm
    refine ⟨rfl, rfl, (b26 24 0 (by decide)).trans ((hFS.2.2 24 0 (by decide) (by decide)).trans e0), (b26 24 1 (by decide)).trans ((hFS.2.2 24 1 (by decide) (by decide)).trans e1), (b26 24 2 (by decide)).trans ((hFS.2.2 24 2 (by decide) (by decide)).trans e2), ?_, fun q j h4 h5 h6 => ?_⟩
    · refine TX.mk (w := wA) (fun i => (eF 96 i (by decide) (by decide) (by decide)).trans (eA 96 i (by decide)).symm) (fun i => (eF 99 i (by decide) (by decide) (by decide)).trans (eA 99 i (by decide)).symm) ?_ (fun j hj => ?_) (fun r j hr hj => ?_)
      · rw [b26 24 3 (by decide), hFS.1, eG]
      · rw [← eG] at hj ⊢; rw [b26 25 j (by decide)]; exact hFS.2.1 j hj
      · rw [hMV.all (Nat.le_refl _) hr hj, ← eG]
        by_cases y1 : r < (fpG wA 0 k mm nn).length
        · by_cases y2 : j < (fpG wA 0 k mm nn).length
          · rw [decide_eq_true y1, decide_eq_true y2, Bool.true_and, Bool.true_and, Bool.true_and, Bool.true_and]
            rw [eG] at y1 y2 ⊢
            exact mvX_eq (fun s t hs ht => by rw [hFS.2.2 65 s (by decide) (fun z => by cases z.1)]; exact hRA s t hs ht) (fun s t hs ht => by rw [pas_cg (fun i => eA 99 i (by decide))]; exact hJ.2.1.2 0 (by decide) s t hs ht) hk1 (fun j hj => by rw [← eG] at hj ⊢; exact hFS.2.1 j hj) y1 y2
          · rw [decide_eq_false y2, Bool.false_and, Bool.false_and]
        · rw [decide_eq_false y1, Bool.false_and, Bool.false_and]
    · by_cases h24 : q = 24
      · subst h24; rw [b26 24 j (by decide), hFS.2.2 24 j (by decide) (fun z => h4 ⟨rfl, by omega⟩), e3 j (fun z => h4 ⟨rfl, z⟩)]
      · exact eF q j h24 h5 h6
theorem K_findForC64 {d : Nat} (hd : 7 ≤ d) (k : Nat) (hk1 : 1 ≤ k) (hk2 : k ≤ 4) (n : Nat) (w : qW) (hI : yInv zgf zga zra zSp w) (hJ : J9 n w) : qG none d 94 0 [(2, 24), (2, 64), (0, (k : Int))] [] w 142 (fun (r : qV) (w1 : qW) (n1 : Nat) => r = (9, 0) ∧ n1 = 142 ∧ FF 0 k w w1) := by
  rcases (show k = 1 ∨ k = 2 ∨ k = 3 ∨ k = 4 by omega) with rfl | rfl | rfl | rfl
  · exact K_findForE64 hd 1 16 1 (by decide) (by decide) gos_1 (by decide +kernel) (by decide) bud_1 (by decide) n w hI hJ
  · exact K_findForE64 hd 2 120 3 (by decide) (by decide) gos_2 (by decide +kernel) (by decide) bud_2 (by decide) n w hI hJ
  · exact K_findForE64 hd 3 560 7 (by decide) (by decide) gos_3 (by decide +kernel) (by decide) bud_3 (by decide) n w hI hJ
  · exact K_findForE64 hd 4 1820 15 (by decide) (by decide) gos_4 (by decide +kernel) (by decide) bud_4 (by decide) n w hI hJ
theorem T9_findFor_64 {w0 : qW} {n : Nat} : yCOK w0 zg9 za9 zr9 (zS9 n) zgh C_findFor_64.1 C_findFor_64.2 := fun d as w hd ha hI hn hp => by
  obtain ⟨h1, hJ⟩ := y9_to hI
  match as, ha with
  | [(a1, a2), (b1, b2), (c1, c2)], ha =>
  have ha0 := ha
  obtain ⟨⟨x1, x2, x3⟩, ⟨y1, y2, y3⟩, ⟨z1, z2, z3⟩, -⟩ := ha
  have x1 : a1 = 2 := x1
  have y1 : b1 = 2 := y1
  have z1 : c1 = 0 := z1
  have x2 : (24 : Int) ≤ a2 := x2
  have x3 : a2 ≤ (24 : Int) := x3
  have y2 : (64 : Int) ≤ b2 := y2
  have y3 : b2 ≤ (64 : Int) := y3
  have z2 : (1 : Int) ≤ c2 := z2
  have z3 : c2 ≤ (4 : Int) := z3
  obtain ⟨k, rfl⟩ : ∃ k : Nat, c2 = (k : Int) := ⟨c2.toNat, by omega⟩
  obtain rfl : a2 = 24 := by omega
  obtain rfl : b2 = 64 := by omega
  subst x1 y1 z1
  refine qG.mono (qG.and (T_findFor_64 d _ w hd ha0 h1 hn hp) (K_findForC64 hd k (by omega) (by omega) n w h1 hJ)) (fun v w' n' hh => ?_)
  obtain ⟨⟨a, b, c9, e, f, g⟩, -, -, hF⟩ := hh
  exact ⟨a, y9_of b (FF.j9 (by decide) hJ hF), c9, e, f, g⟩
theorem K_shape69 {d : Nat} (hd : 0 ≤ d) (w : qW) {x : Int} (hx : w 69 1 = x) : qG none d 23 0 [(2, 69)] [] w 142 (fun (r : qV) (w1 : qW) (n1 : Nat) => r = (0, x) ∧ w1 = w ∧ n1 = 142) := by
  generalize hQ9 : (fun (r : qV) (w1 : qW) (n1 : Nat) => r = (0, x) ∧ w1 = w ∧ n1 = 142) = Q9
  refine qG.blk 2 (pc' := 4) (ls' := [(2, 69)]) (st' := [(0, w 69 1)]) (w' := w) (n' := 142) rfl ?_
  rw [show w 69 1 = x from hx]
  refine qG.ret rfl rfl ?_
  subst hQ9
  exact ⟨rfl, rfl, rfl⟩
theorem K_findForE69 {d : Nat} (hd : 7 ≤ d) (k nn mm : Nat) (hk1 : 1 ≤ k) (hk2 : k ≤ 4) (hg : gosC k nn mm = true) (hN : binm 16 k = nn) (hn18 : nn ≤ 1820) (hbud : budH nn mm 180 = true) (hm0 : wrp (qshl 1 ((k : Nat) : Int) - 1) = ((mm : Nat) : Int)) (n : Nat) (w : qW) (hI : yInv zgf zga zra zSp w) (hJ : J9 n w) : qG none d 94 0 [(2, 24), (2, 69), (0, ((k : Nat) : Int))] [] w 142 (fun (r : qV) (w1 : qW) (n1 : Nat) => r = (9, 0) ∧ n1 = 142 ∧ FF 1 k w w1) := by
  generalize hQ9 : (fun (r : qV) (w1 : qW) (n1 : Nat) => r = (9, 0) ∧ n1 = 142 ∧ FF 1 k w w1) = Q9
  obtain ⟨d, rfl⟩ : ∃ d9, d = d9 + 1 := ⟨d - 1, by omega⟩
  have hd9 : 6 + 1 ≤ d + 1 := hd
  refine qG.blk 3 (pc' := 5) (ls' := [(2, 24), (2, 69), (0, ((k : Nat) : Int))]) (st' := [(2, 69), (2, w 24 0)]) (w' := w) (n' := 142) rfl ?_
  refine qG.br (P := w 24 0 = 69) (pc1 := 8) (pc2 := 28) (st1 := []) rfl (fun hc0 => ?_) (fun hc0 => ?_)
  · skip
    refine qG.blk 3 (pc' := 13) (ls' := [(2, 24), (2, 69), (0, ((k : Nat) : Int))]) (st' := [(0, ((k : Nat) : Int)), (0, w 24 1)]) (w' := w) (n' := 142) rfl ?_
    refine qG.br (P := w 24 1 = ((k : Nat) : Int)) (pc1 := 16) (pc2 := 28) (st1 := []) rfl (fun hc1 => ?_) (fun hc1 => ?_)
    · skip
      refine qG.blk 3 (pc' := 21) (ls' := [(2, 24), (2, 69), (0, ((k : Nat) : Int))]) (st' := [(2, 69), (0, w 24 2)]) (w' := w) (n' := 142) rfl ?_
      refine qG.call (t := 23) (na := 1) (sk := 1) (md := 1) (ls1 := [(2, 69)]) (r1 := [(0, w 24 2)]) rfl rfl rfl rfl rfl (K_shape69 (Nat.zero_le _) w (x := w 69 1) (by first | rfl | (simp (disch := decide) only [qup_ne]; done))) ?_
      rintro _ w7 _ ⟨rfl, hw7, rfl⟩
      rw [hw7]
      show qG none (d + 1) 94 24 [(2, 24), (2, 69), (0, ((k : Nat) : Int))] [(0, w 69 1), (0, w 24 2)] w 142 Q9
      refine qG.br (P := w 24 2 = w 69 1) (pc1 := 27) (pc2 := 28) (st1 := []) rfl (fun hc2 => ?_) (fun hc2 => ?_)
      · skip
        refine qG.retv rfl rfl ?_
        subst hQ9
        exact ⟨rfl, rfl, hc0, hc1, hc2, ((hJ.2.2 1 (by decide)).2 hc0).2 hc2 k hk1 hk2 hc1, fun q j _ _ _ => rfl⟩
      · skip
        refine qG.blk 8 (pc' := 40) (ls' := [(2, 24), (2, 69), (0, ((k : Nat) : Int))]) (st' := [(2, 69), (2, 24)]) (w' := (qup (qup w 24 0 69) 24 1 ((k : Nat) : Int))) (n' := 142) rfl ?_
        refine qG.call (t := 23) (na := 1) (sk := 1) (md := 1) (ls1 := [(2, 69)]) (r1 := [(2, 24)]) rfl rfl rfl rfl rfl (K_shape69 (Nat.zero_le _) (qup (qup w 24 0 69) 24 1 ((k : Nat) : Int)) (x := w 69 1) (by first | rfl | (simp (disch := decide) only [qup_ne]; done))) ?_
        rintro _ w7 _ ⟨rfl, hw7, rfl⟩
        rw [hw7]
        show qG none (d + 1) 94 43 [(2, 24), (2, 69), (0, ((k : Nat) : Int))] [(0, w 69 1), (2, 24)] (qup (qup w 24 0 69) 24 1 ((k : Nat) : Int)) 142 Q9
        refine qG.blk 3 (pc' := 48) (ls' := [(2, 24), (2, 69), (0, ((k : Nat) : Int))]) (st' := [(2, 69), (2, 24)]) (w' := (qup (qup (qup w 24 0 69) 24 1 ((k : Nat) : Int)) 24 2 (w 69 1))) (n' := 142) rfl ?_
        have hsh : yin (-2147483648, 2147483647) (w 69 1) := hI.1 69 1 _ rfl rfl
        obtain ⟨wA, hwA⟩ : ∃ q : qW, q = (qup (qup (qup w 24 0 69) 24 1 ((k : Nat) : Int)) 24 2 (w 69 1)) := ⟨_, rfl⟩
        have hIA : yInv zgf zga zra zSp wA := by
          rw [hwA]
          exact zup_f (zup_f (zup_r hI (l := [0, 64, 69, 74]) rfl rfl rfl (by decide) (by decide)) (b := (0, 4)) rfl rfl rfl ⟨by show (0 : Int) ≤ _; omega, by show _ ≤ (4 : Int); omega⟩) (b := (-2147483648, 2147483647)) rfl rfl rfl hsh
        have eA : ∀ q j, q ≠ 24 → wA q j = w q j := fun q j h => by rw [hwA, qup_ne h, qup_ne h, qup_ne h]
        have e0 : wA 24 0 = 69 := by rw [hwA]; simp (disch := decide) only [qup_j, qup_k]
        have e1 : wA 24 1 = ((k : Nat) : Int) := by rw [hwA]; simp (disch := decide) only [qup_j, qup_k]
        have e2 : wA 24 2 = w 69 1 := by rw [hwA, qup_k]
        have e3 : ∀ j, ¬ j < 4 → wA 24 j = w 24 j := fun j h => by rw [hwA, qup_j (by omega), qup_j (by omega), qup_j (by omega)]
        have hRA : ∀ s t, s < 16 → t < 16 → hbit (wA 70 s) t = pasB wA 1 s t := fun s t hs ht => by rw [eA 70 s (by decide), pas_cg (fun i => eA 99 i (by decide))]; exact hJ.2.1.1 1 (by decide) s t hs ht
        rw [← hwA]
        refine qG.call (t := 95) (na := 2) (sk := 1) (md := 1) (ls1 := [(2, 24), (2, 69), (9, 0), (9, 0), (9, 0)]) (r1 := []) rfl rfl rfl rfl rfl (qG.and (T_findSets_69 (w0 := wA) _ [(2, 24), (2, 69)] wA (show C_findSets_69.2.1 ≤ d by exact Nat.le_trans (by decide) (Nat.le_of_add_le_add_right hd9)) ⟨⟨rfl, by decide, by decide⟩, ⟨rfl, by decide, by decide⟩, trivial⟩ hIA (fun p hp => by cases hp) (fun e he => by cases he)) (K_findSets69 (by omega) k nn mm hk2 hg hN hn18 hbud hm0 wA hIA (by rw [eA 69 0 (by decide), eA 96 1 (by decide)]; exact hJ.1 1 (by decide)) e1 hRA)) ?_
        rintro ⟨_, _⟩ w1 _ ⟨⟨-, hI1, -, hM1, -⟩, hr1, rfl, hFS⟩
        obtain ⟨rfl, rfl⟩ := Prod.mk.inj hr1
        show qG none (d + 1) 94 51 [(2, 24), (2, 69), (0, ((k : Nat) : Int))] [] w1 142 Q9
        refine qG.blk 2 (pc' := 53) (ls' := [(2, 24), (2, 69), (0, ((k : Nat) : Int))]) (st' := [(2, 69), (2, 24)]) (w' := w1) (n' := 142) rfl ?_
        refine qG.call (t := 97) (na := 2) (sk := 1) (md := 1) (ls1 := [(2, 24), (2, 69), (9, 0), (9, 0), (9, 0)]) (r1 := []) rfl rfl rfl rfl rfl (qG.and (T_findMoves_69 (w0 := w1) _ [(2, 24), (2, 69)] w1 (show C_findMoves_69.2.1 ≤ d by exact Nat.le_trans (by decide) (Nat.le_of_add_le_add_right hd9)) ⟨⟨rfl, by decide, by decide⟩, ⟨rfl, by decide, by decide⟩, trivial⟩ hI1 (fun p hp => by cases hp) (fun e he => by cases he)) (K_findMv69 (by omega) (fpG wA 1 k mm nn).length (fp_180 hg hN hk2 hbud nn (Nat.le_refl _)) w1 hI1 hFS.1 (fun j => hI1.2.1 25 j _ rfl rfl))) ?_
        rintro ⟨k9, x9⟩ w2 _ ⟨⟨⟨hk9, -⟩, hI2, rfl, hM2, -⟩, -, -, hMV⟩
        obtain rfl : k9 = 9 := hk9
        have hA2 : AW [26] w1 w2 := ⟨hI2, hM2⟩
        show qG none (d + 1) 94 56 [(2, 24), (2, 69), (0, ((k : Nat) : Int))] [] w2 142 Q9
        refine qG.retv rfl rfl ?_
        subst hQ9
        have b26 : ∀ q j, q ≠ 26 → w2 q j = w1 q j := fun q j h => hA2.2 q j (fun _ => by
          show (ymem q [26] || ymem (1000 * (j + 1) + q) [26]) = false
          show ((Nat.beq 26 q || false) || (Nat.beq 26 (1000 * (j + 1) + q) || false)) = false
          have a1 : Nat.beq 26 q = false := by cases z : Nat.beq 26 q; rfl; exact absurd (Nat.eq_of_beq_eq_true z).symm h
          have a2 : Nat.beq 26 (1000 * (j + 1) + q) = false := by cases z : Nat.beq 26 (1000 * (j + 1) + q); rfl; have := Nat.eq_of_beq_eq_true z; omega
          rw [a1, a2]; rfl)
        have eF : ∀ q j, q ≠ 24 → q ≠ 25 → q ≠ 26 → w2 q j = w q j := fun q j a b e => ((b26 q j e).trans (hFS.2.2 q j b (fun z => a z.1))).trans (eA q j a)
        have eG : fpG wA 1 k mm nn = fpL wA 1 k 65536 := (fp_sets (w := wA) (c := 1) hg hN).symm
        refine ⟨rfl, rfl, (b26 24 0 (by decide)).trans ((hFS.2.2 24 0 (by decide) (by decide)).trans e0), (b26 24 1 (by decide)).trans ((hFS.2.2 24 1 (by decide) (by decide)).trans e1), (b26 24 2 (by decide)).trans ((hFS.2.2 24 2 (by decide) (by decide)).trans e2), ?_, fun q j h4 h5 h6 => ?_⟩
        · refine TX.mk (w := wA) (fun i => (eF 96 i (by decide) (by decide) (by decide)).trans (eA 96 i (by decide)).symm) (fun i => (eF 99 i (by decide) (by decide) (by decide)).trans (eA 99 i (by decide)).symm) ?_ (fun j hj => ?_) (fun r j hr hj => ?_)
          · rw [b26 24 3 (by decide), hFS.1, eG]
          · rw [← eG] at hj ⊢; rw [b26 25 j (by decide)]; exact hFS.2.1 j hj
          · rw [hMV.all (Nat.le_refl _) hr hj, ← eG]
            by_cases y1 : r < (fpG wA 1 k mm nn).length
            · by_cases y2 : j < (fpG wA 1 k mm nn).length
              · rw [decide_eq_true y1, decide_eq_true y2, Bool.true_and, Bool.true_and, Bool.true_and, Bool.true_and]
                rw [eG] at y1 y2 ⊢
                exact mvX_eq (fun s t hs ht => by rw [hFS.2.2 70 s (by decide) (fun z => by cases z.1)]; exact hRA s t hs ht) (fun s t hs ht => by rw [pas_cg (fun i => eA 99 i (by decide))]; exact hJ.2.1.2 1 (by decide) s t hs ht) hk1 (fun j hj => by rw [← eG] at hj ⊢; exact hFS.2.1 j hj) y1 y2
              · rw [decide_eq_false y2, Bool.false_and, Bool.false_and]
            · rw [decide_eq_false y1, Bool.false_and, Bool.false_and]
        · by_cases h24 : q = 24
          · subst h24; rw [b26 24 j (by decide), hFS.2.2 24 j (by decide) (fun z => h4 ⟨rfl, by omega⟩), e3 j (fun z => h4 ⟨rfl, z⟩)]
          · exact eF q j h24 h5 h6
    · skip
      refine qG.blk 8 (pc' := 40) (ls' := [(2, 24), (2, 69), (0, ((k : Nat) : Int))]) (st' := [(2, 69), (2, 24)]) (w' := (qup (qup w 24 0 69) 24 1 ((k : Nat) : Int))) (n' := 142) rfl ?_
      refine qG.call (t := 23) (na := 1) (sk := 1) (md := 1) (ls1 := [(2, 69)]) (r1 := [(2, 24)]) rfl rfl rfl rfl rfl (K_shape69 (Nat.zero_le _) (qup (qup w 24 0 69) 24 1 ((k : Nat) : Int)) (x := w 69 1) (by first | rfl | (simp (disch := decide) only [qup_ne]; done))) ?_
      rintro _ w7 _ ⟨rfl, hw7, rfl⟩
      rw [hw7]
      show qG none (d + 1) 94 43 [(2, 24), (2, 69), (0, ((k : Nat) : Int))] [(0, w 69 1), (2, 24)] (qup (qup w 24 0 69) 24 1 ((k : Nat) : Int)) 142 Q9
      refine qG.blk 3 (pc' := 48) (ls' := [(2, 24), (2, 69), (0, ((k : Nat) : Int))]) (st' := [(2, 69), (2, 24)]) (w' := (qup (qup (qup w 24 0 69) 24 1 ((k : Nat) : Int)) 24 2 (w 69 1))) (n' := 142) rfl ?_
      have hsh : yin (-2147483648, 2147483647) (w 69 1) := hI.1 69 1 _ rfl rfl
      obtain ⟨wA, hwA⟩ : ∃ q : qW, q = (qup (qup (qup w 24 0 69) 24 1 ((k : Nat) : Int)) 24 2 (w 69 1)) := ⟨_, rfl⟩
      have hIA : yInv zgf zga zra zSp wA := by
        rw [hwA]
        exact zup_f (zup_f (zup_r hI (l := [0, 64, 69, 74]) rfl rfl rfl (by decide) (by decide)) (b := (0, 4)) rfl rfl rfl ⟨by show (0 : Int) ≤ _; omega, by show _ ≤ (4 : Int); omega⟩) (b := (-2147483648, 2147483647)) rfl rfl rfl hsh
      have eA : ∀ q j, q ≠ 24 → wA q j = w q j := fun q j h => by rw [hwA, qup_ne h, qup_ne h, qup_ne h]
      have e0 : wA 24 0 = 69 := by rw [hwA]; simp (disch := decide) only [qup_j, qup_k]
      have e1 : wA 24 1 = ((k : Nat) : Int) := by rw [hwA]; simp (disch := decide) only [qup_j, qup_k]
      have e2 : wA 24 2 = w 69 1 := by rw [hwA, qup_k]
      have e3 : ∀ j, ¬ j < 4 → wA 24 j = w 24 j := fun j h => by rw [hwA, qup_j (by omega), qup_j (by omega), qup_j (by omega)]
      have hRA : ∀ s t, s < 16 → t < 16 → hbit (wA 70 s) t = pasB wA 1 s t := fun s t hs ht => by rw [eA 70 s (by decide), pas_cg (fun i => eA 99 i (by decide))]; exact hJ.2.1.1 1 (by decide) s t hs ht
      rw [← hwA]
      refine qG.call (t := 95) (na := 2) (sk := 1) (md := 1) (ls1 := [(2, 24), (2, 69), (9, 0), (9, 0), (9, 0)]) (r1 := []) rfl rfl rfl rfl rfl (qG.and (T_findSets_69 (w0 := wA) _ [(2, 24), (2, 69)] wA (show C_findSets_69.2.1 ≤ d by exact Nat.le_trans (by decide) (Nat.le_of_add_le_add_right hd9)) ⟨⟨rfl, by decide, by decide⟩, ⟨rfl, by decide, by decide⟩, trivial⟩ hIA (fun p hp => by cases hp) (fun e he => by cases he)) (K_findSets69 (by omega) k nn mm hk2 hg hN hn18 hbud hm0 wA hIA (by rw [eA 69 0 (by decide), eA 96 1 (by decide)]; exact hJ.1 1 (by decide)) e1 hRA)) ?_
      rintro ⟨_, _⟩ w1 _ ⟨⟨-, hI1, -, hM1, -⟩, hr1, rfl, hFS⟩
      obtain ⟨rfl, rfl⟩ := Prod.mk.inj hr1
      show qG none (d + 1) 94 51 [(2, 24), (2, 69), (0, ((k : Nat) : Int))] [] w1 142 Q9
      refine qG.blk 2 (pc' := 53) (ls' := [(2, 24), (2, 69), (0, ((k : Nat) : Int))]) (st' := [(2, 69), (2, 24)]) (w' := w1) (n' := 142) rfl ?_
      refine qG.call (t := 97) (na := 2) (sk := 1) (md := 1) (ls1 := [(2, 24), (2, 69), (9, 0), (9, 0), (9, 0)]) (r1 := []) rfl rfl rfl rfl rfl (qG.and (T_findMoves_69 (w0 := w1) _ [(2, 24), (2, 69)] w1 (show C_findMoves_69.2.1 ≤ d by exact Nat.le_trans (by decide) (Nat.le_of_add_le_add_right hd9)) ⟨⟨rfl, by decide, by decide⟩, ⟨rfl, by decide, by decide⟩, trivial⟩ hI1 (fun p hp => by cases hp) (fun e he => by cases he)) (K_findMv69 (by omega) (fpG wA 1 k mm nn).length (fp_180 hg hN hk2 hbud nn (Nat.le_refl _)) w1 hI1 hFS.1 (fun j => hI1.2.1 25 j _ rfl rfl))) ?_
      rintro ⟨k9, x9⟩ w2 _ ⟨⟨⟨hk9, -⟩, hI2, rfl, hM2, -⟩, -, -, hMV⟩
      obtain rfl : k9 = 9 := hk9
      have hA2 : AW [26] w1 w2 := ⟨hI2, hM2⟩
      show qG none (d + 1) 94 56 [(2, 24), (2, 69), (0, ((k : Nat) : Int))] [] w2 142 Q9
      refine qG.retv rfl rfl ?_
      subst hQ9
      have b26 : ∀ q j, q ≠ 26 → w2 q j = w1 q j := fun q j h => hA2.2 q j (fun _ => by
        show (ymem q [26] || ymem (1000 * (j + 1) + q) [26]) = false
        show ((Nat.beq 26 q || false) || (Nat.beq 26 (1000 * (j + 1) + q) || false)) = false
        have a1 : Nat.beq 26 q = false := by cases z : Nat.beq 26 q; rfl; exact absurd (Nat.eq_of_beq_eq_true z).symm h
        have a2 : Nat.beq 26 (1000 * (j + 1) + q) = false := by cases z : Nat.beq 26 (1000 * (j + 1) + q); rfl; have := Nat.eq_of_beq_eq_true z; omega
        rw [a1, a2]; rfl)
      have eF : ∀ q j, q ≠ 24 → q ≠ 25 → q ≠ 26 → w2 q j = w q j := fun q j a b e => ((b26 q j e).trans (hFS.2.2 q j b (fun z => a z.1))).trans (eA q j a)
      have eG : fpG wA 1 k mm nn = fpL wA 1 k 65536 := (fp_sets (w := wA) (c := 1) hg hN).symm
      refine ⟨rfl, rfl, (b26 24 0 (by decide)).trans ((hFS.2.2 24 0 (by decide) (by decide)).trans e0), (b26 24 1 (by decide)).trans ((hFS.2.2 24 1 (by decide) (by decide)).trans e1), (b26 24 2 (by decide)).trans ((hFS.2.2 24 2 (by decide) (by decide)).trans e2), ?_, fun q j h4 h5 h6 => ?_⟩
      · refine TX.mk (w := wA) (fun i => (eF 96 i (by decide) (by decide) (by decide)).trans (eA 96 i (by decide)).symm) (fun i => (eF 99 i (by decide) (by decide) (by decide)).trans (eA 99 i (by decide)).symm) ?_ (fun j hj => ?_) (fun r j hr hj => ?_)
        · rw [b26 24 3 (by decide), hFS.1, eG]
        · rw [← eG] at hj ⊢; rw [b26 25 j (by decide)]; exact hFS.2.1 j hj
        · rw [hMV.all (Nat.le_refl _) hr hj, ← eG]
          by_cases y1 : r < (fpG wA 1 k mm nn).length
          · by_cases y2 : j < (fpG wA 1 k mm nn).length
            · rw [decide_eq_true y1, decide_eq_true y2, Bool.true_and, Bool.true_and, Bool.true_and, Bool.true_and]
              rw [eG] at y1 y2 ⊢
              exact mvX_eq (fun s t hs ht => by rw [hFS.2.2 70 s (by decide) (fun z => by cases z.1)]; exact hRA s t hs ht) (fun s t hs ht => by rw [pas_cg (fun i => eA 99 i (by decide))]; exact hJ.2.1.2 1 (by decide) s t hs ht) hk1 (fun j hj => by rw [← eG] at hj ⊢; exact hFS.2.1 j hj) y1 y2
            · rw [decide_eq_false y2, Bool.false_and, Bool.false_and]
          · rw [decide_eq_false y1, Bool.false_and, Bool.false_and]
      · by_cases h24 : q = 24
        · subst h24; rw [b26 24 j (by decide), hFS.2.2 24 j (by decide) (fun z => h4 ⟨rfl, by omega⟩), e3 j (fun z => h4 ⟨rfl, z⟩)]
        · exact eF q j h24 h5 h6
  · skip
    refine qG.blk 8 (pc' := 40) (ls' := [(2, 24), (2, 69), (0, ((k : Nat) : Int))]) (st' := [(2, 69), (2, 24)]) (w' := (qup (qup w 24 0 69) 24 1 ((k : Nat) : Int))) (n' := 142) rfl ?_
    refine qG.call (t := 23) (na := 1) (sk := 1) (md := 1) (ls1 := [(2, 69)]) (r1 := [(2, 24)]) rfl rfl rfl rfl rfl (K_shape69 (Nat.zero_le _) (qup (qup w 24 0 69) 24 1 ((k : Nat) : Int)) (x := w 69 1) (by first | rfl | (simp (disch := decide) only [qup_ne]; done))) ?_
    rintro _ w7 _ ⟨rfl, hw7, rfl⟩
    rw [hw7]
    show qG none (d + 1) 94 43 [(2, 24), (2, 69), (0, ((k : Nat) : Int))] [(0, w 69 1), (2, 24)] (qup (qup w 24 0 69) 24 1 ((k : Nat) : Int)) 142 Q9
    refine qG.blk 3 (pc' := 48) (ls' := [(2, 24), (2, 69), (0, ((k : Nat) : Int))]) (st' := [(2, 69), (2, 24)]) (w' := (qup (qup (qup w 24 0 69) 24 1 ((k : Nat) : Int)) 24 2 (w 69 1))) (n' := 142) rfl ?_
    have hsh : yin (-2147483648, 2147483647) (w 69 1) := hI.1 69 1 _ rfl rfl
    obtain ⟨wA, hwA⟩ : ∃ q : qW, q = (qup (qup (qup w 24 0 69) 24 1 ((k : Nat) : Int)) 24 2 (w 69 1)) := ⟨_, rfl⟩
    have hIA : yInv zgf zga zra zSp wA := by
      rw [hwA]
      exact zup_f (zup_f (zup_r hI (l := [0, 64, 69, 74]) rfl rfl rfl (by decide) (by decide)) (b := (0, 4)) rfl rfl rfl ⟨by show (0 : Int) ≤ _; omega, by show _ ≤ (4 : Int); omega⟩) (b := (-2147483648, 2147483647)) rfl rfl rfl hsh
    have eA : ∀ q j, q ≠ 24 → wA q j = w q j := fun q j h => by rw [hwA, qup_ne h, qup_ne h, qup_ne h]
    have e0 : wA 24 0 = 69 := by rw [hwA]; simp (disch := decide) only [qup_j, qup_k]
    have e1 : wA 24 1 = ((k : Nat) : Int) := by rw [hwA]; simp (disch := decide) only [qup_j, qup_k]
    have e2 : wA 24 2 = w 69 1 := by rw [hwA, qup_k]
    have e3 : ∀ j, ¬ j < 4 → wA 24 j = w 24 j := fun j h => by rw [hwA, qup_j (by omega), qup_j (by omega), qup_j (by omega)]
    have hRA : ∀ s t, s < 16 → t < 16 → hbit (wA 70 s) t = pasB wA 1 s t := fun s t hs ht => by rw [eA 70 s (by decide), pas_cg (fun i => eA 99 i (by decide))]; exact hJ.2.1.1 1 (by decide) s t hs ht
    rw [← hwA]
    refine qG.call (t := 95) (na := 2) (sk := 1) (md := 1) (ls1 := [(2, 24), (2, 69), (9, 0), (9, 0), (9, 0)]) (r1 := []) rfl rfl rfl rfl rfl (qG.and (T_findSets_69 (w0 := wA) _ [(2, 24), (2, 69)] wA (show C_findSets_69.2.1 ≤ d by exact Nat.le_trans (by decide) (Nat.le_of_add_le_add_right hd9)) ⟨⟨rfl, by decide, by decide⟩, ⟨rfl, by decide, by decide⟩, trivial⟩ hIA (fun p hp => by cases hp) (fun e he => by cases he)) (K_findSets69 (by omega) k nn mm hk2 hg hN hn18 hbud hm0 wA hIA (by rw [eA 69 0 (by decide), eA 96 1 (by decide)]; exact hJ.1 1 (by decide)) e1 hRA)) ?_
    rintro ⟨_, _⟩ w1 _ ⟨⟨-, hI1, -, hM1, -⟩, hr1, rfl, hFS⟩
    obtain ⟨rfl, rfl⟩ := Prod.mk.inj hr1
    show qG none (d + 1) 94 51 [(2, 24), (2, 69), (0, ((k : Nat) : Int))] [] w1 142 Q9
    refine qG.blk 2 (pc' := 53) (ls' := [(2, 24), (2, 69), (0, ((k : Nat) : Int))]) (st' := [(2, 69), (2, 24)]) (w' := w1) (n' := 142) rfl ?_
    refine qG.call (t := 97) (na := 2) (sk := 1) (md := 1) (ls1 := [(2, 24), (2, 69), (9, 0), (9, 0), (9, 0)]) (r1 := []) rfl rfl rfl rfl rfl (qG.and (T_findMoves_69 (w0 := w1) _ [(2, 24), (2, 69)] w1 (show C_findMoves_69.2.1 ≤ d by exact Nat.le_trans (by decide) (Nat.le_of_add_le_add_right hd9)) ⟨⟨rfl, by decide, by decide⟩, ⟨rfl, by decide, by decide⟩, trivial⟩ hI1 (fun p hp => by cases hp) (fun e he => by cases he)) (K_findMv69 (by omega) (fpG wA 1 k mm nn).length (fp_180 hg hN hk2 hbud nn (Nat.le_refl _)) w1 hI1 hFS.1 (fun j => hI1.2.1 25 j _ rfl rfl))) ?_
    rintro ⟨k9, x9⟩ w2 _ ⟨⟨⟨hk9, -⟩, hI2, rfl, hM2, -⟩, -, -, hMV⟩
    obtain rfl : k9 = 9 := hk9
    have hA2 : AW [26] w1 w2 := ⟨hI2, hM2⟩
    show qG none (d + 1) 94 56 [(2, 24), (2, 69), (0, ((k : Nat) : Int))] [] w2 142 Q9
    refine qG.retv rfl rfl ?_
    subst hQ9
    have b26 : ∀ q j, q ≠ 26 → w2 q j = w1 q j := fun q j h => hA2.2 q j (fun _ => by
      show (ymem q [26] || ymem (1000 * (j + 1) + q) [26]) = false
      show ((Nat.beq 26 q || false) || (Nat.beq 26 (1000 * (j + 1) + q) || false)) = false
      have a1 : Nat.beq 26 q = false := by cases z : Nat.beq 26 q; rfl; exact absurd (Nat.eq_of_beq_eq_true z).symm h
      have a2 : Nat.beq 26 (1000 * (j + 1) + q) = false := by cases z : Nat.beq 26 (1000 * (j + 1) + q); rfl; have := Nat.eq_of_beq_eq_true z; omega
      rw [a1, a2]; rfl)
    have eF : ∀ q j, q ≠ 24 → q ≠ 25 → q ≠ 26 → w2 q j = w q j := fun q j a b e => ((b26 q j e).trans (hFS.2.2 q j b (fun z => a z.1))).trans (eA q j a)
    have eG : fpG wA 1 k mm nn = fpL wA 1 k 65536 := (fp_sets (w := wA) (c := 1) hg hN).symm
    refine ⟨rfl, rfl, (b26 24 0 (by decide)).trans ((hFS.2.2 24 0 (by decide) (by decide)).trans e0), (b26 24 1 (by decide)).trans ((hFS.2.2 24 1 (by decide) (by decide)).trans e1), (b26 24 2 (by decide)).trans ((hFS.2.2 24 2 (by decide) (by decide)).trans e2), ?_, fun q j h4 h5 h6 => ?_⟩
    · refine TX.mk (w := wA) (fun i => (eF 96 i (by decide) (by decide) (by decide)).trans (eA 96 i (by decide)).symm) (fun i => (eF 99 i (by decide) (by decide) (by decide)).trans (eA 99 i (by decide)).symm) ?_ (fun j hj => ?_) (fun r j hr hj => ?_)
      · rw [b26 24 3 (by decide), hFS.1, eG]
      · rw [← eG] at hj ⊢; rw [b26 25 j (by decide)]; exact hFS.2.1 j hj
      · rw [hMV.all (Nat.le_refl _) hr hj, ← eG]
        by_cases y1 : r < (fpG wA 1 k mm nn).length
        · by_cases y2 : j < (fpG wA 1 k mm nn).length
          · rw [decide_eq_true y1, decide_eq_true y2, Bool.true_and, Bool.true_and, Bool.true_and, Bool.true_and]
            rw [eG] at y1 y2 ⊢
            exact mvX_eq (fun s t hs ht => by rw [hFS.2.2 70 s (by decide) (fun z => by cases z.1)]; exact hRA s t hs ht) (fun s t hs ht => by rw [pas_cg (fun i => eA 99 i (by decide))]; exact hJ.2.1.2 1 (by decide) s t hs ht) hk1 (fun j hj => by rw [← eG] at hj ⊢; exact hFS.2.1 j hj) y1 y2
          · rw [decide_eq_false y2, Bool.false_and, Bool.false_and]
        · rw [decide_eq_false y1, Bool.false_and, Bool.false_and]
    · by_cases h24 : q = 24
      · subst h24; rw [b26 24 j (by decide), hFS.2.2 24 j (by decide) (fun z => h4 ⟨rfl, by omega⟩), e3 j (fun z => h4 ⟨rfl, z⟩)]
      · exact eF q j h24 h5 h6
theorem K_findForC69 {d : Nat} (hd : 7 ≤ d) (k : Nat) (hk1 : 1 ≤ k) (hk2 : k ≤ 4) (n : Nat) (w : qW) (hI : yInv zgf zga zra zSp w) (hJ : J9 n w) : qG none d 94 0 [(2, 24), (2, 69), (0, (k : Int))] [] w 142 (fun (r : qV) (w1 : qW) (n1 : Nat) => r = (9, 0) ∧ n1 = 142 ∧ FF 1 k w w1) := by
  rcases (show k = 1 ∨ k = 2 ∨ k = 3 ∨ k = 4 by omega) with rfl | rfl | rfl | rfl
  · exact K_findForE69 hd 1 16 1 (by decide) (by decide) gos_1 (by decide +kernel) (by decide) bud_1 (by decide) n w hI hJ
  · exact K_findForE69 hd 2 120 3 (by decide) (by decide) gos_2 (by decide +kernel) (by decide) bud_2 (by decide) n w hI hJ
  · exact K_findForE69 hd 3 560 7 (by decide) (by decide) gos_3 (by decide +kernel) (by decide) bud_3 (by decide) n w hI hJ
  · exact K_findForE69 hd 4 1820 15 (by decide) (by decide) gos_4 (by decide +kernel) (by decide) bud_4 (by decide) n w hI hJ
theorem T9_findFor_69 {w0 : qW} {n : Nat} : yCOK w0 zg9 za9 zr9 (zS9 n) zgh C_findFor_69.1 C_findFor_69.2 := fun d as w hd ha hI hn hp => by
  obtain ⟨h1, hJ⟩ := y9_to hI
  match as, ha with
  | [(a1, a2), (b1, b2), (c1, c2)], ha =>
  have ha0 := ha
  obtain ⟨⟨x1, x2, x3⟩, ⟨y1, y2, y3⟩, ⟨z1, z2, z3⟩, -⟩ := ha
  have x1 : a1 = 2 := x1
  have y1 : b1 = 2 := y1
  have z1 : c1 = 0 := z1
  have x2 : (24 : Int) ≤ a2 := x2
  have x3 : a2 ≤ (24 : Int) := x3
  have y2 : (69 : Int) ≤ b2 := y2
  have y3 : b2 ≤ (69 : Int) := y3
  have z2 : (1 : Int) ≤ c2 := z2
  have z3 : c2 ≤ (4 : Int) := z3
  obtain ⟨k, rfl⟩ : ∃ k : Nat, c2 = (k : Int) := ⟨c2.toNat, by omega⟩
  obtain rfl : a2 = 24 := by omega
  obtain rfl : b2 = 69 := by omega
  subst x1 y1 z1
  refine qG.mono (qG.and (T_findFor_69 d _ w hd ha0 h1 hn hp) (K_findForC69 hd k (by omega) (by omega) n w h1 hJ)) (fun v w' n' hh => ?_)
  obtain ⟨⟨a, b, c9, e, f, g⟩, -, -, hF⟩ := hh
  exact ⟨a, y9_of b (FF.j9 (by decide) hJ hF), c9, e, f, g⟩
theorem K_shape74 {d : Nat} (hd : 0 ≤ d) (w : qW) {x : Int} (hx : w 74 1 = x) : qG none d 23 0 [(2, 74)] [] w 142 (fun (r : qV) (w1 : qW) (n1 : Nat) => r = (0, x) ∧ w1 = w ∧ n1 = 142) := by
  generalize hQ9 : (fun (r : qV) (w1 : qW) (n1 : Nat) => r = (0, x) ∧ w1 = w ∧ n1 = 142) = Q9
  refine qG.blk 2 (pc' := 4) (ls' := [(2, 74)]) (st' := [(0, w 74 1)]) (w' := w) (n' := 142) rfl ?_
  rw [show w 74 1 = x from hx]
  refine qG.ret rfl rfl ?_
  subst hQ9
  exact ⟨rfl, rfl, rfl⟩
theorem K_findForE74 {d : Nat} (hd : 7 ≤ d) (k nn mm : Nat) (hk1 : 1 ≤ k) (hk2 : k ≤ 4) (hg : gosC k nn mm = true) (hN : binm 16 k = nn) (hn18 : nn ≤ 1820) (hbud : budH nn mm 180 = true) (hm0 : wrp (qshl 1 ((k : Nat) : Int) - 1) = ((mm : Nat) : Int)) (n : Nat) (w : qW) (hI : yInv zgf zga zra zSp w) (hJ : J9 n w) : qG none d 94 0 [(2, 24), (2, 74), (0, ((k : Nat) : Int))] [] w 142 (fun (r : qV) (w1 : qW) (n1 : Nat) => r = (9, 0) ∧ n1 = 142 ∧ FF 2 k w w1) := by
  generalize hQ9 : (fun (r : qV) (w1 : qW) (n1 : Nat) => r = (9, 0) ∧ n1 = 142 ∧ FF 2 k w w1) = Q9
  obtain ⟨d, rfl⟩ : ∃ d9, d = d9 + 1 := ⟨d - 1, by omega⟩
  have hd9 : 6 + 1 ≤ d + 1 := hd
  refine qG.blk 3 (pc' := 5) (ls' := [(2, 24), (2, 74), (0, ((k : Nat) : Int))]) (st' := [(2, 74), (2, w 24 0)]) (w' := w) (n' := 142) rfl ?_
  refine qG.br (P := w 24 0 = 74) (pc1 := 8) (pc2 := 28) (st1 := []) rfl (fun hc0 => ?_) (fun hc0 => ?_)
  · skip
    refine qG.blk 3 (pc' := 13) (ls' := [(2, 24), (2, 74), (0, ((k : Nat) : Int))]) (st' := [(0, ((k : Nat) : Int)), (0, w 24 1)]) (w' := w) (n' := 142) rfl ?_
    refine qG.br (P := w 24 1 = ((k : Nat) : Int)) (pc1 := 16) (pc2 := 28) (st1 := []) rfl (fun hc1 => ?_) (fun hc1 => ?_)
    · skip
      refine qG.blk 3 (pc' := 21) (ls' := [(2, 24), (2, 74), (0, ((k : Nat) : Int))]) (st' := [(2, 74), (0, w 24 2)]) (w' := w) (n' := 142) rfl ?_
      refine qG.call (t := 23) (na := 1) (sk := 1) (md := 1) (ls1 := [(2, 74)]) (r1 := [(0, w 24 2)]) rfl rfl rfl rfl rfl (K_shape74 (Nat.zero_le _) w (x := w 74 1) (by first | rfl | (simp (disch := decide) only [qup_ne]; done))) ?_
      rintro _ w7 _ ⟨rfl, hw7, rfl⟩
      rw [hw7]
      show qG none (d + 1) 94 24 [(2, 24), (2, 74), (0, ((k : Nat) : Int))] [(0, w 74 1), (0, w 24 2)] w 142 Q9
      refine qG.br (P := w 24 2 = w 74 1) (pc1 := 27) (pc2 := 28) (st1 := []) rfl (fun hc2 => ?_) (fun hc2 => ?_)
      · skip
        refine qG.retv rfl rfl ?_
        subst hQ9
        exact ⟨rfl, rfl, hc0, hc1, hc2, ((hJ.2.2 2 (by decide)).2 hc0).2 hc2 k hk1 hk2 hc1, fun q j _ _ _ => rfl⟩
      · skip
        refine qG.blk 8 (pc' := 40) (ls' := [(2, 24), (2, 74), (0, ((k : Nat) : Int))]) (st' := [(2, 74), (2, 24)]) (w' := (qup (qup w 24 0 74) 24 1 ((k : Nat) : Int))) (n' := 142) rfl ?_
        refine qG.call (t := 23) (na := 1) (sk := 1) (md := 1) (ls1 := [(2, 74)]) (r1 := [(2, 24)]) rfl rfl rfl rfl rfl (K_shape74 (Nat.zero_le _) (qup (qup w 24 0 74) 24 1 ((k : Nat) : Int)) (x := w 74 1) (by first | rfl | (simp (disch := decide) only [qup_ne]; done))) ?_
        rintro _ w7 _ ⟨rfl, hw7, rfl⟩
        rw [hw7]
        show qG none (d + 1) 94 43 [(2, 24), (2, 74), (0, ((k : Nat) : Int))] [(0, w 74 1), (2, 24)] (qup (qup w 24 0 74) 24 1 ((k : Nat) : Int)) 142 Q9
        refine qG.blk 3 (pc' := 48) (ls' := [(2, 24), (2, 74), (0, ((k : Nat) : Int))]) (st' := [(2, 74), (2, 24)]) (w' := (qup (qup (qup w 24 0 74) 24 1 ((k : Nat) : Int)) 24 2 (w 74 1))) (n' := 142) rfl ?_
        have hsh : yin (-2147483648, 2147483647) (w 74 1) := hI.1 74 1 _ rfl rfl
        obtain ⟨wA, hwA⟩ : ∃ q : qW, q = (qup (qup (qup w 24 0 74) 24 1 ((k : Nat) : Int)) 24 2 (w 74 1)) := ⟨_, rfl⟩
        have hIA : yInv zgf zga zra zSp wA := by
          rw [hwA]
          exact zup_f (zup_f (zup_r hI (l := [0, 64, 69, 74]) rfl rfl rfl (by decide) (by decide)) (b := (0, 4)) rfl rfl rfl ⟨by show (0 : Int) ≤ _; omega, by show _ ≤ (4 : Int); omega⟩) (b := (-2147483648, 2147483647)) rfl rfl rfl hsh
        have eA : ∀ q j, q ≠ 24 → wA q j = w q j := fun q j h => by rw [hwA, qup_ne h, qup_ne h, qup_ne h]
        have e0 : wA 24 0 = 74 := by rw [hwA]; simp (disch := decide) only [qup_j, qup_k]
        have e1 : wA 24 1 = ((k : Nat) : Int) := by rw [hwA]; simp (disch := decide) only [qup_j, qup_k]
        have e2 : wA 24 2 = w 74 1 := by rw [hwA, qup_k]
        have e3 : ∀ j, ¬ j < 4 → wA 24 j = w 24 j := fun j h => by rw [hwA, qup_j (by omega), qup_j (by omega), qup_j (by omega)]
        have hRA : ∀ s t, s < 16 → t < 16 → hbit (wA 75 s) t = pasB wA 2 s t := fun s t hs ht => by rw [eA 75 s (by decide), pas_cg (fun i => eA 99 i (by decide))]; exact hJ.2.1.1 2 (by decide) s t hs ht
        rw [← hwA]
        refine qG.call (t := 95) (na := 2) (sk := 1) (md := 1) (ls1 := [(2, 24), (2, 74), (9, 0), (9, 0), (9, 0)]) (r1 := []) rfl rfl rfl rfl rfl (qG.and (T_findSets_74 (w0 := wA) _ [(2, 24), (2, 74)] wA (show C_findSets_74.2.1 ≤ d by exact Nat.le_trans (by decide) (Nat.le_of_add_le_add_right hd9)) ⟨⟨rfl, by decide, by decide⟩, ⟨rfl, by decide, by decide⟩, trivial⟩ hIA (fun p hp => by cases hp) (fun e he => by cases he)) (K_findSets74 (by omega) k nn mm hk2 hg hN hn18 hbud hm0 wA hIA (by rw [eA 74 0 (by decide), eA 96 2 (by decide)]; exact hJ.1 2 (by decide)) e1 hRA)) ?_
        rintro ⟨_, _⟩ w1 _ ⟨⟨-, hI1, -, hM1, -⟩, hr1, rfl, hFS⟩
        obtain ⟨rfl, rfl⟩ := Prod.mk.inj hr1
        show qG none (d + 1) 94 51 [(2, 24), (2, 74), (0, ((k : Nat) : Int))] [] w1 142 Q9
        refine qG.blk 2 (pc' := 53) (ls' := [(2, 24), (2, 74), (0, ((k : Nat) : Int))]) (st' := [(2, 74), (2, 24)]) (w' := w1) (n' := 142) rfl ?_
        refine qG.call (t := 97) (na := 2) (sk := 1) (md := 1) (ls1 := [(2, 24), (2, 74), (9, 0), (9, 0), (9, 0)]) (r1 := []) rfl rfl rfl rfl rfl (qG.and (T_findMoves_74 (w0 := w1) _ [(2, 24), (2, 74)] w1 (show C_findMoves_74.2.1 ≤ d by exact Nat.le_trans (by decide) (Nat.le_of_add_le_add_right hd9)) ⟨⟨rfl, by decide, by decide⟩, ⟨rfl, by decide, by decide⟩, trivial⟩ hI1 (fun p hp => by cases hp) (fun e he => by cases he)) (K_findMv74 (by omega) (fpG wA 2 k mm nn).length (fp_180 hg hN hk2 hbud nn (Nat.le_refl _)) w1 hI1 hFS.1 (fun j => hI1.2.1 25 j _ rfl rfl))) ?_
        rintro ⟨k9, x9⟩ w2 _ ⟨⟨⟨hk9, -⟩, hI2, rfl, hM2, -⟩, -, -, hMV⟩
        obtain rfl : k9 = 9 := hk9
        have hA2 : AW [26] w1 w2 := ⟨hI2, hM2⟩
        show qG none (d + 1) 94 56 [(2, 24), (2, 74), (0, ((k : Nat) : Int))] [] w2 142 Q9
        refine qG.retv rfl rfl ?_
        subst hQ9
        have b26 : ∀ q j, q ≠ 26 → w2 q j = w1 q j := fun q j h => hA2.2 q j (fun _ => by
          show (ymem q [26] || ymem (1000 * (j + 1) + q) [26]) = false
          show ((Nat.beq 26 q || false) || (Nat.beq 26 (1000 * (j + 1) + q) || false)) = false
          have a1 : Nat.beq 26 q = false := by cases z : Nat.beq 26 q; rfl; exact absurd (Nat.eq_of_beq_eq_true z).symm h
          have a2 : Nat.beq 26 (1000 * (j + 1) + q) = false := by cases z : Nat.beq 26 (1000 * (j + 1) + q); rfl; have := Nat.eq_of_beq_eq_true z; omega
          rw [a1, a2]; rfl)
        have eF : ∀ q j, q ≠ 24 → q ≠ 25 → q ≠ 26 → w2 q j = w q j := fun q j a b e => ((b26 q j e).trans (hFS.2.2 q j b (fun z => a z.1))).trans (eA q j a)
        have eG : fpG wA 2 k mm nn = fpL wA 2 k 65536 := (fp_sets (w := wA) (c := 2) hg hN).symm
        refine ⟨rfl, rfl, (b26 24 0 (by decide)).trans ((hFS.2.2 24 0 (by decide) (by decide)).trans e0), (b26 24 1 (by decide)).trans ((hFS.2.2 24 1 (by decide) (by decide)).trans e1), (b26 24 2 (by decide)).trans ((hFS.2.2 24 2 (by decide) (by decide)).trans e2), ?_, fun q j h4 h5 h6 => ?_⟩
        · refine TX.mk (w := wA) (fun i => (eF 96 i (by decide) (by decide) (by decide)).trans (eA 96 i (by decide)).symm) (fun i => (eF 99 i (by decide) (by decide) (by decide)).trans (eA 99 i (by decide)).symm) ?_ (fun j hj => ?_) (fun r j hr hj => ?_)
          · rw [b26 24 3 (by decide), hFS.1, eG]
          · rw [← eG] at hj ⊢; rw [b26 25 j (by decide)]; exact hFS.2.1 j hj
          · rw [hMV.all (Nat.le_refl _) hr hj, ← eG]
            by_cases y1 : r < (fpG wA 2 k mm nn).length
            · by_cases y2 : j < (fpG wA 2 k mm nn).length
              · rw [decide_eq_true y1, decide_eq_true y2, Bool.true_and, Bool.true_and, Bool.true_and, Bool.true_and]
                rw [eG] at y1 y2 ⊢
                exact mvX_eq (fun s t hs ht => by rw [hFS.2.2 75 s (by decide) (fun z => by cases z.1)]; exact hRA s t hs ht) (fun s t hs ht => by rw [pas_cg (fun i => eA 99 i (by decide))]; exact hJ.2.1.2 2 (by decide) s t hs ht) hk1 (fun j hj => by rw [← eG] at hj ⊢; exact hFS.2.1 j hj) y1 y2
              · rw [decide_eq_false y2, Bool.false_and, Bool.false_and]
            · rw [decide_eq_false y1, Bool.false_and, Bool.false_and]
        · by_cases h24 : q = 24
          · subst h24; rw [b26 24 j (by decide), hFS.2.2 24 j (by decide) (fun z => h4 ⟨rfl, by omega⟩), e3 j (fun z => h4 ⟨rfl, z⟩)]
          · exact eF q j h24 h5 h6
    · skip
      refine qG.blk 8 (pc' := 40) (ls' := [(2, 24), (2, 74), (0, ((k : Nat) : Int))]) (st' := [(2, 74), (2, 24)]) (w' := (qup (qup w 24 0 74) 24 1 ((k : Nat) : Int))) (n' := 142) rfl ?_
      refine qG.call (t := 23) (na := 1) (sk := 1) (md := 1) (ls1 := [(2, 74)]) (r1 := [(2, 24)]) rfl rfl rfl rfl rfl (K_shape74 (Nat.zero_le _) (qup (qup w 24 0 74) 24 1 ((k : Nat) : Int)) (x := w 74 1) (by first | rfl | (simp (disch := decide) only [qup_ne]; done))) ?_
      rintro _ w7 _ ⟨rfl, hw7, rfl⟩
      rw [hw7]
      show qG none (d + 1) 94 43 [(2, 24), (2, 74), (0, ((k : Nat) : Int))] [(0, w 74 1), (2, 24)] (qup (qup w 24 0 74) 24 1 ((k : Nat) : Int)) 142 Q9
      refine qG.blk 3 (pc' := 48) (ls' := [(2, 24), (2, 74), (0, ((k : Nat) : Int))]) (st' := [(2, 74), (2, 24)]) (w' := (qup (qup (qup w 24 0 74) 24 1 ((k : Nat) : Int)) 24 2 (w 74 1))) (n' := 142) rfl ?_
      have hsh : yin (-2147483648, 2147483647) (w 74 1) := hI.1 74 1 _ rfl rfl
      obtain ⟨wA, hwA⟩ : ∃ q : qW, q = (qup (qup (qup w 24 0 74) 24 1 ((k : Nat) : Int)) 24 2 (w 74 1)) := ⟨_, rfl⟩
      have hIA : yInv zgf zga zra zSp wA := by
        rw [hwA]
        exact zup_f (zup_f (zup_r hI (l := [0, 64, 69, 74]) rfl rfl rfl (by decide) (by decide)) (b := (0, 4)) rfl rfl rfl ⟨by show (0 : Int) ≤ _; omega, by show _ ≤ (4 : Int); omega⟩) (b := (-2147483648, 2147483647)) rfl rfl rfl hsh
      have eA : ∀ q j, q ≠ 24 → wA q j = w q j := fun q j h => by rw [hwA, qup_ne h, qup_ne h, qup_ne h]
      have e0 : wA 24 0 = 74 := by rw [hwA]; simp (disch := decide) only [qup_j, qup_k]
      have e1 : wA 24 1 = ((k : Nat) : Int) := by rw [hwA]; simp (disch := decide) only [qup_j, qup_k]
      have e2 : wA 24 2 = w 74 1 := by rw [hwA, qup_k]
      have e3 : ∀ j, ¬ j < 4 → wA 24 j = w 24 j := fun j h => by rw [hwA, qup_j (by omega), qup_j (by omega), qup_j (by omega)]
      have hRA : ∀ s t, s < 16 → t < 16 → hbit (wA 75 s) t = pasB wA 2 s t := fun s t hs ht => by rw [eA 75 s (by decide), pas_cg (fun i => eA 99 i (by decide))]; exact hJ.2.1.1 2 (by decide) s t hs ht
      rw [← hwA]
      refine qG.call (t := 95) (na := 2) (sk := 1) (md := 1) (ls1 := [(2, 24), (2, 74), (9, 0), (9, 0), (9, 0)]) (r1 := []) rfl rfl rfl rfl rfl (qG.and (T_findSets_74 (w0 := wA) _ [(2, 24), (2, 74)] wA (show C_findSets_74.2.1 ≤ d by exact Nat.le_trans (by decide) (Nat.le_of_add_le_add_right hd9)) ⟨⟨rfl, by decide, by decide⟩, ⟨rfl, by decide, by decide⟩, trivial⟩ hIA (fun p hp => by cases hp) (fun e he => by cases he)) (K_findSets74 (by omega) k nn mm hk2 hg hN hn18 hbud hm0 wA hIA (by rw [eA 74 0 (by decide), eA 96 2 (by decide)]; exact hJ.1 2 (by decide)) e1 hRA)) ?_
      rintro ⟨_, _⟩ w1 _ ⟨⟨-, hI1, -, hM1, -⟩, hr1, rfl, hFS⟩
      obtain ⟨rfl, rfl⟩ := Prod.mk.inj hr1
      show qG none (d + 1) 94 51 [(2, 24), (2, 74), (0, ((k : Nat) : Int))] [] w1 142 Q9
      refine qG.blk 2 (pc' := 53) (ls' := [(2, 24), (2, 74), (0, ((k : Nat) : Int))]) (st' := [(2, 74), (2, 24)]) (w' := w1) (n' := 142) rfl ?_
      refine qG.call (t := 97) (na := 2) (sk := 1) (md := 1) (ls1 := [(2, 24), (2, 74), (9, 0), (9, 0), (9, 0)]) (r1 := []) rfl rfl rfl rfl rfl (qG.and (T_findMoves_74 (w0 := w1) _ [(2, 24), (2, 74)] w1 (show C_findMoves_74.2.1 ≤ d by exact Nat.le_trans (by decide) (Nat.le_of_add_le_add_right hd9)) ⟨⟨rfl, by decide, by decide⟩, ⟨rfl, by decide, by decide⟩, trivial⟩ hI1 (fun p hp => by cases hp) (fun e he => by cases he)) (K_findMv74 (by omega) (fpG wA 2 k mm nn).length (fp_180 hg hN hk2 hbud nn (Nat.le_refl _)) w1 hI1 hFS.1 (fun j => hI1.2.1 25 j _ rfl rfl))) ?_
      rintro ⟨k9, x9⟩ w2 _ ⟨⟨⟨hk9, -⟩, hI2, rfl, hM2, -⟩, -, -, hMV⟩
      obtain rfl : k9 = 9 := hk9
      have hA2 : AW [26] w1 w2 := ⟨hI2, hM2⟩
      show qG none (d + 1) 94 56 [(2, 24), (2, 74), (0, ((k : Nat) : Int))] [] w2 142 Q9
      refine qG.retv rfl rfl ?_
      subst hQ9
      have b26 : ∀ q j, q ≠ 26 → w2 q j = w1 q j := fun q j h => hA2.2 q j (fun _ => by
        show (ymem q [26] || ymem (1000 * (j + 1) + q) [26]) = false
        show ((Nat.beq 26 q || false) || (Nat.beq 26 (1000 * (j + 1) + q) || false)) = false
        have a1 : Nat.beq 26 q = false := by cases z : Nat.beq 26 q; rfl; exact absurd (Nat.eq_of_beq_eq_true z).symm h
        have a2 : Nat.beq 26 (1000 * (j + 1) + q) = false := by cases z : Nat.beq 26 (1000 * (j + 1) + q); rfl; have := Nat.eq_of_beq_eq_true z; omega
        rw [a1, a2]; rfl)
      have eF : ∀ q j, q ≠ 24 → q ≠ 25 → q ≠ 26 → w2 q j = w q j := fun q j a b e => ((b26 q j e).trans (hFS.2.2 q j b (fun z => a z.1))).trans (eA q j a)
      have eG : fpG wA 2 k mm nn = fpL wA 2 k 65536 := (fp_sets (w := wA) (c := 2) hg hN).symm
      refine ⟨rfl, rfl, (b26 24 0 (by decide)).trans ((hFS.2.2 24 0 (by decide) (by decide)).trans e0), (b26 24 1 (by decide)).trans ((hFS.2.2 24 1 (by decide) (by decide)).trans e1), (b26 24 2 (by decide)).trans ((hFS.2.2 24 2 (by decide) (by decide)).trans e2), ?_, fun q j h4 h5 h6 => ?_⟩
      · refine TX.mk (w := wA) (fun i => (eF 96 i (by decide) (by decide) (by decide)).trans (eA 96 i (by decide)).symm) (fun i => (eF 99 i (by decide) (by decide) (by decide)).trans (eA 99 i (by decide)).symm) ?_ (fun j hj => ?_) (fun r j hr hj => ?_)
        · rw [b26 24 3 (by decide), hFS.1, eG]
        · rw [← eG] at hj ⊢; rw [b26 25 j (by decide)]; exact hFS.2.1 j hj
        · rw [hMV.all (Nat.le_refl _) hr hj, ← eG]
          by_cases y1 : r < (fpG wA 2 k mm nn).length
          · by_cases y2 : j < (fpG wA 2 k mm nn).length
            · rw [decide_eq_true y1, decide_eq_true y2, Bool.true_and, Bool.true_and, Bool.true_and, Bool.true_and]
              rw [eG] at y1 y2 ⊢
              exact mvX_eq (fun s t hs ht => by rw [hFS.2.2 75 s (by decide) (fun z => by cases z.1)]; exact hRA s t hs ht) (fun s t hs ht => by rw [pas_cg (fun i => eA 99 i (by decide))]; exact hJ.2.1.2 2 (by decide) s t hs ht) hk1 (fun j hj => by rw [← eG] at hj ⊢; exact hFS.2.1 j hj) y1 y2
            · rw [decide_eq_false y2, Bool.false_and, Bool.false_and]
          · rw [decide_eq_false y1, Bool.false_and, Bool.false_and]
      · by_cases h24 : q = 24
        · subst h24; rw [b26 24 j (by decide), hFS.2.2 24 j (by decide) (fun z => h4 ⟨rfl, by omega⟩), e3 j (fun z => h4 ⟨rfl, z⟩)]
        · exact eF q j h24 h5 h6
  · skip
    refine qG.blk 8 (pc' := 40) (ls' := [(2, 24), (2, 74), (0, ((k : Nat) : Int))]) (st' := [(2, 74), (2, 24)]) (w' := (qup (qup w 24 0 74) 24 1 ((k : Nat) : Int))) (n' := 142) rfl ?_
    refine qG.call (t := 23) (na := 1) (sk := 1) (md := 1) (ls1 := [(2, 74)]) (r1 := [(2, 24)]) rfl rfl rfl rfl rfl (K_shape74 (Nat.zero_le _) (qup (qup w 24 0 74) 24 1 ((k : Nat) : Int)) (x := w 74 1) (by first | rfl | (simp (disch := decide) only [qup_ne]; done))) ?_
    rintro _ w7 _ ⟨rfl, hw7, rfl⟩
    rw [hw7]
    show qG none (d + 1) 94 43 [(2, 24), (2, 74), (0, ((k : Nat) : Int))] [(0, w 74 1), (2, 24)] (qup (qup w 24 0 74) 24 1 ((k : Nat) : Int)) 142 Q9
    refine qG.blk 3 (pc' := 48) (ls' := [(2, 24), (2, 74), (0, ((k : Nat) : Int))]) (st' := [(2, 74), (2, 24)]) (w' := (qup (qup (qup w 24 0 74) 24 1 ((k : Nat) : Int)) 24 2 (w 74 1))) (n' := 142) rfl ?_
    have hsh : yin (-2147483648, 2147483647) (w 74 1) := hI.1 74 1 _ rfl rfl
    obtain ⟨wA, hwA⟩ : ∃ q : qW, q = (qup (qup (qup w 24 0 74) 24 1 ((k : Nat) : Int)) 24 2 (w 74 1)) := ⟨_, rfl⟩
    have hIA : yInv zgf zga zra zSp wA := by
      rw [hwA]
      exact zup_f (zup_f (zup_r hI (l := [0, 64, 69, 74]) rfl rfl rfl (by decide) (by decide)) (b := (0, 4)) rfl rfl rfl ⟨by show (0 : Int) ≤ _; omega, by show _ ≤ (4 : Int); omega⟩) (b := (-2147483648, 2147483647)) rfl rfl rfl hsh
    have eA : ∀ q j, q ≠ 24 → wA q j = w q j := fun q j h => by rw [hwA, qup_ne h, qup_ne h, qup_ne h]
    have e0 : wA 24 0 = 74 := by rw [hwA]; simp (disch := decide) only [qup_j, qup_k]
    have e1 : wA 24 1 = ((k : Nat) : Int) := by rw [hwA]; simp (disch := decide) only [qup_j, qup_k]
    have e2 : wA 24 2 = w 74 1 := by rw [hwA, qup_k]
    have e3 : ∀ j, ¬ j < 4 → wA 24 j = w 24 j := fun j h => by rw [hwA, qup_j (by omega), qup_j (by omega), qup_j (by omega)]
    have hRA : ∀ s t, s < 16 → t < 16 → hbit (wA 75 s) t = pasB wA 2 s t := fun s t hs ht => by rw [eA 75 s (by decide), pas_cg (fun i => eA 99 i (by decide))]; exact hJ.2.1.1 2 (by decide) s t hs ht
    rw [← hwA]
    refine qG.call (t := 95) (na := 2) (sk := 1) (md := 1) (ls1 := [(2, 24), (2, 74), (9, 0), (9, 0), (9, 0)]) (r1 := []) rfl rfl rfl rfl rfl (qG.and (T_findSets_74 (w0 := wA) _ [(2, 24), (2, 74)] wA (show C_findSets_74.2.1 ≤ d by exact Nat.le_trans (by decide) (Nat.le_of_add_le_add_right hd9)) ⟨⟨rfl, by decide, by decide⟩, ⟨rfl, by decide, by decide⟩, trivial⟩ hIA (fun p hp => by cases hp) (fun e he => by cases he)) (K_findSets74 (by omega) k nn mm hk2 hg hN hn18 hbud hm0 wA hIA (by rw [eA 74 0 (by decide), eA 96 2 (by decide)]; exact hJ.1 2 (by decide)) e1 hRA)) ?_
    rintro ⟨_, _⟩ w1 _ ⟨⟨-, hI1, -, hM1, -⟩, hr1, rfl, hFS⟩
    obtain ⟨rfl, rfl⟩ := Prod.mk.inj hr1
    show qG none (d + 1) 94 51 [(2, 24), (2, 74), (0, ((k : Nat) : Int))] [] w1 142 Q9
    refine qG.blk 2 (pc' := 53) (ls' := [(2, 24), (2, 74), (0, ((k : Nat) : Int))]) (st' := [(2, 74), (2, 24)]) (w' := w1) (n' := 142) rfl ?_
    refine qG.call (t := 97) (na := 2) (sk := 1) (md := 1) (ls1 := [(2, 24), (2, 74), (9, 0), (9, 0), (9, 0)]) (r1 := []) rfl rfl rfl rfl rfl (qG.and (T_findMoves_74 (w0 := w1) _ [(2, 24), (2, 74)] w1 (show C_findMoves_74.2.1 ≤ d by exact Nat.le_trans (by decide) (Nat.le_of_add_le_add_right hd9)) ⟨⟨rfl, by decide, by decide⟩, ⟨rfl, by decide, by decide⟩, trivial⟩ hI1 (fun p hp => by cases hp) (fun e he => by cases he)) (K_findMv74 (by omega) (fpG wA 2 k mm nn).length (fp_180 hg hN hk2 hbud nn (Nat.le_refl _)) w1 hI1 hFS.1 (fun j => hI1.2.1 25 j _ rfl rfl))) ?_
    rintro ⟨k9, x9⟩ w2 _ ⟨⟨⟨hk9, -⟩, hI2, rfl, hM2, -⟩, -, -, hMV⟩
    obtain rfl : k9 = 9 := hk9
    have hA2 : AW [26] w1 w2 := ⟨hI2, hM2⟩
    show qG none (d + 1) 94 56 [(2, 24), (2, 74), (0, ((k : Nat) : Int))] [] w2 142 Q9
    refine qG.retv rfl rfl ?_
    subst hQ9
    have b26 : ∀ q j, q ≠ 26 → w2 q j = w1 q j := fun q j h => hA2.2 q j (fun _ => by
      show (ymem q [26] || ymem (1000 * (j + 1) + q) [26]) = false
      show ((Nat.beq 26 q || false) || (Nat.beq 26 (1000 * (j + 1) + q) || false)) = false
      have a1 : Nat.beq 26 q = false := by cases z : Nat.beq 26 q; rfl; exact absurd (Nat.eq_of_beq_eq_true z).symm h
      have a2 : Nat.beq 26 (1000 * (j + 1) + q) = false := by cases z : Nat.beq 26 (1000 * (j + 1) + q); rfl; have := Nat.eq_of_beq_eq_true z; omega
      rw [a1, a2]; rfl)
    have eF : ∀ q j, q ≠ 24 → q ≠ 25 → q ≠ 26 → w2 q j = w q j := fun q j a b e => ((b26 q j e).trans (hFS.2.2 q j b (fun z => a z.1))).trans (eA q j a)
    have eG : fpG wA 2 k mm nn = fpL wA 2 k 65536 := (fp_sets (w := wA) (c := 2) hg hN).symm
    refine ⟨rfl, rfl, (b26 24 0 (by decide)).trans ((hFS.2.2 24 0 (by decide) (by decide)).trans e0), (b26 24 1 (by decide)).trans ((hFS.2.2 24 1 (by decide) (by decide)).trans e1), (b26 24 2 (by decide)).trans ((hFS.2.2 24 2 (by decide) (by decide)).trans e2), ?_, fun q j h4 h5 h6 => ?_⟩
    · refine TX.mk (w := wA) (fun i => (eF 96 i (by decide) (by decide) (by decide)).trans (eA 96 i (by decide)).symm) (fun i => (eF 99 i (by decide) (by decide) (by decide)).trans (eA 99 i (by decide)).symm) ?_ (fun j hj => ?_) (fun r j hr hj => ?_)
      · rw [b26 24 3 (by decide), hFS.1, eG]
      · rw [← eG] at hj ⊢; rw [b26 25 j (by decide)]; exact hFS.2.1 j hj
      · rw [hMV.all (Nat.le_refl _) hr hj, ← eG]
        by_cases y1 : r < (fpG wA 2 k mm nn).length
        · by_cases y2 : j < (fpG wA 2 k mm nn).length
          · rw [decide_eq_true y1, decide_eq_true y2, Bool.true_and, Bool.true_and, Bool.true_and, Bool.true_and]
            rw [eG] at y1 y2 ⊢
            exact mvX_eq (fun s t hs ht => by rw [hFS.2.2 75 s (by decide) (fun z => by cases z.1)]; exact hRA s t hs ht) (fun s t hs ht => by rw [pas_cg (fun i => eA 99 i (by decide))]; exact hJ.2.1.2 2 (by decide) s t hs ht) hk1 (fun j hj => by rw [← eG] at hj ⊢; exact hFS.2.1 j hj) y1 y2
          · rw [decide_eq_false y2, Bool.false_and, Bool.false_and]
        · rw [decide_eq_false y1, Bool.false_and, Bool.false_and]
    · by_cases h24 : q = 24
      · subst h24; rw [b26 24 j (by decide), hFS.2.2 24 j (by decide) (fun z => h4 ⟨rfl, by omega⟩), e3 j (fun z => h4 ⟨rfl, z⟩)]
      · exact eF q j h24 h5 h6
theorem K_findForC74 {d : Nat} (hd : 7 ≤ d) (k : Nat) (hk1 : 1 ≤ k) (hk2 : k ≤ 4) (n : Nat) (w : qW) (hI : yInv zgf zga zra zSp w) (hJ : J9 n w) : qG none d 94 0 [(2, 24), (2, 74), (0, (k : Int))] [] w 142 (fun (r : qV) (w1 : qW) (n1 : Nat) => r = (9, 0) ∧ n1 = 142 ∧ FF 2 k w w1) := by
  rcases (show k = 1 ∨ k = 2 ∨ k = 3 ∨ k = 4 by omega) with rfl | rfl | rfl | rfl
  · exact K_findForE74 hd 1 16 1 (by decide) (by decide) gos_1 (by decide +kernel) (by decide) bud_1 (by decide) n w hI hJ
  · exact K_findForE74 hd 2 120 3 (by decide) (by decide) gos_2 (by decide +kernel) (by decide) bud_2 (by decide) n w hI hJ
  · exact K_findForE74 hd 3 560 7 (by decide) (by decide) gos_3 (by decide +kernel) (by decide) bud_3 (by decide) n w hI hJ
  · exact K_findForE74 hd 4 1820 15 (by decide) (by decide) gos_4 (by decide +kernel) (by decide) bud_4 (by decide) n w hI hJ
theorem T9_findFor_74 {w0 : qW} {n : Nat} : yCOK w0 zg9 za9 zr9 (zS9 n) zgh C_findFor_74.1 C_findFor_74.2 := fun d as w hd ha hI hn hp => by
  obtain ⟨h1, hJ⟩ := y9_to hI
  match as, ha with
  | [(a1, a2), (b1, b2), (c1, c2)], ha =>
  have ha0 := ha
  obtain ⟨⟨x1, x2, x3⟩, ⟨y1, y2, y3⟩, ⟨z1, z2, z3⟩, -⟩ := ha
  have x1 : a1 = 2 := x1
  have y1 : b1 = 2 := y1
  have z1 : c1 = 0 := z1
  have x2 : (24 : Int) ≤ a2 := x2
  have x3 : a2 ≤ (24 : Int) := x3
  have y2 : (74 : Int) ≤ b2 := y2
  have y3 : b2 ≤ (74 : Int) := y3
  have z2 : (1 : Int) ≤ c2 := z2
  have z3 : c2 ≤ (4 : Int) := z3
  obtain ⟨k, rfl⟩ : ∃ k : Nat, c2 = (k : Int) := ⟨c2.toNat, by omega⟩
  obtain rfl : a2 = 24 := by omega
  obtain rfl : b2 = 74 := by omega
  subst x1 y1 z1
  refine qG.mono (qG.and (T_findFor_74 d _ w hd ha0 h1 hn hp) (K_findForC74 hd k (by omega) (by omega) n w h1 hJ)) (fun v w' n' hh => ?_)
  obtain ⟨⟨a, b, c9, e, f, g⟩, -, -, hF⟩ := hh
  exact ⟨a, y9_of b (FF.j9 (by decide) hJ hF), c9, e, f, g⟩
